def rm_L_about : Room := ({ frames := 8, cells := 2, slots := 12, locals := 133 } : Room)
def wp_L_about (V : St) (K : Int32 → St → Prop) (a2 : Int32) (a3 : Int32) : Prop := wp_X4_about V (fun (r1 : Int32) (V2 : St) => vp_in (0 : Int32) 1 ∧ ∀ V3 : St, V3 = up2 V2 93 (0 : Int32).toNatClampNeg r1 → K (0 : Int32) V3) (fun (y5 : Nat) (V4 : St) => (y5 = 1 ∧ K (1 : Int32) V4) ∨ (y5 = 4 ∧ K (2 : Int32) V4)) a2 a3
set_option maxRecDepth 100000 in
set_option maxHeartbeats 4000000 in
theorem c_L_about {l : Launch} {D : va_G} {ad : Nat → Nat} {cy : Nat → ClassId} (hi : inj ad) {V : St} {K : Int32 → St → Prop} {a2 : Int32} {a3 : Int32} : wp_L_about V K a2 a3 → Li l D ad cy yL_about (Cond.codeWith yL_about cL_about 5 (some .int) [(0, 10, 13, 13), (0, 10, 17, 34)] :: WA) rm_L_about 2 12 [.ref (ad 0), .int a2, .int a3, .ref (ad 93)] V K := by
  refine L_i (w := wp_L_about V K a2 a3) (by decide) (Nat.le_of_ble_eq_true rfl) (List.forall_mem_cons.mpr ⟨rfl, (List.forall_mem_cons.mpr ⟨rfl, (List.forall_mem_cons.mpr ⟨rfl, (List.forall_mem_cons.mpr ⟨rfl, (fun _ h => absurd h List.not_mem_nil)⟩)⟩)⟩)⟩) hi ?_
  intro p e s m args below meth c A hC hrt hlk hz htb hct
  show G p l e rm_L_about s m args below meth c 0 0 (vx_MQ below (va_Qi K (Bq D ad cy) A) (XCx D ad cy A (fun _ _ => False)) args s 2 12 A) 5 D ad cy A (wp_L_about V K a2 a3) V 0 [some (.ref (ad 0)), some (.int a2), some (.int a3), some (.ref (ad 93)), none] []
  refine g_aload_n (pc := 0) hC dL_about_0 rfl ?_
  refine g_iconst (pc := 1) hC (0 : Int32) dL_about_1 (by decide) ?_
  refine g_aload_n (pc := 2) hC dL_about_2 rfl ?_
  refine g_iload_n (pc := 3) hC dL_about_3 rfl ?_
  refine g_iload_n (pc := 4) hC dL_about_4 rfl ?_
  refine g_xvi (pc := 5) hC hz (c_X4_about hC.2.2.2.1) mi_X4_about ww_516 ⟨rfl, rfl⟩ ⟨by decide, by decide⟩ (by decide) rfl rfl rfl rfl (Nat.le_of_ble_eq_true rfl) ⟨by decide, by decide⟩ dL_about_5 ?_ (fun r1 V2 => ?_)
  · refine fun y5 V4 hw => ?_
    rcases hw with ⟨rfl, hw⟩ | ⟨rfl, hw⟩
    · refine gx_catch (n := 1) (pc := 5) hC [] ⟨0, 10, 13, 13⟩ [⟨0, 10, 17, 34⟩] (by rw [htb]; rfl) (fun _ h => absurd h List.not_mem_nil) (by decide) (by decide) (hC.mem ww_330) (cast_moved (s := s) (Vm.Alike.refl s.vm) (hz.2.2.2.1 1)) (fun q6 => ?_) hw
      refine g_astore (pc := 13) (L2 := [some (.ref (ad 0)), some (.int a2), some (.int a3), some (.ref (ad 93)), some (.ref q6)]) hC dL_about_13 (by decide) rfl ?_
      refine g_iconst (pc := 15) hC (1 : Int32) dL_about_15 (by decide) ?_
      exact g_xret (by decide) (by decide) (g_iret (pc := 16) hC hrt hlk dL_about_16)
    · refine gx_catch (n := 4) (pc := 5) hC [⟨0, 10, 13, 13⟩] ⟨0, 10, 17, 34⟩ [] (by rw [htb]; rfl) (List.forall_mem_cons.mpr ⟨⟨by decide, by decide, "java/util/NoSuchElementException", hC.mem ww_330, hct 4 (by decide) 1 (by decide) (by decide)⟩, (fun _ h => absurd h List.not_mem_nil)⟩) (by decide) (by decide) (hC.mem ww_515) (cast_moved (s := s) (Vm.Alike.refl s.vm) (hz.2.2.2.1 4)) (fun q7 => ?_) hw
      refine g_astore (pc := 17) (L2 := [some (.ref (ad 0)), some (.int a2), some (.int a3), some (.ref (ad 93)), some (.ref q7)]) hC dL_about_17 (by decide) rfl ?_
      refine g_iconst (pc := 19) hC (2 : Int32) dL_about_19 (by decide) ?_
      exact g_xret (by decide) (by decide) (g_iret (pc := 20) hC hrt hlk dL_about_20)
  · refine g_i2l (pc := 8) hC dL_about_8 ?_
    refine g_last (pc := 9) hC (by decide) rfl dL_about_9 (fun V3 => ?_)
    refine g_goto (pc := 10) (tgt := 21) hC dL_about_10 (by decide) ?_
    refine g_iconst (pc := 21) hC (0 : Int32) dL_about_21 (by decide) ?_
    exact g_xret (by decide) (by decide) (g_iret (pc := 22) hC hrt hlk dL_about_22)
def rm_L_base : Room := ({ frames := 7, cells := 1, slots := 6, locals := 139 } : Room)
def wp_L_base (V : St) (K : Int32 → St → Prop) (a2 : Int32) (a3 : Int32) (a4 : Int32) (a5 : Int32) : Prop := wp_X4_base V (fun (r1 : Int32) (V2 : St) => if r1 = 0 then (vp_in (0 : Int32) 1 ∧ ∀ V3 : St, V3 = up2 V2 93 (0 : Int32).toNatClampNeg (0 : Int32) → K (0 : Int32) V3) else (vp_in (0 : Int32) 1 ∧ ∀ V4 : St, V4 = up2 V2 93 (0 : Int32).toNatClampNeg (1 : Int32) → K (0 : Int32) V4)) (fun (y6 : Nat) (V5 : St) => (y6 = 1 ∧ K (1 : Int32) V5) ∨ (y6 = 2 ∧ K (2 : Int32) V5) ∨ (y6 = 3 ∧ K (3 : Int32) V5)) a2 a3 a4 a5
set_option maxRecDepth 100000 in
set_option maxHeartbeats 4000000 in
theorem c_L_base {l : Launch} {D : va_G} {ad : Nat → Nat} {cy : Nat → ClassId} (hi : inj ad) {V : St} {K : Int32 → St → Prop} {a2 : Int32} {a3 : Int32} {a4 : Int32} {a5 : Int32} : wp_L_base V K a2 a3 a4 a5 → Li l D ad cy yL_base (Cond.codeWith yL_base cL_base 7 (some .int) [(0, 21, 24, 13), (0, 21, 28, 15), (0, 21, 32, 17)] :: WA) rm_L_base 1 6 [.ref (ad 0), .int a2, .int a3, .int a4, .int a5, .ref (ad 93)] V K := by
  refine L_i (w := wp_L_base V K a2 a3 a4 a5) (by decide) (Nat.le_of_ble_eq_true rfl) (List.forall_mem_cons.mpr ⟨rfl, (List.forall_mem_cons.mpr ⟨rfl, (List.forall_mem_cons.mpr ⟨rfl, (List.forall_mem_cons.mpr ⟨rfl, (List.forall_mem_cons.mpr ⟨rfl, (List.forall_mem_cons.mpr ⟨rfl, (fun _ h => absurd h List.not_mem_nil)⟩)⟩)⟩)⟩)⟩)⟩) hi ?_
  intro p e s m args below meth c A hC hrt hlk hz htb hct
  show G p l e rm_L_base s m args below meth c 0 0 (vx_MQ below (va_Qi K (Bq D ad cy) A) (XCx D ad cy A (fun _ _ => False)) args s 1 6 A) 7 D ad cy A (wp_L_base V K a2 a3 a4 a5) V 0 [some (.ref (ad 0)), some (.int a2), some (.int a3), some (.int a4), some (.int a5), some (.ref (ad 93)), none] []
  refine g_aload (pc := 0) hC dL_base_0 rfl ?_
  refine g_iconst (pc := 2) hC (0 : Int32) dL_base_2 (by decide) ?_
  refine g_aload_n (pc := 3) hC dL_base_3 rfl ?_
  refine g_iload_n (pc := 4) hC dL_base_4 rfl ?_
  refine g_iload_n (pc := 5) hC dL_base_5 rfl ?_
  refine g_iload_n (pc := 6) hC dL_base_6 rfl ?_
  refine g_iload (pc := 7) hC dL_base_7 rfl ?_
  refine g_xvi (pc := 9) hC hz (c_X4_base hC.2.2.2.1) mi_X4_base ww_476 ⟨rfl, rfl⟩ ⟨by decide, by decide⟩ (by decide) rfl rfl rfl rfl (Nat.le_of_ble_eq_true rfl) ⟨by decide, by decide⟩ dL_base_9 ?_ (fun r1 V2 => ?_)
  · refine fun y6 V5 hw => ?_
    rcases hw with ⟨rfl, hw⟩ | ⟨rfl, hw⟩ | ⟨rfl, hw⟩
    · refine gx_catch (n := 1) (pc := 9) hC [] ⟨0, 21, 24, 13⟩ [⟨0, 21, 28, 15⟩, ⟨0, 21, 32, 17⟩] (by rw [htb]; rfl) (fun _ h => absurd h List.not_mem_nil) (by decide) (by decide) (hC.mem ww_330) (cast_moved (s := s) (Vm.Alike.refl s.vm) (hz.2.2.2.1 1)) (fun q7 => ?_) hw
      refine g_astore (pc := 24) (L2 := [some (.ref (ad 0)), some (.int a2), some (.int a3), some (.int a4), some (.int a5), some (.ref (ad 93)), some (.ref q7)]) hC dL_base_24 (by decide) rfl ?_
      refine g_iconst (pc := 26) hC (1 : Int32) dL_base_26 (by decide) ?_
      exact g_xret (by decide) (by decide) (g_iret (pc := 27) hC hrt hlk dL_base_27)
    · refine gx_catch (n := 2) (pc := 9) hC [⟨0, 21, 24, 13⟩] ⟨0, 21, 28, 15⟩ [⟨0, 21, 32, 17⟩] (by rw [htb]; rfl) (List.forall_mem_cons.mpr ⟨⟨by decide, by decide, "java/util/NoSuchElementException", hC.mem ww_330, hct 2 (by decide) 1 (by decide) (by decide)⟩, (fun _ h => absurd h List.not_mem_nil)⟩) (by decide) (by decide) (hC.mem ww_331) (cast_moved (s := s) (Vm.Alike.refl s.vm) (hz.2.2.2.1 2)) (fun q8 => ?_) hw
      refine g_astore (pc := 28) (L2 := [some (.ref (ad 0)), some (.int a2), some (.int a3), some (.int a4), some (.int a5), some (.ref (ad 93)), some (.ref q8)]) hC dL_base_28 (by decide) rfl ?_
      refine g_iconst (pc := 30) hC (2 : Int32) dL_base_30 (by decide) ?_
      exact g_xret (by decide) (by decide) (g_iret (pc := 31) hC hrt hlk dL_base_31)
    · refine gx_catch (n := 3) (pc := 9) hC [⟨0, 21, 24, 13⟩, ⟨0, 21, 28, 15⟩] ⟨0, 21, 32, 17⟩ [] (by rw [htb]; rfl) (List.forall_mem_cons.mpr ⟨⟨by decide, by decide, "java/util/NoSuchElementException", hC.mem ww_330, hct 3 (by decide) 1 (by decide) (by decide)⟩, (List.forall_mem_cons.mpr ⟨⟨by decide, by decide, "java/lang/IllegalArgumentException", hC.mem ww_331, hct 3 (by decide) 2 (by decide) (by decide)⟩, (fun _ h => absurd h List.not_mem_nil)⟩)⟩) (by decide) (by decide) (hC.mem ww_332) (cast_moved (s := s) (Vm.Alike.refl s.vm) (hz.2.2.2.1 3)) (fun q9 => ?_) hw
      refine g_astore (pc := 32) (L2 := [some (.ref (ad 0)), some (.int a2), some (.int a3), some (.int a4), some (.int a5), some (.ref (ad 93)), some (.ref q9)]) hC dL_base_32 (by decide) rfl ?_
      refine g_iconst (pc := 34) hC (3 : Int32) dL_base_34 (by decide) ?_
      exact g_xret (by decide) (by decide) (g_iret (pc := 35) hC hrt hlk dL_base_35)
  · refine g_if_eq (pc := 12) (tgt := 19) hC dL_base_12 (by decide) ?_ ?_
    · refine g_lconst (pc := 19) hC (0 : Int32) dL_base_19 (by decide) ?_
      refine g_last (pc := 20) hC (by decide) rfl dL_base_20 (fun V3 => ?_)
      refine g_goto (pc := 21) (tgt := 36) hC dL_base_21 (by decide) ?_
      refine g_iconst (pc := 36) hC (0 : Int32) dL_base_36 (by decide) ?_
      exact g_xret (by decide) (by decide) (g_iret (pc := 37) hC hrt hlk dL_base_37)
    · refine g_lconst (pc := 15) hC (1 : Int32) dL_base_15 (by decide) ?_
      refine g_goto (pc := 16) (tgt := 20) hC dL_base_16 (by decide) ?_
      refine g_last (pc := 20) hC (by decide) rfl dL_base_20 (fun V4 => ?_)
      refine g_goto (pc := 21) (tgt := 36) hC dL_base_21 (by decide) ?_
      refine g_iconst (pc := 36) hC (0 : Int32) dL_base_36 (by decide) ?_
      exact g_xret (by decide) (by decide) (g_iret (pc := 37) hC hrt hlk dL_base_37)
def rm_L_bound : Room := ({ frames := 8, cells := 1, slots := 6, locals := 131 } : Room)
def wp_L_bound (V : St) (K : Int32 → St → Prop) (a2 : Int32) : Prop := wp_X4_bound V (fun (r1 : Int32) (V2 : St) => vp_in (0 : Int32) 1 ∧ ∀ V3 : St, V3 = up2 V2 93 (0 : Int32).toNatClampNeg r1 → K (0 : Int32) V3) (fun (y5 : Nat) (V4 : St) => (y5 = 1 ∧ K (1 : Int32) V4)) a2
set_option maxRecDepth 100000 in
set_option maxHeartbeats 4000000 in
theorem c_L_bound {l : Launch} {D : va_G} {ad : Nat → Nat} {cy : Nat → ClassId} (hi : inj ad) {V : St} {K : Int32 → St → Prop} {a2 : Int32} : wp_L_bound V K a2 → Li l D ad cy yL_bound (Cond.codeWith yL_bound cL_bound 4 (some .int) [(0, 9, 12, 13)] :: WA) rm_L_bound 1 6 [.ref (ad 0), .int a2, .ref (ad 93)] V K := by
  refine L_i (w := wp_L_bound V K a2) (by decide) (Nat.le_of_ble_eq_true rfl) (List.forall_mem_cons.mpr ⟨rfl, (List.forall_mem_cons.mpr ⟨rfl, (List.forall_mem_cons.mpr ⟨rfl, (fun _ h => absurd h List.not_mem_nil)⟩)⟩)⟩) hi ?_
  intro p e s m args below meth c A hC hrt hlk hz htb hct
  show G p l e rm_L_bound s m args below meth c 0 0 (vx_MQ below (va_Qi K (Bq D ad cy) A) (XCx D ad cy A (fun _ _ => False)) args s 1 6 A) 4 D ad cy A (wp_L_bound V K a2) V 0 [some (.ref (ad 0)), some (.int a2), some (.ref (ad 93)), none] []
  refine g_aload_n (pc := 0) hC dL_bound_0 rfl ?_
  refine g_iconst (pc := 1) hC (0 : Int32) dL_bound_1 (by decide) ?_
  refine g_aload_n (pc := 2) hC dL_bound_2 rfl ?_
  refine g_iload_n (pc := 3) hC dL_bound_3 rfl ?_
  refine g_xvi (pc := 4) hC hz (c_X4_bound hC.2.2.2.1) mi_X4_bound ww_557 ⟨rfl, rfl⟩ ⟨by decide, by decide⟩ (by decide) rfl rfl rfl rfl (Nat.le_of_ble_eq_true rfl) ⟨by decide, by decide⟩ dL_bound_4 ?_ (fun r1 V2 => ?_)
  · refine fun y5 V4 hw => ?_
    rcases hw with ⟨rfl, hw⟩
    · refine gx_catch (n := 1) (pc := 4) hC [] ⟨0, 9, 12, 13⟩ [] (by rw [htb]; rfl) (fun _ h => absurd h List.not_mem_nil) (by decide) (by decide) (hC.mem ww_330) (cast_moved (s := s) (Vm.Alike.refl s.vm) (hz.2.2.2.1 1)) (fun q6 => ?_) hw
      refine g_astore_n (pc := 12) (L2 := [some (.ref (ad 0)), some (.int a2), some (.ref (ad 93)), some (.ref q6)]) hC dL_bound_12 (by decide) rfl ?_
      refine g_iconst (pc := 13) hC (1 : Int32) dL_bound_13 (by decide) ?_
      exact g_xret (by decide) (by decide) (g_iret (pc := 14) hC hrt hlk dL_bound_14)
  · refine g_i2l (pc := 7) hC dL_bound_7 ?_
    refine g_last (pc := 8) hC (by decide) rfl dL_bound_8 (fun V3 => ?_)
    refine g_goto (pc := 9) (tgt := 15) hC dL_bound_9 (by decide) ?_
    refine g_iconst (pc := 15) hC (0 : Int32) dL_bound_15 (by decide) ?_
    exact g_xret (by decide) (by decide) (g_iret (pc := 16) hC hrt hlk dL_bound_16)
def rm_L_event : Room := ({ frames := 8, cells := 1, slots := 6, locals := 132 } : Room)
def wp_L_event (V : St) (K : Int32 → St → Prop) (a2 : Int32) : Prop := wp_X4_event V (fun (r1 : Int32) (V2 : St) => vp_in (0 : Int32) 1 ∧ ∀ V3 : St, V3 = up2 V2 93 (0 : Int32).toNatClampNeg r1 → K (0 : Int32) V3) (fun (y5 : Nat) (V4 : St) => (y5 = 1 ∧ K (1 : Int32) V4)) a2
set_option maxRecDepth 100000 in
set_option maxHeartbeats 4000000 in
theorem c_L_event {l : Launch} {D : va_G} {ad : Nat → Nat} {cy : Nat → ClassId} (hi : inj ad) {V : St} {K : Int32 → St → Prop} {a2 : Int32} : wp_L_event V K a2 → Li l D ad cy yL_event (Cond.codeWith yL_event cL_event 4 (some .int) [(0, 9, 12, 13)] :: WA) rm_L_event 1 6 [.ref (ad 0), .int a2, .ref (ad 93)] V K := by
  refine L_i (w := wp_L_event V K a2) (by decide) (Nat.le_of_ble_eq_true rfl) (List.forall_mem_cons.mpr ⟨rfl, (List.forall_mem_cons.mpr ⟨rfl, (List.forall_mem_cons.mpr ⟨rfl, (fun _ h => absurd h List.not_mem_nil)⟩)⟩)⟩) hi ?_
  intro p e s m args below meth c A hC hrt hlk hz htb hct
  show G p l e rm_L_event s m args below meth c 0 0 (vx_MQ below (va_Qi K (Bq D ad cy) A) (XCx D ad cy A (fun _ _ => False)) args s 1 6 A) 4 D ad cy A (wp_L_event V K a2) V 0 [some (.ref (ad 0)), some (.int a2), some (.ref (ad 93)), none] []
  refine g_aload_n (pc := 0) hC dL_event_0 rfl ?_
  refine g_iconst (pc := 1) hC (0 : Int32) dL_event_1 (by decide) ?_
  refine g_aload_n (pc := 2) hC dL_event_2 rfl ?_
  refine g_iload_n (pc := 3) hC dL_event_3 rfl ?_
  refine g_xvi (pc := 4) hC hz (c_X4_event hC.2.2.2.1) mi_X4_event ww_491 ⟨rfl, rfl⟩ ⟨by decide, by decide⟩ (by decide) rfl rfl rfl rfl (Nat.le_of_ble_eq_true rfl) ⟨by decide, by decide⟩ dL_event_4 ?_ (fun r1 V2 => ?_)
  · refine fun y5 V4 hw => ?_
    rcases hw with ⟨rfl, hw⟩
    · refine gx_catch (n := 1) (pc := 4) hC [] ⟨0, 9, 12, 13⟩ [] (by rw [htb]; rfl) (fun _ h => absurd h List.not_mem_nil) (by decide) (by decide) (hC.mem ww_330) (cast_moved (s := s) (Vm.Alike.refl s.vm) (hz.2.2.2.1 1)) (fun q6 => ?_) hw
      refine g_astore_n (pc := 12) (L2 := [some (.ref (ad 0)), some (.int a2), some (.ref (ad 93)), some (.ref q6)]) hC dL_event_12 (by decide) rfl ?_
      refine g_iconst (pc := 13) hC (1 : Int32) dL_event_13 (by decide) ?_
      exact g_xret (by decide) (by decide) (g_iret (pc := 14) hC hrt hlk dL_event_14)
  · refine g_i2l (pc := 7) hC dL_event_7 ?_
    refine g_last (pc := 8) hC (by decide) rfl dL_event_8 (fun V3 => ?_)
    refine g_goto (pc := 9) (tgt := 15) hC dL_event_9 (by decide) ?_
    refine g_iconst (pc := 15) hC (0 : Int32) dL_event_15 (by decide) ?_
    exact g_xret (by decide) (by decide) (g_iret (pc := 16) hC hrt hlk dL_event_16)
def rm_L_floor : Room := ({ frames := 7, cells := 1, slots := 6, locals := 110 } : Room)
def wp_L_floor (V : St) (K : Int32 → St → Prop) (a2 : Int32) : Prop := wp_X4_floor V (fun (r1 : Int32) (V2 : St) => vp_in (0 : Int32) 1 ∧ ∀ V3 : St, V3 = up2 V2 93 (0 : Int32).toNatClampNeg r1 → K (0 : Int32) V3) (fun (y5 : Nat) (V4 : St) => (y5 = 2 ∧ K (1 : Int32) V4)) a2
set_option maxRecDepth 100000 in
set_option maxHeartbeats 4000000 in
theorem c_L_floor {l : Launch} {D : va_G} {ad : Nat → Nat} {cy : Nat → ClassId} (hi : inj ad) {V : St} {K : Int32 → St → Prop} {a2 : Int32} : wp_L_floor V K a2 → Li l D ad cy yL_floor (Cond.codeWith yL_floor cL_floor 4 (some .int) [(0, 9, 12, 15)] :: WA) rm_L_floor 1 6 [.ref (ad 0), .int a2, .ref (ad 93)] V K := by
  refine L_i (w := wp_L_floor V K a2) (by decide) (Nat.le_of_ble_eq_true rfl) (List.forall_mem_cons.mpr ⟨rfl, (List.forall_mem_cons.mpr ⟨rfl, (List.forall_mem_cons.mpr ⟨rfl, (fun _ h => absurd h List.not_mem_nil)⟩)⟩)⟩) hi ?_
  intro p e s m args below meth c A hC hrt hlk hz htb hct
  show G p l e rm_L_floor s m args below meth c 0 0 (vx_MQ below (va_Qi K (Bq D ad cy) A) (XCx D ad cy A (fun _ _ => False)) args s 1 6 A) 4 D ad cy A (wp_L_floor V K a2) V 0 [some (.ref (ad 0)), some (.int a2), some (.ref (ad 93)), none] []
  refine g_aload_n (pc := 0) hC dL_floor_0 rfl ?_
  refine g_iconst (pc := 1) hC (0 : Int32) dL_floor_1 (by decide) ?_
  refine g_aload_n (pc := 2) hC dL_floor_2 rfl ?_
  refine g_iload_n (pc := 3) hC dL_floor_3 rfl ?_
  refine g_xvi (pc := 4) hC hz (c_X4_floor hC.2.2.2.1) mi_X4_floor ww_575 ⟨rfl, rfl⟩ ⟨by decide, by decide⟩ (by decide) rfl rfl rfl rfl (Nat.le_of_ble_eq_true rfl) ⟨by decide, by decide⟩ dL_floor_4 ?_ (fun r1 V2 => ?_)
  · refine fun y5 V4 hw => ?_
    rcases hw with ⟨rfl, hw⟩
    · refine gx_catch (n := 2) (pc := 4) hC [] ⟨0, 9, 12, 15⟩ [] (by rw [htb]; rfl) (fun _ h => absurd h List.not_mem_nil) (by decide) (by decide) (hC.mem ww_331) (cast_moved (s := s) (Vm.Alike.refl s.vm) (hz.2.2.2.1 2)) (fun q6 => ?_) hw
      refine g_astore_n (pc := 12) (L2 := [some (.ref (ad 0)), some (.int a2), some (.ref (ad 93)), some (.ref q6)]) hC dL_floor_12 (by decide) rfl ?_
      refine g_iconst (pc := 13) hC (1 : Int32) dL_floor_13 (by decide) ?_
      exact g_xret (by decide) (by decide) (g_iret (pc := 14) hC hrt hlk dL_floor_14)
  · refine g_i2l (pc := 7) hC dL_floor_7 ?_
    refine g_last (pc := 8) hC (by decide) rfl dL_floor_8 (fun V3 => ?_)
    refine g_goto (pc := 9) (tgt := 15) hC dL_floor_9 (by decide) ?_
    refine g_iconst (pc := 15) hC (0 : Int32) dL_floor_15 (by decide) ?_
    exact g_xret (by decide) (by decide) (g_iret (pc := 16) hC hrt hlk dL_floor_16)
def rm_L_source : Room := ({ frames := 7, cells := 1, slots := 6, locals := 142 } : Room)
def wp_L_source (V : St) (K : Int32 → St → Prop) (a2 : Int32) (a3 : Int32) (a4 : Int32) (a5 : Int32) (a6 : Int32) (a7 : Int32) (a8 : Int32) : Prop := wp_X4_source V (fun (V1 : St) => K (0 : Int32) V1) (fun (y3 : Nat) (V2 : St) => (y3 = 1 ∧ K (1 : Int32) V2) ∨ (y3 = 2 ∧ K (2 : Int32) V2) ∨ (y3 = 3 ∧ K (3 : Int32) V2)) a2 a3 a4 a5 a6 a7 a8
set_option maxRecDepth 100000 in
set_option maxHeartbeats 4000000 in
theorem c_L_source {l : Launch} {D : va_G} {ad : Nat → Nat} {cy : Nat → ClassId} (hi : inj ad) {V : St} {K : Int32 → St → Prop} {a2 : Int32} {a3 : Int32} {a4 : Int32} {a5 : Int32} {a6 : Int32} {a7 : Int32} {a8 : Int32} : wp_L_source V K a2 a3 a4 a5 a6 a7 a8 → Li l D ad cy yL_source (Cond.codeWith yL_source cL_source 9 (some .int) [(0, 15, 18, 13), (0, 15, 22, 15), (0, 15, 26, 17)] :: WA) rm_L_source 1 6 [.ref (ad 0), .int a2, .int a3, .int a4, .int a5, .int a6, .int a7, .int a8] V K := by
  refine L_i (w := wp_L_source V K a2 a3 a4 a5 a6 a7 a8) (by decide) (Nat.le_of_ble_eq_true rfl) (List.forall_mem_cons.mpr ⟨rfl, (List.forall_mem_cons.mpr ⟨rfl, (List.forall_mem_cons.mpr ⟨rfl, (List.forall_mem_cons.mpr ⟨rfl, (List.forall_mem_cons.mpr ⟨rfl, (List.forall_mem_cons.mpr ⟨rfl, (List.forall_mem_cons.mpr ⟨rfl, (List.forall_mem_cons.mpr ⟨rfl, (fun _ h => absurd h List.not_mem_nil)⟩)⟩)⟩)⟩)⟩)⟩)⟩)⟩) hi ?_
  intro p e s m args below meth c A hC hrt hlk hz htb hct
  show G p l e rm_L_source s m args below meth c 0 0 (vx_MQ below (va_Qi K (Bq D ad cy) A) (XCx D ad cy A (fun _ _ => False)) args s 1 6 A) 9 D ad cy A (wp_L_source V K a2 a3 a4 a5 a6 a7 a8) V 0 [some (.ref (ad 0)), some (.int a2), some (.int a3), some (.int a4), some (.int a5), some (.int a6), some (.int a7), some (.int a8), none] []
  refine g_aload_n (pc := 0) hC dL_source_0 rfl ?_
  refine g_iload_n (pc := 1) hC dL_source_1 rfl ?_
  refine g_iload_n (pc := 2) hC dL_source_2 rfl ?_
  refine g_iload_n (pc := 3) hC dL_source_3 rfl ?_
  refine g_iload (pc := 4) hC dL_source_4 rfl ?_
  refine g_iload (pc := 6) hC dL_source_6 rfl ?_
  refine g_iload (pc := 8) hC dL_source_8 rfl ?_
  refine g_iload (pc := 10) hC dL_source_10 rfl ?_
  refine g_xvv (pc := 12) hC hz (c_X4_source hC.2.2.2.1) mi_X4_source ww_333 ⟨rfl, rfl⟩ ⟨by decide, by decide⟩ (by decide) rfl rfl rfl rfl (Nat.le_of_ble_eq_true rfl) ⟨by decide, by decide⟩ dL_source_12 ?_ (fun V1 => ?_)
  · refine fun y3 V2 hw => ?_
    rcases hw with ⟨rfl, hw⟩ | ⟨rfl, hw⟩ | ⟨rfl, hw⟩
    · refine gx_catch (n := 1) (pc := 12) hC [] ⟨0, 15, 18, 13⟩ [⟨0, 15, 22, 15⟩, ⟨0, 15, 26, 17⟩] (by rw [htb]; rfl) (fun _ h => absurd h List.not_mem_nil) (by decide) (by decide) (hC.mem ww_330) (cast_moved (s := s) (Vm.Alike.refl s.vm) (hz.2.2.2.1 1)) (fun q4 => ?_) hw
      refine g_astore (pc := 18) (L2 := [some (.ref (ad 0)), some (.int a2), some (.int a3), some (.int a4), some (.int a5), some (.int a6), some (.int a7), some (.int a8), some (.ref q4)]) hC dL_source_18 (by decide) rfl ?_
      refine g_iconst (pc := 20) hC (1 : Int32) dL_source_20 (by decide) ?_
      exact g_xret (by decide) (by decide) (g_iret (pc := 21) hC hrt hlk dL_source_21)
    · refine gx_catch (n := 2) (pc := 12) hC [⟨0, 15, 18, 13⟩] ⟨0, 15, 22, 15⟩ [⟨0, 15, 26, 17⟩] (by rw [htb]; rfl) (List.forall_mem_cons.mpr ⟨⟨by decide, by decide, "java/util/NoSuchElementException", hC.mem ww_330, hct 2 (by decide) 1 (by decide) (by decide)⟩, (fun _ h => absurd h List.not_mem_nil)⟩) (by decide) (by decide) (hC.mem ww_331) (cast_moved (s := s) (Vm.Alike.refl s.vm) (hz.2.2.2.1 2)) (fun q5 => ?_) hw
      refine g_astore (pc := 22) (L2 := [some (.ref (ad 0)), some (.int a2), some (.int a3), some (.int a4), some (.int a5), some (.int a6), some (.int a7), some (.int a8), some (.ref q5)]) hC dL_source_22 (by decide) rfl ?_
      refine g_iconst (pc := 24) hC (2 : Int32) dL_source_24 (by decide) ?_
      exact g_xret (by decide) (by decide) (g_iret (pc := 25) hC hrt hlk dL_source_25)
    · refine gx_catch (n := 3) (pc := 12) hC [⟨0, 15, 18, 13⟩, ⟨0, 15, 22, 15⟩] ⟨0, 15, 26, 17⟩ [] (by rw [htb]; rfl) (List.forall_mem_cons.mpr ⟨⟨by decide, by decide, "java/util/NoSuchElementException", hC.mem ww_330, hct 3 (by decide) 1 (by decide) (by decide)⟩, (List.forall_mem_cons.mpr ⟨⟨by decide, by decide, "java/lang/IllegalArgumentException", hC.mem ww_331, hct 3 (by decide) 2 (by decide) (by decide)⟩, (fun _ h => absurd h List.not_mem_nil)⟩)⟩) (by decide) (by decide) (hC.mem ww_332) (cast_moved (s := s) (Vm.Alike.refl s.vm) (hz.2.2.2.1 3)) (fun q6 => ?_) hw
      refine g_astore (pc := 26) (L2 := [some (.ref (ad 0)), some (.int a2), some (.int a3), some (.int a4), some (.int a5), some (.int a6), some (.int a7), some (.int a8), some (.ref q6)]) hC dL_source_26 (by decide) rfl ?_
      refine g_iconst (pc := 28) hC (3 : Int32) dL_source_28 (by decide) ?_
      exact g_xret (by decide) (by decide) (g_iret (pc := 29) hC hrt hlk dL_source_29)
  · refine g_goto (pc := 15) (tgt := 30) hC dL_source_15 (by decide) ?_
    refine g_iconst (pc := 30) hC (0 : Int32) dL_source_30 (by decide) ?_
    exact g_xret (by decide) (by decide) (g_iret (pc := 31) hC hrt hlk dL_source_31)
def rm_L_task : Room := ({ frames := 7, cells := 1, slots := 6, locals := 116 } : Room)
def wp_L_task (V : St) (K : Int32 → St → Prop) (a2 : Int32) (a3 : Int32) : Prop := wp_X4_task V (fun (r1 : Int32) (V2 : St) => vp_in (0 : Int32) 1 ∧ ∀ V3 : St, V3 = up2 V2 93 (0 : Int32).toNatClampNeg r1 → K (0 : Int32) V3) (fun (y5 : Nat) (V4 : St) => (y5 = 1 ∧ K (1 : Int32) V4) ∨ (y5 = 4 ∧ K (2 : Int32) V4)) a2 a3
set_option maxRecDepth 100000 in
set_option maxHeartbeats 4000000 in
theorem c_L_task {l : Launch} {D : va_G} {ad : Nat → Nat} {cy : Nat → ClassId} (hi : inj ad) {V : St} {K : Int32 → St → Prop} {a2 : Int32} {a3 : Int32} : wp_L_task V K a2 a3 → Li l D ad cy yL_task (Cond.codeWith yL_task cL_task 5 (some .int) [(0, 10, 13, 13), (0, 10, 17, 34)] :: WA) rm_L_task 1 6 [.ref (ad 0), .int a2, .int a3, .ref (ad 93)] V K := by
  refine L_i (w := wp_L_task V K a2 a3) (by decide) (Nat.le_of_ble_eq_true rfl) (List.forall_mem_cons.mpr ⟨rfl, (List.forall_mem_cons.mpr ⟨rfl, (List.forall_mem_cons.mpr ⟨rfl, (List.forall_mem_cons.mpr ⟨rfl, (fun _ h => absurd h List.not_mem_nil)⟩)⟩)⟩)⟩) hi ?_
  intro p e s m args below meth c A hC hrt hlk hz htb hct
  show G p l e rm_L_task s m args below meth c 0 0 (vx_MQ below (va_Qi K (Bq D ad cy) A) (XCx D ad cy A (fun _ _ => False)) args s 1 6 A) 5 D ad cy A (wp_L_task V K a2 a3) V 0 [some (.ref (ad 0)), some (.int a2), some (.int a3), some (.ref (ad 93)), none] []
  refine g_aload_n (pc := 0) hC dL_task_0 rfl ?_
  refine g_iconst (pc := 1) hC (0 : Int32) dL_task_1 (by decide) ?_
  refine g_aload_n (pc := 2) hC dL_task_2 rfl ?_
  refine g_iload_n (pc := 3) hC dL_task_3 rfl ?_
  refine g_iload_n (pc := 4) hC dL_task_4 rfl ?_
  refine g_xvi (pc := 5) hC hz (c_X4_task hC.2.2.2.1) mi_X4_task ww_550 ⟨rfl, rfl⟩ ⟨by decide, by decide⟩ (by decide) rfl rfl rfl rfl (Nat.le_of_ble_eq_true rfl) ⟨by decide, by decide⟩ dL_task_5 ?_ (fun r1 V2 => ?_)
  · refine fun y5 V4 hw => ?_
    rcases hw with ⟨rfl, hw⟩ | ⟨rfl, hw⟩
    · refine gx_catch (n := 1) (pc := 5) hC [] ⟨0, 10, 13, 13⟩ [⟨0, 10, 17, 34⟩] (by rw [htb]; rfl) (fun _ h => absurd h List.not_mem_nil) (by decide) (by decide) (hC.mem ww_330) (cast_moved (s := s) (Vm.Alike.refl s.vm) (hz.2.2.2.1 1)) (fun q6 => ?_) hw
      refine g_astore (pc := 13) (L2 := [some (.ref (ad 0)), some (.int a2), some (.int a3), some (.ref (ad 93)), some (.ref q6)]) hC dL_task_13 (by decide) rfl ?_
      refine g_iconst (pc := 15) hC (1 : Int32) dL_task_15 (by decide) ?_
      exact g_xret (by decide) (by decide) (g_iret (pc := 16) hC hrt hlk dL_task_16)
    · refine gx_catch (n := 4) (pc := 5) hC [⟨0, 10, 13, 13⟩] ⟨0, 10, 17, 34⟩ [] (by rw [htb]; rfl) (List.forall_mem_cons.mpr ⟨⟨by decide, by decide, "java/util/NoSuchElementException", hC.mem ww_330, hct 4 (by decide) 1 (by decide) (by decide)⟩, (fun _ h => absurd h List.not_mem_nil)⟩) (by decide) (by decide) (hC.mem ww_515) (cast_moved (s := s) (Vm.Alike.refl s.vm) (hz.2.2.2.1 4)) (fun q7 => ?_) hw
      refine g_astore (pc := 17) (L2 := [some (.ref (ad 0)), some (.int a2), some (.int a3), some (.ref (ad 93)), some (.ref q7)]) hC dL_task_17 (by decide) rfl ?_
      refine g_iconst (pc := 19) hC (2 : Int32) dL_task_19 (by decide) ?_
      exact g_xret (by decide) (by decide) (g_iret (pc := 20) hC hrt hlk dL_task_20)
  · refine g_i2l (pc := 8) hC dL_task_8 ?_
    refine g_last (pc := 9) hC (by decide) rfl dL_task_9 (fun V3 => ?_)
    refine g_goto (pc := 10) (tgt := 21) hC dL_task_10 (by decide) ?_
    refine g_iconst (pc := 21) hC (0 : Int32) dL_task_21 (by decide) ?_
    exact g_xret (by decide) (by decide) (g_iret (pc := 22) hC hrt hlk dL_task_22)
def rm_L_ticks : Room := ({ frames := 7, cells := 1, slots := 6, locals := 152 } : Room)
def wp_L_ticks (V : St) (K : Int32 → St → Prop) (a2 : Int32) : Prop := wp_X4_ticks V (fun (r1 : Int32) (V2 : St) => vp_in (0 : Int32) 1 ∧ ∀ V3 : St, V3 = up2 V2 93 (0 : Int32).toNatClampNeg r1 → K (0 : Int32) V3) (fun (y5 : Nat) (V4 : St) => (y5 = 2 ∧ K (1 : Int32) V4)) a2
set_option maxRecDepth 100000 in
set_option maxHeartbeats 4000000 in
theorem c_L_ticks {l : Launch} {D : va_G} {ad : Nat → Nat} {cy : Nat → ClassId} (hi : inj ad) {V : St} {K : Int32 → St → Prop} {a2 : Int32} : wp_L_ticks V K a2 → Li l D ad cy yL_ticks (Cond.codeWith yL_ticks cL_ticks 4 (some .int) [(0, 9, 12, 15)] :: WA) rm_L_ticks 1 6 [.ref (ad 0), .int a2, .ref (ad 93)] V K := by
  refine L_i (w := wp_L_ticks V K a2) (by decide) (Nat.le_of_ble_eq_true rfl) (List.forall_mem_cons.mpr ⟨rfl, (List.forall_mem_cons.mpr ⟨rfl, (List.forall_mem_cons.mpr ⟨rfl, (fun _ h => absurd h List.not_mem_nil)⟩)⟩)⟩) hi ?_
  intro p e s m args below meth c A hC hrt hlk hz htb hct
  show G p l e rm_L_ticks s m args below meth c 0 0 (vx_MQ below (va_Qi K (Bq D ad cy) A) (XCx D ad cy A (fun _ _ => False)) args s 1 6 A) 4 D ad cy A (wp_L_ticks V K a2) V 0 [some (.ref (ad 0)), some (.int a2), some (.ref (ad 93)), none] []
  refine g_aload_n (pc := 0) hC dL_ticks_0 rfl ?_
  refine g_iconst (pc := 1) hC (0 : Int32) dL_ticks_1 (by decide) ?_
  refine g_aload_n (pc := 2) hC dL_ticks_2 rfl ?_
  refine g_iload_n (pc := 3) hC dL_ticks_3 rfl ?_
  refine g_xvi (pc := 4) hC hz (c_X4_ticks hC.2.2.2.1) mi_X4_ticks ww_507 ⟨rfl, rfl⟩ ⟨by decide, by decide⟩ (by decide) rfl rfl rfl rfl (Nat.le_of_ble_eq_true rfl) ⟨by decide, by decide⟩ dL_ticks_4 ?_ (fun r1 V2 => ?_)
  · refine fun y5 V4 hw => ?_
    rcases hw with ⟨rfl, hw⟩
    · refine gx_catch (n := 2) (pc := 4) hC [] ⟨0, 9, 12, 15⟩ [] (by rw [htb]; rfl) (fun _ h => absurd h List.not_mem_nil) (by decide) (by decide) (hC.mem ww_331) (cast_moved (s := s) (Vm.Alike.refl s.vm) (hz.2.2.2.1 2)) (fun q6 => ?_) hw
      refine g_astore_n (pc := 12) (L2 := [some (.ref (ad 0)), some (.int a2), some (.ref (ad 93)), some (.ref q6)]) hC dL_ticks_12 (by decide) rfl ?_
      refine g_iconst (pc := 13) hC (1 : Int32) dL_ticks_13 (by decide) ?_
      exact g_xret (by decide) (by decide) (g_iret (pc := 14) hC hrt hlk dL_ticks_14)
  · refine g_i2l (pc := 7) hC dL_ticks_7 ?_
    refine g_last (pc := 8) hC (by decide) rfl dL_ticks_8 (fun V3 => ?_)
    refine g_goto (pc := 9) (tgt := 15) hC dL_ticks_9 (by decide) ?_
    refine g_iconst (pc := 15) hC (0 : Int32) dL_ticks_15 (by decide) ?_
    exact g_xret (by decide) (by decide) (g_iret (pc := 16) hC hrt hlk dL_ticks_16)
def rm_L_used : Room := ({ frames := 8, cells := 2, slots := 12, locals := 137 } : Room)
def wp_L_used (V : St) (K : Int32 → St → Prop) (a2 : Int32) (a3 : Int32) (a4 : Int32) (a5 : Int32) : Prop := wp_X4_used V (fun (r1 : Int32) (V2 : St) => vp_in (0 : Int32) 1 ∧ ∀ V3 : St, V3 = up2 V2 93 (0 : Int32).toNatClampNeg r1 → K (0 : Int32) V3) (fun (y5 : Nat) (V4 : St) => (y5 = 1 ∧ K (1 : Int32) V4) ∨ (y5 = 4 ∧ K (2 : Int32) V4)) a2 a3 a4 a5
set_option maxRecDepth 100000 in
set_option maxHeartbeats 4000000 in
theorem c_L_used {l : Launch} {D : va_G} {ad : Nat → Nat} {cy : Nat → ClassId} (hi : inj ad) {V : St} {K : Int32 → St → Prop} {a2 : Int32} {a3 : Int32} {a4 : Int32} {a5 : Int32} : wp_L_used V K a2 a3 a4 a5 → Li l D ad cy yL_used (Cond.codeWith yL_used cL_used 7 (some .int) [(0, 14, 17, 13), (0, 14, 21, 34)] :: WA) rm_L_used 2 12 [.ref (ad 0), .int a2, .int a3, .int a4, .int a5, .ref (ad 93)] V K := by
  refine L_i (w := wp_L_used V K a2 a3 a4 a5) (by decide) (Nat.le_of_ble_eq_true rfl) (List.forall_mem_cons.mpr ⟨rfl, (List.forall_mem_cons.mpr ⟨rfl, (List.forall_mem_cons.mpr ⟨rfl, (List.forall_mem_cons.mpr ⟨rfl, (List.forall_mem_cons.mpr ⟨rfl, (List.forall_mem_cons.mpr ⟨rfl, (fun _ h => absurd h List.not_mem_nil)⟩)⟩)⟩)⟩)⟩)⟩) hi ?_
  intro p e s m args below meth c A hC hrt hlk hz htb hct
  show G p l e rm_L_used s m args below meth c 0 0 (vx_MQ below (va_Qi K (Bq D ad cy) A) (XCx D ad cy A (fun _ _ => False)) args s 2 12 A) 7 D ad cy A (wp_L_used V K a2 a3 a4 a5) V 0 [some (.ref (ad 0)), some (.int a2), some (.int a3), some (.int a4), some (.int a5), some (.ref (ad 93)), none] []
  refine g_aload (pc := 0) hC dL_used_0 rfl ?_
  refine g_iconst (pc := 2) hC (0 : Int32) dL_used_2 (by decide) ?_
  refine g_aload_n (pc := 3) hC dL_used_3 rfl ?_
  refine g_iload_n (pc := 4) hC dL_used_4 rfl ?_
  refine g_iload_n (pc := 5) hC dL_used_5 rfl ?_
  refine g_iload_n (pc := 6) hC dL_used_6 rfl ?_
  refine g_iload (pc := 7) hC dL_used_7 rfl ?_
  refine g_xvi (pc := 9) hC hz (c_X4_used hC.2.2.2.1) mi_X4_used ww_568 ⟨rfl, rfl⟩ ⟨by decide, by decide⟩ (by decide) rfl rfl rfl rfl (Nat.le_of_ble_eq_true rfl) ⟨by decide, by decide⟩ dL_used_9 ?_ (fun r1 V2 => ?_)
  · refine fun y5 V4 hw => ?_
    rcases hw with ⟨rfl, hw⟩ | ⟨rfl, hw⟩
    · refine gx_catch (n := 1) (pc := 9) hC [] ⟨0, 14, 17, 13⟩ [⟨0, 14, 21, 34⟩] (by rw [htb]; rfl) (fun _ h => absurd h List.not_mem_nil) (by decide) (by decide) (hC.mem ww_330) (cast_moved (s := s) (Vm.Alike.refl s.vm) (hz.2.2.2.1 1)) (fun q6 => ?_) hw
      refine g_astore (pc := 17) (L2 := [some (.ref (ad 0)), some (.int a2), some (.int a3), some (.int a4), some (.int a5), some (.ref (ad 93)), some (.ref q6)]) hC dL_used_17 (by decide) rfl ?_
      refine g_iconst (pc := 19) hC (1 : Int32) dL_used_19 (by decide) ?_
      exact g_xret (by decide) (by decide) (g_iret (pc := 20) hC hrt hlk dL_used_20)
    · refine gx_catch (n := 4) (pc := 9) hC [⟨0, 14, 17, 13⟩] ⟨0, 14, 21, 34⟩ [] (by rw [htb]; rfl) (List.forall_mem_cons.mpr ⟨⟨by decide, by decide, "java/util/NoSuchElementException", hC.mem ww_330, hct 4 (by decide) 1 (by decide) (by decide)⟩, (fun _ h => absurd h List.not_mem_nil)⟩) (by decide) (by decide) (hC.mem ww_515) (cast_moved (s := s) (Vm.Alike.refl s.vm) (hz.2.2.2.1 4)) (fun q7 => ?_) hw
      refine g_astore (pc := 21) (L2 := [some (.ref (ad 0)), some (.int a2), some (.int a3), some (.int a4), some (.int a5), some (.ref (ad 93)), some (.ref q7)]) hC dL_used_21 (by decide) rfl ?_
      refine g_iconst (pc := 23) hC (2 : Int32) dL_used_23 (by decide) ?_
      exact g_xret (by decide) (by decide) (g_iret (pc := 24) hC hrt hlk dL_used_24)
  · refine g_i2l (pc := 12) hC dL_used_12 ?_
    refine g_last (pc := 13) hC (by decide) rfl dL_used_13 (fun V3 => ?_)
    refine g_goto (pc := 14) (tgt := 25) hC dL_used_14 (by decide) ?_
    refine g_iconst (pc := 25) hC (0 : Int32) dL_used_25 (by decide) ?_
    exact g_xret (by decide) (by decide) (g_iret (pc := 26) hC hrt hlk dL_used_26)
