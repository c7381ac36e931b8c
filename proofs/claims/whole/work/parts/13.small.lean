def rm_X0_tell : Room := ({ frames := 0, cells := 0, slots := 0, locals := 0 } : Room)
def wp_X0_tell (V : St) (K : St → Prop) (t : Nat) (a1 : Int32) (a2 : Int32) (a3 : Int32) (a4 : Int32) : Prop := ((1 : Int32) = 0 ∨ (1 : Int32) = 1) ∧ ∀ V1 : St, V1 = up2 V t 0 (1 : Int32) → ∀ V2 : St, V2 = up2 V1 t 1 a1 → ∀ V3 : St, V3 = up2 V2 t 2 a2 → ∀ V4 : St, V4 = up2 V3 t 3 a3 → ∀ V5 : St, V5 = up2 V4 t 4 a4 → K V5
set_option maxRecDepth 100000 in
set_option maxHeartbeats 4000000 in
theorem c_X0_tell {l : Launch} {D : va_G} {ad : Nat → Nat} {cy : Nat → ClassId} (hi : inj ad) {V : St} {K : St → Prop} {t : Nat} {a1 : Int32} {a2 : Int32} {a3 : Int32} {a4 : Int32} (ht : TskAt t) : wp_X0_tell V K t a1 a2 a3 a4 → Hv l D ad cy yX0_tell (Cond.code yX0_tell cX0_tell 5 none :: WA) rm_X0_tell [.ref (ad t), .int a1, .int a2, .int a3, .int a4] V K := by
  refine H_v (w := wp_X0_tell V K t a1 a2 a3 a4) (by decide) (Nat.le_of_ble_eq_true rfl) (List.forall_mem_cons.mpr ⟨rfl, (List.forall_mem_cons.mpr ⟨rfl, (List.forall_mem_cons.mpr ⟨rfl, (List.forall_mem_cons.mpr ⟨rfl, (List.forall_mem_cons.mpr ⟨rfl, (fun _ h => absurd h List.not_mem_nil)⟩)⟩)⟩)⟩)⟩) hi ?_
  intro p e s m args below meth c A hC hrt hlk
  show G p l e rm_X0_tell s m args below meth c 0 0 (MQ below (va_Qv K (Bq D ad cy) A) args s 0 0 A) 5 D ad cy A (wp_X0_tell V K t a1 a2 a3 a4) V 0 [some (.ref (ad t)), some (.int a1), some (.int a2), some (.int a3), some (.int a4)] []
  refine g_aload_n (pc := 0) hC dX0_tell_0 rfl ?_
  refine g_iconst (pc := 1) hC (1 : Int32) dX0_tell_1 (by decide) ?_
  refine g_putZ (pc := 2) hC fp_X0_7 ht.1 ht.2 rfl dX0_tell_2 (fun V1 => ?_)
  refine g_aload_n (pc := 5) hC dX0_tell_5 rfl ?_
  refine g_iload_n (pc := 6) hC dX0_tell_6 rfl ?_
  refine g_putI (pc := 7) hC fp_X0_13 ht.1 ht.2 rfl dX0_tell_7 (fun V2 => ?_)
  refine g_aload_n (pc := 10) hC dX0_tell_10 rfl ?_
  refine g_iload_n (pc := 11) hC dX0_tell_11 rfl ?_
  refine g_putI (pc := 12) hC fp_X0_17 ht.1 ht.2 rfl dX0_tell_12 (fun V3 => ?_)
  refine g_aload_n (pc := 15) hC dX0_tell_15 rfl ?_
  refine g_iload_n (pc := 16) hC dX0_tell_16 rfl ?_
  refine g_putI (pc := 17) hC fp_X0_20 ht.1 ht.2 rfl dX0_tell_17 (fun V4 => ?_)
  refine g_aload_n (pc := 20) hC dX0_tell_20 rfl ?_
  refine g_iload (pc := 21) hC dX0_tell_21 rfl ?_
  refine g_putI (pc := 23) hC fp_X0_23 ht.1 ht.2 rfl dX0_tell_23 (fun V5 => ?_)
  exact g_vret (pc := 26) hC hrt hlk dX0_tell_26
def rm_X0_beginIfDue : Room := ({ frames := 0, cells := 0, slots := 0, locals := 0 } : Room)
def b_X0_beginIfDue_32 (K : St → Prop) (t : Nat) (a1 : Int32) (V : St) : Prop := ∀ V1 : St, V1 = up2 V t 5 (V t 2) → K V1
def wp_X0_beginIfDue (V : St) (K : St → Prop) (t : Nat) (a1 : Int32) : Prop := ¬ (V t 1) = 0 ∧ if ((a1 - (V t 4)) - (a1 - (V t 4)) / (V t 1) * (V t 1)) = 0 then (if (V t 5) ≤ 0 then (b_X0_beginIfDue_32 K t a1 V) else (∀ V1 : St, V1 = up2 V t 6 ((V t 6) + (1 : Int32)) → b_X0_beginIfDue_32 K t a1 V1)) else (K V)
set_option maxRecDepth 100000 in
set_option maxHeartbeats 4000000 in
theorem c_X0_beginIfDue {l : Launch} {D : va_G} {ad : Nat → Nat} {cy : Nat → ClassId} (hi : inj ad) {V : St} {K : St → Prop} {t : Nat} {a1 : Int32} (ht : TskAt t) : wp_X0_beginIfDue V K t a1 → Hv l D ad cy yX0_beginIfDue (Cond.code yX0_beginIfDue cX0_beginIfDue 2 none :: WA) rm_X0_beginIfDue [.ref (ad t), .int a1] V K := by
  refine H_v (w := wp_X0_beginIfDue V K t a1) (by decide) (Nat.le_of_ble_eq_true rfl) (List.forall_mem_cons.mpr ⟨rfl, (List.forall_mem_cons.mpr ⟨rfl, (fun _ h => absurd h List.not_mem_nil)⟩)⟩) hi ?_
  intro p e s m args below meth c A hC hrt hlk
  have J_32 : ∀ (V : St), G p l e rm_X0_beginIfDue s m args below meth c 0 0 (MQ below (va_Qv K (Bq D ad cy) A) args s 0 0 A) 2 D ad cy A (b_X0_beginIfDue_32 K t a1 V) V 32 [some (.ref (ad t)), none] [] := by
    intro  V 
    refine g_aload_n (pc := 32) hC dX0_beginIfDue_32 rfl ?_
    refine g_aload_n (pc := 33) hC dX0_beginIfDue_33 rfl ?_
    refine g_getI (pc := 34) hC fl_X0_17 ht.1 ht.2 rfl dX0_beginIfDue_34 ?_
    refine g_putI (pc := 37) hC fp_X0_26 ht.1 ht.2 rfl dX0_beginIfDue_37 (fun V1 => ?_)
    exact g_vret (pc := 40) hC hrt hlk dX0_beginIfDue_40
  show G p l e rm_X0_beginIfDue s m args below meth c 0 0 (MQ below (va_Qv K (Bq D ad cy) A) args s 0 0 A) 2 D ad cy A (wp_X0_beginIfDue V K t a1) V 0 [some (.ref (ad t)), some (.int a1)] []
  refine g_iload_n (pc := 0) hC dX0_beginIfDue_0 rfl ?_
  refine g_aload_n (pc := 1) hC dX0_beginIfDue_1 rfl ?_
  refine g_getI (pc := 2) hC fl_X0_23 ht.1 ht.2 rfl dX0_beginIfDue_2 ?_
  refine g_isub (pc := 5) hC dX0_beginIfDue_5 ?_
  refine g_aload_n (pc := 6) hC dX0_beginIfDue_6 rfl ?_
  refine g_getI (pc := 7) hC fl_X0_13 ht.1 ht.2 rfl dX0_beginIfDue_7 ?_
  refine g_irem (pc := 10) hC dX0_beginIfDue_10 ?_
  refine g_if_eq (pc := 11) (tgt := 15) hC dX0_beginIfDue_11 (by decide) ?_ ?_
  · refine g_aload_n (pc := 15) hC dX0_beginIfDue_15 rfl ?_
    refine g_getI (pc := 16) hC fl_X0_26 ht.1 ht.2 rfl dX0_beginIfDue_16 ?_
    refine g_if_le (pc := 19) (tgt := 32) hC dX0_beginIfDue_19 (by decide) ?_ ?_
    · exact g_ms [true, false] (J_32  V)
    · refine g_aload_n (pc := 22) hC dX0_beginIfDue_22 rfl ?_
      refine g_dup (pc := 23) hC dX0_beginIfDue_23 rfl ?_
      refine g_getI (pc := 24) hC fl_X0_29 ht.1 ht.2 rfl dX0_beginIfDue_24 ?_
      refine g_iconst (pc := 27) hC (1 : Int32) dX0_beginIfDue_27 (by decide) ?_
      refine g_iadd (pc := 28) hC dX0_beginIfDue_28 ?_
      refine g_putI (pc := 29) hC fp_X0_29 ht.1 ht.2 rfl dX0_beginIfDue_29 (fun V1 => ?_)
      exact g_ms [true, false] (J_32  V1)
  · exact g_vret (pc := 14) hC hrt hlk dX0_beginIfDue_14
def rm_X0_work : Room := ({ frames := 0, cells := 0, slots := 0, locals := 0 } : Room)
def wp_X0_work (V : St) (K : St → Prop) (t : Nat) : Prop := ∀ V1 : St, V1 = up2 V t 5 ((V t 5) - (1 : Int32)) → if (V1 t 5) = 0 then (∀ V2 : St, V2 = up2 V1 t 7 ((V1 t 7) + (1 : Int32)) → K V2) else (K V1)
set_option maxRecDepth 100000 in
set_option maxHeartbeats 4000000 in
theorem c_X0_work {l : Launch} {D : va_G} {ad : Nat → Nat} {cy : Nat → ClassId} (hi : inj ad) {V : St} {K : St → Prop} {t : Nat} (ht : TskAt t) : wp_X0_work V K t → Hv l D ad cy yX0_work (Cond.code yX0_work cX0_work 1 none :: WA) rm_X0_work [.ref (ad t)] V K := by
  refine H_v (w := wp_X0_work V K t) (by decide) (Nat.le_of_ble_eq_true rfl) (List.forall_mem_cons.mpr ⟨rfl, (fun _ h => absurd h List.not_mem_nil)⟩) hi ?_
  intro p e s m args below meth c A hC hrt hlk
  show G p l e rm_X0_work s m args below meth c 0 0 (MQ below (va_Qv K (Bq D ad cy) A) args s 0 0 A) 1 D ad cy A (wp_X0_work V K t) V 0 [some (.ref (ad t))] []
  refine g_aload_n (pc := 0) hC dX0_work_0 rfl ?_
  refine g_dup (pc := 1) hC dX0_work_1 rfl ?_
  refine g_getI (pc := 2) hC fl_X0_26 ht.1 ht.2 rfl dX0_work_2 ?_
  refine g_iconst (pc := 5) hC (1 : Int32) dX0_work_5 (by decide) ?_
  refine g_isub (pc := 6) hC dX0_work_6 ?_
  refine g_putI (pc := 7) hC fp_X0_26 ht.1 ht.2 rfl dX0_work_7 (fun V1 => ?_)
  refine g_aload_n (pc := 10) hC dX0_work_10 rfl ?_
  refine g_getI (pc := 11) hC fl_X0_26 ht.1 ht.2 rfl dX0_work_11 ?_
  refine g_if_ne (pc := 14) (tgt := 27) hC dX0_work_14 (by decide) ?_ ?_
  · exact g_vret (pc := 27) hC hrt hlk dX0_work_27
  · refine g_aload_n (pc := 17) hC dX0_work_17 rfl ?_
    refine g_dup (pc := 18) hC dX0_work_18 rfl ?_
    refine g_getI (pc := 19) hC fl_X0_32 ht.1 ht.2 rfl dX0_work_19 ?_
    refine g_iconst (pc := 22) hC (1 : Int32) dX0_work_22 (by decide) ?_
    refine g_iadd (pc := 23) hC dX0_work_23 ?_
    refine g_putI (pc := 24) hC fp_X0_32 ht.1 ht.2 rfl dX0_work_24 (fun V2 => ?_)
    exact g_vret (pc := 27) hC hrt hlk dX0_work_27
def rm_X1_add : Room := ({ frames := 1, cells := 0, slots := 0, locals := 21 } : Room)
def b_X1_add_57 (K : St → Prop) (q : Nat) (a1 : Int32) (V : St) : Prop := vp_in (V q 2) 16 ∧ ∀ V1 : St, V1 = up2 V (q + 1) (V q 2).toNatClampNeg a1 → vp_in (V1 q 2) 16 ∧ ∀ V2 : St, V2 = up2 V1 (q + 2) (V1 q 2).toNatClampNeg (1 : Int32) → ∀ V3 : St, V3 = up2 V2 q 2 ((V2 q 2) + (1 : Int32)) → K V3
def b_X1_add_30 (K : St → Prop) (q : Nat) (a1 : Int32) (V : St) (l2 : Int32) : Prop := vp_in l2 16 ∧ vp_in l2 16 ∧ ∀ V1 : St, V1 = up2 V (q + 2) l2.toNatClampNeg ((V (q + 2) l2.toNatClampNeg) + (1 : Int32)) → vp_in l2 16 ∧ vp_in l2 16 ∧ ∀ V2 : St, V2 = up2 V1 (q + 1) l2.toNatClampNeg (if (V1 (q + 1) l2.toNatClampNeg) < a1 then a1 else (V1 (q + 1) l2.toNatClampNeg)) → K V2
def wp_X1_add (V : St) (K : St → Prop) (q : Nat) (a1 : Int32) : Prop := ∀ x1 : Int32, x1 = ((V q 2) - (1 : Int32)) → if x1 < 0 then (b_X1_add_57 K q a1 V) else (vp_in x1 16 ∧ if (V (q + 1) x1.toNatClampNeg) = a1 then (b_X1_add_30 K q a1 V x1) else (if (V q 2) < (16 : Int32) then (b_X1_add_57 K q a1 V) else (b_X1_add_30 K q a1 V x1)))
set_option maxRecDepth 100000 in
set_option maxHeartbeats 4000000 in
theorem c_X1_add {l : Launch} {D : va_G} {ad : Nat → Nat} {cy : Nat → ClassId} (hi : inj ad) {V : St} {K : St → Prop} {q : Nat} {a1 : Int32} (hq : PcsAt q) : wp_X1_add V K q a1 → Hv l D ad cy yX1_add (Cond.code yX1_add cX1_add 3 none :: WA) rm_X1_add [.ref (ad q), .int a1] V K := by
  refine H_v (w := wp_X1_add V K q a1) (by decide) (Nat.le_of_ble_eq_true rfl) (List.forall_mem_cons.mpr ⟨rfl, (List.forall_mem_cons.mpr ⟨rfl, (fun _ h => absurd h List.not_mem_nil)⟩)⟩) hi ?_
  intro p e s m args below meth c A hC hrt hlk
  have J_57 : ∀ (V : St), G p l e rm_X1_add s m args below meth c 0 0 (MQ below (va_Qv K (Bq D ad cy) A) args s 0 0 A) 3 D ad cy A (b_X1_add_57 K q a1 V) V 57 [some (.ref (ad q)), some (.int a1), none] [] := by
    intro  V 
    refine g_aload_n (pc := 57) hC dX1_add_57 rfl ?_
    refine g_getR (pc := 58) hC fl_X1_9 (PcsAt.l0 hq) hq.2.1 rfl dX1_add_58 ?_
    refine g_aload_n (pc := 61) hC dX1_add_61 rfl ?_
    refine g_getI (pc := 62) hC fl_X1_18 (PcsAt.l0 hq) hq.2.1 rfl dX1_add_62 ?_
    refine g_iload_n (pc := 65) hC dX1_add_65 rfl ?_
    refine g_iast (pc := 66) hC (PcsAt.l1 hq) hq.2.2.1 dX1_add_66 (fun V1 => ?_)
    refine g_aload_n (pc := 67) hC dX1_add_67 rfl ?_
    refine g_getR (pc := 68) hC fl_X1_15 (PcsAt.l0 hq) hq.2.1 rfl dX1_add_68 ?_
    refine g_aload_n (pc := 71) hC dX1_add_71 rfl ?_
    refine g_getI (pc := 72) hC fl_X1_18 (PcsAt.l0 hq) hq.2.1 rfl dX1_add_72 ?_
    refine g_iconst (pc := 75) hC (1 : Int32) dX1_add_75 (by decide) ?_
    refine g_iast (pc := 76) hC (PcsAt.l2 hq) hq.2.2.2 dX1_add_76 (fun V2 => ?_)
    refine g_aload_n (pc := 77) hC dX1_add_77 rfl ?_
    refine g_dup (pc := 78) hC dX1_add_78 rfl ?_
    refine g_getI (pc := 79) hC fl_X1_18 (PcsAt.l0 hq) hq.2.1 rfl dX1_add_79 ?_
    refine g_iconst (pc := 82) hC (1 : Int32) dX1_add_82 (by decide) ?_
    refine g_iadd (pc := 83) hC dX1_add_83 ?_
    refine g_putI (pc := 84) hC fp_X1_18 (PcsAt.l0 hq) hq.2.1 rfl dX1_add_84 (fun V3 => ?_)
    exact g_vret (pc := 87) hC hrt hlk dX1_add_87
  have J_30 : ∀ (V : St) (l2 : Int32), G p l e rm_X1_add s m args below meth c 0 0 (MQ below (va_Qv K (Bq D ad cy) A) args s 0 0 A) 3 D ad cy A (b_X1_add_30 K q a1 V l2) V 30 [some (.ref (ad q)), some (.int a1), some (.int l2)] [] := by
    intro  V l2 
    refine g_aload_n (pc := 30) hC dX1_add_30 rfl ?_
    refine g_getR (pc := 31) hC fl_X1_15 (PcsAt.l0 hq) hq.2.1 rfl dX1_add_31 ?_
    refine g_iload_n (pc := 34) hC dX1_add_34 rfl ?_
    refine g_dup2 (pc := 35) hC dX1_add_35 rfl rfl ?_
    refine g_iald (pc := 36) hC (PcsAt.l2 hq) hq.2.2.2 dX1_add_36 ?_
    refine g_iconst (pc := 37) hC (1 : Int32) dX1_add_37 (by decide) ?_
    refine g_iadd (pc := 38) hC dX1_add_38 ?_
    refine g_iast (pc := 39) hC (PcsAt.l2 hq) hq.2.2.2 dX1_add_39 (fun V1 => ?_)
    refine g_aload_n (pc := 40) hC dX1_add_40 rfl ?_
    refine g_getR (pc := 41) hC fl_X1_9 (PcsAt.l0 hq) hq.2.1 rfl dX1_add_41 ?_
    refine g_iload_n (pc := 44) hC dX1_add_44 rfl ?_
    refine g_aload_n (pc := 45) hC dX1_add_45 rfl ?_
    refine g_getR (pc := 46) hC fl_X1_9 (PcsAt.l0 hq) hq.2.1 rfl dX1_add_46 ?_
    refine g_iload_n (pc := 49) hC dX1_add_49 rfl ?_
    refine g_iald (pc := 50) hC (PcsAt.l1 hq) hq.2.2.1 dX1_add_50 ?_
    refine g_iload_n (pc := 51) hC dX1_add_51 rfl ?_
    refine g_max (pc := 52) hC ww_291 ww_284 ww_51 ww_285 (by decide) (Nat.le_of_ble_eq_true rfl) (by decide) (by decide) dX1_add_52 ?_
    refine g_iast (pc := 55) hC (PcsAt.l1 hq) hq.2.2.1 dX1_add_55 (fun V2 => ?_)
    exact g_vret (pc := 56) hC hrt hlk dX1_add_56
  show G p l e rm_X1_add s m args below meth c 0 0 (MQ below (va_Qv K (Bq D ad cy) A) args s 0 0 A) 3 D ad cy A (wp_X1_add V K q a1) V 0 [some (.ref (ad q)), some (.int a1), none] []
  refine g_aload_n (pc := 0) hC dX1_add_0 rfl ?_
  refine g_getI (pc := 1) hC fl_X1_18 (PcsAt.l0 hq) hq.2.1 rfl dX1_add_1 ?_
  refine g_iconst (pc := 4) hC (1 : Int32) dX1_add_4 (by decide) ?_
  refine g_isub (pc := 5) hC dX1_add_5 ?_
  refine g_nm (fun x1 => ?_)
  refine g_istore_n (pc := 6) (L2 := [some (.ref (ad q)), some (.int a1), some (.int x1)]) hC dX1_add_6 (by decide) rfl ?_
  refine g_iload_n (pc := 7) hC dX1_add_7 rfl ?_
  refine g_if_lt (pc := 8) (tgt := 57) hC dX1_add_8 (by decide) ?_ ?_
  · exact g_ms [true, true, false] (J_57  V)
  · refine g_aload_n (pc := 11) hC dX1_add_11 rfl ?_
    refine g_getR (pc := 12) hC fl_X1_9 (PcsAt.l0 hq) hq.2.1 rfl dX1_add_12 ?_
    refine g_iload_n (pc := 15) hC dX1_add_15 rfl ?_
    refine g_iald (pc := 16) hC (PcsAt.l1 hq) hq.2.2.1 dX1_add_16 ?_
    refine g_iload_n (pc := 17) hC dX1_add_17 rfl ?_
    refine g_icmp_eq (pc := 18) (tgt := 30) hC dX1_add_18 (by decide) ?_ ?_
    · exact J_30  V x1
    · refine g_aload_n (pc := 21) hC dX1_add_21 rfl ?_
      refine g_getI (pc := 22) hC fl_X1_18 (PcsAt.l0 hq) hq.2.1 rfl dX1_add_22 ?_
      refine g_bipush (pc := 25) hC (16 : Int32) dX1_add_25 (by decide) ?_
      refine g_icmp_lt (pc := 27) (tgt := 57) hC dX1_add_27 (by decide) ?_ ?_
      · exact g_ms [true, true, false] (J_57  V)
      · exact J_30  V x1
def rm_X1_removeUpTo : Room := ({ frames := 0, cells := 0, slots := 0, locals := 0 } : Room)
def h_X1_removeUpTo_7 (K : Int32 → St → Prop) (q : Nat) (a1 : Int32) (rec_7 : St → Int32 → Int32 → Int32 → Prop) (V : St) (l2 : Int32) (l3 : Int32) (l4 : Int32) : Prop := if (V q 2) ≤ l4 then (∀ V1 : St, V1 = up2 V q 2 l3 → K l2 V1) else (vp_in l4 16 ∧ if a1 < (V (q + 1) l4.toNatClampNeg) then (vp_in l4 16 ∧ vp_in l3 16 ∧ ∀ V2 : St, V2 = up2 V (q + 1) l3.toNatClampNeg (V (q + 1) l4.toNatClampNeg) → vp_in l4 16 ∧ vp_in l3 16 ∧ ∀ V3 : St, V3 = up2 V2 (q + 2) l3.toNatClampNeg (V2 (q + 2) l4.toNatClampNeg) → rec_7 V3 l2 (l3 + 1) (l4 + 1)) else (vp_in l4 16 ∧ ∀ x4 : Int32, x4 = (l2 + (V (q + 2) l4.toNatClampNeg)) → rec_7 V x4 l3 (l4 + 1)))
def wp_X1_removeUpTo (V : St) (K : Int32 → St → Prop) (q : Nat) (a1 : Int32) : Prop := ∃ n, lp (fun _ _ _ _ => False) (h_X1_removeUpTo_7 K q a1) n V (0 : Int32) (0 : Int32) (0 : Int32)
set_option maxRecDepth 100000 in
set_option maxHeartbeats 4000000 in
theorem c_X1_removeUpTo {l : Launch} {D : va_G} {ad : Nat → Nat} {cy : Nat → ClassId} (hi : inj ad) {V : St} {K : Int32 → St → Prop} {q : Nat} {a1 : Int32} (hq : PcsAt q) : wp_X1_removeUpTo V K q a1 → Hi l D ad cy yX1_removeUpTo (Cond.code yX1_removeUpTo cX1_removeUpTo 5 (some .int) :: WA) rm_X1_removeUpTo [.ref (ad q), .int a1] V K := by
  refine H_i (w := wp_X1_removeUpTo V K q a1) (by decide) (Nat.le_of_ble_eq_true rfl) (List.forall_mem_cons.mpr ⟨rfl, (List.forall_mem_cons.mpr ⟨rfl, (fun _ h => absurd h List.not_mem_nil)⟩)⟩) hi ?_
  intro p e s m args below meth c A hC hrt hlk
  have J_7 : ∀ (n : Nat), ∀ (V : St) (l2 : Int32) (l3 : Int32) (l4 : Int32), G p l e rm_X1_removeUpTo s m args below meth c 0 0 (MQ below (va_Qi K (Bq D ad cy) A) args s 0 0 A) 5 D ad cy A (lp (fun _ _ _ _ => False) (h_X1_removeUpTo_7 K q a1) n V l2 l3 l4) V 7 [some (.ref (ad q)), some (.int a1), some (.int l2), some (.int l3), some (.int l4)] [] := by
    intro n
    induction n with
    | zero => exact fun _ _ _ _ h => False.elim h
    | succ n IH =>
      generalize hrec : lp (fun _ _ _ _ => False) (h_X1_removeUpTo_7 K q a1) n = rec_7 at IH
      have ih_7 := IH
      intro V l2 l3 l4 
      show G p l e rm_X1_removeUpTo s m args below meth c 0 0 (MQ below (va_Qi K (Bq D ad cy) A) args s 0 0 A) 5 D ad cy A (h_X1_removeUpTo_7 K q a1 (lp (fun _ _ _ _ => False) (h_X1_removeUpTo_7 K q a1) n) V l2 l3 l4) V 7 [some (.ref (ad q)), some (.int a1), some (.int l2), some (.int l3), some (.int l4)] []
      rw [hrec]
      refine g_iload (pc := 7) hC dX1_removeUpTo_7 rfl ?_
      refine g_aload_n (pc := 9) hC dX1_removeUpTo_9 rfl ?_
      refine g_getI (pc := 10) hC fl_X1_18 (PcsAt.l0 hq) hq.2.1 rfl dX1_removeUpTo_10 ?_
      refine g_icmp_ge (pc := 13) (tgt := 75) hC dX1_removeUpTo_13 (by decide) ?_ ?_
      · refine g_aload_n (pc := 75) hC dX1_removeUpTo_75 rfl ?_
        refine g_iload_n (pc := 76) hC dX1_removeUpTo_76 rfl ?_
        refine g_putI (pc := 77) hC fp_X1_18 (PcsAt.l0 hq) hq.2.1 rfl dX1_removeUpTo_77 (fun V1 => ?_)
        refine g_iload_n (pc := 80) hC dX1_removeUpTo_80 rfl ?_
        exact g_iret (pc := 81) hC hrt hlk dX1_removeUpTo_81
      · refine g_aload_n (pc := 16) hC dX1_removeUpTo_16 rfl ?_
        refine g_getR (pc := 17) hC fl_X1_9 (PcsAt.l0 hq) hq.2.1 rfl dX1_removeUpTo_17 ?_
        refine g_iload (pc := 20) hC dX1_removeUpTo_20 rfl ?_
        refine g_iald (pc := 22) hC (PcsAt.l1 hq) hq.2.2.1 dX1_removeUpTo_22 ?_
        refine g_iload_n (pc := 23) hC dX1_removeUpTo_23 rfl ?_
        refine g_icmp_gt (pc := 24) (tgt := 40) hC dX1_removeUpTo_24 (by decide) ?_ ?_
        · refine g_aload_n (pc := 40) hC dX1_removeUpTo_40 rfl ?_
          refine g_getR (pc := 41) hC fl_X1_9 (PcsAt.l0 hq) hq.2.1 rfl dX1_removeUpTo_41 ?_
          refine g_iload_n (pc := 44) hC dX1_removeUpTo_44 rfl ?_
          refine g_aload_n (pc := 45) hC dX1_removeUpTo_45 rfl ?_
          refine g_getR (pc := 46) hC fl_X1_9 (PcsAt.l0 hq) hq.2.1 rfl dX1_removeUpTo_46 ?_
          refine g_iload (pc := 49) hC dX1_removeUpTo_49 rfl ?_
          refine g_iald (pc := 51) hC (PcsAt.l1 hq) hq.2.2.1 dX1_removeUpTo_51 ?_
          refine g_iast (pc := 52) hC (PcsAt.l1 hq) hq.2.2.1 dX1_removeUpTo_52 (fun V2 => ?_)
          refine g_aload_n (pc := 53) hC dX1_removeUpTo_53 rfl ?_
          refine g_getR (pc := 54) hC fl_X1_15 (PcsAt.l0 hq) hq.2.1 rfl dX1_removeUpTo_54 ?_
          refine g_iload_n (pc := 57) hC dX1_removeUpTo_57 rfl ?_
          refine g_aload_n (pc := 58) hC dX1_removeUpTo_58 rfl ?_
          refine g_getR (pc := 59) hC fl_X1_15 (PcsAt.l0 hq) hq.2.1 rfl dX1_removeUpTo_59 ?_
          refine g_iload (pc := 62) hC dX1_removeUpTo_62 rfl ?_
          refine g_iald (pc := 64) hC (PcsAt.l2 hq) hq.2.2.2 dX1_removeUpTo_64 ?_
          refine g_iast (pc := 65) hC (PcsAt.l2 hq) hq.2.2.2 dX1_removeUpTo_65 (fun V3 => ?_)
          refine g_iinc (pc := 66) (L2 := [some (.ref (ad q)), some (.int a1), some (.int l2), some (.int (l3 + 1)), some (.int l4)]) hC (l3 + 1) dX1_removeUpTo_66 rfl rfl (by decide) rfl ?_
          refine g_iinc (pc := 69) (L2 := [some (.ref (ad q)), some (.int a1), some (.int l2), some (.int (l3 + 1)), some (.int (l4 + 1))]) hC (l4 + 1) dX1_removeUpTo_69 rfl rfl (by decide) rfl ?_
          refine g_goto (pc := 72) (tgt := 7) hC dX1_removeUpTo_72 (by decide) ?_
          exact ih_7 V3 l2 (l3 + 1) (l4 + 1)
        · refine g_iload_n (pc := 27) hC dX1_removeUpTo_27 rfl ?_
          refine g_aload_n (pc := 28) hC dX1_removeUpTo_28 rfl ?_
          refine g_getR (pc := 29) hC fl_X1_15 (PcsAt.l0 hq) hq.2.1 rfl dX1_removeUpTo_29 ?_
          refine g_iload (pc := 32) hC dX1_removeUpTo_32 rfl ?_
          refine g_iald (pc := 34) hC (PcsAt.l2 hq) hq.2.2.2 dX1_removeUpTo_34 ?_
          refine g_iadd (pc := 35) hC dX1_removeUpTo_35 ?_
          refine g_nm (fun x4 => ?_)
          refine g_istore_n (pc := 36) (L2 := [some (.ref (ad q)), some (.int a1), some (.int x4), some (.int l3), some (.int l4)]) hC dX1_removeUpTo_36 (by decide) rfl ?_
          refine g_goto (pc := 37) (tgt := 69) hC dX1_removeUpTo_37 (by decide) ?_
          refine g_iinc (pc := 69) (L2 := [some (.ref (ad q)), some (.int a1), some (.int x4), some (.int l3), some (.int (l4 + 1))]) hC (l4 + 1) dX1_removeUpTo_69 rfl rfl (by decide) rfl ?_
          refine g_goto (pc := 72) (tgt := 7) hC dX1_removeUpTo_72 (by decide) ?_
          exact ih_7 V x4 l3 (l4 + 1)
  show G p l e rm_X1_removeUpTo s m args below meth c 0 0 (MQ below (va_Qi K (Bq D ad cy) A) args s 0 0 A) 5 D ad cy A (wp_X1_removeUpTo V K q a1) V 0 [some (.ref (ad q)), some (.int a1), none, none, none] []
  refine g_iconst (pc := 0) hC (0 : Int32) dX1_removeUpTo_0 (by decide) ?_
  refine g_istore_n (pc := 1) (L2 := [some (.ref (ad q)), some (.int a1), some (.int (0 : Int32)), none, none]) hC dX1_removeUpTo_1 (by decide) rfl ?_
  refine g_iconst (pc := 2) hC (0 : Int32) dX1_removeUpTo_2 (by decide) ?_
  refine g_istore_n (pc := 3) (L2 := [some (.ref (ad q)), some (.int a1), some (.int (0 : Int32)), some (.int (0 : Int32)), none]) hC dX1_removeUpTo_3 (by decide) rfl ?_
  refine g_iconst (pc := 4) hC (0 : Int32) dX1_removeUpTo_4 (by decide) ?_
  refine g_istore (pc := 5) (L2 := [some (.ref (ad q)), some (.int a1), some (.int (0 : Int32)), some (.int (0 : Int32)), some (.int (0 : Int32))]) hC dX1_removeUpTo_5 (by decide) rfl ?_
  exact g_ex (fun n => J_7  n V (0 : Int32) (0 : Int32) (0 : Int32))
def rm_X1_next : Room := ({ frames := 0, cells := 0, slots := 0, locals := 0 } : Room)
def h_X1_next_4 (K : Int32 → St → Prop) (q : Nat) (rec_4 : St → Int32 → Int32 → Prop) (V : St) (l1 : Int32) (l2 : Int32) : Prop := if (V q 2) ≤ l2 then (K l1 V) else (vp_in l2 16 ∧ vp_in l1 16 ∧ if (V (q + 1) l1.toNatClampNeg) ≤ (V (q + 1) l2.toNatClampNeg) then (rec_4 V l1 (l2 + 1)) else (rec_4 V l2 (l2 + 1)))
def wp_X1_next (V : St) (K : Int32 → St → Prop) (q : Nat) : Prop := ∃ n, lp (fun _ _ _ => False) (h_X1_next_4 K q) n V (0 : Int32) (1 : Int32)
set_option maxRecDepth 100000 in
set_option maxHeartbeats 4000000 in
theorem c_X1_next {l : Launch} {D : va_G} {ad : Nat → Nat} {cy : Nat → ClassId} (hi : inj ad) {V : St} {K : Int32 → St → Prop} {q : Nat} (hq : PcsAt q) : wp_X1_next V K q → Hi l D ad cy yX1_next (Cond.code yX1_next cX1_next 3 (some .int) :: WA) rm_X1_next [.ref (ad q)] V K := by
  refine H_i (w := wp_X1_next V K q) (by decide) (Nat.le_of_ble_eq_true rfl) (List.forall_mem_cons.mpr ⟨rfl, (fun _ h => absurd h List.not_mem_nil)⟩) hi ?_
  intro p e s m args below meth c A hC hrt hlk
  have J_4 : ∀ (n : Nat), ∀ (V : St) (l1 : Int32) (l2 : Int32), G p l e rm_X1_next s m args below meth c 0 0 (MQ below (va_Qi K (Bq D ad cy) A) args s 0 0 A) 3 D ad cy A (lp (fun _ _ _ => False) (h_X1_next_4 K q) n V l1 l2) V 4 [some (.ref (ad q)), some (.int l1), some (.int l2)] [] := by
    intro n
    induction n with
    | zero => exact fun _ _ _ h => False.elim h
    | succ n IH =>
      generalize hrec : lp (fun _ _ _ => False) (h_X1_next_4 K q) n = rec_4 at IH
      have ih_4 := IH
      intro V l1 l2 
      show G p l e rm_X1_next s m args below meth c 0 0 (MQ below (va_Qi K (Bq D ad cy) A) args s 0 0 A) 3 D ad cy A (h_X1_next_4 K q (lp (fun _ _ _ => False) (h_X1_next_4 K q) n) V l1 l2) V 4 [some (.ref (ad q)), some (.int l1), some (.int l2)] []
      rw [hrec]
      refine g_iload_n (pc := 4) hC dX1_next_4 rfl ?_
      refine g_aload_n (pc := 5) hC dX1_next_5 rfl ?_
      refine g_getI (pc := 6) hC fl_X1_18 (PcsAt.l0 hq) hq.2.1 rfl dX1_next_6 ?_
      refine g_icmp_ge (pc := 9) (tgt := 35) hC dX1_next_9 (by decide) ?_ ?_
      · refine g_iload_n (pc := 35) hC dX1_next_35 rfl ?_
        exact g_iret (pc := 36) hC hrt hlk dX1_next_36
      · refine g_aload_n (pc := 12) hC dX1_next_12 rfl ?_
        refine g_getR (pc := 13) hC fl_X1_9 (PcsAt.l0 hq) hq.2.1 rfl dX1_next_13 ?_
        refine g_iload_n (pc := 16) hC dX1_next_16 rfl ?_
        refine g_iald (pc := 17) hC (PcsAt.l1 hq) hq.2.2.1 dX1_next_17 ?_
        refine g_aload_n (pc := 18) hC dX1_next_18 rfl ?_
        refine g_getR (pc := 19) hC fl_X1_9 (PcsAt.l0 hq) hq.2.1 rfl dX1_next_19 ?_
        refine g_iload_n (pc := 22) hC dX1_next_22 rfl ?_
        refine g_iald (pc := 23) hC (PcsAt.l1 hq) hq.2.2.1 dX1_next_23 ?_
        refine g_icmp_ge (pc := 24) (tgt := 29) hC dX1_next_24 (by decide) ?_ ?_
        · refine g_iinc (pc := 29) (L2 := [some (.ref (ad q)), some (.int l1), some (.int (l2 + 1))]) hC (l2 + 1) dX1_next_29 rfl rfl (by decide) rfl ?_
          refine g_goto (pc := 32) (tgt := 4) hC dX1_next_32 (by decide) ?_
          exact ih_4 V l1 (l2 + 1)
        · refine g_iload_n (pc := 27) hC dX1_next_27 rfl ?_
          refine g_istore_n (pc := 28) (L2 := [some (.ref (ad q)), some (.int l2), some (.int l2)]) hC dX1_next_28 (by decide) rfl ?_
          refine g_iinc (pc := 29) (L2 := [some (.ref (ad q)), some (.int l2), some (.int (l2 + 1))]) hC (l2 + 1) dX1_next_29 rfl rfl (by decide) rfl ?_
          refine g_goto (pc := 32) (tgt := 4) hC dX1_next_32 (by decide) ?_
          exact ih_4 V l2 (l2 + 1)
  show G p l e rm_X1_next s m args below meth c 0 0 (MQ below (va_Qi K (Bq D ad cy) A) args s 0 0 A) 3 D ad cy A (wp_X1_next V K q) V 0 [some (.ref (ad q)), none, none] []
  refine g_iconst (pc := 0) hC (0 : Int32) dX1_next_0 (by decide) ?_
  refine g_istore_n (pc := 1) (L2 := [some (.ref (ad q)), some (.int (0 : Int32)), none]) hC dX1_next_1 (by decide) rfl ?_
  refine g_iconst (pc := 2) hC (1 : Int32) dX1_next_2 (by decide) ?_
  refine g_istore_n (pc := 3) (L2 := [some (.ref (ad q)), some (.int (0 : Int32)), some (.int (1 : Int32))]) hC dX1_next_3 (by decide) rfl ?_
  exact g_ex (fun n => J_4  n V (0 : Int32) (1 : Int32))
def rm_X1_nextTime : Room := ({ frames := 1, cells := 0, slots := 0, locals := 22 } : Room)
def wp_X1_nextTime (V : St) (K : Int32 → St → Prop) (q : Nat) : Prop := if (V q 2) ≤ 0 then (K (-1 : Int32) V) else (wp_X1_next V (fun (r1 : Int32) (V2 : St) => vp_in r1 16 ∧ K (V2 (q + 1) r1.toNatClampNeg) V2) q)
set_option maxRecDepth 100000 in
set_option maxHeartbeats 4000000 in
theorem c_X1_nextTime {l : Launch} {D : va_G} {ad : Nat → Nat} {cy : Nat → ClassId} (hi : inj ad) {V : St} {K : Int32 → St → Prop} {q : Nat} (hq : PcsAt q) : wp_X1_nextTime V K q → Hi l D ad cy yX1_nextTime (Cond.code yX1_nextTime cX1_nextTime 1 (some .int) :: WA) rm_X1_nextTime [.ref (ad q)] V K := by
  refine H_i (w := wp_X1_nextTime V K q) (by decide) (Nat.le_of_ble_eq_true rfl) (List.forall_mem_cons.mpr ⟨rfl, (fun _ h => absurd h List.not_mem_nil)⟩) hi ?_
  intro p e s m args below meth c A hC hrt hlk
  show G p l e rm_X1_nextTime s m args below meth c 0 0 (MQ below (va_Qi K (Bq D ad cy) A) args s 0 0 A) 1 D ad cy A (wp_X1_nextTime V K q) V 0 [some (.ref (ad q))] []
  refine g_aload_n (pc := 0) hC dX1_nextTime_0 rfl ?_
  refine g_getI (pc := 1) hC fl_X1_18 (PcsAt.l0 hq) hq.2.1 rfl dX1_nextTime_1 ?_
  refine g_if_le (pc := 4) (tgt := 19) hC dX1_nextTime_4 (by decide) ?_ ?_
  · refine g_iconst (pc := 19) hC (-1 : Int32) dX1_nextTime_19 (by decide) ?_
    exact g_iret (pc := 20) hC hrt hlk dX1_nextTime_20
  · refine g_aload_n (pc := 7) hC dX1_nextTime_7 rfl ?_
    refine g_getR (pc := 8) hC fl_X1_9 (PcsAt.l0 hq) hq.2.1 rfl dX1_nextTime_8 ?_
    refine g_aload_n (pc := 11) hC dX1_nextTime_11 rfl ?_
    refine g_cvi (pc := 12) hC (c_X1_next hC.2.2.2.1 hq) mi_X1_next ww_524 ⟨rfl, rfl⟩ ⟨by decide, by decide⟩ (PcsAt.l0 hq) hq.2.1 rfl rfl rfl (Nat.le_of_ble_eq_true rfl) ⟨Nat.le_of_ble_eq_true rfl, Nat.le_of_ble_eq_true rfl⟩ dX1_nextTime_12 (fun r1 V2 => ?_)
    refine g_iald (pc := 15) hC (PcsAt.l1 hq) hq.2.2.1 dX1_nextTime_15 ?_
    refine g_goto (pc := 16) (tgt := 20) hC dX1_nextTime_16 (by decide) ?_
    exact g_iret (pc := 20) hC hrt hlk dX1_nextTime_20
def rm_X1_nextAmount : Room := ({ frames := 1, cells := 0, slots := 0, locals := 22 } : Room)
def wp_X1_nextAmount (V : St) (K : Int32 → St → Prop) (q : Nat) : Prop := if (V q 2) ≤ 0 then (K (0 : Int32) V) else (wp_X1_next V (fun (r1 : Int32) (V2 : St) => vp_in r1 16 ∧ K (V2 (q + 2) r1.toNatClampNeg) V2) q)
set_option maxRecDepth 100000 in
set_option maxHeartbeats 4000000 in
theorem c_X1_nextAmount {l : Launch} {D : va_G} {ad : Nat → Nat} {cy : Nat → ClassId} (hi : inj ad) {V : St} {K : Int32 → St → Prop} {q : Nat} (hq : PcsAt q) : wp_X1_nextAmount V K q → Hi l D ad cy yX1_nextAmount (Cond.code yX1_nextAmount cX1_nextAmount 1 (some .int) :: WA) rm_X1_nextAmount [.ref (ad q)] V K := by
  refine H_i (w := wp_X1_nextAmount V K q) (by decide) (Nat.le_of_ble_eq_true rfl) (List.forall_mem_cons.mpr ⟨rfl, (fun _ h => absurd h List.not_mem_nil)⟩) hi ?_
  intro p e s m args below meth c A hC hrt hlk
  show G p l e rm_X1_nextAmount s m args below meth c 0 0 (MQ below (va_Qi K (Bq D ad cy) A) args s 0 0 A) 1 D ad cy A (wp_X1_nextAmount V K q) V 0 [some (.ref (ad q))] []
  refine g_aload_n (pc := 0) hC dX1_nextAmount_0 rfl ?_
  refine g_getI (pc := 1) hC fl_X1_18 (PcsAt.l0 hq) hq.2.1 rfl dX1_nextAmount_1 ?_
  refine g_if_le (pc := 4) (tgt := 19) hC dX1_nextAmount_4 (by decide) ?_ ?_
  · refine g_iconst (pc := 19) hC (0 : Int32) dX1_nextAmount_19 (by decide) ?_
    exact g_iret (pc := 20) hC hrt hlk dX1_nextAmount_20
  · refine g_aload_n (pc := 7) hC dX1_nextAmount_7 rfl ?_
    refine g_getR (pc := 8) hC fl_X1_15 (PcsAt.l0 hq) hq.2.1 rfl dX1_nextAmount_8 ?_
    refine g_aload_n (pc := 11) hC dX1_nextAmount_11 rfl ?_
    refine g_cvi (pc := 12) hC (c_X1_next hC.2.2.2.1 hq) mi_X1_next ww_524 ⟨rfl, rfl⟩ ⟨by decide, by decide⟩ (PcsAt.l0 hq) hq.2.1 rfl rfl rfl (Nat.le_of_ble_eq_true rfl) ⟨Nat.le_of_ble_eq_true rfl, Nat.le_of_ble_eq_true rfl⟩ dX1_nextAmount_12 (fun r1 V2 => ?_)
    refine g_iald (pc := 15) hC (PcsAt.l2 hq) hq.2.2.2 dX1_nextAmount_15 ?_
    refine g_goto (pc := 16) (tgt := 20) hC dX1_nextAmount_16 (by decide) ?_
    exact g_iret (pc := 20) hC hrt hlk dX1_nextAmount_20
def rm_X2_add : Room := ({ frames := 0, cells := 0, slots := 0, locals := 0 } : Room)
def wp_X2_add (V : St) (K : St → Prop) (r : Nat) (n : Nat) (a1 : Int32) : Prop := if (nI n) ≤ (V r 2) then (K V) else (¬ (nI n) = 0 ∧ vp_in (((V r 1) + (V r 2)) - ((V r 1) + (V r 2)) / (nI n) * (nI n)) n ∧ ∀ V1 : St, V1 = up2 V (r + 1) (((V r 1) + (V r 2)) - ((V r 1) + (V r 2)) / (nI n) * (nI n)).toNatClampNeg a1 → ∀ V2 : St, V2 = up2 V1 r 2 ((V1 r 2) + (1 : Int32)) → K V2)
set_option maxRecDepth 100000 in
set_option maxHeartbeats 4000000 in
theorem c_X2_add {l : Launch} {D : va_G} {ad : Nat → Nat} {cy : Nat → ClassId} (hi : inj ad) {V : St} {K : St → Prop} {r : Nat} {n : Nat} {a1 : Int32} (hr : RowAt r n) : wp_X2_add V K r n a1 → Hv l D ad cy yX2_add (Cond.code yX2_add cX2_add 2 none :: WA) rm_X2_add [.ref (ad r), .int a1] V K := by
  refine H_v (w := wp_X2_add V K r n a1) (by decide) (Nat.le_of_ble_eq_true rfl) (List.forall_mem_cons.mpr ⟨rfl, (List.forall_mem_cons.mpr ⟨rfl, (fun _ h => absurd h List.not_mem_nil)⟩)⟩) hi ?_
  intro p e s m args below meth c A hC hrt hlk
  show G p l e rm_X2_add s m args below meth c 0 0 (MQ below (va_Qv K (Bq D ad cy) A) args s 0 0 A) 2 D ad cy A (wp_X2_add V K r n a1) V 0 [some (.ref (ad r)), some (.int a1)] []
  refine g_aload_n (pc := 0) hC dX2_add_0 rfl ?_
  refine g_getI (pc := 1) hC fl_X2_13 (RowAt.l0 hr) hr.2.1 rfl dX2_add_1 ?_
  refine g_aload_n (pc := 4) hC dX2_add_4 rfl ?_
  refine g_getR (pc := 5) hC fl_X2_7 (RowAt.l0 hr) hr.2.1 rfl dX2_add_5 ?_
  refine g_alen (pc := 8) hC (RowAt.l1 hr) hr.2.2 dX2_add_8 ?_
  refine g_icmp_ge (pc := 9) (tgt := 43) hC dX2_add_9 (by decide) ?_ ?_
  · exact g_vret (pc := 43) hC hrt hlk dX2_add_43
  · refine g_aload_n (pc := 12) hC dX2_add_12 rfl ?_
    refine g_getR (pc := 13) hC fl_X2_7 (RowAt.l0 hr) hr.2.1 rfl dX2_add_13 ?_
    refine g_aload_n (pc := 16) hC dX2_add_16 rfl ?_
    refine g_getI (pc := 17) hC fl_X2_17 (RowAt.l0 hr) hr.2.1 rfl dX2_add_17 ?_
    refine g_aload_n (pc := 20) hC dX2_add_20 rfl ?_
    refine g_getI (pc := 21) hC fl_X2_13 (RowAt.l0 hr) hr.2.1 rfl dX2_add_21 ?_
    refine g_iadd (pc := 24) hC dX2_add_24 ?_
    refine g_aload_n (pc := 25) hC dX2_add_25 rfl ?_
    refine g_getR (pc := 26) hC fl_X2_7 (RowAt.l0 hr) hr.2.1 rfl dX2_add_26 ?_
    refine g_alen (pc := 29) hC (RowAt.l1 hr) hr.2.2 dX2_add_29 ?_
    refine g_irem (pc := 30) hC dX2_add_30 ?_
    refine g_iload_n (pc := 31) hC dX2_add_31 rfl ?_
    refine g_iast (pc := 32) hC (RowAt.l1 hr) hr.2.2 dX2_add_32 (fun V1 => ?_)
    refine g_aload_n (pc := 33) hC dX2_add_33 rfl ?_
    refine g_dup (pc := 34) hC dX2_add_34 rfl ?_
    refine g_getI (pc := 35) hC fl_X2_13 (RowAt.l0 hr) hr.2.1 rfl dX2_add_35 ?_
    refine g_iconst (pc := 38) hC (1 : Int32) dX2_add_38 (by decide) ?_
    refine g_iadd (pc := 39) hC dX2_add_39 ?_
    refine g_putI (pc := 40) hC fp_X2_13 (RowAt.l0 hr) hr.2.1 rfl dX2_add_40 (fun V2 => ?_)
    exact g_vret (pc := 43) hC hrt hlk dX2_add_43
def rm_X2_first : Room := ({ frames := 0, cells := 0, slots := 0, locals := 0 } : Room)
def wp_X2_first (V : St) (K : Int32 → St → Prop) (r : Nat) (n : Nat) : Prop := vp_in (V r 1) n ∧ K (V (r + 1) (V r 1).toNatClampNeg) V
set_option maxRecDepth 100000 in
set_option maxHeartbeats 4000000 in
theorem c_X2_first {l : Launch} {D : va_G} {ad : Nat → Nat} {cy : Nat → ClassId} (hi : inj ad) {V : St} {K : Int32 → St → Prop} {r : Nat} {n : Nat} (hr : RowAt r n) : wp_X2_first V K r n → Hi l D ad cy yX2_first (Cond.code yX2_first cX2_first 1 (some .int) :: WA) rm_X2_first [.ref (ad r)] V K := by
  refine H_i (w := wp_X2_first V K r n) (by decide) (Nat.le_of_ble_eq_true rfl) (List.forall_mem_cons.mpr ⟨rfl, (fun _ h => absurd h List.not_mem_nil)⟩) hi ?_
  intro p e s m args below meth c A hC hrt hlk
  show G p l e rm_X2_first s m args below meth c 0 0 (MQ below (va_Qi K (Bq D ad cy) A) args s 0 0 A) 1 D ad cy A (wp_X2_first V K r n) V 0 [some (.ref (ad r))] []
  refine g_aload_n (pc := 0) hC dX2_first_0 rfl ?_
  refine g_getR (pc := 1) hC fl_X2_7 (RowAt.l0 hr) hr.2.1 rfl dX2_first_1 ?_
  refine g_aload_n (pc := 4) hC dX2_first_4 rfl ?_
  refine g_getI (pc := 5) hC fl_X2_17 (RowAt.l0 hr) hr.2.1 rfl dX2_first_5 ?_
  refine g_iald (pc := 8) hC (RowAt.l1 hr) hr.2.2 dX2_first_8 ?_
  exact g_iret (pc := 9) hC hrt hlk dX2_first_9
def rm_X2_removeFirst : Room := ({ frames := 0, cells := 0, slots := 0, locals := 0 } : Room)
def wp_X2_removeFirst (V : St) (K : St → Prop) (r : Nat) (n : Nat) : Prop := if (V r 2) ≤ 0 then (K V) else (¬ (nI n) = 0 ∧ ∀ V1 : St, V1 = up2 V r 1 (((V r 1) + (1 : Int32)) - ((V r 1) + (1 : Int32)) / (nI n) * (nI n)) → ∀ V2 : St, V2 = up2 V1 r 2 ((V1 r 2) - (1 : Int32)) → K V2)
set_option maxRecDepth 100000 in
set_option maxHeartbeats 4000000 in
theorem c_X2_removeFirst {l : Launch} {D : va_G} {ad : Nat → Nat} {cy : Nat → ClassId} (hi : inj ad) {V : St} {K : St → Prop} {r : Nat} {n : Nat} (hr : RowAt r n) : wp_X2_removeFirst V K r n → Hv l D ad cy yX2_removeFirst (Cond.code yX2_removeFirst cX2_removeFirst 1 none :: WA) rm_X2_removeFirst [.ref (ad r)] V K := by
  refine H_v (w := wp_X2_removeFirst V K r n) (by decide) (Nat.le_of_ble_eq_true rfl) (List.forall_mem_cons.mpr ⟨rfl, (fun _ h => absurd h List.not_mem_nil)⟩) hi ?_
  intro p e s m args below meth c A hC hrt hlk
  show G p l e rm_X2_removeFirst s m args below meth c 0 0 (MQ below (va_Qv K (Bq D ad cy) A) args s 0 0 A) 1 D ad cy A (wp_X2_removeFirst V K r n) V 0 [some (.ref (ad r))] []
  refine g_aload_n (pc := 0) hC dX2_removeFirst_0 rfl ?_
  refine g_getI (pc := 1) hC fl_X2_13 (RowAt.l0 hr) hr.2.1 rfl dX2_removeFirst_1 ?_
  refine g_if_le (pc := 4) (tgt := 33) hC dX2_removeFirst_4 (by decide) ?_ ?_
  · exact g_vret (pc := 33) hC hrt hlk dX2_removeFirst_33
  · refine g_aload_n (pc := 7) hC dX2_removeFirst_7 rfl ?_
    refine g_aload_n (pc := 8) hC dX2_removeFirst_8 rfl ?_
    refine g_getI (pc := 9) hC fl_X2_17 (RowAt.l0 hr) hr.2.1 rfl dX2_removeFirst_9 ?_
    refine g_iconst (pc := 12) hC (1 : Int32) dX2_removeFirst_12 (by decide) ?_
    refine g_iadd (pc := 13) hC dX2_removeFirst_13 ?_
    refine g_aload_n (pc := 14) hC dX2_removeFirst_14 rfl ?_
    refine g_getR (pc := 15) hC fl_X2_7 (RowAt.l0 hr) hr.2.1 rfl dX2_removeFirst_15 ?_
    refine g_alen (pc := 18) hC (RowAt.l1 hr) hr.2.2 dX2_removeFirst_18 ?_
    refine g_irem (pc := 19) hC dX2_removeFirst_19 ?_
    refine g_putI (pc := 20) hC fp_X2_17 (RowAt.l0 hr) hr.2.1 rfl dX2_removeFirst_20 (fun V1 => ?_)
    refine g_aload_n (pc := 23) hC dX2_removeFirst_23 rfl ?_
    refine g_dup (pc := 24) hC dX2_removeFirst_24 rfl ?_
    refine g_getI (pc := 25) hC fl_X2_13 (RowAt.l0 hr) hr.2.1 rfl dX2_removeFirst_25 ?_
    refine g_iconst (pc := 28) hC (1 : Int32) dX2_removeFirst_28 (by decide) ?_
    refine g_isub (pc := 29) hC dX2_removeFirst_29 ?_
    refine g_putI (pc := 30) hC fp_X2_13 (RowAt.l0 hr) hr.2.1 rfl dX2_removeFirst_30 (fun V2 => ?_)
    exact g_vret (pc := 33) hC hrt hlk dX2_removeFirst_33
def rm_X3_tell : Room := ({ frames := 0, cells := 0, slots := 0, locals := 0 } : Room)
def wp_X3_tell (V : St) (K : St → Prop) (b : Nat) (a1 : Int32) (a2 : Int32) (a3 : Int32) (a4 : Int32) (a5 : Int32) (a6 : Int32) : Prop := ((1 : Int32) = 0 ∨ (1 : Int32) = 1) ∧ ∀ V1 : St, V1 = up2 V b 3 (1 : Int32) → ∀ V2 : St, V2 = up2 V1 b 4 a1 → ∀ V3 : St, V3 = up2 V2 b 5 a2 → ∀ V4 : St, V4 = up2 V3 b 6 a3 → ∀ V5 : St, V5 = up2 V4 b 7 a4 → ∀ V6 : St, V6 = up2 V5 b 8 a5 → ∀ V7 : St, V7 = up2 V6 b 9 a6 → K V7
set_option maxRecDepth 100000 in
set_option maxHeartbeats 4000000 in
theorem c_X3_tell {l : Launch} {D : va_G} {ad : Nat → Nat} {cy : Nat → ClassId} (hi : inj ad) {V : St} {K : St → Prop} {b : Nat} {a1 : Int32} {a2 : Int32} {a3 : Int32} {a4 : Int32} {a5 : Int32} {a6 : Int32} (hb : SrcAt b) : wp_X3_tell V K b a1 a2 a3 a4 a5 a6 → Hv l D ad cy yX3_tell (Cond.code yX3_tell cX3_tell 7 none :: WA) rm_X3_tell [.ref (ad b), .int a1, .int a2, .int a3, .int a4, .int a5, .int a6] V K := by
  refine H_v (w := wp_X3_tell V K b a1 a2 a3 a4 a5 a6) (by decide) (Nat.le_of_ble_eq_true rfl) (List.forall_mem_cons.mpr ⟨rfl, (List.forall_mem_cons.mpr ⟨rfl, (List.forall_mem_cons.mpr ⟨rfl, (List.forall_mem_cons.mpr ⟨rfl, (List.forall_mem_cons.mpr ⟨rfl, (List.forall_mem_cons.mpr ⟨rfl, (List.forall_mem_cons.mpr ⟨rfl, (fun _ h => absurd h List.not_mem_nil)⟩)⟩)⟩)⟩)⟩)⟩)⟩) hi ?_
  intro p e s m args below meth c A hC hrt hlk
  show G p l e rm_X3_tell s m args below meth c 0 0 (MQ below (va_Qv K (Bq D ad cy) A) args s 0 0 A) 7 D ad cy A (wp_X3_tell V K b a1 a2 a3 a4 a5 a6) V 0 [some (.ref (ad b)), some (.int a1), some (.int a2), some (.int a3), some (.int a4), some (.int a5), some (.int a6)] []
  refine g_aload_n (pc := 0) hC dX3_tell_0 rfl ?_
  refine g_iconst (pc := 1) hC (1 : Int32) dX3_tell_1 (by decide) ?_
  refine g_putZ (pc := 2) hC fp_X3_30 (SrcAt.l0 hb) hb.2.1 rfl dX3_tell_2 (fun V1 => ?_)
  refine g_aload_n (pc := 5) hC dX3_tell_5 rfl ?_
  refine g_iload_n (pc := 6) hC dX3_tell_6 rfl ?_
  refine g_putI (pc := 7) hC fp_X3_34 (SrcAt.l0 hb) hb.2.1 rfl dX3_tell_7 (fun V2 => ?_)
  refine g_aload_n (pc := 10) hC dX3_tell_10 rfl ?_
  refine g_iload_n (pc := 11) hC dX3_tell_11 rfl ?_
  refine g_putI (pc := 12) hC fp_X3_38 (SrcAt.l0 hb) hb.2.1 rfl dX3_tell_12 (fun V3 => ?_)
  refine g_aload_n (pc := 15) hC dX3_tell_15 rfl ?_
  refine g_iload_n (pc := 16) hC dX3_tell_16 rfl ?_
  refine g_putI (pc := 17) hC fp_X3_41 (SrcAt.l0 hb) hb.2.1 rfl dX3_tell_17 (fun V4 => ?_)
  refine g_aload_n (pc := 20) hC dX3_tell_20 rfl ?_
  refine g_iload (pc := 21) hC dX3_tell_21 rfl ?_
  refine g_putI (pc := 23) hC fp_X3_44 (SrcAt.l0 hb) hb.2.1 rfl dX3_tell_23 (fun V5 => ?_)
  refine g_aload_n (pc := 26) hC dX3_tell_26 rfl ?_
  refine g_iload (pc := 27) hC dX3_tell_27 rfl ?_
  refine g_putI (pc := 29) hC fp_X3_47 (SrcAt.l0 hb) hb.2.1 rfl dX3_tell_29 (fun V6 => ?_)
  refine g_aload_n (pc := 32) hC dX3_tell_32 rfl ?_
  refine g_iload (pc := 33) hC dX3_tell_33 rfl ?_
  refine g_putI (pc := 35) hC fp_X3_50 (SrcAt.l0 hb) hb.2.1 rfl dX3_tell_35 (fun V7 => ?_)
  exact g_vret (pc := 38) hC hrt hlk dX3_tell_38
def rm_X3_fillBudget : Room := ({ frames := 1, cells := 0, slots := 0, locals := 21 } : Room)
def h_X3_fillBudget_2 (K : St → Prop) (b : Nat) (rec_2 : St → Int32 → Prop) (V : St) (l1 : Int32) : Prop := if (V b 7) ≤ l1 then (K V) else (wp_X2_add V (fun (V1 : St) => rec_2 V1 (l1 + 1)) (b + 3) 30 (0 : Int32))
def wp_X3_fillBudget (V : St) (K : St → Prop) (b : Nat) : Prop := ∃ n, lp (fun _ _ => False) (h_X3_fillBudget_2 K b) n V (0 : Int32)
set_option maxRecDepth 100000 in
set_option maxHeartbeats 4000000 in
theorem c_X3_fillBudget {l : Launch} {D : va_G} {ad : Nat → Nat} {cy : Nat → ClassId} (hi : inj ad) {V : St} {K : St → Prop} {b : Nat} (hb : SrcAt b) : wp_X3_fillBudget V K b → Hv l D ad cy yX3_fillBudget (Cond.code yX3_fillBudget cX3_fillBudget 2 none :: WA) rm_X3_fillBudget [.ref (ad b)] V K := by
  refine H_v (w := wp_X3_fillBudget V K b) (by decide) (Nat.le_of_ble_eq_true rfl) (List.forall_mem_cons.mpr ⟨rfl, (fun _ h => absurd h List.not_mem_nil)⟩) hi ?_
  intro p e s m args below meth c A hC hrt hlk
  have J_2 : ∀ (n : Nat), ∀ (V : St) (l1 : Int32), G p l e rm_X3_fillBudget s m args below meth c 0 0 (MQ below (va_Qv K (Bq D ad cy) A) args s 0 0 A) 2 D ad cy A (lp (fun _ _ => False) (h_X3_fillBudget_2 K b) n V l1) V 2 [some (.ref (ad b)), some (.int l1)] [] := by
    intro n
    induction n with
    | zero => exact fun _ _ h => False.elim h
    | succ n IH =>
      generalize hrec : lp (fun _ _ => False) (h_X3_fillBudget_2 K b) n = rec_2 at IH
      have ih_2 := IH
      intro V l1 
      show G p l e rm_X3_fillBudget s m args below meth c 0 0 (MQ below (va_Qv K (Bq D ad cy) A) args s 0 0 A) 2 D ad cy A (h_X3_fillBudget_2 K b (lp (fun _ _ => False) (h_X3_fillBudget_2 K b) n) V l1) V 2 [some (.ref (ad b)), some (.int l1)] []
      rw [hrec]
      refine g_iload_n (pc := 2) hC dX3_fillBudget_2 rfl ?_
      refine g_aload_n (pc := 3) hC dX3_fillBudget_3 rfl ?_
      refine g_getI (pc := 4) hC fl_X3_44 (SrcAt.l0 hb) hb.2.1 rfl dX3_fillBudget_4 ?_
      refine g_icmp_ge (pc := 7) (tgt := 24) hC dX3_fillBudget_7 (by decide) ?_ ?_
      · exact g_vret (pc := 24) hC hrt hlk dX3_fillBudget_24
      · refine g_aload_n (pc := 10) hC dX3_fillBudget_10 rfl ?_
        refine g_getR (pc := 11) hC fl_X3_20 (SrcAt.l0 hb) hb.2.1 rfl dX3_fillBudget_11 ?_
        refine g_iconst (pc := 14) hC (0 : Int32) dX3_fillBudget_14 (by decide) ?_
        refine g_cvv (pc := 15) hC (c_X2_add hC.2.2.2.1 hb.2.2.2.1) mi_X2_add ww_319 ⟨rfl, rfl⟩ ⟨by decide, by decide⟩ (RowAt.l0 hb.2.2.2.1) hb.2.2.2.1.2.1 rfl rfl rfl (Nat.le_of_ble_eq_true rfl) ⟨Nat.le_of_ble_eq_true rfl, Nat.le_of_ble_eq_true rfl⟩ dX3_fillBudget_15 (fun V1 => ?_)
        refine g_iinc (pc := 18) (L2 := [some (.ref (ad b)), some (.int (l1 + 1))]) hC (l1 + 1) dX3_fillBudget_18 rfl rfl (by decide) rfl ?_
        refine g_goto (pc := 21) (tgt := 2) hC dX3_fillBudget_21 (by decide) ?_
        exact ih_2 V1 (l1 + 1)
  show G p l e rm_X3_fillBudget s m args below meth c 0 0 (MQ below (va_Qv K (Bq D ad cy) A) args s 0 0 A) 2 D ad cy A (wp_X3_fillBudget V K b) V 0 [some (.ref (ad b)), none] []
  refine g_iconst (pc := 0) hC (0 : Int32) dX3_fillBudget_0 (by decide) ?_
  refine g_istore_n (pc := 1) (L2 := [some (.ref (ad b)), some (.int (0 : Int32))]) hC dX3_fillBudget_1 (by decide) rfl ?_
  exact g_ex (fun n => J_2  n V (0 : Int32))
def rm_X3_take : Room := ({ frames := 1, cells := 0, slots := 0, locals := 21 } : Room)
def b_X3_take_19 (K : Int32 → St → Prop) (b : Nat) (a1 : Int32) (V : St) : Prop := ∀ V1 : St, V1 = up2 V b 13 ((V b 13) + (1 : Int32)) → K (0 : Int32) V1
def b_X3_take_46 (K : Int32 → St → Prop) (b : Nat) (a1 : Int32) (V : St) : Prop := wp_X2_add V (fun (V1 : St) => ∀ V2 : St, V2 = up2 V1 b 11 ((V1 b 11) + (1 : Int32)) → if (V2 (b + 1) 2) ≤ (24 : Int32) then (K (1 : Int32) V2) else (((1 : Int32) = 0 ∨ (1 : Int32) = 1) ∧ ∀ V3 : St, V3 = up2 V2 b 10 (1 : Int32) → ∀ V4 : St, V4 = up2 V3 b 14 ((V3 b 14) + (1 : Int32)) → K (1 : Int32) V4)) (b + 1) 32 a1
def wp_X3_take (V : St) (K : Int32 → St → Prop) (b : Nat) (a1 : Int32) : Prop := if (V b 10) = 0 then (if (V (b + 1) 2) < (32 : Int32) then (if (V (b + 1) 2) = 0 then (∀ V1 : St, V1 = up2 V b 17 a1 → b_X3_take_46 K b a1 V1) else (b_X3_take_46 K b a1 V)) else (b_X3_take_19 K b a1 V)) else (b_X3_take_19 K b a1 V)
set_option maxRecDepth 100000 in
set_option maxHeartbeats 4000000 in
theorem c_X3_take {l : Launch} {D : va_G} {ad : Nat → Nat} {cy : Nat → ClassId} (hi : inj ad) {V : St} {K : Int32 → St → Prop} {b : Nat} {a1 : Int32} (hb : SrcAt b) : wp_X3_take V K b a1 → Hi l D ad cy yX3_take (Cond.code yX3_take cX3_take 2 (some .boolean) :: WA) rm_X3_take [.ref (ad b), .int a1] V K := by
  refine H_i (w := wp_X3_take V K b a1) (by decide) (Nat.le_of_ble_eq_true rfl) (List.forall_mem_cons.mpr ⟨rfl, (List.forall_mem_cons.mpr ⟨rfl, (fun _ h => absurd h List.not_mem_nil)⟩)⟩) hi ?_
  intro p e s m args below meth c A hC hrt hlk
  have J_19 : ∀ (V : St), G p l e rm_X3_take s m args below meth c 0 0 (MQ below (va_Qi K (Bq D ad cy) A) args s 0 0 A) 2 D ad cy A (b_X3_take_19 K b a1 V) V 19 [some (.ref (ad b)), none] [] := by
    intro  V 
    refine g_aload_n (pc := 19) hC dX3_take_19 rfl ?_
    refine g_dup (pc := 20) hC dX3_take_20 rfl ?_
    refine g_getI (pc := 21) hC fl_X3_62 (SrcAt.l0 hb) hb.2.1 rfl dX3_take_21 ?_
    refine g_iconst (pc := 24) hC (1 : Int32) dX3_take_24 (by decide) ?_
    refine g_iadd (pc := 25) hC dX3_take_25 ?_
    refine g_putI (pc := 26) hC fp_X3_62 (SrcAt.l0 hb) hb.2.1 rfl dX3_take_26 (fun V1 => ?_)
    refine g_iconst (pc := 29) hC (0 : Int32) dX3_take_29 (by decide) ?_
    exact g_zret0 (pc := 30) hC hrt hlk dX3_take_30 (by decide)
  have J_46 : ∀ (V : St), G p l e rm_X3_take s m args below meth c 0 0 (MQ below (va_Qi K (Bq D ad cy) A) args s 0 0 A) 2 D ad cy A (b_X3_take_46 K b a1 V) V 46 [some (.ref (ad b)), some (.int a1)] [] := by
    intro  V 
    refine g_aload_n (pc := 46) hC dX3_take_46 rfl ?_
    refine g_getR (pc := 47) hC fl_X3_14 (SrcAt.l0 hb) hb.2.1 rfl dX3_take_47 ?_
    refine g_iload_n (pc := 50) hC dX3_take_50 rfl ?_
    refine g_cvv (pc := 51) hC (c_X2_add hC.2.2.2.1 hb.2.2.1) mi_X2_add ww_319 ⟨rfl, rfl⟩ ⟨by decide, by decide⟩ (RowAt.l0 hb.2.2.1) hb.2.2.1.2.1 rfl rfl rfl (Nat.le_of_ble_eq_true rfl) ⟨Nat.le_of_ble_eq_true rfl, Nat.le_of_ble_eq_true rfl⟩ dX3_take_51 (fun V1 => ?_)
    refine g_aload_n (pc := 54) hC dX3_take_54 rfl ?_
    refine g_dup (pc := 55) hC dX3_take_55 rfl ?_
    refine g_getI (pc := 56) hC fl_X3_68 (SrcAt.l0 hb) hb.2.1 rfl dX3_take_56 ?_
    refine g_iconst (pc := 59) hC (1 : Int32) dX3_take_59 (by decide) ?_
    refine g_iadd (pc := 60) hC dX3_take_60 ?_
    refine g_putI (pc := 61) hC fp_X3_68 (SrcAt.l0 hb) hb.2.1 rfl dX3_take_61 (fun V2 => ?_)
    refine g_aload_n (pc := 64) hC dX3_take_64 rfl ?_
    refine g_getR (pc := 65) hC fl_X3_14 (SrcAt.l0 hb) hb.2.1 rfl dX3_take_65 ?_
    refine g_getI (pc := 68) hC fl_X3_59 (RowAt.l0 hb.2.2.1) hb.2.2.1.2.1 rfl dX3_take_68 ?_
    refine g_bipush (pc := 71) hC (24 : Int32) dX3_take_71 (by decide) ?_
    refine g_icmp_le (pc := 73) (tgt := 91) hC dX3_take_73 (by decide) ?_ ?_
    · refine g_iconst (pc := 91) hC (1 : Int32) dX3_take_91 (by decide) ?_
      exact g_zret0 (pc := 92) hC hrt hlk dX3_take_92 (by decide)
    · refine g_aload_n (pc := 76) hC dX3_take_76 rfl ?_
      refine g_iconst (pc := 77) hC (1 : Int32) dX3_take_77 (by decide) ?_
      refine g_putZ (pc := 78) hC fp_X3_56 (SrcAt.l0 hb) hb.2.1 rfl dX3_take_78 (fun V3 => ?_)
      refine g_aload_n (pc := 81) hC dX3_take_81 rfl ?_
      refine g_dup (pc := 82) hC dX3_take_82 rfl ?_
      refine g_getI (pc := 83) hC fl_X3_71 (SrcAt.l0 hb) hb.2.1 rfl dX3_take_83 ?_
      refine g_iconst (pc := 86) hC (1 : Int32) dX3_take_86 (by decide) ?_
      refine g_iadd (pc := 87) hC dX3_take_87 ?_
      refine g_putI (pc := 88) hC fp_X3_71 (SrcAt.l0 hb) hb.2.1 rfl dX3_take_88 (fun V4 => ?_)
      refine g_iconst (pc := 91) hC (1 : Int32) dX3_take_91 (by decide) ?_
      exact g_zret0 (pc := 92) hC hrt hlk dX3_take_92 (by decide)
  show G p l e rm_X3_take s m args below meth c 0 0 (MQ below (va_Qi K (Bq D ad cy) A) args s 0 0 A) 2 D ad cy A (wp_X3_take V K b a1) V 0 [some (.ref (ad b)), some (.int a1)] []
  refine g_aload_n (pc := 0) hC dX3_take_0 rfl ?_
  refine g_getI (pc := 1) hC fl_X3_56 (SrcAt.l0 hb) hb.2.1 rfl dX3_take_1 ?_
  refine g_if_ne (pc := 4) (tgt := 19) hC dX3_take_4 (by decide) ?_ ?_
  · exact g_ms [true, false] (J_19  V)
  · refine g_aload_n (pc := 7) hC dX3_take_7 rfl ?_
    refine g_getR (pc := 8) hC fl_X3_14 (SrcAt.l0 hb) hb.2.1 rfl dX3_take_8 ?_
    refine g_getI (pc := 11) hC fl_X3_59 (RowAt.l0 hb.2.2.1) hb.2.2.1.2.1 rfl dX3_take_11 ?_
    refine g_bipush (pc := 14) hC (32 : Int32) dX3_take_14 (by decide) ?_
    refine g_icmp_lt (pc := 16) (tgt := 31) hC dX3_take_16 (by decide) ?_ ?_
    · refine g_aload_n (pc := 31) hC dX3_take_31 rfl ?_
      refine g_getR (pc := 32) hC fl_X3_14 (SrcAt.l0 hb) hb.2.1 rfl dX3_take_32 ?_
      refine g_getI (pc := 35) hC fl_X3_59 (RowAt.l0 hb.2.2.1) hb.2.2.1.2.1 rfl dX3_take_35 ?_
      refine g_if_ne (pc := 38) (tgt := 46) hC dX3_take_38 (by decide) ?_ ?_
      · exact J_46  V
      · refine g_aload_n (pc := 41) hC dX3_take_41 rfl ?_
        refine g_iload_n (pc := 42) hC dX3_take_42 rfl ?_
        refine g_putI (pc := 43) hC fp_X3_65 (SrcAt.l0 hb) hb.2.1 rfl dX3_take_43 (fun V1 => ?_)
        exact J_46  V1
    · exact g_ms [true, false] (J_19  V)
def rm_X3_ready : Room := ({ frames := 0, cells := 0, slots := 0, locals := 0 } : Room)
def wp_X3_ready (V : St) (K : Int32 → St → Prop) (b : Nat) : Prop := if (V (b + 1) 2) ≤ 0 then (K (0 : Int32) V) else (if (V (b + 3) 2) ≤ 0 then (K (0 : Int32) V) else (K (1 : Int32) V))
set_option maxRecDepth 100000 in
set_option maxHeartbeats 4000000 in
theorem c_X3_ready {l : Launch} {D : va_G} {ad : Nat → Nat} {cy : Nat → ClassId} (hi : inj ad) {V : St} {K : Int32 → St → Prop} {b : Nat} (hb : SrcAt b) : wp_X3_ready V K b → Hi l D ad cy yX3_ready (Cond.code yX3_ready cX3_ready 1 (some .boolean) :: WA) rm_X3_ready [.ref (ad b)] V K := by
  refine H_i (w := wp_X3_ready V K b) (by decide) (Nat.le_of_ble_eq_true rfl) (List.forall_mem_cons.mpr ⟨rfl, (fun _ h => absurd h List.not_mem_nil)⟩) hi ?_
  intro p e s m args below meth c A hC hrt hlk
  show G p l e rm_X3_ready s m args below meth c 0 0 (MQ below (va_Qi K (Bq D ad cy) A) args s 0 0 A) 1 D ad cy A (wp_X3_ready V K b) V 0 [some (.ref (ad b))] []
  refine g_aload_n (pc := 0) hC dX3_ready_0 rfl ?_
  refine g_getR (pc := 1) hC fl_X3_14 (SrcAt.l0 hb) hb.2.1 rfl dX3_ready_1 ?_
  refine g_getI (pc := 4) hC fl_X3_59 (RowAt.l0 hb.2.2.1) hb.2.2.1.2.1 rfl dX3_ready_4 ?_
  refine g_if_le (pc := 7) (tgt := 24) hC dX3_ready_7 (by decide) ?_ ?_
  · refine g_iconst (pc := 24) hC (0 : Int32) dX3_ready_24 (by decide) ?_
    exact g_zret0 (pc := 25) hC hrt hlk dX3_ready_25 (by decide)
  · refine g_aload_n (pc := 10) hC dX3_ready_10 rfl ?_
    refine g_getR (pc := 11) hC fl_X3_20 (SrcAt.l0 hb) hb.2.1 rfl dX3_ready_11 ?_
    refine g_getI (pc := 14) hC fl_X3_59 (RowAt.l0 hb.2.2.2.1) hb.2.2.2.1.2.1 rfl dX3_ready_14 ?_
    refine g_if_le (pc := 17) (tgt := 24) hC dX3_ready_17 (by decide) ?_ ?_
    · refine g_iconst (pc := 24) hC (0 : Int32) dX3_ready_24 (by decide) ?_
      exact g_zret0 (pc := 25) hC hrt hlk dX3_ready_25 (by decide)
    · refine g_iconst (pc := 20) hC (1 : Int32) dX3_ready_20 (by decide) ?_
      refine g_goto (pc := 21) (tgt := 25) hC dX3_ready_21 (by decide) ?_
      exact g_zret0 (pc := 25) hC hrt hlk dX3_ready_25 (by decide)
def rm_X3_spendUnit : Room := ({ frames := 2, cells := 0, slots := 0, locals := 43 } : Room)
def b_X3_spendUnit_27 (K : St → Prop) (b : Nat) (a1 : Int32) (V : St) (l2 : Int32) : Prop := wp_X2_removeFirst V (fun (V1 : St) => wp_X1_add V1 (fun (V2 : St) => K V2) (b + 5) (l2 + (V1 b 8))) (b + 3) 30
def wp_X3_spendUnit (V : St) (K : St → Prop) (b : Nat) (a1 : Int32) : Prop := wp_X2_first V (fun (r1 : Int32) (V2 : St) => ∀ x3 : Int32, x3 = (if r1 < (V2 b 17) then (V2 b 17) else r1) → if (a1 - x3) < (V2 b 8) then (b_X3_spendUnit_27 K b a1 V2 x3) else (b_X3_spendUnit_27 K b a1 V2 a1)) (b + 3) 30
set_option maxRecDepth 100000 in
set_option maxHeartbeats 4000000 in
theorem c_X3_spendUnit {l : Launch} {D : va_G} {ad : Nat → Nat} {cy : Nat → ClassId} (hi : inj ad) {V : St} {K : St → Prop} {b : Nat} {a1 : Int32} (hb : SrcAt b) : wp_X3_spendUnit V K b a1 → Hv l D ad cy yX3_spendUnit (Cond.code yX3_spendUnit cX3_spendUnit 3 none :: WA) rm_X3_spendUnit [.ref (ad b), .int a1] V K := by
  refine H_v (w := wp_X3_spendUnit V K b a1) (by decide) (Nat.le_of_ble_eq_true rfl) (List.forall_mem_cons.mpr ⟨rfl, (List.forall_mem_cons.mpr ⟨rfl, (fun _ h => absurd h List.not_mem_nil)⟩)⟩) hi ?_
  intro p e s m args below meth c A hC hrt hlk
  have J_27 : ∀ (V : St) (l2 : Int32), G p l e rm_X3_spendUnit s m args below meth c 0 0 (MQ below (va_Qv K (Bq D ad cy) A) args s 0 0 A) 3 D ad cy A (b_X3_spendUnit_27 K b a1 V l2) V 27 [some (.ref (ad b)), none, some (.int l2)] [] := by
    intro  V l2 
    refine g_aload_n (pc := 27) hC dX3_spendUnit_27 rfl ?_
    refine g_getR (pc := 28) hC fl_X3_20 (SrcAt.l0 hb) hb.2.1 rfl dX3_spendUnit_28 ?_
    refine g_cvv (pc := 31) hC (c_X2_removeFirst hC.2.2.2.1 hb.2.2.2.1) mi_X2_removeFirst ww_286 ⟨rfl, rfl⟩ ⟨by decide, by decide⟩ (RowAt.l0 hb.2.2.2.1) hb.2.2.2.1.2.1 rfl rfl rfl (Nat.le_of_ble_eq_true rfl) ⟨Nat.le_of_ble_eq_true rfl, Nat.le_of_ble_eq_true rfl⟩ dX3_spendUnit_31 (fun V1 => ?_)
    refine g_aload_n (pc := 34) hC dX3_spendUnit_34 rfl ?_
    refine g_getR (pc := 35) hC fl_X3_26 (SrcAt.l0 hb) hb.2.1 rfl dX3_spendUnit_35 ?_
    refine g_iload_n (pc := 38) hC dX3_spendUnit_38 rfl ?_
    refine g_aload_n (pc := 39) hC dX3_spendUnit_39 rfl ?_
    refine g_getI (pc := 40) hC fl_X3_47 (SrcAt.l0 hb) hb.2.1 rfl dX3_spendUnit_40 ?_
    refine g_iadd (pc := 43) hC dX3_spendUnit_43 ?_
    refine g_cvv (pc := 44) hC (c_X1_add hC.2.2.2.1 hb.2.2.2.2) mi_X1_add ww_287 ⟨rfl, rfl⟩ ⟨by decide, by decide⟩ (PcsAt.l0 hb.2.2.2.2) hb.2.2.2.2.2.1 rfl rfl rfl (Nat.le_of_ble_eq_true rfl) ⟨Nat.le_of_ble_eq_true rfl, Nat.le_of_ble_eq_true rfl⟩ dX3_spendUnit_44 (fun V2 => ?_)
    exact g_vret (pc := 47) hC hrt hlk dX3_spendUnit_47
  show G p l e rm_X3_spendUnit s m args below meth c 0 0 (MQ below (va_Qv K (Bq D ad cy) A) args s 0 0 A) 3 D ad cy A (wp_X3_spendUnit V K b a1) V 0 [some (.ref (ad b)), some (.int a1), none] []
  refine g_aload_n (pc := 0) hC dX3_spendUnit_0 rfl ?_
  refine g_getR (pc := 1) hC fl_X3_20 (SrcAt.l0 hb) hb.2.1 rfl dX3_spendUnit_1 ?_
  refine g_cvi (pc := 4) hC (c_X2_first hC.2.2.2.1 hb.2.2.2.1) mi_X2_first ww_282 ⟨rfl, rfl⟩ ⟨by decide, by decide⟩ (RowAt.l0 hb.2.2.2.1) hb.2.2.2.1.2.1 rfl rfl rfl (Nat.le_of_ble_eq_true rfl) ⟨Nat.le_of_ble_eq_true rfl, Nat.le_of_ble_eq_true rfl⟩ dX3_spendUnit_4 (fun r1 V2 => ?_)
  refine g_aload_n (pc := 7) hC dX3_spendUnit_7 rfl ?_
  refine g_getI (pc := 8) hC fl_X3_65 (SrcAt.l0 hb) hb.2.1 rfl dX3_spendUnit_8 ?_
  refine g_max (pc := 11) hC ww_283 ww_284 ww_51 ww_285 (by decide) (Nat.le_of_ble_eq_true rfl) (by decide) (by decide) dX3_spendUnit_11 ?_
  refine g_nm (fun x3 => ?_)
  refine g_istore_n (pc := 14) (L2 := [some (.ref (ad b)), some (.int a1), some (.int x3)]) hC dX3_spendUnit_14 (by decide) rfl ?_
  refine g_iload_n (pc := 15) hC dX3_spendUnit_15 rfl ?_
  refine g_iload_n (pc := 16) hC dX3_spendUnit_16 rfl ?_
  refine g_isub (pc := 17) hC dX3_spendUnit_17 ?_
  refine g_aload_n (pc := 18) hC dX3_spendUnit_18 rfl ?_
  refine g_getI (pc := 19) hC fl_X3_47 (SrcAt.l0 hb) hb.2.1 rfl dX3_spendUnit_19 ?_
  refine g_icmp_lt (pc := 22) (tgt := 27) hC dX3_spendUnit_22 (by decide) ?_ ?_
  · exact g_ms [true, false, true] (J_27  V2 x3)
  · refine g_iload_n (pc := 25) hC dX3_spendUnit_25 rfl ?_
    refine g_istore_n (pc := 26) (L2 := [some (.ref (ad b)), some (.int a1), some (.int a1)]) hC dX3_spendUnit_26 (by decide) rfl ?_
    exact g_ms [true, false, true] (J_27  V2 a1)
def rm_X3_finishFirst : Room := ({ frames := 1, cells := 0, slots := 0, locals := 21 } : Room)
def wp_X3_finishFirst (V : St) (K : St → Prop) (b : Nat) (a1 : Int32) : Prop := wp_X2_first V (fun (r1 : Int32) (V2 : St) => ∀ V3 : St, V3 = up2 V2 b 15 (if (V b 15) < (a1 - r1) then (a1 - r1) else (V b 15)) → wp_X2_removeFirst V3 (fun (V4 : St) => ∀ V5 : St, V5 = up2 V4 b 16 (0 : Int32) → ∀ V6 : St, V6 = up2 V5 b 12 ((V5 b 12) + (1 : Int32)) → if (8 : Int32) < (V6 (b + 1) 2) then (K V6) else (((0 : Int32) = 0 ∨ (0 : Int32) = 1) ∧ ∀ V7 : St, V7 = up2 V6 b 10 (0 : Int32) → K V7)) (b + 1) 32) (b + 1) 32
set_option maxRecDepth 100000 in
set_option maxHeartbeats 4000000 in
theorem c_X3_finishFirst {l : Launch} {D : va_G} {ad : Nat → Nat} {cy : Nat → ClassId} (hi : inj ad) {V : St} {K : St → Prop} {b : Nat} {a1 : Int32} (hb : SrcAt b) : wp_X3_finishFirst V K b a1 → Hv l D ad cy yX3_finishFirst (Cond.code yX3_finishFirst cX3_finishFirst 2 none :: WA) rm_X3_finishFirst [.ref (ad b), .int a1] V K := by
  refine H_v (w := wp_X3_finishFirst V K b a1) (by decide) (Nat.le_of_ble_eq_true rfl) (List.forall_mem_cons.mpr ⟨rfl, (List.forall_mem_cons.mpr ⟨rfl, (fun _ h => absurd h List.not_mem_nil)⟩)⟩) hi ?_
  intro p e s m args below meth c A hC hrt hlk
  show G p l e rm_X3_finishFirst s m args below meth c 0 0 (MQ below (va_Qv K (Bq D ad cy) A) args s 0 0 A) 2 D ad cy A (wp_X3_finishFirst V K b a1) V 0 [some (.ref (ad b)), some (.int a1)] []
  refine g_aload_n (pc := 0) hC dX3_finishFirst_0 rfl ?_
  refine g_aload_n (pc := 1) hC dX3_finishFirst_1 rfl ?_
  refine g_getI (pc := 2) hC fl_X3_97 (SrcAt.l0 hb) hb.2.1 rfl dX3_finishFirst_2 ?_
  refine g_iload_n (pc := 5) hC dX3_finishFirst_5 rfl ?_
  refine g_aload_n (pc := 6) hC dX3_finishFirst_6 rfl ?_
  refine g_getR (pc := 7) hC fl_X3_14 (SrcAt.l0 hb) hb.2.1 rfl dX3_finishFirst_7 ?_
  refine g_cvi (pc := 10) hC (c_X2_first hC.2.2.2.1 hb.2.2.1) mi_X2_first ww_282 ⟨rfl, rfl⟩ ⟨by decide, by decide⟩ (RowAt.l0 hb.2.2.1) hb.2.2.1.2.1 rfl rfl rfl (Nat.le_of_ble_eq_true rfl) ⟨Nat.le_of_ble_eq_true rfl, Nat.le_of_ble_eq_true rfl⟩ dX3_finishFirst_10 (fun r1 V2 => ?_)
  refine g_isub (pc := 13) hC dX3_finishFirst_13 ?_
  refine g_max (pc := 14) hC ww_283 ww_284 ww_51 ww_285 (by decide) (Nat.le_of_ble_eq_true rfl) (by decide) (by decide) dX3_finishFirst_14 ?_
  refine g_putI (pc := 17) hC fp_X3_97 (SrcAt.l0 hb) hb.2.1 rfl dX3_finishFirst_17 (fun V3 => ?_)
  refine g_aload_n (pc := 20) hC dX3_finishFirst_20 rfl ?_
  refine g_getR (pc := 21) hC fl_X3_14 (SrcAt.l0 hb) hb.2.1 rfl dX3_finishFirst_21 ?_
  refine g_cvv (pc := 24) hC (c_X2_removeFirst hC.2.2.2.1 hb.2.2.1) mi_X2_removeFirst ww_286 ⟨rfl, rfl⟩ ⟨by decide, by decide⟩ (RowAt.l0 hb.2.2.1) hb.2.2.1.2.1 rfl rfl rfl (Nat.le_of_ble_eq_true rfl) ⟨Nat.le_of_ble_eq_true rfl, Nat.le_of_ble_eq_true rfl⟩ dX3_finishFirst_24 (fun V4 => ?_)
  refine g_aload_n (pc := 27) hC dX3_finishFirst_27 rfl ?_
  refine g_iconst (pc := 28) hC (0 : Int32) dX3_finishFirst_28 (by decide) ?_
  refine g_putI (pc := 29) hC fp_X3_77 (SrcAt.l0 hb) hb.2.1 rfl dX3_finishFirst_29 (fun V5 => ?_)
  refine g_aload_n (pc := 32) hC dX3_finishFirst_32 rfl ?_
  refine g_dup (pc := 33) hC dX3_finishFirst_33 rfl ?_
  refine g_getI (pc := 34) hC fl_X3_100 (SrcAt.l0 hb) hb.2.1 rfl dX3_finishFirst_34 ?_
  refine g_iconst (pc := 37) hC (1 : Int32) dX3_finishFirst_37 (by decide) ?_
  refine g_iadd (pc := 38) hC dX3_finishFirst_38 ?_
  refine g_putI (pc := 39) hC fp_X3_100 (SrcAt.l0 hb) hb.2.1 rfl dX3_finishFirst_39 (fun V6 => ?_)
  refine g_aload_n (pc := 42) hC dX3_finishFirst_42 rfl ?_
  refine g_getR (pc := 43) hC fl_X3_14 (SrcAt.l0 hb) hb.2.1 rfl dX3_finishFirst_43 ?_
  refine g_getI (pc := 46) hC fl_X3_59 (RowAt.l0 hb.2.2.1) hb.2.2.1.2.1 rfl dX3_finishFirst_46 ?_
  refine g_bipush (pc := 49) hC (8 : Int32) dX3_finishFirst_49 (by decide) ?_
  refine g_icmp_gt (pc := 51) (tgt := 59) hC dX3_finishFirst_51 (by decide) ?_ ?_
  · exact g_vret (pc := 59) hC hrt hlk dX3_finishFirst_59
  · refine g_aload_n (pc := 54) hC dX3_finishFirst_54 rfl ?_
    refine g_iconst (pc := 55) hC (0 : Int32) dX3_finishFirst_55 (by decide) ?_
    refine g_putZ (pc := 56) hC fp_X3_56 (SrcAt.l0 hb) hb.2.1 rfl dX3_finishFirst_56 (fun V7 => ?_)
    exact g_vret (pc := 59) hC hrt hlk dX3_finishFirst_59
def rm_X3_runHandler : Room := ({ frames := 3, cells := 0, slots := 0, locals := 65 } : Room)
def wp_X3_runHandler (V : St) (K : St → Prop) (b : Nat) (a1 : Int32) : Prop := wp_X3_spendUnit V (fun (V1 : St) => ∀ V2 : St, V2 = up2 V1 b 16 ((V1 b 16) + (1 : Int32)) → if (V2 b 16) < (V2 b 5) then (K V2) else (wp_X3_finishFirst V2 (fun (V3 : St) => K V3) b (a1 + (1 : Int32)))) b a1
set_option maxRecDepth 100000 in
set_option maxHeartbeats 4000000 in
theorem c_X3_runHandler {l : Launch} {D : va_G} {ad : Nat → Nat} {cy : Nat → ClassId} (hi : inj ad) {V : St} {K : St → Prop} {b : Nat} {a1 : Int32} (hb : SrcAt b) : wp_X3_runHandler V K b a1 → Hv l D ad cy yX3_runHandler (Cond.code yX3_runHandler cX3_runHandler 2 none :: WA) rm_X3_runHandler [.ref (ad b), .int a1] V K := by
  refine H_v (w := wp_X3_runHandler V K b a1) (by decide) (Nat.le_of_ble_eq_true rfl) (List.forall_mem_cons.mpr ⟨rfl, (List.forall_mem_cons.mpr ⟨rfl, (fun _ h => absurd h List.not_mem_nil)⟩)⟩) hi ?_
  intro p e s m args below meth c A hC hrt hlk
  show G p l e rm_X3_runHandler s m args below meth c 0 0 (MQ below (va_Qv K (Bq D ad cy) A) args s 0 0 A) 2 D ad cy A (wp_X3_runHandler V K b a1) V 0 [some (.ref (ad b)), some (.int a1)] []
  refine g_aload_n (pc := 0) hC dX3_runHandler_0 rfl ?_
  refine g_iload_n (pc := 1) hC dX3_runHandler_1 rfl ?_
  refine g_cvv (pc := 2) hC (c_X3_spendUnit hC.2.2.2.1 hb) mi_X3_spendUnit ww_278 ⟨rfl, rfl⟩ ⟨by decide, by decide⟩ (SrcAt.l0 hb) hb.2.1 rfl rfl rfl (Nat.le_of_ble_eq_true rfl) ⟨Nat.le_of_ble_eq_true rfl, Nat.le_of_ble_eq_true rfl⟩ dX3_runHandler_2 (fun V1 => ?_)
  refine g_aload_n (pc := 5) hC dX3_runHandler_5 rfl ?_
  refine g_dup (pc := 6) hC dX3_runHandler_6 rfl ?_
  refine g_getI (pc := 7) hC fl_X3_77 (SrcAt.l0 hb) hb.2.1 rfl dX3_runHandler_7 ?_
  refine g_iconst (pc := 10) hC (1 : Int32) dX3_runHandler_10 (by decide) ?_
  refine g_iadd (pc := 11) hC dX3_runHandler_11 ?_
  refine g_putI (pc := 12) hC fp_X3_77 (SrcAt.l0 hb) hb.2.1 rfl dX3_runHandler_12 (fun V2 => ?_)
  refine g_aload_n (pc := 15) hC dX3_runHandler_15 rfl ?_
  refine g_getI (pc := 16) hC fl_X3_77 (SrcAt.l0 hb) hb.2.1 rfl dX3_runHandler_16 ?_
  refine g_aload_n (pc := 19) hC dX3_runHandler_19 rfl ?_
  refine g_getI (pc := 20) hC fl_X3_38 (SrcAt.l0 hb) hb.2.1 rfl dX3_runHandler_20 ?_
  refine g_icmp_lt (pc := 23) (tgt := 33) hC dX3_runHandler_23 (by decide) ?_ ?_
  · exact g_vret (pc := 33) hC hrt hlk dX3_runHandler_33
  · refine g_aload_n (pc := 26) hC dX3_runHandler_26 rfl ?_
    refine g_iload_n (pc := 27) hC dX3_runHandler_27 rfl ?_
    refine g_iconst (pc := 28) hC (1 : Int32) dX3_runHandler_28 (by decide) ?_
    refine g_iadd (pc := 29) hC dX3_runHandler_29 ?_
    refine g_cvv (pc := 30) hC (c_X3_finishFirst hC.2.2.2.1 hb) mi_X3_finishFirst ww_292 ⟨rfl, rfl⟩ ⟨by decide, by decide⟩ (SrcAt.l0 hb) hb.2.1 rfl rfl rfl (Nat.le_of_ble_eq_true rfl) ⟨Nat.le_of_ble_eq_true rfl, Nat.le_of_ble_eq_true rfl⟩ dX3_runHandler_30 (fun V3 => ?_)
    exact g_vret (pc := 33) hC hrt hlk dX3_runHandler_33
def rm_X3_giveBack : Room := ({ frames := 1, cells := 0, slots := 0, locals := 24 } : Room)
def h_X3_giveBack_11 (K : St → Prop) (b : Nat) (a1 : Int32) (rec_11 : St → Int32 → Int32 → Prop) (V : St) (l2 : Int32) (l3 : Int32) : Prop := if l2 ≤ l3 then (K V) else (wp_X2_add V (fun (V1 : St) => rec_11 V1 l2 (l3 + 1)) (b + 3) 30 a1)
def wp_X3_giveBack (V : St) (K : St → Prop) (b : Nat) (a1 : Int32) : Prop := wp_X1_removeUpTo V (fun (r1 : Int32) (V2 : St) => ∃ n, lp (fun _ _ _ => False) (h_X3_giveBack_11 K b a1) n V2 r1 (0 : Int32)) (b + 5) a1
set_option maxRecDepth 100000 in
set_option maxHeartbeats 4000000 in
theorem c_X3_giveBack {l : Launch} {D : va_G} {ad : Nat → Nat} {cy : Nat → ClassId} (hi : inj ad) {V : St} {K : St → Prop} {b : Nat} {a1 : Int32} (hb : SrcAt b) : wp_X3_giveBack V K b a1 → Hv l D ad cy yX3_giveBack (Cond.code yX3_giveBack cX3_giveBack 4 none :: WA) rm_X3_giveBack [.ref (ad b), .int a1] V K := by
  refine H_v (w := wp_X3_giveBack V K b a1) (by decide) (Nat.le_of_ble_eq_true rfl) (List.forall_mem_cons.mpr ⟨rfl, (List.forall_mem_cons.mpr ⟨rfl, (fun _ h => absurd h List.not_mem_nil)⟩)⟩) hi ?_
  intro p e s m args below meth c A hC hrt hlk
  have J_11 : ∀ (n : Nat), ∀ (V : St) (l2 : Int32) (l3 : Int32), G p l e rm_X3_giveBack s m args below meth c 0 0 (MQ below (va_Qv K (Bq D ad cy) A) args s 0 0 A) 4 D ad cy A (lp (fun _ _ _ => False) (h_X3_giveBack_11 K b a1) n V l2 l3) V 11 [some (.ref (ad b)), some (.int a1), some (.int l2), some (.int l3)] [] := by
    intro n
    induction n with
    | zero => exact fun _ _ _ h => False.elim h
    | succ n IH =>
      generalize hrec : lp (fun _ _ _ => False) (h_X3_giveBack_11 K b a1) n = rec_11 at IH
      have ih_11 := IH
      intro V l2 l3 
      show G p l e rm_X3_giveBack s m args below meth c 0 0 (MQ below (va_Qv K (Bq D ad cy) A) args s 0 0 A) 4 D ad cy A (h_X3_giveBack_11 K b a1 (lp (fun _ _ _ => False) (h_X3_giveBack_11 K b a1) n) V l2 l3) V 11 [some (.ref (ad b)), some (.int a1), some (.int l2), some (.int l3)] []
      rw [hrec]
      refine g_iload_n (pc := 11) hC dX3_giveBack_11 rfl ?_
      refine g_iload_n (pc := 12) hC dX3_giveBack_12 rfl ?_
      refine g_icmp_ge (pc := 13) (tgt := 30) hC dX3_giveBack_13 (by decide) ?_ ?_
      · exact g_vret (pc := 30) hC hrt hlk dX3_giveBack_30
      · refine g_aload_n (pc := 16) hC dX3_giveBack_16 rfl ?_
        refine g_getR (pc := 17) hC fl_X3_20 (SrcAt.l0 hb) hb.2.1 rfl dX3_giveBack_17 ?_
        refine g_iload_n (pc := 20) hC dX3_giveBack_20 rfl ?_
        refine g_cvv (pc := 21) hC (c_X2_add hC.2.2.2.1 hb.2.2.2.1) mi_X2_add ww_319 ⟨rfl, rfl⟩ ⟨by decide, by decide⟩ (RowAt.l0 hb.2.2.2.1) hb.2.2.2.1.2.1 rfl rfl rfl (Nat.le_of_ble_eq_true rfl) ⟨Nat.le_of_ble_eq_true rfl, Nat.le_of_ble_eq_true rfl⟩ dX3_giveBack_21 (fun V1 => ?_)
        refine g_iinc (pc := 24) (L2 := [some (.ref (ad b)), some (.int a1), some (.int l2), some (.int (l3 + 1))]) hC (l3 + 1) dX3_giveBack_24 rfl rfl (by decide) rfl ?_
        refine g_goto (pc := 27) (tgt := 11) hC dX3_giveBack_27 (by decide) ?_
        exact ih_11 V1 l2 (l3 + 1)
  show G p l e rm_X3_giveBack s m args below meth c 0 0 (MQ below (va_Qv K (Bq D ad cy) A) args s 0 0 A) 4 D ad cy A (wp_X3_giveBack V K b a1) V 0 [some (.ref (ad b)), some (.int a1), none, none] []
  refine g_aload_n (pc := 0) hC dX3_giveBack_0 rfl ?_
  refine g_getR (pc := 1) hC fl_X3_26 (SrcAt.l0 hb) hb.2.1 rfl dX3_giveBack_1 ?_
  refine g_iload_n (pc := 4) hC dX3_giveBack_4 rfl ?_
  refine g_cvi (pc := 5) hC (c_X1_removeUpTo hC.2.2.2.1 hb.2.2.2.2) mi_X1_removeUpTo ww_315 ⟨rfl, rfl⟩ ⟨by decide, by decide⟩ (PcsAt.l0 hb.2.2.2.2) hb.2.2.2.2.2.1 rfl rfl rfl (Nat.le_of_ble_eq_true rfl) ⟨Nat.le_of_ble_eq_true rfl, Nat.le_of_ble_eq_true rfl⟩ dX3_giveBack_5 (fun r1 V2 => ?_)
  refine g_istore_n (pc := 8) (L2 := [some (.ref (ad b)), some (.int a1), some (.int r1), none]) hC dX3_giveBack_8 (by decide) rfl ?_
  refine g_iconst (pc := 9) hC (0 : Int32) dX3_giveBack_9 (by decide) ?_
  refine g_istore_n (pc := 10) (L2 := [some (.ref (ad b)), some (.int a1), some (.int r1), some (.int (0 : Int32))]) hC dX3_giveBack_10 (by decide) rfl ?_
  exact g_ex (fun n => J_11  n V2 r1 (0 : Int32))
def rm_J9_floorMod_7cf53 : Room := ({ frames := 0, cells := 0, slots := 0, locals := 0 } : Room)
def wp_J9_floorMod_7cf53 (V : St) (K : Int32 → St → Prop) (a1 : Int32) (a2 : Int32) : Prop := ¬ a2 = 0 ∧ ∀ x1 : Int32, x1 = (a1 - a1 / a2 * a2) → if 0 ≤ (a1 ^^^ a2) then (K x1 V) else (if x1 = 0 then (K x1 V) else (K (x1 + a2) V))
set_option maxRecDepth 100000 in
set_option maxHeartbeats 4000000 in
theorem c_J9_floorMod_7cf53 {l : Launch} {D : va_G} {ad : Nat → Nat} {cy : Nat → ClassId} (hi : inj ad) {V : St} {K : Int32 → St → Prop} {a1 : Int32} {a2 : Int32} : wp_J9_floorMod_7cf53 V K a1 a2 → Hi l D ad cy yJ9_floorMod_7cf53 (Cond.code yJ9_floorMod_7cf53 cJ9_floorMod_7cf53 3 (some .int) :: WA) rm_J9_floorMod_7cf53 [.int a1, .int a2] V K := by
  refine H_iF (w := wp_J9_floorMod_7cf53 V K a1 a2) (by decide +kernel) (Nat.le_of_ble_eq_true rfl) (List.forall_mem_cons.mpr ⟨rfl, (List.forall_mem_cons.mpr ⟨rfl, (fun _ h => absurd h List.not_mem_nil)⟩)⟩) hi ?_
  intro p e s m args below meth c A hC hrt hlk
  show G p l e rm_J9_floorMod_7cf53 s m args below meth c 0 0 (MQ below (va_Qi K (Bq D ad cy) A) args s 0 0 A) 3 D ad cy A (wp_J9_floorMod_7cf53 V K a1 a2) V 0 [some (.int a1), some (.int a2), none] []
  refine g_iload_n (pc := 0) hC dJ9_floorMod_7cf53_0 rfl ?_
  refine g_iload_n (pc := 1) hC dJ9_floorMod_7cf53_1 rfl ?_
  refine g_irem (pc := 2) hC dJ9_floorMod_7cf53_2 ?_
  refine g_nm (fun x1 => ?_)
  refine g_istore_n (pc := 3) (L2 := [some (.int a1), some (.int a2), some (.int x1)]) hC dJ9_floorMod_7cf53_3 (by decide) rfl ?_
  refine g_iload_n (pc := 4) hC dJ9_floorMod_7cf53_4 rfl ?_
  refine g_iload_n (pc := 5) hC dJ9_floorMod_7cf53_5 rfl ?_
  refine g_ixor (pc := 6) hC dJ9_floorMod_7cf53_6 ?_
  refine g_if_ge (pc := 7) (tgt := 18) hC dJ9_floorMod_7cf53_7 (by decide) ?_ ?_
  · refine g_iload_n (pc := 18) hC dJ9_floorMod_7cf53_18 rfl ?_
    exact g_iret (pc := 19) hC hrt hlk dJ9_floorMod_7cf53_19
  · refine g_iload_n (pc := 10) hC dJ9_floorMod_7cf53_10 rfl ?_
    refine g_if_eq (pc := 11) (tgt := 18) hC dJ9_floorMod_7cf53_11 (by decide) ?_ ?_
    · refine g_iload_n (pc := 18) hC dJ9_floorMod_7cf53_18 rfl ?_
      exact g_iret (pc := 19) hC hrt hlk dJ9_floorMod_7cf53_19
    · refine g_iload_n (pc := 14) hC dJ9_floorMod_7cf53_14 rfl ?_
      refine g_iload_n (pc := 15) hC dJ9_floorMod_7cf53_15 rfl ?_
      refine g_iadd (pc := 16) hC dJ9_floorMod_7cf53_16 ?_
      exact g_iret (pc := 17) hC hrt hlk dJ9_floorMod_7cf53_17
