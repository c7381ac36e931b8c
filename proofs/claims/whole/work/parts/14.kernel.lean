def rm_X4_beginPeriods : Room := ({ frames := 1, cells := 0, slots := 0, locals := 21 } : Room)
def h_X4_beginPeriods_2 (K : St → Prop) (rec_2 : St → Int32 → Prop) (V : St) (l1 : Int32) : Prop := if (6 : Int32) ≤ l1 then (K V) else (∃ k1, k1 < 6 ∧ l1 = nI k1 ∧ if (V (6 + 1 * k1) 0) = 0 then (rec_2 V (l1 + 1)) else (∃ k2, k2 < 6 ∧ l1 = nI k2 ∧ wp_X0_beginIfDue V (fun (V3 : St) => rec_2 V3 (l1 + 1)) (6 + 1 * k2) (V 0 5)))
def wp_X4_beginPeriods (V : St) (K : St → Prop) : Prop := ∃ n, lp (fun _ _ => False) (h_X4_beginPeriods_2 K) n V (0 : Int32)
set_option maxRecDepth 100000 in
set_option maxHeartbeats 4000000 in
theorem c_X4_beginPeriods {l : Launch} {D : va_G} {ad : Nat → Nat} {cy : Nat → ClassId} (hi : inj ad) {V : St} {K : St → Prop} : wp_X4_beginPeriods V K → Hv l D ad cy yX4_beginPeriods (Cond.code yX4_beginPeriods cX4_beginPeriods 2 none :: WA) rm_X4_beginPeriods [.ref (ad 0)] V K := by
  refine H_v (w := wp_X4_beginPeriods V K) (by decide) (Nat.le_of_ble_eq_true rfl) (List.forall_mem_cons.mpr ⟨rfl, (fun _ h => absurd h List.not_mem_nil)⟩) hi ?_
  intro p e s m args below meth c A hC hrt hlk
  have J_2 : ∀ (n : Nat), ∀ (V : St) (l1 : Int32), G p l e rm_X4_beginPeriods s m args below meth c 0 0 (MQ below (va_Qv K (Bq D ad cy) A) args s 0 0 A) 2 D ad cy A (lp (fun _ _ => False) (h_X4_beginPeriods_2 K) n V l1) V 2 [some (.ref (ad 0)), some (.int l1)] [] := by
    intro n
    induction n with
    | zero => exact fun _ _ h => False.elim h
    | succ n IH =>
      generalize hrec : lp (fun _ _ => False) (h_X4_beginPeriods_2 K) n = rec_2 at IH
      have ih_2 := IH
      intro V l1 
      show G p l e rm_X4_beginPeriods s m args below meth c 0 0 (MQ below (va_Qv K (Bq D ad cy) A) args s 0 0 A) 2 D ad cy A (h_X4_beginPeriods_2 K (lp (fun _ _ => False) (h_X4_beginPeriods_2 K) n) V l1) V 2 [some (.ref (ad 0)), some (.int l1)] []
      rw [hrec]
      refine g_iload_n (pc := 2) hC dX4_beginPeriods_2 rfl ?_
      refine g_bipush (pc := 3) hC (6 : Int32) dX4_beginPeriods_3 (by decide) ?_
      refine g_icmp_ge (pc := 5) (tgt := 39) hC dX4_beginPeriods_5 (by decide) ?_ ?_
      · exact g_vret (pc := 39) hC hrt hlk dX4_beginPeriods_39
      · refine g_aload_n (pc := 8) hC dX4_beginPeriods_8 rfl ?_
        refine g_getR (pc := 9) hC fl_X4_18 (by decide) rfl rfl dX4_beginPeriods_9 ?_
        refine g_iload_n (pc := 12) hC dX4_beginPeriods_12 rfl ?_
        refine g_aald (pc := 13) hC (by decide) rfl rfl (by decide) dX4_beginPeriods_13 (fun k1 hk1 => ?_)
        refine g_getI (pc := 14) hC fl_X4_75 (tskAt hk1).1 (tskAt hk1).2 rfl dX4_beginPeriods_14 ?_
        refine g_if_eq (pc := 17) (tgt := 33) hC dX4_beginPeriods_17 (by decide) ?_ ?_
        · refine g_iinc (pc := 33) (L2 := [some (.ref (ad 0)), some (.int (l1 + 1))]) hC (l1 + 1) dX4_beginPeriods_33 rfl rfl (by decide) rfl ?_
          refine g_goto (pc := 36) (tgt := 2) hC dX4_beginPeriods_36 (by decide) ?_
          exact ih_2 V (l1 + 1)
        · refine g_aload_n (pc := 20) hC dX4_beginPeriods_20 rfl ?_
          refine g_getR (pc := 21) hC fl_X4_18 (by decide) rfl rfl dX4_beginPeriods_21 ?_
          refine g_iload_n (pc := 24) hC dX4_beginPeriods_24 rfl ?_
          refine g_aald (pc := 25) hC (by decide) rfl rfl (by decide) dX4_beginPeriods_25 (fun k2 hk2 => ?_)
          refine g_aload_n (pc := 26) hC dX4_beginPeriods_26 rfl ?_
          refine g_getI (pc := 27) hC fl_X4_40 (by decide) rfl rfl dX4_beginPeriods_27 ?_
          refine g_cvv (pc := 30) hC (c_X0_beginIfDue hC.2.2.2.1 (tskAt hk2)) mi_X0_beginIfDue ww_246 ⟨rfl, rfl⟩ ⟨by decide, by decide⟩ (tskAt hk2).1 (tskAt hk2).2 rfl rfl rfl (Nat.le_of_ble_eq_true rfl) ⟨Nat.le_of_ble_eq_true rfl, Nat.le_of_ble_eq_true rfl⟩ dX4_beginPeriods_30 (fun V3 => ?_)
          refine g_iinc (pc := 33) (L2 := [some (.ref (ad 0)), some (.int (l1 + 1))]) hC (l1 + 1) dX4_beginPeriods_33 rfl rfl (by decide) rfl ?_
          refine g_goto (pc := 36) (tgt := 2) hC dX4_beginPeriods_36 (by decide) ?_
          exact ih_2 V3 (l1 + 1)
  show G p l e rm_X4_beginPeriods s m args below meth c 0 0 (MQ below (va_Qv K (Bq D ad cy) A) args s 0 0 A) 2 D ad cy A (wp_X4_beginPeriods V K) V 0 [some (.ref (ad 0)), none] []
  refine g_iconst (pc := 0) hC (0 : Int32) dX4_beginPeriods_0 (by decide) ?_
  refine g_istore_n (pc := 1) (L2 := [some (.ref (ad 0)), some (.int (0 : Int32))]) hC dX4_beginPeriods_1 (by decide) rfl ?_
  exact g_ex (fun n => J_2  n V (0 : Int32))
def rm_X4_runTop : Room := ({ frames := 1, cells := 0, slots := 0, locals := 20 } : Room)
def wp_X4_runTop (V : St) (K : Int32 → St → Prop) : Prop := wp_X2_first V (fun (r1 : Int32) (V2 : St) => ∀ V3 : St, V3 = up2 V2 0 4 ((V2 0 4) + (1 : Int32)) → ∃ k4, k4 < 6 ∧ r1 = nI k4 ∧ if (V3 0 4) < (V3 (12 + 8 * k4) 4) then (K r1 V3) else (wp_X2_removeFirst V3 (fun (V5 : St) => ∀ V6 : St, V6 = up2 V5 0 4 (0 : Int32) → K r1 V6) 3 192)) 3 192
set_option maxRecDepth 100000 in
set_option maxHeartbeats 4000000 in
theorem c_X4_runTop {l : Launch} {D : va_G} {ad : Nat → Nat} {cy : Nat → ClassId} (hi : inj ad) {V : St} {K : Int32 → St → Prop} : wp_X4_runTop V K → Hi l D ad cy yX4_runTop (Cond.code yX4_runTop cX4_runTop 2 (some .int) :: WA) rm_X4_runTop [.ref (ad 0)] V K := by
  refine H_i (w := wp_X4_runTop V K) (by decide) (Nat.le_of_ble_eq_true rfl) (List.forall_mem_cons.mpr ⟨rfl, (fun _ h => absurd h List.not_mem_nil)⟩) hi ?_
  intro p e s m args below meth c A hC hrt hlk
  show G p l e rm_X4_runTop s m args below meth c 0 0 (MQ below (va_Qi K (Bq D ad cy) A) args s 0 0 A) 2 D ad cy A (wp_X4_runTop V K) V 0 [some (.ref (ad 0)), none] []
  refine g_aload_n (pc := 0) hC dX4_runTop_0 rfl ?_
  refine g_getR (pc := 1) hC fl_X4_28 (by decide) rfl rfl dX4_runTop_1 ?_
  refine g_cvi (pc := 4) hC (c_X2_first hC.2.2.2.1 topAt) mi_X2_first ww_258 ⟨rfl, rfl⟩ ⟨by decide, by decide⟩ (RowAt.l0 topAt) topAt.2.1 rfl rfl rfl (Nat.le_of_ble_eq_true rfl) ⟨Nat.le_of_ble_eq_true rfl, Nat.le_of_ble_eq_true rfl⟩ dX4_runTop_4 (fun r1 V2 => ?_)
  refine g_istore_n (pc := 7) (L2 := [some (.ref (ad 0)), some (.int r1)]) hC dX4_runTop_7 (by decide) rfl ?_
  refine g_aload_n (pc := 8) hC dX4_runTop_8 rfl ?_
  refine g_dup (pc := 9) hC dX4_runTop_9 rfl ?_
  refine g_getI (pc := 10) hC fl_X4_36 (by decide) rfl rfl dX4_runTop_10 ?_
  refine g_iconst (pc := 13) hC (1 : Int32) dX4_runTop_13 (by decide) ?_
  refine g_iadd (pc := 14) hC dX4_runTop_14 ?_
  refine g_putI (pc := 15) hC fp_X4_36 (by decide) rfl rfl dX4_runTop_15 (fun V3 => ?_)
  refine g_aload_n (pc := 18) hC dX4_runTop_18 rfl ?_
  refine g_getI (pc := 19) hC fl_X4_36 (by decide) rfl rfl dX4_runTop_19 ?_
  refine g_aload_n (pc := 22) hC dX4_runTop_22 rfl ?_
  refine g_getR (pc := 23) hC fl_X4_11 (by decide) rfl rfl dX4_runTop_23 ?_
  refine g_iload_n (pc := 26) hC dX4_runTop_26 rfl ?_
  refine g_aald (pc := 27) hC (by decide) rfl rfl (by decide) dX4_runTop_27 (fun k4 hk4 => ?_)
  refine g_getI (pc := 28) hC fl_X4_89 (SrcAt.l0 (srcAt hk4)) (srcAt hk4).2.1 rfl dX4_runTop_28 ?_
  refine g_icmp_lt (pc := 31) (tgt := 46) hC dX4_runTop_31 (by decide) ?_ ?_
  · refine g_iload_n (pc := 46) hC dX4_runTop_46 rfl ?_
    exact g_iret (pc := 47) hC hrt hlk dX4_runTop_47
  · refine g_aload_n (pc := 34) hC dX4_runTop_34 rfl ?_
    refine g_getR (pc := 35) hC fl_X4_28 (by decide) rfl rfl dX4_runTop_35 ?_
    refine g_cvv (pc := 38) hC (c_X2_removeFirst hC.2.2.2.1 topAt) mi_X2_removeFirst ww_262 ⟨rfl, rfl⟩ ⟨by decide, by decide⟩ (RowAt.l0 topAt) topAt.2.1 rfl rfl rfl (Nat.le_of_ble_eq_true rfl) ⟨Nat.le_of_ble_eq_true rfl, Nat.le_of_ble_eq_true rfl⟩ dX4_runTop_38 (fun V5 => ?_)
    refine g_aload_n (pc := 41) hC dX4_runTop_41 rfl ?_
    refine g_iconst (pc := 42) hC (0 : Int32) dX4_runTop_42 (by decide) ?_
    refine g_putI (pc := 43) hC fp_X4_36 (by decide) rfl rfl dX4_runTop_43 (fun V6 => ?_)
    refine g_iload_n (pc := 46) hC dX4_runTop_46 rfl ?_
    exact g_iret (pc := 47) hC hrt hlk dX4_runTop_47
def rm_X4_highestReadySource : Room := ({ frames := 1, cells := 0, slots := 0, locals := 20 } : Room)
def h_X4_highestReadySource_6 (K : Int32 → St → Prop) (rec_6 : St → Int32 → Int32 → Int32 → Prop) (V : St) (l1 : Int32) (l2 : Int32) (l3 : Int32) : Prop := if (6 : Int32) ≤ l3 then (K l1 V) else (∃ k1, k1 < 6 ∧ l3 = nI k1 ∧ if (V (12 + 8 * k1) 3) = 0 then (rec_6 V l1 l2 (l3 + 1)) else (∃ k2, k2 < 6 ∧ l3 = nI k2 ∧ wp_X3_ready V (fun (r3 : Int32) (V4 : St) => if r3 = 0 then (rec_6 V4 l1 l2 (l3 + 1)) else (∃ k5, k5 < 6 ∧ l3 = nI k5 ∧ if (V4 (12 + 8 * k5) 9) ≤ l2 then (rec_6 V4 l1 l2 (l3 + 1)) else (∃ k6, k6 < 6 ∧ l3 = nI k6 ∧ ∀ x7 : Int32, x7 = (V4 (12 + 8 * k6) 9) → rec_6 V4 l3 x7 (l3 + 1)))) (12 + 8 * k2)))
def wp_X4_highestReadySource (V : St) (K : Int32 → St → Prop) : Prop := ∃ n, lp (fun _ _ _ _ => False) (h_X4_highestReadySource_6 K) n V (-1 : Int32) (-1 : Int32) (0 : Int32)
set_option maxRecDepth 100000 in
set_option maxHeartbeats 4000000 in
theorem c_X4_highestReadySource {l : Launch} {D : va_G} {ad : Nat → Nat} {cy : Nat → ClassId} (hi : inj ad) {V : St} {K : Int32 → St → Prop} : wp_X4_highestReadySource V K → Hi l D ad cy yX4_highestReadySource (Cond.code yX4_highestReadySource cX4_highestReadySource 4 (some .int) :: WA) rm_X4_highestReadySource [.ref (ad 0)] V K := by
  refine H_i (w := wp_X4_highestReadySource V K) (by decide) (Nat.le_of_ble_eq_true rfl) (List.forall_mem_cons.mpr ⟨rfl, (fun _ h => absurd h List.not_mem_nil)⟩) hi ?_
  intro p e s m args below meth c A hC hrt hlk
  have J_6 : ∀ (n : Nat), ∀ (V : St) (l1 : Int32) (l2 : Int32) (l3 : Int32), G p l e rm_X4_highestReadySource s m args below meth c 0 0 (MQ below (va_Qi K (Bq D ad cy) A) args s 0 0 A) 4 D ad cy A (lp (fun _ _ _ _ => False) (h_X4_highestReadySource_6 K) n V l1 l2 l3) V 6 [some (.ref (ad 0)), some (.int l1), some (.int l2), some (.int l3)] [] := by
    intro n
    induction n with
    | zero => exact fun _ _ _ _ h => False.elim h
    | succ n IH =>
      generalize hrec : lp (fun _ _ _ _ => False) (h_X4_highestReadySource_6 K) n = rec_6 at IH
      have ih_6 := IH
      intro V l1 l2 l3 
      show G p l e rm_X4_highestReadySource s m args below meth c 0 0 (MQ below (va_Qi K (Bq D ad cy) A) args s 0 0 A) 4 D ad cy A (h_X4_highestReadySource_6 K (lp (fun _ _ _ _ => False) (h_X4_highestReadySource_6 K) n) V l1 l2 l3) V 6 [some (.ref (ad 0)), some (.int l1), some (.int l2), some (.int l3)] []
      rw [hrec]
      refine g_iload_n (pc := 6) hC dX4_highestReadySource_6 rfl ?_
      refine g_bipush (pc := 7) hC (6 : Int32) dX4_highestReadySource_7 (by decide) ?_
      refine g_icmp_ge (pc := 9) (tgt := 67) hC dX4_highestReadySource_9 (by decide) ?_ ?_
      · refine g_iload_n (pc := 67) hC dX4_highestReadySource_67 rfl ?_
        exact g_iret (pc := 68) hC hrt hlk dX4_highestReadySource_68
      · refine g_aload_n (pc := 12) hC dX4_highestReadySource_12 rfl ?_
        refine g_getR (pc := 13) hC fl_X4_11 (by decide) rfl rfl dX4_highestReadySource_13 ?_
        refine g_iload_n (pc := 16) hC dX4_highestReadySource_16 rfl ?_
        refine g_aald (pc := 17) hC (by decide) rfl rfl (by decide) dX4_highestReadySource_17 (fun k1 hk1 => ?_)
        refine g_getI (pc := 18) hC fl_X4_53 (SrcAt.l0 (srcAt hk1)) (srcAt hk1).2.1 rfl dX4_highestReadySource_18 ?_
        refine g_if_eq (pc := 21) (tgt := 61) hC dX4_highestReadySource_21 (by decide) ?_ ?_
        · refine g_iinc (pc := 61) (L2 := [some (.ref (ad 0)), some (.int l1), some (.int l2), some (.int (l3 + 1))]) hC (l3 + 1) dX4_highestReadySource_61 rfl rfl (by decide) rfl ?_
          refine g_goto (pc := 64) (tgt := 6) hC dX4_highestReadySource_64 (by decide) ?_
          exact ih_6 V l1 l2 (l3 + 1)
        · refine g_aload_n (pc := 24) hC dX4_highestReadySource_24 rfl ?_
          refine g_getR (pc := 25) hC fl_X4_11 (by decide) rfl rfl dX4_highestReadySource_25 ?_
          refine g_iload_n (pc := 28) hC dX4_highestReadySource_28 rfl ?_
          refine g_aald (pc := 29) hC (by decide) rfl rfl (by decide) dX4_highestReadySource_29 (fun k2 hk2 => ?_)
          refine g_cvi (pc := 30) hC (c_X3_ready hC.2.2.2.1 (srcAt hk2)) mi_X3_ready ww_270 ⟨rfl, rfl⟩ ⟨by decide, by decide⟩ (SrcAt.l0 (srcAt hk2)) (srcAt hk2).2.1 rfl rfl rfl (Nat.le_of_ble_eq_true rfl) ⟨Nat.le_of_ble_eq_true rfl, Nat.le_of_ble_eq_true rfl⟩ dX4_highestReadySource_30 (fun r3 V4 => ?_)
          refine g_if_eq (pc := 33) (tgt := 61) hC dX4_highestReadySource_33 (by decide) ?_ ?_
          · refine g_iinc (pc := 61) (L2 := [some (.ref (ad 0)), some (.int l1), some (.int l2), some (.int (l3 + 1))]) hC (l3 + 1) dX4_highestReadySource_61 rfl rfl (by decide) rfl ?_
            refine g_goto (pc := 64) (tgt := 6) hC dX4_highestReadySource_64 (by decide) ?_
            exact ih_6 V4 l1 l2 (l3 + 1)
          · refine g_aload_n (pc := 36) hC dX4_highestReadySource_36 rfl ?_
            refine g_getR (pc := 37) hC fl_X4_11 (by decide) rfl rfl dX4_highestReadySource_37 ?_
            refine g_iload_n (pc := 40) hC dX4_highestReadySource_40 rfl ?_
            refine g_aald (pc := 41) hC (by decide) rfl rfl (by decide) dX4_highestReadySource_41 (fun k5 hk5 => ?_)
            refine g_getI (pc := 42) hC fl_X4_191 (SrcAt.l0 (srcAt hk5)) (srcAt hk5).2.1 rfl dX4_highestReadySource_42 ?_
            refine g_iload_n (pc := 45) hC dX4_highestReadySource_45 rfl ?_
            refine g_icmp_le (pc := 46) (tgt := 61) hC dX4_highestReadySource_46 (by decide) ?_ ?_
            · refine g_iinc (pc := 61) (L2 := [some (.ref (ad 0)), some (.int l1), some (.int l2), some (.int (l3 + 1))]) hC (l3 + 1) dX4_highestReadySource_61 rfl rfl (by decide) rfl ?_
              refine g_goto (pc := 64) (tgt := 6) hC dX4_highestReadySource_64 (by decide) ?_
              exact ih_6 V4 l1 l2 (l3 + 1)
            · refine g_iload_n (pc := 49) hC dX4_highestReadySource_49 rfl ?_
              refine g_istore_n (pc := 50) (L2 := [some (.ref (ad 0)), some (.int l3), some (.int l2), some (.int l3)]) hC dX4_highestReadySource_50 (by decide) rfl ?_
              refine g_aload_n (pc := 51) hC dX4_highestReadySource_51 rfl ?_
              refine g_getR (pc := 52) hC fl_X4_11 (by decide) rfl rfl dX4_highestReadySource_52 ?_
              refine g_iload_n (pc := 55) hC dX4_highestReadySource_55 rfl ?_
              refine g_aald (pc := 56) hC (by decide) rfl rfl (by decide) dX4_highestReadySource_56 (fun k6 hk6 => ?_)
              refine g_getI (pc := 57) hC fl_X4_191 (SrcAt.l0 (srcAt hk6)) (srcAt hk6).2.1 rfl dX4_highestReadySource_57 ?_
              refine g_nm (fun x7 => ?_)
              refine g_istore_n (pc := 60) (L2 := [some (.ref (ad 0)), some (.int l3), some (.int x7), some (.int l3)]) hC dX4_highestReadySource_60 (by decide) rfl ?_
              refine g_iinc (pc := 61) (L2 := [some (.ref (ad 0)), some (.int l3), some (.int x7), some (.int (l3 + 1))]) hC (l3 + 1) dX4_highestReadySource_61 rfl rfl (by decide) rfl ?_
              refine g_goto (pc := 64) (tgt := 6) hC dX4_highestReadySource_64 (by decide) ?_
              exact ih_6 V4 l3 x7 (l3 + 1)
  show G p l e rm_X4_highestReadySource s m args below meth c 0 0 (MQ below (va_Qi K (Bq D ad cy) A) args s 0 0 A) 4 D ad cy A (wp_X4_highestReadySource V K) V 0 [some (.ref (ad 0)), none, none, none] []
  refine g_iconst (pc := 0) hC (-1 : Int32) dX4_highestReadySource_0 (by decide) ?_
  refine g_istore_n (pc := 1) (L2 := [some (.ref (ad 0)), some (.int (-1 : Int32)), none, none]) hC dX4_highestReadySource_1 (by decide) rfl ?_
  refine g_iconst (pc := 2) hC (-1 : Int32) dX4_highestReadySource_2 (by decide) ?_
  refine g_istore_n (pc := 3) (L2 := [some (.ref (ad 0)), some (.int (-1 : Int32)), some (.int (-1 : Int32)), none]) hC dX4_highestReadySource_3 (by decide) rfl ?_
  refine g_iconst (pc := 4) hC (0 : Int32) dX4_highestReadySource_4 (by decide) ?_
  refine g_istore_n (pc := 5) (L2 := [some (.ref (ad 0)), some (.int (-1 : Int32)), some (.int (-1 : Int32)), some (.int (0 : Int32))]) hC dX4_highestReadySource_5 (by decide) rfl ?_
  exact g_ex (fun n => J_6  n V (-1 : Int32) (-1 : Int32) (0 : Int32))
def rm_X4_highestTaskWithWork : Room := ({ frames := 0, cells := 0, slots := 0, locals := 0 } : Room)
def h_X4_highestTaskWithWork_6 (K : Int32 → St → Prop) (rec_6 : St → Int32 → Int32 → Int32 → Prop) (V : St) (l1 : Int32) (l2 : Int32) (l3 : Int32) : Prop := if (6 : Int32) ≤ l3 then (K l1 V) else (∃ k1, k1 < 6 ∧ l3 = nI k1 ∧ if (V (6 + 1 * k1) 0) = 0 then (rec_6 V l1 l2 (l3 + 1)) else (∃ k2, k2 < 6 ∧ l3 = nI k2 ∧ if (V (6 + 1 * k2) 5) ≤ 0 then (rec_6 V l1 l2 (l3 + 1)) else (∃ k3, k3 < 6 ∧ l3 = nI k3 ∧ if (V (6 + 1 * k3) 3) ≤ l2 then (rec_6 V l1 l2 (l3 + 1)) else (∃ k4, k4 < 6 ∧ l3 = nI k4 ∧ ∀ x5 : Int32, x5 = (V (6 + 1 * k4) 3) → rec_6 V l3 x5 (l3 + 1)))))
def wp_X4_highestTaskWithWork (V : St) (K : Int32 → St → Prop) : Prop := ∃ n, lp (fun _ _ _ _ => False) (h_X4_highestTaskWithWork_6 K) n V (-1 : Int32) (-1 : Int32) (0 : Int32)
set_option maxRecDepth 100000 in
set_option maxHeartbeats 4000000 in
theorem c_X4_highestTaskWithWork {l : Launch} {D : va_G} {ad : Nat → Nat} {cy : Nat → ClassId} (hi : inj ad) {V : St} {K : Int32 → St → Prop} : wp_X4_highestTaskWithWork V K → Hi l D ad cy yX4_highestTaskWithWork (Cond.code yX4_highestTaskWithWork cX4_highestTaskWithWork 4 (some .int) :: WA) rm_X4_highestTaskWithWork [.ref (ad 0)] V K := by
  refine H_i (w := wp_X4_highestTaskWithWork V K) (by decide) (Nat.le_of_ble_eq_true rfl) (List.forall_mem_cons.mpr ⟨rfl, (fun _ h => absurd h List.not_mem_nil)⟩) hi ?_
  intro p e s m args below meth c A hC hrt hlk
  have J_6 : ∀ (n : Nat), ∀ (V : St) (l1 : Int32) (l2 : Int32) (l3 : Int32), G p l e rm_X4_highestTaskWithWork s m args below meth c 0 0 (MQ below (va_Qi K (Bq D ad cy) A) args s 0 0 A) 4 D ad cy A (lp (fun _ _ _ _ => False) (h_X4_highestTaskWithWork_6 K) n V l1 l2 l3) V 6 [some (.ref (ad 0)), some (.int l1), some (.int l2), some (.int l3)] [] := by
    intro n
    induction n with
    | zero => exact fun _ _ _ _ h => False.elim h
    | succ n IH =>
      generalize hrec : lp (fun _ _ _ _ => False) (h_X4_highestTaskWithWork_6 K) n = rec_6 at IH
      have ih_6 := IH
      intro V l1 l2 l3 
      show G p l e rm_X4_highestTaskWithWork s m args below meth c 0 0 (MQ below (va_Qi K (Bq D ad cy) A) args s 0 0 A) 4 D ad cy A (h_X4_highestTaskWithWork_6 K (lp (fun _ _ _ _ => False) (h_X4_highestTaskWithWork_6 K) n) V l1 l2 l3) V 6 [some (.ref (ad 0)), some (.int l1), some (.int l2), some (.int l3)] []
      rw [hrec]
      refine g_iload_n (pc := 6) hC dX4_highestTaskWithWork_6 rfl ?_
      refine g_bipush (pc := 7) hC (6 : Int32) dX4_highestTaskWithWork_7 (by decide) ?_
      refine g_icmp_ge (pc := 9) (tgt := 67) hC dX4_highestTaskWithWork_9 (by decide) ?_ ?_
      · refine g_iload_n (pc := 67) hC dX4_highestTaskWithWork_67 rfl ?_
        exact g_iret (pc := 68) hC hrt hlk dX4_highestTaskWithWork_68
      · refine g_aload_n (pc := 12) hC dX4_highestTaskWithWork_12 rfl ?_
        refine g_getR (pc := 13) hC fl_X4_18 (by decide) rfl rfl dX4_highestTaskWithWork_13 ?_
        refine g_iload_n (pc := 16) hC dX4_highestTaskWithWork_16 rfl ?_
        refine g_aald (pc := 17) hC (by decide) rfl rfl (by decide) dX4_highestTaskWithWork_17 (fun k1 hk1 => ?_)
        refine g_getI (pc := 18) hC fl_X4_75 (tskAt hk1).1 (tskAt hk1).2 rfl dX4_highestTaskWithWork_18 ?_
        refine g_if_eq (pc := 21) (tgt := 61) hC dX4_highestTaskWithWork_21 (by decide) ?_ ?_
        · refine g_iinc (pc := 61) (L2 := [some (.ref (ad 0)), some (.int l1), some (.int l2), some (.int (l3 + 1))]) hC (l3 + 1) dX4_highestTaskWithWork_61 rfl rfl (by decide) rfl ?_
          refine g_goto (pc := 64) (tgt := 6) hC dX4_highestTaskWithWork_64 (by decide) ?_
          exact ih_6 V l1 l2 (l3 + 1)
        · refine g_aload_n (pc := 24) hC dX4_highestTaskWithWork_24 rfl ?_
          refine g_getR (pc := 25) hC fl_X4_18 (by decide) rfl rfl dX4_highestTaskWithWork_25 ?_
          refine g_iload_n (pc := 28) hC dX4_highestTaskWithWork_28 rfl ?_
          refine g_aald (pc := 29) hC (by decide) rfl rfl (by decide) dX4_highestTaskWithWork_29 (fun k2 hk2 => ?_)
          refine g_getI (pc := 30) hC fl_X4_163 (tskAt hk2).1 (tskAt hk2).2 rfl dX4_highestTaskWithWork_30 ?_
          refine g_if_le (pc := 33) (tgt := 61) hC dX4_highestTaskWithWork_33 (by decide) ?_ ?_
          · refine g_iinc (pc := 61) (L2 := [some (.ref (ad 0)), some (.int l1), some (.int l2), some (.int (l3 + 1))]) hC (l3 + 1) dX4_highestTaskWithWork_61 rfl rfl (by decide) rfl ?_
            refine g_goto (pc := 64) (tgt := 6) hC dX4_highestTaskWithWork_64 (by decide) ?_
            exact ih_6 V l1 l2 (l3 + 1)
          · refine g_aload_n (pc := 36) hC dX4_highestTaskWithWork_36 rfl ?_
            refine g_getR (pc := 37) hC fl_X4_18 (by decide) rfl rfl dX4_highestTaskWithWork_37 ?_
            refine g_iload_n (pc := 40) hC dX4_highestTaskWithWork_40 rfl ?_
            refine g_aald (pc := 41) hC (by decide) rfl rfl (by decide) dX4_highestTaskWithWork_41 (fun k3 hk3 => ?_)
            refine g_getI (pc := 42) hC fl_X4_194 (tskAt hk3).1 (tskAt hk3).2 rfl dX4_highestTaskWithWork_42 ?_
            refine g_iload_n (pc := 45) hC dX4_highestTaskWithWork_45 rfl ?_
            refine g_icmp_le (pc := 46) (tgt := 61) hC dX4_highestTaskWithWork_46 (by decide) ?_ ?_
            · refine g_iinc (pc := 61) (L2 := [some (.ref (ad 0)), some (.int l1), some (.int l2), some (.int (l3 + 1))]) hC (l3 + 1) dX4_highestTaskWithWork_61 rfl rfl (by decide) rfl ?_
              refine g_goto (pc := 64) (tgt := 6) hC dX4_highestTaskWithWork_64 (by decide) ?_
              exact ih_6 V l1 l2 (l3 + 1)
            · refine g_iload_n (pc := 49) hC dX4_highestTaskWithWork_49 rfl ?_
              refine g_istore_n (pc := 50) (L2 := [some (.ref (ad 0)), some (.int l3), some (.int l2), some (.int l3)]) hC dX4_highestTaskWithWork_50 (by decide) rfl ?_
              refine g_aload_n (pc := 51) hC dX4_highestTaskWithWork_51 rfl ?_
              refine g_getR (pc := 52) hC fl_X4_18 (by decide) rfl rfl dX4_highestTaskWithWork_52 ?_
              refine g_iload_n (pc := 55) hC dX4_highestTaskWithWork_55 rfl ?_
              refine g_aald (pc := 56) hC (by decide) rfl rfl (by decide) dX4_highestTaskWithWork_56 (fun k4 hk4 => ?_)
              refine g_getI (pc := 57) hC fl_X4_194 (tskAt hk4).1 (tskAt hk4).2 rfl dX4_highestTaskWithWork_57 ?_
              refine g_nm (fun x5 => ?_)
              refine g_istore_n (pc := 60) (L2 := [some (.ref (ad 0)), some (.int l3), some (.int x5), some (.int l3)]) hC dX4_highestTaskWithWork_60 (by decide) rfl ?_
              refine g_iinc (pc := 61) (L2 := [some (.ref (ad 0)), some (.int l3), some (.int x5), some (.int (l3 + 1))]) hC (l3 + 1) dX4_highestTaskWithWork_61 rfl rfl (by decide) rfl ?_
              refine g_goto (pc := 64) (tgt := 6) hC dX4_highestTaskWithWork_64 (by decide) ?_
              exact ih_6 V l3 x5 (l3 + 1)
  show G p l e rm_X4_highestTaskWithWork s m args below meth c 0 0 (MQ below (va_Qi K (Bq D ad cy) A) args s 0 0 A) 4 D ad cy A (wp_X4_highestTaskWithWork V K) V 0 [some (.ref (ad 0)), none, none, none] []
  refine g_iconst (pc := 0) hC (-1 : Int32) dX4_highestTaskWithWork_0 (by decide) ?_
  refine g_istore_n (pc := 1) (L2 := [some (.ref (ad 0)), some (.int (-1 : Int32)), none, none]) hC dX4_highestTaskWithWork_1 (by decide) rfl ?_
  refine g_iconst (pc := 2) hC (-1 : Int32) dX4_highestTaskWithWork_2 (by decide) ?_
  refine g_istore_n (pc := 3) (L2 := [some (.ref (ad 0)), some (.int (-1 : Int32)), some (.int (-1 : Int32)), none]) hC dX4_highestTaskWithWork_3 (by decide) rfl ?_
  refine g_iconst (pc := 4) hC (0 : Int32) dX4_highestTaskWithWork_4 (by decide) ?_
  refine g_istore_n (pc := 5) (L2 := [some (.ref (ad 0)), some (.int (-1 : Int32)), some (.int (-1 : Int32)), some (.int (0 : Int32))]) hC dX4_highestTaskWithWork_5 (by decide) rfl ?_
  exact g_ex (fun n => J_6  n V (-1 : Int32) (-1 : Int32) (0 : Int32))
def rm_X4_runOne : Room := ({ frames := 4, cells := 0, slots := 0, locals := 86 } : Room)
def wp_X4_runOne (V : St) (K : Int32 → St → Prop) : Prop := if (V 3 2) ≤ 0 then (wp_X4_highestReadySource V (fun (r1 : Int32) (V2 : St) => if r1 = (-1 : Int32) then (wp_X4_highestTaskWithWork V2 (fun (r3 : Int32) (V4 : St) => if r3 = (-1 : Int32) then (K (0 : Int32) V4) else (∃ k5, k5 < 6 ∧ r3 = nI k5 ∧ wp_X0_work V4 (fun (V6 : St) => K ((30 : Int32) + r3) V6) (6 + 1 * k5)))) else (∃ k7, k7 < 6 ∧ r1 = nI k7 ∧ wp_X3_runHandler V2 (fun (V8 : St) => K ((20 : Int32) + r1) V8) (12 + 8 * k7) (V2 0 5)))) else (wp_X4_runTop V (fun (r9 : Int32) (V10 : St) => K ((10 : Int32) + r9) V10))
set_option maxRecDepth 100000 in
set_option maxHeartbeats 4000000 in
theorem c_X4_runOne {l : Launch} {D : va_G} {ad : Nat → Nat} {cy : Nat → ClassId} (hi : inj ad) {V : St} {K : Int32 → St → Prop} : wp_X4_runOne V K → Hi l D ad cy yX4_runOne (Cond.code yX4_runOne cX4_runOne 3 (some .int) :: WA) rm_X4_runOne [.ref (ad 0)] V K := by
  refine H_i (w := wp_X4_runOne V K) (by decide) (Nat.le_of_ble_eq_true rfl) (List.forall_mem_cons.mpr ⟨rfl, (fun _ h => absurd h List.not_mem_nil)⟩) hi ?_
  intro p e s m args below meth c A hC hrt hlk
  show G p l e rm_X4_runOne s m args below meth c 0 0 (MQ below (va_Qi K (Bq D ad cy) A) args s 0 0 A) 3 D ad cy A (wp_X4_runOne V K) V 0 [some (.ref (ad 0)), none, none] []
  refine g_aload_n (pc := 0) hC dX4_runOne_0 rfl ?_
  refine g_getR (pc := 1) hC fl_X4_28 (by decide) rfl rfl dX4_runOne_1 ?_
  refine g_getI (pc := 4) hC fl_X4_126 (RowAt.l0 topAt) topAt.2.1 rfl dX4_runOne_4 ?_
  refine g_if_le (pc := 7) (tgt := 18) hC dX4_runOne_7 (by decide) ?_ ?_
  · refine g_aload_n (pc := 18) hC dX4_runOne_18 rfl ?_
    refine g_cvi (pc := 19) hC (c_X4_highestReadySource hC.2.2.2.1) mi_X4_highestReadySource ww_266 ⟨rfl, rfl⟩ ⟨by decide, by decide⟩ (by decide) rfl rfl rfl rfl (Nat.le_of_ble_eq_true rfl) ⟨Nat.le_of_ble_eq_true rfl, Nat.le_of_ble_eq_true rfl⟩ dX4_runOne_19 (fun r1 V2 => ?_)
    refine g_istore_n (pc := 22) (L2 := [some (.ref (ad 0)), some (.int r1), none]) hC dX4_runOne_22 (by decide) rfl ?_
    refine g_iload_n (pc := 23) hC dX4_runOne_23 rfl ?_
    refine g_iconst (pc := 24) hC (-1 : Int32) dX4_runOne_24 (by decide) ?_
    refine g_icmp_eq (pc := 25) (tgt := 46) hC dX4_runOne_25 (by decide) ?_ ?_
    · refine g_aload_n (pc := 46) hC dX4_runOne_46 rfl ?_
      refine g_cvi (pc := 47) hC (c_X4_highestTaskWithWork hC.2.2.2.1) mi_X4_highestTaskWithWork ww_296 ⟨rfl, rfl⟩ ⟨by decide, by decide⟩ (by decide) rfl rfl rfl rfl (Nat.le_of_ble_eq_true rfl) ⟨Nat.le_of_ble_eq_true rfl, Nat.le_of_ble_eq_true rfl⟩ dX4_runOne_47 (fun r3 V4 => ?_)
      refine g_istore_n (pc := 50) (L2 := [some (.ref (ad 0)), some (.int r1), some (.int r3)]) hC dX4_runOne_50 (by decide) rfl ?_
      refine g_iload_n (pc := 51) hC dX4_runOne_51 rfl ?_
      refine g_iconst (pc := 52) hC (-1 : Int32) dX4_runOne_52 (by decide) ?_
      refine g_icmp_eq (pc := 53) (tgt := 70) hC dX4_runOne_53 (by decide) ?_ ?_
      · refine g_iconst (pc := 70) hC (0 : Int32) dX4_runOne_70 (by decide) ?_
        exact g_iret (pc := 71) hC hrt hlk dX4_runOne_71
      · refine g_aload_n (pc := 56) hC dX4_runOne_56 rfl ?_
        refine g_getR (pc := 57) hC fl_X4_18 (by decide) rfl rfl dX4_runOne_57 ?_
        refine g_iload_n (pc := 60) hC dX4_runOne_60 rfl ?_
        refine g_aald (pc := 61) hC (by decide) rfl rfl (by decide) dX4_runOne_61 (fun k5 hk5 => ?_)
        refine g_cvv (pc := 62) hC (c_X0_work hC.2.2.2.1 (tskAt hk5)) mi_X0_work ww_300 ⟨rfl, rfl⟩ ⟨by decide, by decide⟩ (tskAt hk5).1 (tskAt hk5).2 rfl rfl rfl (Nat.le_of_ble_eq_true rfl) ⟨Nat.le_of_ble_eq_true rfl, Nat.le_of_ble_eq_true rfl⟩ dX4_runOne_62 (fun V6 => ?_)
        refine g_bipush (pc := 65) hC (30 : Int32) dX4_runOne_65 (by decide) ?_
        refine g_iload_n (pc := 67) hC dX4_runOne_67 rfl ?_
        refine g_iadd (pc := 68) hC dX4_runOne_68 ?_
        exact g_iret (pc := 69) hC hrt hlk dX4_runOne_69
    · refine g_aload_n (pc := 28) hC dX4_runOne_28 rfl ?_
      refine g_getR (pc := 29) hC fl_X4_11 (by decide) rfl rfl dX4_runOne_29 ?_
      refine g_iload_n (pc := 32) hC dX4_runOne_32 rfl ?_
      refine g_aald (pc := 33) hC (by decide) rfl rfl (by decide) dX4_runOne_33 (fun k7 hk7 => ?_)
      refine g_aload_n (pc := 34) hC dX4_runOne_34 rfl ?_
      refine g_getI (pc := 35) hC fl_X4_40 (by decide) rfl rfl dX4_runOne_35 ?_
      refine g_cvv (pc := 38) hC (c_X3_runHandler hC.2.2.2.1 (srcAt hk7)) mi_X3_runHandler ww_274 ⟨rfl, rfl⟩ ⟨by decide, by decide⟩ (SrcAt.l0 (srcAt hk7)) (srcAt hk7).2.1 rfl rfl rfl (Nat.le_of_ble_eq_true rfl) ⟨Nat.le_of_ble_eq_true rfl, Nat.le_of_ble_eq_true rfl⟩ dX4_runOne_38 (fun V8 => ?_)
      refine g_bipush (pc := 41) hC (20 : Int32) dX4_runOne_41 (by decide) ?_
      refine g_iload_n (pc := 43) hC dX4_runOne_43 rfl ?_
      refine g_iadd (pc := 44) hC dX4_runOne_44 ?_
      exact g_iret (pc := 45) hC hrt hlk dX4_runOne_45
  · refine g_bipush (pc := 10) hC (10 : Int32) dX4_runOne_10 (by decide) ?_
    refine g_aload_n (pc := 12) hC dX4_runOne_12 rfl ?_
    refine g_cvi (pc := 13) hC (c_X4_runTop hC.2.2.2.1) mi_X4_runTop ww_254 ⟨rfl, rfl⟩ ⟨by decide, by decide⟩ (by decide) rfl rfl rfl rfl (Nat.le_of_ble_eq_true rfl) ⟨Nat.le_of_ble_eq_true rfl, Nat.le_of_ble_eq_true rfl⟩ dX4_runOne_13 (fun r9 V10 => ?_)
    refine g_iadd (pc := 16) hC dX4_runOne_16 ?_
    exact g_iret (pc := 17) hC hrt hlk dX4_runOne_17
def rm_X4_giveBack : Room := ({ frames := 2, cells := 0, slots := 0, locals := 47 } : Room)
def h_X4_giveBack_2 (K : St → Prop) (rec_2 : St → Int32 → Prop) (V : St) (l1 : Int32) : Prop := if (6 : Int32) ≤ l1 then (K V) else (∃ k1, k1 < 6 ∧ l1 = nI k1 ∧ if (V (12 + 8 * k1) 3) = 0 then (rec_2 V (l1 + 1)) else (∃ k2, k2 < 6 ∧ l1 = nI k2 ∧ wp_X3_giveBack V (fun (V3 : St) => rec_2 V3 (l1 + 1)) (12 + 8 * k2) (V 0 5)))
def wp_X4_giveBack (V : St) (K : St → Prop) : Prop := ∃ n, lp (fun _ _ => False) (h_X4_giveBack_2 K) n V (0 : Int32)
set_option maxRecDepth 100000 in
set_option maxHeartbeats 4000000 in
theorem c_X4_giveBack {l : Launch} {D : va_G} {ad : Nat → Nat} {cy : Nat → ClassId} (hi : inj ad) {V : St} {K : St → Prop} : wp_X4_giveBack V K → Hv l D ad cy yX4_giveBack (Cond.code yX4_giveBack cX4_giveBack 2 none :: WA) rm_X4_giveBack [.ref (ad 0)] V K := by
  refine H_v (w := wp_X4_giveBack V K) (by decide) (Nat.le_of_ble_eq_true rfl) (List.forall_mem_cons.mpr ⟨rfl, (fun _ h => absurd h List.not_mem_nil)⟩) hi ?_
  intro p e s m args below meth c A hC hrt hlk
  have J_2 : ∀ (n : Nat), ∀ (V : St) (l1 : Int32), G p l e rm_X4_giveBack s m args below meth c 0 0 (MQ below (va_Qv K (Bq D ad cy) A) args s 0 0 A) 2 D ad cy A (lp (fun _ _ => False) (h_X4_giveBack_2 K) n V l1) V 2 [some (.ref (ad 0)), some (.int l1)] [] := by
    intro n
    induction n with
    | zero => exact fun _ _ h => False.elim h
    | succ n IH =>
      generalize hrec : lp (fun _ _ => False) (h_X4_giveBack_2 K) n = rec_2 at IH
      have ih_2 := IH
      intro V l1 
      show G p l e rm_X4_giveBack s m args below meth c 0 0 (MQ below (va_Qv K (Bq D ad cy) A) args s 0 0 A) 2 D ad cy A (h_X4_giveBack_2 K (lp (fun _ _ => False) (h_X4_giveBack_2 K) n) V l1) V 2 [some (.ref (ad 0)), some (.int l1)] []
      rw [hrec]
      refine g_iload_n (pc := 2) hC dX4_giveBack_2 rfl ?_
      refine g_bipush (pc := 3) hC (6 : Int32) dX4_giveBack_3 (by decide) ?_
      refine g_icmp_ge (pc := 5) (tgt := 39) hC dX4_giveBack_5 (by decide) ?_ ?_
      · exact g_vret (pc := 39) hC hrt hlk dX4_giveBack_39
      · refine g_aload_n (pc := 8) hC dX4_giveBack_8 rfl ?_
        refine g_getR (pc := 9) hC fl_X4_11 (by decide) rfl rfl dX4_giveBack_9 ?_
        refine g_iload_n (pc := 12) hC dX4_giveBack_12 rfl ?_
        refine g_aald (pc := 13) hC (by decide) rfl rfl (by decide) dX4_giveBack_13 (fun k1 hk1 => ?_)
        refine g_getI (pc := 14) hC fl_X4_53 (SrcAt.l0 (srcAt hk1)) (srcAt hk1).2.1 rfl dX4_giveBack_14 ?_
        refine g_if_eq (pc := 17) (tgt := 33) hC dX4_giveBack_17 (by decide) ?_ ?_
        · refine g_iinc (pc := 33) (L2 := [some (.ref (ad 0)), some (.int (l1 + 1))]) hC (l1 + 1) dX4_giveBack_33 rfl rfl (by decide) rfl ?_
          refine g_goto (pc := 36) (tgt := 2) hC dX4_giveBack_36 (by decide) ?_
          exact ih_2 V (l1 + 1)
        · refine g_aload_n (pc := 20) hC dX4_giveBack_20 rfl ?_
          refine g_getR (pc := 21) hC fl_X4_11 (by decide) rfl rfl dX4_giveBack_21 ?_
          refine g_iload_n (pc := 24) hC dX4_giveBack_24 rfl ?_
          refine g_aald (pc := 25) hC (by decide) rfl rfl (by decide) dX4_giveBack_25 (fun k2 hk2 => ?_)
          refine g_aload_n (pc := 26) hC dX4_giveBack_26 rfl ?_
          refine g_getI (pc := 27) hC fl_X4_40 (by decide) rfl rfl dX4_giveBack_27 ?_
          refine g_cvv (pc := 30) hC (c_X3_giveBack hC.2.2.2.1 (srcAt hk2)) mi_X3_giveBack ww_311 ⟨rfl, rfl⟩ ⟨by decide, by decide⟩ (SrcAt.l0 (srcAt hk2)) (srcAt hk2).2.1 rfl rfl rfl (Nat.le_of_ble_eq_true rfl) ⟨Nat.le_of_ble_eq_true rfl, Nat.le_of_ble_eq_true rfl⟩ dX4_giveBack_30 (fun V3 => ?_)
          refine g_iinc (pc := 33) (L2 := [some (.ref (ad 0)), some (.int (l1 + 1))]) hC (l1 + 1) dX4_giveBack_33 rfl rfl (by decide) rfl ?_
          refine g_goto (pc := 36) (tgt := 2) hC dX4_giveBack_36 (by decide) ?_
          exact ih_2 V3 (l1 + 1)
  show G p l e rm_X4_giveBack s m args below meth c 0 0 (MQ below (va_Qv K (Bq D ad cy) A) args s 0 0 A) 2 D ad cy A (wp_X4_giveBack V K) V 0 [some (.ref (ad 0)), none] []
  refine g_iconst (pc := 0) hC (0 : Int32) dX4_giveBack_0 (by decide) ?_
  refine g_istore_n (pc := 1) (L2 := [some (.ref (ad 0)), some (.int (0 : Int32))]) hC dX4_giveBack_1 (by decide) rfl ?_
  exact g_ex (fun n => J_2  n V (0 : Int32))
def rm_X4_tick : Room := ({ frames := 5, cells := 0, slots := 0, locals := 108 } : Room)
def wp_X4_tick (V : St) (K : Int32 → St → Prop) : Prop := wp_X4_beginPeriods V (fun (V1 : St) => wp_X4_runOne V1 (fun (r2 : Int32) (V3 : St) => wp_J9_floorMod_7cf53 V3 (fun (r4 : Int32) (V5 : St) => vp_in r4 1000 ∧ ∀ V6 : St, V6 = up2 V5 5 r4.toNatClampNeg r2.toInt8.toInt32.toInt8.toInt32 → ∀ V7 : St, V7 = up2 V6 0 5 ((V6 0 5) + (1 : Int32)) → wp_X4_giveBack V7 (fun (V8 : St) => K r2 V8)) (V3 0 5) (1000 : Int32)))
set_option maxRecDepth 100000 in
set_option maxHeartbeats 4000000 in
theorem c_X4_tick {l : Launch} {D : va_G} {ad : Nat → Nat} {cy : Nat → ClassId} (hi : inj ad) {V : St} {K : Int32 → St → Prop} : wp_X4_tick V K → Hi l D ad cy yX4_tick (Cond.code yX4_tick cX4_tick 2 (some .int) :: WA) rm_X4_tick [.ref (ad 0)] V K := by
  refine H_i (w := wp_X4_tick V K) (by decide) (Nat.le_of_ble_eq_true rfl) (List.forall_mem_cons.mpr ⟨rfl, (fun _ h => absurd h List.not_mem_nil)⟩) hi ?_
  intro p e s m args below meth c A hC hrt hlk
  show G p l e rm_X4_tick s m args below meth c 0 0 (MQ below (va_Qi K (Bq D ad cy) A) args s 0 0 A) 2 D ad cy A (wp_X4_tick V K) V 0 [some (.ref (ad 0)), none] []
  refine g_aload_n (pc := 0) hC dX4_tick_0 rfl ?_
  refine g_cvv (pc := 1) hC (c_X4_beginPeriods hC.2.2.2.1) mi_X4_beginPeriods ww_242 ⟨rfl, rfl⟩ ⟨by decide, by decide⟩ (by decide) rfl rfl rfl rfl (Nat.le_of_ble_eq_true rfl) ⟨Nat.le_of_ble_eq_true rfl, Nat.le_of_ble_eq_true rfl⟩ dX4_tick_1 (fun V1 => ?_)
  refine g_aload_n (pc := 4) hC dX4_tick_4 rfl ?_
  refine g_cvi (pc := 5) hC (c_X4_runOne hC.2.2.2.1) mi_X4_runOne ww_250 ⟨rfl, rfl⟩ ⟨by decide, by decide⟩ (by decide) rfl rfl rfl rfl (Nat.le_of_ble_eq_true rfl) ⟨Nat.le_of_ble_eq_true rfl, Nat.le_of_ble_eq_true rfl⟩ dX4_tick_5 (fun r2 V3 => ?_)
  refine g_istore_n (pc := 8) (L2 := [some (.ref (ad 0)), some (.int r2)]) hC dX4_tick_8 (by decide) rfl ?_
  refine g_aload_n (pc := 9) hC dX4_tick_9 rfl ?_
  refine g_getR (pc := 10) hC fl_X4_32 (by decide) rfl rfl dX4_tick_10 ?_
  refine g_aload_n (pc := 13) hC dX4_tick_13 rfl ?_
  refine g_getI (pc := 14) hC fl_X4_40 (by decide) rfl rfl dX4_tick_14 ?_
  refine g_sipush (pc := 17) hC (1000 : Int32) dX4_tick_17 (by decide) ?_
  refine g_csi (pc := 20) hC (c_J9_floorMod_7cf53 hC.2.2.2.1) mi_J9_floorMod_7cf53 ww_304 ⟨rfl, rfl⟩ ⟨by decide, by decide⟩ rfl rfl (Nat.le_of_ble_eq_true rfl) ⟨Nat.le_of_ble_eq_true rfl, Nat.le_of_ble_eq_true rfl⟩ dX4_tick_20 (fun r4 V5 => ?_)
  refine g_iload_n (pc := 23) hC dX4_tick_23 rfl ?_
  refine g_i2b (pc := 24) hC dX4_tick_24 ?_
  refine g_bast (pc := 25) hC (by decide) rfl dX4_tick_25 (fun V6 => ?_)
  refine g_aload_n (pc := 26) hC dX4_tick_26 rfl ?_
  refine g_dup (pc := 27) hC dX4_tick_27 rfl ?_
  refine g_getI (pc := 28) hC fl_X4_40 (by decide) rfl rfl dX4_tick_28 ?_
  refine g_iconst (pc := 31) hC (1 : Int32) dX4_tick_31 (by decide) ?_
  refine g_iadd (pc := 32) hC dX4_tick_32 ?_
  refine g_putI (pc := 33) hC fp_X4_40 (by decide) rfl rfl dX4_tick_33 (fun V7 => ?_)
  refine g_aload_n (pc := 36) hC dX4_tick_36 rfl ?_
  refine g_cvv (pc := 37) hC (c_X4_giveBack hC.2.2.2.1) mi_X4_giveBack ww_307 ⟨rfl, rfl⟩ ⟨by decide, by decide⟩ (by decide) rfl rfl rfl rfl (Nat.le_of_ble_eq_true rfl) ⟨Nat.le_of_ble_eq_true rfl, Nat.le_of_ble_eq_true rfl⟩ dX4_tick_37 (fun V8 => ?_)
  refine g_iload_n (pc := 40) hC dX4_tick_40 rfl ?_
  exact g_iret (pc := 41) hC hrt hlk dX4_tick_41
def rm_X4_time : Room := ({ frames := 0, cells := 0, slots := 0, locals := 0 } : Room)
def wp_X4_time (V : St) (K : Int32 → St → Prop) : Prop := K (V 0 5) V
set_option maxRecDepth 100000 in
set_option maxHeartbeats 4000000 in
theorem c_X4_time {l : Launch} {D : va_G} {ad : Nat → Nat} {cy : Nat → ClassId} (hi : inj ad) {V : St} {K : Int32 → St → Prop} : wp_X4_time V K → Hi l D ad cy yX4_time (Cond.code yX4_time cX4_time 1 (some .int) :: WA) rm_X4_time [.ref (ad 0)] V K := by
  refine H_i (w := wp_X4_time V K) (by decide) (Nat.le_of_ble_eq_true rfl) (List.forall_mem_cons.mpr ⟨rfl, (fun _ h => absurd h List.not_mem_nil)⟩) hi ?_
  intro p e s m args below meth c A hC hrt hlk
  show G p l e rm_X4_time s m args below meth c 0 0 (MQ below (va_Qi K (Bq D ad cy) A) args s 0 0 A) 1 D ad cy A (wp_X4_time V K) V 0 [some (.ref (ad 0))] []
  refine g_aload_n (pc := 0) hC dX4_time_0 rfl ?_
  refine g_getI (pc := 1) hC fl_X4_40 (by decide) rfl rfl dX4_time_1 ?_
  exact g_iret (pc := 4) hC hrt hlk dX4_time_4
def rm_X4_within : Room := ({ frames := 0, cells := 0, slots := 0, locals := 0 } : Room)
def wp_X4_within (V : St) (K : Int32 → St → Prop) (a1 : Int32) (a2 : Int32) (a3 : Int32) : Prop := if a1 < a2 then (K (0 : Int32) V) else (if a3 < a1 then (K (0 : Int32) V) else (K (1 : Int32) V))
set_option maxRecDepth 100000 in
set_option maxHeartbeats 4000000 in
theorem c_X4_within {l : Launch} {D : va_G} {ad : Nat → Nat} {cy : Nat → ClassId} (hi : inj ad) {V : St} {K : Int32 → St → Prop} {a1 : Int32} {a2 : Int32} {a3 : Int32} : wp_X4_within V K a1 a2 a3 → Hi l D ad cy yX4_within (Cond.code yX4_within cX4_within 3 (some .boolean) :: WA) rm_X4_within [.int a1, .int a2, .int a3] V K := by
  refine H_i (w := wp_X4_within V K a1 a2 a3) (by decide) (Nat.le_of_ble_eq_true rfl) (List.forall_mem_cons.mpr ⟨rfl, (List.forall_mem_cons.mpr ⟨rfl, (List.forall_mem_cons.mpr ⟨rfl, (fun _ h => absurd h List.not_mem_nil)⟩)⟩)⟩) hi ?_
  intro p e s m args below meth c A hC hrt hlk
  show G p l e rm_X4_within s m args below meth c 0 0 (MQ below (va_Qi K (Bq D ad cy) A) args s 0 0 A) 3 D ad cy A (wp_X4_within V K a1 a2 a3) V 0 [some (.int a1), some (.int a2), some (.int a3)] []
  refine g_iload_n (pc := 0) hC dX4_within_0 rfl ?_
  refine g_iload_n (pc := 1) hC dX4_within_1 rfl ?_
  refine g_icmp_gt (pc := 2) (tgt := 14) hC dX4_within_2 (by decide) ?_ ?_
  · refine g_iconst (pc := 14) hC (0 : Int32) dX4_within_14 (by decide) ?_
    exact g_zret0 (pc := 15) hC hrt hlk dX4_within_15 (by decide)
  · refine g_iload_n (pc := 5) hC dX4_within_5 rfl ?_
    refine g_iload_n (pc := 6) hC dX4_within_6 rfl ?_
    refine g_icmp_gt (pc := 7) (tgt := 14) hC dX4_within_7 (by decide) ?_ ?_
    · refine g_iconst (pc := 14) hC (0 : Int32) dX4_within_14 (by decide) ?_
      exact g_zret0 (pc := 15) hC hrt hlk dX4_within_15 (by decide)
    · refine g_iconst (pc := 10) hC (1 : Int32) dX4_within_10 (by decide) ?_
      refine g_goto (pc := 11) (tgt := 15) hC dX4_within_11 (by decide) ?_
      exact g_zret0 (pc := 15) hC hrt hlk dX4_within_15 (by decide)
def rm_X4_sourceHasPriority : Room := ({ frames := 0, cells := 0, slots := 0, locals := 0 } : Room)
def h_X4_sourceHasPriority_2 (K : Int32 → St → Prop) (a1 : Int32) (rec_2 : St → Int32 → Prop) (V : St) (l2 : Int32) : Prop := if (6 : Int32) ≤ l2 then (K (0 : Int32) V) else (∃ k1, k1 < 6 ∧ l2 = nI k1 ∧ if (V (12 + 8 * k1) 3) = 0 then (rec_2 V (l2 + 1)) else (∃ k2, k2 < 6 ∧ l2 = nI k2 ∧ if (V (12 + 8 * k2) 9) = a1 then (K (1 : Int32) V) else (rec_2 V (l2 + 1))))
def wp_X4_sourceHasPriority (V : St) (K : Int32 → St → Prop) (a1 : Int32) : Prop := ∃ n, lp (fun _ _ => False) (h_X4_sourceHasPriority_2 K a1) n V (0 : Int32)
set_option maxRecDepth 100000 in
set_option maxHeartbeats 4000000 in
theorem c_X4_sourceHasPriority {l : Launch} {D : va_G} {ad : Nat → Nat} {cy : Nat → ClassId} (hi : inj ad) {V : St} {K : Int32 → St → Prop} {a1 : Int32} : wp_X4_sourceHasPriority V K a1 → Hi l D ad cy yX4_sourceHasPriority (Cond.code yX4_sourceHasPriority cX4_sourceHasPriority 3 (some .boolean) :: WA) rm_X4_sourceHasPriority [.ref (ad 0), .int a1] V K := by
  refine H_i (w := wp_X4_sourceHasPriority V K a1) (by decide) (Nat.le_of_ble_eq_true rfl) (List.forall_mem_cons.mpr ⟨rfl, (List.forall_mem_cons.mpr ⟨rfl, (fun _ h => absurd h List.not_mem_nil)⟩)⟩) hi ?_
  intro p e s m args below meth c A hC hrt hlk
  have J_2 : ∀ (n : Nat), ∀ (V : St) (l2 : Int32), G p l e rm_X4_sourceHasPriority s m args below meth c 0 0 (MQ below (va_Qi K (Bq D ad cy) A) args s 0 0 A) 3 D ad cy A (lp (fun _ _ => False) (h_X4_sourceHasPriority_2 K a1) n V l2) V 2 [some (.ref (ad 0)), some (.int a1), some (.int l2)] [] := by
    intro n
    induction n with
    | zero => exact fun _ _ h => False.elim h
    | succ n IH =>
      generalize hrec : lp (fun _ _ => False) (h_X4_sourceHasPriority_2 K a1) n = rec_2 at IH
      have ih_2 := IH
      intro V l2 
      show G p l e rm_X4_sourceHasPriority s m args below meth c 0 0 (MQ below (va_Qi K (Bq D ad cy) A) args s 0 0 A) 3 D ad cy A (h_X4_sourceHasPriority_2 K a1 (lp (fun _ _ => False) (h_X4_sourceHasPriority_2 K a1) n) V l2) V 2 [some (.ref (ad 0)), some (.int a1), some (.int l2)] []
      rw [hrec]
      refine g_iload_n (pc := 2) hC dX4_sourceHasPriority_2 rfl ?_
      refine g_bipush (pc := 3) hC (6 : Int32) dX4_sourceHasPriority_3 (by decide) ?_
      refine g_icmp_ge (pc := 5) (tgt := 41) hC dX4_sourceHasPriority_5 (by decide) ?_ ?_
      · refine g_iconst (pc := 41) hC (0 : Int32) dX4_sourceHasPriority_41 (by decide) ?_
        exact g_zret0 (pc := 42) hC hrt hlk dX4_sourceHasPriority_42 (by decide)
      · refine g_aload_n (pc := 8) hC dX4_sourceHasPriority_8 rfl ?_
        refine g_getR (pc := 9) hC fl_X4_11 (by decide) rfl rfl dX4_sourceHasPriority_9 ?_
        refine g_iload_n (pc := 12) hC dX4_sourceHasPriority_12 rfl ?_
        refine g_aald (pc := 13) hC (by decide) rfl rfl (by decide) dX4_sourceHasPriority_13 (fun k1 hk1 => ?_)
        refine g_getI (pc := 14) hC fl_X4_53 (SrcAt.l0 (srcAt hk1)) (srcAt hk1).2.1 rfl dX4_sourceHasPriority_14 ?_
        refine g_if_eq (pc := 17) (tgt := 35) hC dX4_sourceHasPriority_17 (by decide) ?_ ?_
        · refine g_iinc (pc := 35) (L2 := [some (.ref (ad 0)), some (.int a1), some (.int (l2 + 1))]) hC (l2 + 1) dX4_sourceHasPriority_35 rfl rfl (by decide) rfl ?_
          refine g_goto (pc := 38) (tgt := 2) hC dX4_sourceHasPriority_38 (by decide) ?_
          exact ih_2 V (l2 + 1)
        · refine g_aload_n (pc := 20) hC dX4_sourceHasPriority_20 rfl ?_
          refine g_getR (pc := 21) hC fl_X4_11 (by decide) rfl rfl dX4_sourceHasPriority_21 ?_
          refine g_iload_n (pc := 24) hC dX4_sourceHasPriority_24 rfl ?_
          refine g_aald (pc := 25) hC (by decide) rfl rfl (by decide) dX4_sourceHasPriority_25 (fun k2 hk2 => ?_)
          refine g_getI (pc := 26) hC fl_X4_191 (SrcAt.l0 (srcAt hk2)) (srcAt hk2).2.1 rfl dX4_sourceHasPriority_26 ?_
          refine g_iload_n (pc := 29) hC dX4_sourceHasPriority_29 rfl ?_
          refine g_icmp_ne (pc := 30) (tgt := 35) hC dX4_sourceHasPriority_30 (by decide) ?_ ?_
          · refine g_iinc (pc := 35) (L2 := [some (.ref (ad 0)), some (.int a1), some (.int (l2 + 1))]) hC (l2 + 1) dX4_sourceHasPriority_35 rfl rfl (by decide) rfl ?_
            refine g_goto (pc := 38) (tgt := 2) hC dX4_sourceHasPriority_38 (by decide) ?_
            exact ih_2 V (l2 + 1)
          · refine g_iconst (pc := 33) hC (1 : Int32) dX4_sourceHasPriority_33 (by decide) ?_
            exact g_zret0 (pc := 34) hC hrt hlk dX4_sourceHasPriority_34 (by decide)
  show G p l e rm_X4_sourceHasPriority s m args below meth c 0 0 (MQ below (va_Qi K (Bq D ad cy) A) args s 0 0 A) 3 D ad cy A (wp_X4_sourceHasPriority V K a1) V 0 [some (.ref (ad 0)), some (.int a1), none] []
  refine g_iconst (pc := 0) hC (0 : Int32) dX4_sourceHasPriority_0 (by decide) ?_
  refine g_istore_n (pc := 1) (L2 := [some (.ref (ad 0)), some (.int a1), some (.int (0 : Int32))]) hC dX4_sourceHasPriority_1 (by decide) rfl ?_
  exact g_ex (fun n => J_2  n V (0 : Int32))
def rm_X4_taskHasPriority : Room := ({ frames := 0, cells := 0, slots := 0, locals := 0 } : Room)
def h_X4_taskHasPriority_2 (K : Int32 → St → Prop) (a1 : Int32) (rec_2 : St → Int32 → Prop) (V : St) (l2 : Int32) : Prop := if (6 : Int32) ≤ l2 then (K (0 : Int32) V) else (∃ k1, k1 < 6 ∧ l2 = nI k1 ∧ if (V (6 + 1 * k1) 0) = 0 then (rec_2 V (l2 + 1)) else (∃ k2, k2 < 6 ∧ l2 = nI k2 ∧ if (V (6 + 1 * k2) 3) = a1 then (K (1 : Int32) V) else (rec_2 V (l2 + 1))))
def wp_X4_taskHasPriority (V : St) (K : Int32 → St → Prop) (a1 : Int32) : Prop := ∃ n, lp (fun _ _ => False) (h_X4_taskHasPriority_2 K a1) n V (0 : Int32)
set_option maxRecDepth 100000 in
set_option maxHeartbeats 4000000 in
theorem c_X4_taskHasPriority {l : Launch} {D : va_G} {ad : Nat → Nat} {cy : Nat → ClassId} (hi : inj ad) {V : St} {K : Int32 → St → Prop} {a1 : Int32} : wp_X4_taskHasPriority V K a1 → Hi l D ad cy yX4_taskHasPriority (Cond.code yX4_taskHasPriority cX4_taskHasPriority 3 (some .boolean) :: WA) rm_X4_taskHasPriority [.ref (ad 0), .int a1] V K := by
  refine H_i (w := wp_X4_taskHasPriority V K a1) (by decide) (Nat.le_of_ble_eq_true rfl) (List.forall_mem_cons.mpr ⟨rfl, (List.forall_mem_cons.mpr ⟨rfl, (fun _ h => absurd h List.not_mem_nil)⟩)⟩) hi ?_
  intro p e s m args below meth c A hC hrt hlk
  have J_2 : ∀ (n : Nat), ∀ (V : St) (l2 : Int32), G p l e rm_X4_taskHasPriority s m args below meth c 0 0 (MQ below (va_Qi K (Bq D ad cy) A) args s 0 0 A) 3 D ad cy A (lp (fun _ _ => False) (h_X4_taskHasPriority_2 K a1) n V l2) V 2 [some (.ref (ad 0)), some (.int a1), some (.int l2)] [] := by
    intro n
    induction n with
    | zero => exact fun _ _ h => False.elim h
    | succ n IH =>
      generalize hrec : lp (fun _ _ => False) (h_X4_taskHasPriority_2 K a1) n = rec_2 at IH
      have ih_2 := IH
      intro V l2 
      show G p l e rm_X4_taskHasPriority s m args below meth c 0 0 (MQ below (va_Qi K (Bq D ad cy) A) args s 0 0 A) 3 D ad cy A (h_X4_taskHasPriority_2 K a1 (lp (fun _ _ => False) (h_X4_taskHasPriority_2 K a1) n) V l2) V 2 [some (.ref (ad 0)), some (.int a1), some (.int l2)] []
      rw [hrec]
      refine g_iload_n (pc := 2) hC dX4_taskHasPriority_2 rfl ?_
      refine g_bipush (pc := 3) hC (6 : Int32) dX4_taskHasPriority_3 (by decide) ?_
      refine g_icmp_ge (pc := 5) (tgt := 41) hC dX4_taskHasPriority_5 (by decide) ?_ ?_
      · refine g_iconst (pc := 41) hC (0 : Int32) dX4_taskHasPriority_41 (by decide) ?_
        exact g_zret0 (pc := 42) hC hrt hlk dX4_taskHasPriority_42 (by decide)
      · refine g_aload_n (pc := 8) hC dX4_taskHasPriority_8 rfl ?_
        refine g_getR (pc := 9) hC fl_X4_18 (by decide) rfl rfl dX4_taskHasPriority_9 ?_
        refine g_iload_n (pc := 12) hC dX4_taskHasPriority_12 rfl ?_
        refine g_aald (pc := 13) hC (by decide) rfl rfl (by decide) dX4_taskHasPriority_13 (fun k1 hk1 => ?_)
        refine g_getI (pc := 14) hC fl_X4_75 (tskAt hk1).1 (tskAt hk1).2 rfl dX4_taskHasPriority_14 ?_
        refine g_if_eq (pc := 17) (tgt := 35) hC dX4_taskHasPriority_17 (by decide) ?_ ?_
        · refine g_iinc (pc := 35) (L2 := [some (.ref (ad 0)), some (.int a1), some (.int (l2 + 1))]) hC (l2 + 1) dX4_taskHasPriority_35 rfl rfl (by decide) rfl ?_
          refine g_goto (pc := 38) (tgt := 2) hC dX4_taskHasPriority_38 (by decide) ?_
          exact ih_2 V (l2 + 1)
        · refine g_aload_n (pc := 20) hC dX4_taskHasPriority_20 rfl ?_
          refine g_getR (pc := 21) hC fl_X4_18 (by decide) rfl rfl dX4_taskHasPriority_21 ?_
          refine g_iload_n (pc := 24) hC dX4_taskHasPriority_24 rfl ?_
          refine g_aald (pc := 25) hC (by decide) rfl rfl (by decide) dX4_taskHasPriority_25 (fun k2 hk2 => ?_)
          refine g_getI (pc := 26) hC fl_X4_194 (tskAt hk2).1 (tskAt hk2).2 rfl dX4_taskHasPriority_26 ?_
          refine g_iload_n (pc := 29) hC dX4_taskHasPriority_29 rfl ?_
          refine g_icmp_ne (pc := 30) (tgt := 35) hC dX4_taskHasPriority_30 (by decide) ?_ ?_
          · refine g_iinc (pc := 35) (L2 := [some (.ref (ad 0)), some (.int a1), some (.int (l2 + 1))]) hC (l2 + 1) dX4_taskHasPriority_35 rfl rfl (by decide) rfl ?_
            refine g_goto (pc := 38) (tgt := 2) hC dX4_taskHasPriority_38 (by decide) ?_
            exact ih_2 V (l2 + 1)
          · refine g_iconst (pc := 33) hC (1 : Int32) dX4_taskHasPriority_33 (by decide) ?_
            exact g_zret0 (pc := 34) hC hrt hlk dX4_taskHasPriority_34 (by decide)
  show G p l e rm_X4_taskHasPriority s m args below meth c 0 0 (MQ below (va_Qi K (Bq D ad cy) A) args s 0 0 A) 3 D ad cy A (wp_X4_taskHasPriority V K a1) V 0 [some (.ref (ad 0)), some (.int a1), none] []
  refine g_iconst (pc := 0) hC (0 : Int32) dX4_taskHasPriority_0 (by decide) ?_
  refine g_istore_n (pc := 1) (L2 := [some (.ref (ad 0)), some (.int a1), some (.int (0 : Int32))]) hC dX4_taskHasPriority_1 (by decide) rfl ?_
  exact g_ex (fun n => J_2  n V (0 : Int32))
def rm_X4_ceil : Room := ({ frames := 0, cells := 0, slots := 0, locals := 0 } : Room)
def wp_X4_ceil (V : St) (K : Int32 → St → Prop) (a1 : Int32) (a2 : Int32) : Prop := ¬ a2 = 0 ∧ K (((a1 + a2) - (1 : Int32)) / a2) V
set_option maxRecDepth 100000 in
set_option maxHeartbeats 4000000 in
theorem c_X4_ceil {l : Launch} {D : va_G} {ad : Nat → Nat} {cy : Nat → ClassId} (hi : inj ad) {V : St} {K : Int32 → St → Prop} {a1 : Int32} {a2 : Int32} : wp_X4_ceil V K a1 a2 → Hi l D ad cy yX4_ceil (Cond.code yX4_ceil cX4_ceil 2 (some .int) :: WA) rm_X4_ceil [.int a1, .int a2] V K := by
  refine H_i (w := wp_X4_ceil V K a1 a2) (by decide) (Nat.le_of_ble_eq_true rfl) (List.forall_mem_cons.mpr ⟨rfl, (List.forall_mem_cons.mpr ⟨rfl, (fun _ h => absurd h List.not_mem_nil)⟩)⟩) hi ?_
  intro p e s m args below meth c A hC hrt hlk
  show G p l e rm_X4_ceil s m args below meth c 0 0 (MQ below (va_Qi K (Bq D ad cy) A) args s 0 0 A) 2 D ad cy A (wp_X4_ceil V K a1 a2) V 0 [some (.int a1), some (.int a2)] []
  refine g_iload_n (pc := 0) hC dX4_ceil_0 rfl ?_
  refine g_iload_n (pc := 1) hC dX4_ceil_1 rfl ?_
  refine g_iadd (pc := 2) hC dX4_ceil_2 ?_
  refine g_iconst (pc := 3) hC (1 : Int32) dX4_ceil_3 (by decide) ?_
  refine g_isub (pc := 4) hC dX4_ceil_4 ?_
  refine g_iload_n (pc := 5) hC dX4_ceil_5 rfl ?_
  refine g_idiv (pc := 6) hC dX4_ceil_6 ?_
  exact g_iret (pc := 7) hC hrt hlk dX4_ceil_7
def rm_X4_handlersTake : Room := ({ frames := 1, cells := 0, slots := 0, locals := 21 } : Room)
def h_X4_handlersTake_5 (K : Int32 → St → Prop) (a1 : Int32) (a2 : Int32) (rec_5 : St → Int32 → Int32 → Prop) (V : St) (l3 : Int32) (l4 : Int32) : Prop := if (6 : Int32) ≤ l4 then (K l3 V) else (∃ k1, k1 < 6 ∧ l4 = nI k1 ∧ if (V (12 + 8 * k1) 3) = 0 then (rec_5 V l3 (l4 + 1)) else (∃ k2, k2 < 6 ∧ l4 = nI k2 ∧ if (V (12 + 8 * k2) 9) ≤ a1 then (rec_5 V l3 (l4 + 1)) else (∃ k3, k3 < 6 ∧ l4 = nI k3 ∧ wp_X4_ceil V (fun (r4 : Int32) (V5 : St) => ∃ k6, k6 < 6 ∧ l4 = nI k6 ∧ ∀ x7 : Int32, x7 = (l3 + ((r4 + (1 : Int32)) * (V5 (12 + 8 * k6) 7))) → rec_5 V5 x7 (l4 + 1)) a2 (V (12 + 8 * k3) 8))))
def wp_X4_handlersTake (V : St) (K : Int32 → St → Prop) (a1 : Int32) (a2 : Int32) : Prop := ∃ n, lp (fun _ _ _ => False) (h_X4_handlersTake_5 K a1 a2) n V (0 : Int32) (0 : Int32)
set_option maxRecDepth 100000 in
set_option maxHeartbeats 4000000 in
theorem c_X4_handlersTake {l : Launch} {D : va_G} {ad : Nat → Nat} {cy : Nat → ClassId} (hi : inj ad) {V : St} {K : Int32 → St → Prop} {a1 : Int32} {a2 : Int32} : wp_X4_handlersTake V K a1 a2 → Hi l D ad cy yX4_handlersTake (Cond.code yX4_handlersTake cX4_handlersTake 5 (some .int) :: WA) rm_X4_handlersTake [.ref (ad 0), .int a1, .int a2] V K := by
  refine H_i (w := wp_X4_handlersTake V K a1 a2) (by decide) (Nat.le_of_ble_eq_true rfl) (List.forall_mem_cons.mpr ⟨rfl, (List.forall_mem_cons.mpr ⟨rfl, (List.forall_mem_cons.mpr ⟨rfl, (fun _ h => absurd h List.not_mem_nil)⟩)⟩)⟩) hi ?_
  intro p e s m args below meth c A hC hrt hlk
  have J_5 : ∀ (n : Nat), ∀ (V : St) (l3 : Int32) (l4 : Int32), G p l e rm_X4_handlersTake s m args below meth c 0 0 (MQ below (va_Qi K (Bq D ad cy) A) args s 0 0 A) 5 D ad cy A (lp (fun _ _ _ => False) (h_X4_handlersTake_5 K a1 a2) n V l3 l4) V 5 [some (.ref (ad 0)), some (.int a1), some (.int a2), some (.int l3), some (.int l4)] [] := by
    intro n
    induction n with
    | zero => exact fun _ _ _ h => False.elim h
    | succ n IH =>
      generalize hrec : lp (fun _ _ _ => False) (h_X4_handlersTake_5 K a1 a2) n = rec_5 at IH
      have ih_5 := IH
      intro V l3 l4 
      show G p l e rm_X4_handlersTake s m args below meth c 0 0 (MQ below (va_Qi K (Bq D ad cy) A) args s 0 0 A) 5 D ad cy A (h_X4_handlersTake_5 K a1 a2 (lp (fun _ _ _ => False) (h_X4_handlersTake_5 K a1 a2) n) V l3 l4) V 5 [some (.ref (ad 0)), some (.int a1), some (.int a2), some (.int l3), some (.int l4)] []
      rw [hrec]
      refine g_iload (pc := 5) hC dX4_handlersTake_5 rfl ?_
      refine g_bipush (pc := 7) hC (6 : Int32) dX4_handlersTake_7 (by decide) ?_
      refine g_icmp_ge (pc := 9) (tgt := 75) hC dX4_handlersTake_9 (by decide) ?_ ?_
      · refine g_iload_n (pc := 75) hC dX4_handlersTake_75 rfl ?_
        exact g_iret (pc := 76) hC hrt hlk dX4_handlersTake_76
      · refine g_aload_n (pc := 12) hC dX4_handlersTake_12 rfl ?_
        refine g_getR (pc := 13) hC fl_X4_11 (by decide) rfl rfl dX4_handlersTake_13 ?_
        refine g_iload (pc := 16) hC dX4_handlersTake_16 rfl ?_
        refine g_aald (pc := 18) hC (by decide) rfl rfl (by decide) dX4_handlersTake_18 (fun k1 hk1 => ?_)
        refine g_getI (pc := 19) hC fl_X4_53 (SrcAt.l0 (srcAt hk1)) (srcAt hk1).2.1 rfl dX4_handlersTake_19 ?_
        refine g_if_eq (pc := 22) (tgt := 69) hC dX4_handlersTake_22 (by decide) ?_ ?_
        · refine g_iinc (pc := 69) (L2 := [some (.ref (ad 0)), some (.int a1), some (.int a2), some (.int l3), some (.int (l4 + 1))]) hC (l4 + 1) dX4_handlersTake_69 rfl rfl (by decide) rfl ?_
          refine g_goto (pc := 72) (tgt := 5) hC dX4_handlersTake_72 (by decide) ?_
          exact ih_5 V l3 (l4 + 1)
        · refine g_aload_n (pc := 25) hC dX4_handlersTake_25 rfl ?_
          refine g_getR (pc := 26) hC fl_X4_11 (by decide) rfl rfl dX4_handlersTake_26 ?_
          refine g_iload (pc := 29) hC dX4_handlersTake_29 rfl ?_
          refine g_aald (pc := 31) hC (by decide) rfl rfl (by decide) dX4_handlersTake_31 (fun k2 hk2 => ?_)
          refine g_getI (pc := 32) hC fl_X4_191 (SrcAt.l0 (srcAt hk2)) (srcAt hk2).2.1 rfl dX4_handlersTake_32 ?_
          refine g_iload_n (pc := 35) hC dX4_handlersTake_35 rfl ?_
          refine g_icmp_le (pc := 36) (tgt := 69) hC dX4_handlersTake_36 (by decide) ?_ ?_
          · refine g_iinc (pc := 69) (L2 := [some (.ref (ad 0)), some (.int a1), some (.int a2), some (.int l3), some (.int (l4 + 1))]) hC (l4 + 1) dX4_handlersTake_69 rfl rfl (by decide) rfl ?_
            refine g_goto (pc := 72) (tgt := 5) hC dX4_handlersTake_72 (by decide) ?_
            exact ih_5 V l3 (l4 + 1)
          · refine g_iload_n (pc := 39) hC dX4_handlersTake_39 rfl ?_
            refine g_iload_n (pc := 40) hC dX4_handlersTake_40 rfl ?_
            refine g_aload_n (pc := 41) hC dX4_handlersTake_41 rfl ?_
            refine g_getR (pc := 42) hC fl_X4_11 (by decide) rfl rfl dX4_handlersTake_42 ?_
            refine g_iload (pc := 45) hC dX4_handlersTake_45 rfl ?_
            refine g_aald (pc := 47) hC (by decide) rfl rfl (by decide) dX4_handlersTake_47 (fun k3 hk3 => ?_)
            refine g_getI (pc := 48) hC fl_X4_241 (SrcAt.l0 (srcAt hk3)) (srcAt hk3).2.1 rfl dX4_handlersTake_48 ?_
            refine g_csi (pc := 51) hC (c_X4_ceil hC.2.2.2.1) mi_X4_ceil ww_458 ⟨rfl, rfl⟩ ⟨by decide, by decide⟩ rfl rfl (Nat.le_of_ble_eq_true rfl) ⟨Nat.le_of_ble_eq_true rfl, Nat.le_of_ble_eq_true rfl⟩ dX4_handlersTake_51 (fun r4 V5 => ?_)
            refine g_iconst (pc := 54) hC (1 : Int32) dX4_handlersTake_54 (by decide) ?_
            refine g_iadd (pc := 55) hC dX4_handlersTake_55 ?_
            refine g_aload_n (pc := 56) hC dX4_handlersTake_56 rfl ?_
            refine g_getR (pc := 57) hC fl_X4_11 (by decide) rfl rfl dX4_handlersTake_57 ?_
            refine g_iload (pc := 60) hC dX4_handlersTake_60 rfl ?_
            refine g_aald (pc := 62) hC (by decide) rfl rfl (by decide) dX4_handlersTake_62 (fun k6 hk6 => ?_)
            refine g_getI (pc := 63) hC fl_X4_235 (SrcAt.l0 (srcAt hk6)) (srcAt hk6).2.1 rfl dX4_handlersTake_63 ?_
            refine g_imul (pc := 66) hC dX4_handlersTake_66 ?_
            refine g_iadd (pc := 67) hC dX4_handlersTake_67 ?_
            refine g_nm (fun x7 => ?_)
            refine g_istore_n (pc := 68) (L2 := [some (.ref (ad 0)), some (.int a1), some (.int a2), some (.int x7), some (.int l4)]) hC dX4_handlersTake_68 (by decide) rfl ?_
            refine g_iinc (pc := 69) (L2 := [some (.ref (ad 0)), some (.int a1), some (.int a2), some (.int x7), some (.int (l4 + 1))]) hC (l4 + 1) dX4_handlersTake_69 rfl rfl (by decide) rfl ?_
            refine g_goto (pc := 72) (tgt := 5) hC dX4_handlersTake_72 (by decide) ?_
            exact ih_5 V5 x7 (l4 + 1)
  show G p l e rm_X4_handlersTake s m args below meth c 0 0 (MQ below (va_Qi K (Bq D ad cy) A) args s 0 0 A) 5 D ad cy A (wp_X4_handlersTake V K a1 a2) V 0 [some (.ref (ad 0)), some (.int a1), some (.int a2), none, none] []
  refine g_iconst (pc := 0) hC (0 : Int32) dX4_handlersTake_0 (by decide) ?_
  refine g_istore_n (pc := 1) (L2 := [some (.ref (ad 0)), some (.int a1), some (.int a2), some (.int (0 : Int32)), none]) hC dX4_handlersTake_1 (by decide) rfl ?_
  refine g_iconst (pc := 2) hC (0 : Int32) dX4_handlersTake_2 (by decide) ?_
  refine g_istore (pc := 3) (L2 := [some (.ref (ad 0)), some (.int a1), some (.int a2), some (.int (0 : Int32)), some (.int (0 : Int32))]) hC dX4_handlersTake_3 (by decide) rfl ?_
  exact g_ex (fun n => J_5  n V (0 : Int32) (0 : Int32))
def rm_X4_topsTake : Room := ({ frames := 1, cells := 0, slots := 0, locals := 21 } : Room)
def h_X4_topsTake_4 (K : Int32 → St → Prop) (a1 : Int32) (rec_4 : St → Int32 → Int32 → Prop) (V : St) (l2 : Int32) (l3 : Int32) : Prop := if (6 : Int32) ≤ l3 then (K l2 V) else (∃ k1, k1 < 6 ∧ l3 = nI k1 ∧ if (V (12 + 8 * k1) 3) = 0 then (rec_4 V l2 (l3 + 1)) else (∃ k2, k2 < 6 ∧ l3 = nI k2 ∧ wp_X4_ceil V (fun (r3 : Int32) (V4 : St) => ∃ k5, k5 < 6 ∧ l3 = nI k5 ∧ ∀ x6 : Int32, x6 = (l2 + ((r3 + (1 : Int32)) * (V4 (12 + 8 * k5) 4))) → rec_4 V4 x6 (l3 + 1)) a1 (V (12 + 8 * k2) 6)))
def wp_X4_topsTake (V : St) (K : Int32 → St → Prop) (a1 : Int32) : Prop := ∃ n, lp (fun _ _ _ => False) (h_X4_topsTake_4 K a1) n V (0 : Int32) (0 : Int32)
set_option maxRecDepth 100000 in
set_option maxHeartbeats 4000000 in
theorem c_X4_topsTake {l : Launch} {D : va_G} {ad : Nat → Nat} {cy : Nat → ClassId} (hi : inj ad) {V : St} {K : Int32 → St → Prop} {a1 : Int32} : wp_X4_topsTake V K a1 → Hi l D ad cy yX4_topsTake (Cond.code yX4_topsTake cX4_topsTake 4 (some .int) :: WA) rm_X4_topsTake [.ref (ad 0), .int a1] V K := by
  refine H_i (w := wp_X4_topsTake V K a1) (by decide) (Nat.le_of_ble_eq_true rfl) (List.forall_mem_cons.mpr ⟨rfl, (List.forall_mem_cons.mpr ⟨rfl, (fun _ h => absurd h List.not_mem_nil)⟩)⟩) hi ?_
  intro p e s m args below meth c A hC hrt hlk
  have J_4 : ∀ (n : Nat), ∀ (V : St) (l2 : Int32) (l3 : Int32), G p l e rm_X4_topsTake s m args below meth c 0 0 (MQ below (va_Qi K (Bq D ad cy) A) args s 0 0 A) 4 D ad cy A (lp (fun _ _ _ => False) (h_X4_topsTake_4 K a1) n V l2 l3) V 4 [some (.ref (ad 0)), some (.int a1), some (.int l2), some (.int l3)] [] := by
    intro n
    induction n with
    | zero => exact fun _ _ _ h => False.elim h
    | succ n IH =>
      generalize hrec : lp (fun _ _ _ => False) (h_X4_topsTake_4 K a1) n = rec_4 at IH
      have ih_4 := IH
      intro V l2 l3 
      show G p l e rm_X4_topsTake s m args below meth c 0 0 (MQ below (va_Qi K (Bq D ad cy) A) args s 0 0 A) 4 D ad cy A (h_X4_topsTake_4 K a1 (lp (fun _ _ _ => False) (h_X4_topsTake_4 K a1) n) V l2 l3) V 4 [some (.ref (ad 0)), some (.int a1), some (.int l2), some (.int l3)] []
      rw [hrec]
      refine g_iload_n (pc := 4) hC dX4_topsTake_4 rfl ?_
      refine g_bipush (pc := 5) hC (6 : Int32) dX4_topsTake_5 (by decide) ?_
      refine g_icmp_ge (pc := 7) (tgt := 56) hC dX4_topsTake_7 (by decide) ?_ ?_
      · refine g_iload_n (pc := 56) hC dX4_topsTake_56 rfl ?_
        exact g_iret (pc := 57) hC hrt hlk dX4_topsTake_57
      · refine g_aload_n (pc := 10) hC dX4_topsTake_10 rfl ?_
        refine g_getR (pc := 11) hC fl_X4_11 (by decide) rfl rfl dX4_topsTake_11 ?_
        refine g_iload_n (pc := 14) hC dX4_topsTake_14 rfl ?_
        refine g_aald (pc := 15) hC (by decide) rfl rfl (by decide) dX4_topsTake_15 (fun k1 hk1 => ?_)
        refine g_getI (pc := 16) hC fl_X4_53 (SrcAt.l0 (srcAt hk1)) (srcAt hk1).2.1 rfl dX4_topsTake_16 ?_
        refine g_if_eq (pc := 19) (tgt := 50) hC dX4_topsTake_19 (by decide) ?_ ?_
        · refine g_iinc (pc := 50) (L2 := [some (.ref (ad 0)), some (.int a1), some (.int l2), some (.int (l3 + 1))]) hC (l3 + 1) dX4_topsTake_50 rfl rfl (by decide) rfl ?_
          refine g_goto (pc := 53) (tgt := 4) hC dX4_topsTake_53 (by decide) ?_
          exact ih_4 V l2 (l3 + 1)
        · refine g_iload_n (pc := 22) hC dX4_topsTake_22 rfl ?_
          refine g_iload_n (pc := 23) hC dX4_topsTake_23 rfl ?_
          refine g_aload_n (pc := 24) hC dX4_topsTake_24 rfl ?_
          refine g_getR (pc := 25) hC fl_X4_11 (by decide) rfl rfl dX4_topsTake_25 ?_
          refine g_iload_n (pc := 28) hC dX4_topsTake_28 rfl ?_
          refine g_aald (pc := 29) hC (by decide) rfl rfl (by decide) dX4_topsTake_29 (fun k2 hk2 => ?_)
          refine g_getI (pc := 30) hC fl_X4_238 (SrcAt.l0 (srcAt hk2)) (srcAt hk2).2.1 rfl dX4_topsTake_30 ?_
          refine g_csi (pc := 33) hC (c_X4_ceil hC.2.2.2.1) mi_X4_ceil ww_458 ⟨rfl, rfl⟩ ⟨by decide, by decide⟩ rfl rfl (Nat.le_of_ble_eq_true rfl) ⟨Nat.le_of_ble_eq_true rfl, Nat.le_of_ble_eq_true rfl⟩ dX4_topsTake_33 (fun r3 V4 => ?_)
          refine g_iconst (pc := 36) hC (1 : Int32) dX4_topsTake_36 (by decide) ?_
          refine g_iadd (pc := 37) hC dX4_topsTake_37 ?_
          refine g_aload_n (pc := 38) hC dX4_topsTake_38 rfl ?_
          refine g_getR (pc := 39) hC fl_X4_11 (by decide) rfl rfl dX4_topsTake_39 ?_
          refine g_iload_n (pc := 42) hC dX4_topsTake_42 rfl ?_
          refine g_aald (pc := 43) hC (by decide) rfl rfl (by decide) dX4_topsTake_43 (fun k5 hk5 => ?_)
          refine g_getI (pc := 44) hC fl_X4_89 (SrcAt.l0 (srcAt hk5)) (srcAt hk5).2.1 rfl dX4_topsTake_44 ?_
          refine g_imul (pc := 47) hC dX4_topsTake_47 ?_
          refine g_iadd (pc := 48) hC dX4_topsTake_48 ?_
          refine g_nm (fun x6 => ?_)
          refine g_istore_n (pc := 49) (L2 := [some (.ref (ad 0)), some (.int a1), some (.int x6), some (.int l3)]) hC dX4_topsTake_49 (by decide) rfl ?_
          refine g_iinc (pc := 50) (L2 := [some (.ref (ad 0)), some (.int a1), some (.int x6), some (.int (l3 + 1))]) hC (l3 + 1) dX4_topsTake_50 rfl rfl (by decide) rfl ?_
          refine g_goto (pc := 53) (tgt := 4) hC dX4_topsTake_53 (by decide) ?_
          exact ih_4 V4 x6 (l3 + 1)
  show G p l e rm_X4_topsTake s m args below meth c 0 0 (MQ below (va_Qi K (Bq D ad cy) A) args s 0 0 A) 4 D ad cy A (wp_X4_topsTake V K a1) V 0 [some (.ref (ad 0)), some (.int a1), none, none] []
  refine g_iconst (pc := 0) hC (0 : Int32) dX4_topsTake_0 (by decide) ?_
  refine g_istore_n (pc := 1) (L2 := [some (.ref (ad 0)), some (.int a1), some (.int (0 : Int32)), none]) hC dX4_topsTake_1 (by decide) rfl ?_
  refine g_iconst (pc := 2) hC (0 : Int32) dX4_topsTake_2 (by decide) ?_
  refine g_istore_n (pc := 3) (L2 := [some (.ref (ad 0)), some (.int a1), some (.int (0 : Int32)), some (.int (0 : Int32))]) hC dX4_topsTake_3 (by decide) rfl ?_
  exact g_ex (fun n => J_4  n V (0 : Int32) (0 : Int32))
def rm_X4_tasksTake : Room := ({ frames := 1, cells := 0, slots := 0, locals := 21 } : Room)
def h_X4_tasksTake_5 (K : Int32 → St → Prop) (a1 : Int32) (a2 : Int32) (rec_5 : St → Int32 → Int32 → Prop) (V : St) (l3 : Int32) (l4 : Int32) : Prop := if (6 : Int32) ≤ l4 then (K l3 V) else (∃ k1, k1 < 6 ∧ l4 = nI k1 ∧ if (V (6 + 1 * k1) 0) = 0 then (rec_5 V l3 (l4 + 1)) else (∃ k2, k2 < 6 ∧ l4 = nI k2 ∧ if (V (6 + 1 * k2) 3) ≤ a1 then (rec_5 V l3 (l4 + 1)) else (∃ k3, k3 < 6 ∧ l4 = nI k3 ∧ wp_X4_ceil V (fun (r4 : Int32) (V5 : St) => ∃ k6, k6 < 6 ∧ l4 = nI k6 ∧ ∀ x7 : Int32, x7 = (l3 + (r4 * (V5 (6 + 1 * k6) 2))) → rec_5 V5 x7 (l4 + 1)) a2 (V (6 + 1 * k3) 1))))
def wp_X4_tasksTake (V : St) (K : Int32 → St → Prop) (a1 : Int32) (a2 : Int32) : Prop := ∃ n, lp (fun _ _ _ => False) (h_X4_tasksTake_5 K a1 a2) n V (0 : Int32) (0 : Int32)
set_option maxRecDepth 100000 in
set_option maxHeartbeats 4000000 in
theorem c_X4_tasksTake {l : Launch} {D : va_G} {ad : Nat → Nat} {cy : Nat → ClassId} (hi : inj ad) {V : St} {K : Int32 → St → Prop} {a1 : Int32} {a2 : Int32} : wp_X4_tasksTake V K a1 a2 → Hi l D ad cy yX4_tasksTake (Cond.code yX4_tasksTake cX4_tasksTake 5 (some .int) :: WA) rm_X4_tasksTake [.ref (ad 0), .int a1, .int a2] V K := by
  refine H_i (w := wp_X4_tasksTake V K a1 a2) (by decide) (Nat.le_of_ble_eq_true rfl) (List.forall_mem_cons.mpr ⟨rfl, (List.forall_mem_cons.mpr ⟨rfl, (List.forall_mem_cons.mpr ⟨rfl, (fun _ h => absurd h List.not_mem_nil)⟩)⟩)⟩) hi ?_
  intro p e s m args below meth c A hC hrt hlk
  have J_5 : ∀ (n : Nat), ∀ (V : St) (l3 : Int32) (l4 : Int32), G p l e rm_X4_tasksTake s m args below meth c 0 0 (MQ below (va_Qi K (Bq D ad cy) A) args s 0 0 A) 5 D ad cy A (lp (fun _ _ _ => False) (h_X4_tasksTake_5 K a1 a2) n V l3 l4) V 5 [some (.ref (ad 0)), some (.int a1), some (.int a2), some (.int l3), some (.int l4)] [] := by
    intro n
    induction n with
    | zero => exact fun _ _ _ h => False.elim h
    | succ n IH =>
      generalize hrec : lp (fun _ _ _ => False) (h_X4_tasksTake_5 K a1 a2) n = rec_5 at IH
      have ih_5 := IH
      intro V l3 l4 
      show G p l e rm_X4_tasksTake s m args below meth c 0 0 (MQ below (va_Qi K (Bq D ad cy) A) args s 0 0 A) 5 D ad cy A (h_X4_tasksTake_5 K a1 a2 (lp (fun _ _ _ => False) (h_X4_tasksTake_5 K a1 a2) n) V l3 l4) V 5 [some (.ref (ad 0)), some (.int a1), some (.int a2), some (.int l3), some (.int l4)] []
      rw [hrec]
      refine g_iload (pc := 5) hC dX4_tasksTake_5 rfl ?_
      refine g_bipush (pc := 7) hC (6 : Int32) dX4_tasksTake_7 (by decide) ?_
      refine g_icmp_ge (pc := 9) (tgt := 73) hC dX4_tasksTake_9 (by decide) ?_ ?_
      · refine g_iload_n (pc := 73) hC dX4_tasksTake_73 rfl ?_
        exact g_iret (pc := 74) hC hrt hlk dX4_tasksTake_74
      · refine g_aload_n (pc := 12) hC dX4_tasksTake_12 rfl ?_
        refine g_getR (pc := 13) hC fl_X4_18 (by decide) rfl rfl dX4_tasksTake_13 ?_
        refine g_iload (pc := 16) hC dX4_tasksTake_16 rfl ?_
        refine g_aald (pc := 18) hC (by decide) rfl rfl (by decide) dX4_tasksTake_18 (fun k1 hk1 => ?_)
        refine g_getI (pc := 19) hC fl_X4_75 (tskAt hk1).1 (tskAt hk1).2 rfl dX4_tasksTake_19 ?_
        refine g_if_eq (pc := 22) (tgt := 67) hC dX4_tasksTake_22 (by decide) ?_ ?_
        · refine g_iinc (pc := 67) (L2 := [some (.ref (ad 0)), some (.int a1), some (.int a2), some (.int l3), some (.int (l4 + 1))]) hC (l4 + 1) dX4_tasksTake_67 rfl rfl (by decide) rfl ?_
          refine g_goto (pc := 70) (tgt := 5) hC dX4_tasksTake_70 (by decide) ?_
          exact ih_5 V l3 (l4 + 1)
        · refine g_aload_n (pc := 25) hC dX4_tasksTake_25 rfl ?_
          refine g_getR (pc := 26) hC fl_X4_18 (by decide) rfl rfl dX4_tasksTake_26 ?_
          refine g_iload (pc := 29) hC dX4_tasksTake_29 rfl ?_
          refine g_aald (pc := 31) hC (by decide) rfl rfl (by decide) dX4_tasksTake_31 (fun k2 hk2 => ?_)
          refine g_getI (pc := 32) hC fl_X4_194 (tskAt hk2).1 (tskAt hk2).2 rfl dX4_tasksTake_32 ?_
          refine g_iload_n (pc := 35) hC dX4_tasksTake_35 rfl ?_
          refine g_icmp_le (pc := 36) (tgt := 67) hC dX4_tasksTake_36 (by decide) ?_ ?_
          · refine g_iinc (pc := 67) (L2 := [some (.ref (ad 0)), some (.int a1), some (.int a2), some (.int l3), some (.int (l4 + 1))]) hC (l4 + 1) dX4_tasksTake_67 rfl rfl (by decide) rfl ?_
            refine g_goto (pc := 70) (tgt := 5) hC dX4_tasksTake_70 (by decide) ?_
            exact ih_5 V l3 (l4 + 1)
          · refine g_iload_n (pc := 39) hC dX4_tasksTake_39 rfl ?_
            refine g_iload_n (pc := 40) hC dX4_tasksTake_40 rfl ?_
            refine g_aload_n (pc := 41) hC dX4_tasksTake_41 rfl ?_
            refine g_getR (pc := 42) hC fl_X4_18 (by decide) rfl rfl dX4_tasksTake_42 ?_
            refine g_iload (pc := 45) hC dX4_tasksTake_45 rfl ?_
            refine g_aald (pc := 47) hC (by decide) rfl rfl (by decide) dX4_tasksTake_47 (fun k3 hk3 => ?_)
            refine g_getI (pc := 48) hC fl_X4_227 (tskAt hk3).1 (tskAt hk3).2 rfl dX4_tasksTake_48 ?_
            refine g_csi (pc := 51) hC (c_X4_ceil hC.2.2.2.1) mi_X4_ceil ww_458 ⟨rfl, rfl⟩ ⟨by decide, by decide⟩ rfl rfl (Nat.le_of_ble_eq_true rfl) ⟨Nat.le_of_ble_eq_true rfl, Nat.le_of_ble_eq_true rfl⟩ dX4_tasksTake_51 (fun r4 V5 => ?_)
            refine g_aload_n (pc := 54) hC dX4_tasksTake_54 rfl ?_
            refine g_getR (pc := 55) hC fl_X4_18 (by decide) rfl rfl dX4_tasksTake_55 ?_
            refine g_iload (pc := 58) hC dX4_tasksTake_58 rfl ?_
            refine g_aald (pc := 60) hC (by decide) rfl rfl (by decide) dX4_tasksTake_60 (fun k6 hk6 => ?_)
            refine g_getI (pc := 61) hC fl_X4_224 (tskAt hk6).1 (tskAt hk6).2 rfl dX4_tasksTake_61 ?_
            refine g_imul (pc := 64) hC dX4_tasksTake_64 ?_
            refine g_iadd (pc := 65) hC dX4_tasksTake_65 ?_
            refine g_nm (fun x7 => ?_)
            refine g_istore_n (pc := 66) (L2 := [some (.ref (ad 0)), some (.int a1), some (.int a2), some (.int x7), some (.int l4)]) hC dX4_tasksTake_66 (by decide) rfl ?_
            refine g_iinc (pc := 67) (L2 := [some (.ref (ad 0)), some (.int a1), some (.int a2), some (.int x7), some (.int (l4 + 1))]) hC (l4 + 1) dX4_tasksTake_67 rfl rfl (by decide) rfl ?_
            refine g_goto (pc := 70) (tgt := 5) hC dX4_tasksTake_70 (by decide) ?_
            exact ih_5 V5 x7 (l4 + 1)
  show G p l e rm_X4_tasksTake s m args below meth c 0 0 (MQ below (va_Qi K (Bq D ad cy) A) args s 0 0 A) 5 D ad cy A (wp_X4_tasksTake V K a1 a2) V 0 [some (.ref (ad 0)), some (.int a1), some (.int a2), none, none] []
  refine g_iconst (pc := 0) hC (0 : Int32) dX4_tasksTake_0 (by decide) ?_
  refine g_istore_n (pc := 1) (L2 := [some (.ref (ad 0)), some (.int a1), some (.int a2), some (.int (0 : Int32)), none]) hC dX4_tasksTake_1 (by decide) rfl ?_
  refine g_iconst (pc := 2) hC (0 : Int32) dX4_tasksTake_2 (by decide) ?_
  refine g_istore (pc := 3) (L2 := [some (.ref (ad 0)), some (.int a1), some (.int a2), some (.int (0 : Int32)), some (.int (0 : Int32))]) hC dX4_tasksTake_3 (by decide) rfl ?_
  exact g_ex (fun n => J_5  n V (0 : Int32) (0 : Int32))
def rm_X4_leastBound : Room := ({ frames := 2, cells := 0, slots := 0, locals := 45 } : Room)
def h_X4_leastBound_6 (K : Int32 → St → Prop) (a1 : Int32) (a2 : Int32) (a3 : Int32) (a4 : Int32) (rec_6 : St → Int32 → Int32 → Prop) (V : St) (l5 : Int32) (l6 : Int32) : Prop := if a2 < l6 then (K (-1 : Int32) V) else (wp_X4_handlersTake V (fun (r1 : Int32) (V2 : St) => wp_X4_topsTake V2 (fun (r3 : Int32) (V4 : St) => wp_X4_tasksTake V4 (fun (r5 : Int32) (V6 : St) => ∀ x7 : Int32, x7 = (((a1 + r1) + r3) + r5) → if x7 ≤ a2 then (if x7 = l5 then (K l5 V6) else (rec_6 V6 x7 (l6 + 1))) else (K (-1 : Int32) V6)) a4 l5) l5) a3 l5)
def wp_X4_leastBound (V : St) (K : Int32 → St → Prop) (a1 : Int32) (a2 : Int32) (a3 : Int32) (a4 : Int32) : Prop := ∃ n, lp (fun _ _ _ => False) (h_X4_leastBound_6 K a1 a2 a3 a4) n V (1 : Int32) (0 : Int32)
set_option maxRecDepth 100000 in
set_option maxHeartbeats 4000000 in
theorem c_X4_leastBound {l : Launch} {D : va_G} {ad : Nat → Nat} {cy : Nat → ClassId} (hi : inj ad) {V : St} {K : Int32 → St → Prop} {a1 : Int32} {a2 : Int32} {a3 : Int32} {a4 : Int32} : wp_X4_leastBound V K a1 a2 a3 a4 → Hi l D ad cy yX4_leastBound (Cond.code yX4_leastBound cX4_leastBound 8 (some .int) :: WA) rm_X4_leastBound [.ref (ad 0), .int a1, .int a2, .int a3, .int a4] V K := by
  refine H_i (w := wp_X4_leastBound V K a1 a2 a3 a4) (by decide) (Nat.le_of_ble_eq_true rfl) (List.forall_mem_cons.mpr ⟨rfl, (List.forall_mem_cons.mpr ⟨rfl, (List.forall_mem_cons.mpr ⟨rfl, (List.forall_mem_cons.mpr ⟨rfl, (List.forall_mem_cons.mpr ⟨rfl, (fun _ h => absurd h List.not_mem_nil)⟩)⟩)⟩)⟩)⟩) hi ?_
  intro p e s m args below meth c A hC hrt hlk
  have J_6 : ∀ (n : Nat), ∀ (V : St) (l5 : Int32) (l6 : Int32), G p l e rm_X4_leastBound s m args below meth c 0 0 (MQ below (va_Qi K (Bq D ad cy) A) args s 0 0 A) 8 D ad cy A (lp (fun _ _ _ => False) (h_X4_leastBound_6 K a1 a2 a3 a4) n V l5 l6) V 6 [some (.ref (ad 0)), some (.int a1), some (.int a2), some (.int a3), some (.int a4), some (.int l5), some (.int l6), none] [] := by
    intro n
    induction n with
    | zero => exact fun _ _ _ h => False.elim h
    | succ n IH =>
      generalize hrec : lp (fun _ _ _ => False) (h_X4_leastBound_6 K a1 a2 a3 a4) n = rec_6 at IH
      have ih_6 := IH
      intro V l5 l6 
      show G p l e rm_X4_leastBound s m args below meth c 0 0 (MQ below (va_Qi K (Bq D ad cy) A) args s 0 0 A) 8 D ad cy A (h_X4_leastBound_6 K a1 a2 a3 a4 (lp (fun _ _ _ => False) (h_X4_leastBound_6 K a1 a2 a3 a4) n) V l5 l6) V 6 [some (.ref (ad 0)), some (.int a1), some (.int a2), some (.int a3), some (.int a4), some (.int l5), some (.int l6), none] []
      rw [hrec]
      refine g_iload (pc := 6) hC dX4_leastBound_6 rfl ?_
      refine g_iload_n (pc := 8) hC dX4_leastBound_8 rfl ?_
      refine g_icmp_gt (pc := 9) (tgt := 67) hC dX4_leastBound_9 (by decide) ?_ ?_
      · refine g_iconst (pc := 67) hC (-1 : Int32) dX4_leastBound_67 (by decide) ?_
        exact g_iret (pc := 68) hC hrt hlk dX4_leastBound_68
      · refine g_iload_n (pc := 12) hC dX4_leastBound_12 rfl ?_
        refine g_aload_n (pc := 13) hC dX4_leastBound_13 rfl ?_
        refine g_iload_n (pc := 14) hC dX4_leastBound_14 rfl ?_
        refine g_iload (pc := 15) hC dX4_leastBound_15 rfl ?_
        refine g_cvi (pc := 17) hC (c_X4_handlersTake hC.2.2.2.1) mi_X4_handlersTake ww_454 ⟨rfl, rfl⟩ ⟨by decide, by decide⟩ (by decide) rfl rfl rfl rfl (Nat.le_of_ble_eq_true rfl) ⟨Nat.le_of_ble_eq_true rfl, Nat.le_of_ble_eq_true rfl⟩ dX4_leastBound_17 (fun r1 V2 => ?_)
        refine g_iadd (pc := 20) hC dX4_leastBound_20 ?_
        refine g_aload_n (pc := 21) hC dX4_leastBound_21 rfl ?_
        refine g_iload (pc := 22) hC dX4_leastBound_22 rfl ?_
        refine g_cvi (pc := 24) hC (c_X4_topsTake hC.2.2.2.1) mi_X4_topsTake ww_461 ⟨rfl, rfl⟩ ⟨by decide, by decide⟩ (by decide) rfl rfl rfl rfl (Nat.le_of_ble_eq_true rfl) ⟨Nat.le_of_ble_eq_true rfl, Nat.le_of_ble_eq_true rfl⟩ dX4_leastBound_24 (fun r3 V4 => ?_)
        refine g_iadd (pc := 27) hC dX4_leastBound_27 ?_
        refine g_aload_n (pc := 28) hC dX4_leastBound_28 rfl ?_
        refine g_iload (pc := 29) hC dX4_leastBound_29 rfl ?_
        refine g_iload (pc := 31) hC dX4_leastBound_31 rfl ?_
        refine g_cvi (pc := 33) hC (c_X4_tasksTake hC.2.2.2.1) mi_X4_tasksTake ww_465 ⟨rfl, rfl⟩ ⟨by decide, by decide⟩ (by decide) rfl rfl rfl rfl (Nat.le_of_ble_eq_true rfl) ⟨Nat.le_of_ble_eq_true rfl, Nat.le_of_ble_eq_true rfl⟩ dX4_leastBound_33 (fun r5 V6 => ?_)
        refine g_iadd (pc := 36) hC dX4_leastBound_36 ?_
        refine g_nm (fun x7 => ?_)
        refine g_istore (pc := 37) (L2 := [some (.ref (ad 0)), some (.int a1), some (.int a2), some (.int a3), some (.int a4), some (.int l5), some (.int l6), some (.int x7)]) hC dX4_leastBound_37 (by decide) rfl ?_
        refine g_iload (pc := 39) hC dX4_leastBound_39 rfl ?_
        refine g_iload_n (pc := 41) hC dX4_leastBound_41 rfl ?_
        refine g_icmp_le (pc := 42) (tgt := 47) hC dX4_leastBound_42 (by decide) ?_ ?_
        · refine g_iload (pc := 47) hC dX4_leastBound_47 rfl ?_
          refine g_iload (pc := 49) hC dX4_leastBound_49 rfl ?_
          refine g_icmp_ne (pc := 51) (tgt := 57) hC dX4_leastBound_51 (by decide) ?_ ?_
          · refine g_iload (pc := 57) hC dX4_leastBound_57 rfl ?_
            refine g_istore (pc := 59) (L2 := [some (.ref (ad 0)), some (.int a1), some (.int a2), some (.int a3), some (.int a4), some (.int x7), some (.int l6), some (.int x7)]) hC dX4_leastBound_59 (by decide) rfl ?_
            refine g_iinc (pc := 61) (L2 := [some (.ref (ad 0)), some (.int a1), some (.int a2), some (.int a3), some (.int a4), some (.int x7), some (.int (l6 + 1)), some (.int x7)]) hC (l6 + 1) dX4_leastBound_61 rfl rfl (by decide) rfl ?_
            refine g_goto (pc := 64) (tgt := 6) hC dX4_leastBound_64 (by decide) ?_
            exact g_ms [true, true, true, true, true, true, true, false] (ih_6 V6 x7 (l6 + 1))
          · refine g_iload (pc := 54) hC dX4_leastBound_54 rfl ?_
            exact g_iret (pc := 56) hC hrt hlk dX4_leastBound_56
        · refine g_iconst (pc := 45) hC (-1 : Int32) dX4_leastBound_45 (by decide) ?_
          exact g_iret (pc := 46) hC hrt hlk dX4_leastBound_46
  show G p l e rm_X4_leastBound s m args below meth c 0 0 (MQ below (va_Qi K (Bq D ad cy) A) args s 0 0 A) 8 D ad cy A (wp_X4_leastBound V K a1 a2 a3 a4) V 0 [some (.ref (ad 0)), some (.int a1), some (.int a2), some (.int a3), some (.int a4), none, none, none] []
  refine g_iconst (pc := 0) hC (1 : Int32) dX4_leastBound_0 (by decide) ?_
  refine g_istore (pc := 1) (L2 := [some (.ref (ad 0)), some (.int a1), some (.int a2), some (.int a3), some (.int a4), some (.int (1 : Int32)), none, none]) hC dX4_leastBound_1 (by decide) rfl ?_
  refine g_iconst (pc := 3) hC (0 : Int32) dX4_leastBound_3 (by decide) ?_
  refine g_istore (pc := 4) (L2 := [some (.ref (ad 0)), some (.int a1), some (.int a2), some (.int a3), some (.int a4), some (.int (1 : Int32)), some (.int (0 : Int32)), none]) hC dX4_leastBound_4 (by decide) rfl ?_
  exact g_ex (fun n => J_6  n V (1 : Int32) (0 : Int32))
def rm_X4_taskBound : Room := ({ frames := 3, cells := 0, slots := 0, locals := 72 } : Room)
def wp_X4_taskBound (V : St) (K : Int32 → St → Prop) (t : Nat) : Prop := wp_X4_leastBound V (fun (r1 : Int32) (V2 : St) => K r1 V2) (V t 2) (V t 1) (-1 : Int32) (V t 3)
set_option maxRecDepth 100000 in
set_option maxHeartbeats 4000000 in
theorem c_X4_taskBound {l : Launch} {D : va_G} {ad : Nat → Nat} {cy : Nat → ClassId} (hi : inj ad) {V : St} {K : Int32 → St → Prop} {t : Nat} (ht : TskAt t) : wp_X4_taskBound V K t → Hi l D ad cy yX4_taskBound (Cond.code yX4_taskBound cX4_taskBound 2 (some .int) :: WA) rm_X4_taskBound [.ref (ad 0), .ref (ad t)] V K := by
  refine H_i (w := wp_X4_taskBound V K t) (by decide) (Nat.le_of_ble_eq_true rfl) (List.forall_mem_cons.mpr ⟨rfl, (List.forall_mem_cons.mpr ⟨rfl, (fun _ h => absurd h List.not_mem_nil)⟩)⟩) hi ?_
  intro p e s m args below meth c A hC hrt hlk
  show G p l e rm_X4_taskBound s m args below meth c 0 0 (MQ below (va_Qi K (Bq D ad cy) A) args s 0 0 A) 2 D ad cy A (wp_X4_taskBound V K t) V 0 [some (.ref (ad 0)), some (.ref (ad t))] []
  refine g_aload_n (pc := 0) hC dX4_taskBound_0 rfl ?_
  refine g_aload_n (pc := 1) hC dX4_taskBound_1 rfl ?_
  refine g_getI (pc := 2) hC fl_X4_224 ht.1 ht.2 rfl dX4_taskBound_2 ?_
  refine g_aload_n (pc := 5) hC dX4_taskBound_5 rfl ?_
  refine g_getI (pc := 6) hC fl_X4_227 ht.1 ht.2 rfl dX4_taskBound_6 ?_
  refine g_iconst (pc := 9) hC (-1 : Int32) dX4_taskBound_9 (by decide) ?_
  refine g_aload_n (pc := 10) hC dX4_taskBound_10 rfl ?_
  refine g_getI (pc := 11) hC fl_X4_194 ht.1 ht.2 rfl dX4_taskBound_11 ?_
  refine g_cvi (pc := 14) hC (c_X4_leastBound hC.2.2.2.1) mi_X4_leastBound ww_450 ⟨rfl, rfl⟩ ⟨by decide, by decide⟩ (by decide) rfl rfl rfl rfl (Nat.le_of_ble_eq_true rfl) ⟨Nat.le_of_ble_eq_true rfl, Nat.le_of_ble_eq_true rfl⟩ dX4_taskBound_14 (fun r1 V2 => ?_)
  exact g_iret (pc := 17) hC hrt hlk dX4_taskBound_17
def rm_X4_tasksAdmitted : Room := ({ frames := 4, cells := 0, slots := 0, locals := 93 } : Room)
def h_X4_tasksAdmitted_2 (K : Int32 → St → Prop) (rec_2 : St → Int32 → Prop) (V : St) (l1 : Int32) : Prop := if (6 : Int32) ≤ l1 then (K (1 : Int32) V) else (∃ k1, k1 < 6 ∧ l1 = nI k1 ∧ if (V (6 + 1 * k1) 0) = 0 then (rec_2 V (l1 + 1)) else (∃ k2, k2 < 6 ∧ l1 = nI k2 ∧ wp_X4_taskBound V (fun (r3 : Int32) (V4 : St) => if r3 = (-1 : Int32) then (K (0 : Int32) V4) else (rec_2 V4 (l1 + 1))) (6 + 1 * k2)))
def wp_X4_tasksAdmitted (V : St) (K : Int32 → St → Prop) : Prop := ∃ n, lp (fun _ _ => False) (h_X4_tasksAdmitted_2 K) n V (0 : Int32)
set_option maxRecDepth 100000 in
set_option maxHeartbeats 4000000 in
theorem c_X4_tasksAdmitted {l : Launch} {D : va_G} {ad : Nat → Nat} {cy : Nat → ClassId} (hi : inj ad) {V : St} {K : Int32 → St → Prop} : wp_X4_tasksAdmitted V K → Hi l D ad cy yX4_tasksAdmitted (Cond.code yX4_tasksAdmitted cX4_tasksAdmitted 2 (some .boolean) :: WA) rm_X4_tasksAdmitted [.ref (ad 0)] V K := by
  refine H_i (w := wp_X4_tasksAdmitted V K) (by decide) (Nat.le_of_ble_eq_true rfl) (List.forall_mem_cons.mpr ⟨rfl, (fun _ h => absurd h List.not_mem_nil)⟩) hi ?_
  intro p e s m args below meth c A hC hrt hlk
  have J_2 : ∀ (n : Nat), ∀ (V : St) (l1 : Int32), G p l e rm_X4_tasksAdmitted s m args below meth c 0 0 (MQ below (va_Qi K (Bq D ad cy) A) args s 0 0 A) 2 D ad cy A (lp (fun _ _ => False) (h_X4_tasksAdmitted_2 K) n V l1) V 2 [some (.ref (ad 0)), some (.int l1)] [] := by
    intro n
    induction n with
    | zero => exact fun _ _ h => False.elim h
    | succ n IH =>
      generalize hrec : lp (fun _ _ => False) (h_X4_tasksAdmitted_2 K) n = rec_2 at IH
      have ih_2 := IH
      intro V l1 
      show G p l e rm_X4_tasksAdmitted s m args below meth c 0 0 (MQ below (va_Qi K (Bq D ad cy) A) args s 0 0 A) 2 D ad cy A (h_X4_tasksAdmitted_2 K (lp (fun _ _ => False) (h_X4_tasksAdmitted_2 K) n) V l1) V 2 [some (.ref (ad 0)), some (.int l1)] []
      rw [hrec]
      refine g_iload_n (pc := 2) hC dX4_tasksAdmitted_2 rfl ?_
      refine g_bipush (pc := 3) hC (6 : Int32) dX4_tasksAdmitted_3 (by decide) ?_
      refine g_icmp_ge (pc := 5) (tgt := 42) hC dX4_tasksAdmitted_5 (by decide) ?_ ?_
      · refine g_iconst (pc := 42) hC (1 : Int32) dX4_tasksAdmitted_42 (by decide) ?_
        exact g_zret0 (pc := 43) hC hrt hlk dX4_tasksAdmitted_43 (by decide)
      · refine g_aload_n (pc := 8) hC dX4_tasksAdmitted_8 rfl ?_
        refine g_getR (pc := 9) hC fl_X4_18 (by decide) rfl rfl dX4_tasksAdmitted_9 ?_
        refine g_iload_n (pc := 12) hC dX4_tasksAdmitted_12 rfl ?_
        refine g_aald (pc := 13) hC (by decide) rfl rfl (by decide) dX4_tasksAdmitted_13 (fun k1 hk1 => ?_)
        refine g_getI (pc := 14) hC fl_X4_75 (tskAt hk1).1 (tskAt hk1).2 rfl dX4_tasksAdmitted_14 ?_
        refine g_if_eq (pc := 17) (tgt := 36) hC dX4_tasksAdmitted_17 (by decide) ?_ ?_
        · refine g_iinc (pc := 36) (L2 := [some (.ref (ad 0)), some (.int (l1 + 1))]) hC (l1 + 1) dX4_tasksAdmitted_36 rfl rfl (by decide) rfl ?_
          refine g_goto (pc := 39) (tgt := 2) hC dX4_tasksAdmitted_39 (by decide) ?_
          exact ih_2 V (l1 + 1)
        · refine g_aload_n (pc := 20) hC dX4_tasksAdmitted_20 rfl ?_
          refine g_aload_n (pc := 21) hC dX4_tasksAdmitted_21 rfl ?_
          refine g_getR (pc := 22) hC fl_X4_18 (by decide) rfl rfl dX4_tasksAdmitted_22 ?_
          refine g_iload_n (pc := 25) hC dX4_tasksAdmitted_25 rfl ?_
          refine g_aald (pc := 26) hC (by decide) rfl rfl (by decide) dX4_tasksAdmitted_26 (fun k2 hk2 => ?_)
          refine g_cvi (pc := 27) hC (c_X4_taskBound hC.2.2.2.1 (tskAt hk2)) mi_X4_taskBound ww_446 ⟨rfl, rfl⟩ ⟨by decide, by decide⟩ (by decide) rfl rfl rfl rfl (Nat.le_of_ble_eq_true rfl) ⟨Nat.le_of_ble_eq_true rfl, Nat.le_of_ble_eq_true rfl⟩ dX4_tasksAdmitted_27 (fun r3 V4 => ?_)
          refine g_iconst (pc := 30) hC (-1 : Int32) dX4_tasksAdmitted_30 (by decide) ?_
          refine g_icmp_ne (pc := 31) (tgt := 36) hC dX4_tasksAdmitted_31 (by decide) ?_ ?_
          · refine g_iinc (pc := 36) (L2 := [some (.ref (ad 0)), some (.int (l1 + 1))]) hC (l1 + 1) dX4_tasksAdmitted_36 rfl rfl (by decide) rfl ?_
            refine g_goto (pc := 39) (tgt := 2) hC dX4_tasksAdmitted_39 (by decide) ?_
            exact ih_2 V4 (l1 + 1)
          · refine g_iconst (pc := 34) hC (0 : Int32) dX4_tasksAdmitted_34 (by decide) ?_
            exact g_zret0 (pc := 35) hC hrt hlk dX4_tasksAdmitted_35 (by decide)
  show G p l e rm_X4_tasksAdmitted s m args below meth c 0 0 (MQ below (va_Qi K (Bq D ad cy) A) args s 0 0 A) 2 D ad cy A (wp_X4_tasksAdmitted V K) V 0 [some (.ref (ad 0)), none] []
  refine g_iconst (pc := 0) hC (0 : Int32) dX4_tasksAdmitted_0 (by decide) ?_
  refine g_istore_n (pc := 1) (L2 := [some (.ref (ad 0)), some (.int (0 : Int32))]) hC dX4_tasksAdmitted_1 (by decide) rfl ?_
  exact g_ex (fun n => J_2  n V (0 : Int32))
def rm_X4_sourceBound : Room := ({ frames := 3, cells := 0, slots := 0, locals := 72 } : Room)
def wp_X4_sourceBound (V : St) (K : Int32 → St → Prop) (b : Nat) : Prop := if (V b 7) < (V b 5) then (K (-1 : Int32) V) else (if (V b 8) ≤ (V b 6) then (wp_X4_leastBound V (fun (r1 : Int32) (V2 : St) => K r1 V2) (V b 5) (V b 8) (V b 9) (31 : Int32)) else (K (-1 : Int32) V))
set_option maxRecDepth 100000 in
set_option maxHeartbeats 4000000 in
theorem c_X4_sourceBound {l : Launch} {D : va_G} {ad : Nat → Nat} {cy : Nat → ClassId} (hi : inj ad) {V : St} {K : Int32 → St → Prop} {b : Nat} (hb : SrcAt b) : wp_X4_sourceBound V K b → Hi l D ad cy yX4_sourceBound (Cond.code yX4_sourceBound cX4_sourceBound 2 (some .int) :: WA) rm_X4_sourceBound [.ref (ad 0), .ref (ad b)] V K := by
  refine H_i (w := wp_X4_sourceBound V K b) (by decide) (Nat.le_of_ble_eq_true rfl) (List.forall_mem_cons.mpr ⟨rfl, (List.forall_mem_cons.mpr ⟨rfl, (fun _ h => absurd h List.not_mem_nil)⟩)⟩) hi ?_
  intro p e s m args below meth c A hC hrt hlk
  show G p l e rm_X4_sourceBound s m args below meth c 0 0 (MQ below (va_Qi K (Bq D ad cy) A) args s 0 0 A) 2 D ad cy A (wp_X4_sourceBound V K b) V 0 [some (.ref (ad 0)), some (.ref (ad b))] []
  refine g_aload_n (pc := 0) hC dX4_sourceBound_0 rfl ?_
  refine g_getI (pc := 1) hC fl_X4_234 (SrcAt.l0 hb) hb.2.1 rfl dX4_sourceBound_1 ?_
  refine g_aload_n (pc := 4) hC dX4_sourceBound_4 rfl ?_
  refine g_getI (pc := 5) hC fl_X4_235 (SrcAt.l0 hb) hb.2.1 rfl dX4_sourceBound_5 ?_
  refine g_icmp_gt (pc := 8) (tgt := 22) hC dX4_sourceBound_8 (by decide) ?_ ?_
  · refine g_iconst (pc := 22) hC (-1 : Int32) dX4_sourceBound_22 (by decide) ?_
    exact g_iret (pc := 23) hC hrt hlk dX4_sourceBound_23
  · refine g_aload_n (pc := 11) hC dX4_sourceBound_11 rfl ?_
    refine g_getI (pc := 12) hC fl_X4_238 (SrcAt.l0 hb) hb.2.1 rfl dX4_sourceBound_12 ?_
    refine g_aload_n (pc := 15) hC dX4_sourceBound_15 rfl ?_
    refine g_getI (pc := 16) hC fl_X4_241 (SrcAt.l0 hb) hb.2.1 rfl dX4_sourceBound_16 ?_
    refine g_icmp_ge (pc := 19) (tgt := 24) hC dX4_sourceBound_19 (by decide) ?_ ?_
    · refine g_aload_n (pc := 24) hC dX4_sourceBound_24 rfl ?_
      refine g_aload_n (pc := 25) hC dX4_sourceBound_25 rfl ?_
      refine g_getI (pc := 26) hC fl_X4_234 (SrcAt.l0 hb) hb.2.1 rfl dX4_sourceBound_26 ?_
      refine g_aload_n (pc := 29) hC dX4_sourceBound_29 rfl ?_
      refine g_getI (pc := 30) hC fl_X4_241 (SrcAt.l0 hb) hb.2.1 rfl dX4_sourceBound_30 ?_
      refine g_aload_n (pc := 33) hC dX4_sourceBound_33 rfl ?_
      refine g_getI (pc := 34) hC fl_X4_191 (SrcAt.l0 hb) hb.2.1 rfl dX4_sourceBound_34 ?_
      refine g_bipush (pc := 37) hC (31 : Int32) dX4_sourceBound_37 (by decide) ?_
      refine g_cvi (pc := 39) hC (c_X4_leastBound hC.2.2.2.1) mi_X4_leastBound ww_450 ⟨rfl, rfl⟩ ⟨by decide, by decide⟩ (by decide) rfl rfl rfl rfl (Nat.le_of_ble_eq_true rfl) ⟨Nat.le_of_ble_eq_true rfl, Nat.le_of_ble_eq_true rfl⟩ dX4_sourceBound_39 (fun r1 V2 => ?_)
      exact g_iret (pc := 42) hC hrt hlk dX4_sourceBound_42
    · refine g_iconst (pc := 22) hC (-1 : Int32) dX4_sourceBound_22 (by decide) ?_
      exact g_iret (pc := 23) hC hrt hlk dX4_sourceBound_23
