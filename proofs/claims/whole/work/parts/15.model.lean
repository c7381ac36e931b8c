def rm_X5_thrown : Room := ({ frames := 0, cells := 0, slots := 0, locals := 0 } : Room)
def wp_X5_thrown (V : St) (K : Int32 → St → Prop) : Prop := K (V 60 0) V
set_option maxRecDepth 100000 in
set_option maxHeartbeats 4000000 in
theorem c_X5_thrown {l : Launch} {D : va_G} {ad : Nat → Nat} {cy : Nat → ClassId} (hi : inj ad) {V : St} {K : Int32 → St → Prop} : wp_X5_thrown V K → Hi l D ad cy yX5_thrown (Cond.code yX5_thrown cX5_thrown 1 (some .int) :: WA) rm_X5_thrown [.ref (ad 60)] V K := by
  refine H_i (w := wp_X5_thrown V K) (by decide) (Nat.le_of_ble_eq_true rfl) (List.forall_mem_cons.mpr ⟨rfl, (fun _ h => absurd h List.not_mem_nil)⟩) hi ?_
  intro p e s m args below meth c A hC hrt hlk
  show G p l e rm_X5_thrown s m args below meth c 0 0 (MQ below (va_Qi K (Bq D ad cy) A) args s 0 0 A) 1 D ad cy A (wp_X5_thrown V K) V 0 [some (.ref (ad 60))] []
  refine g_aload_n (pc := 0) hC dX5_thrown_0 rfl ?_
  refine g_getI (pc := 1) hC fl_X5_107 (by decide) rfl rfl dX5_thrown_1 ?_
  exact g_iret (pc := 4) hC hrt hlk dX5_thrown_4
def rm_X5_within : Room := ({ frames := 0, cells := 0, slots := 0, locals := 0 } : Room)
def wp_X5_within (V : St) (K : Int32 → St → Prop) (a1 : Int32) (a2 : Int32) (a3 : Int32) : Prop := if a1 < a2 then (K (0 : Int32) V) else (if a3 < a1 then (K (0 : Int32) V) else (K (1 : Int32) V))
set_option maxRecDepth 100000 in
set_option maxHeartbeats 4000000 in
theorem c_X5_within {l : Launch} {D : va_G} {ad : Nat → Nat} {cy : Nat → ClassId} (hi : inj ad) {V : St} {K : Int32 → St → Prop} {a1 : Int32} {a2 : Int32} {a3 : Int32} : wp_X5_within V K a1 a2 a3 → Hi l D ad cy yX5_within (Cond.code yX5_within cX5_within 3 (some .boolean) :: WA) rm_X5_within [.int a1, .int a2, .int a3] V K := by
  refine H_i (w := wp_X5_within V K a1 a2 a3) (by decide) (Nat.le_of_ble_eq_true rfl) (List.forall_mem_cons.mpr ⟨rfl, (List.forall_mem_cons.mpr ⟨rfl, (List.forall_mem_cons.mpr ⟨rfl, (fun _ h => absurd h List.not_mem_nil)⟩)⟩)⟩) hi ?_
  intro p e s m args below meth c A hC hrt hlk
  show G p l e rm_X5_within s m args below meth c 0 0 (MQ below (va_Qi K (Bq D ad cy) A) args s 0 0 A) 3 D ad cy A (wp_X5_within V K a1 a2 a3) V 0 [some (.int a1), some (.int a2), some (.int a3)] []
  refine g_iload_n (pc := 0) hC dX5_within_0 rfl ?_
  refine g_iload_n (pc := 1) hC dX5_within_1 rfl ?_
  refine g_icmp_lt (pc := 2) (tgt := 14) hC dX5_within_2 (by decide) ?_ ?_
  · refine g_iconst (pc := 14) hC (0 : Int32) dX5_within_14 (by decide) ?_
    exact g_zret0 (pc := 15) hC hrt hlk dX5_within_15 (by decide)
  · refine g_iload_n (pc := 5) hC dX5_within_5 rfl ?_
    refine g_iload_n (pc := 6) hC dX5_within_6 rfl ?_
    refine g_icmp_gt (pc := 7) (tgt := 14) hC dX5_within_7 (by decide) ?_ ?_
    · refine g_iconst (pc := 14) hC (0 : Int32) dX5_within_14 (by decide) ?_
      exact g_zret0 (pc := 15) hC hrt hlk dX5_within_15 (by decide)
    · refine g_iconst (pc := 10) hC (1 : Int32) dX5_within_10 (by decide) ?_
      refine g_goto (pc := 11) (tgt := 15) hC dX5_within_11 (by decide) ?_
      exact g_zret0 (pc := 15) hC hrt hlk dX5_within_15 (by decide)
def rm_X5_budgetLeft : Room := ({ frames := 0, cells := 0, slots := 0, locals := 0 } : Room)
def h_X5_budgetLeft_9 (K : Int32 → St → Prop) (a1 : Int32) (rec_9 : St → Int32 → Int32 → Prop) (V : St) (l2 : Int32) (l3 : Int32) : Prop := vp_in a1 6 ∧ if (V 73 a1.toNatClampNeg) ≤ l3 then (K l2 V) else (vp_in (((16 : Int32) * a1) + l3) 96 ∧ ∀ x1 : Int32, x1 = (l2 - (V 75 (((16 : Int32) * a1) + l3).toNatClampNeg)) → rec_9 V x1 (l3 + 1))
def wp_X5_budgetLeft (V : St) (K : Int32 → St → Prop) (a1 : Int32) : Prop := vp_in a1 6 ∧ ∀ x1 : Int32, x1 = (V 65 a1.toNatClampNeg) → ∃ n, lp (fun _ _ _ => False) (h_X5_budgetLeft_9 K a1) n V x1 (0 : Int32)
set_option maxRecDepth 100000 in
set_option maxHeartbeats 4000000 in
theorem c_X5_budgetLeft {l : Launch} {D : va_G} {ad : Nat → Nat} {cy : Nat → ClassId} (hi : inj ad) {V : St} {K : Int32 → St → Prop} {a1 : Int32} : wp_X5_budgetLeft V K a1 → Hi l D ad cy yX5_budgetLeft (Cond.code yX5_budgetLeft cX5_budgetLeft 4 (some .int) :: WA) rm_X5_budgetLeft [.ref (ad 60), .int a1] V K := by
  refine H_i (w := wp_X5_budgetLeft V K a1) (by decide) (Nat.le_of_ble_eq_true rfl) (List.forall_mem_cons.mpr ⟨rfl, (List.forall_mem_cons.mpr ⟨rfl, (fun _ h => absurd h List.not_mem_nil)⟩)⟩) hi ?_
  intro p e s m args below meth c A hC hrt hlk
  have J_9 : ∀ (n : Nat), ∀ (V : St) (l2 : Int32) (l3 : Int32), G p l e rm_X5_budgetLeft s m args below meth c 0 0 (MQ below (va_Qi K (Bq D ad cy) A) args s 0 0 A) 4 D ad cy A (lp (fun _ _ _ => False) (h_X5_budgetLeft_9 K a1) n V l2 l3) V 9 [some (.ref (ad 60)), some (.int a1), some (.int l2), some (.int l3)] [] := by
    intro n
    induction n with
    | zero => exact fun _ _ _ h => False.elim h
    | succ n IH =>
      generalize hrec : lp (fun _ _ _ => False) (h_X5_budgetLeft_9 K a1) n = rec_9 at IH
      have ih_9 := IH
      intro V l2 l3 
      show G p l e rm_X5_budgetLeft s m args below meth c 0 0 (MQ below (va_Qi K (Bq D ad cy) A) args s 0 0 A) 4 D ad cy A (h_X5_budgetLeft_9 K a1 (lp (fun _ _ _ => False) (h_X5_budgetLeft_9 K a1) n) V l2 l3) V 9 [some (.ref (ad 60)), some (.int a1), some (.int l2), some (.int l3)] []
      rw [hrec]
      refine g_iload_n (pc := 9) hC dX5_budgetLeft_9 rfl ?_
      refine g_aload_n (pc := 10) hC dX5_budgetLeft_10 rfl ?_
      refine g_getR (pc := 11) hC fl_X5_47 (by decide) rfl rfl dX5_budgetLeft_11 ?_
      refine g_iload_n (pc := 14) hC dX5_budgetLeft_14 rfl ?_
      refine g_iald (pc := 15) hC (by decide) rfl dX5_budgetLeft_15 ?_
      refine g_icmp_ge (pc := 16) (tgt := 39) hC dX5_budgetLeft_16 (by decide) ?_ ?_
      · refine g_iload_n (pc := 39) hC dX5_budgetLeft_39 rfl ?_
        exact g_iret (pc := 40) hC hrt hlk dX5_budgetLeft_40
      · refine g_iload_n (pc := 19) hC dX5_budgetLeft_19 rfl ?_
        refine g_aload_n (pc := 20) hC dX5_budgetLeft_20 rfl ?_
        refine g_getR (pc := 21) hC fl_X5_53 (by decide) rfl rfl dX5_budgetLeft_21 ?_
        refine g_bipush (pc := 24) hC (16 : Int32) dX5_budgetLeft_24 (by decide) ?_
        refine g_iload_n (pc := 26) hC dX5_budgetLeft_26 rfl ?_
        refine g_imul (pc := 27) hC dX5_budgetLeft_27 ?_
        refine g_iload_n (pc := 28) hC dX5_budgetLeft_28 rfl ?_
        refine g_iadd (pc := 29) hC dX5_budgetLeft_29 ?_
        refine g_iald (pc := 30) hC (by decide) rfl dX5_budgetLeft_30 ?_
        refine g_isub (pc := 31) hC dX5_budgetLeft_31 ?_
        refine g_nm (fun x1 => ?_)
        refine g_istore_n (pc := 32) (L2 := [some (.ref (ad 60)), some (.int a1), some (.int x1), some (.int l3)]) hC dX5_budgetLeft_32 (by decide) rfl ?_
        refine g_iinc (pc := 33) (L2 := [some (.ref (ad 60)), some (.int a1), some (.int x1), some (.int (l3 + 1))]) hC (l3 + 1) dX5_budgetLeft_33 rfl rfl (by decide) rfl ?_
        refine g_goto (pc := 36) (tgt := 9) hC dX5_budgetLeft_36 (by decide) ?_
        exact ih_9 V x1 (l3 + 1)
  show G p l e rm_X5_budgetLeft s m args below meth c 0 0 (MQ below (va_Qi K (Bq D ad cy) A) args s 0 0 A) 4 D ad cy A (wp_X5_budgetLeft V K a1) V 0 [some (.ref (ad 60)), some (.int a1), none, none] []
  refine g_aload_n (pc := 0) hC dX5_budgetLeft_0 rfl ?_
  refine g_getR (pc := 1) hC fl_X5_23 (by decide) rfl rfl dX5_budgetLeft_1 ?_
  refine g_iload_n (pc := 4) hC dX5_budgetLeft_4 rfl ?_
  refine g_iald (pc := 5) hC (by decide) rfl dX5_budgetLeft_5 ?_
  refine g_nm (fun x1 => ?_)
  refine g_istore_n (pc := 6) (L2 := [some (.ref (ad 60)), some (.int a1), some (.int x1), none]) hC dX5_budgetLeft_6 (by decide) rfl ?_
  refine g_iconst (pc := 7) hC (0 : Int32) dX5_budgetLeft_7 (by decide) ?_
  refine g_istore_n (pc := 8) (L2 := [some (.ref (ad 60)), some (.int a1), some (.int x1), some (.int (0 : Int32))]) hC dX5_budgetLeft_8 (by decide) rfl ?_
  exact g_ex (fun n => J_9  n V x1 (0 : Int32))
def rm_X5_isReady : Room := ({ frames := 1, cells := 0, slots := 0, locals := 23 } : Room)
def wp_X5_isReady (V : St) (K : Int32 → St → Prop) (a1 : Int32) : Prop := vp_in a1 6 ∧ if (V 61 a1.toNatClampNeg) = 0 then (K (0 : Int32) V) else (vp_in a1 6 ∧ if (V 68 a1.toNatClampNeg) ≤ 0 then (K (0 : Int32) V) else (wp_X5_budgetLeft V (fun (r1 : Int32) (V2 : St) => if r1 ≤ 0 then (K (0 : Int32) V2) else (K (1 : Int32) V2)) a1))
set_option maxRecDepth 100000 in
set_option maxHeartbeats 4000000 in
theorem c_X5_isReady {l : Launch} {D : va_G} {ad : Nat → Nat} {cy : Nat → ClassId} (hi : inj ad) {V : St} {K : Int32 → St → Prop} {a1 : Int32} : wp_X5_isReady V K a1 → Hi l D ad cy yX5_isReady (Cond.code yX5_isReady cX5_isReady 2 (some .boolean) :: WA) rm_X5_isReady [.ref (ad 60), .int a1] V K := by
  refine H_i (w := wp_X5_isReady V K a1) (by decide) (Nat.le_of_ble_eq_true rfl) (List.forall_mem_cons.mpr ⟨rfl, (List.forall_mem_cons.mpr ⟨rfl, (fun _ h => absurd h List.not_mem_nil)⟩)⟩) hi ?_
  intro p e s m args below meth c A hC hrt hlk
  show G p l e rm_X5_isReady s m args below meth c 0 0 (MQ below (va_Qi K (Bq D ad cy) A) args s 0 0 A) 2 D ad cy A (wp_X5_isReady V K a1) V 0 [some (.ref (ad 60)), some (.int a1)] []
  refine g_aload_n (pc := 0) hC dX5_isReady_0 rfl ?_
  refine g_getR (pc := 1) hC fl_X5_7 (by decide) rfl rfl dX5_isReady_1 ?_
  refine g_iload_n (pc := 4) hC dX5_isReady_4 rfl ?_
  refine g_zald (pc := 5) hC (by decide) rfl dX5_isReady_5 ?_
  refine g_if_eq (pc := 6) (tgt := 30) hC dX5_isReady_6 (by decide) ?_ ?_
  · refine g_iconst (pc := 30) hC (0 : Int32) dX5_isReady_30 (by decide) ?_
    exact g_zret0 (pc := 31) hC hrt hlk dX5_isReady_31 (by decide)
  · refine g_aload_n (pc := 9) hC dX5_isReady_9 rfl ?_
    refine g_getR (pc := 10) hC fl_X5_32 (by decide) rfl rfl dX5_isReady_10 ?_
    refine g_iload_n (pc := 13) hC dX5_isReady_13 rfl ?_
    refine g_iald (pc := 14) hC (by decide) rfl dX5_isReady_14 ?_
    refine g_if_le (pc := 15) (tgt := 30) hC dX5_isReady_15 (by decide) ?_ ?_
    · refine g_iconst (pc := 30) hC (0 : Int32) dX5_isReady_30 (by decide) ?_
      exact g_zret0 (pc := 31) hC hrt hlk dX5_isReady_31 (by decide)
    · refine g_aload_n (pc := 18) hC dX5_isReady_18 rfl ?_
      refine g_iload_n (pc := 19) hC dX5_isReady_19 rfl ?_
      refine g_cvi (pc := 20) hC (c_X5_budgetLeft hC.2.2.2.1) mi_X5_budgetLeft ww_756 ⟨rfl, rfl⟩ ⟨by decide, by decide⟩ (by decide) rfl rfl rfl rfl (Nat.le_of_ble_eq_true rfl) ⟨Nat.le_of_ble_eq_true rfl, Nat.le_of_ble_eq_true rfl⟩ dX5_isReady_20 (fun r1 V2 => ?_)
      refine g_if_le (pc := 23) (tgt := 30) hC dX5_isReady_23 (by decide) ?_ ?_
      · refine g_iconst (pc := 30) hC (0 : Int32) dX5_isReady_30 (by decide) ?_
        exact g_zret0 (pc := 31) hC hrt hlk dX5_isReady_31 (by decide)
      · refine g_iconst (pc := 26) hC (1 : Int32) dX5_isReady_26 (by decide) ?_
        refine g_goto (pc := 27) (tgt := 31) hC dX5_isReady_27 (by decide) ?_
        exact g_zret0 (pc := 31) hC hrt hlk dX5_isReady_31 (by decide)
def rm_X5_giveBack : Room := ({ frames := 1, cells := 0, slots := 0, locals := 23 } : Room)
def b_X5_giveBack_101 (K : St → Prop) (rec_2 : St → Int32 → Prop) (rec_19 : St → Int32 → Int32 → Int32 → Int32 → Prop) (V : St) (l1 : Int32) (l2 : Int32) (l3 : Int32) (l4 : Int32) : Prop := vp_in (((16 : Int32) * l1) + l4) 96 ∧ if (V 74 (((16 : Int32) * l1) + l4).toNatClampNeg) ≤ (V 60 1) then (rec_19 V l1 l2 l3 (l4 + 1)) else (vp_in (((16 : Int32) * l1) + l4) 96 ∧ vp_in (((16 : Int32) * l1) + l2) 96 ∧ ∀ V1 : St, V1 = up2 V 74 (((16 : Int32) * l1) + l2).toNatClampNeg (V 74 (((16 : Int32) * l1) + l4).toNatClampNeg) → vp_in (((16 : Int32) * l1) + l4) 96 ∧ vp_in (((16 : Int32) * l1) + l2) 96 ∧ ∀ V2 : St, V2 = up2 V1 75 (((16 : Int32) * l1) + l2).toNatClampNeg (V1 75 (((16 : Int32) * l1) + l4).toNatClampNeg) → rec_19 V2 l1 (l2 + 1) l3 (l4 + 1))
def h_X5_giveBack_33 (K : St → Prop) (rec_2 : St → Int32 → Prop) (rec_19 : St → Int32 → Int32 → Int32 → Int32 → Prop) (rec_33 : St → Int32 → Int32 → Int32 → Int32 → Int32 → Prop) (V : St) (l1 : Int32) (l2 : Int32) (l3 : Int32) (l4 : Int32) (l5 : Int32) : Prop := vp_in (((16 : Int32) * l1) + l4) 96 ∧ if (V 75 (((16 : Int32) * l1) + l4).toNatClampNeg) ≤ l5 then (b_X5_giveBack_101 K rec_2 rec_19 V l1 l2 l3 l4) else (vp_in (((16 : Int32) * l1) + l4) 96 ∧ if (V 60 1) < (V 74 (((16 : Int32) * l1) + l4).toNatClampNeg) then (b_X5_giveBack_101 K rec_2 rec_19 V l1 l2 l3 l4) else (vp_in (((16 : Int32) * l1) + l4) 96 ∧ vp_in (((30 : Int32) * l1) + l3) 180 ∧ ∀ V1 : St, V1 = up2 V 72 (((30 : Int32) * l1) + l3).toNatClampNeg (V 74 (((16 : Int32) * l1) + l4).toNatClampNeg) → rec_33 V1 l1 l2 (l3 + 1) l4 (l5 + 1)))
def h_X5_giveBack_19 (K : St → Prop) (rec_2 : St → Int32 → Prop) (rec_19 : St → Int32 → Int32 → Int32 → Int32 → Prop) (V : St) (l1 : Int32) (l2 : Int32) (l3 : Int32) (l4 : Int32) : Prop := vp_in l1 6 ∧ if (V 73 l1.toNatClampNeg) ≤ l4 then (vp_in l1 6 ∧ ∀ V1 : St, V1 = up2 V 73 l1.toNatClampNeg l2 → rec_2 V1 (l1 + 1)) else (∃ n, lp (fun _ _ _ _ _ _ => False) (h_X5_giveBack_33 K rec_2 rec_19) n V l1 l2 l3 l4 (0 : Int32))
def h_X5_giveBack_2 (K : St → Prop) (rec_2 : St → Int32 → Prop) (V : St) (l1 : Int32) : Prop := if (6 : Int32) ≤ l1 then (K V) else (wp_X5_budgetLeft V (fun (r1 : Int32) (V2 : St) => ∃ n, lp (fun _ _ _ _ _ => False) (h_X5_giveBack_19 K rec_2) n V2 l1 (0 : Int32) r1 (0 : Int32)) l1)
def wp_X5_giveBack (V : St) (K : St → Prop) : Prop := ∃ n, lp (fun _ _ => False) (h_X5_giveBack_2 K) n V (0 : Int32)
set_option maxRecDepth 100000 in
set_option maxHeartbeats 4000000 in
theorem c_X5_giveBack {l : Launch} {D : va_G} {ad : Nat → Nat} {cy : Nat → ClassId} (hi : inj ad) {V : St} {K : St → Prop} : wp_X5_giveBack V K → Hv l D ad cy yX5_giveBack (Cond.code yX5_giveBack cX5_giveBack 6 none :: WA) rm_X5_giveBack [.ref (ad 60)] V K := by
  refine H_v (w := wp_X5_giveBack V K) (by decide) (Nat.le_of_ble_eq_true rfl) (List.forall_mem_cons.mpr ⟨rfl, (fun _ h => absurd h List.not_mem_nil)⟩) hi ?_
  intro p e s m args below meth c A hC hrt hlk
  have J_101 : ∀ (rec_2 : St → Int32 → Prop) (ih_2 : ∀ (V : St) (l1 : Int32), G p l e rm_X5_giveBack s m args below meth c 0 0 (MQ below (va_Qv K (Bq D ad cy) A) args s 0 0 A) 6 D ad cy A (rec_2 V l1) V 2 [some (.ref (ad 60)), some (.int l1), none, none, none, none] []) (rec_19 : St → Int32 → Int32 → Int32 → Int32 → Prop) (ih_19 : ∀ (V : St) (l1 : Int32) (l2 : Int32) (l3 : Int32) (l4 : Int32), G p l e rm_X5_giveBack s m args below meth c 0 0 (MQ below (va_Qv K (Bq D ad cy) A) args s 0 0 A) 6 D ad cy A (rec_19 V l1 l2 l3 l4) V 19 [some (.ref (ad 60)), some (.int l1), some (.int l2), some (.int l3), some (.int l4), none] []), ∀ (V : St) (l1 : Int32) (l2 : Int32) (l3 : Int32) (l4 : Int32), G p l e rm_X5_giveBack s m args below meth c 0 0 (MQ below (va_Qv K (Bq D ad cy) A) args s 0 0 A) 6 D ad cy A (b_X5_giveBack_101 K rec_2 rec_19 V l1 l2 l3 l4) V 101 [some (.ref (ad 60)), some (.int l1), some (.int l2), some (.int l3), some (.int l4), none] [] := by
    intro rec_2 ih_2 rec_19 ih_19 V l1 l2 l3 l4 
    refine g_aload_n (pc := 101) hC dX5_giveBack_101 rfl ?_
    refine g_getR (pc := 102) hC fl_X5_50 (by decide) rfl rfl dX5_giveBack_102 ?_
    refine g_bipush (pc := 105) hC (16 : Int32) dX5_giveBack_105 (by decide) ?_
    refine g_iload_n (pc := 107) hC dX5_giveBack_107 rfl ?_
    refine g_imul (pc := 108) hC dX5_giveBack_108 ?_
    refine g_iload (pc := 109) hC dX5_giveBack_109 rfl ?_
    refine g_iadd (pc := 111) hC dX5_giveBack_111 ?_
    refine g_iald (pc := 112) hC (by decide) rfl dX5_giveBack_112 ?_
    refine g_aload_n (pc := 113) hC dX5_giveBack_113 rfl ?_
    refine g_getI (pc := 114) hC fl_X5_115 (by decide) rfl rfl dX5_giveBack_114 ?_
    refine g_icmp_le (pc := 117) (tgt := 169) hC dX5_giveBack_117 (by decide) ?_ ?_
    · refine g_iinc (pc := 169) (L2 := [some (.ref (ad 60)), some (.int l1), some (.int l2), some (.int l3), some (.int (l4 + 1)), none]) hC (l4 + 1) dX5_giveBack_169 rfl rfl (by decide) rfl ?_
      refine g_goto (pc := 172) (tgt := 19) hC dX5_giveBack_172 (by decide) ?_
      exact ih_19 V l1 l2 l3 (l4 + 1)
    · refine g_aload_n (pc := 120) hC dX5_giveBack_120 rfl ?_
      refine g_getR (pc := 121) hC fl_X5_50 (by decide) rfl rfl dX5_giveBack_121 ?_
      refine g_bipush (pc := 124) hC (16 : Int32) dX5_giveBack_124 (by decide) ?_
      refine g_iload_n (pc := 126) hC dX5_giveBack_126 rfl ?_
      refine g_imul (pc := 127) hC dX5_giveBack_127 ?_
      refine g_iload_n (pc := 128) hC dX5_giveBack_128 rfl ?_
      refine g_iadd (pc := 129) hC dX5_giveBack_129 ?_
      refine g_aload_n (pc := 130) hC dX5_giveBack_130 rfl ?_
      refine g_getR (pc := 131) hC fl_X5_50 (by decide) rfl rfl dX5_giveBack_131 ?_
      refine g_bipush (pc := 134) hC (16 : Int32) dX5_giveBack_134 (by decide) ?_
      refine g_iload_n (pc := 136) hC dX5_giveBack_136 rfl ?_
      refine g_imul (pc := 137) hC dX5_giveBack_137 ?_
      refine g_iload (pc := 138) hC dX5_giveBack_138 rfl ?_
      refine g_iadd (pc := 140) hC dX5_giveBack_140 ?_
      refine g_iald (pc := 141) hC (by decide) rfl dX5_giveBack_141 ?_
      refine g_iast (pc := 142) hC (by decide) rfl dX5_giveBack_142 (fun V1 => ?_)
      refine g_aload_n (pc := 143) hC dX5_giveBack_143 rfl ?_
      refine g_getR (pc := 144) hC fl_X5_53 (by decide) rfl rfl dX5_giveBack_144 ?_
      refine g_bipush (pc := 147) hC (16 : Int32) dX5_giveBack_147 (by decide) ?_
      refine g_iload_n (pc := 149) hC dX5_giveBack_149 rfl ?_
      refine g_imul (pc := 150) hC dX5_giveBack_150 ?_
      refine g_iload_n (pc := 151) hC dX5_giveBack_151 rfl ?_
      refine g_iadd (pc := 152) hC dX5_giveBack_152 ?_
      refine g_aload_n (pc := 153) hC dX5_giveBack_153 rfl ?_
      refine g_getR (pc := 154) hC fl_X5_53 (by decide) rfl rfl dX5_giveBack_154 ?_
      refine g_bipush (pc := 157) hC (16 : Int32) dX5_giveBack_157 (by decide) ?_
      refine g_iload_n (pc := 159) hC dX5_giveBack_159 rfl ?_
      refine g_imul (pc := 160) hC dX5_giveBack_160 ?_
      refine g_iload (pc := 161) hC dX5_giveBack_161 rfl ?_
      refine g_iadd (pc := 163) hC dX5_giveBack_163 ?_
      refine g_iald (pc := 164) hC (by decide) rfl dX5_giveBack_164 ?_
      refine g_iast (pc := 165) hC (by decide) rfl dX5_giveBack_165 (fun V2 => ?_)
      refine g_iinc (pc := 166) (L2 := [some (.ref (ad 60)), some (.int l1), some (.int (l2 + 1)), some (.int l3), some (.int l4), none]) hC (l2 + 1) dX5_giveBack_166 rfl rfl (by decide) rfl ?_
      refine g_iinc (pc := 169) (L2 := [some (.ref (ad 60)), some (.int l1), some (.int (l2 + 1)), some (.int l3), some (.int (l4 + 1)), none]) hC (l4 + 1) dX5_giveBack_169 rfl rfl (by decide) rfl ?_
      refine g_goto (pc := 172) (tgt := 19) hC dX5_giveBack_172 (by decide) ?_
      exact ih_19 V2 l1 (l2 + 1) l3 (l4 + 1)
  have J_33 : ∀ (rec_2 : St → Int32 → Prop) (ih_2 : ∀ (V : St) (l1 : Int32), G p l e rm_X5_giveBack s m args below meth c 0 0 (MQ below (va_Qv K (Bq D ad cy) A) args s 0 0 A) 6 D ad cy A (rec_2 V l1) V 2 [some (.ref (ad 60)), some (.int l1), none, none, none, none] []) (rec_19 : St → Int32 → Int32 → Int32 → Int32 → Prop) (ih_19 : ∀ (V : St) (l1 : Int32) (l2 : Int32) (l3 : Int32) (l4 : Int32), G p l e rm_X5_giveBack s m args below meth c 0 0 (MQ below (va_Qv K (Bq D ad cy) A) args s 0 0 A) 6 D ad cy A (rec_19 V l1 l2 l3 l4) V 19 [some (.ref (ad 60)), some (.int l1), some (.int l2), some (.int l3), some (.int l4), none] []) (n : Nat), ∀ (V : St) (l1 : Int32) (l2 : Int32) (l3 : Int32) (l4 : Int32) (l5 : Int32), G p l e rm_X5_giveBack s m args below meth c 0 0 (MQ below (va_Qv K (Bq D ad cy) A) args s 0 0 A) 6 D ad cy A (lp (fun _ _ _ _ _ _ => False) (h_X5_giveBack_33 K rec_2 rec_19) n V l1 l2 l3 l4 l5) V 33 [some (.ref (ad 60)), some (.int l1), some (.int l2), some (.int l3), some (.int l4), some (.int l5)] [] := by
    intro rec_2 ih_2 rec_19 ih_19
    intro n
    induction n with
    | zero => exact fun _ _ _ _ _ _ h => False.elim h
    | succ n IH =>
      generalize hrec : lp (fun _ _ _ _ _ _ => False) (h_X5_giveBack_33 K rec_2 rec_19) n = rec_33 at IH
      have ih_33 := IH
      intro V l1 l2 l3 l4 l5 
      show G p l e rm_X5_giveBack s m args below meth c 0 0 (MQ below (va_Qv K (Bq D ad cy) A) args s 0 0 A) 6 D ad cy A (h_X5_giveBack_33 K rec_2 rec_19 (lp (fun _ _ _ _ _ _ => False) (h_X5_giveBack_33 K rec_2 rec_19) n) V l1 l2 l3 l4 l5) V 33 [some (.ref (ad 60)), some (.int l1), some (.int l2), some (.int l3), some (.int l4), some (.int l5)] []
      rw [hrec]
      refine g_iload (pc := 33) hC dX5_giveBack_33 rfl ?_
      refine g_aload_n (pc := 35) hC dX5_giveBack_35 rfl ?_
      refine g_getR (pc := 36) hC fl_X5_53 (by decide) rfl rfl dX5_giveBack_36 ?_
      refine g_bipush (pc := 39) hC (16 : Int32) dX5_giveBack_39 (by decide) ?_
      refine g_iload_n (pc := 41) hC dX5_giveBack_41 rfl ?_
      refine g_imul (pc := 42) hC dX5_giveBack_42 ?_
      refine g_iload (pc := 43) hC dX5_giveBack_43 rfl ?_
      refine g_iadd (pc := 45) hC dX5_giveBack_45 ?_
      refine g_iald (pc := 46) hC (by decide) rfl dX5_giveBack_46 ?_
      refine g_icmp_ge (pc := 47) (tgt := 101) hC dX5_giveBack_47 (by decide) ?_ ?_
      · exact g_ms [true, true, true, true, true, false] (J_101 rec_2 ih_2 rec_19 ih_19 V l1 l2 l3 l4)
      · refine g_aload_n (pc := 50) hC dX5_giveBack_50 rfl ?_
        refine g_getR (pc := 51) hC fl_X5_50 (by decide) rfl rfl dX5_giveBack_51 ?_
        refine g_bipush (pc := 54) hC (16 : Int32) dX5_giveBack_54 (by decide) ?_
        refine g_iload_n (pc := 56) hC dX5_giveBack_56 rfl ?_
        refine g_imul (pc := 57) hC dX5_giveBack_57 ?_
        refine g_iload (pc := 58) hC dX5_giveBack_58 rfl ?_
        refine g_iadd (pc := 60) hC dX5_giveBack_60 ?_
        refine g_iald (pc := 61) hC (by decide) rfl dX5_giveBack_61 ?_
        refine g_aload_n (pc := 62) hC dX5_giveBack_62 rfl ?_
        refine g_getI (pc := 63) hC fl_X5_115 (by decide) rfl rfl dX5_giveBack_63 ?_
        refine g_icmp_gt (pc := 66) (tgt := 101) hC dX5_giveBack_66 (by decide) ?_ ?_
        · exact g_ms [true, true, true, true, true, false] (J_101 rec_2 ih_2 rec_19 ih_19 V l1 l2 l3 l4)
        · refine g_aload_n (pc := 69) hC dX5_giveBack_69 rfl ?_
          refine g_getR (pc := 70) hC fl_X5_44 (by decide) rfl rfl dX5_giveBack_70 ?_
          refine g_bipush (pc := 73) hC (30 : Int32) dX5_giveBack_73 (by decide) ?_
          refine g_iload_n (pc := 75) hC dX5_giveBack_75 rfl ?_
          refine g_imul (pc := 76) hC dX5_giveBack_76 ?_
          refine g_iload_n (pc := 77) hC dX5_giveBack_77 rfl ?_
          refine g_iadd (pc := 78) hC dX5_giveBack_78 ?_
          refine g_aload_n (pc := 79) hC dX5_giveBack_79 rfl ?_
          refine g_getR (pc := 80) hC fl_X5_50 (by decide) rfl rfl dX5_giveBack_80 ?_
          refine g_bipush (pc := 83) hC (16 : Int32) dX5_giveBack_83 (by decide) ?_
          refine g_iload_n (pc := 85) hC dX5_giveBack_85 rfl ?_
          refine g_imul (pc := 86) hC dX5_giveBack_86 ?_
          refine g_iload (pc := 87) hC dX5_giveBack_87 rfl ?_
          refine g_iadd (pc := 89) hC dX5_giveBack_89 ?_
          refine g_iald (pc := 90) hC (by decide) rfl dX5_giveBack_90 ?_
          refine g_iast (pc := 91) hC (by decide) rfl dX5_giveBack_91 (fun V1 => ?_)
          refine g_iinc (pc := 92) (L2 := [some (.ref (ad 60)), some (.int l1), some (.int l2), some (.int (l3 + 1)), some (.int l4), some (.int l5)]) hC (l3 + 1) dX5_giveBack_92 rfl rfl (by decide) rfl ?_
          refine g_iinc (pc := 95) (L2 := [some (.ref (ad 60)), some (.int l1), some (.int l2), some (.int (l3 + 1)), some (.int l4), some (.int (l5 + 1))]) hC (l5 + 1) dX5_giveBack_95 rfl rfl (by decide) rfl ?_
          refine g_goto (pc := 98) (tgt := 33) hC dX5_giveBack_98 (by decide) ?_
          exact ih_33 V1 l1 l2 (l3 + 1) l4 (l5 + 1)
  have J_19 : ∀ (rec_2 : St → Int32 → Prop) (ih_2 : ∀ (V : St) (l1 : Int32), G p l e rm_X5_giveBack s m args below meth c 0 0 (MQ below (va_Qv K (Bq D ad cy) A) args s 0 0 A) 6 D ad cy A (rec_2 V l1) V 2 [some (.ref (ad 60)), some (.int l1), none, none, none, none] []) (n : Nat), ∀ (V : St) (l1 : Int32) (l2 : Int32) (l3 : Int32) (l4 : Int32), G p l e rm_X5_giveBack s m args below meth c 0 0 (MQ below (va_Qv K (Bq D ad cy) A) args s 0 0 A) 6 D ad cy A (lp (fun _ _ _ _ _ => False) (h_X5_giveBack_19 K rec_2) n V l1 l2 l3 l4) V 19 [some (.ref (ad 60)), some (.int l1), some (.int l2), some (.int l3), some (.int l4), none] [] := by
    intro rec_2 ih_2
    intro n
    induction n with
    | zero => exact fun _ _ _ _ _ h => False.elim h
    | succ n IH =>
      generalize hrec : lp (fun _ _ _ _ _ => False) (h_X5_giveBack_19 K rec_2) n = rec_19 at IH
      have ih_19 := IH
      intro V l1 l2 l3 l4 
      show G p l e rm_X5_giveBack s m args below meth c 0 0 (MQ below (va_Qv K (Bq D ad cy) A) args s 0 0 A) 6 D ad cy A (h_X5_giveBack_19 K rec_2 (lp (fun _ _ _ _ _ => False) (h_X5_giveBack_19 K rec_2) n) V l1 l2 l3 l4) V 19 [some (.ref (ad 60)), some (.int l1), some (.int l2), some (.int l3), some (.int l4), none] []
      rw [hrec]
      refine g_iload (pc := 19) hC dX5_giveBack_19 rfl ?_
      refine g_aload_n (pc := 21) hC dX5_giveBack_21 rfl ?_
      refine g_getR (pc := 22) hC fl_X5_47 (by decide) rfl rfl dX5_giveBack_22 ?_
      refine g_iload_n (pc := 25) hC dX5_giveBack_25 rfl ?_
      refine g_iald (pc := 26) hC (by decide) rfl dX5_giveBack_26 ?_
      refine g_icmp_ge (pc := 27) (tgt := 175) hC dX5_giveBack_27 (by decide) ?_ ?_
      · refine g_aload_n (pc := 175) hC dX5_giveBack_175 rfl ?_
        refine g_getR (pc := 176) hC fl_X5_47 (by decide) rfl rfl dX5_giveBack_176 ?_
        refine g_iload_n (pc := 179) hC dX5_giveBack_179 rfl ?_
        refine g_iload_n (pc := 180) hC dX5_giveBack_180 rfl ?_
        refine g_iast (pc := 181) hC (by decide) rfl dX5_giveBack_181 (fun V1 => ?_)
        refine g_iinc (pc := 182) (L2 := [some (.ref (ad 60)), some (.int (l1 + 1)), some (.int l2), some (.int l3), some (.int l4), none]) hC (l1 + 1) dX5_giveBack_182 rfl rfl (by decide) rfl ?_
        refine g_goto (pc := 185) (tgt := 2) hC dX5_giveBack_185 (by decide) ?_
        exact g_ms [true, true, false, false, false, false] (ih_2 V1 (l1 + 1))
      · refine g_iconst (pc := 30) hC (0 : Int32) dX5_giveBack_30 (by decide) ?_
        refine g_istore (pc := 31) (L2 := [some (.ref (ad 60)), some (.int l1), some (.int l2), some (.int l3), some (.int l4), some (.int (0 : Int32))]) hC dX5_giveBack_31 (by decide) rfl ?_
        exact g_ex (fun n => J_33 rec_2 ih_2 rec_19 ih_19 n V l1 l2 l3 l4 (0 : Int32))
  have J_2 : ∀ (n : Nat), ∀ (V : St) (l1 : Int32), G p l e rm_X5_giveBack s m args below meth c 0 0 (MQ below (va_Qv K (Bq D ad cy) A) args s 0 0 A) 6 D ad cy A (lp (fun _ _ => False) (h_X5_giveBack_2 K) n V l1) V 2 [some (.ref (ad 60)), some (.int l1), none, none, none, none] [] := by
    intro n
    induction n with
    | zero => exact fun _ _ h => False.elim h
    | succ n IH =>
      generalize hrec : lp (fun _ _ => False) (h_X5_giveBack_2 K) n = rec_2 at IH
      have ih_2 := IH
      intro V l1 
      show G p l e rm_X5_giveBack s m args below meth c 0 0 (MQ below (va_Qv K (Bq D ad cy) A) args s 0 0 A) 6 D ad cy A (h_X5_giveBack_2 K (lp (fun _ _ => False) (h_X5_giveBack_2 K) n) V l1) V 2 [some (.ref (ad 60)), some (.int l1), none, none, none, none] []
      rw [hrec]
      refine g_iload_n (pc := 2) hC dX5_giveBack_2 rfl ?_
      refine g_bipush (pc := 3) hC (6 : Int32) dX5_giveBack_3 (by decide) ?_
      refine g_icmp_ge (pc := 5) (tgt := 188) hC dX5_giveBack_5 (by decide) ?_ ?_
      · exact g_vret (pc := 188) hC hrt hlk dX5_giveBack_188
      · refine g_iconst (pc := 8) hC (0 : Int32) dX5_giveBack_8 (by decide) ?_
        refine g_istore_n (pc := 9) (L2 := [some (.ref (ad 60)), some (.int l1), some (.int (0 : Int32)), none, none, none]) hC dX5_giveBack_9 (by decide) rfl ?_
        refine g_aload_n (pc := 10) hC dX5_giveBack_10 rfl ?_
        refine g_iload_n (pc := 11) hC dX5_giveBack_11 rfl ?_
        refine g_cvi (pc := 12) hC (c_X5_budgetLeft hC.2.2.2.1) mi_X5_budgetLeft ww_756 ⟨rfl, rfl⟩ ⟨by decide, by decide⟩ (by decide) rfl rfl rfl rfl (Nat.le_of_ble_eq_true rfl) ⟨Nat.le_of_ble_eq_true rfl, Nat.le_of_ble_eq_true rfl⟩ dX5_giveBack_12 (fun r1 V2 => ?_)
        refine g_istore_n (pc := 15) (L2 := [some (.ref (ad 60)), some (.int l1), some (.int (0 : Int32)), some (.int r1), none, none]) hC dX5_giveBack_15 (by decide) rfl ?_
        refine g_iconst (pc := 16) hC (0 : Int32) dX5_giveBack_16 (by decide) ?_
        refine g_istore (pc := 17) (L2 := [some (.ref (ad 60)), some (.int l1), some (.int (0 : Int32)), some (.int r1), some (.int (0 : Int32)), none]) hC dX5_giveBack_17 (by decide) rfl ?_
        exact g_ex (fun n => J_19 rec_2 ih_2 n V2 l1 (0 : Int32) r1 (0 : Int32))
  show G p l e rm_X5_giveBack s m args below meth c 0 0 (MQ below (va_Qv K (Bq D ad cy) A) args s 0 0 A) 6 D ad cy A (wp_X5_giveBack V K) V 0 [some (.ref (ad 60)), none, none, none, none, none] []
  refine g_iconst (pc := 0) hC (0 : Int32) dX5_giveBack_0 (by decide) ?_
  refine g_istore_n (pc := 1) (L2 := [some (.ref (ad 60)), some (.int (0 : Int32)), none, none, none, none]) hC dX5_giveBack_1 (by decide) rfl ?_
  exact g_ex (fun n => J_2  n V (0 : Int32))
def rm_X5_spend : Room := ({ frames := 0, cells := 0, slots := 0, locals := 0 } : Room)
def b_X5_spend_81 (K : St → Prop) (a1 : Int32) (a2 : Int32) (V : St) (l3 : Int32) : Prop := vp_in (l3 + (1 : Int32)) 96 ∧ ∀ V1 : St, V1 = up2 V 74 (l3 + (1 : Int32)).toNatClampNeg a2 → vp_in (l3 + (1 : Int32)) 96 ∧ ∀ V2 : St, V2 = up2 V1 75 (l3 + (1 : Int32)).toNatClampNeg (1 : Int32) → vp_in a1 6 ∧ vp_in a1 6 ∧ ∀ V3 : St, V3 = up2 V2 73 a1.toNatClampNeg ((V2 73 a1.toNatClampNeg) + (1 : Int32)) → K V3
def b_X5_spend_44 (K : St → Prop) (a1 : Int32) (a2 : Int32) (V : St) (l3 : Int32) : Prop := vp_in l3 96 ∧ vp_in l3 96 ∧ ∀ V1 : St, V1 = up2 V 75 l3.toNatClampNeg ((V 75 l3.toNatClampNeg) + (1 : Int32)) → vp_in l3 96 ∧ if a2 ≤ (V1 74 l3.toNatClampNeg) then (vp_in l3 96 ∧ vp_in l3 96 ∧ ∀ V2 : St, V2 = up2 V1 74 l3.toNatClampNeg (V1 74 l3.toNatClampNeg) → K V2) else (vp_in l3 96 ∧ ∀ V3 : St, V3 = up2 V1 74 l3.toNatClampNeg a2 → K V3)
def wp_X5_spend (V : St) (K : St → Prop) (a1 : Int32) (a2 : Int32) : Prop := vp_in a1 6 ∧ ∀ x1 : Int32, x1 = ((((16 : Int32) * a1) + (V 73 a1.toNatClampNeg)) - (1 : Int32)) → vp_in a1 6 ∧ if (V 73 a1.toNatClampNeg) ≤ 0 then (b_X5_spend_81 K a1 a2 V x1) else (vp_in x1 96 ∧ if (V 74 x1.toNatClampNeg) = a2 then (b_X5_spend_44 K a1 a2 V x1) else (vp_in a1 6 ∧ if (V 73 a1.toNatClampNeg) = (16 : Int32) then (b_X5_spend_44 K a1 a2 V x1) else (b_X5_spend_81 K a1 a2 V x1)))
set_option maxRecDepth 100000 in
set_option maxHeartbeats 4000000 in
theorem c_X5_spend {l : Launch} {D : va_G} {ad : Nat → Nat} {cy : Nat → ClassId} (hi : inj ad) {V : St} {K : St → Prop} {a1 : Int32} {a2 : Int32} : wp_X5_spend V K a1 a2 → Hv l D ad cy yX5_spend (Cond.code yX5_spend cX5_spend 4 none :: WA) rm_X5_spend [.ref (ad 60), .int a1, .int a2] V K := by
  refine H_v (w := wp_X5_spend V K a1 a2) (by decide) (Nat.le_of_ble_eq_true rfl) (List.forall_mem_cons.mpr ⟨rfl, (List.forall_mem_cons.mpr ⟨rfl, (List.forall_mem_cons.mpr ⟨rfl, (fun _ h => absurd h List.not_mem_nil)⟩)⟩)⟩) hi ?_
  intro p e s m args below meth c A hC hrt hlk
  have J_81 : ∀ (V : St) (l3 : Int32), G p l e rm_X5_spend s m args below meth c 0 0 (MQ below (va_Qv K (Bq D ad cy) A) args s 0 0 A) 4 D ad cy A (b_X5_spend_81 K a1 a2 V l3) V 81 [some (.ref (ad 60)), some (.int a1), some (.int a2), some (.int l3)] [] := by
    intro  V l3 
    refine g_aload_n (pc := 81) hC dX5_spend_81 rfl ?_
    refine g_getR (pc := 82) hC fl_X5_50 (by decide) rfl rfl dX5_spend_82 ?_
    refine g_iload_n (pc := 85) hC dX5_spend_85 rfl ?_
    refine g_iconst (pc := 86) hC (1 : Int32) dX5_spend_86 (by decide) ?_
    refine g_iadd (pc := 87) hC dX5_spend_87 ?_
    refine g_iload_n (pc := 88) hC dX5_spend_88 rfl ?_
    refine g_iast (pc := 89) hC (by decide) rfl dX5_spend_89 (fun V1 => ?_)
    refine g_aload_n (pc := 90) hC dX5_spend_90 rfl ?_
    refine g_getR (pc := 91) hC fl_X5_53 (by decide) rfl rfl dX5_spend_91 ?_
    refine g_iload_n (pc := 94) hC dX5_spend_94 rfl ?_
    refine g_iconst (pc := 95) hC (1 : Int32) dX5_spend_95 (by decide) ?_
    refine g_iadd (pc := 96) hC dX5_spend_96 ?_
    refine g_iconst (pc := 97) hC (1 : Int32) dX5_spend_97 (by decide) ?_
    refine g_iast (pc := 98) hC (by decide) rfl dX5_spend_98 (fun V2 => ?_)
    refine g_aload_n (pc := 99) hC dX5_spend_99 rfl ?_
    refine g_getR (pc := 100) hC fl_X5_47 (by decide) rfl rfl dX5_spend_100 ?_
    refine g_iload_n (pc := 103) hC dX5_spend_103 rfl ?_
    refine g_dup2 (pc := 104) hC dX5_spend_104 rfl rfl ?_
    refine g_iald (pc := 105) hC (by decide) rfl dX5_spend_105 ?_
    refine g_iconst (pc := 106) hC (1 : Int32) dX5_spend_106 (by decide) ?_
    refine g_iadd (pc := 107) hC dX5_spend_107 ?_
    refine g_iast (pc := 108) hC (by decide) rfl dX5_spend_108 (fun V3 => ?_)
    exact g_vret (pc := 109) hC hrt hlk dX5_spend_109
  have J_44 : ∀ (V : St) (l3 : Int32), G p l e rm_X5_spend s m args below meth c 0 0 (MQ below (va_Qv K (Bq D ad cy) A) args s 0 0 A) 4 D ad cy A (b_X5_spend_44 K a1 a2 V l3) V 44 [some (.ref (ad 60)), none, some (.int a2), some (.int l3)] [] := by
    intro  V l3 
    refine g_aload_n (pc := 44) hC dX5_spend_44 rfl ?_
    refine g_getR (pc := 45) hC fl_X5_53 (by decide) rfl rfl dX5_spend_45 ?_
    refine g_iload_n (pc := 48) hC dX5_spend_48 rfl ?_
    refine g_dup2 (pc := 49) hC dX5_spend_49 rfl rfl ?_
    refine g_iald (pc := 50) hC (by decide) rfl dX5_spend_50 ?_
    refine g_iconst (pc := 51) hC (1 : Int32) dX5_spend_51 (by decide) ?_
    refine g_iadd (pc := 52) hC dX5_spend_52 ?_
    refine g_iast (pc := 53) hC (by decide) rfl dX5_spend_53 (fun V1 => ?_)
    refine g_aload_n (pc := 54) hC dX5_spend_54 rfl ?_
    refine g_getR (pc := 55) hC fl_X5_50 (by decide) rfl rfl dX5_spend_55 ?_
    refine g_iload_n (pc := 58) hC dX5_spend_58 rfl ?_
    refine g_iload_n (pc := 59) hC dX5_spend_59 rfl ?_
    refine g_aload_n (pc := 60) hC dX5_spend_60 rfl ?_
    refine g_getR (pc := 61) hC fl_X5_50 (by decide) rfl rfl dX5_spend_61 ?_
    refine g_iload_n (pc := 64) hC dX5_spend_64 rfl ?_
    refine g_iald (pc := 65) hC (by decide) rfl dX5_spend_65 ?_
    refine g_icmp_le (pc := 66) (tgt := 73) hC dX5_spend_66 (by decide) ?_ ?_
    · refine g_aload_n (pc := 73) hC dX5_spend_73 rfl ?_
      refine g_getR (pc := 74) hC fl_X5_50 (by decide) rfl rfl dX5_spend_74 ?_
      refine g_iload_n (pc := 77) hC dX5_spend_77 rfl ?_
      refine g_iald (pc := 78) hC (by decide) rfl dX5_spend_78 ?_
      refine g_iast (pc := 79) hC (by decide) rfl dX5_spend_79 (fun V2 => ?_)
      exact g_vret (pc := 80) hC hrt hlk dX5_spend_80
    · refine g_iload_n (pc := 69) hC dX5_spend_69 rfl ?_
      refine g_goto (pc := 70) (tgt := 79) hC dX5_spend_70 (by decide) ?_
      refine g_iast (pc := 79) hC (by decide) rfl dX5_spend_79 (fun V3 => ?_)
      exact g_vret (pc := 80) hC hrt hlk dX5_spend_80
  show G p l e rm_X5_spend s m args below meth c 0 0 (MQ below (va_Qv K (Bq D ad cy) A) args s 0 0 A) 4 D ad cy A (wp_X5_spend V K a1 a2) V 0 [some (.ref (ad 60)), some (.int a1), some (.int a2), none] []
  refine g_bipush (pc := 0) hC (16 : Int32) dX5_spend_0 (by decide) ?_
  refine g_iload_n (pc := 2) hC dX5_spend_2 rfl ?_
  refine g_imul (pc := 3) hC dX5_spend_3 ?_
  refine g_aload_n (pc := 4) hC dX5_spend_4 rfl ?_
  refine g_getR (pc := 5) hC fl_X5_47 (by decide) rfl rfl dX5_spend_5 ?_
  refine g_iload_n (pc := 8) hC dX5_spend_8 rfl ?_
  refine g_iald (pc := 9) hC (by decide) rfl dX5_spend_9 ?_
  refine g_iadd (pc := 10) hC dX5_spend_10 ?_
  refine g_iconst (pc := 11) hC (1 : Int32) dX5_spend_11 (by decide) ?_
  refine g_isub (pc := 12) hC dX5_spend_12 ?_
  refine g_nm (fun x1 => ?_)
  refine g_istore_n (pc := 13) (L2 := [some (.ref (ad 60)), some (.int a1), some (.int a2), some (.int x1)]) hC dX5_spend_13 (by decide) rfl ?_
  refine g_aload_n (pc := 14) hC dX5_spend_14 rfl ?_
  refine g_getR (pc := 15) hC fl_X5_47 (by decide) rfl rfl dX5_spend_15 ?_
  refine g_iload_n (pc := 18) hC dX5_spend_18 rfl ?_
  refine g_iald (pc := 19) hC (by decide) rfl dX5_spend_19 ?_
  refine g_if_le (pc := 20) (tgt := 81) hC dX5_spend_20 (by decide) ?_ ?_
  · exact J_81  V x1
  · refine g_aload_n (pc := 23) hC dX5_spend_23 rfl ?_
    refine g_getR (pc := 24) hC fl_X5_50 (by decide) rfl rfl dX5_spend_24 ?_
    refine g_iload_n (pc := 27) hC dX5_spend_27 rfl ?_
    refine g_iald (pc := 28) hC (by decide) rfl dX5_spend_28 ?_
    refine g_iload_n (pc := 29) hC dX5_spend_29 rfl ?_
    refine g_icmp_eq (pc := 30) (tgt := 44) hC dX5_spend_30 (by decide) ?_ ?_
    · exact g_ms [true, false, true, true] (J_44  V x1)
    · refine g_aload_n (pc := 33) hC dX5_spend_33 rfl ?_
      refine g_getR (pc := 34) hC fl_X5_47 (by decide) rfl rfl dX5_spend_34 ?_
      refine g_iload_n (pc := 37) hC dX5_spend_37 rfl ?_
      refine g_iald (pc := 38) hC (by decide) rfl dX5_spend_38 ?_
      refine g_bipush (pc := 39) hC (16 : Int32) dX5_spend_39 (by decide) ?_
      refine g_icmp_ne (pc := 41) (tgt := 81) hC dX5_spend_41 (by decide) ?_ ?_
      · exact J_81  V x1
      · exact g_ms [true, false, true, true] (J_44  V x1)
def rm_X5_firstPiece : Room := ({ frames := 0, cells := 0, slots := 0, locals := 0 } : Room)
def b_X5_firstPiece_43 (K : Int32 → St → Prop) (a1 : Int32) (rec_4 : St → Int32 → Int32 → Prop) (V : St) (l3 : Int32) : Prop := rec_4 V l3 (l3 + 1)
def h_X5_firstPiece_4 (K : Int32 → St → Prop) (a1 : Int32) (rec_4 : St → Int32 → Int32 → Prop) (V : St) (l2 : Int32) (l3 : Int32) : Prop := vp_in a1 6 ∧ if (V 73 a1.toNatClampNeg) ≤ l3 then (K l2 V) else (if l2 < 0 then (b_X5_firstPiece_43 K a1 rec_4 V l3) else (vp_in (((16 : Int32) * a1) + l3) 96 ∧ vp_in (((16 : Int32) * a1) + l2) 96 ∧ if (V 74 (((16 : Int32) * a1) + l2).toNatClampNeg) ≤ (V 74 (((16 : Int32) * a1) + l3).toNatClampNeg) then (rec_4 V l2 (l3 + 1)) else (b_X5_firstPiece_43 K a1 rec_4 V l3)))
def wp_X5_firstPiece (V : St) (K : Int32 → St → Prop) (a1 : Int32) : Prop := ∃ n, lp (fun _ _ _ => False) (h_X5_firstPiece_4 K a1) n V (-1 : Int32) (0 : Int32)
set_option maxRecDepth 100000 in
set_option maxHeartbeats 4000000 in
theorem c_X5_firstPiece {l : Launch} {D : va_G} {ad : Nat → Nat} {cy : Nat → ClassId} (hi : inj ad) {V : St} {K : Int32 → St → Prop} {a1 : Int32} : wp_X5_firstPiece V K a1 → Hi l D ad cy yX5_firstPiece (Cond.code yX5_firstPiece cX5_firstPiece 4 (some .int) :: WA) rm_X5_firstPiece [.ref (ad 60), .int a1] V K := by
  refine H_i (w := wp_X5_firstPiece V K a1) (by decide) (Nat.le_of_ble_eq_true rfl) (List.forall_mem_cons.mpr ⟨rfl, (List.forall_mem_cons.mpr ⟨rfl, (fun _ h => absurd h List.not_mem_nil)⟩)⟩) hi ?_
  intro p e s m args below meth c A hC hrt hlk
  have J_43 : ∀ (rec_4 : St → Int32 → Int32 → Prop) (ih_4 : ∀ (V : St) (l2 : Int32) (l3 : Int32), G p l e rm_X5_firstPiece s m args below meth c 0 0 (MQ below (va_Qi K (Bq D ad cy) A) args s 0 0 A) 4 D ad cy A (rec_4 V l2 l3) V 4 [some (.ref (ad 60)), some (.int a1), some (.int l2), some (.int l3)] []), ∀ (V : St) (l3 : Int32), G p l e rm_X5_firstPiece s m args below meth c 0 0 (MQ below (va_Qi K (Bq D ad cy) A) args s 0 0 A) 4 D ad cy A (b_X5_firstPiece_43 K a1 rec_4 V l3) V 43 [some (.ref (ad 60)), some (.int a1), none, some (.int l3)] [] := by
    intro rec_4 ih_4 V l3 
    refine g_iload_n (pc := 43) hC dX5_firstPiece_43 rfl ?_
    refine g_goto (pc := 44) (tgt := 48) hC dX5_firstPiece_44 (by decide) ?_
    refine g_istore_n (pc := 48) (L2 := [some (.ref (ad 60)), some (.int a1), some (.int l3), some (.int l3)]) hC dX5_firstPiece_48 (by decide) rfl ?_
    refine g_iinc (pc := 49) (L2 := [some (.ref (ad 60)), some (.int a1), some (.int l3), some (.int (l3 + 1))]) hC (l3 + 1) dX5_firstPiece_49 rfl rfl (by decide) rfl ?_
    refine g_goto (pc := 52) (tgt := 4) hC dX5_firstPiece_52 (by decide) ?_
    exact ih_4 V l3 (l3 + 1)
  have J_4 : ∀ (n : Nat), ∀ (V : St) (l2 : Int32) (l3 : Int32), G p l e rm_X5_firstPiece s m args below meth c 0 0 (MQ below (va_Qi K (Bq D ad cy) A) args s 0 0 A) 4 D ad cy A (lp (fun _ _ _ => False) (h_X5_firstPiece_4 K a1) n V l2 l3) V 4 [some (.ref (ad 60)), some (.int a1), some (.int l2), some (.int l3)] [] := by
    intro n
    induction n with
    | zero => exact fun _ _ _ h => False.elim h
    | succ n IH =>
      generalize hrec : lp (fun _ _ _ => False) (h_X5_firstPiece_4 K a1) n = rec_4 at IH
      have ih_4 := IH
      intro V l2 l3 
      show G p l e rm_X5_firstPiece s m args below meth c 0 0 (MQ below (va_Qi K (Bq D ad cy) A) args s 0 0 A) 4 D ad cy A (h_X5_firstPiece_4 K a1 (lp (fun _ _ _ => False) (h_X5_firstPiece_4 K a1) n) V l2 l3) V 4 [some (.ref (ad 60)), some (.int a1), some (.int l2), some (.int l3)] []
      rw [hrec]
      refine g_iload_n (pc := 4) hC dX5_firstPiece_4 rfl ?_
      refine g_aload_n (pc := 5) hC dX5_firstPiece_5 rfl ?_
      refine g_getR (pc := 6) hC fl_X5_47 (by decide) rfl rfl dX5_firstPiece_6 ?_
      refine g_iload_n (pc := 9) hC dX5_firstPiece_9 rfl ?_
      refine g_iald (pc := 10) hC (by decide) rfl dX5_firstPiece_10 ?_
      refine g_icmp_ge (pc := 11) (tgt := 55) hC dX5_firstPiece_11 (by decide) ?_ ?_
      · refine g_iload_n (pc := 55) hC dX5_firstPiece_55 rfl ?_
        exact g_iret (pc := 56) hC hrt hlk dX5_firstPiece_56
      · refine g_iload_n (pc := 14) hC dX5_firstPiece_14 rfl ?_
        refine g_if_lt (pc := 15) (tgt := 43) hC dX5_firstPiece_15 (by decide) ?_ ?_
        · exact g_ms [true, true, false, true] (J_43 rec_4 ih_4 V l3)
        · refine g_aload_n (pc := 18) hC dX5_firstPiece_18 rfl ?_
          refine g_getR (pc := 19) hC fl_X5_50 (by decide) rfl rfl dX5_firstPiece_19 ?_
          refine g_bipush (pc := 22) hC (16 : Int32) dX5_firstPiece_22 (by decide) ?_
          refine g_iload_n (pc := 24) hC dX5_firstPiece_24 rfl ?_
          refine g_imul (pc := 25) hC dX5_firstPiece_25 ?_
          refine g_iload_n (pc := 26) hC dX5_firstPiece_26 rfl ?_
          refine g_iadd (pc := 27) hC dX5_firstPiece_27 ?_
          refine g_iald (pc := 28) hC (by decide) rfl dX5_firstPiece_28 ?_
          refine g_aload_n (pc := 29) hC dX5_firstPiece_29 rfl ?_
          refine g_getR (pc := 30) hC fl_X5_50 (by decide) rfl rfl dX5_firstPiece_30 ?_
          refine g_bipush (pc := 33) hC (16 : Int32) dX5_firstPiece_33 (by decide) ?_
          refine g_iload_n (pc := 35) hC dX5_firstPiece_35 rfl ?_
          refine g_imul (pc := 36) hC dX5_firstPiece_36 ?_
          refine g_iload_n (pc := 37) hC dX5_firstPiece_37 rfl ?_
          refine g_iadd (pc := 38) hC dX5_firstPiece_38 ?_
          refine g_iald (pc := 39) hC (by decide) rfl dX5_firstPiece_39 ?_
          refine g_icmp_ge (pc := 40) (tgt := 47) hC dX5_firstPiece_40 (by decide) ?_ ?_
          · refine g_iload_n (pc := 47) hC dX5_firstPiece_47 rfl ?_
            refine g_istore_n (pc := 48) (L2 := [some (.ref (ad 60)), some (.int a1), some (.int l2), some (.int l3)]) hC dX5_firstPiece_48 (by decide) rfl ?_
            refine g_iinc (pc := 49) (L2 := [some (.ref (ad 60)), some (.int a1), some (.int l2), some (.int (l3 + 1))]) hC (l3 + 1) dX5_firstPiece_49 rfl rfl (by decide) rfl ?_
            refine g_goto (pc := 52) (tgt := 4) hC dX5_firstPiece_52 (by decide) ?_
            exact ih_4 V l2 (l3 + 1)
          · exact g_ms [true, true, false, true] (J_43 rec_4 ih_4 V l3)
  show G p l e rm_X5_firstPiece s m args below meth c 0 0 (MQ below (va_Qi K (Bq D ad cy) A) args s 0 0 A) 4 D ad cy A (wp_X5_firstPiece V K a1) V 0 [some (.ref (ad 60)), some (.int a1), none, none] []
  refine g_iconst (pc := 0) hC (-1 : Int32) dX5_firstPiece_0 (by decide) ?_
  refine g_istore_n (pc := 1) (L2 := [some (.ref (ad 60)), some (.int a1), some (.int (-1 : Int32)), none]) hC dX5_firstPiece_1 (by decide) rfl ?_
  refine g_iconst (pc := 2) hC (0 : Int32) dX5_firstPiece_2 (by decide) ?_
  refine g_istore_n (pc := 3) (L2 := [some (.ref (ad 60)), some (.int a1), some (.int (-1 : Int32)), some (.int (0 : Int32))]) hC dX5_firstPiece_3 (by decide) rfl ?_
  exact g_ex (fun n => J_4  n V (-1 : Int32) (0 : Int32))
def rm_X5_ceil : Room := ({ frames := 0, cells := 0, slots := 0, locals := 0 } : Room)
def wp_X5_ceil (V : St) (K : Int32 → St → Prop) (a1 : Int32) (a2 : Int32) : Prop := ¬ a2 = 0 ∧ if (a1 - a1 / a2 * a2) = 0 then (¬ a2 = 0 ∧ K (a1 / a2) V) else (¬ a2 = 0 ∧ K ((a1 / a2) + (1 : Int32)) V)
set_option maxRecDepth 100000 in
set_option maxHeartbeats 4000000 in
theorem c_X5_ceil {l : Launch} {D : va_G} {ad : Nat → Nat} {cy : Nat → ClassId} (hi : inj ad) {V : St} {K : Int32 → St → Prop} {a1 : Int32} {a2 : Int32} : wp_X5_ceil V K a1 a2 → Hi l D ad cy yX5_ceil (Cond.code yX5_ceil cX5_ceil 2 (some .int) :: WA) rm_X5_ceil [.int a1, .int a2] V K := by
  refine H_i (w := wp_X5_ceil V K a1 a2) (by decide) (Nat.le_of_ble_eq_true rfl) (List.forall_mem_cons.mpr ⟨rfl, (List.forall_mem_cons.mpr ⟨rfl, (fun _ h => absurd h List.not_mem_nil)⟩)⟩) hi ?_
  intro p e s m args below meth c A hC hrt hlk
  show G p l e rm_X5_ceil s m args below meth c 0 0 (MQ below (va_Qi K (Bq D ad cy) A) args s 0 0 A) 2 D ad cy A (wp_X5_ceil V K a1 a2) V 0 [some (.int a1), some (.int a2)] []
  refine g_iload_n (pc := 0) hC dX5_ceil_0 rfl ?_
  refine g_iload_n (pc := 1) hC dX5_ceil_1 rfl ?_
  refine g_irem (pc := 2) hC dX5_ceil_2 ?_
  refine g_if_ne (pc := 3) (tgt := 12) hC dX5_ceil_3 (by decide) ?_ ?_
  · refine g_iload_n (pc := 12) hC dX5_ceil_12 rfl ?_
    refine g_iload_n (pc := 13) hC dX5_ceil_13 rfl ?_
    refine g_idiv (pc := 14) hC dX5_ceil_14 ?_
    refine g_iconst (pc := 15) hC (1 : Int32) dX5_ceil_15 (by decide) ?_
    refine g_iadd (pc := 16) hC dX5_ceil_16 ?_
    exact g_iret (pc := 17) hC hrt hlk dX5_ceil_17
  · refine g_iload_n (pc := 6) hC dX5_ceil_6 rfl ?_
    refine g_iload_n (pc := 7) hC dX5_ceil_7 rfl ?_
    refine g_idiv (pc := 8) hC dX5_ceil_8 ?_
    refine g_goto (pc := 9) (tgt := 17) hC dX5_ceil_9 (by decide) ?_
    exact g_iret (pc := 17) hC hrt hlk dX5_ceil_17
def rm_X5_handlers : Room := ({ frames := 1, cells := 0, slots := 0, locals := 21 } : Room)
def wp_X5_handlers (V : St) (K : Int32 → St → Prop) (a1 : Int32) (a2 : Int32) : Prop := vp_in a1 6 ∧ if (V 61 a1.toNatClampNeg) = 0 then (K (0 : Int32) V) else (vp_in a1 6 ∧ wp_X5_ceil V (fun (r1 : Int32) (V2 : St) => vp_in a1 6 ∧ K ((r1 + (1 : Int32)) * (V2 65 a1.toNatClampNeg)) V2) a2 (V 66 a1.toNatClampNeg))
set_option maxRecDepth 100000 in
set_option maxHeartbeats 4000000 in
theorem c_X5_handlers {l : Launch} {D : va_G} {ad : Nat → Nat} {cy : Nat → ClassId} (hi : inj ad) {V : St} {K : Int32 → St → Prop} {a1 : Int32} {a2 : Int32} : wp_X5_handlers V K a1 a2 → Hi l D ad cy yX5_handlers (Cond.code yX5_handlers cX5_handlers 3 (some .int) :: WA) rm_X5_handlers [.ref (ad 60), .int a1, .int a2] V K := by
  refine H_i (w := wp_X5_handlers V K a1 a2) (by decide) (Nat.le_of_ble_eq_true rfl) (List.forall_mem_cons.mpr ⟨rfl, (List.forall_mem_cons.mpr ⟨rfl, (List.forall_mem_cons.mpr ⟨rfl, (fun _ h => absurd h List.not_mem_nil)⟩)⟩)⟩) hi ?_
  intro p e s m args below meth c A hC hrt hlk
  show G p l e rm_X5_handlers s m args below meth c 0 0 (MQ below (va_Qi K (Bq D ad cy) A) args s 0 0 A) 3 D ad cy A (wp_X5_handlers V K a1 a2) V 0 [some (.ref (ad 60)), some (.int a1), some (.int a2)] []
  refine g_aload_n (pc := 0) hC dX5_handlers_0 rfl ?_
  refine g_getR (pc := 1) hC fl_X5_7 (by decide) rfl rfl dX5_handlers_1 ?_
  refine g_iload_n (pc := 4) hC dX5_handlers_4 rfl ?_
  refine g_zald (pc := 5) hC (by decide) rfl dX5_handlers_5 ?_
  refine g_if_eq (pc := 6) (tgt := 31) hC dX5_handlers_6 (by decide) ?_ ?_
  · refine g_iconst (pc := 31) hC (0 : Int32) dX5_handlers_31 (by decide) ?_
    exact g_iret (pc := 32) hC hrt hlk dX5_handlers_32
  · refine g_iload_n (pc := 9) hC dX5_handlers_9 rfl ?_
    refine g_aload_n (pc := 10) hC dX5_handlers_10 rfl ?_
    refine g_getR (pc := 11) hC fl_X5_26 (by decide) rfl rfl dX5_handlers_11 ?_
    refine g_iload_n (pc := 14) hC dX5_handlers_14 rfl ?_
    refine g_iald (pc := 15) hC (by decide) rfl dX5_handlers_15 ?_
    refine g_csi (pc := 16) hC (c_X5_ceil hC.2.2.2.1) mi_X5_ceil ww_725 ⟨rfl, rfl⟩ ⟨by decide, by decide⟩ rfl rfl (Nat.le_of_ble_eq_true rfl) ⟨Nat.le_of_ble_eq_true rfl, Nat.le_of_ble_eq_true rfl⟩ dX5_handlers_16 (fun r1 V2 => ?_)
    refine g_iconst (pc := 19) hC (1 : Int32) dX5_handlers_19 (by decide) ?_
    refine g_iadd (pc := 20) hC dX5_handlers_20 ?_
    refine g_aload_n (pc := 21) hC dX5_handlers_21 rfl ?_
    refine g_getR (pc := 22) hC fl_X5_23 (by decide) rfl rfl dX5_handlers_22 ?_
    refine g_iload_n (pc := 25) hC dX5_handlers_25 rfl ?_
    refine g_iald (pc := 26) hC (by decide) rfl dX5_handlers_26 ?_
    refine g_imul (pc := 27) hC dX5_handlers_27 ?_
    refine g_goto (pc := 28) (tgt := 32) hC dX5_handlers_28 (by decide) ?_
    exact g_iret (pc := 32) hC hrt hlk dX5_handlers_32
def rm_X5_topHalves : Room := ({ frames := 1, cells := 0, slots := 0, locals := 21 } : Room)
def wp_X5_topHalves (V : St) (K : Int32 → St → Prop) (a1 : Int32) (a2 : Int32) : Prop := vp_in a1 6 ∧ if (V 61 a1.toNatClampNeg) = 0 then (K (0 : Int32) V) else (vp_in a1 6 ∧ wp_X5_ceil V (fun (r1 : Int32) (V2 : St) => vp_in a1 6 ∧ K ((r1 + (1 : Int32)) * (V2 62 a1.toNatClampNeg)) V2) a2 (V 64 a1.toNatClampNeg))
set_option maxRecDepth 100000 in
set_option maxHeartbeats 4000000 in
theorem c_X5_topHalves {l : Launch} {D : va_G} {ad : Nat → Nat} {cy : Nat → ClassId} (hi : inj ad) {V : St} {K : Int32 → St → Prop} {a1 : Int32} {a2 : Int32} : wp_X5_topHalves V K a1 a2 → Hi l D ad cy yX5_topHalves (Cond.code yX5_topHalves cX5_topHalves 3 (some .int) :: WA) rm_X5_topHalves [.ref (ad 60), .int a1, .int a2] V K := by
  refine H_i (w := wp_X5_topHalves V K a1 a2) (by decide) (Nat.le_of_ble_eq_true rfl) (List.forall_mem_cons.mpr ⟨rfl, (List.forall_mem_cons.mpr ⟨rfl, (List.forall_mem_cons.mpr ⟨rfl, (fun _ h => absurd h List.not_mem_nil)⟩)⟩)⟩) hi ?_
  intro p e s m args below meth c A hC hrt hlk
  show G p l e rm_X5_topHalves s m args below meth c 0 0 (MQ below (va_Qi K (Bq D ad cy) A) args s 0 0 A) 3 D ad cy A (wp_X5_topHalves V K a1 a2) V 0 [some (.ref (ad 60)), some (.int a1), some (.int a2)] []
  refine g_aload_n (pc := 0) hC dX5_topHalves_0 rfl ?_
  refine g_getR (pc := 1) hC fl_X5_7 (by decide) rfl rfl dX5_topHalves_1 ?_
  refine g_iload_n (pc := 4) hC dX5_topHalves_4 rfl ?_
  refine g_zald (pc := 5) hC (by decide) rfl dX5_topHalves_5 ?_
  refine g_if_eq (pc := 6) (tgt := 31) hC dX5_topHalves_6 (by decide) ?_ ?_
  · refine g_iconst (pc := 31) hC (0 : Int32) dX5_topHalves_31 (by decide) ?_
    exact g_iret (pc := 32) hC hrt hlk dX5_topHalves_32
  · refine g_iload_n (pc := 9) hC dX5_topHalves_9 rfl ?_
    refine g_aload_n (pc := 10) hC dX5_topHalves_10 rfl ?_
    refine g_getR (pc := 11) hC fl_X5_20 (by decide) rfl rfl dX5_topHalves_11 ?_
    refine g_iload_n (pc := 14) hC dX5_topHalves_14 rfl ?_
    refine g_iald (pc := 15) hC (by decide) rfl dX5_topHalves_15 ?_
    refine g_csi (pc := 16) hC (c_X5_ceil hC.2.2.2.1) mi_X5_ceil ww_725 ⟨rfl, rfl⟩ ⟨by decide, by decide⟩ rfl rfl (Nat.le_of_ble_eq_true rfl) ⟨Nat.le_of_ble_eq_true rfl, Nat.le_of_ble_eq_true rfl⟩ dX5_topHalves_16 (fun r1 V2 => ?_)
    refine g_iconst (pc := 19) hC (1 : Int32) dX5_topHalves_19 (by decide) ?_
    refine g_iadd (pc := 20) hC dX5_topHalves_20 ?_
    refine g_aload_n (pc := 21) hC dX5_topHalves_21 rfl ?_
    refine g_getR (pc := 22) hC fl_X5_13 (by decide) rfl rfl dX5_topHalves_22 ?_
    refine g_iload_n (pc := 25) hC dX5_topHalves_25 rfl ?_
    refine g_iald (pc := 26) hC (by decide) rfl dX5_topHalves_26 ?_
    refine g_imul (pc := 27) hC dX5_topHalves_27 ?_
    refine g_goto (pc := 28) (tgt := 32) hC dX5_topHalves_28 (by decide) ?_
    exact g_iret (pc := 32) hC hrt hlk dX5_topHalves_32
def rm_X5_sourcesIn : Room := ({ frames := 2, cells := 0, slots := 0, locals := 43 } : Room)
def h_X5_sourcesIn_4 (K : Int32 → St → Prop) (a1 : Int32) (rec_4 : St → Int32 → Int32 → Prop) (V : St) (l2 : Int32) (l3 : Int32) : Prop := if (6 : Int32) ≤ l3 then (K l2 V) else (wp_X5_handlers V (fun (r1 : Int32) (V2 : St) => wp_X5_topHalves V2 (fun (r3 : Int32) (V4 : St) => ∀ x5 : Int32, x5 = ((l2 + r1) + r3) → rec_4 V4 x5 (l3 + 1)) l3 a1) l3 a1)
def wp_X5_sourcesIn (V : St) (K : Int32 → St → Prop) (a1 : Int32) : Prop := ∃ n, lp (fun _ _ _ => False) (h_X5_sourcesIn_4 K a1) n V (0 : Int32) (0 : Int32)
set_option maxRecDepth 100000 in
set_option maxHeartbeats 4000000 in
theorem c_X5_sourcesIn {l : Launch} {D : va_G} {ad : Nat → Nat} {cy : Nat → ClassId} (hi : inj ad) {V : St} {K : Int32 → St → Prop} {a1 : Int32} : wp_X5_sourcesIn V K a1 → Hi l D ad cy yX5_sourcesIn (Cond.code yX5_sourcesIn cX5_sourcesIn 4 (some .int) :: WA) rm_X5_sourcesIn [.ref (ad 60), .int a1] V K := by
  refine H_i (w := wp_X5_sourcesIn V K a1) (by decide) (Nat.le_of_ble_eq_true rfl) (List.forall_mem_cons.mpr ⟨rfl, (List.forall_mem_cons.mpr ⟨rfl, (fun _ h => absurd h List.not_mem_nil)⟩)⟩) hi ?_
  intro p e s m args below meth c A hC hrt hlk
  have J_4 : ∀ (n : Nat), ∀ (V : St) (l2 : Int32) (l3 : Int32), G p l e rm_X5_sourcesIn s m args below meth c 0 0 (MQ below (va_Qi K (Bq D ad cy) A) args s 0 0 A) 4 D ad cy A (lp (fun _ _ _ => False) (h_X5_sourcesIn_4 K a1) n V l2 l3) V 4 [some (.ref (ad 60)), some (.int a1), some (.int l2), some (.int l3)] [] := by
    intro n
    induction n with
    | zero => exact fun _ _ _ h => False.elim h
    | succ n IH =>
      generalize hrec : lp (fun _ _ _ => False) (h_X5_sourcesIn_4 K a1) n = rec_4 at IH
      have ih_4 := IH
      intro V l2 l3 
      show G p l e rm_X5_sourcesIn s m args below meth c 0 0 (MQ below (va_Qi K (Bq D ad cy) A) args s 0 0 A) 4 D ad cy A (h_X5_sourcesIn_4 K a1 (lp (fun _ _ _ => False) (h_X5_sourcesIn_4 K a1) n) V l2 l3) V 4 [some (.ref (ad 60)), some (.int a1), some (.int l2), some (.int l3)] []
      rw [hrec]
      refine g_iload_n (pc := 4) hC dX5_sourcesIn_4 rfl ?_
      refine g_bipush (pc := 5) hC (6 : Int32) dX5_sourcesIn_5 (by decide) ?_
      refine g_icmp_ge (pc := 7) (tgt := 32) hC dX5_sourcesIn_7 (by decide) ?_ ?_
      · refine g_iload_n (pc := 32) hC dX5_sourcesIn_32 rfl ?_
        exact g_iret (pc := 33) hC hrt hlk dX5_sourcesIn_33
      · refine g_iload_n (pc := 10) hC dX5_sourcesIn_10 rfl ?_
        refine g_aload_n (pc := 11) hC dX5_sourcesIn_11 rfl ?_
        refine g_iload_n (pc := 12) hC dX5_sourcesIn_12 rfl ?_
        refine g_iload_n (pc := 13) hC dX5_sourcesIn_13 rfl ?_
        refine g_cvi (pc := 14) hC (c_X5_handlers hC.2.2.2.1) mi_X5_handlers ww_721 ⟨rfl, rfl⟩ ⟨by decide, by decide⟩ (by decide) rfl rfl rfl rfl (Nat.le_of_ble_eq_true rfl) ⟨Nat.le_of_ble_eq_true rfl, Nat.le_of_ble_eq_true rfl⟩ dX5_sourcesIn_14 (fun r1 V2 => ?_)
        refine g_iadd (pc := 17) hC dX5_sourcesIn_17 ?_
        refine g_aload_n (pc := 18) hC dX5_sourcesIn_18 rfl ?_
        refine g_iload_n (pc := 19) hC dX5_sourcesIn_19 rfl ?_
        refine g_iload_n (pc := 20) hC dX5_sourcesIn_20 rfl ?_
        refine g_cvi (pc := 21) hC (c_X5_topHalves hC.2.2.2.1) mi_X5_topHalves ww_728 ⟨rfl, rfl⟩ ⟨by decide, by decide⟩ (by decide) rfl rfl rfl rfl (Nat.le_of_ble_eq_true rfl) ⟨Nat.le_of_ble_eq_true rfl, Nat.le_of_ble_eq_true rfl⟩ dX5_sourcesIn_21 (fun r3 V4 => ?_)
        refine g_iadd (pc := 24) hC dX5_sourcesIn_24 ?_
        refine g_nm (fun x5 => ?_)
        refine g_istore_n (pc := 25) (L2 := [some (.ref (ad 60)), some (.int a1), some (.int x5), some (.int l3)]) hC dX5_sourcesIn_25 (by decide) rfl ?_
        refine g_iinc (pc := 26) (L2 := [some (.ref (ad 60)), some (.int a1), some (.int x5), some (.int (l3 + 1))]) hC (l3 + 1) dX5_sourcesIn_26 rfl rfl (by decide) rfl ?_
        refine g_goto (pc := 29) (tgt := 4) hC dX5_sourcesIn_29 (by decide) ?_
        exact ih_4 V4 x5 (l3 + 1)
  show G p l e rm_X5_sourcesIn s m args below meth c 0 0 (MQ below (va_Qi K (Bq D ad cy) A) args s 0 0 A) 4 D ad cy A (wp_X5_sourcesIn V K a1) V 0 [some (.ref (ad 60)), some (.int a1), none, none] []
  refine g_iconst (pc := 0) hC (0 : Int32) dX5_sourcesIn_0 (by decide) ?_
  refine g_istore_n (pc := 1) (L2 := [some (.ref (ad 60)), some (.int a1), some (.int (0 : Int32)), none]) hC dX5_sourcesIn_1 (by decide) rfl ?_
  refine g_iconst (pc := 2) hC (0 : Int32) dX5_sourcesIn_2 (by decide) ?_
  refine g_istore_n (pc := 3) (L2 := [some (.ref (ad 60)), some (.int a1), some (.int (0 : Int32)), some (.int (0 : Int32))]) hC dX5_sourcesIn_3 (by decide) rfl ?_
  exact g_ex (fun n => J_4  n V (0 : Int32) (0 : Int32))
def rm_X5_taskNeeds : Room := ({ frames := 3, cells := 0, slots := 0, locals := 66 } : Room)
def h_X5_taskNeeds_16 (K : Int32 → St → Prop) (a1 : Int32) (a2 : Int32) (rec_16 : St → Int32 → Int32 → Prop) (V : St) (l3 : Int32) (l4 : Int32) : Prop := if (6 : Int32) ≤ l4 then (K l3 V) else (vp_in l4 6 ∧ if (V 82 l4.toNatClampNeg) = 0 then (rec_16 V l3 (l4 + 1)) else (vp_in l4 6 ∧ vp_in a1 6 ∧ if (V 85 l4.toNatClampNeg) ≤ (V 85 a1.toNatClampNeg) then (rec_16 V l3 (l4 + 1)) else (vp_in l4 6 ∧ wp_X5_ceil V (fun (r1 : Int32) (V2 : St) => vp_in l4 6 ∧ ∀ x3 : Int32, x3 = (l3 + (r1 * (V2 84 l4.toNatClampNeg))) → rec_16 V2 x3 (l4 + 1)) a2 (V 83 l4.toNatClampNeg))))
def wp_X5_taskNeeds (V : St) (K : Int32 → St → Prop) (a1 : Int32) (a2 : Int32) : Prop := vp_in a1 6 ∧ wp_X5_sourcesIn V (fun (r1 : Int32) (V2 : St) => ∀ x3 : Int32, x3 = ((V 84 a1.toNatClampNeg) + r1) → ∃ n, lp (fun _ _ _ => False) (h_X5_taskNeeds_16 K a1 a2) n V2 x3 (0 : Int32)) a2
set_option maxRecDepth 100000 in
set_option maxHeartbeats 4000000 in
theorem c_X5_taskNeeds {l : Launch} {D : va_G} {ad : Nat → Nat} {cy : Nat → ClassId} (hi : inj ad) {V : St} {K : Int32 → St → Prop} {a1 : Int32} {a2 : Int32} : wp_X5_taskNeeds V K a1 a2 → Hi l D ad cy yX5_taskNeeds (Cond.code yX5_taskNeeds cX5_taskNeeds 5 (some .int) :: WA) rm_X5_taskNeeds [.ref (ad 60), .int a1, .int a2] V K := by
  refine H_i (w := wp_X5_taskNeeds V K a1 a2) (by decide) (Nat.le_of_ble_eq_true rfl) (List.forall_mem_cons.mpr ⟨rfl, (List.forall_mem_cons.mpr ⟨rfl, (List.forall_mem_cons.mpr ⟨rfl, (fun _ h => absurd h List.not_mem_nil)⟩)⟩)⟩) hi ?_
  intro p e s m args below meth c A hC hrt hlk
  have J_16 : ∀ (n : Nat), ∀ (V : St) (l3 : Int32) (l4 : Int32), G p l e rm_X5_taskNeeds s m args below meth c 0 0 (MQ below (va_Qi K (Bq D ad cy) A) args s 0 0 A) 5 D ad cy A (lp (fun _ _ _ => False) (h_X5_taskNeeds_16 K a1 a2) n V l3 l4) V 16 [some (.ref (ad 60)), some (.int a1), some (.int a2), some (.int l3), some (.int l4)] [] := by
    intro n
    induction n with
    | zero => exact fun _ _ _ h => False.elim h
    | succ n IH =>
      generalize hrec : lp (fun _ _ _ => False) (h_X5_taskNeeds_16 K a1 a2) n = rec_16 at IH
      have ih_16 := IH
      intro V l3 l4 
      show G p l e rm_X5_taskNeeds s m args below meth c 0 0 (MQ below (va_Qi K (Bq D ad cy) A) args s 0 0 A) 5 D ad cy A (h_X5_taskNeeds_16 K a1 a2 (lp (fun _ _ _ => False) (h_X5_taskNeeds_16 K a1 a2) n) V l3 l4) V 16 [some (.ref (ad 60)), some (.int a1), some (.int a2), some (.int l3), some (.int l4)] []
      rw [hrec]
      refine g_iload (pc := 16) hC dX5_taskNeeds_16 rfl ?_
      refine g_bipush (pc := 18) hC (6 : Int32) dX5_taskNeeds_18 (by decide) ?_
      refine g_icmp_ge (pc := 20) (tgt := 81) hC dX5_taskNeeds_20 (by decide) ?_ ?_
      · refine g_iload_n (pc := 81) hC dX5_taskNeeds_81 rfl ?_
        exact g_iret (pc := 82) hC hrt hlk dX5_taskNeeds_82
      · refine g_aload_n (pc := 23) hC dX5_taskNeeds_23 rfl ?_
        refine g_getR (pc := 24) hC fl_X5_74 (by decide) rfl rfl dX5_taskNeeds_24 ?_
        refine g_iload (pc := 27) hC dX5_taskNeeds_27 rfl ?_
        refine g_zald (pc := 29) hC (by decide) rfl dX5_taskNeeds_29 ?_
        refine g_if_eq (pc := 30) (tgt := 73) hC dX5_taskNeeds_30 (by decide) ?_ ?_
        · refine g_iload_n (pc := 73) hC dX5_taskNeeds_73 rfl ?_
          refine g_istore_n (pc := 74) (L2 := [some (.ref (ad 60)), some (.int a1), some (.int a2), some (.int l3), some (.int l4)]) hC dX5_taskNeeds_74 (by decide) rfl ?_
          refine g_iinc (pc := 75) (L2 := [some (.ref (ad 60)), some (.int a1), some (.int a2), some (.int l3), some (.int (l4 + 1))]) hC (l4 + 1) dX5_taskNeeds_75 rfl rfl (by decide) rfl ?_
          refine g_goto (pc := 78) (tgt := 16) hC dX5_taskNeeds_78 (by decide) ?_
          exact ih_16 V l3 (l4 + 1)
        · refine g_aload_n (pc := 33) hC dX5_taskNeeds_33 rfl ?_
          refine g_getR (pc := 34) hC fl_X5_83 (by decide) rfl rfl dX5_taskNeeds_34 ?_
          refine g_iload (pc := 37) hC dX5_taskNeeds_37 rfl ?_
          refine g_iald (pc := 39) hC (by decide) rfl dX5_taskNeeds_39 ?_
          refine g_aload_n (pc := 40) hC dX5_taskNeeds_40 rfl ?_
          refine g_getR (pc := 41) hC fl_X5_83 (by decide) rfl rfl dX5_taskNeeds_41 ?_
          refine g_iload_n (pc := 44) hC dX5_taskNeeds_44 rfl ?_
          refine g_iald (pc := 45) hC (by decide) rfl dX5_taskNeeds_45 ?_
          refine g_icmp_le (pc := 46) (tgt := 73) hC dX5_taskNeeds_46 (by decide) ?_ ?_
          · refine g_iload_n (pc := 73) hC dX5_taskNeeds_73 rfl ?_
            refine g_istore_n (pc := 74) (L2 := [some (.ref (ad 60)), some (.int a1), some (.int a2), some (.int l3), some (.int l4)]) hC dX5_taskNeeds_74 (by decide) rfl ?_
            refine g_iinc (pc := 75) (L2 := [some (.ref (ad 60)), some (.int a1), some (.int a2), some (.int l3), some (.int (l4 + 1))]) hC (l4 + 1) dX5_taskNeeds_75 rfl rfl (by decide) rfl ?_
            refine g_goto (pc := 78) (tgt := 16) hC dX5_taskNeeds_78 (by decide) ?_
            exact ih_16 V l3 (l4 + 1)
          · refine g_iload_n (pc := 49) hC dX5_taskNeeds_49 rfl ?_
            refine g_iload_n (pc := 50) hC dX5_taskNeeds_50 rfl ?_
            refine g_aload_n (pc := 51) hC dX5_taskNeeds_51 rfl ?_
            refine g_getR (pc := 52) hC fl_X5_77 (by decide) rfl rfl dX5_taskNeeds_52 ?_
            refine g_iload (pc := 55) hC dX5_taskNeeds_55 rfl ?_
            refine g_iald (pc := 57) hC (by decide) rfl dX5_taskNeeds_57 ?_
            refine g_csi (pc := 58) hC (c_X5_ceil hC.2.2.2.1) mi_X5_ceil ww_725 ⟨rfl, rfl⟩ ⟨by decide, by decide⟩ rfl rfl (Nat.le_of_ble_eq_true rfl) ⟨Nat.le_of_ble_eq_true rfl, Nat.le_of_ble_eq_true rfl⟩ dX5_taskNeeds_58 (fun r1 V2 => ?_)
            refine g_aload_n (pc := 61) hC dX5_taskNeeds_61 rfl ?_
            refine g_getR (pc := 62) hC fl_X5_80 (by decide) rfl rfl dX5_taskNeeds_62 ?_
            refine g_iload (pc := 65) hC dX5_taskNeeds_65 rfl ?_
            refine g_iald (pc := 67) hC (by decide) rfl dX5_taskNeeds_67 ?_
            refine g_imul (pc := 68) hC dX5_taskNeeds_68 ?_
            refine g_iadd (pc := 69) hC dX5_taskNeeds_69 ?_
            refine g_goto (pc := 70) (tgt := 74) hC dX5_taskNeeds_70 (by decide) ?_
            refine g_nm (fun x3 => ?_)
            refine g_istore_n (pc := 74) (L2 := [some (.ref (ad 60)), some (.int a1), some (.int a2), some (.int x3), some (.int l4)]) hC dX5_taskNeeds_74 (by decide) rfl ?_
            refine g_iinc (pc := 75) (L2 := [some (.ref (ad 60)), some (.int a1), some (.int a2), some (.int x3), some (.int (l4 + 1))]) hC (l4 + 1) dX5_taskNeeds_75 rfl rfl (by decide) rfl ?_
            refine g_goto (pc := 78) (tgt := 16) hC dX5_taskNeeds_78 (by decide) ?_
            exact ih_16 V2 x3 (l4 + 1)
  show G p l e rm_X5_taskNeeds s m args below meth c 0 0 (MQ below (va_Qi K (Bq D ad cy) A) args s 0 0 A) 5 D ad cy A (wp_X5_taskNeeds V K a1 a2) V 0 [some (.ref (ad 60)), some (.int a1), some (.int a2), none, none] []
  refine g_aload_n (pc := 0) hC dX5_taskNeeds_0 rfl ?_
  refine g_getR (pc := 1) hC fl_X5_80 (by decide) rfl rfl dX5_taskNeeds_1 ?_
  refine g_iload_n (pc := 4) hC dX5_taskNeeds_4 rfl ?_
  refine g_iald (pc := 5) hC (by decide) rfl dX5_taskNeeds_5 ?_
  refine g_aload_n (pc := 6) hC dX5_taskNeeds_6 rfl ?_
  refine g_iload_n (pc := 7) hC dX5_taskNeeds_7 rfl ?_
  refine g_cvi (pc := 8) hC (c_X5_sourcesIn hC.2.2.2.1) mi_X5_sourcesIn ww_717 ⟨rfl, rfl⟩ ⟨by decide, by decide⟩ (by decide) rfl rfl rfl rfl (Nat.le_of_ble_eq_true rfl) ⟨Nat.le_of_ble_eq_true rfl, Nat.le_of_ble_eq_true rfl⟩ dX5_taskNeeds_8 (fun r1 V2 => ?_)
  refine g_iadd (pc := 11) hC dX5_taskNeeds_11 ?_
  refine g_nm (fun x3 => ?_)
  refine g_istore_n (pc := 12) (L2 := [some (.ref (ad 60)), some (.int a1), some (.int a2), some (.int x3), none]) hC dX5_taskNeeds_12 (by decide) rfl ?_
  refine g_iconst (pc := 13) hC (0 : Int32) dX5_taskNeeds_13 (by decide) ?_
  refine g_istore (pc := 14) (L2 := [some (.ref (ad 60)), some (.int a1), some (.int a2), some (.int x3), some (.int (0 : Int32))]) hC dX5_taskNeeds_14 (by decide) rfl ?_
  exact g_ex (fun n => J_16  n V2 x3 (0 : Int32))
def rm_X5_sourceNeeds : Room := ({ frames := 2, cells := 0, slots := 0, locals := 43 } : Room)
def h_X5_sourceNeeds_10 (K : Int32 → St → Prop) (a1 : Int32) (a2 : Int32) (rec_10 : St → Int32 → Int32 → Prop) (V : St) (l3 : Int32) (l4 : Int32) : Prop := if (6 : Int32) ≤ l4 then (K l3 V) else (wp_X5_topHalves V (fun (r1 : Int32) (V2 : St) => ∀ x3 : Int32, x3 = (l3 + r1) → vp_in l4 6 ∧ if (V2 61 l4.toNatClampNeg) = 0 then (rec_10 V2 x3 (l4 + 1)) else (vp_in l4 6 ∧ vp_in a1 6 ∧ if (V2 67 l4.toNatClampNeg) ≤ (V2 67 a1.toNatClampNeg) then (rec_10 V2 x3 (l4 + 1)) else (wp_X5_handlers V2 (fun (r4 : Int32) (V5 : St) => ∀ x6 : Int32, x6 = (x3 + r4) → rec_10 V5 x6 (l4 + 1)) l4 a2))) l4 a2)
def wp_X5_sourceNeeds (V : St) (K : Int32 → St → Prop) (a1 : Int32) (a2 : Int32) : Prop := vp_in a1 6 ∧ ∀ x1 : Int32, x1 = (V 63 a1.toNatClampNeg) → ∃ n, lp (fun _ _ _ => False) (h_X5_sourceNeeds_10 K a1 a2) n V x1 (0 : Int32)
set_option maxRecDepth 100000 in
set_option maxHeartbeats 4000000 in
theorem c_X5_sourceNeeds {l : Launch} {D : va_G} {ad : Nat → Nat} {cy : Nat → ClassId} (hi : inj ad) {V : St} {K : Int32 → St → Prop} {a1 : Int32} {a2 : Int32} : wp_X5_sourceNeeds V K a1 a2 → Hi l D ad cy yX5_sourceNeeds (Cond.code yX5_sourceNeeds cX5_sourceNeeds 5 (some .int) :: WA) rm_X5_sourceNeeds [.ref (ad 60), .int a1, .int a2] V K := by
  refine H_i (w := wp_X5_sourceNeeds V K a1 a2) (by decide) (Nat.le_of_ble_eq_true rfl) (List.forall_mem_cons.mpr ⟨rfl, (List.forall_mem_cons.mpr ⟨rfl, (List.forall_mem_cons.mpr ⟨rfl, (fun _ h => absurd h List.not_mem_nil)⟩)⟩)⟩) hi ?_
  intro p e s m args below meth c A hC hrt hlk
  have J_10 : ∀ (n : Nat), ∀ (V : St) (l3 : Int32) (l4 : Int32), G p l e rm_X5_sourceNeeds s m args below meth c 0 0 (MQ below (va_Qi K (Bq D ad cy) A) args s 0 0 A) 5 D ad cy A (lp (fun _ _ _ => False) (h_X5_sourceNeeds_10 K a1 a2) n V l3 l4) V 10 [some (.ref (ad 60)), some (.int a1), some (.int a2), some (.int l3), some (.int l4)] [] := by
    intro n
    induction n with
    | zero => exact fun _ _ _ h => False.elim h
    | succ n IH =>
      generalize hrec : lp (fun _ _ _ => False) (h_X5_sourceNeeds_10 K a1 a2) n = rec_10 at IH
      have ih_10 := IH
      intro V l3 l4 
      show G p l e rm_X5_sourceNeeds s m args below meth c 0 0 (MQ below (va_Qi K (Bq D ad cy) A) args s 0 0 A) 5 D ad cy A (h_X5_sourceNeeds_10 K a1 a2 (lp (fun _ _ _ => False) (h_X5_sourceNeeds_10 K a1 a2) n) V l3 l4) V 10 [some (.ref (ad 60)), some (.int a1), some (.int a2), some (.int l3), some (.int l4)] []
      rw [hrec]
      refine g_iload (pc := 10) hC dX5_sourceNeeds_10 rfl ?_
      refine g_bipush (pc := 12) hC (6 : Int32) dX5_sourceNeeds_12 (by decide) ?_
      refine g_icmp_ge (pc := 14) (tgt := 73) hC dX5_sourceNeeds_14 (by decide) ?_ ?_
      · refine g_iload_n (pc := 73) hC dX5_sourceNeeds_73 rfl ?_
        exact g_iret (pc := 74) hC hrt hlk dX5_sourceNeeds_74
      · refine g_iload_n (pc := 17) hC dX5_sourceNeeds_17 rfl ?_
        refine g_aload_n (pc := 18) hC dX5_sourceNeeds_18 rfl ?_
        refine g_iload (pc := 19) hC dX5_sourceNeeds_19 rfl ?_
        refine g_iload_n (pc := 21) hC dX5_sourceNeeds_21 rfl ?_
        refine g_cvi (pc := 22) hC (c_X5_topHalves hC.2.2.2.1) mi_X5_topHalves ww_728 ⟨rfl, rfl⟩ ⟨by decide, by decide⟩ (by decide) rfl rfl rfl rfl (Nat.le_of_ble_eq_true rfl) ⟨Nat.le_of_ble_eq_true rfl, Nat.le_of_ble_eq_true rfl⟩ dX5_sourceNeeds_22 (fun r1 V2 => ?_)
        refine g_iadd (pc := 25) hC dX5_sourceNeeds_25 ?_
        refine g_nm (fun x3 => ?_)
        refine g_istore_n (pc := 26) (L2 := [some (.ref (ad 60)), some (.int a1), some (.int a2), some (.int x3), some (.int l4)]) hC dX5_sourceNeeds_26 (by decide) rfl ?_
        refine g_aload_n (pc := 27) hC dX5_sourceNeeds_27 rfl ?_
        refine g_getR (pc := 28) hC fl_X5_7 (by decide) rfl rfl dX5_sourceNeeds_28 ?_
        refine g_iload (pc := 31) hC dX5_sourceNeeds_31 rfl ?_
        refine g_zald (pc := 33) hC (by decide) rfl dX5_sourceNeeds_33 ?_
        refine g_if_eq (pc := 34) (tgt := 65) hC dX5_sourceNeeds_34 (by decide) ?_ ?_
        · refine g_iload_n (pc := 65) hC dX5_sourceNeeds_65 rfl ?_
          refine g_istore_n (pc := 66) (L2 := [some (.ref (ad 60)), some (.int a1), some (.int a2), some (.int x3), some (.int l4)]) hC dX5_sourceNeeds_66 (by decide) rfl ?_
          refine g_iinc (pc := 67) (L2 := [some (.ref (ad 60)), some (.int a1), some (.int a2), some (.int x3), some (.int (l4 + 1))]) hC (l4 + 1) dX5_sourceNeeds_67 rfl rfl (by decide) rfl ?_
          refine g_goto (pc := 70) (tgt := 10) hC dX5_sourceNeeds_70 (by decide) ?_
          exact ih_10 V2 x3 (l4 + 1)
        · refine g_aload_n (pc := 37) hC dX5_sourceNeeds_37 rfl ?_
          refine g_getR (pc := 38) hC fl_X5_29 (by decide) rfl rfl dX5_sourceNeeds_38 ?_
          refine g_iload (pc := 41) hC dX5_sourceNeeds_41 rfl ?_
          refine g_iald (pc := 43) hC (by decide) rfl dX5_sourceNeeds_43 ?_
          refine g_aload_n (pc := 44) hC dX5_sourceNeeds_44 rfl ?_
          refine g_getR (pc := 45) hC fl_X5_29 (by decide) rfl rfl dX5_sourceNeeds_45 ?_
          refine g_iload_n (pc := 48) hC dX5_sourceNeeds_48 rfl ?_
          refine g_iald (pc := 49) hC (by decide) rfl dX5_sourceNeeds_49 ?_
          refine g_icmp_le (pc := 50) (tgt := 65) hC dX5_sourceNeeds_50 (by decide) ?_ ?_
          · refine g_iload_n (pc := 65) hC dX5_sourceNeeds_65 rfl ?_
            refine g_istore_n (pc := 66) (L2 := [some (.ref (ad 60)), some (.int a1), some (.int a2), some (.int x3), some (.int l4)]) hC dX5_sourceNeeds_66 (by decide) rfl ?_
            refine g_iinc (pc := 67) (L2 := [some (.ref (ad 60)), some (.int a1), some (.int a2), some (.int x3), some (.int (l4 + 1))]) hC (l4 + 1) dX5_sourceNeeds_67 rfl rfl (by decide) rfl ?_
            refine g_goto (pc := 70) (tgt := 10) hC dX5_sourceNeeds_70 (by decide) ?_
            exact ih_10 V2 x3 (l4 + 1)
          · refine g_iload_n (pc := 53) hC dX5_sourceNeeds_53 rfl ?_
            refine g_aload_n (pc := 54) hC dX5_sourceNeeds_54 rfl ?_
            refine g_iload (pc := 55) hC dX5_sourceNeeds_55 rfl ?_
            refine g_iload_n (pc := 57) hC dX5_sourceNeeds_57 rfl ?_
            refine g_cvi (pc := 58) hC (c_X5_handlers hC.2.2.2.1) mi_X5_handlers ww_721 ⟨rfl, rfl⟩ ⟨by decide, by decide⟩ (by decide) rfl rfl rfl rfl (Nat.le_of_ble_eq_true rfl) ⟨Nat.le_of_ble_eq_true rfl, Nat.le_of_ble_eq_true rfl⟩ dX5_sourceNeeds_58 (fun r4 V5 => ?_)
            refine g_iadd (pc := 61) hC dX5_sourceNeeds_61 ?_
            refine g_goto (pc := 62) (tgt := 66) hC dX5_sourceNeeds_62 (by decide) ?_
            refine g_nm (fun x6 => ?_)
            refine g_istore_n (pc := 66) (L2 := [some (.ref (ad 60)), some (.int a1), some (.int a2), some (.int x6), some (.int l4)]) hC dX5_sourceNeeds_66 (by decide) rfl ?_
            refine g_iinc (pc := 67) (L2 := [some (.ref (ad 60)), some (.int a1), some (.int a2), some (.int x6), some (.int (l4 + 1))]) hC (l4 + 1) dX5_sourceNeeds_67 rfl rfl (by decide) rfl ?_
            refine g_goto (pc := 70) (tgt := 10) hC dX5_sourceNeeds_70 (by decide) ?_
            exact ih_10 V5 x6 (l4 + 1)
  show G p l e rm_X5_sourceNeeds s m args below meth c 0 0 (MQ below (va_Qi K (Bq D ad cy) A) args s 0 0 A) 5 D ad cy A (wp_X5_sourceNeeds V K a1 a2) V 0 [some (.ref (ad 60)), some (.int a1), some (.int a2), none, none] []
  refine g_aload_n (pc := 0) hC dX5_sourceNeeds_0 rfl ?_
  refine g_getR (pc := 1) hC fl_X5_17 (by decide) rfl rfl dX5_sourceNeeds_1 ?_
  refine g_iload_n (pc := 4) hC dX5_sourceNeeds_4 rfl ?_
  refine g_iald (pc := 5) hC (by decide) rfl dX5_sourceNeeds_5 ?_
  refine g_nm (fun x1 => ?_)
  refine g_istore_n (pc := 6) (L2 := [some (.ref (ad 60)), some (.int a1), some (.int a2), some (.int x1), none]) hC dX5_sourceNeeds_6 (by decide) rfl ?_
  refine g_iconst (pc := 7) hC (0 : Int32) dX5_sourceNeeds_7 (by decide) ?_
  refine g_istore (pc := 8) (L2 := [some (.ref (ad 60)), some (.int a1), some (.int a2), some (.int x1), some (.int (0 : Int32))]) hC dX5_sourceNeeds_8 (by decide) rfl ?_
  exact g_ex (fun n => J_10  n V x1 (0 : Int32))
def rm_X5_taskBound : Room := ({ frames := 4, cells := 0, slots := 0, locals := 90 } : Room)
def h_X5_taskBound_2 (K : Int32 → St → Prop) (a1 : Int32) (rec_2 : St → Int32 → Prop) (V : St) (l2 : Int32) : Prop := vp_in a1 6 ∧ if (V 83 a1.toNatClampNeg) < l2 then (K (-1 : Int32) V) else (wp_X5_taskNeeds V (fun (r1 : Int32) (V2 : St) => if r1 = l2 then (K l2 V2) else (rec_2 V2 r1)) a1 l2)
def wp_X5_taskBound (V : St) (K : Int32 → St → Prop) (a1 : Int32) : Prop := ∃ n, lp (fun _ _ => False) (h_X5_taskBound_2 K a1) n V (1 : Int32)
set_option maxRecDepth 100000 in
set_option maxHeartbeats 4000000 in
theorem c_X5_taskBound {l : Launch} {D : va_G} {ad : Nat → Nat} {cy : Nat → ClassId} (hi : inj ad) {V : St} {K : Int32 → St → Prop} {a1 : Int32} : wp_X5_taskBound V K a1 → Hi l D ad cy yX5_taskBound (Cond.code yX5_taskBound cX5_taskBound 4 (some .int) :: WA) rm_X5_taskBound [.ref (ad 60), .int a1] V K := by
  refine H_i (w := wp_X5_taskBound V K a1) (by decide) (Nat.le_of_ble_eq_true rfl) (List.forall_mem_cons.mpr ⟨rfl, (List.forall_mem_cons.mpr ⟨rfl, (fun _ h => absurd h List.not_mem_nil)⟩)⟩) hi ?_
  intro p e s m args below meth c A hC hrt hlk
  have J_2 : ∀ (n : Nat), ∀ (V : St) (l2 : Int32), G p l e rm_X5_taskBound s m args below meth c 0 0 (MQ below (va_Qi K (Bq D ad cy) A) args s 0 0 A) 4 D ad cy A (lp (fun _ _ => False) (h_X5_taskBound_2 K a1) n V l2) V 2 [some (.ref (ad 60)), some (.int a1), some (.int l2), none] [] := by
    intro n
    induction n with
    | zero => exact fun _ _ h => False.elim h
    | succ n IH =>
      generalize hrec : lp (fun _ _ => False) (h_X5_taskBound_2 K a1) n = rec_2 at IH
      have ih_2 := IH
      intro V l2 
      show G p l e rm_X5_taskBound s m args below meth c 0 0 (MQ below (va_Qi K (Bq D ad cy) A) args s 0 0 A) 4 D ad cy A (h_X5_taskBound_2 K a1 (lp (fun _ _ => False) (h_X5_taskBound_2 K a1) n) V l2) V 2 [some (.ref (ad 60)), some (.int a1), some (.int l2), none] []
      rw [hrec]
      refine g_iload_n (pc := 2) hC dX5_taskBound_2 rfl ?_
      refine g_aload_n (pc := 3) hC dX5_taskBound_3 rfl ?_
      refine g_getR (pc := 4) hC fl_X5_77 (by decide) rfl rfl dX5_taskBound_4 ?_
      refine g_iload_n (pc := 7) hC dX5_taskBound_7 rfl ?_
      refine g_iald (pc := 8) hC (by decide) rfl dX5_taskBound_8 ?_
      refine g_icmp_gt (pc := 9) (tgt := 31) hC dX5_taskBound_9 (by decide) ?_ ?_
      · refine g_iconst (pc := 31) hC (-1 : Int32) dX5_taskBound_31 (by decide) ?_
        exact g_iret (pc := 32) hC hrt hlk dX5_taskBound_32
      · refine g_aload_n (pc := 12) hC dX5_taskBound_12 rfl ?_
        refine g_iload_n (pc := 13) hC dX5_taskBound_13 rfl ?_
        refine g_iload_n (pc := 14) hC dX5_taskBound_14 rfl ?_
        refine g_cvi (pc := 15) hC (c_X5_taskNeeds hC.2.2.2.1) mi_X5_taskNeeds ww_713 ⟨rfl, rfl⟩ ⟨by decide, by decide⟩ (by decide) rfl rfl rfl rfl (Nat.le_of_ble_eq_true rfl) ⟨Nat.le_of_ble_eq_true rfl, Nat.le_of_ble_eq_true rfl⟩ dX5_taskBound_15 (fun r1 V2 => ?_)
        refine g_istore_n (pc := 18) (L2 := [some (.ref (ad 60)), some (.int a1), some (.int l2), some (.int r1)]) hC dX5_taskBound_18 (by decide) rfl ?_
        refine g_iload_n (pc := 19) hC dX5_taskBound_19 rfl ?_
        refine g_iload_n (pc := 20) hC dX5_taskBound_20 rfl ?_
        refine g_icmp_ne (pc := 21) (tgt := 26) hC dX5_taskBound_21 (by decide) ?_ ?_
        · refine g_iload_n (pc := 26) hC dX5_taskBound_26 rfl ?_
          refine g_istore_n (pc := 27) (L2 := [some (.ref (ad 60)), some (.int a1), some (.int r1), some (.int r1)]) hC dX5_taskBound_27 (by decide) rfl ?_
          refine g_goto (pc := 28) (tgt := 2) hC dX5_taskBound_28 (by decide) ?_
          exact g_ms [true, true, true, false] (ih_2 V2 r1)
        · refine g_iload_n (pc := 24) hC dX5_taskBound_24 rfl ?_
          exact g_iret (pc := 25) hC hrt hlk dX5_taskBound_25
  show G p l e rm_X5_taskBound s m args below meth c 0 0 (MQ below (va_Qi K (Bq D ad cy) A) args s 0 0 A) 4 D ad cy A (wp_X5_taskBound V K a1) V 0 [some (.ref (ad 60)), some (.int a1), none, none] []
  refine g_iconst (pc := 0) hC (1 : Int32) dX5_taskBound_0 (by decide) ?_
  refine g_istore_n (pc := 1) (L2 := [some (.ref (ad 60)), some (.int a1), some (.int (1 : Int32)), none]) hC dX5_taskBound_1 (by decide) rfl ?_
  exact g_ex (fun n => J_2  n V (1 : Int32))
def rm_X5_sourceBound : Room := ({ frames := 3, cells := 0, slots := 0, locals := 67 } : Room)
def h_X5_sourceBound_43 (K : Int32 → St → Prop) (a1 : Int32) (rec_43 : St → Int32 → Prop) (V : St) (l2 : Int32) : Prop := vp_in a1 6 ∧ if (V 66 a1.toNatClampNeg) < l2 then (K (-1 : Int32) V) else (wp_X5_sourceNeeds V (fun (r1 : Int32) (V2 : St) => if r1 = l2 then (K l2 V2) else (rec_43 V2 r1)) a1 l2)
def b_X5_sourceBound_30 (K : Int32 → St → Prop) (a1 : Int32) (V : St) : Prop := vp_in a1 6 ∧ ∀ x1 : Int32, x1 = ((V 66 a1.toNatClampNeg) + (1 : Int32)) → ∃ n, lp (fun _ _ => False) (h_X5_sourceBound_43 K a1) n V x1
def wp_X5_sourceBound (V : St) (K : Int32 → St → Prop) (a1 : Int32) : Prop := vp_in a1 6 ∧ vp_in a1 6 ∧ if (V 65 a1.toNatClampNeg) < (V 63 a1.toNatClampNeg) then (b_X5_sourceBound_30 K a1 V) else (vp_in a1 6 ∧ vp_in a1 6 ∧ if (V 66 a1.toNatClampNeg) ≤ (V 64 a1.toNatClampNeg) then (∃ n, lp (fun _ _ => False) (h_X5_sourceBound_43 K a1) n V (1 : Int32)) else (b_X5_sourceBound_30 K a1 V))
set_option maxRecDepth 100000 in
set_option maxHeartbeats 4000000 in
theorem c_X5_sourceBound {l : Launch} {D : va_G} {ad : Nat → Nat} {cy : Nat → ClassId} (hi : inj ad) {V : St} {K : Int32 → St → Prop} {a1 : Int32} : wp_X5_sourceBound V K a1 → Hi l D ad cy yX5_sourceBound (Cond.code yX5_sourceBound cX5_sourceBound 4 (some .int) :: WA) rm_X5_sourceBound [.ref (ad 60), .int a1] V K := by
  refine H_i (w := wp_X5_sourceBound V K a1) (by decide) (Nat.le_of_ble_eq_true rfl) (List.forall_mem_cons.mpr ⟨rfl, (List.forall_mem_cons.mpr ⟨rfl, (fun _ h => absurd h List.not_mem_nil)⟩)⟩) hi ?_
  intro p e s m args below meth c A hC hrt hlk
  have J_43 : ∀ (n : Nat), ∀ (V : St) (l2 : Int32), G p l e rm_X5_sourceBound s m args below meth c 0 0 (MQ below (va_Qi K (Bq D ad cy) A) args s 0 0 A) 4 D ad cy A (lp (fun _ _ => False) (h_X5_sourceBound_43 K a1) n V l2) V 43 [some (.ref (ad 60)), some (.int a1), some (.int l2), none] [] := by
    intro n
    induction n with
    | zero => exact fun _ _ h => False.elim h
    | succ n IH =>
      generalize hrec : lp (fun _ _ => False) (h_X5_sourceBound_43 K a1) n = rec_43 at IH
      have ih_43 := IH
      intro V l2 
      show G p l e rm_X5_sourceBound s m args below meth c 0 0 (MQ below (va_Qi K (Bq D ad cy) A) args s 0 0 A) 4 D ad cy A (h_X5_sourceBound_43 K a1 (lp (fun _ _ => False) (h_X5_sourceBound_43 K a1) n) V l2) V 43 [some (.ref (ad 60)), some (.int a1), some (.int l2), none] []
      rw [hrec]
      refine g_iload_n (pc := 43) hC dX5_sourceBound_43 rfl ?_
      refine g_aload_n (pc := 44) hC dX5_sourceBound_44 rfl ?_
      refine g_getR (pc := 45) hC fl_X5_26 (by decide) rfl rfl dX5_sourceBound_45 ?_
      refine g_iload_n (pc := 48) hC dX5_sourceBound_48 rfl ?_
      refine g_iald (pc := 49) hC (by decide) rfl dX5_sourceBound_49 ?_
      refine g_icmp_gt (pc := 50) (tgt := 72) hC dX5_sourceBound_50 (by decide) ?_ ?_
      · refine g_iconst (pc := 72) hC (-1 : Int32) dX5_sourceBound_72 (by decide) ?_
        exact g_iret (pc := 73) hC hrt hlk dX5_sourceBound_73
      · refine g_aload_n (pc := 53) hC dX5_sourceBound_53 rfl ?_
        refine g_iload_n (pc := 54) hC dX5_sourceBound_54 rfl ?_
        refine g_iload_n (pc := 55) hC dX5_sourceBound_55 rfl ?_
        refine g_cvi (pc := 56) hC (c_X5_sourceNeeds hC.2.2.2.1) mi_X5_sourceNeeds ww_804 ⟨rfl, rfl⟩ ⟨by decide, by decide⟩ (by decide) rfl rfl rfl rfl (Nat.le_of_ble_eq_true rfl) ⟨Nat.le_of_ble_eq_true rfl, Nat.le_of_ble_eq_true rfl⟩ dX5_sourceBound_56 (fun r1 V2 => ?_)
        refine g_istore_n (pc := 59) (L2 := [some (.ref (ad 60)), some (.int a1), some (.int l2), some (.int r1)]) hC dX5_sourceBound_59 (by decide) rfl ?_
        refine g_iload_n (pc := 60) hC dX5_sourceBound_60 rfl ?_
        refine g_iload_n (pc := 61) hC dX5_sourceBound_61 rfl ?_
        refine g_icmp_ne (pc := 62) (tgt := 67) hC dX5_sourceBound_62 (by decide) ?_ ?_
        · refine g_iload_n (pc := 67) hC dX5_sourceBound_67 rfl ?_
          refine g_istore_n (pc := 68) (L2 := [some (.ref (ad 60)), some (.int a1), some (.int r1), some (.int r1)]) hC dX5_sourceBound_68 (by decide) rfl ?_
          refine g_goto (pc := 69) (tgt := 43) hC dX5_sourceBound_69 (by decide) ?_
          exact g_ms [true, true, true, false] (ih_43 V2 r1)
        · refine g_iload_n (pc := 65) hC dX5_sourceBound_65 rfl ?_
          exact g_iret (pc := 66) hC hrt hlk dX5_sourceBound_66
  have J_30 : ∀ (V : St), G p l e rm_X5_sourceBound s m args below meth c 0 0 (MQ below (va_Qi K (Bq D ad cy) A) args s 0 0 A) 4 D ad cy A (b_X5_sourceBound_30 K a1 V) V 30 [some (.ref (ad 60)), some (.int a1), none, none] [] := by
    intro  V 
    refine g_aload_n (pc := 30) hC dX5_sourceBound_30 rfl ?_
    refine g_getR (pc := 31) hC fl_X5_26 (by decide) rfl rfl dX5_sourceBound_31 ?_
    refine g_iload_n (pc := 34) hC dX5_sourceBound_34 rfl ?_
    refine g_iald (pc := 35) hC (by decide) rfl dX5_sourceBound_35 ?_
    refine g_iconst (pc := 36) hC (1 : Int32) dX5_sourceBound_36 (by decide) ?_
    refine g_iadd (pc := 37) hC dX5_sourceBound_37 ?_
    refine g_goto (pc := 38) (tgt := 42) hC dX5_sourceBound_38 (by decide) ?_
    refine g_nm (fun x1 => ?_)
    refine g_istore_n (pc := 42) (L2 := [some (.ref (ad 60)), some (.int a1), some (.int x1), none]) hC dX5_sourceBound_42 (by decide) rfl ?_
    exact g_ex (fun n => J_43  n V x1)
  show G p l e rm_X5_sourceBound s m args below meth c 0 0 (MQ below (va_Qi K (Bq D ad cy) A) args s 0 0 A) 4 D ad cy A (wp_X5_sourceBound V K a1) V 0 [some (.ref (ad 60)), some (.int a1), none, none] []
  refine g_aload_n (pc := 0) hC dX5_sourceBound_0 rfl ?_
  refine g_getR (pc := 1) hC fl_X5_17 (by decide) rfl rfl dX5_sourceBound_1 ?_
  refine g_iload_n (pc := 4) hC dX5_sourceBound_4 rfl ?_
  refine g_iald (pc := 5) hC (by decide) rfl dX5_sourceBound_5 ?_
  refine g_aload_n (pc := 6) hC dX5_sourceBound_6 rfl ?_
  refine g_getR (pc := 7) hC fl_X5_23 (by decide) rfl rfl dX5_sourceBound_7 ?_
  refine g_iload_n (pc := 10) hC dX5_sourceBound_10 rfl ?_
  refine g_iald (pc := 11) hC (by decide) rfl dX5_sourceBound_11 ?_
  refine g_icmp_gt (pc := 12) (tgt := 30) hC dX5_sourceBound_12 (by decide) ?_ ?_
  · exact J_30  V
  · refine g_aload_n (pc := 15) hC dX5_sourceBound_15 rfl ?_
    refine g_getR (pc := 16) hC fl_X5_20 (by decide) rfl rfl dX5_sourceBound_16 ?_
    refine g_iload_n (pc := 19) hC dX5_sourceBound_19 rfl ?_
    refine g_iald (pc := 20) hC (by decide) rfl dX5_sourceBound_20 ?_
    refine g_aload_n (pc := 21) hC dX5_sourceBound_21 rfl ?_
    refine g_getR (pc := 22) hC fl_X5_26 (by decide) rfl rfl dX5_sourceBound_22 ?_
    refine g_iload_n (pc := 25) hC dX5_sourceBound_25 rfl ?_
    refine g_iald (pc := 26) hC (by decide) rfl dX5_sourceBound_26 ?_
    refine g_icmp_ge (pc := 27) (tgt := 41) hC dX5_sourceBound_27 (by decide) ?_ ?_
    · refine g_iconst (pc := 41) hC (1 : Int32) dX5_sourceBound_41 (by decide) ?_
      refine g_istore_n (pc := 42) (L2 := [some (.ref (ad 60)), some (.int a1), some (.int (1 : Int32)), none]) hC dX5_sourceBound_42 (by decide) rfl ?_
      exact g_ex (fun n => J_43  n V (1 : Int32))
    · exact J_30  V
def rm_X5_areAdmitted : Room := ({ frames := 5, cells := 0, slots := 0, locals := 113 } : Room)
def b_X5_areAdmitted_31 (K : Int32 → St → Prop) (rec_4 : St → Int32 → Int32 → Prop) (V : St) (l2 : Int32) : Prop := rec_4 V (1 : Int32) (l2 + 1)
def h_X5_areAdmitted_4 (K : Int32 → St → Prop) (rec_4 : St → Int32 → Int32 → Prop) (V : St) (l1 : Int32) (l2 : Int32) : Prop := if (6 : Int32) ≤ l2 then ((l1 = 0 ∨ l1 = 1) ∧ K l1 V) else (if l1 = 0 then (rec_4 V (0 : Int32) (l2 + 1)) else (vp_in l2 6 ∧ if (V 82 l2.toNatClampNeg) = 0 then (b_X5_areAdmitted_31 K rec_4 V l2) else (wp_X5_taskBound V (fun (r1 : Int32) (V2 : St) => if r1 < 0 then (rec_4 V2 (0 : Int32) (l2 + 1)) else (b_X5_areAdmitted_31 K rec_4 V2 l2)) l2)))
def wp_X5_areAdmitted (V : St) (K : Int32 → St → Prop) : Prop := ∃ n, lp (fun _ _ _ => False) (h_X5_areAdmitted_4 K) n V (1 : Int32) (0 : Int32)
set_option maxRecDepth 100000 in
set_option maxHeartbeats 4000000 in
theorem c_X5_areAdmitted {l : Launch} {D : va_G} {ad : Nat → Nat} {cy : Nat → ClassId} (hi : inj ad) {V : St} {K : Int32 → St → Prop} : wp_X5_areAdmitted V K → Hi l D ad cy yX5_areAdmitted (Cond.code yX5_areAdmitted cX5_areAdmitted 3 (some .boolean) :: WA) rm_X5_areAdmitted [.ref (ad 60)] V K := by
  refine H_i (w := wp_X5_areAdmitted V K) (by decide) (Nat.le_of_ble_eq_true rfl) (List.forall_mem_cons.mpr ⟨rfl, (fun _ h => absurd h List.not_mem_nil)⟩) hi ?_
  intro p e s m args below meth c A hC hrt hlk
  have J_31 : ∀ (rec_4 : St → Int32 → Int32 → Prop) (ih_4 : ∀ (V : St) (l1 : Int32) (l2 : Int32), G p l e rm_X5_areAdmitted s m args below meth c 0 0 (MQ below (va_Qi K (Bq D ad cy) A) args s 0 0 A) 3 D ad cy A (rec_4 V l1 l2) V 4 [some (.ref (ad 60)), some (.int l1), some (.int l2)] []), ∀ (V : St) (l2 : Int32), G p l e rm_X5_areAdmitted s m args below meth c 0 0 (MQ below (va_Qi K (Bq D ad cy) A) args s 0 0 A) 3 D ad cy A (b_X5_areAdmitted_31 K rec_4 V l2) V 31 [some (.ref (ad 60)), none, some (.int l2)] [] := by
    intro rec_4 ih_4 V l2 
    refine g_iconst (pc := 31) hC (1 : Int32) dX5_areAdmitted_31 (by decide) ?_
    refine g_goto (pc := 32) (tgt := 36) hC dX5_areAdmitted_32 (by decide) ?_
    refine g_istore_n (pc := 36) (L2 := [some (.ref (ad 60)), some (.int (1 : Int32)), some (.int l2)]) hC dX5_areAdmitted_36 (by decide) rfl ?_
    refine g_iinc (pc := 37) (L2 := [some (.ref (ad 60)), some (.int (1 : Int32)), some (.int (l2 + 1))]) hC (l2 + 1) dX5_areAdmitted_37 rfl rfl (by decide) rfl ?_
    refine g_goto (pc := 40) (tgt := 4) hC dX5_areAdmitted_40 (by decide) ?_
    exact ih_4 V (1 : Int32) (l2 + 1)
  have J_4 : ∀ (n : Nat), ∀ (V : St) (l1 : Int32) (l2 : Int32), G p l e rm_X5_areAdmitted s m args below meth c 0 0 (MQ below (va_Qi K (Bq D ad cy) A) args s 0 0 A) 3 D ad cy A (lp (fun _ _ _ => False) (h_X5_areAdmitted_4 K) n V l1 l2) V 4 [some (.ref (ad 60)), some (.int l1), some (.int l2)] [] := by
    intro n
    induction n with
    | zero => exact fun _ _ _ h => False.elim h
    | succ n IH =>
      generalize hrec : lp (fun _ _ _ => False) (h_X5_areAdmitted_4 K) n = rec_4 at IH
      have ih_4 := IH
      intro V l1 l2 
      show G p l e rm_X5_areAdmitted s m args below meth c 0 0 (MQ below (va_Qi K (Bq D ad cy) A) args s 0 0 A) 3 D ad cy A (h_X5_areAdmitted_4 K (lp (fun _ _ _ => False) (h_X5_areAdmitted_4 K) n) V l1 l2) V 4 [some (.ref (ad 60)), some (.int l1), some (.int l2)] []
      rw [hrec]
      refine g_iload_n (pc := 4) hC dX5_areAdmitted_4 rfl ?_
      refine g_bipush (pc := 5) hC (6 : Int32) dX5_areAdmitted_5 (by decide) ?_
      refine g_icmp_ge (pc := 7) (tgt := 43) hC dX5_areAdmitted_7 (by decide) ?_ ?_
      · refine g_iload_n (pc := 43) hC dX5_areAdmitted_43 rfl ?_
        exact g_zret (pc := 44) hC hrt hlk dX5_areAdmitted_44
      · refine g_iload_n (pc := 10) hC dX5_areAdmitted_10 rfl ?_
        refine g_if_eq (pc := 11) (tgt := 35) hC dX5_areAdmitted_11 (by decide) ?_ ?_
        · refine g_iconst (pc := 35) hC (0 : Int32) dX5_areAdmitted_35 (by decide) ?_
          refine g_istore_n (pc := 36) (L2 := [some (.ref (ad 60)), some (.int (0 : Int32)), some (.int l2)]) hC dX5_areAdmitted_36 (by decide) rfl ?_
          refine g_iinc (pc := 37) (L2 := [some (.ref (ad 60)), some (.int (0 : Int32)), some (.int (l2 + 1))]) hC (l2 + 1) dX5_areAdmitted_37 rfl rfl (by decide) rfl ?_
          refine g_goto (pc := 40) (tgt := 4) hC dX5_areAdmitted_40 (by decide) ?_
          exact ih_4 V (0 : Int32) (l2 + 1)
        · refine g_aload_n (pc := 14) hC dX5_areAdmitted_14 rfl ?_
          refine g_getR (pc := 15) hC fl_X5_74 (by decide) rfl rfl dX5_areAdmitted_15 ?_
          refine g_iload_n (pc := 18) hC dX5_areAdmitted_18 rfl ?_
          refine g_zald (pc := 19) hC (by decide) rfl dX5_areAdmitted_19 ?_
          refine g_if_eq (pc := 20) (tgt := 31) hC dX5_areAdmitted_20 (by decide) ?_ ?_
          · exact g_ms [true, false, true] (J_31 rec_4 ih_4 V l2)
          · refine g_aload_n (pc := 23) hC dX5_areAdmitted_23 rfl ?_
            refine g_iload_n (pc := 24) hC dX5_areAdmitted_24 rfl ?_
            refine g_cvi (pc := 25) hC (c_X5_taskBound hC.2.2.2.1) mi_X5_taskBound ww_709 ⟨rfl, rfl⟩ ⟨by decide, by decide⟩ (by decide) rfl rfl rfl rfl (Nat.le_of_ble_eq_true rfl) ⟨Nat.le_of_ble_eq_true rfl, Nat.le_of_ble_eq_true rfl⟩ dX5_areAdmitted_25 (fun r1 V2 => ?_)
            refine g_if_lt (pc := 28) (tgt := 35) hC dX5_areAdmitted_28 (by decide) ?_ ?_
            · refine g_iconst (pc := 35) hC (0 : Int32) dX5_areAdmitted_35 (by decide) ?_
              refine g_istore_n (pc := 36) (L2 := [some (.ref (ad 60)), some (.int (0 : Int32)), some (.int l2)]) hC dX5_areAdmitted_36 (by decide) rfl ?_
              refine g_iinc (pc := 37) (L2 := [some (.ref (ad 60)), some (.int (0 : Int32)), some (.int (l2 + 1))]) hC (l2 + 1) dX5_areAdmitted_37 rfl rfl (by decide) rfl ?_
              refine g_goto (pc := 40) (tgt := 4) hC dX5_areAdmitted_40 (by decide) ?_
              exact ih_4 V2 (0 : Int32) (l2 + 1)
            · exact g_ms [true, false, true] (J_31 rec_4 ih_4 V2 l2)
  show G p l e rm_X5_areAdmitted s m args below meth c 0 0 (MQ below (va_Qi K (Bq D ad cy) A) args s 0 0 A) 3 D ad cy A (wp_X5_areAdmitted V K) V 0 [some (.ref (ad 60)), none, none] []
  refine g_iconst (pc := 0) hC (1 : Int32) dX5_areAdmitted_0 (by decide) ?_
  refine g_istore_n (pc := 1) (L2 := [some (.ref (ad 60)), some (.int (1 : Int32)), none]) hC dX5_areAdmitted_1 (by decide) rfl ?_
  refine g_iconst (pc := 2) hC (0 : Int32) dX5_areAdmitted_2 (by decide) ?_
  refine g_istore_n (pc := 3) (L2 := [some (.ref (ad 60)), some (.int (1 : Int32)), some (.int (0 : Int32))]) hC dX5_areAdmitted_3 (by decide) rfl ?_
  exact g_ex (fun n => J_4  n V (1 : Int32) (0 : Int32))
def rm_X5_source : Room := ({ frames := 6, cells := 0, slots := 0, locals := 135 } : Room)
def h_X5_source_230 (K : St → Prop) (a1 : Int32) (a2 : Int32) (a3 : Int32) (a4 : Int32) (a5 : Int32) (a6 : Int32) (a7 : Int32) (rec_230 : St → Int32 → Prop) (V : St) (l9 : Int32) : Prop := if (30 : Int32) ≤ l9 then (wp_X5_areAdmitted V (fun (r1 : Int32) (V2 : St) => vp_in a1 6 ∧ (r1 = 0 ∨ r1 = 1) ∧ ∀ V3 : St, V3 = up2 V2 61 a1.toNatClampNeg r1 → vp_in a1 6 ∧ if (V3 61 a1.toNatClampNeg) = 0 then (∀ V4 : St, V4 = up2 V3 60 0 (3 : Int32) → K V4) else (∀ V5 : St, V5 = up2 V3 60 0 (0 : Int32) → K V5))) else (vp_in (((30 : Int32) * a1) + l9) 180 ∧ ∀ V6 : St, V6 = up2 V 72 (((30 : Int32) * a1) + l9).toNatClampNeg (0 : Int32) → rec_230 V6 (l9 + 1))
def b_X5_source_166 (K : St → Prop) (a1 : Int32) (a2 : Int32) (a3 : Int32) (a4 : Int32) (a5 : Int32) (a6 : Int32) (a7 : Int32) (V : St) : Prop := if (V 60 0) ≤ 0 then (vp_in a1 6 ∧ ((1 : Int32) = 0 ∨ (1 : Int32) = 1) ∧ ∀ V1 : St, V1 = up2 V 61 a1.toNatClampNeg (1 : Int32) → vp_in a1 6 ∧ ∀ V2 : St, V2 = up2 V1 62 a1.toNatClampNeg a2 → vp_in a1 6 ∧ ∀ V3 : St, V3 = up2 V2 63 a1.toNatClampNeg a3 → vp_in a1 6 ∧ ∀ V4 : St, V4 = up2 V3 64 a1.toNatClampNeg a4 → vp_in a1 6 ∧ ∀ V5 : St, V5 = up2 V4 65 a1.toNatClampNeg a5 → vp_in a1 6 ∧ ∀ V6 : St, V6 = up2 V5 66 a1.toNatClampNeg a6 → vp_in a1 6 ∧ ∀ V7 : St, V7 = up2 V6 67 a1.toNatClampNeg a7 → ∃ n, lp (fun _ _ => False) (h_X5_source_230 K a1 a2 a3 a4 a5 a6 a7) n V7 (0 : Int32)) else (K V)
def h_X5_source_115 (K : St → Prop) (a1 : Int32) (a2 : Int32) (a3 : Int32) (a4 : Int32) (a5 : Int32) (a6 : Int32) (a7 : Int32) (rec_115 : St → Int32 → Prop) (V : St) (l9 : Int32) : Prop := if (6 : Int32) ≤ l9 then (b_X5_source_166 K a1 a2 a3 a4 a5 a6 a7 V) else (if (V 60 0) = 0 then (vp_in l9 6 ∧ if (V 61 l9.toNatClampNeg) = 0 then (∀ V1 : St, V1 = up2 V 60 0 (0 : Int32) → rec_115 V1 (l9 + 1)) else (vp_in l9 6 ∧ if (V 67 l9.toNatClampNeg) = a7 then (∀ V3 : St, V3 = up2 V 60 0 (3 : Int32) → rec_115 V3 (l9 + 1)) else (∀ V2 : St, V2 = up2 V 60 0 (0 : Int32) → rec_115 V2 (l9 + 1)))) else (b_X5_source_166 K a1 a2 a3 a4 a5 a6 a7 V))
def b_X5_source_70 (K : St → Prop) (a1 : Int32) (a2 : Int32) (a3 : Int32) (a4 : Int32) (a5 : Int32) (a6 : Int32) (a7 : Int32) (V : St) (s0 : Int32) : Prop := wp_X5_within V (fun (r1 : Int32) (V2 : St) => if r1 = 0 then (∀ V6 : St, V6 = up2 V2 60 0 (1 : Int32) → ∃ n, lp (fun _ _ => False) (h_X5_source_115 K a1 a2 a3 a4 a5 a6 a7) n V6 (0 : Int32)) else (if s0 = 0 then (∀ V5 : St, V5 = up2 V2 60 0 (2 : Int32) → ∃ n, lp (fun _ _ => False) (h_X5_source_115 K a1 a2 a3 a4 a5 a6 a7) n V5 (0 : Int32)) else (vp_in a1 6 ∧ if (V2 61 a1.toNatClampNeg) = 0 then (∀ V3 : St, V3 = up2 V2 60 0 (0 : Int32) → ∃ n, lp (fun _ _ => False) (h_X5_source_115 K a1 a2 a3 a4 a5 a6 a7) n V3 (0 : Int32)) else (∀ V4 : St, V4 = up2 V2 60 0 (3 : Int32) → ∃ n, lp (fun _ _ => False) (h_X5_source_115 K a1 a2 a3 a4 a5 a6 a7) n V4 (0 : Int32))))) a1 (0 : Int32) (5 : Int32)
def b_X5_source_69 (K : St → Prop) (a1 : Int32) (a2 : Int32) (a3 : Int32) (a4 : Int32) (a5 : Int32) (a6 : Int32) (a7 : Int32) (V : St) : Prop := b_X5_source_70 K a1 a2 a3 a4 a5 a6 a7 V (0 : Int32)
def wp_X5_source (V : St) (K : St → Prop) (a1 : Int32) (a2 : Int32) (a3 : Int32) (a4 : Int32) (a5 : Int32) (a6 : Int32) (a7 : Int32) : Prop := wp_X5_within V (fun (r1 : Int32) (V2 : St) => if r1 = 0 then (b_X5_source_69 K a1 a2 a3 a4 a5 a6 a7 V2) else (wp_X5_within V2 (fun (r3 : Int32) (V4 : St) => if r3 = 0 then (b_X5_source_69 K a1 a2 a3 a4 a5 a6 a7 V4) else (wp_X5_within V4 (fun (r5 : Int32) (V6 : St) => if r5 = 0 then (b_X5_source_69 K a1 a2 a3 a4 a5 a6 a7 V6) else (wp_X5_within V6 (fun (r7 : Int32) (V8 : St) => if r7 = 0 then (b_X5_source_69 K a1 a2 a3 a4 a5 a6 a7 V8) else (wp_X5_within V8 (fun (r9 : Int32) (V10 : St) => if r9 = 0 then (b_X5_source_69 K a1 a2 a3 a4 a5 a6 a7 V10) else (wp_X5_within V10 (fun (r11 : Int32) (V12 : St) => if r11 = 0 then (b_X5_source_69 K a1 a2 a3 a4 a5 a6 a7 V12) else (b_X5_source_70 K a1 a2 a3 a4 a5 a6 a7 V12 (1 : Int32))) a7 (0 : Int32) (31 : Int32))) a6 (1 : Int32) (500 : Int32))) a5 (1 : Int32) (30 : Int32))) a4 (1 : Int32) (2000 : Int32))) a3 (1 : Int32) (30 : Int32))) a2 (0 : Int32) (3 : Int32)
set_option maxRecDepth 100000 in
set_option maxHeartbeats 4000000 in
theorem c_X5_source {l : Launch} {D : va_G} {ad : Nat → Nat} {cy : Nat → ClassId} (hi : inj ad) {V : St} {K : St → Prop} {a1 : Int32} {a2 : Int32} {a3 : Int32} {a4 : Int32} {a5 : Int32} {a6 : Int32} {a7 : Int32} : wp_X5_source V K a1 a2 a3 a4 a5 a6 a7 → Hv l D ad cy yX5_source (Cond.code yX5_source cX5_source 10 none :: WA) rm_X5_source [.ref (ad 60), .int a1, .int a2, .int a3, .int a4, .int a5, .int a6, .int a7] V K := by
  refine H_v (w := wp_X5_source V K a1 a2 a3 a4 a5 a6 a7) (by decide) (Nat.le_of_ble_eq_true rfl) (List.forall_mem_cons.mpr ⟨rfl, (List.forall_mem_cons.mpr ⟨rfl, (List.forall_mem_cons.mpr ⟨rfl, (List.forall_mem_cons.mpr ⟨rfl, (List.forall_mem_cons.mpr ⟨rfl, (List.forall_mem_cons.mpr ⟨rfl, (List.forall_mem_cons.mpr ⟨rfl, (List.forall_mem_cons.mpr ⟨rfl, (fun _ h => absurd h List.not_mem_nil)⟩)⟩)⟩)⟩)⟩)⟩)⟩)⟩) hi ?_
  intro p e s m args below meth c A hC hrt hlk
  have J_230 : ∀ (n : Nat), ∀ (V : St) (l9 : Int32), G p l e rm_X5_source s m args below meth c 0 0 (MQ below (va_Qv K (Bq D ad cy) A) args s 0 0 A) 10 D ad cy A (lp (fun _ _ => False) (h_X5_source_230 K a1 a2 a3 a4 a5 a6 a7) n V l9) V 230 [some (.ref (ad 60)), some (.int a1), none, none, none, none, none, none, none, some (.int l9)] [] := by
    intro n
    induction n with
    | zero => exact fun _ _ h => False.elim h
    | succ n IH =>
      generalize hrec : lp (fun _ _ => False) (h_X5_source_230 K a1 a2 a3 a4 a5 a6 a7) n = rec_230 at IH
      have ih_230 := IH
      intro V l9 
      show G p l e rm_X5_source s m args below meth c 0 0 (MQ below (va_Qv K (Bq D ad cy) A) args s 0 0 A) 10 D ad cy A (h_X5_source_230 K a1 a2 a3 a4 a5 a6 a7 (lp (fun _ _ => False) (h_X5_source_230 K a1 a2 a3 a4 a5 a6 a7) n) V l9) V 230 [some (.ref (ad 60)), some (.int a1), none, none, none, none, none, none, none, some (.int l9)] []
      rw [hrec]
      refine g_iload (pc := 230) hC dX5_source_230 rfl ?_
      refine g_bipush (pc := 232) hC (30 : Int32) dX5_source_232 (by decide) ?_
      refine g_icmp_ge (pc := 234) (tgt := 256) hC dX5_source_234 (by decide) ?_ ?_
      · refine g_aload_n (pc := 256) hC dX5_source_256 rfl ?_
        refine g_getR (pc := 257) hC fl_X5_7 (by decide) rfl rfl dX5_source_257 ?_
        refine g_iload_n (pc := 260) hC dX5_source_260 rfl ?_
        refine g_aload_n (pc := 261) hC dX5_source_261 rfl ?_
        refine g_cvi (pc := 262) hC (c_X5_areAdmitted hC.2.2.2.1) mi_X5_areAdmitted ww_705 ⟨rfl, rfl⟩ ⟨by decide, by decide⟩ (by decide) rfl rfl rfl rfl (Nat.le_of_ble_eq_true rfl) ⟨Nat.le_of_ble_eq_true rfl, Nat.le_of_ble_eq_true rfl⟩ dX5_source_262 (fun r1 V2 => ?_)
        refine g_zast (pc := 265) hC (by decide) rfl dX5_source_265 (fun V3 => ?_)
        refine g_aload_n (pc := 266) hC dX5_source_266 rfl ?_
        refine g_aload_n (pc := 267) hC dX5_source_267 rfl ?_
        refine g_getR (pc := 268) hC fl_X5_7 (by decide) rfl rfl dX5_source_268 ?_
        refine g_iload_n (pc := 271) hC dX5_source_271 rfl ?_
        refine g_zald (pc := 272) hC (by decide) rfl dX5_source_272 ?_
        refine g_if_eq (pc := 273) (tgt := 280) hC dX5_source_273 (by decide) ?_ ?_
        · refine g_iconst (pc := 280) hC (3 : Int32) dX5_source_280 (by decide) ?_
          refine g_putI (pc := 281) hC fp_X5_107 (by decide) rfl rfl dX5_source_281 (fun V4 => ?_)
          exact g_vret (pc := 284) hC hrt hlk dX5_source_284
        · refine g_iconst (pc := 276) hC (0 : Int32) dX5_source_276 (by decide) ?_
          refine g_goto (pc := 277) (tgt := 281) hC dX5_source_277 (by decide) ?_
          refine g_putI (pc := 281) hC fp_X5_107 (by decide) rfl rfl dX5_source_281 (fun V5 => ?_)
          exact g_vret (pc := 284) hC hrt hlk dX5_source_284
      · refine g_aload_n (pc := 237) hC dX5_source_237 rfl ?_
        refine g_getR (pc := 238) hC fl_X5_44 (by decide) rfl rfl dX5_source_238 ?_
        refine g_bipush (pc := 241) hC (30 : Int32) dX5_source_241 (by decide) ?_
        refine g_iload_n (pc := 243) hC dX5_source_243 rfl ?_
        refine g_imul (pc := 244) hC dX5_source_244 ?_
        refine g_iload (pc := 245) hC dX5_source_245 rfl ?_
        refine g_iadd (pc := 247) hC dX5_source_247 ?_
        refine g_iconst (pc := 248) hC (0 : Int32) dX5_source_248 (by decide) ?_
        refine g_iast (pc := 249) hC (by decide) rfl dX5_source_249 (fun V6 => ?_)
        refine g_iinc (pc := 250) (L2 := [some (.ref (ad 60)), some (.int a1), none, none, none, none, none, none, none, some (.int (l9 + 1))]) hC (l9 + 1) dX5_source_250 rfl rfl (by decide) rfl ?_
        refine g_goto (pc := 253) (tgt := 230) hC dX5_source_253 (by decide) ?_
        exact ih_230 V6 (l9 + 1)
  have J_166 : ∀ (V : St), G p l e rm_X5_source s m args below meth c 0 0 (MQ below (va_Qv K (Bq D ad cy) A) args s 0 0 A) 10 D ad cy A (b_X5_source_166 K a1 a2 a3 a4 a5 a6 a7 V) V 166 [some (.ref (ad 60)), some (.int a1), some (.int a2), some (.int a3), some (.int a4), some (.int a5), some (.int a6), some (.int a7), none, none] [] := by
    intro  V 
    refine g_aload_n (pc := 166) hC dX5_source_166 rfl ?_
    refine g_getI (pc := 167) hC fl_X5_107 (by decide) rfl rfl dX5_source_167 ?_
    refine g_if_le (pc := 170) (tgt := 174) hC dX5_source_170 (by decide) ?_ ?_
    · refine g_aload_n (pc := 174) hC dX5_source_174 rfl ?_
      refine g_getR (pc := 175) hC fl_X5_7 (by decide) rfl rfl dX5_source_175 ?_
      refine g_iload_n (pc := 178) hC dX5_source_178 rfl ?_
      refine g_iconst (pc := 179) hC (1 : Int32) dX5_source_179 (by decide) ?_
      refine g_zast (pc := 180) hC (by decide) rfl dX5_source_180 (fun V1 => ?_)
      refine g_aload_n (pc := 181) hC dX5_source_181 rfl ?_
      refine g_getR (pc := 182) hC fl_X5_13 (by decide) rfl rfl dX5_source_182 ?_
      refine g_iload_n (pc := 185) hC dX5_source_185 rfl ?_
      refine g_iload_n (pc := 186) hC dX5_source_186 rfl ?_
      refine g_iast (pc := 187) hC (by decide) rfl dX5_source_187 (fun V2 => ?_)
      refine g_aload_n (pc := 188) hC dX5_source_188 rfl ?_
      refine g_getR (pc := 189) hC fl_X5_17 (by decide) rfl rfl dX5_source_189 ?_
      refine g_iload_n (pc := 192) hC dX5_source_192 rfl ?_
      refine g_iload_n (pc := 193) hC dX5_source_193 rfl ?_
      refine g_iast (pc := 194) hC (by decide) rfl dX5_source_194 (fun V3 => ?_)
      refine g_aload_n (pc := 195) hC dX5_source_195 rfl ?_
      refine g_getR (pc := 196) hC fl_X5_20 (by decide) rfl rfl dX5_source_196 ?_
      refine g_iload_n (pc := 199) hC dX5_source_199 rfl ?_
      refine g_iload (pc := 200) hC dX5_source_200 rfl ?_
      refine g_iast (pc := 202) hC (by decide) rfl dX5_source_202 (fun V4 => ?_)
      refine g_aload_n (pc := 203) hC dX5_source_203 rfl ?_
      refine g_getR (pc := 204) hC fl_X5_23 (by decide) rfl rfl dX5_source_204 ?_
      refine g_iload_n (pc := 207) hC dX5_source_207 rfl ?_
      refine g_iload (pc := 208) hC dX5_source_208 rfl ?_
      refine g_iast (pc := 210) hC (by decide) rfl dX5_source_210 (fun V5 => ?_)
      refine g_aload_n (pc := 211) hC dX5_source_211 rfl ?_
      refine g_getR (pc := 212) hC fl_X5_26 (by decide) rfl rfl dX5_source_212 ?_
      refine g_iload_n (pc := 215) hC dX5_source_215 rfl ?_
      refine g_iload (pc := 216) hC dX5_source_216 rfl ?_
      refine g_iast (pc := 218) hC (by decide) rfl dX5_source_218 (fun V6 => ?_)
      refine g_aload_n (pc := 219) hC dX5_source_219 rfl ?_
      refine g_getR (pc := 220) hC fl_X5_29 (by decide) rfl rfl dX5_source_220 ?_
      refine g_iload_n (pc := 223) hC dX5_source_223 rfl ?_
      refine g_iload (pc := 224) hC dX5_source_224 rfl ?_
      refine g_iast (pc := 226) hC (by decide) rfl dX5_source_226 (fun V7 => ?_)
      refine g_iconst (pc := 227) hC (0 : Int32) dX5_source_227 (by decide) ?_
      refine g_istore (pc := 228) (L2 := [some (.ref (ad 60)), some (.int a1), some (.int a2), some (.int a3), some (.int a4), some (.int a5), some (.int a6), some (.int a7), none, some (.int (0 : Int32))]) hC dX5_source_228 (by decide) rfl ?_
      exact g_ms [true, true, false, false, false, false, false, false, false, true] (g_ex (fun n => J_230  n V7 (0 : Int32)))
    · exact g_vret (pc := 173) hC hrt hlk dX5_source_173
  have J_115 : ∀ (n : Nat), ∀ (V : St) (l9 : Int32), G p l e rm_X5_source s m args below meth c 0 0 (MQ below (va_Qv K (Bq D ad cy) A) args s 0 0 A) 10 D ad cy A (lp (fun _ _ => False) (h_X5_source_115 K a1 a2 a3 a4 a5 a6 a7) n V l9) V 115 [some (.ref (ad 60)), some (.int a1), some (.int a2), some (.int a3), some (.int a4), some (.int a5), some (.int a6), some (.int a7), none, some (.int l9)] [] := by
    intro n
    induction n with
    | zero => exact fun _ _ h => False.elim h
    | succ n IH =>
      generalize hrec : lp (fun _ _ => False) (h_X5_source_115 K a1 a2 a3 a4 a5 a6 a7) n = rec_115 at IH
      have ih_115 := IH
      intro V l9 
      show G p l e rm_X5_source s m args below meth c 0 0 (MQ below (va_Qv K (Bq D ad cy) A) args s 0 0 A) 10 D ad cy A (h_X5_source_115 K a1 a2 a3 a4 a5 a6 a7 (lp (fun _ _ => False) (h_X5_source_115 K a1 a2 a3 a4 a5 a6 a7) n) V l9) V 115 [some (.ref (ad 60)), some (.int a1), some (.int a2), some (.int a3), some (.int a4), some (.int a5), some (.int a6), some (.int a7), none, some (.int l9)] []
      rw [hrec]
      refine g_iload (pc := 115) hC dX5_source_115 rfl ?_
      refine g_bipush (pc := 117) hC (6 : Int32) dX5_source_117 (by decide) ?_
      refine g_icmp_ge (pc := 119) (tgt := 166) hC dX5_source_119 (by decide) ?_ ?_
      · exact g_ms [true, true, true, true, true, true, true, true, false, false] (J_166  V)
      · refine g_aload_n (pc := 122) hC dX5_source_122 rfl ?_
        refine g_getI (pc := 123) hC fl_X5_107 (by decide) rfl rfl dX5_source_123 ?_
        refine g_if_ne (pc := 126) (tgt := 166) hC dX5_source_126 (by decide) ?_ ?_
        · exact g_ms [true, true, true, true, true, true, true, true, false, false] (J_166  V)
        · refine g_aload_n (pc := 129) hC dX5_source_129 rfl ?_
          refine g_aload_n (pc := 130) hC dX5_source_130 rfl ?_
          refine g_getR (pc := 131) hC fl_X5_7 (by decide) rfl rfl dX5_source_131 ?_
          refine g_iload (pc := 134) hC dX5_source_134 rfl ?_
          refine g_zald (pc := 136) hC (by decide) rfl dX5_source_136 ?_
          refine g_if_eq (pc := 137) (tgt := 156) hC dX5_source_137 (by decide) ?_ ?_
          · refine g_iconst (pc := 156) hC (0 : Int32) dX5_source_156 (by decide) ?_
            refine g_putI (pc := 157) hC fp_X5_107 (by decide) rfl rfl dX5_source_157 (fun V1 => ?_)
            refine g_iinc (pc := 160) (L2 := [some (.ref (ad 60)), some (.int a1), some (.int a2), some (.int a3), some (.int a4), some (.int a5), some (.int a6), some (.int a7), none, some (.int (l9 + 1))]) hC (l9 + 1) dX5_source_160 rfl rfl (by decide) rfl ?_
            refine g_goto (pc := 163) (tgt := 115) hC dX5_source_163 (by decide) ?_
            exact ih_115 V1 (l9 + 1)
          · refine g_aload_n (pc := 140) hC dX5_source_140 rfl ?_
            refine g_getR (pc := 141) hC fl_X5_29 (by decide) rfl rfl dX5_source_141 ?_
            refine g_iload (pc := 144) hC dX5_source_144 rfl ?_
            refine g_iald (pc := 146) hC (by decide) rfl dX5_source_146 ?_
            refine g_iload (pc := 147) hC dX5_source_147 rfl ?_
            refine g_icmp_ne (pc := 149) (tgt := 156) hC dX5_source_149 (by decide) ?_ ?_
            · refine g_iconst (pc := 156) hC (0 : Int32) dX5_source_156 (by decide) ?_
              refine g_putI (pc := 157) hC fp_X5_107 (by decide) rfl rfl dX5_source_157 (fun V2 => ?_)
              refine g_iinc (pc := 160) (L2 := [some (.ref (ad 60)), some (.int a1), some (.int a2), some (.int a3), some (.int a4), some (.int a5), some (.int a6), some (.int a7), none, some (.int (l9 + 1))]) hC (l9 + 1) dX5_source_160 rfl rfl (by decide) rfl ?_
              refine g_goto (pc := 163) (tgt := 115) hC dX5_source_163 (by decide) ?_
              exact ih_115 V2 (l9 + 1)
            · refine g_iconst (pc := 152) hC (3 : Int32) dX5_source_152 (by decide) ?_
              refine g_goto (pc := 153) (tgt := 157) hC dX5_source_153 (by decide) ?_
              refine g_putI (pc := 157) hC fp_X5_107 (by decide) rfl rfl dX5_source_157 (fun V3 => ?_)
              refine g_iinc (pc := 160) (L2 := [some (.ref (ad 60)), some (.int a1), some (.int a2), some (.int a3), some (.int a4), some (.int a5), some (.int a6), some (.int a7), none, some (.int (l9 + 1))]) hC (l9 + 1) dX5_source_160 rfl rfl (by decide) rfl ?_
              refine g_goto (pc := 163) (tgt := 115) hC dX5_source_163 (by decide) ?_
              exact ih_115 V3 (l9 + 1)
  have J_70 : ∀ (V : St) (s0 : Int32), G p l e rm_X5_source s m args below meth c 0 0 (MQ below (va_Qv K (Bq D ad cy) A) args s 0 0 A) 10 D ad cy A (b_X5_source_70 K a1 a2 a3 a4 a5 a6 a7 V s0) V 70 [some (.ref (ad 60)), some (.int a1), some (.int a2), some (.int a3), some (.int a4), some (.int a5), some (.int a6), some (.int a7), none, none] [.int s0] := by
    intro  V s0 
    refine g_istore (pc := 70) (L2 := [some (.ref (ad 60)), some (.int a1), some (.int a2), some (.int a3), some (.int a4), some (.int a5), some (.int a6), some (.int a7), some (.int s0), none]) hC dX5_source_70 (by decide) rfl ?_
    refine g_aload_n (pc := 72) hC dX5_source_72 rfl ?_
    refine g_iload_n (pc := 73) hC dX5_source_73 rfl ?_
    refine g_iconst (pc := 74) hC (0 : Int32) dX5_source_74 (by decide) ?_
    refine g_iconst (pc := 75) hC (5 : Int32) dX5_source_75 (by decide) ?_
    refine g_csi (pc := 76) hC (c_X5_within hC.2.2.2.1) mi_X5_within ww_702 ⟨rfl, rfl⟩ ⟨by decide, by decide⟩ rfl rfl (Nat.le_of_ble_eq_true rfl) ⟨Nat.le_of_ble_eq_true rfl, Nat.le_of_ble_eq_true rfl⟩ dX5_source_76 (fun r1 V2 => ?_)
    refine g_if_ne (pc := 79) (tgt := 86) hC dX5_source_79 (by decide) ?_ ?_
    · refine g_iload (pc := 86) hC dX5_source_86 rfl ?_
      refine g_if_ne (pc := 88) (tgt := 95) hC dX5_source_88 (by decide) ?_ ?_
      · refine g_aload_n (pc := 95) hC dX5_source_95 rfl ?_
        refine g_getR (pc := 96) hC fl_X5_7 (by decide) rfl rfl dX5_source_96 ?_
        refine g_iload_n (pc := 99) hC dX5_source_99 rfl ?_
        refine g_zald (pc := 100) hC (by decide) rfl dX5_source_100 ?_
        refine g_if_eq (pc := 101) (tgt := 108) hC dX5_source_101 (by decide) ?_ ?_
        · refine g_iconst (pc := 108) hC (0 : Int32) dX5_source_108 (by decide) ?_
          refine g_putI (pc := 109) hC fp_X5_107 (by decide) rfl rfl dX5_source_109 (fun V3 => ?_)
          refine g_iconst (pc := 112) hC (0 : Int32) dX5_source_112 (by decide) ?_
          refine g_istore (pc := 113) (L2 := [some (.ref (ad 60)), some (.int a1), some (.int a2), some (.int a3), some (.int a4), some (.int a5), some (.int a6), some (.int a7), some (.int s0), some (.int (0 : Int32))]) hC dX5_source_113 (by decide) rfl ?_
          exact g_ms [true, true, true, true, true, true, true, true, false, true] (g_ex (fun n => J_115  n V3 (0 : Int32)))
        · refine g_iconst (pc := 104) hC (3 : Int32) dX5_source_104 (by decide) ?_
          refine g_goto (pc := 105) (tgt := 109) hC dX5_source_105 (by decide) ?_
          refine g_putI (pc := 109) hC fp_X5_107 (by decide) rfl rfl dX5_source_109 (fun V4 => ?_)
          refine g_iconst (pc := 112) hC (0 : Int32) dX5_source_112 (by decide) ?_
          refine g_istore (pc := 113) (L2 := [some (.ref (ad 60)), some (.int a1), some (.int a2), some (.int a3), some (.int a4), some (.int a5), some (.int a6), some (.int a7), some (.int s0), some (.int (0 : Int32))]) hC dX5_source_113 (by decide) rfl ?_
          exact g_ms [true, true, true, true, true, true, true, true, false, true] (g_ex (fun n => J_115  n V4 (0 : Int32)))
      · refine g_iconst (pc := 91) hC (2 : Int32) dX5_source_91 (by decide) ?_
        refine g_goto (pc := 92) (tgt := 109) hC dX5_source_92 (by decide) ?_
        refine g_putI (pc := 109) hC fp_X5_107 (by decide) rfl rfl dX5_source_109 (fun V5 => ?_)
        refine g_iconst (pc := 112) hC (0 : Int32) dX5_source_112 (by decide) ?_
        refine g_istore (pc := 113) (L2 := [some (.ref (ad 60)), some (.int a1), some (.int a2), some (.int a3), some (.int a4), some (.int a5), some (.int a6), some (.int a7), some (.int s0), some (.int (0 : Int32))]) hC dX5_source_113 (by decide) rfl ?_
        exact g_ms [true, true, true, true, true, true, true, true, false, true] (g_ex (fun n => J_115  n V5 (0 : Int32)))
    · refine g_iconst (pc := 82) hC (1 : Int32) dX5_source_82 (by decide) ?_
      refine g_goto (pc := 83) (tgt := 109) hC dX5_source_83 (by decide) ?_
      refine g_putI (pc := 109) hC fp_X5_107 (by decide) rfl rfl dX5_source_109 (fun V6 => ?_)
      refine g_iconst (pc := 112) hC (0 : Int32) dX5_source_112 (by decide) ?_
      refine g_istore (pc := 113) (L2 := [some (.ref (ad 60)), some (.int a1), some (.int a2), some (.int a3), some (.int a4), some (.int a5), some (.int a6), some (.int a7), some (.int s0), some (.int (0 : Int32))]) hC dX5_source_113 (by decide) rfl ?_
      exact g_ms [true, true, true, true, true, true, true, true, false, true] (g_ex (fun n => J_115  n V6 (0 : Int32)))
  have J_69 : ∀ (V : St), G p l e rm_X5_source s m args below meth c 0 0 (MQ below (va_Qv K (Bq D ad cy) A) args s 0 0 A) 10 D ad cy A (b_X5_source_69 K a1 a2 a3 a4 a5 a6 a7 V) V 69 [some (.ref (ad 60)), some (.int a1), some (.int a2), some (.int a3), some (.int a4), some (.int a5), some (.int a6), some (.int a7), none, none] [] := by
    intro  V 
    refine g_iconst (pc := 69) hC (0 : Int32) dX5_source_69 (by decide) ?_
    exact J_70  V (0 : Int32)
  show G p l e rm_X5_source s m args below meth c 0 0 (MQ below (va_Qv K (Bq D ad cy) A) args s 0 0 A) 10 D ad cy A (wp_X5_source V K a1 a2 a3 a4 a5 a6 a7) V 0 [some (.ref (ad 60)), some (.int a1), some (.int a2), some (.int a3), some (.int a4), some (.int a5), some (.int a6), some (.int a7), none, none] []
  refine g_iload_n (pc := 0) hC dX5_source_0 rfl ?_
  refine g_iconst (pc := 1) hC (0 : Int32) dX5_source_1 (by decide) ?_
  refine g_iconst (pc := 2) hC (3 : Int32) dX5_source_2 (by decide) ?_
  refine g_csi (pc := 3) hC (c_X5_within hC.2.2.2.1) mi_X5_within ww_702 ⟨rfl, rfl⟩ ⟨by decide, by decide⟩ rfl rfl (Nat.le_of_ble_eq_true rfl) ⟨Nat.le_of_ble_eq_true rfl, Nat.le_of_ble_eq_true rfl⟩ dX5_source_3 (fun r1 V2 => ?_)
  refine g_if_eq (pc := 6) (tgt := 69) hC dX5_source_6 (by decide) ?_ ?_
  · exact J_69  V2
  · refine g_iload_n (pc := 9) hC dX5_source_9 rfl ?_
    refine g_iconst (pc := 10) hC (1 : Int32) dX5_source_10 (by decide) ?_
    refine g_bipush (pc := 11) hC (30 : Int32) dX5_source_11 (by decide) ?_
    refine g_csi (pc := 13) hC (c_X5_within hC.2.2.2.1) mi_X5_within ww_702 ⟨rfl, rfl⟩ ⟨by decide, by decide⟩ rfl rfl (Nat.le_of_ble_eq_true rfl) ⟨Nat.le_of_ble_eq_true rfl, Nat.le_of_ble_eq_true rfl⟩ dX5_source_13 (fun r3 V4 => ?_)
    refine g_if_eq (pc := 16) (tgt := 69) hC dX5_source_16 (by decide) ?_ ?_
    · exact J_69  V4
    · refine g_iload (pc := 19) hC dX5_source_19 rfl ?_
      refine g_iconst (pc := 21) hC (1 : Int32) dX5_source_21 (by decide) ?_
      refine g_sipush (pc := 22) hC (2000 : Int32) dX5_source_22 (by decide) ?_
      refine g_csi (pc := 25) hC (c_X5_within hC.2.2.2.1) mi_X5_within ww_702 ⟨rfl, rfl⟩ ⟨by decide, by decide⟩ rfl rfl (Nat.le_of_ble_eq_true rfl) ⟨Nat.le_of_ble_eq_true rfl, Nat.le_of_ble_eq_true rfl⟩ dX5_source_25 (fun r5 V6 => ?_)
      refine g_if_eq (pc := 28) (tgt := 69) hC dX5_source_28 (by decide) ?_ ?_
      · exact J_69  V6
      · refine g_iload (pc := 31) hC dX5_source_31 rfl ?_
        refine g_iconst (pc := 33) hC (1 : Int32) dX5_source_33 (by decide) ?_
        refine g_bipush (pc := 34) hC (30 : Int32) dX5_source_34 (by decide) ?_
        refine g_csi (pc := 36) hC (c_X5_within hC.2.2.2.1) mi_X5_within ww_702 ⟨rfl, rfl⟩ ⟨by decide, by decide⟩ rfl rfl (Nat.le_of_ble_eq_true rfl) ⟨Nat.le_of_ble_eq_true rfl, Nat.le_of_ble_eq_true rfl⟩ dX5_source_36 (fun r7 V8 => ?_)
        refine g_if_eq (pc := 39) (tgt := 69) hC dX5_source_39 (by decide) ?_ ?_
        · exact J_69  V8
        · refine g_iload (pc := 42) hC dX5_source_42 rfl ?_
          refine g_iconst (pc := 44) hC (1 : Int32) dX5_source_44 (by decide) ?_
          refine g_sipush (pc := 45) hC (500 : Int32) dX5_source_45 (by decide) ?_
          refine g_csi (pc := 48) hC (c_X5_within hC.2.2.2.1) mi_X5_within ww_702 ⟨rfl, rfl⟩ ⟨by decide, by decide⟩ rfl rfl (Nat.le_of_ble_eq_true rfl) ⟨Nat.le_of_ble_eq_true rfl, Nat.le_of_ble_eq_true rfl⟩ dX5_source_48 (fun r9 V10 => ?_)
          refine g_if_eq (pc := 51) (tgt := 69) hC dX5_source_51 (by decide) ?_ ?_
          · exact J_69  V10
          · refine g_iload (pc := 54) hC dX5_source_54 rfl ?_
            refine g_iconst (pc := 56) hC (0 : Int32) dX5_source_56 (by decide) ?_
            refine g_bipush (pc := 57) hC (31 : Int32) dX5_source_57 (by decide) ?_
            refine g_csi (pc := 59) hC (c_X5_within hC.2.2.2.1) mi_X5_within ww_702 ⟨rfl, rfl⟩ ⟨by decide, by decide⟩ rfl rfl (Nat.le_of_ble_eq_true rfl) ⟨Nat.le_of_ble_eq_true rfl, Nat.le_of_ble_eq_true rfl⟩ dX5_source_59 (fun r11 V12 => ?_)
            refine g_if_eq (pc := 62) (tgt := 69) hC dX5_source_62 (by decide) ?_ ?_
            · exact J_69  V12
            · refine g_iconst (pc := 65) hC (1 : Int32) dX5_source_65 (by decide) ?_
              refine g_goto (pc := 66) (tgt := 70) hC dX5_source_66 (by decide) ?_
              exact J_70  V12 (1 : Int32)
def rm_X5_base : Room := ({ frames := 6, cells := 0, slots := 0, locals := 135 } : Room)
def b_X5_base_122 (K : Int32 → St → Prop) (a1 : Int32) (a2 : Int32) (a3 : Int32) (a4 : Int32) (V : St) : Prop := if (V 60 0) ≤ 0 then (vp_in a1 6 ∧ ((1 : Int32) = 0 ∨ (1 : Int32) = 1) ∧ ∀ V1 : St, V1 = up2 V 82 a1.toNatClampNeg (1 : Int32) → vp_in a1 6 ∧ ∀ V2 : St, V2 = up2 V1 83 a1.toNatClampNeg a2 → vp_in a1 6 ∧ ∀ V3 : St, V3 = up2 V2 84 a1.toNatClampNeg a3 → vp_in a1 6 ∧ ∀ V4 : St, V4 = up2 V3 85 a1.toNatClampNeg a4 → vp_in a1 6 ∧ ∀ V5 : St, V5 = up2 V4 86 a1.toNatClampNeg (V4 60 1) → wp_X5_areAdmitted V5 (fun (r6 : Int32) (V7 : St) => vp_in a1 6 ∧ (r6 = 0 ∨ r6 = 1) ∧ ∀ V8 : St, V8 = up2 V7 82 a1.toNatClampNeg r6 → vp_in a1 6 ∧ ((V8 82 a1.toNatClampNeg) = 0 ∨ (V8 82 a1.toNatClampNeg) = 1) ∧ K (V8 82 a1.toNatClampNeg) V8)) else (K (0 : Int32) V)
def h_X5_base_71 (K : Int32 → St → Prop) (a1 : Int32) (a2 : Int32) (a3 : Int32) (a4 : Int32) (rec_71 : St → Int32 → Prop) (V : St) (l5 : Int32) : Prop := if (6 : Int32) ≤ l5 then (b_X5_base_122 K a1 a2 a3 a4 V) else (if (V 60 0) = 0 then (vp_in l5 6 ∧ if (V 82 l5.toNatClampNeg) = 0 then (∀ V1 : St, V1 = up2 V 60 0 (0 : Int32) → rec_71 V1 (l5 + 1)) else (vp_in l5 6 ∧ if (V 85 l5.toNatClampNeg) = a4 then (∀ V3 : St, V3 = up2 V 60 0 (3 : Int32) → rec_71 V3 (l5 + 1)) else (∀ V2 : St, V2 = up2 V 60 0 (0 : Int32) → rec_71 V2 (l5 + 1)))) else (b_X5_base_122 K a1 a2 a3 a4 V))
def b_X5_base_47 (K : Int32 → St → Prop) (a1 : Int32) (a2 : Int32) (a3 : Int32) (a4 : Int32) (V : St) : Prop := ∀ V1 : St, V1 = up2 V 60 0 (2 : Int32) → ∃ n, lp (fun _ _ => False) (h_X5_base_71 K a1 a2 a3 a4) n V1 (0 : Int32)
def wp_X5_base (V : St) (K : Int32 → St → Prop) (a1 : Int32) (a2 : Int32) (a3 : Int32) (a4 : Int32) : Prop := wp_X5_within V (fun (r1 : Int32) (V2 : St) => if r1 = 0 then (∀ V11 : St, V11 = up2 V2 60 0 (1 : Int32) → ∃ n, lp (fun _ _ => False) (h_X5_base_71 K a1 a2 a3 a4) n V11 (0 : Int32)) else (wp_X5_within V2 (fun (r3 : Int32) (V4 : St) => if r3 = 0 then (b_X5_base_47 K a1 a2 a3 a4 V4) else (wp_X5_within V4 (fun (r5 : Int32) (V6 : St) => if r5 = 0 then (b_X5_base_47 K a1 a2 a3 a4 V6) else (wp_X5_within V6 (fun (r7 : Int32) (V8 : St) => if r7 = 0 then (b_X5_base_47 K a1 a2 a3 a4 V8) else (vp_in a1 6 ∧ if (V8 82 a1.toNatClampNeg) = 0 then (∀ V9 : St, V9 = up2 V8 60 0 (0 : Int32) → ∃ n, lp (fun _ _ => False) (h_X5_base_71 K a1 a2 a3 a4) n V9 (0 : Int32)) else (∀ V10 : St, V10 = up2 V8 60 0 (3 : Int32) → ∃ n, lp (fun _ _ => False) (h_X5_base_71 K a1 a2 a3 a4) n V10 (0 : Int32)))) a4 (0 : Int32) (31 : Int32))) a3 (1 : Int32) (500 : Int32))) a2 (1 : Int32) (2000 : Int32))) a1 (0 : Int32) (5 : Int32)
set_option maxRecDepth 100000 in
set_option maxHeartbeats 4000000 in
theorem c_X5_base {l : Launch} {D : va_G} {ad : Nat → Nat} {cy : Nat → ClassId} (hi : inj ad) {V : St} {K : Int32 → St → Prop} {a1 : Int32} {a2 : Int32} {a3 : Int32} {a4 : Int32} : wp_X5_base V K a1 a2 a3 a4 → Hi l D ad cy yX5_base (Cond.code yX5_base cX5_base 6 (some .boolean) :: WA) rm_X5_base [.ref (ad 60), .int a1, .int a2, .int a3, .int a4] V K := by
  refine H_i (w := wp_X5_base V K a1 a2 a3 a4) (by decide) (Nat.le_of_ble_eq_true rfl) (List.forall_mem_cons.mpr ⟨rfl, (List.forall_mem_cons.mpr ⟨rfl, (List.forall_mem_cons.mpr ⟨rfl, (List.forall_mem_cons.mpr ⟨rfl, (List.forall_mem_cons.mpr ⟨rfl, (fun _ h => absurd h List.not_mem_nil)⟩)⟩)⟩)⟩)⟩) hi ?_
  intro p e s m args below meth c A hC hrt hlk
  have J_122 : ∀ (V : St), G p l e rm_X5_base s m args below meth c 0 0 (MQ below (va_Qi K (Bq D ad cy) A) args s 0 0 A) 6 D ad cy A (b_X5_base_122 K a1 a2 a3 a4 V) V 122 [some (.ref (ad 60)), some (.int a1), some (.int a2), some (.int a3), some (.int a4), none] [] := by
    intro  V 
    refine g_aload_n (pc := 122) hC dX5_base_122 rfl ?_
    refine g_getI (pc := 123) hC fl_X5_107 (by decide) rfl rfl dX5_base_123 ?_
    refine g_if_le (pc := 126) (tgt := 131) hC dX5_base_126 (by decide) ?_ ?_
    · refine g_aload_n (pc := 131) hC dX5_base_131 rfl ?_
      refine g_getR (pc := 132) hC fl_X5_74 (by decide) rfl rfl dX5_base_132 ?_
      refine g_iload_n (pc := 135) hC dX5_base_135 rfl ?_
      refine g_iconst (pc := 136) hC (1 : Int32) dX5_base_136 (by decide) ?_
      refine g_zast (pc := 137) hC (by decide) rfl dX5_base_137 (fun V1 => ?_)
      refine g_aload_n (pc := 138) hC dX5_base_138 rfl ?_
      refine g_getR (pc := 139) hC fl_X5_77 (by decide) rfl rfl dX5_base_139 ?_
      refine g_iload_n (pc := 142) hC dX5_base_142 rfl ?_
      refine g_iload_n (pc := 143) hC dX5_base_143 rfl ?_
      refine g_iast (pc := 144) hC (by decide) rfl dX5_base_144 (fun V2 => ?_)
      refine g_aload_n (pc := 145) hC dX5_base_145 rfl ?_
      refine g_getR (pc := 146) hC fl_X5_80 (by decide) rfl rfl dX5_base_146 ?_
      refine g_iload_n (pc := 149) hC dX5_base_149 rfl ?_
      refine g_iload_n (pc := 150) hC dX5_base_150 rfl ?_
      refine g_iast (pc := 151) hC (by decide) rfl dX5_base_151 (fun V3 => ?_)
      refine g_aload_n (pc := 152) hC dX5_base_152 rfl ?_
      refine g_getR (pc := 153) hC fl_X5_83 (by decide) rfl rfl dX5_base_153 ?_
      refine g_iload_n (pc := 156) hC dX5_base_156 rfl ?_
      refine g_iload (pc := 157) hC dX5_base_157 rfl ?_
      refine g_iast (pc := 159) hC (by decide) rfl dX5_base_159 (fun V4 => ?_)
      refine g_aload_n (pc := 160) hC dX5_base_160 rfl ?_
      refine g_getR (pc := 161) hC fl_X5_86 (by decide) rfl rfl dX5_base_161 ?_
      refine g_iload_n (pc := 164) hC dX5_base_164 rfl ?_
      refine g_aload_n (pc := 165) hC dX5_base_165 rfl ?_
      refine g_getI (pc := 166) hC fl_X5_115 (by decide) rfl rfl dX5_base_166 ?_
      refine g_iast (pc := 169) hC (by decide) rfl dX5_base_169 (fun V5 => ?_)
      refine g_aload_n (pc := 170) hC dX5_base_170 rfl ?_
      refine g_getR (pc := 171) hC fl_X5_74 (by decide) rfl rfl dX5_base_171 ?_
      refine g_iload_n (pc := 174) hC dX5_base_174 rfl ?_
      refine g_aload_n (pc := 175) hC dX5_base_175 rfl ?_
      refine g_cvi (pc := 176) hC (c_X5_areAdmitted hC.2.2.2.1) mi_X5_areAdmitted ww_705 ⟨rfl, rfl⟩ ⟨by decide, by decide⟩ (by decide) rfl rfl rfl rfl (Nat.le_of_ble_eq_true rfl) ⟨Nat.le_of_ble_eq_true rfl, Nat.le_of_ble_eq_true rfl⟩ dX5_base_176 (fun r6 V7 => ?_)
      refine g_zast (pc := 179) hC (by decide) rfl dX5_base_179 (fun V8 => ?_)
      refine g_aload_n (pc := 180) hC dX5_base_180 rfl ?_
      refine g_getR (pc := 181) hC fl_X5_74 (by decide) rfl rfl dX5_base_181 ?_
      refine g_iload_n (pc := 184) hC dX5_base_184 rfl ?_
      refine g_zald (pc := 185) hC (by decide) rfl dX5_base_185 ?_
      exact g_zret (pc := 186) hC hrt hlk dX5_base_186
    · refine g_iconst (pc := 129) hC (0 : Int32) dX5_base_129 (by decide) ?_
      exact g_zret0 (pc := 130) hC hrt hlk dX5_base_130 (by decide)
  have J_71 : ∀ (n : Nat), ∀ (V : St) (l5 : Int32), G p l e rm_X5_base s m args below meth c 0 0 (MQ below (va_Qi K (Bq D ad cy) A) args s 0 0 A) 6 D ad cy A (lp (fun _ _ => False) (h_X5_base_71 K a1 a2 a3 a4) n V l5) V 71 [some (.ref (ad 60)), some (.int a1), some (.int a2), some (.int a3), some (.int a4), some (.int l5)] [] := by
    intro n
    induction n with
    | zero => exact fun _ _ h => False.elim h
    | succ n IH =>
      generalize hrec : lp (fun _ _ => False) (h_X5_base_71 K a1 a2 a3 a4) n = rec_71 at IH
      have ih_71 := IH
      intro V l5 
      show G p l e rm_X5_base s m args below meth c 0 0 (MQ below (va_Qi K (Bq D ad cy) A) args s 0 0 A) 6 D ad cy A (h_X5_base_71 K a1 a2 a3 a4 (lp (fun _ _ => False) (h_X5_base_71 K a1 a2 a3 a4) n) V l5) V 71 [some (.ref (ad 60)), some (.int a1), some (.int a2), some (.int a3), some (.int a4), some (.int l5)] []
      rw [hrec]
      refine g_iload (pc := 71) hC dX5_base_71 rfl ?_
      refine g_bipush (pc := 73) hC (6 : Int32) dX5_base_73 (by decide) ?_
      refine g_icmp_ge (pc := 75) (tgt := 122) hC dX5_base_75 (by decide) ?_ ?_
      · exact g_ms [true, true, true, true, true, false] (J_122  V)
      · refine g_aload_n (pc := 78) hC dX5_base_78 rfl ?_
        refine g_getI (pc := 79) hC fl_X5_107 (by decide) rfl rfl dX5_base_79 ?_
        refine g_if_ne (pc := 82) (tgt := 122) hC dX5_base_82 (by decide) ?_ ?_
        · exact g_ms [true, true, true, true, true, false] (J_122  V)
        · refine g_aload_n (pc := 85) hC dX5_base_85 rfl ?_
          refine g_aload_n (pc := 86) hC dX5_base_86 rfl ?_
          refine g_getR (pc := 87) hC fl_X5_74 (by decide) rfl rfl dX5_base_87 ?_
          refine g_iload (pc := 90) hC dX5_base_90 rfl ?_
          refine g_zald (pc := 92) hC (by decide) rfl dX5_base_92 ?_
          refine g_if_eq (pc := 93) (tgt := 112) hC dX5_base_93 (by decide) ?_ ?_
          · refine g_iconst (pc := 112) hC (0 : Int32) dX5_base_112 (by decide) ?_
            refine g_putI (pc := 113) hC fp_X5_107 (by decide) rfl rfl dX5_base_113 (fun V1 => ?_)
            refine g_iinc (pc := 116) (L2 := [some (.ref (ad 60)), some (.int a1), some (.int a2), some (.int a3), some (.int a4), some (.int (l5 + 1))]) hC (l5 + 1) dX5_base_116 rfl rfl (by decide) rfl ?_
            refine g_goto (pc := 119) (tgt := 71) hC dX5_base_119 (by decide) ?_
            exact ih_71 V1 (l5 + 1)
          · refine g_aload_n (pc := 96) hC dX5_base_96 rfl ?_
            refine g_getR (pc := 97) hC fl_X5_83 (by decide) rfl rfl dX5_base_97 ?_
            refine g_iload (pc := 100) hC dX5_base_100 rfl ?_
            refine g_iald (pc := 102) hC (by decide) rfl dX5_base_102 ?_
            refine g_iload (pc := 103) hC dX5_base_103 rfl ?_
            refine g_icmp_ne (pc := 105) (tgt := 112) hC dX5_base_105 (by decide) ?_ ?_
            · refine g_iconst (pc := 112) hC (0 : Int32) dX5_base_112 (by decide) ?_
              refine g_putI (pc := 113) hC fp_X5_107 (by decide) rfl rfl dX5_base_113 (fun V2 => ?_)
              refine g_iinc (pc := 116) (L2 := [some (.ref (ad 60)), some (.int a1), some (.int a2), some (.int a3), some (.int a4), some (.int (l5 + 1))]) hC (l5 + 1) dX5_base_116 rfl rfl (by decide) rfl ?_
              refine g_goto (pc := 119) (tgt := 71) hC dX5_base_119 (by decide) ?_
              exact ih_71 V2 (l5 + 1)
            · refine g_iconst (pc := 108) hC (3 : Int32) dX5_base_108 (by decide) ?_
              refine g_goto (pc := 109) (tgt := 113) hC dX5_base_109 (by decide) ?_
              refine g_putI (pc := 113) hC fp_X5_107 (by decide) rfl rfl dX5_base_113 (fun V3 => ?_)
              refine g_iinc (pc := 116) (L2 := [some (.ref (ad 60)), some (.int a1), some (.int a2), some (.int a3), some (.int a4), some (.int (l5 + 1))]) hC (l5 + 1) dX5_base_116 rfl rfl (by decide) rfl ?_
              refine g_goto (pc := 119) (tgt := 71) hC dX5_base_119 (by decide) ?_
              exact ih_71 V3 (l5 + 1)
  have J_47 : ∀ (V : St), G p l e rm_X5_base s m args below meth c 0 0 (MQ below (va_Qi K (Bq D ad cy) A) args s 0 0 A) 6 D ad cy A (b_X5_base_47 K a1 a2 a3 a4 V) V 47 [some (.ref (ad 60)), some (.int a1), some (.int a2), some (.int a3), some (.int a4), none] [.ref (ad 60)] := by
    intro  V 
    refine g_iconst (pc := 47) hC (2 : Int32) dX5_base_47 (by decide) ?_
    refine g_goto (pc := 48) (tgt := 65) hC dX5_base_48 (by decide) ?_
    refine g_putI (pc := 65) hC fp_X5_107 (by decide) rfl rfl dX5_base_65 (fun V1 => ?_)
    refine g_iconst (pc := 68) hC (0 : Int32) dX5_base_68 (by decide) ?_
    refine g_istore (pc := 69) (L2 := [some (.ref (ad 60)), some (.int a1), some (.int a2), some (.int a3), some (.int a4), some (.int (0 : Int32))]) hC dX5_base_69 (by decide) rfl ?_
    exact g_ex (fun n => J_71  n V1 (0 : Int32))
  show G p l e rm_X5_base s m args below meth c 0 0 (MQ below (va_Qi K (Bq D ad cy) A) args s 0 0 A) 6 D ad cy A (wp_X5_base V K a1 a2 a3 a4) V 0 [some (.ref (ad 60)), some (.int a1), some (.int a2), some (.int a3), some (.int a4), none] []
  refine g_aload_n (pc := 0) hC dX5_base_0 rfl ?_
  refine g_iload_n (pc := 1) hC dX5_base_1 rfl ?_
  refine g_iconst (pc := 2) hC (0 : Int32) dX5_base_2 (by decide) ?_
  refine g_iconst (pc := 3) hC (5 : Int32) dX5_base_3 (by decide) ?_
  refine g_csi (pc := 4) hC (c_X5_within hC.2.2.2.1) mi_X5_within ww_702 ⟨rfl, rfl⟩ ⟨by decide, by decide⟩ rfl rfl (Nat.le_of_ble_eq_true rfl) ⟨Nat.le_of_ble_eq_true rfl, Nat.le_of_ble_eq_true rfl⟩ dX5_base_4 (fun r1 V2 => ?_)
  refine g_if_ne (pc := 7) (tgt := 14) hC dX5_base_7 (by decide) ?_ ?_
  · refine g_iload_n (pc := 14) hC dX5_base_14 rfl ?_
    refine g_iconst (pc := 15) hC (1 : Int32) dX5_base_15 (by decide) ?_
    refine g_sipush (pc := 16) hC (2000 : Int32) dX5_base_16 (by decide) ?_
    refine g_csi (pc := 19) hC (c_X5_within hC.2.2.2.1) mi_X5_within ww_702 ⟨rfl, rfl⟩ ⟨by decide, by decide⟩ rfl rfl (Nat.le_of_ble_eq_true rfl) ⟨Nat.le_of_ble_eq_true rfl, Nat.le_of_ble_eq_true rfl⟩ dX5_base_19 (fun r3 V4 => ?_)
    refine g_if_eq (pc := 22) (tgt := 47) hC dX5_base_22 (by decide) ?_ ?_
    · exact J_47  V4
    · refine g_iload_n (pc := 25) hC dX5_base_25 rfl ?_
      refine g_iconst (pc := 26) hC (1 : Int32) dX5_base_26 (by decide) ?_
      refine g_sipush (pc := 27) hC (500 : Int32) dX5_base_27 (by decide) ?_
      refine g_csi (pc := 30) hC (c_X5_within hC.2.2.2.1) mi_X5_within ww_702 ⟨rfl, rfl⟩ ⟨by decide, by decide⟩ rfl rfl (Nat.le_of_ble_eq_true rfl) ⟨Nat.le_of_ble_eq_true rfl, Nat.le_of_ble_eq_true rfl⟩ dX5_base_30 (fun r5 V6 => ?_)
      refine g_if_eq (pc := 33) (tgt := 47) hC dX5_base_33 (by decide) ?_ ?_
      · exact J_47  V6
      · refine g_iload (pc := 36) hC dX5_base_36 rfl ?_
        refine g_iconst (pc := 38) hC (0 : Int32) dX5_base_38 (by decide) ?_
        refine g_bipush (pc := 39) hC (31 : Int32) dX5_base_39 (by decide) ?_
        refine g_csi (pc := 41) hC (c_X5_within hC.2.2.2.1) mi_X5_within ww_702 ⟨rfl, rfl⟩ ⟨by decide, by decide⟩ rfl rfl (Nat.le_of_ble_eq_true rfl) ⟨Nat.le_of_ble_eq_true rfl, Nat.le_of_ble_eq_true rfl⟩ dX5_base_41 (fun r7 V8 => ?_)
        refine g_if_ne (pc := 44) (tgt := 51) hC dX5_base_44 (by decide) ?_ ?_
        · refine g_aload_n (pc := 51) hC dX5_base_51 rfl ?_
          refine g_getR (pc := 52) hC fl_X5_74 (by decide) rfl rfl dX5_base_52 ?_
          refine g_iload_n (pc := 55) hC dX5_base_55 rfl ?_
          refine g_zald (pc := 56) hC (by decide) rfl dX5_base_56 ?_
          refine g_if_eq (pc := 57) (tgt := 64) hC dX5_base_57 (by decide) ?_ ?_
          · refine g_iconst (pc := 64) hC (0 : Int32) dX5_base_64 (by decide) ?_
            refine g_putI (pc := 65) hC fp_X5_107 (by decide) rfl rfl dX5_base_65 (fun V9 => ?_)
            refine g_iconst (pc := 68) hC (0 : Int32) dX5_base_68 (by decide) ?_
            refine g_istore (pc := 69) (L2 := [some (.ref (ad 60)), some (.int a1), some (.int a2), some (.int a3), some (.int a4), some (.int (0 : Int32))]) hC dX5_base_69 (by decide) rfl ?_
            exact g_ex (fun n => J_71  n V9 (0 : Int32))
          · refine g_iconst (pc := 60) hC (3 : Int32) dX5_base_60 (by decide) ?_
            refine g_goto (pc := 61) (tgt := 65) hC dX5_base_61 (by decide) ?_
            refine g_putI (pc := 65) hC fp_X5_107 (by decide) rfl rfl dX5_base_65 (fun V10 => ?_)
            refine g_iconst (pc := 68) hC (0 : Int32) dX5_base_68 (by decide) ?_
            refine g_istore (pc := 69) (L2 := [some (.ref (ad 60)), some (.int a1), some (.int a2), some (.int a3), some (.int a4), some (.int (0 : Int32))]) hC dX5_base_69 (by decide) rfl ?_
            exact g_ex (fun n => J_71  n V10 (0 : Int32))
        · exact J_47  V8
  · refine g_iconst (pc := 10) hC (1 : Int32) dX5_base_10 (by decide) ?_
    refine g_goto (pc := 11) (tgt := 65) hC dX5_base_11 (by decide) ?_
    refine g_putI (pc := 65) hC fp_X5_107 (by decide) rfl rfl dX5_base_65 (fun V11 => ?_)
    refine g_iconst (pc := 68) hC (0 : Int32) dX5_base_68 (by decide) ?_
    refine g_istore (pc := 69) (L2 := [some (.ref (ad 60)), some (.int a1), some (.int a2), some (.int a3), some (.int a4), some (.int (0 : Int32))]) hC dX5_base_69 (by decide) rfl ?_
    exact g_ex (fun n => J_71  n V11 (0 : Int32))
def rm_X5_isSource : Room := ({ frames := 1, cells := 0, slots := 0, locals := 22 } : Room)
def wp_X5_isSource (V : St) (K : Int32 → St → Prop) (a1 : Int32) : Prop := wp_X5_within V (fun (r1 : Int32) (V2 : St) => if r1 = 0 then (K (0 : Int32) V2) else (vp_in a1 6 ∧ if (V2 61 a1.toNatClampNeg) = 0 then (K (0 : Int32) V2) else (K (1 : Int32) V2))) a1 (0 : Int32) (5 : Int32)
set_option maxRecDepth 100000 in
set_option maxHeartbeats 4000000 in
theorem c_X5_isSource {l : Launch} {D : va_G} {ad : Nat → Nat} {cy : Nat → ClassId} (hi : inj ad) {V : St} {K : Int32 → St → Prop} {a1 : Int32} : wp_X5_isSource V K a1 → Hi l D ad cy yX5_isSource (Cond.code yX5_isSource cX5_isSource 2 (some .boolean) :: WA) rm_X5_isSource [.ref (ad 60), .int a1] V K := by
  refine H_i (w := wp_X5_isSource V K a1) (by decide) (Nat.le_of_ble_eq_true rfl) (List.forall_mem_cons.mpr ⟨rfl, (List.forall_mem_cons.mpr ⟨rfl, (fun _ h => absurd h List.not_mem_nil)⟩)⟩) hi ?_
  intro p e s m args below meth c A hC hrt hlk
  show G p l e rm_X5_isSource s m args below meth c 0 0 (MQ below (va_Qi K (Bq D ad cy) A) args s 0 0 A) 2 D ad cy A (wp_X5_isSource V K a1) V 0 [some (.ref (ad 60)), some (.int a1)] []
  refine g_iload_n (pc := 0) hC dX5_isSource_0 rfl ?_
  refine g_iconst (pc := 1) hC (0 : Int32) dX5_isSource_1 (by decide) ?_
  refine g_iconst (pc := 2) hC (5 : Int32) dX5_isSource_2 (by decide) ?_
  refine g_csi (pc := 3) hC (c_X5_within hC.2.2.2.1) mi_X5_within ww_702 ⟨rfl, rfl⟩ ⟨by decide, by decide⟩ rfl rfl (Nat.le_of_ble_eq_true rfl) ⟨Nat.le_of_ble_eq_true rfl, Nat.le_of_ble_eq_true rfl⟩ dX5_isSource_3 (fun r1 V2 => ?_)
  refine g_if_eq (pc := 6) (tgt := 22) hC dX5_isSource_6 (by decide) ?_ ?_
  · refine g_iconst (pc := 22) hC (0 : Int32) dX5_isSource_22 (by decide) ?_
    exact g_zret0 (pc := 23) hC hrt hlk dX5_isSource_23 (by decide)
  · refine g_aload_n (pc := 9) hC dX5_isSource_9 rfl ?_
    refine g_getR (pc := 10) hC fl_X5_7 (by decide) rfl rfl dX5_isSource_10 ?_
    refine g_iload_n (pc := 13) hC dX5_isSource_13 rfl ?_
    refine g_zald (pc := 14) hC (by decide) rfl dX5_isSource_14 ?_
    refine g_if_eq (pc := 15) (tgt := 22) hC dX5_isSource_15 (by decide) ?_ ?_
    · refine g_iconst (pc := 22) hC (0 : Int32) dX5_isSource_22 (by decide) ?_
      exact g_zret0 (pc := 23) hC hrt hlk dX5_isSource_23 (by decide)
    · refine g_iconst (pc := 18) hC (1 : Int32) dX5_isSource_18 (by decide) ?_
      refine g_goto (pc := 19) (tgt := 23) hC dX5_isSource_19 (by decide) ?_
      exact g_zret0 (pc := 23) hC hrt hlk dX5_isSource_23 (by decide)
def rm_X5_event : Room := ({ frames := 2, cells := 0, slots := 0, locals := 43 } : Room)
def b_X5_event_46 (K : Int32 → St → Prop) (a1 : Int32) (V : St) : Prop := vp_in a1 6 ∧ vp_in a1 6 ∧ ∀ V1 : St, V1 = up2 V 80 a1.toNatClampNeg ((V 80 a1.toNatClampNeg) + (1 : Int32)) → K (0 : Int32) V1
def b_X5_event_154 (K : Int32 → St → Prop) (a1 : Int32) (V : St) : Prop := vp_in a1 6 ∧ if (V 62 a1.toNatClampNeg) ≤ 0 then (K (1 : Int32) V) else (vp_in (V 60 31) 600 ∧ ∀ V1 : St, V1 = up2 V 90 (V 60 31).toNatClampNeg a1 → vp_in a1 6 ∧ vp_in (V1 60 31) 600 ∧ ∀ V2 : St, V2 = up2 V1 91 (V1 60 31).toNatClampNeg (V1 62 a1.toNatClampNeg) → ∀ V3 : St, V3 = up2 V2 60 31 ((V2 60 31) + (1 : Int32)) → K (1 : Int32) V3)
def b_X5_event_85 (K : Int32 → St → Prop) (a1 : Int32) (V : St) (s0 : Int32) (s1 : Int32) : Prop := vp_in s1 6 ∧ ∀ V1 : St, V1 = up2 V 71 s1.toNatClampNeg s0 → vp_in a1 6 ∧ vp_in (((32 : Int32) * a1) + (V1 68 a1.toNatClampNeg)) 192 ∧ ∀ V2 : St, V2 = up2 V1 69 (((32 : Int32) * a1) + (V1 68 a1.toNatClampNeg)).toNatClampNeg (V1 60 1) → vp_in a1 6 ∧ vp_in a1 6 ∧ ∀ V3 : St, V3 = up2 V2 68 a1.toNatClampNeg ((V2 68 a1.toNatClampNeg) + (1 : Int32)) → vp_in a1 6 ∧ vp_in a1 6 ∧ ∀ V4 : St, V4 = up2 V3 78 a1.toNatClampNeg ((V3 78 a1.toNatClampNeg) + (1 : Int32)) → vp_in a1 6 ∧ if (V4 68 a1.toNatClampNeg) ≤ (24 : Int32) then (b_X5_event_154 K a1 V4) else (vp_in a1 6 ∧ ((1 : Int32) = 0 ∨ (1 : Int32) = 1) ∧ ∀ V5 : St, V5 = up2 V4 76 a1.toNatClampNeg (1 : Int32) → vp_in a1 6 ∧ vp_in a1 6 ∧ ∀ V6 : St, V6 = up2 V5 77 a1.toNatClampNeg ((V5 77 a1.toNatClampNeg) + (1 : Int32)) → b_X5_event_154 K a1 V6)
def b_X5_event_14 (K : Int32 → St → Prop) (a1 : Int32) (V : St) (s0 : Int32) : Prop := ∀ V1 : St, V1 = up2 V 60 0 s0 → if (V1 60 0) ≤ 0 then (vp_in a1 6 ∧ if (V1 76 a1.toNatClampNeg) = 0 then (vp_in a1 6 ∧ if (V1 68 a1.toNatClampNeg) = (32 : Int32) then (b_X5_event_46 K a1 V1) else (vp_in a1 6 ∧ if (V1 68 a1.toNatClampNeg) = 0 then (b_X5_event_85 K a1 V1 (V1 60 1) a1) else (vp_in a1 6 ∧ b_X5_event_85 K a1 V1 (V1 71 a1.toNatClampNeg) a1))) else (b_X5_event_46 K a1 V1)) else (K (0 : Int32) V1)
def wp_X5_event (V : St) (K : Int32 → St → Prop) (a1 : Int32) : Prop := wp_X5_isSource V (fun (r1 : Int32) (V2 : St) => if r1 = 0 then (b_X5_event_14 K a1 V2 (1 : Int32)) else (b_X5_event_14 K a1 V2 (0 : Int32))) a1
set_option maxRecDepth 100000 in
set_option maxHeartbeats 4000000 in
theorem c_X5_event {l : Launch} {D : va_G} {ad : Nat → Nat} {cy : Nat → ClassId} (hi : inj ad) {V : St} {K : Int32 → St → Prop} {a1 : Int32} : wp_X5_event V K a1 → Hi l D ad cy yX5_event (Cond.code yX5_event cX5_event 2 (some .int) :: WA) rm_X5_event [.ref (ad 60), .int a1] V K := by
  refine H_i (w := wp_X5_event V K a1) (by decide) (Nat.le_of_ble_eq_true rfl) (List.forall_mem_cons.mpr ⟨rfl, (List.forall_mem_cons.mpr ⟨rfl, (fun _ h => absurd h List.not_mem_nil)⟩)⟩) hi ?_
  intro p e s m args below meth c A hC hrt hlk
  have J_46 : ∀ (V : St), G p l e rm_X5_event s m args below meth c 0 0 (MQ below (va_Qi K (Bq D ad cy) A) args s 0 0 A) 2 D ad cy A (b_X5_event_46 K a1 V) V 46 [some (.ref (ad 60)), some (.int a1)] [] := by
    intro  V 
    refine g_aload_n (pc := 46) hC dX5_event_46 rfl ?_
    refine g_getR (pc := 47) hC fl_X5_68 (by decide) rfl rfl dX5_event_47 ?_
    refine g_iload_n (pc := 50) hC dX5_event_50 rfl ?_
    refine g_dup2 (pc := 51) hC dX5_event_51 rfl rfl ?_
    refine g_iald (pc := 52) hC (by decide) rfl dX5_event_52 ?_
    refine g_iconst (pc := 53) hC (1 : Int32) dX5_event_53 (by decide) ?_
    refine g_iadd (pc := 54) hC dX5_event_54 ?_
    refine g_iast (pc := 55) hC (by decide) rfl dX5_event_55 (fun V1 => ?_)
    refine g_iconst (pc := 56) hC (0 : Int32) dX5_event_56 (by decide) ?_
    exact g_iret (pc := 57) hC hrt hlk dX5_event_57
  have J_154 : ∀ (V : St), G p l e rm_X5_event s m args below meth c 0 0 (MQ below (va_Qi K (Bq D ad cy) A) args s 0 0 A) 2 D ad cy A (b_X5_event_154 K a1 V) V 154 [some (.ref (ad 60)), some (.int a1)] [] := by
    intro  V 
    refine g_aload_n (pc := 154) hC dX5_event_154 rfl ?_
    refine g_getR (pc := 155) hC fl_X5_13 (by decide) rfl rfl dX5_event_155 ?_
    refine g_iload_n (pc := 158) hC dX5_event_158 rfl ?_
    refine g_iald (pc := 159) hC (by decide) rfl dX5_event_159 ?_
    refine g_if_le (pc := 160) (tgt := 198) hC dX5_event_160 (by decide) ?_ ?_
    · refine g_iconst (pc := 198) hC (1 : Int32) dX5_event_198 (by decide) ?_
      exact g_iret (pc := 199) hC hrt hlk dX5_event_199
    · refine g_aload_n (pc := 163) hC dX5_event_163 rfl ?_
      refine g_getR (pc := 164) hC fl_X5_98 (by decide) rfl rfl dX5_event_164 ?_
      refine g_aload_n (pc := 167) hC dX5_event_167 rfl ?_
      refine g_getI (pc := 168) hC fl_X5_152 (by decide) rfl rfl dX5_event_168 ?_
      refine g_iload_n (pc := 171) hC dX5_event_171 rfl ?_
      refine g_iast (pc := 172) hC (by decide) rfl dX5_event_172 (fun V1 => ?_)
      refine g_aload_n (pc := 173) hC dX5_event_173 rfl ?_
      refine g_getR (pc := 174) hC fl_X5_101 (by decide) rfl rfl dX5_event_174 ?_
      refine g_aload_n (pc := 177) hC dX5_event_177 rfl ?_
      refine g_getI (pc := 178) hC fl_X5_152 (by decide) rfl rfl dX5_event_178 ?_
      refine g_aload_n (pc := 181) hC dX5_event_181 rfl ?_
      refine g_getR (pc := 182) hC fl_X5_13 (by decide) rfl rfl dX5_event_182 ?_
      refine g_iload_n (pc := 185) hC dX5_event_185 rfl ?_
      refine g_iald (pc := 186) hC (by decide) rfl dX5_event_186 ?_
      refine g_iast (pc := 187) hC (by decide) rfl dX5_event_187 (fun V2 => ?_)
      refine g_aload_n (pc := 188) hC dX5_event_188 rfl ?_
      refine g_dup (pc := 189) hC dX5_event_189 rfl ?_
      refine g_getI (pc := 190) hC fl_X5_152 (by decide) rfl rfl dX5_event_190 ?_
      refine g_iconst (pc := 193) hC (1 : Int32) dX5_event_193 (by decide) ?_
      refine g_iadd (pc := 194) hC dX5_event_194 ?_
      refine g_putI (pc := 195) hC fp_X5_152 (by decide) rfl rfl dX5_event_195 (fun V3 => ?_)
      refine g_iconst (pc := 198) hC (1 : Int32) dX5_event_198 (by decide) ?_
      exact g_iret (pc := 199) hC hrt hlk dX5_event_199
  have J_85 : ∀ (V : St) (s0 : Int32) (s1 : Int32), G p l e rm_X5_event s m args below meth c 0 0 (MQ below (va_Qi K (Bq D ad cy) A) args s 0 0 A) 2 D ad cy A (b_X5_event_85 K a1 V s0 s1) V 85 [some (.ref (ad 60)), some (.int a1)] [.int s0, .int s1, .ref (ad 71)] := by
    intro  V s0 s1 
    refine g_iast (pc := 85) hC (by decide) rfl dX5_event_85 (fun V1 => ?_)
    refine g_aload_n (pc := 86) hC dX5_event_86 rfl ?_
    refine g_getR (pc := 87) hC fl_X5_35 (by decide) rfl rfl dX5_event_87 ?_
    refine g_bipush (pc := 90) hC (32 : Int32) dX5_event_90 (by decide) ?_
    refine g_iload_n (pc := 92) hC dX5_event_92 rfl ?_
    refine g_imul (pc := 93) hC dX5_event_93 ?_
    refine g_aload_n (pc := 94) hC dX5_event_94 rfl ?_
    refine g_getR (pc := 95) hC fl_X5_32 (by decide) rfl rfl dX5_event_95 ?_
    refine g_iload_n (pc := 98) hC dX5_event_98 rfl ?_
    refine g_iald (pc := 99) hC (by decide) rfl dX5_event_99 ?_
    refine g_iadd (pc := 100) hC dX5_event_100 ?_
    refine g_aload_n (pc := 101) hC dX5_event_101 rfl ?_
    refine g_getI (pc := 102) hC fl_X5_115 (by decide) rfl rfl dX5_event_102 ?_
    refine g_iast (pc := 105) hC (by decide) rfl dX5_event_105 (fun V2 => ?_)
    refine g_aload_n (pc := 106) hC dX5_event_106 rfl ?_
    refine g_getR (pc := 107) hC fl_X5_32 (by decide) rfl rfl dX5_event_107 ?_
    refine g_iload_n (pc := 110) hC dX5_event_110 rfl ?_
    refine g_dup2 (pc := 111) hC dX5_event_111 rfl rfl ?_
    refine g_iald (pc := 112) hC (by decide) rfl dX5_event_112 ?_
    refine g_iconst (pc := 113) hC (1 : Int32) dX5_event_113 (by decide) ?_
    refine g_iadd (pc := 114) hC dX5_event_114 ?_
    refine g_iast (pc := 115) hC (by decide) rfl dX5_event_115 (fun V3 => ?_)
    refine g_aload_n (pc := 116) hC dX5_event_116 rfl ?_
    refine g_getR (pc := 117) hC fl_X5_62 (by decide) rfl rfl dX5_event_117 ?_
    refine g_iload_n (pc := 120) hC dX5_event_120 rfl ?_
    refine g_dup2 (pc := 121) hC dX5_event_121 rfl rfl ?_
    refine g_iald (pc := 122) hC (by decide) rfl dX5_event_122 ?_
    refine g_iconst (pc := 123) hC (1 : Int32) dX5_event_123 (by decide) ?_
    refine g_iadd (pc := 124) hC dX5_event_124 ?_
    refine g_iast (pc := 125) hC (by decide) rfl dX5_event_125 (fun V4 => ?_)
    refine g_aload_n (pc := 126) hC dX5_event_126 rfl ?_
    refine g_getR (pc := 127) hC fl_X5_32 (by decide) rfl rfl dX5_event_127 ?_
    refine g_iload_n (pc := 130) hC dX5_event_130 rfl ?_
    refine g_iald (pc := 131) hC (by decide) rfl dX5_event_131 ?_
    refine g_bipush (pc := 132) hC (24 : Int32) dX5_event_132 (by decide) ?_
    refine g_icmp_le (pc := 134) (tgt := 154) hC dX5_event_134 (by decide) ?_ ?_
    · exact J_154  V4
    · refine g_aload_n (pc := 137) hC dX5_event_137 rfl ?_
      refine g_getR (pc := 138) hC fl_X5_56 (by decide) rfl rfl dX5_event_138 ?_
      refine g_iload_n (pc := 141) hC dX5_event_141 rfl ?_
      refine g_iconst (pc := 142) hC (1 : Int32) dX5_event_142 (by decide) ?_
      refine g_zast (pc := 143) hC (by decide) rfl dX5_event_143 (fun V5 => ?_)
      refine g_aload_n (pc := 144) hC dX5_event_144 rfl ?_
      refine g_getR (pc := 145) hC fl_X5_59 (by decide) rfl rfl dX5_event_145 ?_
      refine g_iload_n (pc := 148) hC dX5_event_148 rfl ?_
      refine g_dup2 (pc := 149) hC dX5_event_149 rfl rfl ?_
      refine g_iald (pc := 150) hC (by decide) rfl dX5_event_150 ?_
      refine g_iconst (pc := 151) hC (1 : Int32) dX5_event_151 (by decide) ?_
      refine g_iadd (pc := 152) hC dX5_event_152 ?_
      refine g_iast (pc := 153) hC (by decide) rfl dX5_event_153 (fun V6 => ?_)
      exact J_154  V6
  have J_14 : ∀ (V : St) (s0 : Int32), G p l e rm_X5_event s m args below meth c 0 0 (MQ below (va_Qi K (Bq D ad cy) A) args s 0 0 A) 2 D ad cy A (b_X5_event_14 K a1 V s0) V 14 [some (.ref (ad 60)), some (.int a1)] [.int s0, .ref (ad 60)] := by
    intro  V s0 
    refine g_putI (pc := 14) hC fp_X5_107 (by decide) rfl rfl dX5_event_14 (fun V1 => ?_)
    refine g_aload_n (pc := 17) hC dX5_event_17 rfl ?_
    refine g_getI (pc := 18) hC fl_X5_107 (by decide) rfl rfl dX5_event_18 ?_
    refine g_if_le (pc := 21) (tgt := 26) hC dX5_event_21 (by decide) ?_ ?_
    · refine g_aload_n (pc := 26) hC dX5_event_26 rfl ?_
      refine g_getR (pc := 27) hC fl_X5_56 (by decide) rfl rfl dX5_event_27 ?_
      refine g_iload_n (pc := 30) hC dX5_event_30 rfl ?_
      refine g_zald (pc := 31) hC (by decide) rfl dX5_event_31 ?_
      refine g_if_ne (pc := 32) (tgt := 46) hC dX5_event_32 (by decide) ?_ ?_
      · exact J_46  V1
      · refine g_aload_n (pc := 35) hC dX5_event_35 rfl ?_
        refine g_getR (pc := 36) hC fl_X5_32 (by decide) rfl rfl dX5_event_36 ?_
        refine g_iload_n (pc := 39) hC dX5_event_39 rfl ?_
        refine g_iald (pc := 40) hC (by decide) rfl dX5_event_40 ?_
        refine g_bipush (pc := 41) hC (32 : Int32) dX5_event_41 (by decide) ?_
        refine g_icmp_ne (pc := 43) (tgt := 58) hC dX5_event_43 (by decide) ?_ ?_
        · refine g_aload_n (pc := 58) hC dX5_event_58 rfl ?_
          refine g_getR (pc := 59) hC fl_X5_41 (by decide) rfl rfl dX5_event_59 ?_
          refine g_iload_n (pc := 62) hC dX5_event_62 rfl ?_
          refine g_aload_n (pc := 63) hC dX5_event_63 rfl ?_
          refine g_getR (pc := 64) hC fl_X5_32 (by decide) rfl rfl dX5_event_64 ?_
          refine g_iload_n (pc := 67) hC dX5_event_67 rfl ?_
          refine g_iald (pc := 68) hC (by decide) rfl dX5_event_68 ?_
          refine g_if_ne (pc := 69) (tgt := 79) hC dX5_event_69 (by decide) ?_ ?_
          · refine g_aload_n (pc := 79) hC dX5_event_79 rfl ?_
            refine g_getR (pc := 80) hC fl_X5_41 (by decide) rfl rfl dX5_event_80 ?_
            refine g_iload_n (pc := 83) hC dX5_event_83 rfl ?_
            refine g_iald (pc := 84) hC (by decide) rfl dX5_event_84 ?_
            exact J_85  V1 (V1 71 a1.toNatClampNeg) a1
          · refine g_aload_n (pc := 72) hC dX5_event_72 rfl ?_
            refine g_getI (pc := 73) hC fl_X5_115 (by decide) rfl rfl dX5_event_73 ?_
            refine g_goto (pc := 76) (tgt := 85) hC dX5_event_76 (by decide) ?_
            exact J_85  V1 (V1 60 1) a1
        · exact J_46  V1
    · refine g_iconst (pc := 24) hC (0 : Int32) dX5_event_24 (by decide) ?_
      exact g_iret (pc := 25) hC hrt hlk dX5_event_25
  show G p l e rm_X5_event s m args below meth c 0 0 (MQ below (va_Qi K (Bq D ad cy) A) args s 0 0 A) 2 D ad cy A (wp_X5_event V K a1) V 0 [some (.ref (ad 60)), some (.int a1)] []
  refine g_aload_n (pc := 0) hC dX5_event_0 rfl ?_
  refine g_aload_n (pc := 1) hC dX5_event_1 rfl ?_
  refine g_iload_n (pc := 2) hC dX5_event_2 rfl ?_
  refine g_cvi (pc := 3) hC (c_X5_isSource hC.2.2.2.1) mi_X5_isSource ww_740 ⟨rfl, rfl⟩ ⟨by decide, by decide⟩ (by decide) rfl rfl rfl rfl (Nat.le_of_ble_eq_true rfl) ⟨Nat.le_of_ble_eq_true rfl, Nat.le_of_ble_eq_true rfl⟩ dX5_event_3 (fun r1 V2 => ?_)
  refine g_if_eq (pc := 6) (tgt := 13) hC dX5_event_6 (by decide) ?_ ?_
  · refine g_iconst (pc := 13) hC (1 : Int32) dX5_event_13 (by decide) ?_
    exact J_14  V2 (1 : Int32)
  · refine g_iconst (pc := 9) hC (0 : Int32) dX5_event_9 (by decide) ?_
    refine g_goto (pc := 10) (tgt := 14) hC dX5_event_10 (by decide) ?_
    exact J_14  V2 (0 : Int32)
def rm_X5_runTop : Room := ({ frames := 0, cells := 0, slots := 0, locals := 0 } : Room)
def h_X5_runTop_38 (K : Int32 → St → Prop) (rec_38 : St → Int32 → Int32 → Prop) (V : St) (l1 : Int32) (l2 : Int32) : Prop := if (V 60 31) ≤ l2 then (K ((10 : Int32) + l1) V) else (vp_in (l2 + (1 : Int32)) 600 ∧ vp_in l2 600 ∧ ∀ V1 : St, V1 = up2 V 90 l2.toNatClampNeg (V 90 (l2 + (1 : Int32)).toNatClampNeg) → vp_in (l2 + (1 : Int32)) 600 ∧ vp_in l2 600 ∧ ∀ V2 : St, V2 = up2 V1 91 l2.toNatClampNeg (V1 91 (l2 + (1 : Int32)).toNatClampNeg) → rec_38 V2 l1 (l2 + 1))
def wp_X5_runTop (V : St) (K : Int32 → St → Prop) : Prop := vp_in (0 : Int32) 600 ∧ ∀ x1 : Int32, x1 = (V 90 (0 : Int32).toNatClampNeg) → vp_in (0 : Int32) 600 ∧ vp_in (0 : Int32) 600 ∧ ∀ V2 : St, V2 = up2 V 91 (0 : Int32).toNatClampNeg ((V 91 (0 : Int32).toNatClampNeg) - (1 : Int32)) → vp_in (0 : Int32) 600 ∧ if (V2 91 (0 : Int32).toNatClampNeg) = 0 then (∀ V3 : St, V3 = up2 V2 60 31 ((V2 60 31) - (1 : Int32)) → ∃ n, lp (fun _ _ _ => False) (h_X5_runTop_38 K) n V3 x1 (0 : Int32)) else (K ((10 : Int32) + x1) V2)
set_option maxRecDepth 100000 in
set_option maxHeartbeats 4000000 in
theorem c_X5_runTop {l : Launch} {D : va_G} {ad : Nat → Nat} {cy : Nat → ClassId} (hi : inj ad) {V : St} {K : Int32 → St → Prop} : wp_X5_runTop V K → Hi l D ad cy yX5_runTop (Cond.code yX5_runTop cX5_runTop 3 (some .int) :: WA) rm_X5_runTop [.ref (ad 60)] V K := by
  refine H_i (w := wp_X5_runTop V K) (by decide) (Nat.le_of_ble_eq_true rfl) (List.forall_mem_cons.mpr ⟨rfl, (fun _ h => absurd h List.not_mem_nil)⟩) hi ?_
  intro p e s m args below meth c A hC hrt hlk
  have J_38 : ∀ (n : Nat), ∀ (V : St) (l1 : Int32) (l2 : Int32), G p l e rm_X5_runTop s m args below meth c 0 0 (MQ below (va_Qi K (Bq D ad cy) A) args s 0 0 A) 3 D ad cy A (lp (fun _ _ _ => False) (h_X5_runTop_38 K) n V l1 l2) V 38 [some (.ref (ad 60)), some (.int l1), some (.int l2)] [] := by
    intro n
    induction n with
    | zero => exact fun _ _ _ h => False.elim h
    | succ n IH =>
      generalize hrec : lp (fun _ _ _ => False) (h_X5_runTop_38 K) n = rec_38 at IH
      have ih_38 := IH
      intro V l1 l2 
      show G p l e rm_X5_runTop s m args below meth c 0 0 (MQ below (va_Qi K (Bq D ad cy) A) args s 0 0 A) 3 D ad cy A (h_X5_runTop_38 K (lp (fun _ _ _ => False) (h_X5_runTop_38 K) n) V l1 l2) V 38 [some (.ref (ad 60)), some (.int l1), some (.int l2)] []
      rw [hrec]
      refine g_iload_n (pc := 38) hC dX5_runTop_38 rfl ?_
      refine g_aload_n (pc := 39) hC dX5_runTop_39 rfl ?_
      refine g_getI (pc := 40) hC fl_X5_152 (by decide) rfl rfl dX5_runTop_40 ?_
      refine g_icmp_ge (pc := 43) (tgt := 80) hC dX5_runTop_43 (by decide) ?_ ?_
      · refine g_bipush (pc := 80) hC (10 : Int32) dX5_runTop_80 (by decide) ?_
        refine g_iload_n (pc := 82) hC dX5_runTop_82 rfl ?_
        refine g_iadd (pc := 83) hC dX5_runTop_83 ?_
        exact g_iret (pc := 84) hC hrt hlk dX5_runTop_84
      · refine g_aload_n (pc := 46) hC dX5_runTop_46 rfl ?_
        refine g_getR (pc := 47) hC fl_X5_98 (by decide) rfl rfl dX5_runTop_47 ?_
        refine g_iload_n (pc := 50) hC dX5_runTop_50 rfl ?_
        refine g_aload_n (pc := 51) hC dX5_runTop_51 rfl ?_
        refine g_getR (pc := 52) hC fl_X5_98 (by decide) rfl rfl dX5_runTop_52 ?_
        refine g_iload_n (pc := 55) hC dX5_runTop_55 rfl ?_
        refine g_iconst (pc := 56) hC (1 : Int32) dX5_runTop_56 (by decide) ?_
        refine g_iadd (pc := 57) hC dX5_runTop_57 ?_
        refine g_iald (pc := 58) hC (by decide) rfl dX5_runTop_58 ?_
        refine g_iast (pc := 59) hC (by decide) rfl dX5_runTop_59 (fun V1 => ?_)
        refine g_aload_n (pc := 60) hC dX5_runTop_60 rfl ?_
        refine g_getR (pc := 61) hC fl_X5_101 (by decide) rfl rfl dX5_runTop_61 ?_
        refine g_iload_n (pc := 64) hC dX5_runTop_64 rfl ?_
        refine g_aload_n (pc := 65) hC dX5_runTop_65 rfl ?_
        refine g_getR (pc := 66) hC fl_X5_101 (by decide) rfl rfl dX5_runTop_66 ?_
        refine g_iload_n (pc := 69) hC dX5_runTop_69 rfl ?_
        refine g_iconst (pc := 70) hC (1 : Int32) dX5_runTop_70 (by decide) ?_
        refine g_iadd (pc := 71) hC dX5_runTop_71 ?_
        refine g_iald (pc := 72) hC (by decide) rfl dX5_runTop_72 ?_
        refine g_iast (pc := 73) hC (by decide) rfl dX5_runTop_73 (fun V2 => ?_)
        refine g_iinc (pc := 74) (L2 := [some (.ref (ad 60)), some (.int l1), some (.int (l2 + 1))]) hC (l2 + 1) dX5_runTop_74 rfl rfl (by decide) rfl ?_
        refine g_goto (pc := 77) (tgt := 38) hC dX5_runTop_77 (by decide) ?_
        exact ih_38 V2 l1 (l2 + 1)
  show G p l e rm_X5_runTop s m args below meth c 0 0 (MQ below (va_Qi K (Bq D ad cy) A) args s 0 0 A) 3 D ad cy A (wp_X5_runTop V K) V 0 [some (.ref (ad 60)), none, none] []
  refine g_aload_n (pc := 0) hC dX5_runTop_0 rfl ?_
  refine g_getR (pc := 1) hC fl_X5_98 (by decide) rfl rfl dX5_runTop_1 ?_
  refine g_iconst (pc := 4) hC (0 : Int32) dX5_runTop_4 (by decide) ?_
  refine g_iald (pc := 5) hC (by decide) rfl dX5_runTop_5 ?_
  refine g_nm (fun x1 => ?_)
  refine g_istore_n (pc := 6) (L2 := [some (.ref (ad 60)), some (.int x1), none]) hC dX5_runTop_6 (by decide) rfl ?_
  refine g_aload_n (pc := 7) hC dX5_runTop_7 rfl ?_
  refine g_getR (pc := 8) hC fl_X5_101 (by decide) rfl rfl dX5_runTop_8 ?_
  refine g_iconst (pc := 11) hC (0 : Int32) dX5_runTop_11 (by decide) ?_
  refine g_dup2 (pc := 12) hC dX5_runTop_12 rfl rfl ?_
  refine g_iald (pc := 13) hC (by decide) rfl dX5_runTop_13 ?_
  refine g_iconst (pc := 14) hC (1 : Int32) dX5_runTop_14 (by decide) ?_
  refine g_isub (pc := 15) hC dX5_runTop_15 ?_
  refine g_iast (pc := 16) hC (by decide) rfl dX5_runTop_16 (fun V2 => ?_)
  refine g_aload_n (pc := 17) hC dX5_runTop_17 rfl ?_
  refine g_getR (pc := 18) hC fl_X5_101 (by decide) rfl rfl dX5_runTop_18 ?_
  refine g_iconst (pc := 21) hC (0 : Int32) dX5_runTop_21 (by decide) ?_
  refine g_iald (pc := 22) hC (by decide) rfl dX5_runTop_22 ?_
  refine g_if_ne (pc := 23) (tgt := 80) hC dX5_runTop_23 (by decide) ?_ ?_
  · refine g_bipush (pc := 80) hC (10 : Int32) dX5_runTop_80 (by decide) ?_
    refine g_iload_n (pc := 82) hC dX5_runTop_82 rfl ?_
    refine g_iadd (pc := 83) hC dX5_runTop_83 ?_
    exact g_iret (pc := 84) hC hrt hlk dX5_runTop_84
  · refine g_aload_n (pc := 26) hC dX5_runTop_26 rfl ?_
    refine g_dup (pc := 27) hC dX5_runTop_27 rfl ?_
    refine g_getI (pc := 28) hC fl_X5_152 (by decide) rfl rfl dX5_runTop_28 ?_
    refine g_iconst (pc := 31) hC (1 : Int32) dX5_runTop_31 (by decide) ?_
    refine g_isub (pc := 32) hC dX5_runTop_32 ?_
    refine g_putI (pc := 33) hC fp_X5_152 (by decide) rfl rfl dX5_runTop_33 (fun V3 => ?_)
    refine g_iconst (pc := 36) hC (0 : Int32) dX5_runTop_36 (by decide) ?_
    refine g_istore_n (pc := 37) (L2 := [some (.ref (ad 60)), some (.int x1), some (.int (0 : Int32))]) hC dX5_runTop_37 (by decide) rfl ?_
    exact g_ex (fun n => J_38  n V3 x1 (0 : Int32))
def rm_X5_runHandler : Room := ({ frames := 1, cells := 0, slots := 0, locals := 23 } : Room)
def b_X5_runHandler_293 (K : St → Prop) (a1 : Int32) (V : St) (s0 : Int32) (s1 : Int32) : Prop := vp_in s1 6 ∧ (s0 = 0 ∨ s0 = 1) ∧ ∀ V1 : St, V1 = up2 V 76 s1.toNatClampNeg s0 → vp_in a1 6 ∧ if (V1 68 a1.toNatClampNeg) = 0 then (vp_in a1 6 ∧ ∀ V3 : St, V3 = up2 V1 71 a1.toNatClampNeg (-1 : Int32) → K V3) else (vp_in a1 6 ∧ vp_in a1 6 ∧ ∀ V2 : St, V2 = up2 V1 71 a1.toNatClampNeg (V1 71 a1.toNatClampNeg) → K V2)
def b_X5_runHandler_292 (K : St → Prop) (a1 : Int32) (V : St) (s0 : Int32) : Prop := b_X5_runHandler_293 K a1 V (0 : Int32) s0
def h_X5_runHandler_215 (K : St → Prop) (a1 : Int32) (rec_215 : St → Int32 → Prop) (V : St) (l5 : Int32) : Prop := vp_in a1 6 ∧ if (((32 : Int32) * a1) + (V 68 a1.toNatClampNeg)) ≤ l5 then (vp_in a1 6 ∧ vp_in a1 6 ∧ ∀ V1 : St, V1 = up2 V 79 a1.toNatClampNeg ((V 79 a1.toNatClampNeg) + (1 : Int32)) → vp_in a1 6 ∧ if (V1 76 a1.toNatClampNeg) = 0 then (b_X5_runHandler_292 K a1 V1 a1) else (vp_in a1 6 ∧ if (V1 68 a1.toNatClampNeg) ≤ (8 : Int32) then (b_X5_runHandler_292 K a1 V1 a1) else (b_X5_runHandler_293 K a1 V1 (1 : Int32) a1))) else (vp_in (l5 + (1 : Int32)) 192 ∧ vp_in l5 192 ∧ ∀ V2 : St, V2 = up2 V 69 l5.toNatClampNeg (V 69 (l5 + (1 : Int32)).toNatClampNeg) → rec_215 V2 (l5 + 1))
def b_X5_runHandler_198 (K : St → Prop) (a1 : Int32) (V : St) (s0 : Int32) (s1 : Int32) : Prop := vp_in s1 6 ∧ ∀ V1 : St, V1 = up2 V 81 s1.toNatClampNeg s0 → vp_in a1 6 ∧ vp_in a1 6 ∧ ∀ V2 : St, V2 = up2 V1 68 a1.toNatClampNeg ((V1 68 a1.toNatClampNeg) - (1 : Int32)) → ∀ x3 : Int32, x3 = ((32 : Int32) * a1) → ∃ n, lp (fun _ _ => False) (h_X5_runHandler_215 K a1) n V2 x3
def b_X5_runHandler_107 (K : St → Prop) (a1 : Int32) (V : St) (s0 : Int32) : Prop := vp_in a1 6 ∧ wp_X5_spend V (fun (V1 : St) => vp_in a1 6 ∧ vp_in a1 6 ∧ ∀ V2 : St, V2 = up2 V1 70 a1.toNatClampNeg ((V1 70 a1.toNatClampNeg) + (1 : Int32)) → vp_in a1 6 ∧ vp_in a1 6 ∧ if (V2 70 a1.toNatClampNeg) = (V2 63 a1.toNatClampNeg) then (vp_in a1 6 ∧ ∀ V3 : St, V3 = up2 V2 70 a1.toNatClampNeg (0 : Int32) → vp_in ((32 : Int32) * a1) 192 ∧ ∀ x4 : Int32, x4 = (((V3 60 1) + (1 : Int32)) - (V3 69 ((32 : Int32) * a1).toNatClampNeg)) → vp_in a1 6 ∧ if x4 ≤ (V3 81 a1.toNatClampNeg) then (vp_in a1 6 ∧ b_X5_runHandler_198 K a1 V3 (V3 81 a1.toNatClampNeg) a1) else (b_X5_runHandler_198 K a1 V3 x4 a1)) else (K V2)) a1 (s0 + (V 66 a1.toNatClampNeg))
def h_X5_runHandler_51 (K : St → Prop) (a1 : Int32) (rec_51 : St → Int32 → Int32 → Int32 → Prop) (V : St) (l2 : Int32) (l3 : Int32) (l4 : Int32) : Prop := if (((30 : Int32) * a1) + l2) ≤ l4 then (vp_in a1 6 ∧ if ((V 60 1) - l3) < (V 66 a1.toNatClampNeg) then (b_X5_runHandler_107 K a1 V l3) else (b_X5_runHandler_107 K a1 V (V 60 1))) else (vp_in l4 180 ∧ vp_in (l4 - (1 : Int32)) 180 ∧ ∀ V1 : St, V1 = up2 V 72 (l4 - (1 : Int32)).toNatClampNeg (V 72 l4.toNatClampNeg) → rec_51 V1 l2 l3 (l4 + 1))
def b_X5_runHandler_42 (K : St → Prop) (a1 : Int32) (V : St) (l2 : Int32) (s0 : Int32) : Prop := ∀ x1 : Int32, x1 = (((30 : Int32) * a1) + (1 : Int32)) → ∃ n, lp (fun _ _ _ _ => False) (h_X5_runHandler_51 K a1) n V l2 s0 x1
def wp_X5_runHandler (V : St) (K : St → Prop) (a1 : Int32) : Prop := wp_X5_budgetLeft V (fun (r1 : Int32) (V2 : St) => vp_in ((30 : Int32) * a1) 180 ∧ vp_in a1 6 ∧ if (V2 72 ((30 : Int32) * a1).toNatClampNeg) ≤ (V2 71 a1.toNatClampNeg) then (vp_in a1 6 ∧ b_X5_runHandler_42 K a1 V2 r1 (V2 71 a1.toNatClampNeg)) else (vp_in ((30 : Int32) * a1) 180 ∧ b_X5_runHandler_42 K a1 V2 r1 (V2 72 ((30 : Int32) * a1).toNatClampNeg))) a1
set_option maxRecDepth 100000 in
set_option maxHeartbeats 4000000 in
theorem c_X5_runHandler {l : Launch} {D : va_G} {ad : Nat → Nat} {cy : Nat → ClassId} (hi : inj ad) {V : St} {K : St → Prop} {a1 : Int32} : wp_X5_runHandler V K a1 → Hv l D ad cy yX5_runHandler (Cond.code yX5_runHandler cX5_runHandler 6 none :: WA) rm_X5_runHandler [.ref (ad 60), .int a1] V K := by
  refine H_v (w := wp_X5_runHandler V K a1) (by decide) (Nat.le_of_ble_eq_true rfl) (List.forall_mem_cons.mpr ⟨rfl, (List.forall_mem_cons.mpr ⟨rfl, (fun _ h => absurd h List.not_mem_nil)⟩)⟩) hi ?_
  intro p e s m args below meth c A hC hrt hlk
  have J_293 : ∀ (V : St) (s0 : Int32) (s1 : Int32), G p l e rm_X5_runHandler s m args below meth c 0 0 (MQ below (va_Qv K (Bq D ad cy) A) args s 0 0 A) 6 D ad cy A (b_X5_runHandler_293 K a1 V s0 s1) V 293 [some (.ref (ad 60)), some (.int a1), none, none, none, none] [.int s0, .int s1, .ref (ad 76)] := by
    intro  V s0 s1 
    refine g_zast (pc := 293) hC (by decide) rfl dX5_runHandler_293 (fun V1 => ?_)
    refine g_aload_n (pc := 294) hC dX5_runHandler_294 rfl ?_
    refine g_getR (pc := 295) hC fl_X5_41 (by decide) rfl rfl dX5_runHandler_295 ?_
    refine g_iload_n (pc := 298) hC dX5_runHandler_298 rfl ?_
    refine g_aload_n (pc := 299) hC dX5_runHandler_299 rfl ?_
    refine g_getR (pc := 300) hC fl_X5_32 (by decide) rfl rfl dX5_runHandler_300 ?_
    refine g_iload_n (pc := 303) hC dX5_runHandler_303 rfl ?_
    refine g_iald (pc := 304) hC (by decide) rfl dX5_runHandler_304 ?_
    refine g_if_ne (pc := 305) (tgt := 312) hC dX5_runHandler_305 (by decide) ?_ ?_
    · refine g_aload_n (pc := 312) hC dX5_runHandler_312 rfl ?_
      refine g_getR (pc := 313) hC fl_X5_41 (by decide) rfl rfl dX5_runHandler_313 ?_
      refine g_iload_n (pc := 316) hC dX5_runHandler_316 rfl ?_
      refine g_iald (pc := 317) hC (by decide) rfl dX5_runHandler_317 ?_
      refine g_iast (pc := 318) hC (by decide) rfl dX5_runHandler_318 (fun V2 => ?_)
      exact g_vret (pc := 319) hC hrt hlk dX5_runHandler_319
    · refine g_iconst (pc := 308) hC (-1 : Int32) dX5_runHandler_308 (by decide) ?_
      refine g_goto (pc := 309) (tgt := 318) hC dX5_runHandler_309 (by decide) ?_
      refine g_iast (pc := 318) hC (by decide) rfl dX5_runHandler_318 (fun V3 => ?_)
      exact g_vret (pc := 319) hC hrt hlk dX5_runHandler_319
  have J_292 : ∀ (V : St) (s0 : Int32), G p l e rm_X5_runHandler s m args below meth c 0 0 (MQ below (va_Qv K (Bq D ad cy) A) args s 0 0 A) 6 D ad cy A (b_X5_runHandler_292 K a1 V s0) V 292 [some (.ref (ad 60)), some (.int a1), none, none, none, none] [.int s0, .ref (ad 76)] := by
    intro  V s0 
    refine g_iconst (pc := 292) hC (0 : Int32) dX5_runHandler_292 (by decide) ?_
    exact J_293  V (0 : Int32) s0
  have J_215 : ∀ (n : Nat), ∀ (V : St) (l5 : Int32), G p l e rm_X5_runHandler s m args below meth c 0 0 (MQ below (va_Qv K (Bq D ad cy) A) args s 0 0 A) 6 D ad cy A (lp (fun _ _ => False) (h_X5_runHandler_215 K a1) n V l5) V 215 [some (.ref (ad 60)), some (.int a1), none, none, none, some (.int l5)] [] := by
    intro n
    induction n with
    | zero => exact fun _ _ h => False.elim h
    | succ n IH =>
      generalize hrec : lp (fun _ _ => False) (h_X5_runHandler_215 K a1) n = rec_215 at IH
      have ih_215 := IH
      intro V l5 
      show G p l e rm_X5_runHandler s m args below meth c 0 0 (MQ below (va_Qv K (Bq D ad cy) A) args s 0 0 A) 6 D ad cy A (h_X5_runHandler_215 K a1 (lp (fun _ _ => False) (h_X5_runHandler_215 K a1) n) V l5) V 215 [some (.ref (ad 60)), some (.int a1), none, none, none, some (.int l5)] []
      rw [hrec]
      refine g_iload (pc := 215) hC dX5_runHandler_215 rfl ?_
      refine g_bipush (pc := 217) hC (32 : Int32) dX5_runHandler_217 (by decide) ?_
      refine g_iload_n (pc := 219) hC dX5_runHandler_219 rfl ?_
      refine g_imul (pc := 220) hC dX5_runHandler_220 ?_
      refine g_aload_n (pc := 221) hC dX5_runHandler_221 rfl ?_
      refine g_getR (pc := 222) hC fl_X5_32 (by decide) rfl rfl dX5_runHandler_222 ?_
      refine g_iload_n (pc := 225) hC dX5_runHandler_225 rfl ?_
      refine g_iald (pc := 226) hC (by decide) rfl dX5_runHandler_226 ?_
      refine g_iadd (pc := 227) hC dX5_runHandler_227 ?_
      refine g_icmp_ge (pc := 228) (tgt := 253) hC dX5_runHandler_228 (by decide) ?_ ?_
      · refine g_aload_n (pc := 253) hC dX5_runHandler_253 rfl ?_
        refine g_getR (pc := 254) hC fl_X5_65 (by decide) rfl rfl dX5_runHandler_254 ?_
        refine g_iload_n (pc := 257) hC dX5_runHandler_257 rfl ?_
        refine g_dup2 (pc := 258) hC dX5_runHandler_258 rfl rfl ?_
        refine g_iald (pc := 259) hC (by decide) rfl dX5_runHandler_259 ?_
        refine g_iconst (pc := 260) hC (1 : Int32) dX5_runHandler_260 (by decide) ?_
        refine g_iadd (pc := 261) hC dX5_runHandler_261 ?_
        refine g_iast (pc := 262) hC (by decide) rfl dX5_runHandler_262 (fun V1 => ?_)
        refine g_aload_n (pc := 263) hC dX5_runHandler_263 rfl ?_
        refine g_getR (pc := 264) hC fl_X5_56 (by decide) rfl rfl dX5_runHandler_264 ?_
        refine g_iload_n (pc := 267) hC dX5_runHandler_267 rfl ?_
        refine g_aload_n (pc := 268) hC dX5_runHandler_268 rfl ?_
        refine g_getR (pc := 269) hC fl_X5_56 (by decide) rfl rfl dX5_runHandler_269 ?_
        refine g_iload_n (pc := 272) hC dX5_runHandler_272 rfl ?_
        refine g_zald (pc := 273) hC (by decide) rfl dX5_runHandler_273 ?_
        refine g_if_eq (pc := 274) (tgt := 292) hC dX5_runHandler_274 (by decide) ?_ ?_
        · exact g_ms [true, true, false, false, false, false] (J_292  V1 a1)
        · refine g_aload_n (pc := 277) hC dX5_runHandler_277 rfl ?_
          refine g_getR (pc := 278) hC fl_X5_32 (by decide) rfl rfl dX5_runHandler_278 ?_
          refine g_iload_n (pc := 281) hC dX5_runHandler_281 rfl ?_
          refine g_iald (pc := 282) hC (by decide) rfl dX5_runHandler_282 ?_
          refine g_bipush (pc := 283) hC (8 : Int32) dX5_runHandler_283 (by decide) ?_
          refine g_icmp_le (pc := 285) (tgt := 292) hC dX5_runHandler_285 (by decide) ?_ ?_
          · exact g_ms [true, true, false, false, false, false] (J_292  V1 a1)
          · refine g_iconst (pc := 288) hC (1 : Int32) dX5_runHandler_288 (by decide) ?_
            refine g_goto (pc := 289) (tgt := 293) hC dX5_runHandler_289 (by decide) ?_
            exact g_ms [true, true, false, false, false, false] (J_293  V1 (1 : Int32) a1)
      · refine g_aload_n (pc := 231) hC dX5_runHandler_231 rfl ?_
        refine g_getR (pc := 232) hC fl_X5_35 (by decide) rfl rfl dX5_runHandler_232 ?_
        refine g_iload (pc := 235) hC dX5_runHandler_235 rfl ?_
        refine g_aload_n (pc := 237) hC dX5_runHandler_237 rfl ?_
        refine g_getR (pc := 238) hC fl_X5_35 (by decide) rfl rfl dX5_runHandler_238 ?_
        refine g_iload (pc := 241) hC dX5_runHandler_241 rfl ?_
        refine g_iconst (pc := 243) hC (1 : Int32) dX5_runHandler_243 (by decide) ?_
        refine g_iadd (pc := 244) hC dX5_runHandler_244 ?_
        refine g_iald (pc := 245) hC (by decide) rfl dX5_runHandler_245 ?_
        refine g_iast (pc := 246) hC (by decide) rfl dX5_runHandler_246 (fun V2 => ?_)
        refine g_iinc (pc := 247) (L2 := [some (.ref (ad 60)), some (.int a1), none, none, none, some (.int (l5 + 1))]) hC (l5 + 1) dX5_runHandler_247 rfl rfl (by decide) rfl ?_
        refine g_goto (pc := 250) (tgt := 215) hC dX5_runHandler_250 (by decide) ?_
        exact ih_215 V2 (l5 + 1)
  have J_198 : ∀ (V : St) (s0 : Int32) (s1 : Int32), G p l e rm_X5_runHandler s m args below meth c 0 0 (MQ below (va_Qv K (Bq D ad cy) A) args s 0 0 A) 6 D ad cy A (b_X5_runHandler_198 K a1 V s0 s1) V 198 [some (.ref (ad 60)), some (.int a1), none, none, none, none] [.int s0, .int s1, .ref (ad 81)] := by
    intro  V s0 s1 
    refine g_iast (pc := 198) hC (by decide) rfl dX5_runHandler_198 (fun V1 => ?_)
    refine g_aload_n (pc := 199) hC dX5_runHandler_199 rfl ?_
    refine g_getR (pc := 200) hC fl_X5_32 (by decide) rfl rfl dX5_runHandler_200 ?_
    refine g_iload_n (pc := 203) hC dX5_runHandler_203 rfl ?_
    refine g_dup2 (pc := 204) hC dX5_runHandler_204 rfl rfl ?_
    refine g_iald (pc := 205) hC (by decide) rfl dX5_runHandler_205 ?_
    refine g_iconst (pc := 206) hC (1 : Int32) dX5_runHandler_206 (by decide) ?_
    refine g_isub (pc := 207) hC dX5_runHandler_207 ?_
    refine g_iast (pc := 208) hC (by decide) rfl dX5_runHandler_208 (fun V2 => ?_)
    refine g_bipush (pc := 209) hC (32 : Int32) dX5_runHandler_209 (by decide) ?_
    refine g_iload_n (pc := 211) hC dX5_runHandler_211 rfl ?_
    refine g_imul (pc := 212) hC dX5_runHandler_212 ?_
    refine g_nm (fun x3 => ?_)
    refine g_istore (pc := 213) (L2 := [some (.ref (ad 60)), some (.int a1), none, none, none, some (.int x3)]) hC dX5_runHandler_213 (by decide) rfl ?_
    exact g_ex (fun n => J_215  n V2 x3)
  have J_107 : ∀ (V : St) (s0 : Int32), G p l e rm_X5_runHandler s m args below meth c 0 0 (MQ below (va_Qv K (Bq D ad cy) A) args s 0 0 A) 6 D ad cy A (b_X5_runHandler_107 K a1 V s0) V 107 [some (.ref (ad 60)), some (.int a1), none, none, none, none] [.int s0] := by
    intro  V s0 
    refine g_istore_n (pc := 107) (L2 := [some (.ref (ad 60)), some (.int a1), none, some (.int s0), none, none]) hC dX5_runHandler_107 (by decide) rfl ?_
    refine g_aload_n (pc := 108) hC dX5_runHandler_108 rfl ?_
    refine g_iload_n (pc := 109) hC dX5_runHandler_109 rfl ?_
    refine g_iload_n (pc := 110) hC dX5_runHandler_110 rfl ?_
    refine g_aload_n (pc := 111) hC dX5_runHandler_111 rfl ?_
    refine g_getR (pc := 112) hC fl_X5_26 (by decide) rfl rfl dX5_runHandler_112 ?_
    refine g_iload_n (pc := 115) hC dX5_runHandler_115 rfl ?_
    refine g_iald (pc := 116) hC (by decide) rfl dX5_runHandler_116 ?_
    refine g_iadd (pc := 117) hC dX5_runHandler_117 ?_
    refine g_cvv (pc := 118) hC (c_X5_spend hC.2.2.2.1) mi_X5_spend ww_776 ⟨rfl, rfl⟩ ⟨by decide, by decide⟩ (by decide) rfl rfl rfl rfl (Nat.le_of_ble_eq_true rfl) ⟨Nat.le_of_ble_eq_true rfl, Nat.le_of_ble_eq_true rfl⟩ dX5_runHandler_118 (fun V1 => ?_)
    refine g_aload_n (pc := 121) hC dX5_runHandler_121 rfl ?_
    refine g_getR (pc := 122) hC fl_X5_38 (by decide) rfl rfl dX5_runHandler_122 ?_
    refine g_iload_n (pc := 125) hC dX5_runHandler_125 rfl ?_
    refine g_dup2 (pc := 126) hC dX5_runHandler_126 rfl rfl ?_
    refine g_iald (pc := 127) hC (by decide) rfl dX5_runHandler_127 ?_
    refine g_iconst (pc := 128) hC (1 : Int32) dX5_runHandler_128 (by decide) ?_
    refine g_iadd (pc := 129) hC dX5_runHandler_129 ?_
    refine g_iast (pc := 130) hC (by decide) rfl dX5_runHandler_130 (fun V2 => ?_)
    refine g_aload_n (pc := 131) hC dX5_runHandler_131 rfl ?_
    refine g_getR (pc := 132) hC fl_X5_38 (by decide) rfl rfl dX5_runHandler_132 ?_
    refine g_iload_n (pc := 135) hC dX5_runHandler_135 rfl ?_
    refine g_iald (pc := 136) hC (by decide) rfl dX5_runHandler_136 ?_
    refine g_aload_n (pc := 137) hC dX5_runHandler_137 rfl ?_
    refine g_getR (pc := 138) hC fl_X5_17 (by decide) rfl rfl dX5_runHandler_138 ?_
    refine g_iload_n (pc := 141) hC dX5_runHandler_141 rfl ?_
    refine g_iald (pc := 142) hC (by decide) rfl dX5_runHandler_142 ?_
    refine g_icmp_ne (pc := 143) (tgt := 319) hC dX5_runHandler_143 (by decide) ?_ ?_
    · exact g_vret (pc := 319) hC hrt hlk dX5_runHandler_319
    · refine g_aload_n (pc := 146) hC dX5_runHandler_146 rfl ?_
      refine g_getR (pc := 147) hC fl_X5_38 (by decide) rfl rfl dX5_runHandler_147 ?_
      refine g_iload_n (pc := 150) hC dX5_runHandler_150 rfl ?_
      refine g_iconst (pc := 151) hC (0 : Int32) dX5_runHandler_151 (by decide) ?_
      refine g_iast (pc := 152) hC (by decide) rfl dX5_runHandler_152 (fun V3 => ?_)
      refine g_aload_n (pc := 153) hC dX5_runHandler_153 rfl ?_
      refine g_getI (pc := 154) hC fl_X5_115 (by decide) rfl rfl dX5_runHandler_154 ?_
      refine g_iconst (pc := 157) hC (1 : Int32) dX5_runHandler_157 (by decide) ?_
      refine g_iadd (pc := 158) hC dX5_runHandler_158 ?_
      refine g_aload_n (pc := 159) hC dX5_runHandler_159 rfl ?_
      refine g_getR (pc := 160) hC fl_X5_35 (by decide) rfl rfl dX5_runHandler_160 ?_
      refine g_bipush (pc := 163) hC (32 : Int32) dX5_runHandler_163 (by decide) ?_
      refine g_iload_n (pc := 165) hC dX5_runHandler_165 rfl ?_
      refine g_imul (pc := 166) hC dX5_runHandler_166 ?_
      refine g_iald (pc := 167) hC (by decide) rfl dX5_runHandler_167 ?_
      refine g_isub (pc := 168) hC dX5_runHandler_168 ?_
      refine g_nm (fun x4 => ?_)
      refine g_istore (pc := 169) (L2 := [some (.ref (ad 60)), some (.int a1), none, some (.int s0), some (.int x4), none]) hC dX5_runHandler_169 (by decide) rfl ?_
      refine g_aload_n (pc := 171) hC dX5_runHandler_171 rfl ?_
      refine g_getR (pc := 172) hC fl_X5_71 (by decide) rfl rfl dX5_runHandler_172 ?_
      refine g_iload_n (pc := 175) hC dX5_runHandler_175 rfl ?_
      refine g_iload (pc := 176) hC dX5_runHandler_176 rfl ?_
      refine g_aload_n (pc := 178) hC dX5_runHandler_178 rfl ?_
      refine g_getR (pc := 179) hC fl_X5_71 (by decide) rfl rfl dX5_runHandler_179 ?_
      refine g_iload_n (pc := 182) hC dX5_runHandler_182 rfl ?_
      refine g_iald (pc := 183) hC (by decide) rfl dX5_runHandler_183 ?_
      refine g_icmp_le (pc := 184) (tgt := 192) hC dX5_runHandler_184 (by decide) ?_ ?_
      · refine g_aload_n (pc := 192) hC dX5_runHandler_192 rfl ?_
        refine g_getR (pc := 193) hC fl_X5_71 (by decide) rfl rfl dX5_runHandler_193 ?_
        refine g_iload_n (pc := 196) hC dX5_runHandler_196 rfl ?_
        refine g_iald (pc := 197) hC (by decide) rfl dX5_runHandler_197 ?_
        exact g_ms [true, true, false, false, false, false] (J_198  V3 (V3 81 a1.toNatClampNeg) a1)
      · refine g_iload (pc := 187) hC dX5_runHandler_187 rfl ?_
        refine g_goto (pc := 189) (tgt := 198) hC dX5_runHandler_189 (by decide) ?_
        exact g_ms [true, true, false, false, false, false] (J_198  V3 x4 a1)
  have J_51 : ∀ (n : Nat), ∀ (V : St) (l2 : Int32) (l3 : Int32) (l4 : Int32), G p l e rm_X5_runHandler s m args below meth c 0 0 (MQ below (va_Qv K (Bq D ad cy) A) args s 0 0 A) 6 D ad cy A (lp (fun _ _ _ _ => False) (h_X5_runHandler_51 K a1) n V l2 l3 l4) V 51 [some (.ref (ad 60)), some (.int a1), some (.int l2), some (.int l3), some (.int l4), none] [] := by
    intro n
    induction n with
    | zero => exact fun _ _ _ _ h => False.elim h
    | succ n IH =>
      generalize hrec : lp (fun _ _ _ _ => False) (h_X5_runHandler_51 K a1) n = rec_51 at IH
      have ih_51 := IH
      intro V l2 l3 l4 
      show G p l e rm_X5_runHandler s m args below meth c 0 0 (MQ below (va_Qv K (Bq D ad cy) A) args s 0 0 A) 6 D ad cy A (h_X5_runHandler_51 K a1 (lp (fun _ _ _ _ => False) (h_X5_runHandler_51 K a1) n) V l2 l3 l4) V 51 [some (.ref (ad 60)), some (.int a1), some (.int l2), some (.int l3), some (.int l4), none] []
      rw [hrec]
      refine g_iload (pc := 51) hC dX5_runHandler_51 rfl ?_
      refine g_bipush (pc := 53) hC (30 : Int32) dX5_runHandler_53 (by decide) ?_
      refine g_iload_n (pc := 55) hC dX5_runHandler_55 rfl ?_
      refine g_imul (pc := 56) hC dX5_runHandler_56 ?_
      refine g_iload_n (pc := 57) hC dX5_runHandler_57 rfl ?_
      refine g_iadd (pc := 58) hC dX5_runHandler_58 ?_
      refine g_icmp_ge (pc := 59) (tgt := 84) hC dX5_runHandler_59 (by decide) ?_ ?_
      · refine g_aload_n (pc := 84) hC dX5_runHandler_84 rfl ?_
        refine g_getI (pc := 85) hC fl_X5_115 (by decide) rfl rfl dX5_runHandler_85 ?_
        refine g_iload_n (pc := 88) hC dX5_runHandler_88 rfl ?_
        refine g_isub (pc := 89) hC dX5_runHandler_89 ?_
        refine g_aload_n (pc := 90) hC dX5_runHandler_90 rfl ?_
        refine g_getR (pc := 91) hC fl_X5_26 (by decide) rfl rfl dX5_runHandler_91 ?_
        refine g_iload_n (pc := 94) hC dX5_runHandler_94 rfl ?_
        refine g_iald (pc := 95) hC (by decide) rfl dX5_runHandler_95 ?_
        refine g_icmp_lt (pc := 96) (tgt := 106) hC dX5_runHandler_96 (by decide) ?_ ?_
        · refine g_iload_n (pc := 106) hC dX5_runHandler_106 rfl ?_
          exact g_ms [true, true, false, false, false, false] (J_107  V l3)
        · refine g_aload_n (pc := 99) hC dX5_runHandler_99 rfl ?_
          refine g_getI (pc := 100) hC fl_X5_115 (by decide) rfl rfl dX5_runHandler_100 ?_
          refine g_goto (pc := 103) (tgt := 107) hC dX5_runHandler_103 (by decide) ?_
          exact g_ms [true, true, false, false, false, false] (J_107  V (V 60 1))
      · refine g_aload_n (pc := 62) hC dX5_runHandler_62 rfl ?_
        refine g_getR (pc := 63) hC fl_X5_44 (by decide) rfl rfl dX5_runHandler_63 ?_
        refine g_iload (pc := 66) hC dX5_runHandler_66 rfl ?_
        refine g_iconst (pc := 68) hC (1 : Int32) dX5_runHandler_68 (by decide) ?_
        refine g_isub (pc := 69) hC dX5_runHandler_69 ?_
        refine g_aload_n (pc := 70) hC dX5_runHandler_70 rfl ?_
        refine g_getR (pc := 71) hC fl_X5_44 (by decide) rfl rfl dX5_runHandler_71 ?_
        refine g_iload (pc := 74) hC dX5_runHandler_74 rfl ?_
        refine g_iald (pc := 76) hC (by decide) rfl dX5_runHandler_76 ?_
        refine g_iast (pc := 77) hC (by decide) rfl dX5_runHandler_77 (fun V1 => ?_)
        refine g_iinc (pc := 78) (L2 := [some (.ref (ad 60)), some (.int a1), some (.int l2), some (.int l3), some (.int (l4 + 1)), none]) hC (l4 + 1) dX5_runHandler_78 rfl rfl (by decide) rfl ?_
        refine g_goto (pc := 81) (tgt := 51) hC dX5_runHandler_81 (by decide) ?_
        exact ih_51 V1 l2 l3 (l4 + 1)
  have J_42 : ∀ (V : St) (l2 : Int32) (s0 : Int32), G p l e rm_X5_runHandler s m args below meth c 0 0 (MQ below (va_Qv K (Bq D ad cy) A) args s 0 0 A) 6 D ad cy A (b_X5_runHandler_42 K a1 V l2 s0) V 42 [some (.ref (ad 60)), some (.int a1), some (.int l2), none, none, none] [.int s0] := by
    intro  V l2 s0 
    refine g_istore_n (pc := 42) (L2 := [some (.ref (ad 60)), some (.int a1), some (.int l2), some (.int s0), none, none]) hC dX5_runHandler_42 (by decide) rfl ?_
    refine g_bipush (pc := 43) hC (30 : Int32) dX5_runHandler_43 (by decide) ?_
    refine g_iload_n (pc := 45) hC dX5_runHandler_45 rfl ?_
    refine g_imul (pc := 46) hC dX5_runHandler_46 ?_
    refine g_iconst (pc := 47) hC (1 : Int32) dX5_runHandler_47 (by decide) ?_
    refine g_iadd (pc := 48) hC dX5_runHandler_48 ?_
    refine g_nm (fun x1 => ?_)
    refine g_istore (pc := 49) (L2 := [some (.ref (ad 60)), some (.int a1), some (.int l2), some (.int s0), some (.int x1), none]) hC dX5_runHandler_49 (by decide) rfl ?_
    exact g_ex (fun n => J_51  n V l2 s0 x1)
  show G p l e rm_X5_runHandler s m args below meth c 0 0 (MQ below (va_Qv K (Bq D ad cy) A) args s 0 0 A) 6 D ad cy A (wp_X5_runHandler V K a1) V 0 [some (.ref (ad 60)), some (.int a1), none, none, none, none] []
  refine g_aload_n (pc := 0) hC dX5_runHandler_0 rfl ?_
  refine g_iload_n (pc := 1) hC dX5_runHandler_1 rfl ?_
  refine g_cvi (pc := 2) hC (c_X5_budgetLeft hC.2.2.2.1) mi_X5_budgetLeft ww_756 ⟨rfl, rfl⟩ ⟨by decide, by decide⟩ (by decide) rfl rfl rfl rfl (Nat.le_of_ble_eq_true rfl) ⟨Nat.le_of_ble_eq_true rfl, Nat.le_of_ble_eq_true rfl⟩ dX5_runHandler_2 (fun r1 V2 => ?_)
  refine g_istore_n (pc := 5) (L2 := [some (.ref (ad 60)), some (.int a1), some (.int r1), none, none, none]) hC dX5_runHandler_5 (by decide) rfl ?_
  refine g_aload_n (pc := 6) hC dX5_runHandler_6 rfl ?_
  refine g_getR (pc := 7) hC fl_X5_44 (by decide) rfl rfl dX5_runHandler_7 ?_
  refine g_bipush (pc := 10) hC (30 : Int32) dX5_runHandler_10 (by decide) ?_
  refine g_iload_n (pc := 12) hC dX5_runHandler_12 rfl ?_
  refine g_imul (pc := 13) hC dX5_runHandler_13 ?_
  refine g_iald (pc := 14) hC (by decide) rfl dX5_runHandler_14 ?_
  refine g_aload_n (pc := 15) hC dX5_runHandler_15 rfl ?_
  refine g_getR (pc := 16) hC fl_X5_41 (by decide) rfl rfl dX5_runHandler_16 ?_
  refine g_iload_n (pc := 19) hC dX5_runHandler_19 rfl ?_
  refine g_iald (pc := 20) hC (by decide) rfl dX5_runHandler_20 ?_
  refine g_icmp_le (pc := 21) (tgt := 36) hC dX5_runHandler_21 (by decide) ?_ ?_
  · refine g_aload_n (pc := 36) hC dX5_runHandler_36 rfl ?_
    refine g_getR (pc := 37) hC fl_X5_41 (by decide) rfl rfl dX5_runHandler_37 ?_
    refine g_iload_n (pc := 40) hC dX5_runHandler_40 rfl ?_
    refine g_iald (pc := 41) hC (by decide) rfl dX5_runHandler_41 ?_
    exact J_42  V2 r1 (V2 71 a1.toNatClampNeg)
  · refine g_aload_n (pc := 24) hC dX5_runHandler_24 rfl ?_
    refine g_getR (pc := 25) hC fl_X5_44 (by decide) rfl rfl dX5_runHandler_25 ?_
    refine g_bipush (pc := 28) hC (30 : Int32) dX5_runHandler_28 (by decide) ?_
    refine g_iload_n (pc := 30) hC dX5_runHandler_30 rfl ?_
    refine g_imul (pc := 31) hC dX5_runHandler_31 ?_
    refine g_iald (pc := 32) hC (by decide) rfl dX5_runHandler_32 ?_
    refine g_goto (pc := 33) (tgt := 42) hC dX5_runHandler_33 (by decide) ?_
    exact J_42  V2 r1 (V2 72 ((30 : Int32) * a1).toNatClampNeg)
def rm_X5_runOne : Room := ({ frames := 2, cells := 0, slots := 0, locals := 48 } : Room)
def b_X5_runOne_179 (K : Int32 → St → Prop) (V : St) (l1 : Int32) (s0 : Int32) (s1 : Int32) : Prop := vp_in s1 6 ∧ ∀ V1 : St, V1 = up2 V 89 s1.toNatClampNeg s0 → K ((30 : Int32) + l1) V1
def b_X5_runOne_120 (K : Int32 → St → Prop) (rec_77 : St → Int32 → Int32 → Prop) (V : St) (l2 : Int32) : Prop := rec_77 V l2 (l2 + 1)
def h_X5_runOne_77 (K : Int32 → St → Prop) (rec_77 : St → Int32 → Int32 → Prop) (V : St) (l1 : Int32) (l2 : Int32) : Prop := if (6 : Int32) ≤ l2 then (if 0 ≤ l1 then (vp_in l1 6 ∧ vp_in l1 6 ∧ ∀ V1 : St, V1 = up2 V 87 l1.toNatClampNeg ((V 87 l1.toNatClampNeg) - (1 : Int32)) → vp_in l1 6 ∧ if (V1 87 l1.toNatClampNeg) = 0 then (vp_in l1 6 ∧ b_X5_runOne_179 K V1 l1 ((V1 89 l1.toNatClampNeg) + (1 : Int32)) l1) else (vp_in l1 6 ∧ b_X5_runOne_179 K V1 l1 (V1 89 l1.toNatClampNeg) l1)) else (K (0 : Int32) V)) else (vp_in l2 6 ∧ if (V 82 l2.toNatClampNeg) = 0 then (rec_77 V l1 (l2 + 1)) else (vp_in l2 6 ∧ if (V 87 l2.toNatClampNeg) ≤ 0 then (rec_77 V l1 (l2 + 1)) else (if l1 < 0 then (b_X5_runOne_120 K rec_77 V l2) else (vp_in l2 6 ∧ vp_in l1 6 ∧ if (V 85 l2.toNatClampNeg) ≤ (V 85 l1.toNatClampNeg) then (rec_77 V l1 (l2 + 1)) else (b_X5_runOne_120 K rec_77 V l2)))))
def b_X5_runOne_49 (K : Int32 → St → Prop) (rec_16 : St → Int32 → Int32 → Prop) (V : St) (l2 : Int32) : Prop := rec_16 V l2 (l2 + 1)
def h_X5_runOne_16 (K : Int32 → St → Prop) (rec_16 : St → Int32 → Int32 → Prop) (V : St) (l1 : Int32) (l2 : Int32) : Prop := if (6 : Int32) ≤ l2 then (if l1 < 0 then (∃ n, lp (fun _ _ _ => False) (h_X5_runOne_77 K) n V l1 (0 : Int32)) else (wp_X5_runHandler V (fun (V1 : St) => K ((20 : Int32) + l1) V1) l1)) else (wp_X5_isReady V (fun (r2 : Int32) (V3 : St) => if r2 = 0 then (rec_16 V3 l1 (l2 + 1)) else (if l1 < 0 then (b_X5_runOne_49 K rec_16 V3 l2) else (vp_in l2 6 ∧ vp_in l1 6 ∧ if (V3 67 l2.toNatClampNeg) ≤ (V3 67 l1.toNatClampNeg) then (rec_16 V3 l1 (l2 + 1)) else (b_X5_runOne_49 K rec_16 V3 l2)))) l2)
def wp_X5_runOne (V : St) (K : Int32 → St → Prop) : Prop := if (V 60 31) ≤ 0 then (∃ n, lp (fun _ _ _ => False) (h_X5_runOne_16 K) n V (-1 : Int32) (0 : Int32)) else (wp_X5_runTop V (fun (r1 : Int32) (V2 : St) => K r1 V2))
set_option maxRecDepth 100000 in
set_option maxHeartbeats 4000000 in
theorem c_X5_runOne {l : Launch} {D : va_G} {ad : Nat → Nat} {cy : Nat → ClassId} (hi : inj ad) {V : St} {K : Int32 → St → Prop} : wp_X5_runOne V K → Hi l D ad cy yX5_runOne (Cond.code yX5_runOne cX5_runOne 3 (some .int) :: WA) rm_X5_runOne [.ref (ad 60)] V K := by
  refine H_i (w := wp_X5_runOne V K) (by decide) (Nat.le_of_ble_eq_true rfl) (List.forall_mem_cons.mpr ⟨rfl, (fun _ h => absurd h List.not_mem_nil)⟩) hi ?_
  intro p e s m args below meth c A hC hrt hlk
  have J_179 : ∀ (V : St) (l1 : Int32) (s0 : Int32) (s1 : Int32), G p l e rm_X5_runOne s m args below meth c 0 0 (MQ below (va_Qi K (Bq D ad cy) A) args s 0 0 A) 3 D ad cy A (b_X5_runOne_179 K V l1 s0 s1) V 179 [none, some (.int l1), none] [.int s0, .int s1, .ref (ad 89)] := by
    intro  V l1 s0 s1 
    refine g_iast (pc := 179) hC (by decide) rfl dX5_runOne_179 (fun V1 => ?_)
    refine g_bipush (pc := 180) hC (30 : Int32) dX5_runOne_180 (by decide) ?_
    refine g_iload_n (pc := 182) hC dX5_runOne_182 rfl ?_
    refine g_iadd (pc := 183) hC dX5_runOne_183 ?_
    exact g_iret (pc := 184) hC hrt hlk dX5_runOne_184
  have J_120 : ∀ (rec_77 : St → Int32 → Int32 → Prop) (ih_77 : ∀ (V : St) (l1 : Int32) (l2 : Int32), G p l e rm_X5_runOne s m args below meth c 0 0 (MQ below (va_Qi K (Bq D ad cy) A) args s 0 0 A) 3 D ad cy A (rec_77 V l1 l2) V 77 [some (.ref (ad 60)), some (.int l1), some (.int l2)] []), ∀ (V : St) (l2 : Int32), G p l e rm_X5_runOne s m args below meth c 0 0 (MQ below (va_Qi K (Bq D ad cy) A) args s 0 0 A) 3 D ad cy A (b_X5_runOne_120 K rec_77 V l2) V 120 [some (.ref (ad 60)), none, some (.int l2)] [] := by
    intro rec_77 ih_77 V l2 
    refine g_iload_n (pc := 120) hC dX5_runOne_120 rfl ?_
    refine g_goto (pc := 121) (tgt := 125) hC dX5_runOne_121 (by decide) ?_
    refine g_istore_n (pc := 125) (L2 := [some (.ref (ad 60)), some (.int l2), some (.int l2)]) hC dX5_runOne_125 (by decide) rfl ?_
    refine g_iinc (pc := 126) (L2 := [some (.ref (ad 60)), some (.int l2), some (.int (l2 + 1))]) hC (l2 + 1) dX5_runOne_126 rfl rfl (by decide) rfl ?_
    refine g_goto (pc := 129) (tgt := 77) hC dX5_runOne_129 (by decide) ?_
    exact ih_77 V l2 (l2 + 1)
  have J_77 : ∀ (n : Nat), ∀ (V : St) (l1 : Int32) (l2 : Int32), G p l e rm_X5_runOne s m args below meth c 0 0 (MQ below (va_Qi K (Bq D ad cy) A) args s 0 0 A) 3 D ad cy A (lp (fun _ _ _ => False) (h_X5_runOne_77 K) n V l1 l2) V 77 [some (.ref (ad 60)), some (.int l1), some (.int l2)] [] := by
    intro n
    induction n with
    | zero => exact fun _ _ _ h => False.elim h
    | succ n IH =>
      generalize hrec : lp (fun _ _ _ => False) (h_X5_runOne_77 K) n = rec_77 at IH
      have ih_77 := IH
      intro V l1 l2 
      show G p l e rm_X5_runOne s m args below meth c 0 0 (MQ below (va_Qi K (Bq D ad cy) A) args s 0 0 A) 3 D ad cy A (h_X5_runOne_77 K (lp (fun _ _ _ => False) (h_X5_runOne_77 K) n) V l1 l2) V 77 [some (.ref (ad 60)), some (.int l1), some (.int l2)] []
      rw [hrec]
      refine g_iload_n (pc := 77) hC dX5_runOne_77 rfl ?_
      refine g_bipush (pc := 78) hC (6 : Int32) dX5_runOne_78 (by decide) ?_
      refine g_icmp_ge (pc := 80) (tgt := 132) hC dX5_runOne_80 (by decide) ?_ ?_
      · refine g_iload_n (pc := 132) hC dX5_runOne_132 rfl ?_
        refine g_if_ge (pc := 133) (tgt := 138) hC dX5_runOne_133 (by decide) ?_ ?_
        · refine g_aload_n (pc := 138) hC dX5_runOne_138 rfl ?_
          refine g_getR (pc := 139) hC fl_X5_89 (by decide) rfl rfl dX5_runOne_139 ?_
          refine g_iload_n (pc := 142) hC dX5_runOne_142 rfl ?_
          refine g_dup2 (pc := 143) hC dX5_runOne_143 rfl rfl ?_
          refine g_iald (pc := 144) hC (by decide) rfl dX5_runOne_144 ?_
          refine g_iconst (pc := 145) hC (1 : Int32) dX5_runOne_145 (by decide) ?_
          refine g_isub (pc := 146) hC dX5_runOne_146 ?_
          refine g_iast (pc := 147) hC (by decide) rfl dX5_runOne_147 (fun V1 => ?_)
          refine g_aload_n (pc := 148) hC dX5_runOne_148 rfl ?_
          refine g_getR (pc := 149) hC fl_X5_95 (by decide) rfl rfl dX5_runOne_149 ?_
          refine g_iload_n (pc := 152) hC dX5_runOne_152 rfl ?_
          refine g_aload_n (pc := 153) hC dX5_runOne_153 rfl ?_
          refine g_getR (pc := 154) hC fl_X5_89 (by decide) rfl rfl dX5_runOne_154 ?_
          refine g_iload_n (pc := 157) hC dX5_runOne_157 rfl ?_
          refine g_iald (pc := 158) hC (by decide) rfl dX5_runOne_158 ?_
          refine g_if_ne (pc := 159) (tgt := 173) hC dX5_runOne_159 (by decide) ?_ ?_
          · refine g_aload_n (pc := 173) hC dX5_runOne_173 rfl ?_
            refine g_getR (pc := 174) hC fl_X5_95 (by decide) rfl rfl dX5_runOne_174 ?_
            refine g_iload_n (pc := 177) hC dX5_runOne_177 rfl ?_
            refine g_iald (pc := 178) hC (by decide) rfl dX5_runOne_178 ?_
            exact g_ms [false, true, false] (J_179  V1 l1 (V1 89 l1.toNatClampNeg) l1)
          · refine g_aload_n (pc := 162) hC dX5_runOne_162 rfl ?_
            refine g_getR (pc := 163) hC fl_X5_95 (by decide) rfl rfl dX5_runOne_163 ?_
            refine g_iload_n (pc := 166) hC dX5_runOne_166 rfl ?_
            refine g_iald (pc := 167) hC (by decide) rfl dX5_runOne_167 ?_
            refine g_iconst (pc := 168) hC (1 : Int32) dX5_runOne_168 (by decide) ?_
            refine g_iadd (pc := 169) hC dX5_runOne_169 ?_
            refine g_goto (pc := 170) (tgt := 179) hC dX5_runOne_170 (by decide) ?_
            exact g_ms [false, true, false] (J_179  V1 l1 ((V1 89 l1.toNatClampNeg) + (1 : Int32)) l1)
        · refine g_iconst (pc := 136) hC (0 : Int32) dX5_runOne_136 (by decide) ?_
          exact g_iret (pc := 137) hC hrt hlk dX5_runOne_137
      · refine g_aload_n (pc := 83) hC dX5_runOne_83 rfl ?_
        refine g_getR (pc := 84) hC fl_X5_74 (by decide) rfl rfl dX5_runOne_84 ?_
        refine g_iload_n (pc := 87) hC dX5_runOne_87 rfl ?_
        refine g_zald (pc := 88) hC (by decide) rfl dX5_runOne_88 ?_
        refine g_if_eq (pc := 89) (tgt := 124) hC dX5_runOne_89 (by decide) ?_ ?_
        · refine g_iload_n (pc := 124) hC dX5_runOne_124 rfl ?_
          refine g_istore_n (pc := 125) (L2 := [some (.ref (ad 60)), some (.int l1), some (.int l2)]) hC dX5_runOne_125 (by decide) rfl ?_
          refine g_iinc (pc := 126) (L2 := [some (.ref (ad 60)), some (.int l1), some (.int (l2 + 1))]) hC (l2 + 1) dX5_runOne_126 rfl rfl (by decide) rfl ?_
          refine g_goto (pc := 129) (tgt := 77) hC dX5_runOne_129 (by decide) ?_
          exact ih_77 V l1 (l2 + 1)
        · refine g_aload_n (pc := 92) hC dX5_runOne_92 rfl ?_
          refine g_getR (pc := 93) hC fl_X5_89 (by decide) rfl rfl dX5_runOne_93 ?_
          refine g_iload_n (pc := 96) hC dX5_runOne_96 rfl ?_
          refine g_iald (pc := 97) hC (by decide) rfl dX5_runOne_97 ?_
          refine g_if_le (pc := 98) (tgt := 124) hC dX5_runOne_98 (by decide) ?_ ?_
          · refine g_iload_n (pc := 124) hC dX5_runOne_124 rfl ?_
            refine g_istore_n (pc := 125) (L2 := [some (.ref (ad 60)), some (.int l1), some (.int l2)]) hC dX5_runOne_125 (by decide) rfl ?_
            refine g_iinc (pc := 126) (L2 := [some (.ref (ad 60)), some (.int l1), some (.int (l2 + 1))]) hC (l2 + 1) dX5_runOne_126 rfl rfl (by decide) rfl ?_
            refine g_goto (pc := 129) (tgt := 77) hC dX5_runOne_129 (by decide) ?_
            exact ih_77 V l1 (l2 + 1)
          · refine g_iload_n (pc := 101) hC dX5_runOne_101 rfl ?_
            refine g_if_lt (pc := 102) (tgt := 120) hC dX5_runOne_102 (by decide) ?_ ?_
            · exact g_ms [true, false, true] (J_120 rec_77 ih_77 V l2)
            · refine g_aload_n (pc := 105) hC dX5_runOne_105 rfl ?_
              refine g_getR (pc := 106) hC fl_X5_83 (by decide) rfl rfl dX5_runOne_106 ?_
              refine g_iload_n (pc := 109) hC dX5_runOne_109 rfl ?_
              refine g_iald (pc := 110) hC (by decide) rfl dX5_runOne_110 ?_
              refine g_aload_n (pc := 111) hC dX5_runOne_111 rfl ?_
              refine g_getR (pc := 112) hC fl_X5_83 (by decide) rfl rfl dX5_runOne_112 ?_
              refine g_iload_n (pc := 115) hC dX5_runOne_115 rfl ?_
              refine g_iald (pc := 116) hC (by decide) rfl dX5_runOne_116 ?_
              refine g_icmp_le (pc := 117) (tgt := 124) hC dX5_runOne_117 (by decide) ?_ ?_
              · refine g_iload_n (pc := 124) hC dX5_runOne_124 rfl ?_
                refine g_istore_n (pc := 125) (L2 := [some (.ref (ad 60)), some (.int l1), some (.int l2)]) hC dX5_runOne_125 (by decide) rfl ?_
                refine g_iinc (pc := 126) (L2 := [some (.ref (ad 60)), some (.int l1), some (.int (l2 + 1))]) hC (l2 + 1) dX5_runOne_126 rfl rfl (by decide) rfl ?_
                refine g_goto (pc := 129) (tgt := 77) hC dX5_runOne_129 (by decide) ?_
                exact ih_77 V l1 (l2 + 1)
              · exact g_ms [true, false, true] (J_120 rec_77 ih_77 V l2)
  have J_49 : ∀ (rec_16 : St → Int32 → Int32 → Prop) (ih_16 : ∀ (V : St) (l1 : Int32) (l2 : Int32), G p l e rm_X5_runOne s m args below meth c 0 0 (MQ below (va_Qi K (Bq D ad cy) A) args s 0 0 A) 3 D ad cy A (rec_16 V l1 l2) V 16 [some (.ref (ad 60)), some (.int l1), some (.int l2)] []), ∀ (V : St) (l2 : Int32), G p l e rm_X5_runOne s m args below meth c 0 0 (MQ below (va_Qi K (Bq D ad cy) A) args s 0 0 A) 3 D ad cy A (b_X5_runOne_49 K rec_16 V l2) V 49 [some (.ref (ad 60)), none, some (.int l2)] [] := by
    intro rec_16 ih_16 V l2 
    refine g_iload_n (pc := 49) hC dX5_runOne_49 rfl ?_
    refine g_goto (pc := 50) (tgt := 54) hC dX5_runOne_50 (by decide) ?_
    refine g_istore_n (pc := 54) (L2 := [some (.ref (ad 60)), some (.int l2), some (.int l2)]) hC dX5_runOne_54 (by decide) rfl ?_
    refine g_iinc (pc := 55) (L2 := [some (.ref (ad 60)), some (.int l2), some (.int (l2 + 1))]) hC (l2 + 1) dX5_runOne_55 rfl rfl (by decide) rfl ?_
    refine g_goto (pc := 58) (tgt := 16) hC dX5_runOne_58 (by decide) ?_
    exact ih_16 V l2 (l2 + 1)
  have J_16 : ∀ (n : Nat), ∀ (V : St) (l1 : Int32) (l2 : Int32), G p l e rm_X5_runOne s m args below meth c 0 0 (MQ below (va_Qi K (Bq D ad cy) A) args s 0 0 A) 3 D ad cy A (lp (fun _ _ _ => False) (h_X5_runOne_16 K) n V l1 l2) V 16 [some (.ref (ad 60)), some (.int l1), some (.int l2)] [] := by
    intro n
    induction n with
    | zero => exact fun _ _ _ h => False.elim h
    | succ n IH =>
      generalize hrec : lp (fun _ _ _ => False) (h_X5_runOne_16 K) n = rec_16 at IH
      have ih_16 := IH
      intro V l1 l2 
      show G p l e rm_X5_runOne s m args below meth c 0 0 (MQ below (va_Qi K (Bq D ad cy) A) args s 0 0 A) 3 D ad cy A (h_X5_runOne_16 K (lp (fun _ _ _ => False) (h_X5_runOne_16 K) n) V l1 l2) V 16 [some (.ref (ad 60)), some (.int l1), some (.int l2)] []
      rw [hrec]
      refine g_iload_n (pc := 16) hC dX5_runOne_16 rfl ?_
      refine g_bipush (pc := 17) hC (6 : Int32) dX5_runOne_17 (by decide) ?_
      refine g_icmp_ge (pc := 19) (tgt := 61) hC dX5_runOne_19 (by decide) ?_ ?_
      · refine g_iload_n (pc := 61) hC dX5_runOne_61 rfl ?_
        refine g_if_lt (pc := 62) (tgt := 75) hC dX5_runOne_62 (by decide) ?_ ?_
        · refine g_iconst (pc := 75) hC (0 : Int32) dX5_runOne_75 (by decide) ?_
          refine g_istore_n (pc := 76) (L2 := [some (.ref (ad 60)), some (.int l1), some (.int (0 : Int32))]) hC dX5_runOne_76 (by decide) rfl ?_
          exact g_ex (fun n => J_77  n V l1 (0 : Int32))
        · refine g_aload_n (pc := 65) hC dX5_runOne_65 rfl ?_
          refine g_iload_n (pc := 66) hC dX5_runOne_66 rfl ?_
          refine g_cvv (pc := 67) hC (c_X5_runHandler hC.2.2.2.1) mi_X5_runHandler ww_772 ⟨rfl, rfl⟩ ⟨by decide, by decide⟩ (by decide) rfl rfl rfl rfl (Nat.le_of_ble_eq_true rfl) ⟨Nat.le_of_ble_eq_true rfl, Nat.le_of_ble_eq_true rfl⟩ dX5_runOne_67 (fun V1 => ?_)
          refine g_bipush (pc := 70) hC (20 : Int32) dX5_runOne_70 (by decide) ?_
          refine g_iload_n (pc := 72) hC dX5_runOne_72 rfl ?_
          refine g_iadd (pc := 73) hC dX5_runOne_73 ?_
          exact g_iret (pc := 74) hC hrt hlk dX5_runOne_74
      · refine g_aload_n (pc := 22) hC dX5_runOne_22 rfl ?_
        refine g_iload_n (pc := 23) hC dX5_runOne_23 rfl ?_
        refine g_cvi (pc := 24) hC (c_X5_isReady hC.2.2.2.1) mi_X5_isReady ww_768 ⟨rfl, rfl⟩ ⟨by decide, by decide⟩ (by decide) rfl rfl rfl rfl (Nat.le_of_ble_eq_true rfl) ⟨Nat.le_of_ble_eq_true rfl, Nat.le_of_ble_eq_true rfl⟩ dX5_runOne_24 (fun r2 V3 => ?_)
        refine g_if_eq (pc := 27) (tgt := 53) hC dX5_runOne_27 (by decide) ?_ ?_
        · refine g_iload_n (pc := 53) hC dX5_runOne_53 rfl ?_
          refine g_istore_n (pc := 54) (L2 := [some (.ref (ad 60)), some (.int l1), some (.int l2)]) hC dX5_runOne_54 (by decide) rfl ?_
          refine g_iinc (pc := 55) (L2 := [some (.ref (ad 60)), some (.int l1), some (.int (l2 + 1))]) hC (l2 + 1) dX5_runOne_55 rfl rfl (by decide) rfl ?_
          refine g_goto (pc := 58) (tgt := 16) hC dX5_runOne_58 (by decide) ?_
          exact ih_16 V3 l1 (l2 + 1)
        · refine g_iload_n (pc := 30) hC dX5_runOne_30 rfl ?_
          refine g_if_lt (pc := 31) (tgt := 49) hC dX5_runOne_31 (by decide) ?_ ?_
          · exact g_ms [true, false, true] (J_49 rec_16 ih_16 V3 l2)
          · refine g_aload_n (pc := 34) hC dX5_runOne_34 rfl ?_
            refine g_getR (pc := 35) hC fl_X5_29 (by decide) rfl rfl dX5_runOne_35 ?_
            refine g_iload_n (pc := 38) hC dX5_runOne_38 rfl ?_
            refine g_iald (pc := 39) hC (by decide) rfl dX5_runOne_39 ?_
            refine g_aload_n (pc := 40) hC dX5_runOne_40 rfl ?_
            refine g_getR (pc := 41) hC fl_X5_29 (by decide) rfl rfl dX5_runOne_41 ?_
            refine g_iload_n (pc := 44) hC dX5_runOne_44 rfl ?_
            refine g_iald (pc := 45) hC (by decide) rfl dX5_runOne_45 ?_
            refine g_icmp_le (pc := 46) (tgt := 53) hC dX5_runOne_46 (by decide) ?_ ?_
            · refine g_iload_n (pc := 53) hC dX5_runOne_53 rfl ?_
              refine g_istore_n (pc := 54) (L2 := [some (.ref (ad 60)), some (.int l1), some (.int l2)]) hC dX5_runOne_54 (by decide) rfl ?_
              refine g_iinc (pc := 55) (L2 := [some (.ref (ad 60)), some (.int l1), some (.int (l2 + 1))]) hC (l2 + 1) dX5_runOne_55 rfl rfl (by decide) rfl ?_
              refine g_goto (pc := 58) (tgt := 16) hC dX5_runOne_58 (by decide) ?_
              exact ih_16 V3 l1 (l2 + 1)
            · exact g_ms [true, false, true] (J_49 rec_16 ih_16 V3 l2)
  show G p l e rm_X5_runOne s m args below meth c 0 0 (MQ below (va_Qi K (Bq D ad cy) A) args s 0 0 A) 3 D ad cy A (wp_X5_runOne V K) V 0 [some (.ref (ad 60)), none, none] []
  refine g_aload_n (pc := 0) hC dX5_runOne_0 rfl ?_
  refine g_getI (pc := 1) hC fl_X5_152 (by decide) rfl rfl dX5_runOne_1 ?_
  refine g_if_le (pc := 4) (tgt := 12) hC dX5_runOne_4 (by decide) ?_ ?_
  · refine g_iconst (pc := 12) hC (-1 : Int32) dX5_runOne_12 (by decide) ?_
    refine g_istore_n (pc := 13) (L2 := [some (.ref (ad 60)), some (.int (-1 : Int32)), none]) hC dX5_runOne_13 (by decide) rfl ?_
    refine g_iconst (pc := 14) hC (0 : Int32) dX5_runOne_14 (by decide) ?_
    refine g_istore_n (pc := 15) (L2 := [some (.ref (ad 60)), some (.int (-1 : Int32)), some (.int (0 : Int32))]) hC dX5_runOne_15 (by decide) rfl ?_
    exact g_ex (fun n => J_16  n V (-1 : Int32) (0 : Int32))
  · refine g_aload_n (pc := 7) hC dX5_runOne_7 rfl ?_
    refine g_cvi (pc := 8) hC (c_X5_runTop hC.2.2.2.1) mi_X5_runTop ww_764 ⟨rfl, rfl⟩ ⟨by decide, by decide⟩ (by decide) rfl rfl rfl rfl (Nat.le_of_ble_eq_true rfl) ⟨Nat.le_of_ble_eq_true rfl, Nat.le_of_ble_eq_true rfl⟩ dX5_runOne_8 (fun r1 V2 => ?_)
    exact g_iret (pc := 11) hC hrt hlk dX5_runOne_11
def rm_X5_pass : Room := ({ frames := 3, cells := 0, slots := 0, locals := 70 } : Room)
def b_X5_pass_73 (K : Int32 → St → Prop) (rec_6 : St → Int32 → Prop) (V : St) (l1 : Int32) (s0 : Int32) (s1 : Int32) : Prop := vp_in s1 6 ∧ ∀ V1 : St, V1 = up2 V 88 s1.toNatClampNeg s0 → vp_in l1 6 ∧ vp_in l1 6 ∧ ∀ V2 : St, V2 = up2 V1 87 l1.toNatClampNeg (V1 84 l1.toNatClampNeg) → rec_6 V2 (l1 + 1)
def h_X5_pass_6 (K : Int32 → St → Prop) (rec_6 : St → Int32 → Prop) (V : St) (l1 : Int32) : Prop := if (6 : Int32) ≤ l1 then (wp_X5_runOne V (fun (r1 : Int32) (V2 : St) => ¬ (1024 : Int32) = 0 ∧ vp_in ((V2 60 1) - (V2 60 1) / (1024 : Int32) * (1024 : Int32)) 1024 ∧ ∀ V3 : St, V3 = up2 V2 92 ((V2 60 1) - (V2 60 1) / (1024 : Int32) * (1024 : Int32)).toNatClampNeg r1 → ∀ V4 : St, V4 = up2 V3 60 1 ((V3 60 1) + (1 : Int32)) → wp_X5_giveBack V4 (fun (V5 : St) => K r1 V5))) else (vp_in l1 6 ∧ if (V 82 l1.toNatClampNeg) = 0 then (rec_6 V (l1 + 1)) else (vp_in l1 6 ∧ vp_in l1 6 ∧ ¬ (V 83 l1.toNatClampNeg) = 0 ∧ if (((V 60 1) - (V 86 l1.toNatClampNeg)) - ((V 60 1) - (V 86 l1.toNatClampNeg)) / (V 83 l1.toNatClampNeg) * (V 83 l1.toNatClampNeg)) = 0 then (vp_in l1 6 ∧ if (V 87 l1.toNatClampNeg) ≤ 0 then (vp_in l1 6 ∧ b_X5_pass_73 K rec_6 V l1 (V 88 l1.toNatClampNeg) l1) else (vp_in l1 6 ∧ b_X5_pass_73 K rec_6 V l1 ((V 88 l1.toNatClampNeg) + (1 : Int32)) l1)) else (rec_6 V (l1 + 1))))
def wp_X5_pass (V : St) (K : Int32 → St → Prop) : Prop := wp_X5_giveBack V (fun (V1 : St) => ∃ n, lp (fun _ _ => False) (h_X5_pass_6 K) n V1 (0 : Int32))
set_option maxRecDepth 100000 in
set_option maxHeartbeats 4000000 in
theorem c_X5_pass {l : Launch} {D : va_G} {ad : Nat → Nat} {cy : Nat → ClassId} (hi : inj ad) {V : St} {K : Int32 → St → Prop} : wp_X5_pass V K → Hi l D ad cy yX5_pass (Cond.code yX5_pass cX5_pass 2 (some .int) :: WA) rm_X5_pass [.ref (ad 60)] V K := by
  refine H_i (w := wp_X5_pass V K) (by decide) (Nat.le_of_ble_eq_true rfl) (List.forall_mem_cons.mpr ⟨rfl, (fun _ h => absurd h List.not_mem_nil)⟩) hi ?_
  intro p e s m args below meth c A hC hrt hlk
  have J_73 : ∀ (rec_6 : St → Int32 → Prop) (ih_6 : ∀ (V : St) (l1 : Int32), G p l e rm_X5_pass s m args below meth c 0 0 (MQ below (va_Qi K (Bq D ad cy) A) args s 0 0 A) 2 D ad cy A (rec_6 V l1) V 6 [some (.ref (ad 60)), some (.int l1)] []), ∀ (V : St) (l1 : Int32) (s0 : Int32) (s1 : Int32), G p l e rm_X5_pass s m args below meth c 0 0 (MQ below (va_Qi K (Bq D ad cy) A) args s 0 0 A) 2 D ad cy A (b_X5_pass_73 K rec_6 V l1 s0 s1) V 73 [some (.ref (ad 60)), some (.int l1)] [.int s0, .int s1, .ref (ad 88)] := by
    intro rec_6 ih_6 V l1 s0 s1 
    refine g_iast (pc := 73) hC (by decide) rfl dX5_pass_73 (fun V1 => ?_)
    refine g_aload_n (pc := 74) hC dX5_pass_74 rfl ?_
    refine g_getR (pc := 75) hC fl_X5_89 (by decide) rfl rfl dX5_pass_75 ?_
    refine g_iload_n (pc := 78) hC dX5_pass_78 rfl ?_
    refine g_aload_n (pc := 79) hC dX5_pass_79 rfl ?_
    refine g_getR (pc := 80) hC fl_X5_80 (by decide) rfl rfl dX5_pass_80 ?_
    refine g_iload_n (pc := 83) hC dX5_pass_83 rfl ?_
    refine g_iald (pc := 84) hC (by decide) rfl dX5_pass_84 ?_
    refine g_iast (pc := 85) hC (by decide) rfl dX5_pass_85 (fun V2 => ?_)
    refine g_iinc (pc := 86) (L2 := [some (.ref (ad 60)), some (.int (l1 + 1))]) hC (l1 + 1) dX5_pass_86 rfl rfl (by decide) rfl ?_
    refine g_goto (pc := 89) (tgt := 6) hC dX5_pass_89 (by decide) ?_
    exact ih_6 V2 (l1 + 1)
  have J_6 : ∀ (n : Nat), ∀ (V : St) (l1 : Int32), G p l e rm_X5_pass s m args below meth c 0 0 (MQ below (va_Qi K (Bq D ad cy) A) args s 0 0 A) 2 D ad cy A (lp (fun _ _ => False) (h_X5_pass_6 K) n V l1) V 6 [some (.ref (ad 60)), some (.int l1)] [] := by
    intro n
    induction n with
    | zero => exact fun _ _ h => False.elim h
    | succ n IH =>
      generalize hrec : lp (fun _ _ => False) (h_X5_pass_6 K) n = rec_6 at IH
      have ih_6 := IH
      intro V l1 
      show G p l e rm_X5_pass s m args below meth c 0 0 (MQ below (va_Qi K (Bq D ad cy) A) args s 0 0 A) 2 D ad cy A (h_X5_pass_6 K (lp (fun _ _ => False) (h_X5_pass_6 K) n) V l1) V 6 [some (.ref (ad 60)), some (.int l1)] []
      rw [hrec]
      refine g_iload_n (pc := 6) hC dX5_pass_6 rfl ?_
      refine g_bipush (pc := 7) hC (6 : Int32) dX5_pass_7 (by decide) ?_
      refine g_icmp_ge (pc := 9) (tgt := 92) hC dX5_pass_9 (by decide) ?_ ?_
      · refine g_aload_n (pc := 92) hC dX5_pass_92 rfl ?_
        refine g_cvi (pc := 93) hC (c_X5_runOne hC.2.2.2.1) mi_X5_runOne ww_760 ⟨rfl, rfl⟩ ⟨by decide, by decide⟩ (by decide) rfl rfl rfl rfl (Nat.le_of_ble_eq_true rfl) ⟨Nat.le_of_ble_eq_true rfl, Nat.le_of_ble_eq_true rfl⟩ dX5_pass_93 (fun r1 V2 => ?_)
        refine g_istore_n (pc := 96) (L2 := [some (.ref (ad 60)), some (.int r1)]) hC dX5_pass_96 (by decide) rfl ?_
        refine g_aload_n (pc := 97) hC dX5_pass_97 rfl ?_
        refine g_getR (pc := 98) hC fl_X5_104 (by decide) rfl rfl dX5_pass_98 ?_
        refine g_aload_n (pc := 101) hC dX5_pass_101 rfl ?_
        refine g_getI (pc := 102) hC fl_X5_115 (by decide) rfl rfl dX5_pass_102 ?_
        refine g_sipush (pc := 105) hC (1024 : Int32) dX5_pass_105 (by decide) ?_
        refine g_irem (pc := 108) hC dX5_pass_108 ?_
        refine g_iload_n (pc := 109) hC dX5_pass_109 rfl ?_
        refine g_iast (pc := 110) hC (by decide) rfl dX5_pass_110 (fun V3 => ?_)
        refine g_aload_n (pc := 111) hC dX5_pass_111 rfl ?_
        refine g_dup (pc := 112) hC dX5_pass_112 rfl ?_
        refine g_getI (pc := 113) hC fl_X5_115 (by decide) rfl rfl dX5_pass_113 ?_
        refine g_iconst (pc := 116) hC (1 : Int32) dX5_pass_116 (by decide) ?_
        refine g_iadd (pc := 117) hC dX5_pass_117 ?_
        refine g_putI (pc := 118) hC fp_X5_115 (by decide) rfl rfl dX5_pass_118 (fun V4 => ?_)
        refine g_aload_n (pc := 121) hC dX5_pass_121 rfl ?_
        refine g_cvv (pc := 122) hC (c_X5_giveBack hC.2.2.2.1) mi_X5_giveBack ww_752 ⟨rfl, rfl⟩ ⟨by decide, by decide⟩ (by decide) rfl rfl rfl rfl (Nat.le_of_ble_eq_true rfl) ⟨Nat.le_of_ble_eq_true rfl, Nat.le_of_ble_eq_true rfl⟩ dX5_pass_122 (fun V5 => ?_)
        refine g_iload_n (pc := 125) hC dX5_pass_125 rfl ?_
        exact g_iret (pc := 126) hC hrt hlk dX5_pass_126
      · refine g_aload_n (pc := 12) hC dX5_pass_12 rfl ?_
        refine g_getR (pc := 13) hC fl_X5_74 (by decide) rfl rfl dX5_pass_13 ?_
        refine g_iload_n (pc := 16) hC dX5_pass_16 rfl ?_
        refine g_zald (pc := 17) hC (by decide) rfl dX5_pass_17 ?_
        refine g_if_eq (pc := 18) (tgt := 86) hC dX5_pass_18 (by decide) ?_ ?_
        · refine g_iinc (pc := 86) (L2 := [some (.ref (ad 60)), some (.int (l1 + 1))]) hC (l1 + 1) dX5_pass_86 rfl rfl (by decide) rfl ?_
          refine g_goto (pc := 89) (tgt := 6) hC dX5_pass_89 (by decide) ?_
          exact ih_6 V (l1 + 1)
        · refine g_aload_n (pc := 21) hC dX5_pass_21 rfl ?_
          refine g_getI (pc := 22) hC fl_X5_115 (by decide) rfl rfl dX5_pass_22 ?_
          refine g_aload_n (pc := 25) hC dX5_pass_25 rfl ?_
          refine g_getR (pc := 26) hC fl_X5_86 (by decide) rfl rfl dX5_pass_26 ?_
          refine g_iload_n (pc := 29) hC dX5_pass_29 rfl ?_
          refine g_iald (pc := 30) hC (by decide) rfl dX5_pass_30 ?_
          refine g_isub (pc := 31) hC dX5_pass_31 ?_
          refine g_aload_n (pc := 32) hC dX5_pass_32 rfl ?_
          refine g_getR (pc := 33) hC fl_X5_77 (by decide) rfl rfl dX5_pass_33 ?_
          refine g_iload_n (pc := 36) hC dX5_pass_36 rfl ?_
          refine g_iald (pc := 37) hC (by decide) rfl dX5_pass_37 ?_
          refine g_irem (pc := 38) hC dX5_pass_38 ?_
          refine g_if_ne (pc := 39) (tgt := 86) hC dX5_pass_39 (by decide) ?_ ?_
          · refine g_iinc (pc := 86) (L2 := [some (.ref (ad 60)), some (.int (l1 + 1))]) hC (l1 + 1) dX5_pass_86 rfl rfl (by decide) rfl ?_
            refine g_goto (pc := 89) (tgt := 6) hC dX5_pass_89 (by decide) ?_
            exact ih_6 V (l1 + 1)
          · refine g_aload_n (pc := 42) hC dX5_pass_42 rfl ?_
            refine g_getR (pc := 43) hC fl_X5_92 (by decide) rfl rfl dX5_pass_43 ?_
            refine g_iload_n (pc := 46) hC dX5_pass_46 rfl ?_
            refine g_aload_n (pc := 47) hC dX5_pass_47 rfl ?_
            refine g_getR (pc := 48) hC fl_X5_89 (by decide) rfl rfl dX5_pass_48 ?_
            refine g_iload_n (pc := 51) hC dX5_pass_51 rfl ?_
            refine g_iald (pc := 52) hC (by decide) rfl dX5_pass_52 ?_
            refine g_if_le (pc := 53) (tgt := 67) hC dX5_pass_53 (by decide) ?_ ?_
            · refine g_aload_n (pc := 67) hC dX5_pass_67 rfl ?_
              refine g_getR (pc := 68) hC fl_X5_92 (by decide) rfl rfl dX5_pass_68 ?_
              refine g_iload_n (pc := 71) hC dX5_pass_71 rfl ?_
              refine g_iald (pc := 72) hC (by decide) rfl dX5_pass_72 ?_
              exact J_73 rec_6 ih_6 V l1 (V 88 l1.toNatClampNeg) l1
            · refine g_aload_n (pc := 56) hC dX5_pass_56 rfl ?_
              refine g_getR (pc := 57) hC fl_X5_92 (by decide) rfl rfl dX5_pass_57 ?_
              refine g_iload_n (pc := 60) hC dX5_pass_60 rfl ?_
              refine g_iald (pc := 61) hC (by decide) rfl dX5_pass_61 ?_
              refine g_iconst (pc := 62) hC (1 : Int32) dX5_pass_62 (by decide) ?_
              refine g_iadd (pc := 63) hC dX5_pass_63 ?_
              refine g_goto (pc := 64) (tgt := 73) hC dX5_pass_64 (by decide) ?_
              exact J_73 rec_6 ih_6 V l1 ((V 88 l1.toNatClampNeg) + (1 : Int32)) l1
  show G p l e rm_X5_pass s m args below meth c 0 0 (MQ below (va_Qi K (Bq D ad cy) A) args s 0 0 A) 2 D ad cy A (wp_X5_pass V K) V 0 [some (.ref (ad 60)), none] []
  refine g_aload_n (pc := 0) hC dX5_pass_0 rfl ?_
  refine g_cvv (pc := 1) hC (c_X5_giveBack hC.2.2.2.1) mi_X5_giveBack ww_752 ⟨rfl, rfl⟩ ⟨by decide, by decide⟩ (by decide) rfl rfl rfl rfl (Nat.le_of_ble_eq_true rfl) ⟨Nat.le_of_ble_eq_true rfl, Nat.le_of_ble_eq_true rfl⟩ dX5_pass_1 (fun V1 => ?_)
  refine g_iconst (pc := 4) hC (0 : Int32) dX5_pass_4 (by decide) ?_
  refine g_istore_n (pc := 5) (L2 := [some (.ref (ad 60)), some (.int (0 : Int32))]) hC dX5_pass_5 (by decide) rfl ?_
  exact g_ex (fun n => J_6  n V1 (0 : Int32))
def rm_X5_tick : Room := ({ frames := 4, cells := 0, slots := 0, locals := 91 } : Room)
def wp_X5_tick (V : St) (K : Int32 → St → Prop) : Prop := ∀ V1 : St, V1 = up2 V 60 0 (0 : Int32) → wp_X5_pass V1 (fun (r2 : Int32) (V3 : St) => K r2 V3)
set_option maxRecDepth 100000 in
set_option maxHeartbeats 4000000 in
theorem c_X5_tick {l : Launch} {D : va_G} {ad : Nat → Nat} {cy : Nat → ClassId} (hi : inj ad) {V : St} {K : Int32 → St → Prop} : wp_X5_tick V K → Hi l D ad cy yX5_tick (Cond.code yX5_tick cX5_tick 1 (some .int) :: WA) rm_X5_tick [.ref (ad 60)] V K := by
  refine H_i (w := wp_X5_tick V K) (by decide) (Nat.le_of_ble_eq_true rfl) (List.forall_mem_cons.mpr ⟨rfl, (fun _ h => absurd h List.not_mem_nil)⟩) hi ?_
  intro p e s m args below meth c A hC hrt hlk
  show G p l e rm_X5_tick s m args below meth c 0 0 (MQ below (va_Qi K (Bq D ad cy) A) args s 0 0 A) 1 D ad cy A (wp_X5_tick V K) V 0 [some (.ref (ad 60))] []
  refine g_aload_n (pc := 0) hC dX5_tick_0 rfl ?_
  refine g_iconst (pc := 1) hC (0 : Int32) dX5_tick_1 (by decide) ?_
  refine g_putI (pc := 2) hC fp_X5_107 (by decide) rfl rfl dX5_tick_2 (fun V1 => ?_)
  refine g_aload_n (pc := 5) hC dX5_tick_5 rfl ?_
  refine g_cvi (pc := 6) hC (c_X5_pass hC.2.2.2.1) mi_X5_pass ww_748 ⟨rfl, rfl⟩ ⟨by decide, by decide⟩ (by decide) rfl rfl rfl rfl (Nat.le_of_ble_eq_true rfl) ⟨Nat.le_of_ble_eq_true rfl, Nat.le_of_ble_eq_true rfl⟩ dX5_tick_6 (fun r2 V3 => ?_)
  exact g_iret (pc := 9) hC hrt hlk dX5_tick_9
def rm_X5_ticks : Room := ({ frames := 4, cells := 0, slots := 0, locals := 91 } : Room)
def h_X5_ticks_24 (K : Int32 → St → Prop) (a1 : Int32) (rec_24 : St → Int32 → Int32 → Prop) (V : St) (l2 : Int32) (l3 : Int32) : Prop := if a1 ≤ l3 then (K l2 V) else (if (V 60 0) = 0 then (wp_X5_pass V (fun (r1 : Int32) (V2 : St) => if r1 ≤ 0 then (rec_24 V2 l2 (l3 + 1)) else (∀ x3 : Int32, x3 = (l2 + (1 : Int32)) → rec_24 V2 x3 (l3 + 1)))) else (K l2 V))
def b_X5_ticks_17 (K : Int32 → St → Prop) (a1 : Int32) (V : St) (s0 : Int32) : Prop := ∀ V1 : St, V1 = up2 V 60 0 s0 → ∃ n, lp (fun _ _ _ => False) (h_X5_ticks_24 K a1) n V1 (0 : Int32) (0 : Int32)
def wp_X5_ticks (V : St) (K : Int32 → St → Prop) (a1 : Int32) : Prop := wp_X5_within V (fun (r1 : Int32) (V2 : St) => if r1 = 0 then (b_X5_ticks_17 K a1 V2 (1 : Int32)) else (b_X5_ticks_17 K a1 V2 (0 : Int32))) a1 (0 : Int32) (500 : Int32)
set_option maxRecDepth 100000 in
set_option maxHeartbeats 4000000 in
theorem c_X5_ticks {l : Launch} {D : va_G} {ad : Nat → Nat} {cy : Nat → ClassId} (hi : inj ad) {V : St} {K : Int32 → St → Prop} {a1 : Int32} : wp_X5_ticks V K a1 → Hi l D ad cy yX5_ticks (Cond.code yX5_ticks cX5_ticks 4 (some .int) :: WA) rm_X5_ticks [.ref (ad 60), .int a1] V K := by
  refine H_i (w := wp_X5_ticks V K a1) (by decide) (Nat.le_of_ble_eq_true rfl) (List.forall_mem_cons.mpr ⟨rfl, (List.forall_mem_cons.mpr ⟨rfl, (fun _ h => absurd h List.not_mem_nil)⟩)⟩) hi ?_
  intro p e s m args below meth c A hC hrt hlk
  have J_24 : ∀ (n : Nat), ∀ (V : St) (l2 : Int32) (l3 : Int32), G p l e rm_X5_ticks s m args below meth c 0 0 (MQ below (va_Qi K (Bq D ad cy) A) args s 0 0 A) 4 D ad cy A (lp (fun _ _ _ => False) (h_X5_ticks_24 K a1) n V l2 l3) V 24 [some (.ref (ad 60)), some (.int a1), some (.int l2), some (.int l3)] [] := by
    intro n
    induction n with
    | zero => exact fun _ _ _ h => False.elim h
    | succ n IH =>
      generalize hrec : lp (fun _ _ _ => False) (h_X5_ticks_24 K a1) n = rec_24 at IH
      have ih_24 := IH
      intro V l2 l3 
      show G p l e rm_X5_ticks s m args below meth c 0 0 (MQ below (va_Qi K (Bq D ad cy) A) args s 0 0 A) 4 D ad cy A (h_X5_ticks_24 K a1 (lp (fun _ _ _ => False) (h_X5_ticks_24 K a1) n) V l2 l3) V 24 [some (.ref (ad 60)), some (.int a1), some (.int l2), some (.int l3)] []
      rw [hrec]
      refine g_iload_n (pc := 24) hC dX5_ticks_24 rfl ?_
      refine g_iload_n (pc := 25) hC dX5_ticks_25 rfl ?_
      refine g_icmp_ge (pc := 26) (tgt := 57) hC dX5_ticks_26 (by decide) ?_ ?_
      · refine g_iload_n (pc := 57) hC dX5_ticks_57 rfl ?_
        exact g_iret (pc := 58) hC hrt hlk dX5_ticks_58
      · refine g_aload_n (pc := 29) hC dX5_ticks_29 rfl ?_
        refine g_getI (pc := 30) hC fl_X5_107 (by decide) rfl rfl dX5_ticks_30 ?_
        refine g_if_ne (pc := 33) (tgt := 57) hC dX5_ticks_33 (by decide) ?_ ?_
        · refine g_iload_n (pc := 57) hC dX5_ticks_57 rfl ?_
          exact g_iret (pc := 58) hC hrt hlk dX5_ticks_58
        · refine g_aload_n (pc := 36) hC dX5_ticks_36 rfl ?_
          refine g_cvi (pc := 37) hC (c_X5_pass hC.2.2.2.1) mi_X5_pass ww_748 ⟨rfl, rfl⟩ ⟨by decide, by decide⟩ (by decide) rfl rfl rfl rfl (Nat.le_of_ble_eq_true rfl) ⟨Nat.le_of_ble_eq_true rfl, Nat.le_of_ble_eq_true rfl⟩ dX5_ticks_37 (fun r1 V2 => ?_)
          refine g_if_le (pc := 40) (tgt := 49) hC dX5_ticks_40 (by decide) ?_ ?_
          · refine g_iload_n (pc := 49) hC dX5_ticks_49 rfl ?_
            refine g_istore_n (pc := 50) (L2 := [some (.ref (ad 60)), some (.int a1), some (.int l2), some (.int l3)]) hC dX5_ticks_50 (by decide) rfl ?_
            refine g_iinc (pc := 51) (L2 := [some (.ref (ad 60)), some (.int a1), some (.int l2), some (.int (l3 + 1))]) hC (l3 + 1) dX5_ticks_51 rfl rfl (by decide) rfl ?_
            refine g_goto (pc := 54) (tgt := 24) hC dX5_ticks_54 (by decide) ?_
            exact ih_24 V2 l2 (l3 + 1)
          · refine g_iload_n (pc := 43) hC dX5_ticks_43 rfl ?_
            refine g_iconst (pc := 44) hC (1 : Int32) dX5_ticks_44 (by decide) ?_
            refine g_iadd (pc := 45) hC dX5_ticks_45 ?_
            refine g_goto (pc := 46) (tgt := 50) hC dX5_ticks_46 (by decide) ?_
            refine g_nm (fun x3 => ?_)
            refine g_istore_n (pc := 50) (L2 := [some (.ref (ad 60)), some (.int a1), some (.int x3), some (.int l3)]) hC dX5_ticks_50 (by decide) rfl ?_
            refine g_iinc (pc := 51) (L2 := [some (.ref (ad 60)), some (.int a1), some (.int x3), some (.int (l3 + 1))]) hC (l3 + 1) dX5_ticks_51 rfl rfl (by decide) rfl ?_
            refine g_goto (pc := 54) (tgt := 24) hC dX5_ticks_54 (by decide) ?_
            exact ih_24 V2 x3 (l3 + 1)
  have J_17 : ∀ (V : St) (s0 : Int32), G p l e rm_X5_ticks s m args below meth c 0 0 (MQ below (va_Qi K (Bq D ad cy) A) args s 0 0 A) 4 D ad cy A (b_X5_ticks_17 K a1 V s0) V 17 [some (.ref (ad 60)), some (.int a1), none, none] [.int s0, .ref (ad 60)] := by
    intro  V s0 
    refine g_putI (pc := 17) hC fp_X5_107 (by decide) rfl rfl dX5_ticks_17 (fun V1 => ?_)
    refine g_iconst (pc := 20) hC (0 : Int32) dX5_ticks_20 (by decide) ?_
    refine g_istore_n (pc := 21) (L2 := [some (.ref (ad 60)), some (.int a1), some (.int (0 : Int32)), none]) hC dX5_ticks_21 (by decide) rfl ?_
    refine g_iconst (pc := 22) hC (0 : Int32) dX5_ticks_22 (by decide) ?_
    refine g_istore_n (pc := 23) (L2 := [some (.ref (ad 60)), some (.int a1), some (.int (0 : Int32)), some (.int (0 : Int32))]) hC dX5_ticks_23 (by decide) rfl ?_
    exact g_ex (fun n => J_24  n V1 (0 : Int32) (0 : Int32))
  show G p l e rm_X5_ticks s m args below meth c 0 0 (MQ below (va_Qi K (Bq D ad cy) A) args s 0 0 A) 4 D ad cy A (wp_X5_ticks V K a1) V 0 [some (.ref (ad 60)), some (.int a1), none, none] []
  refine g_aload_n (pc := 0) hC dX5_ticks_0 rfl ?_
  refine g_iload_n (pc := 1) hC dX5_ticks_1 rfl ?_
  refine g_iconst (pc := 2) hC (0 : Int32) dX5_ticks_2 (by decide) ?_
  refine g_sipush (pc := 3) hC (500 : Int32) dX5_ticks_3 (by decide) ?_
  refine g_csi (pc := 6) hC (c_X5_within hC.2.2.2.1) mi_X5_within ww_702 ⟨rfl, rfl⟩ ⟨by decide, by decide⟩ rfl rfl (Nat.le_of_ble_eq_true rfl) ⟨Nat.le_of_ble_eq_true rfl, Nat.le_of_ble_eq_true rfl⟩ dX5_ticks_6 (fun r1 V2 => ?_)
  refine g_if_eq (pc := 9) (tgt := 16) hC dX5_ticks_9 (by decide) ?_ ?_
  · refine g_iconst (pc := 16) hC (1 : Int32) dX5_ticks_16 (by decide) ?_
    exact J_17  V2 (1 : Int32)
  · refine g_iconst (pc := 12) hC (0 : Int32) dX5_ticks_12 (by decide) ?_
    refine g_goto (pc := 13) (tgt := 17) hC dX5_ticks_13 (by decide) ?_
    exact J_17  V2 (0 : Int32)
def rm_X5_about : Room := ({ frames := 2, cells := 0, slots := 0, locals := 43 } : Room)
def b_X5_about_28 (K : Int32 → St → Prop) (a1 : Int32) (a2 : Int32) (V : St) (s0 : Int32) : Prop := ∀ V1 : St, V1 = up2 V 60 0 s0 → if (V1 60 0) ≤ 0 then (wp_X5_firstPiece V1 (fun (r2 : Int32) (V3 : St) => if a2 = 0 then (vp_in a1 6 ∧ K (V3 78 a1.toNatClampNeg) V3) else (if a2 = 1 then (vp_in a1 6 ∧ K (V3 79 a1.toNatClampNeg) V3) else (if a2 = 2 then (vp_in a1 6 ∧ K (V3 80 a1.toNatClampNeg) V3) else (if a2 = 3 then (vp_in a1 6 ∧ K (V3 68 a1.toNatClampNeg) V3) else (if a2 = 4 then (vp_in a1 6 ∧ if (V3 76 a1.toNatClampNeg) = 0 then (K (0 : Int32) V3) else (K (1 : Int32) V3)) else (if a2 = 5 then (vp_in a1 6 ∧ K (V3 77 a1.toNatClampNeg) V3) else (if a2 = 6 then (wp_X5_budgetLeft V3 (fun (r4 : Int32) (V5 : St) => K r4 V5) a1) else (if a2 = 7 then (vp_in a1 6 ∧ K (V3 73 a1.toNatClampNeg) V3) else (if a2 = 8 then (if 0 ≤ r2 then (vp_in (((16 : Int32) * a1) + r2) 96 ∧ K (V3 74 (((16 : Int32) * a1) + r2).toNatClampNeg) V3) else (K (-1 : Int32) V3)) else (if a2 = 9 then (if 0 ≤ r2 then (vp_in (((16 : Int32) * a1) + r2) 96 ∧ K (V3 75 (((16 : Int32) * a1) + r2).toNatClampNeg) V3) else (K (0 : Int32) V3)) else (if a2 = 10 then (vp_in a1 6 ∧ K (V3 81 a1.toNatClampNeg) V3) else (if a2 = 11 then (vp_in a1 6 ∧ K (V3 70 a1.toNatClampNeg) V3) else (vp_in a1 6 ∧ K (V3 71 a1.toNatClampNeg) V3))))))))))))) a1) else (K (0 : Int32) V1)
def wp_X5_about (V : St) (K : Int32 → St → Prop) (a1 : Int32) (a2 : Int32) : Prop := wp_X5_isSource V (fun (r1 : Int32) (V2 : St) => if r1 = 0 then (b_X5_about_28 K a1 a2 V2 (1 : Int32)) else (wp_X5_within V2 (fun (r3 : Int32) (V4 : St) => if r3 = 0 then (b_X5_about_28 K a1 a2 V4 (2 : Int32)) else (b_X5_about_28 K a1 a2 V4 (0 : Int32))) a2 (0 : Int32) (12 : Int32))) a1
set_option maxRecDepth 100000 in
set_option maxHeartbeats 4000000 in
theorem c_X5_about {l : Launch} {D : va_G} {ad : Nat → Nat} {cy : Nat → ClassId} (hi : inj ad) {V : St} {K : Int32 → St → Prop} {a1 : Int32} {a2 : Int32} : wp_X5_about V K a1 a2 → Hi l D ad cy yX5_about (Cond.code yX5_about cX5_about 4 (some .int) :: WA) rm_X5_about [.ref (ad 60), .int a1, .int a2] V K := by
  refine H_i (w := wp_X5_about V K a1 a2) (by decide) (Nat.le_of_ble_eq_true rfl) (List.forall_mem_cons.mpr ⟨rfl, (List.forall_mem_cons.mpr ⟨rfl, (List.forall_mem_cons.mpr ⟨rfl, (fun _ h => absurd h List.not_mem_nil)⟩)⟩)⟩) hi ?_
  intro p e s m args below meth c A hC hrt hlk
  have J_28 : ∀ (V : St) (s0 : Int32), G p l e rm_X5_about s m args below meth c 0 0 (MQ below (va_Qi K (Bq D ad cy) A) args s 0 0 A) 4 D ad cy A (b_X5_about_28 K a1 a2 V s0) V 28 [some (.ref (ad 60)), some (.int a1), some (.int a2), none] [.int s0, .ref (ad 60)] := by
    intro  V s0 
    refine g_putI (pc := 28) hC fp_X5_107 (by decide) rfl rfl dX5_about_28 (fun V1 => ?_)
    refine g_aload_n (pc := 31) hC dX5_about_31 rfl ?_
    refine g_getI (pc := 32) hC fl_X5_107 (by decide) rfl rfl dX5_about_32 ?_
    refine g_if_le (pc := 35) (tgt := 40) hC dX5_about_35 (by decide) ?_ ?_
    · refine g_aload_n (pc := 40) hC dX5_about_40 rfl ?_
      refine g_iload_n (pc := 41) hC dX5_about_41 rfl ?_
      refine g_cvi (pc := 42) hC (c_X5_firstPiece hC.2.2.2.1) mi_X5_firstPiece ww_788 ⟨rfl, rfl⟩ ⟨by decide, by decide⟩ (by decide) rfl rfl rfl rfl (Nat.le_of_ble_eq_true rfl) ⟨Nat.le_of_ble_eq_true rfl, Nat.le_of_ble_eq_true rfl⟩ dX5_about_42 (fun r2 V3 => ?_)
      refine g_istore_n (pc := 45) (L2 := [some (.ref (ad 60)), some (.int a1), some (.int a2), some (.int r2)]) hC dX5_about_45 (by decide) rfl ?_
      refine g_iload_n (pc := 46) hC dX5_about_46 rfl ?_
      refine g_if (fun hs0 => ?_) (fun hs0 => ?_)
      · refine g_swIn (pc := 47) (off := 61) (tgt := 108) hC dX5_about_47 (by rw [hs0]; decide) (by rw [hs0]; decide) (by rw [hs0]; decide) (by decide) ?_
        refine g_aload_n (pc := 108) hC dX5_about_108 rfl ?_
        refine g_getR (pc := 109) hC fl_X5_62 (by decide) rfl rfl dX5_about_109 ?_
        refine g_iload_n (pc := 112) hC dX5_about_112 rfl ?_
        refine g_iald (pc := 113) hC (by decide) rfl dX5_about_113 ?_
        exact g_iret (pc := 114) hC hrt hlk dX5_about_114
      · skip
        refine g_if (fun hs1 => ?_) (fun hs1 => ?_)
        · refine g_swIn (pc := 47) (off := 68) (tgt := 115) hC dX5_about_47 (by rw [hs1]; decide) (by rw [hs1]; decide) (by rw [hs1]; decide) (by decide) ?_
          refine g_aload_n (pc := 115) hC dX5_about_115 rfl ?_
          refine g_getR (pc := 116) hC fl_X5_65 (by decide) rfl rfl dX5_about_116 ?_
          refine g_iload_n (pc := 119) hC dX5_about_119 rfl ?_
          refine g_iald (pc := 120) hC (by decide) rfl dX5_about_120 ?_
          exact g_iret (pc := 121) hC hrt hlk dX5_about_121
        · skip
          refine g_if (fun hs2 => ?_) (fun hs2 => ?_)
          · refine g_swIn (pc := 47) (off := 75) (tgt := 122) hC dX5_about_47 (by rw [hs2]; decide) (by rw [hs2]; decide) (by rw [hs2]; decide) (by decide) ?_
            refine g_aload_n (pc := 122) hC dX5_about_122 rfl ?_
            refine g_getR (pc := 123) hC fl_X5_68 (by decide) rfl rfl dX5_about_123 ?_
            refine g_iload_n (pc := 126) hC dX5_about_126 rfl ?_
            refine g_iald (pc := 127) hC (by decide) rfl dX5_about_127 ?_
            exact g_iret (pc := 128) hC hrt hlk dX5_about_128
          · skip
            refine g_if (fun hs3 => ?_) (fun hs3 => ?_)
            · refine g_swIn (pc := 47) (off := 82) (tgt := 129) hC dX5_about_47 (by rw [hs3]; decide) (by rw [hs3]; decide) (by rw [hs3]; decide) (by decide) ?_
              refine g_aload_n (pc := 129) hC dX5_about_129 rfl ?_
              refine g_getR (pc := 130) hC fl_X5_32 (by decide) rfl rfl dX5_about_130 ?_
              refine g_iload_n (pc := 133) hC dX5_about_133 rfl ?_
              refine g_iald (pc := 134) hC (by decide) rfl dX5_about_134 ?_
              exact g_iret (pc := 135) hC hrt hlk dX5_about_135
            · skip
              refine g_if (fun hs4 => ?_) (fun hs4 => ?_)
              · refine g_swIn (pc := 47) (off := 89) (tgt := 136) hC dX5_about_47 (by rw [hs4]; decide) (by rw [hs4]; decide) (by rw [hs4]; decide) (by decide) ?_
                refine g_aload_n (pc := 136) hC dX5_about_136 rfl ?_
                refine g_getR (pc := 137) hC fl_X5_56 (by decide) rfl rfl dX5_about_137 ?_
                refine g_iload_n (pc := 140) hC dX5_about_140 rfl ?_
                refine g_zald (pc := 141) hC (by decide) rfl dX5_about_141 ?_
                refine g_if_eq (pc := 142) (tgt := 149) hC dX5_about_142 (by decide) ?_ ?_
                · refine g_iconst (pc := 149) hC (0 : Int32) dX5_about_149 (by decide) ?_
                  exact g_iret (pc := 150) hC hrt hlk dX5_about_150
                · refine g_iconst (pc := 145) hC (1 : Int32) dX5_about_145 (by decide) ?_
                  refine g_goto (pc := 146) (tgt := 150) hC dX5_about_146 (by decide) ?_
                  exact g_iret (pc := 150) hC hrt hlk dX5_about_150
              · skip
                refine g_if (fun hs5 => ?_) (fun hs5 => ?_)
                · refine g_swIn (pc := 47) (off := 104) (tgt := 151) hC dX5_about_47 (by rw [hs5]; decide) (by rw [hs5]; decide) (by rw [hs5]; decide) (by decide) ?_
                  refine g_aload_n (pc := 151) hC dX5_about_151 rfl ?_
                  refine g_getR (pc := 152) hC fl_X5_59 (by decide) rfl rfl dX5_about_152 ?_
                  refine g_iload_n (pc := 155) hC dX5_about_155 rfl ?_
                  refine g_iald (pc := 156) hC (by decide) rfl dX5_about_156 ?_
                  exact g_iret (pc := 157) hC hrt hlk dX5_about_157
                · skip
                  refine g_if (fun hs6 => ?_) (fun hs6 => ?_)
                  · refine g_swIn (pc := 47) (off := 111) (tgt := 158) hC dX5_about_47 (by rw [hs6]; decide) (by rw [hs6]; decide) (by rw [hs6]; decide) (by decide) ?_
                    refine g_aload_n (pc := 158) hC dX5_about_158 rfl ?_
                    refine g_iload_n (pc := 159) hC dX5_about_159 rfl ?_
                    refine g_cvi (pc := 160) hC (c_X5_budgetLeft hC.2.2.2.1) mi_X5_budgetLeft ww_756 ⟨rfl, rfl⟩ ⟨by decide, by decide⟩ (by decide) rfl rfl rfl rfl (Nat.le_of_ble_eq_true rfl) ⟨Nat.le_of_ble_eq_true rfl, Nat.le_of_ble_eq_true rfl⟩ dX5_about_160 (fun r4 V5 => ?_)
                    exact g_iret (pc := 163) hC hrt hlk dX5_about_163
                  · skip
                    refine g_if (fun hs7 => ?_) (fun hs7 => ?_)
                    · refine g_swIn (pc := 47) (off := 117) (tgt := 164) hC dX5_about_47 (by rw [hs7]; decide) (by rw [hs7]; decide) (by rw [hs7]; decide) (by decide) ?_
                      refine g_aload_n (pc := 164) hC dX5_about_164 rfl ?_
                      refine g_getR (pc := 165) hC fl_X5_47 (by decide) rfl rfl dX5_about_165 ?_
                      refine g_iload_n (pc := 168) hC dX5_about_168 rfl ?_
                      refine g_iald (pc := 169) hC (by decide) rfl dX5_about_169 ?_
                      exact g_iret (pc := 170) hC hrt hlk dX5_about_170
                    · skip
                      refine g_if (fun hs8 => ?_) (fun hs8 => ?_)
                      · refine g_swIn (pc := 47) (off := 124) (tgt := 171) hC dX5_about_47 (by rw [hs8]; decide) (by rw [hs8]; decide) (by rw [hs8]; decide) (by decide) ?_
                        refine g_iload_n (pc := 171) hC dX5_about_171 rfl ?_
                        refine g_if_ge (pc := 172) (tgt := 179) hC dX5_about_172 (by decide) ?_ ?_
                        · refine g_aload_n (pc := 179) hC dX5_about_179 rfl ?_
                          refine g_getR (pc := 180) hC fl_X5_50 (by decide) rfl rfl dX5_about_180 ?_
                          refine g_bipush (pc := 183) hC (16 : Int32) dX5_about_183 (by decide) ?_
                          refine g_iload_n (pc := 185) hC dX5_about_185 rfl ?_
                          refine g_imul (pc := 186) hC dX5_about_186 ?_
                          refine g_iload_n (pc := 187) hC dX5_about_187 rfl ?_
                          refine g_iadd (pc := 188) hC dX5_about_188 ?_
                          refine g_iald (pc := 189) hC (by decide) rfl dX5_about_189 ?_
                          exact g_iret (pc := 190) hC hrt hlk dX5_about_190
                        · refine g_iconst (pc := 175) hC (-1 : Int32) dX5_about_175 (by decide) ?_
                          refine g_goto (pc := 176) (tgt := 190) hC dX5_about_176 (by decide) ?_
                          exact g_iret (pc := 190) hC hrt hlk dX5_about_190
                      · skip
                        refine g_if (fun hs9 => ?_) (fun hs9 => ?_)
                        · refine g_swIn (pc := 47) (off := 144) (tgt := 191) hC dX5_about_47 (by rw [hs9]; decide) (by rw [hs9]; decide) (by rw [hs9]; decide) (by decide) ?_
                          refine g_iload_n (pc := 191) hC dX5_about_191 rfl ?_
                          refine g_if_ge (pc := 192) (tgt := 199) hC dX5_about_192 (by decide) ?_ ?_
                          · refine g_aload_n (pc := 199) hC dX5_about_199 rfl ?_
                            refine g_getR (pc := 200) hC fl_X5_53 (by decide) rfl rfl dX5_about_200 ?_
                            refine g_bipush (pc := 203) hC (16 : Int32) dX5_about_203 (by decide) ?_
                            refine g_iload_n (pc := 205) hC dX5_about_205 rfl ?_
                            refine g_imul (pc := 206) hC dX5_about_206 ?_
                            refine g_iload_n (pc := 207) hC dX5_about_207 rfl ?_
                            refine g_iadd (pc := 208) hC dX5_about_208 ?_
                            refine g_iald (pc := 209) hC (by decide) rfl dX5_about_209 ?_
                            exact g_iret (pc := 210) hC hrt hlk dX5_about_210
                          · refine g_iconst (pc := 195) hC (0 : Int32) dX5_about_195 (by decide) ?_
                            refine g_goto (pc := 196) (tgt := 210) hC dX5_about_196 (by decide) ?_
                            exact g_iret (pc := 210) hC hrt hlk dX5_about_210
                        · skip
                          refine g_if (fun hs10 => ?_) (fun hs10 => ?_)
                          · refine g_swIn (pc := 47) (off := 164) (tgt := 211) hC dX5_about_47 (by rw [hs10]; decide) (by rw [hs10]; decide) (by rw [hs10]; decide) (by decide) ?_
                            refine g_aload_n (pc := 211) hC dX5_about_211 rfl ?_
                            refine g_getR (pc := 212) hC fl_X5_71 (by decide) rfl rfl dX5_about_212 ?_
                            refine g_iload_n (pc := 215) hC dX5_about_215 rfl ?_
                            refine g_iald (pc := 216) hC (by decide) rfl dX5_about_216 ?_
                            exact g_iret (pc := 217) hC hrt hlk dX5_about_217
                          · skip
                            refine g_if (fun hs11 => ?_) (fun hs11 => ?_)
                            · refine g_swIn (pc := 47) (off := 171) (tgt := 218) hC dX5_about_47 (by rw [hs11]; decide) (by rw [hs11]; decide) (by rw [hs11]; decide) (by decide) ?_
                              refine g_aload_n (pc := 218) hC dX5_about_218 rfl ?_
                              refine g_getR (pc := 219) hC fl_X5_38 (by decide) rfl rfl dX5_about_219 ?_
                              refine g_iload_n (pc := 222) hC dX5_about_222 rfl ?_
                              refine g_iald (pc := 223) hC (by decide) rfl dX5_about_223 ?_
                              exact g_iret (pc := 224) hC hrt hlk dX5_about_224
                            · skip
                              refine g_swOut (pc := 47) (tgt := 225) hC dX5_about_47 (sw_out_12 hs0 hs1 hs2 hs3 hs4 hs5 hs6 hs7 hs8 hs9 hs10 hs11) (by decide) ?_
                              refine g_aload_n (pc := 225) hC dX5_about_225 rfl ?_
                              refine g_getR (pc := 226) hC fl_X5_41 (by decide) rfl rfl dX5_about_226 ?_
                              refine g_iload_n (pc := 229) hC dX5_about_229 rfl ?_
                              refine g_iald (pc := 230) hC (by decide) rfl dX5_about_230 ?_
                              exact g_iret (pc := 231) hC hrt hlk dX5_about_231
    · refine g_iconst (pc := 38) hC (0 : Int32) dX5_about_38 (by decide) ?_
      exact g_iret (pc := 39) hC hrt hlk dX5_about_39
  show G p l e rm_X5_about s m args below meth c 0 0 (MQ below (va_Qi K (Bq D ad cy) A) args s 0 0 A) 4 D ad cy A (wp_X5_about V K a1 a2) V 0 [some (.ref (ad 60)), some (.int a1), some (.int a2), none] []
  refine g_aload_n (pc := 0) hC dX5_about_0 rfl ?_
  refine g_aload_n (pc := 1) hC dX5_about_1 rfl ?_
  refine g_iload_n (pc := 2) hC dX5_about_2 rfl ?_
  refine g_cvi (pc := 3) hC (c_X5_isSource hC.2.2.2.1) mi_X5_isSource ww_740 ⟨rfl, rfl⟩ ⟨by decide, by decide⟩ (by decide) rfl rfl rfl rfl (Nat.le_of_ble_eq_true rfl) ⟨Nat.le_of_ble_eq_true rfl, Nat.le_of_ble_eq_true rfl⟩ dX5_about_3 (fun r1 V2 => ?_)
  refine g_if_ne (pc := 6) (tgt := 13) hC dX5_about_6 (by decide) ?_ ?_
  · refine g_iload_n (pc := 13) hC dX5_about_13 rfl ?_
    refine g_iconst (pc := 14) hC (0 : Int32) dX5_about_14 (by decide) ?_
    refine g_bipush (pc := 15) hC (12 : Int32) dX5_about_15 (by decide) ?_
    refine g_csi (pc := 17) hC (c_X5_within hC.2.2.2.1) mi_X5_within ww_702 ⟨rfl, rfl⟩ ⟨by decide, by decide⟩ rfl rfl (Nat.le_of_ble_eq_true rfl) ⟨Nat.le_of_ble_eq_true rfl, Nat.le_of_ble_eq_true rfl⟩ dX5_about_17 (fun r3 V4 => ?_)
    refine g_if_ne (pc := 20) (tgt := 27) hC dX5_about_20 (by decide) ?_ ?_
    · refine g_iconst (pc := 27) hC (0 : Int32) dX5_about_27 (by decide) ?_
      exact J_28  V4 (0 : Int32)
    · refine g_iconst (pc := 23) hC (2 : Int32) dX5_about_23 (by decide) ?_
      refine g_goto (pc := 24) (tgt := 28) hC dX5_about_24 (by decide) ?_
      exact J_28  V4 (2 : Int32)
  · refine g_iconst (pc := 9) hC (1 : Int32) dX5_about_9 (by decide) ?_
    refine g_goto (pc := 10) (tgt := 28) hC dX5_about_10 (by decide) ?_
    exact J_28  V2 (1 : Int32)
def rm_X5_task : Room := ({ frames := 5, cells := 0, slots := 0, locals := 113 } : Room)
def b_X5_task_37 (K : Int32 → St → Prop) (a1 : Int32) (a2 : Int32) (V : St) (s0 : Int32) : Prop := ∀ V1 : St, V1 = up2 V 60 0 s0 → if (V1 60 0) ≤ 0 then (if a2 = 0 then (vp_in a1 6 ∧ K (V1 87 a1.toNatClampNeg) V1) else (if a2 = (1 : Int32) then (vp_in a1 6 ∧ K (V1 88 a1.toNatClampNeg) V1) else (if a2 = (2 : Int32) then (vp_in a1 6 ∧ K (V1 89 a1.toNatClampNeg) V1) else (wp_X5_taskBound V1 (fun (r2 : Int32) (V3 : St) => K r2 V3) a1)))) else (K (0 : Int32) V1)
def b_X5_task_19 (K : Int32 → St → Prop) (a1 : Int32) (a2 : Int32) (V : St) : Prop := b_X5_task_37 K a1 a2 V (1 : Int32)
def wp_X5_task (V : St) (K : Int32 → St → Prop) (a1 : Int32) (a2 : Int32) : Prop := wp_X5_within V (fun (r1 : Int32) (V2 : St) => if r1 = 0 then (b_X5_task_19 K a1 a2 V2) else (vp_in a1 6 ∧ if (V2 82 a1.toNatClampNeg) = 0 then (b_X5_task_19 K a1 a2 V2) else (wp_X5_within V2 (fun (r3 : Int32) (V4 : St) => if r3 = 0 then (b_X5_task_37 K a1 a2 V4 (2 : Int32)) else (b_X5_task_37 K a1 a2 V4 (0 : Int32))) a2 (0 : Int32) (3 : Int32)))) a1 (0 : Int32) (5 : Int32)
set_option maxRecDepth 100000 in
set_option maxHeartbeats 4000000 in
theorem c_X5_task {l : Launch} {D : va_G} {ad : Nat → Nat} {cy : Nat → ClassId} (hi : inj ad) {V : St} {K : Int32 → St → Prop} {a1 : Int32} {a2 : Int32} : wp_X5_task V K a1 a2 → Hi l D ad cy yX5_task (Cond.code yX5_task cX5_task 3 (some .int) :: WA) rm_X5_task [.ref (ad 60), .int a1, .int a2] V K := by
  refine H_i (w := wp_X5_task V K a1 a2) (by decide) (Nat.le_of_ble_eq_true rfl) (List.forall_mem_cons.mpr ⟨rfl, (List.forall_mem_cons.mpr ⟨rfl, (List.forall_mem_cons.mpr ⟨rfl, (fun _ h => absurd h List.not_mem_nil)⟩)⟩)⟩) hi ?_
  intro p e s m args below meth c A hC hrt hlk
  have J_37 : ∀ (V : St) (s0 : Int32), G p l e rm_X5_task s m args below meth c 0 0 (MQ below (va_Qi K (Bq D ad cy) A) args s 0 0 A) 3 D ad cy A (b_X5_task_37 K a1 a2 V s0) V 37 [some (.ref (ad 60)), some (.int a1), some (.int a2)] [.int s0, .ref (ad 60)] := by
    intro  V s0 
    refine g_putI (pc := 37) hC fp_X5_107 (by decide) rfl rfl dX5_task_37 (fun V1 => ?_)
    refine g_aload_n (pc := 40) hC dX5_task_40 rfl ?_
    refine g_getI (pc := 41) hC fl_X5_107 (by decide) rfl rfl dX5_task_41 ?_
    refine g_if_le (pc := 44) (tgt := 49) hC dX5_task_44 (by decide) ?_ ?_
    · refine g_iload_n (pc := 49) hC dX5_task_49 rfl ?_
      refine g_if_ne (pc := 50) (tgt := 62) hC dX5_task_50 (by decide) ?_ ?_
      · refine g_iload_n (pc := 62) hC dX5_task_62 rfl ?_
        refine g_iconst (pc := 63) hC (1 : Int32) dX5_task_63 (by decide) ?_
        refine g_icmp_ne (pc := 64) (tgt := 76) hC dX5_task_64 (by decide) ?_ ?_
        · refine g_iload_n (pc := 76) hC dX5_task_76 rfl ?_
          refine g_iconst (pc := 77) hC (2 : Int32) dX5_task_77 (by decide) ?_
          refine g_icmp_ne (pc := 78) (tgt := 90) hC dX5_task_78 (by decide) ?_ ?_
          · refine g_aload_n (pc := 90) hC dX5_task_90 rfl ?_
            refine g_iload_n (pc := 91) hC dX5_task_91 rfl ?_
            refine g_cvi (pc := 92) hC (c_X5_taskBound hC.2.2.2.1) mi_X5_taskBound ww_709 ⟨rfl, rfl⟩ ⟨by decide, by decide⟩ (by decide) rfl rfl rfl rfl (Nat.le_of_ble_eq_true rfl) ⟨Nat.le_of_ble_eq_true rfl, Nat.le_of_ble_eq_true rfl⟩ dX5_task_92 (fun r2 V3 => ?_)
            exact g_iret (pc := 95) hC hrt hlk dX5_task_95
          · refine g_aload_n (pc := 81) hC dX5_task_81 rfl ?_
            refine g_getR (pc := 82) hC fl_X5_95 (by decide) rfl rfl dX5_task_82 ?_
            refine g_iload_n (pc := 85) hC dX5_task_85 rfl ?_
            refine g_iald (pc := 86) hC (by decide) rfl dX5_task_86 ?_
            refine g_goto (pc := 87) (tgt := 95) hC dX5_task_87 (by decide) ?_
            exact g_iret (pc := 95) hC hrt hlk dX5_task_95
        · refine g_aload_n (pc := 67) hC dX5_task_67 rfl ?_
          refine g_getR (pc := 68) hC fl_X5_92 (by decide) rfl rfl dX5_task_68 ?_
          refine g_iload_n (pc := 71) hC dX5_task_71 rfl ?_
          refine g_iald (pc := 72) hC (by decide) rfl dX5_task_72 ?_
          refine g_goto (pc := 73) (tgt := 95) hC dX5_task_73 (by decide) ?_
          exact g_iret (pc := 95) hC hrt hlk dX5_task_95
      · refine g_aload_n (pc := 53) hC dX5_task_53 rfl ?_
        refine g_getR (pc := 54) hC fl_X5_89 (by decide) rfl rfl dX5_task_54 ?_
        refine g_iload_n (pc := 57) hC dX5_task_57 rfl ?_
        refine g_iald (pc := 58) hC (by decide) rfl dX5_task_58 ?_
        refine g_goto (pc := 59) (tgt := 95) hC dX5_task_59 (by decide) ?_
        exact g_iret (pc := 95) hC hrt hlk dX5_task_95
    · refine g_iconst (pc := 47) hC (0 : Int32) dX5_task_47 (by decide) ?_
      exact g_iret (pc := 48) hC hrt hlk dX5_task_48
  have J_19 : ∀ (V : St), G p l e rm_X5_task s m args below meth c 0 0 (MQ below (va_Qi K (Bq D ad cy) A) args s 0 0 A) 3 D ad cy A (b_X5_task_19 K a1 a2 V) V 19 [some (.ref (ad 60)), some (.int a1), some (.int a2)] [.ref (ad 60)] := by
    intro  V 
    refine g_iconst (pc := 19) hC (1 : Int32) dX5_task_19 (by decide) ?_
    refine g_goto (pc := 20) (tgt := 37) hC dX5_task_20 (by decide) ?_
    exact J_37  V (1 : Int32)
  show G p l e rm_X5_task s m args below meth c 0 0 (MQ below (va_Qi K (Bq D ad cy) A) args s 0 0 A) 3 D ad cy A (wp_X5_task V K a1 a2) V 0 [some (.ref (ad 60)), some (.int a1), some (.int a2)] []
  refine g_aload_n (pc := 0) hC dX5_task_0 rfl ?_
  refine g_iload_n (pc := 1) hC dX5_task_1 rfl ?_
  refine g_iconst (pc := 2) hC (0 : Int32) dX5_task_2 (by decide) ?_
  refine g_iconst (pc := 3) hC (5 : Int32) dX5_task_3 (by decide) ?_
  refine g_csi (pc := 4) hC (c_X5_within hC.2.2.2.1) mi_X5_within ww_702 ⟨rfl, rfl⟩ ⟨by decide, by decide⟩ rfl rfl (Nat.le_of_ble_eq_true rfl) ⟨Nat.le_of_ble_eq_true rfl, Nat.le_of_ble_eq_true rfl⟩ dX5_task_4 (fun r1 V2 => ?_)
  refine g_if_eq (pc := 7) (tgt := 19) hC dX5_task_7 (by decide) ?_ ?_
  · exact J_19  V2
  · refine g_aload_n (pc := 10) hC dX5_task_10 rfl ?_
    refine g_getR (pc := 11) hC fl_X5_74 (by decide) rfl rfl dX5_task_11 ?_
    refine g_iload_n (pc := 14) hC dX5_task_14 rfl ?_
    refine g_zald (pc := 15) hC (by decide) rfl dX5_task_15 ?_
    refine g_if_ne (pc := 16) (tgt := 23) hC dX5_task_16 (by decide) ?_ ?_
    · refine g_iload_n (pc := 23) hC dX5_task_23 rfl ?_
      refine g_iconst (pc := 24) hC (0 : Int32) dX5_task_24 (by decide) ?_
      refine g_iconst (pc := 25) hC (3 : Int32) dX5_task_25 (by decide) ?_
      refine g_csi (pc := 26) hC (c_X5_within hC.2.2.2.1) mi_X5_within ww_702 ⟨rfl, rfl⟩ ⟨by decide, by decide⟩ rfl rfl (Nat.le_of_ble_eq_true rfl) ⟨Nat.le_of_ble_eq_true rfl, Nat.le_of_ble_eq_true rfl⟩ dX5_task_26 (fun r3 V4 => ?_)
      refine g_if_ne (pc := 29) (tgt := 36) hC dX5_task_29 (by decide) ?_ ?_
      · refine g_iconst (pc := 36) hC (0 : Int32) dX5_task_36 (by decide) ?_
        exact J_37  V4 (0 : Int32)
      · refine g_iconst (pc := 32) hC (2 : Int32) dX5_task_32 (by decide) ?_
        refine g_goto (pc := 33) (tgt := 37) hC dX5_task_33 (by decide) ?_
        exact J_37  V4 (2 : Int32)
    · exact J_19  V2
def rm_X5_bound : Room := ({ frames := 4, cells := 0, slots := 0, locals := 90 } : Room)
def b_X5_bound_14 (K : Int32 → St → Prop) (a1 : Int32) (V : St) (s0 : Int32) : Prop := ∀ V1 : St, V1 = up2 V 60 0 s0 → if (V1 60 0) ≤ 0 then (wp_X5_sourceBound V1 (fun (r2 : Int32) (V3 : St) => K r2 V3) a1) else (K (0 : Int32) V1)
def wp_X5_bound (V : St) (K : Int32 → St → Prop) (a1 : Int32) : Prop := wp_X5_isSource V (fun (r1 : Int32) (V2 : St) => if r1 = 0 then (b_X5_bound_14 K a1 V2 (1 : Int32)) else (b_X5_bound_14 K a1 V2 (0 : Int32))) a1
set_option maxRecDepth 100000 in
set_option maxHeartbeats 4000000 in
theorem c_X5_bound {l : Launch} {D : va_G} {ad : Nat → Nat} {cy : Nat → ClassId} (hi : inj ad) {V : St} {K : Int32 → St → Prop} {a1 : Int32} : wp_X5_bound V K a1 → Hi l D ad cy yX5_bound (Cond.code yX5_bound cX5_bound 2 (some .int) :: WA) rm_X5_bound [.ref (ad 60), .int a1] V K := by
  refine H_i (w := wp_X5_bound V K a1) (by decide) (Nat.le_of_ble_eq_true rfl) (List.forall_mem_cons.mpr ⟨rfl, (List.forall_mem_cons.mpr ⟨rfl, (fun _ h => absurd h List.not_mem_nil)⟩)⟩) hi ?_
  intro p e s m args below meth c A hC hrt hlk
  have J_14 : ∀ (V : St) (s0 : Int32), G p l e rm_X5_bound s m args below meth c 0 0 (MQ below (va_Qi K (Bq D ad cy) A) args s 0 0 A) 2 D ad cy A (b_X5_bound_14 K a1 V s0) V 14 [some (.ref (ad 60)), some (.int a1)] [.int s0, .ref (ad 60)] := by
    intro  V s0 
    refine g_putI (pc := 14) hC fp_X5_107 (by decide) rfl rfl dX5_bound_14 (fun V1 => ?_)
    refine g_aload_n (pc := 17) hC dX5_bound_17 rfl ?_
    refine g_getI (pc := 18) hC fl_X5_107 (by decide) rfl rfl dX5_bound_18 ?_
    refine g_if_le (pc := 21) (tgt := 28) hC dX5_bound_21 (by decide) ?_ ?_
    · refine g_aload_n (pc := 28) hC dX5_bound_28 rfl ?_
      refine g_iload_n (pc := 29) hC dX5_bound_29 rfl ?_
      refine g_cvi (pc := 30) hC (c_X5_sourceBound hC.2.2.2.1) mi_X5_sourceBound ww_800 ⟨rfl, rfl⟩ ⟨by decide, by decide⟩ (by decide) rfl rfl rfl rfl (Nat.le_of_ble_eq_true rfl) ⟨Nat.le_of_ble_eq_true rfl, Nat.le_of_ble_eq_true rfl⟩ dX5_bound_30 (fun r2 V3 => ?_)
      exact g_iret (pc := 33) hC hrt hlk dX5_bound_33
    · refine g_iconst (pc := 24) hC (0 : Int32) dX5_bound_24 (by decide) ?_
      refine g_goto (pc := 25) (tgt := 33) hC dX5_bound_25 (by decide) ?_
      exact g_iret (pc := 33) hC hrt hlk dX5_bound_33
  show G p l e rm_X5_bound s m args below meth c 0 0 (MQ below (va_Qi K (Bq D ad cy) A) args s 0 0 A) 2 D ad cy A (wp_X5_bound V K a1) V 0 [some (.ref (ad 60)), some (.int a1)] []
  refine g_aload_n (pc := 0) hC dX5_bound_0 rfl ?_
  refine g_aload_n (pc := 1) hC dX5_bound_1 rfl ?_
  refine g_iload_n (pc := 2) hC dX5_bound_2 rfl ?_
  refine g_cvi (pc := 3) hC (c_X5_isSource hC.2.2.2.1) mi_X5_isSource ww_740 ⟨rfl, rfl⟩ ⟨by decide, by decide⟩ (by decide) rfl rfl rfl rfl (Nat.le_of_ble_eq_true rfl) ⟨Nat.le_of_ble_eq_true rfl, Nat.le_of_ble_eq_true rfl⟩ dX5_bound_3 (fun r1 V2 => ?_)
  refine g_if_eq (pc := 6) (tgt := 13) hC dX5_bound_6 (by decide) ?_ ?_
  · refine g_iconst (pc := 13) hC (1 : Int32) dX5_bound_13 (by decide) ?_
    exact J_14  V2 (1 : Int32)
  · refine g_iconst (pc := 9) hC (0 : Int32) dX5_bound_9 (by decide) ?_
    refine g_goto (pc := 10) (tgt := 14) hC dX5_bound_10 (by decide) ?_
    exact J_14  V2 (0 : Int32)
def rm_X5_used : Room := ({ frames := 2, cells := 0, slots := 0, locals := 43 } : Room)
def b_X5_used_119 (K : Int32 → St → Prop) (a1 : Int32) (a2 : Int32) (a3 : Int32) (a4 : Int32) (rec_70 : St → Int32 → Int32 → Prop) (V : St) (l6 : Int32) (l7 : Int32) : Prop := ∀ x1 : Int32, x1 = (l6 + (1 : Int32)) → rec_70 V x1 (l7 + 1)
def h_X5_used_70 (K : Int32 → St → Prop) (a1 : Int32) (a2 : Int32) (a3 : Int32) (a4 : Int32) (rec_70 : St → Int32 → Int32 → Prop) (V : St) (l6 : Int32) (l7 : Int32) : Prop := if a4 ≤ l7 then (K l6 V) else (if (V 60 0) = 0 then (¬ (1024 : Int32) = 0 ∧ vp_in (l7 - l7 / (1024 : Int32) * (1024 : Int32)) 1024 ∧ ∀ x1 : Int32, x1 = (V 92 (l7 - l7 / (1024 : Int32) * (1024 : Int32)).toNatClampNeg) → if x1 = ((20 : Int32) + a1) then (b_X5_used_119 K a1 a2 a3 a4 rec_70 V l6 l7) else (if a2 = 0 then (rec_70 V l6 (l7 + 1)) else (if x1 = ((10 : Int32) + a1) then (b_X5_used_119 K a1 a2 a3 a4 rec_70 V l6 l7) else (rec_70 V l6 (l7 + 1))))) else (K l6 V))
def b_X5_used_61 (K : Int32 → St → Prop) (a1 : Int32) (a2 : Int32) (a3 : Int32) (a4 : Int32) (V : St) (s0 : Int32) : Prop := ∀ V1 : St, V1 = up2 V 60 0 s0 → ∃ n, lp (fun _ _ _ => False) (h_X5_used_70 K a1 a2 a3 a4) n V1 (0 : Int32) a3
def b_X5_used_36 (K : Int32 → St → Prop) (a1 : Int32) (a2 : Int32) (a3 : Int32) (a4 : Int32) (V : St) (s0 : Int32) : Prop := wp_X5_isSource V (fun (r1 : Int32) (V2 : St) => if r1 = 0 then (b_X5_used_61 K a1 a2 a3 a4 V2 (1 : Int32)) else (if s0 = 0 then (b_X5_used_61 K a1 a2 a3 a4 V2 (2 : Int32)) else (b_X5_used_61 K a1 a2 a3 a4 V2 (0 : Int32)))) a1
def b_X5_used_35 (K : Int32 → St → Prop) (a1 : Int32) (a2 : Int32) (a3 : Int32) (a4 : Int32) (V : St) : Prop := b_X5_used_36 K a1 a2 a3 a4 V (0 : Int32)
def wp_X5_used (V : St) (K : Int32 → St → Prop) (a1 : Int32) (a2 : Int32) (a3 : Int32) (a4 : Int32) : Prop := if a3 < 0 then (b_X5_used_35 K a1 a2 a3 a4 V) else (if a4 < a3 then (b_X5_used_35 K a1 a2 a3 a4 V) else (if (V 60 1) < a4 then (b_X5_used_35 K a1 a2 a3 a4 V) else (if (1000 : Int32) < ((V 60 1) - a3) then (b_X5_used_35 K a1 a2 a3 a4 V) else (b_X5_used_36 K a1 a2 a3 a4 V (1 : Int32)))))
set_option maxRecDepth 100000 in
set_option maxHeartbeats 4000000 in
theorem c_X5_used {l : Launch} {D : va_G} {ad : Nat → Nat} {cy : Nat → ClassId} (hi : inj ad) {V : St} {K : Int32 → St → Prop} {a1 : Int32} {a2 : Int32} {a3 : Int32} {a4 : Int32} : wp_X5_used V K a1 a2 a3 a4 → Hi l D ad cy yX5_used (Cond.code yX5_used cX5_used 9 (some .int) :: WA) rm_X5_used [.ref (ad 60), .int a1, .int a2, .int a3, .int a4] V K := by
  refine H_i (w := wp_X5_used V K a1 a2 a3 a4) (by decide) (Nat.le_of_ble_eq_true rfl) (List.forall_mem_cons.mpr ⟨rfl, (List.forall_mem_cons.mpr ⟨rfl, (List.forall_mem_cons.mpr ⟨rfl, (List.forall_mem_cons.mpr ⟨rfl, (List.forall_mem_cons.mpr ⟨rfl, (fun _ h => absurd h List.not_mem_nil)⟩)⟩)⟩)⟩)⟩) hi ?_
  intro p e s m args below meth c A hC hrt hlk
  have J_119 : ∀ (rec_70 : St → Int32 → Int32 → Prop) (ih_70 : ∀ (V : St) (l6 : Int32) (l7 : Int32), G p l e rm_X5_used s m args below meth c 0 0 (MQ below (va_Qi K (Bq D ad cy) A) args s 0 0 A) 9 D ad cy A (rec_70 V l6 l7) V 70 [some (.ref (ad 60)), some (.int a1), some (.int a2), none, some (.int a4), none, some (.int l6), some (.int l7), none] []), ∀ (V : St) (l6 : Int32) (l7 : Int32), G p l e rm_X5_used s m args below meth c 0 0 (MQ below (va_Qi K (Bq D ad cy) A) args s 0 0 A) 9 D ad cy A (b_X5_used_119 K a1 a2 a3 a4 rec_70 V l6 l7) V 119 [some (.ref (ad 60)), some (.int a1), some (.int a2), none, some (.int a4), none, some (.int l6), some (.int l7), none] [] := by
    intro rec_70 ih_70 V l6 l7 
    refine g_iload (pc := 119) hC dX5_used_119 rfl ?_
    refine g_iconst (pc := 121) hC (1 : Int32) dX5_used_121 (by decide) ?_
    refine g_iadd (pc := 122) hC dX5_used_122 ?_
    refine g_goto (pc := 123) (tgt := 128) hC dX5_used_123 (by decide) ?_
    refine g_nm (fun x1 => ?_)
    refine g_istore (pc := 128) (L2 := [some (.ref (ad 60)), some (.int a1), some (.int a2), none, some (.int a4), none, some (.int x1), some (.int l7), none]) hC dX5_used_128 (by decide) rfl ?_
    refine g_iinc (pc := 130) (L2 := [some (.ref (ad 60)), some (.int a1), some (.int a2), none, some (.int a4), none, some (.int x1), some (.int (l7 + 1)), none]) hC (l7 + 1) dX5_used_130 rfl rfl (by decide) rfl ?_
    refine g_goto (pc := 133) (tgt := 70) hC dX5_used_133 (by decide) ?_
    exact ih_70 V x1 (l7 + 1)
  have J_70 : ∀ (n : Nat), ∀ (V : St) (l6 : Int32) (l7 : Int32), G p l e rm_X5_used s m args below meth c 0 0 (MQ below (va_Qi K (Bq D ad cy) A) args s 0 0 A) 9 D ad cy A (lp (fun _ _ _ => False) (h_X5_used_70 K a1 a2 a3 a4) n V l6 l7) V 70 [some (.ref (ad 60)), some (.int a1), some (.int a2), none, some (.int a4), none, some (.int l6), some (.int l7), none] [] := by
    intro n
    induction n with
    | zero => exact fun _ _ _ h => False.elim h
    | succ n IH =>
      generalize hrec : lp (fun _ _ _ => False) (h_X5_used_70 K a1 a2 a3 a4) n = rec_70 at IH
      have ih_70 := IH
      intro V l6 l7 
      show G p l e rm_X5_used s m args below meth c 0 0 (MQ below (va_Qi K (Bq D ad cy) A) args s 0 0 A) 9 D ad cy A (h_X5_used_70 K a1 a2 a3 a4 (lp (fun _ _ _ => False) (h_X5_used_70 K a1 a2 a3 a4) n) V l6 l7) V 70 [some (.ref (ad 60)), some (.int a1), some (.int a2), none, some (.int a4), none, some (.int l6), some (.int l7), none] []
      rw [hrec]
      refine g_iload (pc := 70) hC dX5_used_70 rfl ?_
      refine g_iload (pc := 72) hC dX5_used_72 rfl ?_
      refine g_icmp_ge (pc := 74) (tgt := 136) hC dX5_used_74 (by decide) ?_ ?_
      · refine g_iload (pc := 136) hC dX5_used_136 rfl ?_
        exact g_iret (pc := 138) hC hrt hlk dX5_used_138
      · refine g_aload_n (pc := 77) hC dX5_used_77 rfl ?_
        refine g_getI (pc := 78) hC fl_X5_107 (by decide) rfl rfl dX5_used_78 ?_
        refine g_if_ne (pc := 81) (tgt := 136) hC dX5_used_81 (by decide) ?_ ?_
        · refine g_iload (pc := 136) hC dX5_used_136 rfl ?_
          exact g_iret (pc := 138) hC hrt hlk dX5_used_138
        · refine g_aload_n (pc := 84) hC dX5_used_84 rfl ?_
          refine g_getR (pc := 85) hC fl_X5_104 (by decide) rfl rfl dX5_used_85 ?_
          refine g_iload (pc := 88) hC dX5_used_88 rfl ?_
          refine g_sipush (pc := 90) hC (1024 : Int32) dX5_used_90 (by decide) ?_
          refine g_irem (pc := 93) hC dX5_used_93 ?_
          refine g_iald (pc := 94) hC (by decide) rfl dX5_used_94 ?_
          refine g_nm (fun x1 => ?_)
          refine g_istore (pc := 95) (L2 := [some (.ref (ad 60)), some (.int a1), some (.int a2), none, some (.int a4), none, some (.int l6), some (.int l7), some (.int x1)]) hC dX5_used_95 (by decide) rfl ?_
          refine g_iload (pc := 97) hC dX5_used_97 rfl ?_
          refine g_bipush (pc := 99) hC (20 : Int32) dX5_used_99 (by decide) ?_
          refine g_iload_n (pc := 101) hC dX5_used_101 rfl ?_
          refine g_iadd (pc := 102) hC dX5_used_102 ?_
          refine g_icmp_eq (pc := 103) (tgt := 119) hC dX5_used_103 (by decide) ?_ ?_
          · exact g_ms [true, true, true, false, true, false, true, true, false] (J_119 rec_70 ih_70 V l6 l7)
          · refine g_iload_n (pc := 106) hC dX5_used_106 rfl ?_
            refine g_if_eq (pc := 107) (tgt := 126) hC dX5_used_107 (by decide) ?_ ?_
            · refine g_iload (pc := 126) hC dX5_used_126 rfl ?_
              refine g_istore (pc := 128) (L2 := [some (.ref (ad 60)), some (.int a1), some (.int a2), none, some (.int a4), none, some (.int l6), some (.int l7), some (.int x1)]) hC dX5_used_128 (by decide) rfl ?_
              refine g_iinc (pc := 130) (L2 := [some (.ref (ad 60)), some (.int a1), some (.int a2), none, some (.int a4), none, some (.int l6), some (.int (l7 + 1)), some (.int x1)]) hC (l7 + 1) dX5_used_130 rfl rfl (by decide) rfl ?_
              refine g_goto (pc := 133) (tgt := 70) hC dX5_used_133 (by decide) ?_
              exact g_ms [true, true, true, false, true, false, true, true, false] (ih_70 V l6 (l7 + 1))
            · refine g_iload (pc := 110) hC dX5_used_110 rfl ?_
              refine g_bipush (pc := 112) hC (10 : Int32) dX5_used_112 (by decide) ?_
              refine g_iload_n (pc := 114) hC dX5_used_114 rfl ?_
              refine g_iadd (pc := 115) hC dX5_used_115 ?_
              refine g_icmp_ne (pc := 116) (tgt := 126) hC dX5_used_116 (by decide) ?_ ?_
              · refine g_iload (pc := 126) hC dX5_used_126 rfl ?_
                refine g_istore (pc := 128) (L2 := [some (.ref (ad 60)), some (.int a1), some (.int a2), none, some (.int a4), none, some (.int l6), some (.int l7), some (.int x1)]) hC dX5_used_128 (by decide) rfl ?_
                refine g_iinc (pc := 130) (L2 := [some (.ref (ad 60)), some (.int a1), some (.int a2), none, some (.int a4), none, some (.int l6), some (.int (l7 + 1)), some (.int x1)]) hC (l7 + 1) dX5_used_130 rfl rfl (by decide) rfl ?_
                refine g_goto (pc := 133) (tgt := 70) hC dX5_used_133 (by decide) ?_
                exact g_ms [true, true, true, false, true, false, true, true, false] (ih_70 V l6 (l7 + 1))
              · exact g_ms [true, true, true, false, true, false, true, true, false] (J_119 rec_70 ih_70 V l6 l7)
  have J_61 : ∀ (V : St) (s0 : Int32), G p l e rm_X5_used s m args below meth c 0 0 (MQ below (va_Qi K (Bq D ad cy) A) args s 0 0 A) 9 D ad cy A (b_X5_used_61 K a1 a2 a3 a4 V s0) V 61 [some (.ref (ad 60)), some (.int a1), some (.int a2), some (.int a3), some (.int a4), none, none, none, none] [.int s0, .ref (ad 60)] := by
    intro  V s0 
    refine g_putI (pc := 61) hC fp_X5_107 (by decide) rfl rfl dX5_used_61 (fun V1 => ?_)
    refine g_iconst (pc := 64) hC (0 : Int32) dX5_used_64 (by decide) ?_
    refine g_istore (pc := 65) (L2 := [some (.ref (ad 60)), some (.int a1), some (.int a2), some (.int a3), some (.int a4), none, some (.int (0 : Int32)), none, none]) hC dX5_used_65 (by decide) rfl ?_
    refine g_iload_n (pc := 67) hC dX5_used_67 rfl ?_
    refine g_istore (pc := 68) (L2 := [some (.ref (ad 60)), some (.int a1), some (.int a2), some (.int a3), some (.int a4), none, some (.int (0 : Int32)), some (.int a3), none]) hC dX5_used_68 (by decide) rfl ?_
    exact g_ms [true, true, true, false, true, false, true, true, false] (g_ex (fun n => J_70  n V1 (0 : Int32) a3))
  have J_36 : ∀ (V : St) (s0 : Int32), G p l e rm_X5_used s m args below meth c 0 0 (MQ below (va_Qi K (Bq D ad cy) A) args s 0 0 A) 9 D ad cy A (b_X5_used_36 K a1 a2 a3 a4 V s0) V 36 [some (.ref (ad 60)), some (.int a1), some (.int a2), some (.int a3), some (.int a4), none, none, none, none] [.int s0] := by
    intro  V s0 
    refine g_istore (pc := 36) (L2 := [some (.ref (ad 60)), some (.int a1), some (.int a2), some (.int a3), some (.int a4), some (.int s0), none, none, none]) hC dX5_used_36 (by decide) rfl ?_
    refine g_aload_n (pc := 38) hC dX5_used_38 rfl ?_
    refine g_aload_n (pc := 39) hC dX5_used_39 rfl ?_
    refine g_iload_n (pc := 40) hC dX5_used_40 rfl ?_
    refine g_cvi (pc := 41) hC (c_X5_isSource hC.2.2.2.1) mi_X5_isSource ww_740 ⟨rfl, rfl⟩ ⟨by decide, by decide⟩ (by decide) rfl rfl rfl rfl (Nat.le_of_ble_eq_true rfl) ⟨Nat.le_of_ble_eq_true rfl, Nat.le_of_ble_eq_true rfl⟩ dX5_used_41 (fun r1 V2 => ?_)
    refine g_if_ne (pc := 44) (tgt := 51) hC dX5_used_44 (by decide) ?_ ?_
    · refine g_iload (pc := 51) hC dX5_used_51 rfl ?_
      refine g_if_ne (pc := 53) (tgt := 60) hC dX5_used_53 (by decide) ?_ ?_
      · refine g_iconst (pc := 60) hC (0 : Int32) dX5_used_60 (by decide) ?_
        exact g_ms [true, true, true, true, true, false, false, false, false] (J_61  V2 (0 : Int32))
      · refine g_iconst (pc := 56) hC (2 : Int32) dX5_used_56 (by decide) ?_
        refine g_goto (pc := 57) (tgt := 61) hC dX5_used_57 (by decide) ?_
        exact g_ms [true, true, true, true, true, false, false, false, false] (J_61  V2 (2 : Int32))
    · refine g_iconst (pc := 47) hC (1 : Int32) dX5_used_47 (by decide) ?_
      refine g_goto (pc := 48) (tgt := 61) hC dX5_used_48 (by decide) ?_
      exact g_ms [true, true, true, true, true, false, false, false, false] (J_61  V2 (1 : Int32))
  have J_35 : ∀ (V : St), G p l e rm_X5_used s m args below meth c 0 0 (MQ below (va_Qi K (Bq D ad cy) A) args s 0 0 A) 9 D ad cy A (b_X5_used_35 K a1 a2 a3 a4 V) V 35 [some (.ref (ad 60)), some (.int a1), some (.int a2), some (.int a3), some (.int a4), none, none, none, none] [] := by
    intro  V 
    refine g_iconst (pc := 35) hC (0 : Int32) dX5_used_35 (by decide) ?_
    exact J_36  V (0 : Int32)
  show G p l e rm_X5_used s m args below meth c 0 0 (MQ below (va_Qi K (Bq D ad cy) A) args s 0 0 A) 9 D ad cy A (wp_X5_used V K a1 a2 a3 a4) V 0 [some (.ref (ad 60)), some (.int a1), some (.int a2), some (.int a3), some (.int a4), none, none, none, none] []
  refine g_iload_n (pc := 0) hC dX5_used_0 rfl ?_
  refine g_if_lt (pc := 1) (tgt := 35) hC dX5_used_1 (by decide) ?_ ?_
  · exact J_35  V
  · refine g_iload_n (pc := 4) hC dX5_used_4 rfl ?_
    refine g_iload (pc := 5) hC dX5_used_5 rfl ?_
    refine g_icmp_gt (pc := 7) (tgt := 35) hC dX5_used_7 (by decide) ?_ ?_
    · exact J_35  V
    · refine g_iload (pc := 10) hC dX5_used_10 rfl ?_
      refine g_aload_n (pc := 12) hC dX5_used_12 rfl ?_
      refine g_getI (pc := 13) hC fl_X5_115 (by decide) rfl rfl dX5_used_13 ?_
      refine g_icmp_gt (pc := 16) (tgt := 35) hC dX5_used_16 (by decide) ?_ ?_
      · exact J_35  V
      · refine g_aload_n (pc := 19) hC dX5_used_19 rfl ?_
        refine g_getI (pc := 20) hC fl_X5_115 (by decide) rfl rfl dX5_used_20 ?_
        refine g_iload_n (pc := 23) hC dX5_used_23 rfl ?_
        refine g_isub (pc := 24) hC dX5_used_24 ?_
        refine g_sipush (pc := 25) hC (1000 : Int32) dX5_used_25 (by decide) ?_
        refine g_icmp_gt (pc := 28) (tgt := 35) hC dX5_used_28 (by decide) ?_ ?_
        · exact J_35  V
        · refine g_iconst (pc := 31) hC (1 : Int32) dX5_used_31 (by decide) ?_
          refine g_goto (pc := 32) (tgt := 36) hC dX5_used_32 (by decide) ?_
          exact J_36  V (1 : Int32)
def rm_X5_floor : Room := ({ frames := 3, cells := 0, slots := 0, locals := 66 } : Room)
def b_X5_floor_16 (K : Int32 → St → Prop) (a1 : Int32) (V : St) (s0 : Int32) : Prop := ∀ V1 : St, V1 = up2 V 60 0 s0 → if (V1 60 0) ≤ 0 then (wp_X5_sourcesIn V1 (fun (r2 : Int32) (V3 : St) => ∀ x4 : Int32, x4 = (a1 - r2) → if 0 ≤ x4 then (K x4 V3) else (K (0 : Int32) V3)) a1) else (K (0 : Int32) V1)
def wp_X5_floor (V : St) (K : Int32 → St → Prop) (a1 : Int32) : Prop := wp_X5_within V (fun (r1 : Int32) (V2 : St) => if r1 = 0 then (b_X5_floor_16 K a1 V2 (1 : Int32)) else (b_X5_floor_16 K a1 V2 (0 : Int32))) a1 (0 : Int32) (100000 : Int32)
set_option maxRecDepth 100000 in
set_option maxHeartbeats 4000000 in
theorem c_X5_floor {l : Launch} {D : va_G} {ad : Nat → Nat} {cy : Nat → ClassId} (hi : inj ad) {V : St} {K : Int32 → St → Prop} {a1 : Int32} : wp_X5_floor V K a1 → Hi l D ad cy yX5_floor (Cond.code yX5_floor cX5_floor 3 (some .int) :: WA) rm_X5_floor [.ref (ad 60), .int a1] V K := by
  refine H_i (w := wp_X5_floor V K a1) (by decide) (Nat.le_of_ble_eq_true rfl) (List.forall_mem_cons.mpr ⟨rfl, (List.forall_mem_cons.mpr ⟨rfl, (fun _ h => absurd h List.not_mem_nil)⟩)⟩) hi ?_
  intro p e s m args below meth c A hC hrt hlk
  have J_16 : ∀ (V : St) (s0 : Int32), G p l e rm_X5_floor s m args below meth c 0 0 (MQ below (va_Qi K (Bq D ad cy) A) args s 0 0 A) 3 D ad cy A (b_X5_floor_16 K a1 V s0) V 16 [some (.ref (ad 60)), some (.int a1), none] [.int s0, .ref (ad 60)] := by
    intro  V s0 
    refine g_putI (pc := 16) hC fp_X5_107 (by decide) rfl rfl dX5_floor_16 (fun V1 => ?_)
    refine g_aload_n (pc := 19) hC dX5_floor_19 rfl ?_
    refine g_getI (pc := 20) hC fl_X5_107 (by decide) rfl rfl dX5_floor_20 ?_
    refine g_if_le (pc := 23) (tgt := 28) hC dX5_floor_23 (by decide) ?_ ?_
    · refine g_iload_n (pc := 28) hC dX5_floor_28 rfl ?_
      refine g_aload_n (pc := 29) hC dX5_floor_29 rfl ?_
      refine g_iload_n (pc := 30) hC dX5_floor_30 rfl ?_
      refine g_cvi (pc := 31) hC (c_X5_sourcesIn hC.2.2.2.1) mi_X5_sourcesIn ww_717 ⟨rfl, rfl⟩ ⟨by decide, by decide⟩ (by decide) rfl rfl rfl rfl (Nat.le_of_ble_eq_true rfl) ⟨Nat.le_of_ble_eq_true rfl, Nat.le_of_ble_eq_true rfl⟩ dX5_floor_31 (fun r2 V3 => ?_)
      refine g_isub (pc := 34) hC dX5_floor_34 ?_
      refine g_nm (fun x4 => ?_)
      refine g_istore_n (pc := 35) (L2 := [some (.ref (ad 60)), some (.int a1), some (.int x4)]) hC dX5_floor_35 (by decide) rfl ?_
      refine g_iload_n (pc := 36) hC dX5_floor_36 rfl ?_
      refine g_if_ge (pc := 37) (tgt := 44) hC dX5_floor_37 (by decide) ?_ ?_
      · refine g_iload_n (pc := 44) hC dX5_floor_44 rfl ?_
        exact g_iret (pc := 45) hC hrt hlk dX5_floor_45
      · refine g_iconst (pc := 40) hC (0 : Int32) dX5_floor_40 (by decide) ?_
        refine g_goto (pc := 41) (tgt := 45) hC dX5_floor_41 (by decide) ?_
        exact g_iret (pc := 45) hC hrt hlk dX5_floor_45
    · refine g_iconst (pc := 26) hC (0 : Int32) dX5_floor_26 (by decide) ?_
      exact g_iret (pc := 27) hC hrt hlk dX5_floor_27
  show G p l e rm_X5_floor s m args below meth c 0 0 (MQ below (va_Qi K (Bq D ad cy) A) args s 0 0 A) 3 D ad cy A (wp_X5_floor V K a1) V 0 [some (.ref (ad 60)), some (.int a1), none] []
  refine g_aload_n (pc := 0) hC dX5_floor_0 rfl ?_
  refine g_iload_n (pc := 1) hC dX5_floor_1 rfl ?_
  refine g_iconst (pc := 2) hC (0 : Int32) dX5_floor_2 (by decide) ?_
  refine g_ldc (pc := 3) hC (100000 : Int32) dX5_floor_3 ww_816 ?_
  refine g_csi (pc := 5) hC (c_X5_within hC.2.2.2.1) mi_X5_within ww_702 ⟨rfl, rfl⟩ ⟨by decide, by decide⟩ rfl rfl (Nat.le_of_ble_eq_true rfl) ⟨Nat.le_of_ble_eq_true rfl, Nat.le_of_ble_eq_true rfl⟩ dX5_floor_5 (fun r1 V2 => ?_)
  refine g_if_eq (pc := 8) (tgt := 15) hC dX5_floor_8 (by decide) ?_ ?_
  · refine g_iconst (pc := 15) hC (1 : Int32) dX5_floor_15 (by decide) ?_
    exact J_16  V2 (1 : Int32)
  · refine g_iconst (pc := 11) hC (0 : Int32) dX5_floor_11 (by decide) ?_
    refine g_goto (pc := 12) (tgt := 16) hC dX5_floor_12 (by decide) ?_
    exact J_16  V2 (0 : Int32)
def rm_X5_time : Room := ({ frames := 0, cells := 0, slots := 0, locals := 0 } : Room)
def wp_X5_time (V : St) (K : Int32 → St → Prop) : Prop := ∀ V1 : St, V1 = up2 V 60 0 (0 : Int32) → K (V1 60 1) V1
set_option maxRecDepth 100000 in
set_option maxHeartbeats 4000000 in
theorem c_X5_time {l : Launch} {D : va_G} {ad : Nat → Nat} {cy : Nat → ClassId} (hi : inj ad) {V : St} {K : Int32 → St → Prop} : wp_X5_time V K → Hi l D ad cy yX5_time (Cond.code yX5_time cX5_time 1 (some .int) :: WA) rm_X5_time [.ref (ad 60)] V K := by
  refine H_i (w := wp_X5_time V K) (by decide) (Nat.le_of_ble_eq_true rfl) (List.forall_mem_cons.mpr ⟨rfl, (fun _ h => absurd h List.not_mem_nil)⟩) hi ?_
  intro p e s m args below meth c A hC hrt hlk
  show G p l e rm_X5_time s m args below meth c 0 0 (MQ below (va_Qi K (Bq D ad cy) A) args s 0 0 A) 1 D ad cy A (wp_X5_time V K) V 0 [some (.ref (ad 60))] []
  refine g_aload_n (pc := 0) hC dX5_time_0 rfl ?_
  refine g_iconst (pc := 1) hC (0 : Int32) dX5_time_1 (by decide) ?_
  refine g_putI (pc := 2) hC fp_X5_107 (by decide) rfl rfl dX5_time_2 (fun V1 => ?_)
  refine g_aload_n (pc := 5) hC dX5_time_5 rfl ?_
  refine g_getI (pc := 6) hC fl_X5_115 (by decide) rfl rfl dX5_time_6 ?_
  exact g_iret (pc := 9) hC hrt hlk dX5_time_9
