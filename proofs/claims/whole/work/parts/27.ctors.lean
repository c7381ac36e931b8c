def rowW (cy : Nat → ClassId) (n q a : Nat) : va_W := ap [(q, .inr (2, [.ref a, .int 0, .int 0]))] [(a, .inl (cy 0, n, .inl (fun _ => 0)))]
def pcsW (cy : Nat → ClassId) (q a b : Nat) : va_W := ap (ap [(q, .inr (1, [.ref a, .ref b, .int 0]))] [(a, .inl (cy 0, 16, .inl (fun _ => 0)))]) [(b, .inl (cy 0, 16, .inl (fun _ => 0)))]
def srcW (cy : Nat → ClassId) (q a1 a2 a3 a4 a5 a6 a7 : Nat) : va_W := ap (ap (ap [(q, .inr (3, [.ref a1, .ref a3, .ref a5, .int 0, .int 0, .int 0, .int 0, .int 0, .int 0, .int 0, .int 0, .int 0, .int 0, .int 0, .int 0, .int 0, .int 0, .int 0]))] (rowW cy 32 a1 a2)) (rowW cy 30 a3 a4)) (pcsW cy a5 a6 a7)
def kerW (cy : Nat → ClassId) (ad : Nat → Nat) : va_W := (ap [((ad 0), .inr (4, [.ref (ad 1), .ref (ad 2), .ref (ad 3), .ref (ad 5), .int (0 : Int32), .int (0 : Int32)])), ((ad 1), .inl (cy 4, 6, .inr (.inr (.inr (.inr (va_up (va_up (va_up (va_up (va_up (va_up (fun _ => none) (0 : Int32).toNatClampNeg (some (ad 12))) (1 : Int32).toNatClampNeg (some (ad 20))) (2 : Int32).toNatClampNeg (some (ad 28))) (3 : Int32).toNatClampNeg (some (ad 36))) (4 : Int32).toNatClampNeg (some (ad 44))) (5 : Int32).toNatClampNeg (some (ad 52)))))))), ((ad 2), .inl (cy 5, 6, .inr (.inr (.inr (.inr (va_up (va_up (va_up (va_up (va_up (va_up (fun _ => none) (0 : Int32).toNatClampNeg (some (ad 6))) (1 : Int32).toNatClampNeg (some (ad 7))) (2 : Int32).toNatClampNeg (some (ad 8))) (3 : Int32).toNatClampNeg (some (ad 9))) (4 : Int32).toNatClampNeg (some (ad 10))) (5 : Int32).toNatClampNeg (some (ad 11))))))))] (ap [((ad 5), .inl (cy 1, 1000, .inl (fun _ => 0)))] (ap (rowW cy 192 (ad 3) (ad 4)) (ap [((ad 11), .inr (0, [.int 0, .int 0, .int 0, .int 0, .int 0, .int 0, .int 0, .int 0]))] (ap [((ad 10), .inr (0, [.int 0, .int 0, .int 0, .int 0, .int 0, .int 0, .int 0, .int 0]))] (ap [((ad 9), .inr (0, [.int 0, .int 0, .int 0, .int 0, .int 0, .int 0, .int 0, .int 0]))] (ap [((ad 8), .inr (0, [.int 0, .int 0, .int 0, .int 0, .int 0, .int 0, .int 0, .int 0]))] (ap [((ad 7), .inr (0, [.int 0, .int 0, .int 0, .int 0, .int 0, .int 0, .int 0, .int 0]))] (ap [((ad 6), .inr (0, [.int 0, .int 0, .int 0, .int 0, .int 0, .int 0, .int 0, .int 0]))] (ap (srcW cy (ad 52) (ad 53) (ad 54) (ad 55) (ad 56) (ad 57) (ad 58) (ad 59)) (ap (srcW cy (ad 44) (ad 45) (ad 46) (ad 47) (ad 48) (ad 49) (ad 50) (ad 51)) (ap (srcW cy (ad 36) (ad 37) (ad 38) (ad 39) (ad 40) (ad 41) (ad 42) (ad 43)) (ap (srcW cy (ad 28) (ad 29) (ad 30) (ad 31) (ad 32) (ad 33) (ad 34) (ad 35)) (ap (srcW cy (ad 20) (ad 21) (ad 22) (ad 23) (ad 24) (ad 25) (ad 26) (ad 27)) (ap (srcW cy (ad 12) (ad 13) (ad 14) (ad 15) (ad 16) (ad 17) (ad 18) (ad 19)) [])))))))))))))))
def modW (cy : Nat → ClassId) (ad : Nat → Nat) : va_W := [((ad 60), .inr (5, [.int 0, .int 0, .ref (ad 61), .ref (ad 62), .ref (ad 63), .ref (ad 64), .ref (ad 65), .ref (ad 66), .ref (ad 67), .ref (ad 68), .ref (ad 69), .ref (ad 70), .ref (ad 71), .ref (ad 72), .ref (ad 73), .ref (ad 74), .ref (ad 75), .ref (ad 76), .ref (ad 77), .ref (ad 78), .ref (ad 79), .ref (ad 80), .ref (ad 81), .ref (ad 82), .ref (ad 83), .ref (ad 84), .ref (ad 85), .ref (ad 86), .ref (ad 87), .ref (ad 88), .ref (ad 89), .int 0, .ref (ad 90), .ref (ad 91), .ref (ad 92)])), ((ad 92), .inl (cy 0, 1024, .inl (fun _ => 0))), ((ad 91), .inl (cy 0, 600, .inl (fun _ => 0))), ((ad 90), .inl (cy 0, 600, .inl (fun _ => 0))), ((ad 89), .inl (cy 0, 6, .inl (fun _ => 0))), ((ad 88), .inl (cy 0, 6, .inl (fun _ => 0))), ((ad 87), .inl (cy 0, 6, .inl (fun _ => 0))), ((ad 86), .inl (cy 0, 6, .inl (fun _ => 0))), ((ad 85), .inl (cy 0, 6, .inl (fun _ => 0))), ((ad 84), .inl (cy 0, 6, .inl (fun _ => 0))), ((ad 83), .inl (cy 0, 6, .inl (fun _ => 0))), ((ad 82), .inl (cy 2, 6, .inl (fun _ => 0))), ((ad 81), .inl (cy 0, 6, .inl (fun _ => 0))), ((ad 80), .inl (cy 0, 6, .inl (fun _ => 0))), ((ad 79), .inl (cy 0, 6, .inl (fun _ => 0))), ((ad 78), .inl (cy 0, 6, .inl (fun _ => 0))), ((ad 77), .inl (cy 0, 6, .inl (fun _ => 0))), ((ad 76), .inl (cy 2, 6, .inl (fun _ => 0))), ((ad 75), .inl (cy 0, 96, .inl (fun _ => 0))), ((ad 74), .inl (cy 0, 96, .inl (fun _ => 0))), ((ad 73), .inl (cy 0, 6, .inl (fun _ => 0))), ((ad 72), .inl (cy 0, 180, .inl (fun _ => 0))), ((ad 71), .inl (cy 0, 6, .inl (upd (upd (upd (upd (upd (upd (fun _ => 0) (0 : Int32).toNatClampNeg (-1 : Int32)) (1 : Int32).toNatClampNeg (-1 : Int32)) (2 : Int32).toNatClampNeg (-1 : Int32)) (3 : Int32).toNatClampNeg (-1 : Int32)) (4 : Int32).toNatClampNeg (-1 : Int32)) (5 : Int32).toNatClampNeg (-1 : Int32)))), ((ad 70), .inl (cy 0, 6, .inl (fun _ => 0))), ((ad 69), .inl (cy 0, 192, .inl (fun _ => 0))), ((ad 68), .inl (cy 0, 6, .inl (fun _ => 0))), ((ad 67), .inl (cy 0, 6, .inl (fun _ => 0))), ((ad 66), .inl (cy 0, 6, .inl (fun _ => 0))), ((ad 65), .inl (cy 0, 6, .inl (fun _ => 0))), ((ad 64), .inl (cy 0, 6, .inl (fun _ => 0))), ((ad 63), .inl (cy 0, 6, .inl (fun _ => 0))), ((ad 62), .inl (cy 0, 6, .inl (fun _ => 0))), ((ad 61), .inl (cy 2, 6, .inl (fun _ => 0)))]
set_option maxRecDepth 100000 in
set_option maxHeartbeats 4000000 in
theorem c_X0_init {l : Launch} {D : va_G} {cy : Nat → ClassId} : HN l D cy yX0_init (Cond.code yX0_init cX0_init 1 none :: WA) ({ frames := 1, cells := 0, slots := 0, locals := 12 } : Room) 0 0 [] (.inr (0, [.int 0, .int 0, .int 0, .int 0, .int 0, .int 0, .int 0, .int 0])) (fun q w1 => w1 = [(q, .inr (0, [.int 0, .int 0, .int 0, .int 0, .int 0, .int 0, .int 0, .int 0]))]) := by
  refine N_i (by decide) (fun q => Nat.le_of_ble_eq_true rfl) (fun _ h => absurd h List.not_mem_nil) rfl ?_
  intro q p e s m args below meth c A hC hrt hlk hin
  show Nd p l e ({ frames := 1, cells := 0, slots := 0, locals := 12 } : Room) s m args below meth c 0 0 _ 1 D A [(q, .inr (0, [.int 0, .int 0, .int 0, .int 0, .int 0, .int 0, .int 0, .int 0]))] 0 [some (.ref q)] []
  refine n_aload_n (pc := 0) hC dX0_init_0 rfl ?_
  refine n_obj (pc := 1) hC oi_X0_1 oi_in oi_cd dX0_init_1 (Nat.le_of_ble_eq_true rfl) (Nat.le_of_ble_eq_true rfl) ?_
  exact n_ret (pc := 4) hC hrt hlk rfl (Nat.le_of_ble_eq_true rfl) (Nat.le_of_ble_eq_true rfl) dX0_init_4
set_option maxRecDepth 100000 in
set_option maxHeartbeats 4000000 in
theorem c_X2_init {l : Launch} {D : va_G} {cy : Nat → ClassId} {n : Nat} (hn : n < 100000) : HN l D cy yX2_init (Cond.code yX2_init cX2_init 2 none :: WA) ({ frames := 1, cells := 1, slots := n, locals := 12 } : Room) 1 n [.int (nI n)] (.inr (2, [.null, .int 0, .int 0])) (fun q w1 => ∃ a, w1 = rowW cy n q a) := by
  refine N_i (by decide) (fun q => Nat.le_of_ble_eq_true rfl) (List.forall_mem_cons.mpr ⟨rfl, (fun _ h => absurd h List.not_mem_nil)⟩) rfl ?_
  intro q p e s m args below meth c A hC hrt hlk hin
  show Nd p l e ({ frames := 1, cells := 1, slots := n, locals := 12 } : Room) s m args below meth c 0 0 _ 2 D A [(q, .inr (2, [.null, .int 0, .int 0]))] 0 [some (.ref q), some (.int (nI n))] []
  refine n_aload_n (pc := 0) hC dX2_init_0 rfl ?_
  refine n_obj (pc := 1) hC oi_X2_1 oi_in oi_cd dX2_init_1 (Nat.le_of_ble_eq_true rfl) (Nat.le_of_ble_eq_true rfl) ?_
  refine n_aload_n (pc := 4) hC dX2_init_4 rfl ?_
  refine n_iload_n (pc := 5) hC dX2_init_5 rfl ?_
  refine n_newa (pc := 6) (atype := .int) hC 0 (ty := .int) (N' := n) (a0 := (n, .inl (fun _ => 0))) rfl (by decide) rfl ac_int (fun _ => rfl) (nI_pos (by omega)) (nI_clamp (by omega)) (by show n * 4 ≤ _; omega) (Nat.le_of_ble_eq_true rfl) (by show 0 + n ≤ n; omega) dX2_init_6 (fun q1 => ?_)
  refine n_putF (pc := 8) (ws2 := (ap [(q, .inr (2, [.ref q1, .int 0, .int 0]))] [(q1, .inl (cy 0, n, .inl (fun _ => 0)))])) hC hin ff_X2_7 (q0 := 0) rfl rfl rfl (Nat.le_of_ble_eq_true rfl) rfl dX2_init_8 ?_
  exact n_ret (pc := 11) hC hrt hlk ⟨q1, rfl⟩ (Nat.le_of_ble_eq_true rfl) (by show 0 + n ≤ n; omega) dX2_init_11
set_option maxRecDepth 100000 in
set_option maxHeartbeats 4000000 in
theorem c_X1_init {l : Launch} {D : va_G} {cy : Nat → ClassId} : HN l D cy yX1_init (Cond.code yX1_init cX1_init 1 none :: WA) ({ frames := 1, cells := 2, slots := 32, locals := 12 } : Room) 2 32 [] (.inr (1, [.null, .null, .int 0])) (fun q w1 => ∃ a b, w1 = pcsW cy q a b) := by
  refine N_i (by decide) (fun q => Nat.le_of_ble_eq_true rfl) (fun _ h => absurd h List.not_mem_nil) rfl ?_
  intro q p e s m args below meth c A hC hrt hlk hin
  show Nd p l e ({ frames := 1, cells := 2, slots := 32, locals := 12 } : Room) s m args below meth c 0 0 _ 1 D A [(q, .inr (1, [.null, .null, .int 0]))] 0 [some (.ref q)] []
  refine n_aload_n (pc := 0) hC dX1_init_0 rfl ?_
  refine n_obj (pc := 1) hC oi_X1_3 oi_in oi_cd dX1_init_1 (Nat.le_of_ble_eq_true rfl) (Nat.le_of_ble_eq_true rfl) ?_
  refine n_aload_n (pc := 4) hC dX1_init_4 rfl ?_
  refine n_bipush (pc := 5) hC (16 : Int32) dX1_init_5 (by decide) ?_
  refine n_newa (pc := 7) (atype := .int) hC 0 (ty := .int) (N' := 16) (a0 := (16, .inl (fun _ => 0))) rfl (by decide) rfl ac_int (fun _ => rfl) (by decide) (by decide) (by decide) (by decide) (by decide) dX1_init_7 (fun q1 => ?_)
  refine n_putF (pc := 9) (ws2 := (ap [(q, .inr (1, [.ref q1, .null, .int 0]))] [(q1, .inl (cy 0, 16, .inl (fun _ => 0)))])) hC hin ff_X1_9 (q0 := 0) rfl rfl rfl (Nat.le_of_ble_eq_true rfl) rfl dX1_init_9 ?_
  refine n_aload_n (pc := 12) hC dX1_init_12 rfl ?_
  refine n_bipush (pc := 13) hC (16 : Int32) dX1_init_13 (by decide) ?_
  refine n_newa (pc := 15) (atype := .int) hC 0 (ty := .int) (N' := 16) (a0 := (16, .inl (fun _ => 0))) rfl (by decide) rfl ac_int (fun _ => rfl) (by decide) (by decide) (by decide) (by decide) (by decide) dX1_init_15 (fun q2 => ?_)
  refine n_putF (pc := 17) (ws2 := (ap (ap [(q, .inr (1, [.ref q1, .ref q2, .int 0]))] [(q1, .inl (cy 0, 16, .inl (fun _ => 0)))]) [(q2, .inl (cy 0, 16, .inl (fun _ => 0)))])) hC hin ff_X1_15 (q0 := 0) rfl rfl rfl (Nat.le_of_ble_eq_true rfl) rfl dX1_init_17 ?_
  exact n_ret (pc := 20) hC hrt hlk ⟨q1, q2, rfl⟩ (Nat.le_of_ble_eq_true rfl) (Nat.le_of_ble_eq_true rfl) dX1_init_20
set_option maxRecDepth 100000 in
set_option maxHeartbeats 4000000 in
theorem c_X3_init {l : Launch} {D : va_G} {cy : Nat → ClassId} : HN l D cy yX3_init (Cond.code yX3_init cX3_init 1 none :: WA) ({ frames := 2, cells := 7, slots := 103, locals := 33 } : Room) 7 103 [] (.inr (3, [.null, .null, .null, .int 0, .int 0, .int 0, .int 0, .int 0, .int 0, .int 0, .int 0, .int 0, .int 0, .int 0, .int 0, .int 0, .int 0, .int 0])) (fun q w1 => ∃ a1 a2 a3 a4 a5 a6 a7, w1 = srcW cy q a1 a2 a3 a4 a5 a6 a7) := by
  refine N_i (by decide) (fun q => Nat.le_of_ble_eq_true rfl) (fun _ h => absurd h List.not_mem_nil) rfl ?_
  intro q p e s m args below meth c A hC hrt hlk hin
  show Nd p l e ({ frames := 2, cells := 7, slots := 103, locals := 33 } : Room) s m args below meth c 0 0 _ 1 D A [(q, .inr (3, [.null, .null, .null, .int 0, .int 0, .int 0, .int 0, .int 0, .int 0, .int 0, .int 0, .int 0, .int 0, .int 0, .int 0, .int 0, .int 0, .int 0]))] 0 [some (.ref q)] []
  refine n_aload_n (pc := 0) hC dX3_init_0 rfl ?_
  refine n_obj (pc := 1) hC oi_X3_3 oi_in oi_cd dX3_init_1 (Nat.le_of_ble_eq_true rfl) (Nat.le_of_ble_eq_true rfl) ?_
  refine n_aload_n (pc := 4) hC dX3_init_4 rfl ?_
  refine n_new (pc := 5) hC mk_X3_9 (by decide) (by decide) dX3_init_5 (fun q1 => ?_)
  refine n_dup (pc := 8) hC dX3_init_8 rfl ?_
  refine n_bipush (pc := 9) hC (32 : Int32) dX3_init_9 (by decide) ?_
  refine n_init (pc := 11) hC (c_X2_init (n := 32) (by decide)) mn_X2_init (Or.inl ml_X3_11) ⟨rfl, rfl⟩ ⟨by decide, by decide⟩ rfl rfl (Nat.le_of_ble_eq_true rfl) ⟨by decide, by decide⟩ dX3_init_11 (fun w3 hw3 => ?_)
  obtain ⟨a2, rfl⟩ := hw3
  refine n_putF (pc := 14) (ws2 := (ap [(q, .inr (3, [.ref q1, .null, .null, .int 0, .int 0, .int 0, .int 0, .int 0, .int 0, .int 0, .int 0, .int 0, .int 0, .int 0, .int 0, .int 0, .int 0, .int 0]))] (rowW cy 32 q1 a2))) hC hin ff_X3_14 (q0 := 0) rfl rfl rfl (Nat.le_of_ble_eq_true rfl) rfl dX3_init_14 ?_
  refine n_aload_n (pc := 17) hC dX3_init_17 rfl ?_
  refine n_new (pc := 18) hC mk_X3_9 (by decide) (by decide) dX3_init_18 (fun q4 => ?_)
  refine n_dup (pc := 21) hC dX3_init_21 rfl ?_
  refine n_bipush (pc := 22) hC (30 : Int32) dX3_init_22 (by decide) ?_
  refine n_init (pc := 24) hC (c_X2_init (n := 30) (by decide)) mn_X2_init (Or.inl ml_X3_11) ⟨rfl, rfl⟩ ⟨by decide, by decide⟩ rfl rfl (Nat.le_of_ble_eq_true rfl) ⟨by decide, by decide⟩ dX3_init_24 (fun w6 hw6 => ?_)
  obtain ⟨a5, rfl⟩ := hw6
  refine n_putF (pc := 27) (ws2 := (ap (ap [(q, .inr (3, [.ref q1, .ref q4, .null, .int 0, .int 0, .int 0, .int 0, .int 0, .int 0, .int 0, .int 0, .int 0, .int 0, .int 0, .int 0, .int 0, .int 0, .int 0]))] (rowW cy 32 q1 a2)) (rowW cy 30 q4 a5))) hC hin ff_X3_20 (q0 := 0) rfl rfl rfl (Nat.le_of_ble_eq_true rfl) rfl dX3_init_27 ?_
  refine n_aload_n (pc := 30) hC dX3_init_30 rfl ?_
  refine n_new (pc := 31) hC mk_X3_23 (by decide) (by decide) dX3_init_31 (fun q7 => ?_)
  refine n_dup (pc := 34) hC dX3_init_34 rfl ?_
  refine n_init (pc := 35) hC c_X1_init mn_X1_init (Or.inl ml_X3_25) ⟨rfl, rfl⟩ ⟨by decide, by decide⟩ rfl rfl (Nat.le_of_ble_eq_true rfl) ⟨by decide, by decide⟩ dX3_init_35 (fun w10 hw10 => ?_)
  obtain ⟨a8, a9, rfl⟩ := hw10
  refine n_putF (pc := 38) (ws2 := (ap (ap (ap [(q, .inr (3, [.ref q1, .ref q4, .ref q7, .int 0, .int 0, .int 0, .int 0, .int 0, .int 0, .int 0, .int 0, .int 0, .int 0, .int 0, .int 0, .int 0, .int 0, .int 0]))] (rowW cy 32 q1 a2)) (rowW cy 30 q4 a5)) (pcsW cy q7 a8 a9))) hC hin ff_X3_26 (q0 := 0) rfl rfl rfl (Nat.le_of_ble_eq_true rfl) rfl dX3_init_38 ?_
  exact n_ret (pc := 41) hC hrt hlk ⟨q1, a2, q4, a5, q7, a8, a9, rfl⟩ (Nat.le_of_ble_eq_true rfl) (Nat.le_of_ble_eq_true rfl) dX3_init_41
