set_option maxRecDepth 100000 in
set_option maxHeartbeats 4000000 in
theorem c_X4_init {l : Launch} {D : va_G} {cy : Nat → ClassId} : HN l D cy yX4_init (Cond.code yX4_init cX4_init 2 none :: WA) ({ frames := 3, cells := 59, slots := 1981, locals := 53 } : Room) 59 1981 [] (.inr (4, [.null, .null, .null, .null, .int 0, .int 0])) (fun q w1 => ∃ ad : Nat → Nat, ad 0 = q ∧ w1 = kerW cy ad) := by
  refine N_i (by decide) (fun q => Nat.le_of_ble_eq_true rfl) (fun _ h => absurd h List.not_mem_nil) rfl ?_
  intro q p e s m args below meth c A hC hrt hlk hin
  show Nd p l e ({ frames := 3, cells := 59, slots := 1981, locals := 53 } : Room) s m args below meth c 0 0 _ 2 D A (ap [(q, .inr (4, [.null, .null, .null, .null, .int 0, .int 0]))] []) 0 [some (.ref q), none] []
  refine n_aload_n (pc := 0) hC dX4_init_0 rfl ?_
  refine n_obj (pc := 1) hC oi_X4_1 oi_in oi_cd dX4_init_1 (Nat.le_of_ble_eq_true rfl) (Nat.le_of_ble_eq_true rfl) ?_
  refine n_aload_n (pc := 4) hC dX4_init_4 rfl ?_
  refine n_bipush (pc := 5) hC (6 : Int32) dX4_init_5 (by decide) ?_
  refine n_newqH (pc := 7) hC 4 (N' := 6) hC.2.2.2.1.1 rfl cl_X4_9 (by decide) (by decide) (by decide) (by decide) (by decide) dX4_init_7 (pre2 := fun q1 => [(q, .inr (4, [.null, .null, .null, .null, .int 0, .int 0])), (q1, .inl (cy 4, 6, .inr (.inr (.inr (.inr (fun _ => none))))))]) (fun _ => rfl) (fun q1 => ?_)
  show Nd _ _ _ _ _ _ _ _ _ _ _ _ _ _ _ _ (ap [(q, .inr (4, [.null, .null, .null, .null, .int 0, .int 0])), (q1, .inl (cy 4, 6, .inr (.inr (.inr (.inr (fun _ => none))))))] []) _ _ _
  refine n_putF (pc := 10) (ws2 := (ap [(q, .inr (4, [.ref q1, .null, .null, .null, .int 0, .int 0])), (q1, .inl (cy 4, 6, .inr (.inr (.inr (.inr (fun _ => none))))))] [])) hC hin ff_X4_11 (q0 := 0) rfl rfl rfl (Nat.le_of_ble_eq_true rfl) rfl dX4_init_10 ?_
  refine n_iconst (pc := 13) hC (0 : Int32) dX4_init_13 (by decide) ?_
  refine n_istore_n (pc := 14) (L2 := [some (.ref q), some (.int (0 : Int32))]) hC dX4_init_14 (by decide) rfl ?_
  refine n_iload_n (pc := 15) hC dX4_init_15 rfl ?_
  refine n_bipush (pc := 16) hC (6 : Int32) dX4_init_16 (by decide) ?_
  refine n_ge_f (pc := 18) (tgt := 40) hC dX4_init_18 (by decide) (by decide) ?_
  refine n_aload_n (pc := 21) hC dX4_init_21 rfl ?_
  refine n_get (pc := 22) hC fl_X4_11 (q0 := 0) rfl rfl dX4_init_22 ?_
  refine n_iload_n (pc := 25) hC dX4_init_25 rfl ?_
  refine n_newH (pc := 26) hC mk_X4_9 (by decide) (by decide) dX4_init_26 (fun q2 => ?_)
  refine n_dup (pc := 29) hC dX4_init_29 rfl ?_
  refine n_initH (pc := 30) hC c_X3_init mn_X3_init (Or.inl ml_X4_15) ⟨rfl, rfl⟩ ⟨by decide, by decide⟩ rfl rfl (Nat.le_of_ble_eq_true rfl) ⟨by decide, by decide⟩ dX4_init_30 (fun w10 hw10 => ?_)
  obtain ⟨a3, a4, a5, a6, a7, a8, a9, rfl⟩ := hw10
  refine n_aast (pc := 33) (ws2 := (ap [(q, .inr (4, [.ref q1, .null, .null, .null, .int 0, .int 0])), (q1, .inl (cy 4, 6, .inr (.inr (.inr (.inr (va_up (fun _ => none) (0 : Int32).toNatClampNeg (some q2)))))))] (ap (srcW cy q2 a3 a4 a5 a6 a7 a8 a9) []))) hC 1 4 2 3 rfl rfl rfl rfl (by unfold vp_in; decide) rfl dX4_init_33 ?_
  generalize hR11 : ap (srcW cy q2 a3 a4 a5 a6 a7 a8 a9) [] = R11
  refine n_iinc (pc := 34) (L2 := [some (.ref q), some (.int (1 : Int32))]) hC (1 : Int32) dX4_init_34 rfl (by decide) (by decide) rfl ?_
  refine n_goto (pc := 37) (tgt := 15) hC dX4_init_37 (by decide) ?_
  refine n_iload_n (pc := 15) hC dX4_init_15 rfl ?_
  refine n_bipush (pc := 16) hC (6 : Int32) dX4_init_16 (by decide) ?_
  refine n_ge_f (pc := 18) (tgt := 40) hC dX4_init_18 (by decide) (by decide) ?_
  refine n_aload_n (pc := 21) hC dX4_init_21 rfl ?_
  refine n_get (pc := 22) hC fl_X4_11 (q0 := 0) rfl rfl dX4_init_22 ?_
  refine n_iload_n (pc := 25) hC dX4_init_25 rfl ?_
  refine n_newH (pc := 26) hC mk_X4_9 (by decide) (by decide) dX4_init_26 (fun q12 => ?_)
  refine n_dup (pc := 29) hC dX4_init_29 rfl ?_
  refine n_initH (pc := 30) hC c_X3_init mn_X3_init (Or.inl ml_X4_15) ⟨rfl, rfl⟩ ⟨by decide, by decide⟩ rfl rfl (Nat.le_of_ble_eq_true rfl) ⟨by decide, by decide⟩ dX4_init_30 (fun w20 hw20 => ?_)
  obtain ⟨a13, a14, a15, a16, a17, a18, a19, rfl⟩ := hw20
  refine n_aast (pc := 33) (ws2 := (ap [(q, .inr (4, [.ref q1, .null, .null, .null, .int 0, .int 0])), (q1, .inl (cy 4, 6, .inr (.inr (.inr (.inr (va_up (va_up (fun _ => none) (0 : Int32).toNatClampNeg (some q2)) (1 : Int32).toNatClampNeg (some q12)))))))] (ap (srcW cy q12 a13 a14 a15 a16 a17 a18 a19) R11))) hC 1 4 2 3 rfl rfl rfl rfl (by unfold vp_in; decide) rfl dX4_init_33 ?_
  generalize hR21 : ap (srcW cy q12 a13 a14 a15 a16 a17 a18 a19) R11 = R21
  refine n_iinc (pc := 34) (L2 := [some (.ref q), some (.int (2 : Int32))]) hC (2 : Int32) dX4_init_34 rfl (by decide) (by decide) rfl ?_
  refine n_goto (pc := 37) (tgt := 15) hC dX4_init_37 (by decide) ?_
  refine n_iload_n (pc := 15) hC dX4_init_15 rfl ?_
  refine n_bipush (pc := 16) hC (6 : Int32) dX4_init_16 (by decide) ?_
  refine n_ge_f (pc := 18) (tgt := 40) hC dX4_init_18 (by decide) (by decide) ?_
  refine n_aload_n (pc := 21) hC dX4_init_21 rfl ?_
  refine n_get (pc := 22) hC fl_X4_11 (q0 := 0) rfl rfl dX4_init_22 ?_
  refine n_iload_n (pc := 25) hC dX4_init_25 rfl ?_
  refine n_newH (pc := 26) hC mk_X4_9 (by decide) (by decide) dX4_init_26 (fun q22 => ?_)
  refine n_dup (pc := 29) hC dX4_init_29 rfl ?_
  refine n_initH (pc := 30) hC c_X3_init mn_X3_init (Or.inl ml_X4_15) ⟨rfl, rfl⟩ ⟨by decide, by decide⟩ rfl rfl (Nat.le_of_ble_eq_true rfl) ⟨by decide, by decide⟩ dX4_init_30 (fun w30 hw30 => ?_)
  obtain ⟨a23, a24, a25, a26, a27, a28, a29, rfl⟩ := hw30
  refine n_aast (pc := 33) (ws2 := (ap [(q, .inr (4, [.ref q1, .null, .null, .null, .int 0, .int 0])), (q1, .inl (cy 4, 6, .inr (.inr (.inr (.inr (va_up (va_up (va_up (fun _ => none) (0 : Int32).toNatClampNeg (some q2)) (1 : Int32).toNatClampNeg (some q12)) (2 : Int32).toNatClampNeg (some q22)))))))] (ap (srcW cy q22 a23 a24 a25 a26 a27 a28 a29) R21))) hC 1 4 2 3 rfl rfl rfl rfl (by unfold vp_in; decide) rfl dX4_init_33 ?_
  generalize hR31 : ap (srcW cy q22 a23 a24 a25 a26 a27 a28 a29) R21 = R31
  refine n_iinc (pc := 34) (L2 := [some (.ref q), some (.int (3 : Int32))]) hC (3 : Int32) dX4_init_34 rfl (by decide) (by decide) rfl ?_
  refine n_goto (pc := 37) (tgt := 15) hC dX4_init_37 (by decide) ?_
  refine n_iload_n (pc := 15) hC dX4_init_15 rfl ?_
  refine n_bipush (pc := 16) hC (6 : Int32) dX4_init_16 (by decide) ?_
  refine n_ge_f (pc := 18) (tgt := 40) hC dX4_init_18 (by decide) (by decide) ?_
  refine n_aload_n (pc := 21) hC dX4_init_21 rfl ?_
  refine n_get (pc := 22) hC fl_X4_11 (q0 := 0) rfl rfl dX4_init_22 ?_
  refine n_iload_n (pc := 25) hC dX4_init_25 rfl ?_
  refine n_newH (pc := 26) hC mk_X4_9 (by decide) (by decide) dX4_init_26 (fun q32 => ?_)
  refine n_dup (pc := 29) hC dX4_init_29 rfl ?_
  refine n_initH (pc := 30) hC c_X3_init mn_X3_init (Or.inl ml_X4_15) ⟨rfl, rfl⟩ ⟨by decide, by decide⟩ rfl rfl (Nat.le_of_ble_eq_true rfl) ⟨by decide, by decide⟩ dX4_init_30 (fun w40 hw40 => ?_)
  obtain ⟨a33, a34, a35, a36, a37, a38, a39, rfl⟩ := hw40
  refine n_aast (pc := 33) (ws2 := (ap [(q, .inr (4, [.ref q1, .null, .null, .null, .int 0, .int 0])), (q1, .inl (cy 4, 6, .inr (.inr (.inr (.inr (va_up (va_up (va_up (va_up (fun _ => none) (0 : Int32).toNatClampNeg (some q2)) (1 : Int32).toNatClampNeg (some q12)) (2 : Int32).toNatClampNeg (some q22)) (3 : Int32).toNatClampNeg (some q32)))))))] (ap (srcW cy q32 a33 a34 a35 a36 a37 a38 a39) R31))) hC 1 4 2 3 rfl rfl rfl rfl (by unfold vp_in; decide) rfl dX4_init_33 ?_
  generalize hR41 : ap (srcW cy q32 a33 a34 a35 a36 a37 a38 a39) R31 = R41
  refine n_iinc (pc := 34) (L2 := [some (.ref q), some (.int (4 : Int32))]) hC (4 : Int32) dX4_init_34 rfl (by decide) (by decide) rfl ?_
  refine n_goto (pc := 37) (tgt := 15) hC dX4_init_37 (by decide) ?_
  refine n_iload_n (pc := 15) hC dX4_init_15 rfl ?_
  refine n_bipush (pc := 16) hC (6 : Int32) dX4_init_16 (by decide) ?_
  refine n_ge_f (pc := 18) (tgt := 40) hC dX4_init_18 (by decide) (by decide) ?_
  refine n_aload_n (pc := 21) hC dX4_init_21 rfl ?_
  refine n_get (pc := 22) hC fl_X4_11 (q0 := 0) rfl rfl dX4_init_22 ?_
  refine n_iload_n (pc := 25) hC dX4_init_25 rfl ?_
  refine n_newH (pc := 26) hC mk_X4_9 (by decide) (by decide) dX4_init_26 (fun q42 => ?_)
  refine n_dup (pc := 29) hC dX4_init_29 rfl ?_
  refine n_initH (pc := 30) hC c_X3_init mn_X3_init (Or.inl ml_X4_15) ⟨rfl, rfl⟩ ⟨by decide, by decide⟩ rfl rfl (Nat.le_of_ble_eq_true rfl) ⟨by decide, by decide⟩ dX4_init_30 (fun w50 hw50 => ?_)
  obtain ⟨a43, a44, a45, a46, a47, a48, a49, rfl⟩ := hw50
  refine n_aast (pc := 33) (ws2 := (ap [(q, .inr (4, [.ref q1, .null, .null, .null, .int 0, .int 0])), (q1, .inl (cy 4, 6, .inr (.inr (.inr (.inr (va_up (va_up (va_up (va_up (va_up (fun _ => none) (0 : Int32).toNatClampNeg (some q2)) (1 : Int32).toNatClampNeg (some q12)) (2 : Int32).toNatClampNeg (some q22)) (3 : Int32).toNatClampNeg (some q32)) (4 : Int32).toNatClampNeg (some q42)))))))] (ap (srcW cy q42 a43 a44 a45 a46 a47 a48 a49) R41))) hC 1 4 2 3 rfl rfl rfl rfl (by unfold vp_in; decide) rfl dX4_init_33 ?_
  generalize hR51 : ap (srcW cy q42 a43 a44 a45 a46 a47 a48 a49) R41 = R51
  refine n_iinc (pc := 34) (L2 := [some (.ref q), some (.int (5 : Int32))]) hC (5 : Int32) dX4_init_34 rfl (by decide) (by decide) rfl ?_
  refine n_goto (pc := 37) (tgt := 15) hC dX4_init_37 (by decide) ?_
  refine n_iload_n (pc := 15) hC dX4_init_15 rfl ?_
  refine n_bipush (pc := 16) hC (6 : Int32) dX4_init_16 (by decide) ?_
  refine n_ge_f (pc := 18) (tgt := 40) hC dX4_init_18 (by decide) (by decide) ?_
  refine n_aload_n (pc := 21) hC dX4_init_21 rfl ?_
  refine n_get (pc := 22) hC fl_X4_11 (q0 := 0) rfl rfl dX4_init_22 ?_
  refine n_iload_n (pc := 25) hC dX4_init_25 rfl ?_
  refine n_newH (pc := 26) hC mk_X4_9 (by decide) (by decide) dX4_init_26 (fun q52 => ?_)
  refine n_dup (pc := 29) hC dX4_init_29 rfl ?_
  refine n_initH (pc := 30) hC c_X3_init mn_X3_init (Or.inl ml_X4_15) ⟨rfl, rfl⟩ ⟨by decide, by decide⟩ rfl rfl (Nat.le_of_ble_eq_true rfl) ⟨by decide, by decide⟩ dX4_init_30 (fun w60 hw60 => ?_)
  obtain ⟨a53, a54, a55, a56, a57, a58, a59, rfl⟩ := hw60
  refine n_aast (pc := 33) (ws2 := (ap [(q, .inr (4, [.ref q1, .null, .null, .null, .int 0, .int 0])), (q1, .inl (cy 4, 6, .inr (.inr (.inr (.inr (va_up (va_up (va_up (va_up (va_up (va_up (fun _ => none) (0 : Int32).toNatClampNeg (some q2)) (1 : Int32).toNatClampNeg (some q12)) (2 : Int32).toNatClampNeg (some q22)) (3 : Int32).toNatClampNeg (some q32)) (4 : Int32).toNatClampNeg (some q42)) (5 : Int32).toNatClampNeg (some q52)))))))] (ap (srcW cy q52 a53 a54 a55 a56 a57 a58 a59) R51))) hC 1 4 2 3 rfl rfl rfl rfl (by unfold vp_in; decide) rfl dX4_init_33 ?_
  generalize hR61 : ap (srcW cy q52 a53 a54 a55 a56 a57 a58 a59) R51 = R61
  refine n_iinc (pc := 34) (L2 := [some (.ref q), some (.int (6 : Int32))]) hC (6 : Int32) dX4_init_34 rfl (by decide) (by decide) rfl ?_
  refine n_goto (pc := 37) (tgt := 15) hC dX4_init_37 (by decide) ?_
  refine n_iload_n (pc := 15) hC dX4_init_15 rfl ?_
  refine n_bipush (pc := 16) hC (6 : Int32) dX4_init_16 (by decide) ?_
  refine n_ge_t (pc := 18) (tgt := 40) hC dX4_init_18 (by decide) (by decide) ?_
  refine n_aload_n (pc := 40) hC dX4_init_40 rfl ?_
  refine n_bipush (pc := 41) hC (6 : Int32) dX4_init_41 (by decide) ?_
  refine n_newqH (pc := 43) hC 5 (N' := 6) hC.2.2.2.1.2 rfl cl_X4_16 (by decide) (by decide) (by decide) (by decide) (by decide) dX4_init_43 (pre2 := fun q62 => [(q, .inr (4, [.ref q1, .null, .null, .null, .int 0, .int 0])), (q1, .inl (cy 4, 6, .inr (.inr (.inr (.inr (va_up (va_up (va_up (va_up (va_up (va_up (fun _ => none) (0 : Int32).toNatClampNeg (some q2)) (1 : Int32).toNatClampNeg (some q12)) (2 : Int32).toNatClampNeg (some q22)) (3 : Int32).toNatClampNeg (some q32)) (4 : Int32).toNatClampNeg (some q42)) (5 : Int32).toNatClampNeg (some q52))))))), (q62, .inl (cy 5, 6, .inr (.inr (.inr (.inr (fun _ => none))))))]) (fun _ => rfl) (fun q62 => ?_)
  show Nd _ _ _ _ _ _ _ _ _ _ _ _ _ _ _ _ (ap [(q, .inr (4, [.ref q1, .null, .null, .null, .int 0, .int 0])), (q1, .inl (cy 4, 6, .inr (.inr (.inr (.inr (va_up (va_up (va_up (va_up (va_up (va_up (fun _ => none) (0 : Int32).toNatClampNeg (some q2)) (1 : Int32).toNatClampNeg (some q12)) (2 : Int32).toNatClampNeg (some q22)) (3 : Int32).toNatClampNeg (some q32)) (4 : Int32).toNatClampNeg (some q42)) (5 : Int32).toNatClampNeg (some q52))))))), (q62, .inl (cy 5, 6, .inr (.inr (.inr (.inr (fun _ => none))))))] R61) _ _ _
  refine n_putF (pc := 46) (ws2 := (ap [(q, .inr (4, [.ref q1, .ref q62, .null, .null, .int 0, .int 0])), (q1, .inl (cy 4, 6, .inr (.inr (.inr (.inr (va_up (va_up (va_up (va_up (va_up (va_up (fun _ => none) (0 : Int32).toNatClampNeg (some q2)) (1 : Int32).toNatClampNeg (some q12)) (2 : Int32).toNatClampNeg (some q22)) (3 : Int32).toNatClampNeg (some q32)) (4 : Int32).toNatClampNeg (some q42)) (5 : Int32).toNatClampNeg (some q52))))))), (q62, .inl (cy 5, 6, .inr (.inr (.inr (.inr (fun _ => none))))))] R61)) hC hin ff_X4_18 (q0 := 0) rfl rfl rfl (Nat.le_of_ble_eq_true rfl) rfl dX4_init_46 ?_
  refine n_iconst (pc := 49) hC (0 : Int32) dX4_init_49 (by decide) ?_
  refine n_istore_n (pc := 50) (L2 := [some (.ref q), some (.int (0 : Int32))]) hC dX4_init_50 (by decide) rfl ?_
  refine n_iload_n (pc := 51) hC dX4_init_51 rfl ?_
  refine n_bipush (pc := 52) hC (6 : Int32) dX4_init_52 (by decide) ?_
  refine n_ge_f (pc := 54) (tgt := 76) hC dX4_init_54 (by decide) (by decide) ?_
  refine n_aload_n (pc := 57) hC dX4_init_57 rfl ?_
  refine n_get (pc := 58) hC fl_X4_18 (q0 := 0) rfl rfl dX4_init_58 ?_
  refine n_iload_n (pc := 61) hC dX4_init_61 rfl ?_
  refine n_newH (pc := 62) hC mk_X4_16 (by decide) (by decide) dX4_init_62 (fun q63 => ?_)
  refine n_dup (pc := 65) hC dX4_init_65 rfl ?_
  refine n_initH (pc := 66) hC c_X0_init mn_X0_init (Or.inr ⟨"BudgetKernel", ml_X4_22⟩) ⟨rfl, rfl⟩ ⟨by decide, by decide⟩ rfl rfl (Nat.le_of_ble_eq_true rfl) ⟨by decide, by decide⟩ dX4_init_66 (fun w64 hw64 => ?_)
  subst hw64
  refine n_aast (pc := 69) (ws2 := (ap [(q, .inr (4, [.ref q1, .ref q62, .null, .null, .int 0, .int 0])), (q1, .inl (cy 4, 6, .inr (.inr (.inr (.inr (va_up (va_up (va_up (va_up (va_up (va_up (fun _ => none) (0 : Int32).toNatClampNeg (some q2)) (1 : Int32).toNatClampNeg (some q12)) (2 : Int32).toNatClampNeg (some q22)) (3 : Int32).toNatClampNeg (some q32)) (4 : Int32).toNatClampNeg (some q42)) (5 : Int32).toNatClampNeg (some q52))))))), (q62, .inl (cy 5, 6, .inr (.inr (.inr (.inr (va_up (fun _ => none) (0 : Int32).toNatClampNeg (some q63)))))))] (ap [(q63, .inr (0, [.int 0, .int 0, .int 0, .int 0, .int 0, .int 0, .int 0, .int 0]))] R61))) hC 2 5 3 0 rfl rfl rfl rfl (by unfold vp_in; decide) rfl dX4_init_69 ?_
  generalize hR65 : ap [(q63, .inr (0, [.int 0, .int 0, .int 0, .int 0, .int 0, .int 0, .int 0, .int 0]))] R61 = R65
  refine n_iinc (pc := 70) (L2 := [some (.ref q), some (.int (1 : Int32))]) hC (1 : Int32) dX4_init_70 rfl (by decide) (by decide) rfl ?_
  refine n_goto (pc := 73) (tgt := 51) hC dX4_init_73 (by decide) ?_
  refine n_iload_n (pc := 51) hC dX4_init_51 rfl ?_
  refine n_bipush (pc := 52) hC (6 : Int32) dX4_init_52 (by decide) ?_
  refine n_ge_f (pc := 54) (tgt := 76) hC dX4_init_54 (by decide) (by decide) ?_
  refine n_aload_n (pc := 57) hC dX4_init_57 rfl ?_
  refine n_get (pc := 58) hC fl_X4_18 (q0 := 0) rfl rfl dX4_init_58 ?_
  refine n_iload_n (pc := 61) hC dX4_init_61 rfl ?_
  refine n_newH (pc := 62) hC mk_X4_16 (by decide) (by decide) dX4_init_62 (fun q66 => ?_)
  refine n_dup (pc := 65) hC dX4_init_65 rfl ?_
  refine n_initH (pc := 66) hC c_X0_init mn_X0_init (Or.inr ⟨"BudgetKernel", ml_X4_22⟩) ⟨rfl, rfl⟩ ⟨by decide, by decide⟩ rfl rfl (Nat.le_of_ble_eq_true rfl) ⟨by decide, by decide⟩ dX4_init_66 (fun w67 hw67 => ?_)
  subst hw67
  refine n_aast (pc := 69) (ws2 := (ap [(q, .inr (4, [.ref q1, .ref q62, .null, .null, .int 0, .int 0])), (q1, .inl (cy 4, 6, .inr (.inr (.inr (.inr (va_up (va_up (va_up (va_up (va_up (va_up (fun _ => none) (0 : Int32).toNatClampNeg (some q2)) (1 : Int32).toNatClampNeg (some q12)) (2 : Int32).toNatClampNeg (some q22)) (3 : Int32).toNatClampNeg (some q32)) (4 : Int32).toNatClampNeg (some q42)) (5 : Int32).toNatClampNeg (some q52))))))), (q62, .inl (cy 5, 6, .inr (.inr (.inr (.inr (va_up (va_up (fun _ => none) (0 : Int32).toNatClampNeg (some q63)) (1 : Int32).toNatClampNeg (some q66)))))))] (ap [(q66, .inr (0, [.int 0, .int 0, .int 0, .int 0, .int 0, .int 0, .int 0, .int 0]))] R65))) hC 2 5 3 0 rfl rfl rfl rfl (by unfold vp_in; decide) rfl dX4_init_69 ?_
  generalize hR68 : ap [(q66, .inr (0, [.int 0, .int 0, .int 0, .int 0, .int 0, .int 0, .int 0, .int 0]))] R65 = R68
  refine n_iinc (pc := 70) (L2 := [some (.ref q), some (.int (2 : Int32))]) hC (2 : Int32) dX4_init_70 rfl (by decide) (by decide) rfl ?_
  refine n_goto (pc := 73) (tgt := 51) hC dX4_init_73 (by decide) ?_
  refine n_iload_n (pc := 51) hC dX4_init_51 rfl ?_
  refine n_bipush (pc := 52) hC (6 : Int32) dX4_init_52 (by decide) ?_
  refine n_ge_f (pc := 54) (tgt := 76) hC dX4_init_54 (by decide) (by decide) ?_
  refine n_aload_n (pc := 57) hC dX4_init_57 rfl ?_
  refine n_get (pc := 58) hC fl_X4_18 (q0 := 0) rfl rfl dX4_init_58 ?_
  refine n_iload_n (pc := 61) hC dX4_init_61 rfl ?_
  refine n_newH (pc := 62) hC mk_X4_16 (by decide) (by decide) dX4_init_62 (fun q69 => ?_)
  refine n_dup (pc := 65) hC dX4_init_65 rfl ?_
  refine n_initH (pc := 66) hC c_X0_init mn_X0_init (Or.inr ⟨"BudgetKernel", ml_X4_22⟩) ⟨rfl, rfl⟩ ⟨by decide, by decide⟩ rfl rfl (Nat.le_of_ble_eq_true rfl) ⟨by decide, by decide⟩ dX4_init_66 (fun w70 hw70 => ?_)
  subst hw70
  refine n_aast (pc := 69) (ws2 := (ap [(q, .inr (4, [.ref q1, .ref q62, .null, .null, .int 0, .int 0])), (q1, .inl (cy 4, 6, .inr (.inr (.inr (.inr (va_up (va_up (va_up (va_up (va_up (va_up (fun _ => none) (0 : Int32).toNatClampNeg (some q2)) (1 : Int32).toNatClampNeg (some q12)) (2 : Int32).toNatClampNeg (some q22)) (3 : Int32).toNatClampNeg (some q32)) (4 : Int32).toNatClampNeg (some q42)) (5 : Int32).toNatClampNeg (some q52))))))), (q62, .inl (cy 5, 6, .inr (.inr (.inr (.inr (va_up (va_up (va_up (fun _ => none) (0 : Int32).toNatClampNeg (some q63)) (1 : Int32).toNatClampNeg (some q66)) (2 : Int32).toNatClampNeg (some q69)))))))] (ap [(q69, .inr (0, [.int 0, .int 0, .int 0, .int 0, .int 0, .int 0, .int 0, .int 0]))] R68))) hC 2 5 3 0 rfl rfl rfl rfl (by unfold vp_in; decide) rfl dX4_init_69 ?_
  generalize hR71 : ap [(q69, .inr (0, [.int 0, .int 0, .int 0, .int 0, .int 0, .int 0, .int 0, .int 0]))] R68 = R71
  refine n_iinc (pc := 70) (L2 := [some (.ref q), some (.int (3 : Int32))]) hC (3 : Int32) dX4_init_70 rfl (by decide) (by decide) rfl ?_
  refine n_goto (pc := 73) (tgt := 51) hC dX4_init_73 (by decide) ?_
  refine n_iload_n (pc := 51) hC dX4_init_51 rfl ?_
  refine n_bipush (pc := 52) hC (6 : Int32) dX4_init_52 (by decide) ?_
  refine n_ge_f (pc := 54) (tgt := 76) hC dX4_init_54 (by decide) (by decide) ?_
  refine n_aload_n (pc := 57) hC dX4_init_57 rfl ?_
  refine n_get (pc := 58) hC fl_X4_18 (q0 := 0) rfl rfl dX4_init_58 ?_
  refine n_iload_n (pc := 61) hC dX4_init_61 rfl ?_
  refine n_newH (pc := 62) hC mk_X4_16 (by decide) (by decide) dX4_init_62 (fun q72 => ?_)
  refine n_dup (pc := 65) hC dX4_init_65 rfl ?_
  refine n_initH (pc := 66) hC c_X0_init mn_X0_init (Or.inr ⟨"BudgetKernel", ml_X4_22⟩) ⟨rfl, rfl⟩ ⟨by decide, by decide⟩ rfl rfl (Nat.le_of_ble_eq_true rfl) ⟨by decide, by decide⟩ dX4_init_66 (fun w73 hw73 => ?_)
  subst hw73
  refine n_aast (pc := 69) (ws2 := (ap [(q, .inr (4, [.ref q1, .ref q62, .null, .null, .int 0, .int 0])), (q1, .inl (cy 4, 6, .inr (.inr (.inr (.inr (va_up (va_up (va_up (va_up (va_up (va_up (fun _ => none) (0 : Int32).toNatClampNeg (some q2)) (1 : Int32).toNatClampNeg (some q12)) (2 : Int32).toNatClampNeg (some q22)) (3 : Int32).toNatClampNeg (some q32)) (4 : Int32).toNatClampNeg (some q42)) (5 : Int32).toNatClampNeg (some q52))))))), (q62, .inl (cy 5, 6, .inr (.inr (.inr (.inr (va_up (va_up (va_up (va_up (fun _ => none) (0 : Int32).toNatClampNeg (some q63)) (1 : Int32).toNatClampNeg (some q66)) (2 : Int32).toNatClampNeg (some q69)) (3 : Int32).toNatClampNeg (some q72)))))))] (ap [(q72, .inr (0, [.int 0, .int 0, .int 0, .int 0, .int 0, .int 0, .int 0, .int 0]))] R71))) hC 2 5 3 0 rfl rfl rfl rfl (by unfold vp_in; decide) rfl dX4_init_69 ?_
  generalize hR74 : ap [(q72, .inr (0, [.int 0, .int 0, .int 0, .int 0, .int 0, .int 0, .int 0, .int 0]))] R71 = R74
  refine n_iinc (pc := 70) (L2 := [some (.ref q), some (.int (4 : Int32))]) hC (4 : Int32) dX4_init_70 rfl (by decide) (by decide) rfl ?_
  refine n_goto (pc := 73) (tgt := 51) hC dX4_init_73 (by decide) ?_
  refine n_iload_n (pc := 51) hC dX4_init_51 rfl ?_
  refine n_bipush (pc := 52) hC (6 : Int32) dX4_init_52 (by decide) ?_
  refine n_ge_f (pc := 54) (tgt := 76) hC dX4_init_54 (by decide) (by decide) ?_
  refine n_aload_n (pc := 57) hC dX4_init_57 rfl ?_
  refine n_get (pc := 58) hC fl_X4_18 (q0 := 0) rfl rfl dX4_init_58 ?_
  refine n_iload_n (pc := 61) hC dX4_init_61 rfl ?_
  refine n_newH (pc := 62) hC mk_X4_16 (by decide) (by decide) dX4_init_62 (fun q75 => ?_)
  refine n_dup (pc := 65) hC dX4_init_65 rfl ?_
  refine n_initH (pc := 66) hC c_X0_init mn_X0_init (Or.inr ⟨"BudgetKernel", ml_X4_22⟩) ⟨rfl, rfl⟩ ⟨by decide, by decide⟩ rfl rfl (Nat.le_of_ble_eq_true rfl) ⟨by decide, by decide⟩ dX4_init_66 (fun w76 hw76 => ?_)
  subst hw76
  refine n_aast (pc := 69) (ws2 := (ap [(q, .inr (4, [.ref q1, .ref q62, .null, .null, .int 0, .int 0])), (q1, .inl (cy 4, 6, .inr (.inr (.inr (.inr (va_up (va_up (va_up (va_up (va_up (va_up (fun _ => none) (0 : Int32).toNatClampNeg (some q2)) (1 : Int32).toNatClampNeg (some q12)) (2 : Int32).toNatClampNeg (some q22)) (3 : Int32).toNatClampNeg (some q32)) (4 : Int32).toNatClampNeg (some q42)) (5 : Int32).toNatClampNeg (some q52))))))), (q62, .inl (cy 5, 6, .inr (.inr (.inr (.inr (va_up (va_up (va_up (va_up (va_up (fun _ => none) (0 : Int32).toNatClampNeg (some q63)) (1 : Int32).toNatClampNeg (some q66)) (2 : Int32).toNatClampNeg (some q69)) (3 : Int32).toNatClampNeg (some q72)) (4 : Int32).toNatClampNeg (some q75)))))))] (ap [(q75, .inr (0, [.int 0, .int 0, .int 0, .int 0, .int 0, .int 0, .int 0, .int 0]))] R74))) hC 2 5 3 0 rfl rfl rfl rfl (by unfold vp_in; decide) rfl dX4_init_69 ?_
  generalize hR77 : ap [(q75, .inr (0, [.int 0, .int 0, .int 0, .int 0, .int 0, .int 0, .int 0, .int 0]))] R74 = R77
  refine n_iinc (pc := 70) (L2 := [some (.ref q), some (.int (5 : Int32))]) hC (5 : Int32) dX4_init_70 rfl (by decide) (by decide) rfl ?_
  refine n_goto (pc := 73) (tgt := 51) hC dX4_init_73 (by decide) ?_
  refine n_iload_n (pc := 51) hC dX4_init_51 rfl ?_
  refine n_bipush (pc := 52) hC (6 : Int32) dX4_init_52 (by decide) ?_
  refine n_ge_f (pc := 54) (tgt := 76) hC dX4_init_54 (by decide) (by decide) ?_
  refine n_aload_n (pc := 57) hC dX4_init_57 rfl ?_
  refine n_get (pc := 58) hC fl_X4_18 (q0 := 0) rfl rfl dX4_init_58 ?_
  refine n_iload_n (pc := 61) hC dX4_init_61 rfl ?_
  refine n_newH (pc := 62) hC mk_X4_16 (by decide) (by decide) dX4_init_62 (fun q78 => ?_)
  refine n_dup (pc := 65) hC dX4_init_65 rfl ?_
  refine n_initH (pc := 66) hC c_X0_init mn_X0_init (Or.inr ⟨"BudgetKernel", ml_X4_22⟩) ⟨rfl, rfl⟩ ⟨by decide, by decide⟩ rfl rfl (Nat.le_of_ble_eq_true rfl) ⟨by decide, by decide⟩ dX4_init_66 (fun w79 hw79 => ?_)
  subst hw79
  refine n_aast (pc := 69) (ws2 := (ap [(q, .inr (4, [.ref q1, .ref q62, .null, .null, .int 0, .int 0])), (q1, .inl (cy 4, 6, .inr (.inr (.inr (.inr (va_up (va_up (va_up (va_up (va_up (va_up (fun _ => none) (0 : Int32).toNatClampNeg (some q2)) (1 : Int32).toNatClampNeg (some q12)) (2 : Int32).toNatClampNeg (some q22)) (3 : Int32).toNatClampNeg (some q32)) (4 : Int32).toNatClampNeg (some q42)) (5 : Int32).toNatClampNeg (some q52))))))), (q62, .inl (cy 5, 6, .inr (.inr (.inr (.inr (va_up (va_up (va_up (va_up (va_up (va_up (fun _ => none) (0 : Int32).toNatClampNeg (some q63)) (1 : Int32).toNatClampNeg (some q66)) (2 : Int32).toNatClampNeg (some q69)) (3 : Int32).toNatClampNeg (some q72)) (4 : Int32).toNatClampNeg (some q75)) (5 : Int32).toNatClampNeg (some q78)))))))] (ap [(q78, .inr (0, [.int 0, .int 0, .int 0, .int 0, .int 0, .int 0, .int 0, .int 0]))] R77))) hC 2 5 3 0 rfl rfl rfl rfl (by unfold vp_in; decide) rfl dX4_init_69 ?_
  generalize hR80 : ap [(q78, .inr (0, [.int 0, .int 0, .int 0, .int 0, .int 0, .int 0, .int 0, .int 0]))] R77 = R80
  refine n_iinc (pc := 70) (L2 := [some (.ref q), some (.int (6 : Int32))]) hC (6 : Int32) dX4_init_70 rfl (by decide) (by decide) rfl ?_
  refine n_goto (pc := 73) (tgt := 51) hC dX4_init_73 (by decide) ?_
  refine n_iload_n (pc := 51) hC dX4_init_51 rfl ?_
  refine n_bipush (pc := 52) hC (6 : Int32) dX4_init_52 (by decide) ?_
  refine n_ge_t (pc := 54) (tgt := 76) hC dX4_init_54 (by decide) (by decide) ?_
  refine n_aload_n (pc := 76) hC dX4_init_76 rfl ?_
  refine n_newH (pc := 77) hC mk_X4_23 (by decide) (by decide) dX4_init_77 (fun q81 => ?_)
  refine n_dup (pc := 80) hC dX4_init_80 rfl ?_
  refine n_sipush (pc := 81) hC (192 : Int32) dX4_init_81 (by decide) ?_
  refine n_initH (pc := 84) hC (c_X2_init (n := 192) (by decide)) mn_X2_init (Or.inl ml_X4_25) ⟨rfl, rfl⟩ ⟨by decide, by decide⟩ rfl rfl (Nat.le_of_ble_eq_true rfl) ⟨by decide, by decide⟩ dX4_init_84 (fun w83 hw83 => ?_)
  obtain ⟨a82, rfl⟩ := hw83
  generalize hR84 : ap (rowW cy 192 q81 a82) R80 = R84
  refine n_putF (pc := 87) (ws2 := (ap [(q, .inr (4, [.ref q1, .ref q62, .ref q81, .null, .int 0, .int 0])), (q1, .inl (cy 4, 6, .inr (.inr (.inr (.inr (va_up (va_up (va_up (va_up (va_up (va_up (fun _ => none) (0 : Int32).toNatClampNeg (some q2)) (1 : Int32).toNatClampNeg (some q12)) (2 : Int32).toNatClampNeg (some q22)) (3 : Int32).toNatClampNeg (some q32)) (4 : Int32).toNatClampNeg (some q42)) (5 : Int32).toNatClampNeg (some q52))))))), (q62, .inl (cy 5, 6, .inr (.inr (.inr (.inr (va_up (va_up (va_up (va_up (va_up (va_up (fun _ => none) (0 : Int32).toNatClampNeg (some q63)) (1 : Int32).toNatClampNeg (some q66)) (2 : Int32).toNatClampNeg (some q69)) (3 : Int32).toNatClampNeg (some q72)) (4 : Int32).toNatClampNeg (some q75)) (5 : Int32).toNatClampNeg (some q78)))))))] R84)) hC hin ff_X4_28 (q0 := 0) rfl rfl rfl (Nat.le_of_ble_eq_true rfl) rfl dX4_init_87 ?_
  refine n_aload_n (pc := 90) hC dX4_init_90 rfl ?_
  refine n_sipush (pc := 91) hC (1000 : Int32) dX4_init_91 (by decide) ?_
  refine n_newaH (pc := 94) (atype := .byte) hC 1 (ty := .byte) (N' := 1000) (a0 := (1000, .inl (fun _ => 0))) rfl (by decide) rfl ac_byte (fun _ => rfl) (by decide) (by decide) (by decide) (by decide) (by decide) dX4_init_94 (fun q85 => ?_)
  generalize hR86 : ap [(q85, .inl (cy 1, 1000, .inl (fun _ => 0)))] R84 = R86
  refine n_putF (pc := 96) (ws2 := (ap [(q, .inr (4, [.ref q1, .ref q62, .ref q81, .ref q85, .int 0, .int 0])), (q1, .inl (cy 4, 6, .inr (.inr (.inr (.inr (va_up (va_up (va_up (va_up (va_up (va_up (fun _ => none) (0 : Int32).toNatClampNeg (some q2)) (1 : Int32).toNatClampNeg (some q12)) (2 : Int32).toNatClampNeg (some q22)) (3 : Int32).toNatClampNeg (some q32)) (4 : Int32).toNatClampNeg (some q42)) (5 : Int32).toNatClampNeg (some q52))))))), (q62, .inl (cy 5, 6, .inr (.inr (.inr (.inr (va_up (va_up (va_up (va_up (va_up (va_up (fun _ => none) (0 : Int32).toNatClampNeg (some q63)) (1 : Int32).toNatClampNeg (some q66)) (2 : Int32).toNatClampNeg (some q69)) (3 : Int32).toNatClampNeg (some q72)) (4 : Int32).toNatClampNeg (some q75)) (5 : Int32).toNatClampNeg (some q78)))))))] R86)) hC hin ff_X4_32 (q0 := 0) rfl rfl rfl (Nat.le_of_ble_eq_true rfl) rfl dX4_init_96 ?_
  refine n_aload_n (pc := 99) hC dX4_init_99 rfl ?_
  refine n_iconst (pc := 100) hC (0 : Int32) dX4_init_100 (by decide) ?_
  refine n_put (pc := 101) (ws2 := (ap [(q, .inr (4, [.ref q1, .ref q62, .ref q81, .ref q85, .int (0 : Int32), .int 0])), (q1, .inl (cy 4, 6, .inr (.inr (.inr (.inr (va_up (va_up (va_up (va_up (va_up (va_up (fun _ => none) (0 : Int32).toNatClampNeg (some q2)) (1 : Int32).toNatClampNeg (some q12)) (2 : Int32).toNatClampNeg (some q22)) (3 : Int32).toNatClampNeg (some q32)) (4 : Int32).toNatClampNeg (some q42)) (5 : Int32).toNatClampNeg (some q52))))))), (q62, .inl (cy 5, 6, .inr (.inr (.inr (.inr (va_up (va_up (va_up (va_up (va_up (va_up (fun _ => none) (0 : Int32).toNatClampNeg (some q63)) (1 : Int32).toNatClampNeg (some q66)) (2 : Int32).toNatClampNeg (some q69)) (3 : Int32).toNatClampNeg (some q72)) (4 : Int32).toNatClampNeg (some q75)) (5 : Int32).toNatClampNeg (some q78)))))))] R86)) hC ff_X4_36 (q0 := 0) rfl rfl rfl (Nat.le_of_ble_eq_true rfl) rfl dX4_init_101 ?_
  refine n_aload_n (pc := 104) hC dX4_init_104 rfl ?_
  refine n_iconst (pc := 105) hC (0 : Int32) dX4_init_105 (by decide) ?_
  refine n_put (pc := 106) (ws2 := (ap [(q, .inr (4, [.ref q1, .ref q62, .ref q81, .ref q85, .int (0 : Int32), .int (0 : Int32)])), (q1, .inl (cy 4, 6, .inr (.inr (.inr (.inr (va_up (va_up (va_up (va_up (va_up (va_up (fun _ => none) (0 : Int32).toNatClampNeg (some q2)) (1 : Int32).toNatClampNeg (some q12)) (2 : Int32).toNatClampNeg (some q22)) (3 : Int32).toNatClampNeg (some q32)) (4 : Int32).toNatClampNeg (some q42)) (5 : Int32).toNatClampNeg (some q52))))))), (q62, .inl (cy 5, 6, .inr (.inr (.inr (.inr (va_up (va_up (va_up (va_up (va_up (va_up (fun _ => none) (0 : Int32).toNatClampNeg (some q63)) (1 : Int32).toNatClampNeg (some q66)) (2 : Int32).toNatClampNeg (some q69)) (3 : Int32).toNatClampNeg (some q72)) (4 : Int32).toNatClampNeg (some q75)) (5 : Int32).toNatClampNeg (some q78)))))))] R86)) hC ff_X4_40 (q0 := 0) rfl rfl rfl (Nat.le_of_ble_eq_true rfl) rfl dX4_init_106 ?_
  subst hR86
  subst hR84
  subst hR80
  subst hR77
  subst hR74
  subst hR71
  subst hR68
  subst hR65
  subst hR61
  subst hR51
  subst hR41
  subst hR31
  subst hR21
  subst hR11
  exact n_ret (pc := 109) hC hrt hlk ⟨fun j => [q, q1, q62, q81, a82, q85, q63, q66, q69, q72, q75, q78, q2, a3, a4, a5, a6, a7, a8, a9, q12, a13, a14, a15, a16, a17, a18, a19, q22, a23, a24, a25, a26, a27, a28, a29, q32, a33, a34, a35, a36, a37, a38, a39, q42, a43, a44, a45, a46, a47, a48, a49, q52, a53, a54, a55, a56, a57, a58, a59].getD (j - 0) 0, rfl, rfl⟩ (Nat.le_of_ble_eq_true rfl) (Nat.le_of_ble_eq_true rfl) dX4_init_109
set_option maxRecDepth 100000 in
set_option maxHeartbeats 4000000 in
theorem c_X5_init {l : Launch} {D : va_G} {cy : Nat → ClassId} : HN l D cy yX5_init (Cond.code yX5_init cX5_init 2 none :: WA) ({ frames := 1, cells := 32, slots := 2938, locals := 12 } : Room) 32 2938 [] (.inr (5, [.int 0, .int 0, .null, .null, .null, .null, .null, .null, .null, .null, .null, .null, .null, .null, .null, .null, .null, .null, .null, .null, .null, .null, .null, .null, .null, .null, .null, .null, .null, .null, .null, .int 0, .null, .null, .null])) (fun q w1 => ∃ ad : Nat → Nat, ad 60 = q ∧ w1 = modW cy ad) := by
  refine N_i (by decide) (fun q => Nat.le_of_ble_eq_true rfl) (fun _ h => absurd h List.not_mem_nil) rfl ?_
  intro q p e s m args below meth c A hC hrt hlk hin
  show Nd p l e ({ frames := 1, cells := 32, slots := 2938, locals := 12 } : Room) s m args below meth c 0 0 _ 2 D A (ap [(q, .inr (5, [.int 0, .int 0, .null, .null, .null, .null, .null, .null, .null, .null, .null, .null, .null, .null, .null, .null, .null, .null, .null, .null, .null, .null, .null, .null, .null, .null, .null, .null, .null, .null, .null, .int 0, .null, .null, .null]))] []) 0 [some (.ref q), none] []
  refine n_aload_n (pc := 0) hC dX5_init_0 rfl ?_
  refine n_obj (pc := 1) hC oi_X5_1 oi_in oi_cd dX5_init_1 (Nat.le_of_ble_eq_true rfl) (Nat.le_of_ble_eq_true rfl) ?_
  refine n_aload_n (pc := 4) hC dX5_init_4 rfl ?_
  refine n_bipush (pc := 5) hC (6 : Int32) dX5_init_5 (by decide) ?_
  refine n_newaH (pc := 7) (atype := .boolean) hC 2 (ty := .boolean) (N' := 6) (a0 := (6, .inl (fun _ => 0))) rfl (by decide) rfl ac_boolean (fun _ => rfl) (by decide) (by decide) (by decide) (by decide) (by decide) dX5_init_7 (fun q1 => ?_)
  generalize hR2 : ap [(q1, .inl (cy 2, 6, .inl (fun _ => 0)))] [] = R2
  refine n_putF (pc := 9) (ws2 := (ap [(q, .inr (5, [.int 0, .int 0, .ref q1, .null, .null, .null, .null, .null, .null, .null, .null, .null, .null, .null, .null, .null, .null, .null, .null, .null, .null, .null, .null, .null, .null, .null, .null, .null, .null, .null, .null, .int 0, .null, .null, .null]))] R2)) hC hin ff_X5_7 (q0 := 0) rfl rfl rfl (Nat.le_of_ble_eq_true rfl) rfl dX5_init_9 ?_
  refine n_aload_n (pc := 12) hC dX5_init_12 rfl ?_
  refine n_bipush (pc := 13) hC (6 : Int32) dX5_init_13 (by decide) ?_
  refine n_newaH (pc := 15) (atype := .int) hC 0 (ty := .int) (N' := 6) (a0 := (6, .inl (fun _ => 0))) rfl (by decide) rfl ac_int (fun _ => rfl) (by decide) (by decide) (by decide) (by decide) (by decide) dX5_init_15 (fun q3 => ?_)
  generalize hR4 : ap [(q3, .inl (cy 0, 6, .inl (fun _ => 0)))] R2 = R4
  refine n_putF (pc := 17) (ws2 := (ap [(q, .inr (5, [.int 0, .int 0, .ref q1, .ref q3, .null, .null, .null, .null, .null, .null, .null, .null, .null, .null, .null, .null, .null, .null, .null, .null, .null, .null, .null, .null, .null, .null, .null, .null, .null, .null, .null, .int 0, .null, .null, .null]))] R4)) hC hin ff_X5_13 (q0 := 0) rfl rfl rfl (Nat.le_of_ble_eq_true rfl) rfl dX5_init_17 ?_
  refine n_aload_n (pc := 20) hC dX5_init_20 rfl ?_
  refine n_bipush (pc := 21) hC (6 : Int32) dX5_init_21 (by decide) ?_
  refine n_newaH (pc := 23) (atype := .int) hC 0 (ty := .int) (N' := 6) (a0 := (6, .inl (fun _ => 0))) rfl (by decide) rfl ac_int (fun _ => rfl) (by decide) (by decide) (by decide) (by decide) (by decide) dX5_init_23 (fun q5 => ?_)
  generalize hR6 : ap [(q5, .inl (cy 0, 6, .inl (fun _ => 0)))] R4 = R6
  refine n_putF (pc := 25) (ws2 := (ap [(q, .inr (5, [.int 0, .int 0, .ref q1, .ref q3, .ref q5, .null, .null, .null, .null, .null, .null, .null, .null, .null, .null, .null, .null, .null, .null, .null, .null, .null, .null, .null, .null, .null, .null, .null, .null, .null, .null, .int 0, .null, .null, .null]))] R6)) hC hin ff_X5_17 (q0 := 0) rfl rfl rfl (Nat.le_of_ble_eq_true rfl) rfl dX5_init_25 ?_
  refine n_aload_n (pc := 28) hC dX5_init_28 rfl ?_
  refine n_bipush (pc := 29) hC (6 : Int32) dX5_init_29 (by decide) ?_
  refine n_newaH (pc := 31) (atype := .int) hC 0 (ty := .int) (N' := 6) (a0 := (6, .inl (fun _ => 0))) rfl (by decide) rfl ac_int (fun _ => rfl) (by decide) (by decide) (by decide) (by decide) (by decide) dX5_init_31 (fun q7 => ?_)
  generalize hR8 : ap [(q7, .inl (cy 0, 6, .inl (fun _ => 0)))] R6 = R8
  refine n_putF (pc := 33) (ws2 := (ap [(q, .inr (5, [.int 0, .int 0, .ref q1, .ref q3, .ref q5, .ref q7, .null, .null, .null, .null, .null, .null, .null, .null, .null, .null, .null, .null, .null, .null, .null, .null, .null, .null, .null, .null, .null, .null, .null, .null, .null, .int 0, .null, .null, .null]))] R8)) hC hin ff_X5_20 (q0 := 0) rfl rfl rfl (Nat.le_of_ble_eq_true rfl) rfl dX5_init_33 ?_
  refine n_aload_n (pc := 36) hC dX5_init_36 rfl ?_
  refine n_bipush (pc := 37) hC (6 : Int32) dX5_init_37 (by decide) ?_
  refine n_newaH (pc := 39) (atype := .int) hC 0 (ty := .int) (N' := 6) (a0 := (6, .inl (fun _ => 0))) rfl (by decide) rfl ac_int (fun _ => rfl) (by decide) (by decide) (by decide) (by decide) (by decide) dX5_init_39 (fun q9 => ?_)
  generalize hR10 : ap [(q9, .inl (cy 0, 6, .inl (fun _ => 0)))] R8 = R10
  refine n_putF (pc := 41) (ws2 := (ap [(q, .inr (5, [.int 0, .int 0, .ref q1, .ref q3, .ref q5, .ref q7, .ref q9, .null, .null, .null, .null, .null, .null, .null, .null, .null, .null, .null, .null, .null, .null, .null, .null, .null, .null, .null, .null, .null, .null, .null, .null, .int 0, .null, .null, .null]))] R10)) hC hin ff_X5_23 (q0 := 0) rfl rfl rfl (Nat.le_of_ble_eq_true rfl) rfl dX5_init_41 ?_
  refine n_aload_n (pc := 44) hC dX5_init_44 rfl ?_
  refine n_bipush (pc := 45) hC (6 : Int32) dX5_init_45 (by decide) ?_
  refine n_newaH (pc := 47) (atype := .int) hC 0 (ty := .int) (N' := 6) (a0 := (6, .inl (fun _ => 0))) rfl (by decide) rfl ac_int (fun _ => rfl) (by decide) (by decide) (by decide) (by decide) (by decide) dX5_init_47 (fun q11 => ?_)
  generalize hR12 : ap [(q11, .inl (cy 0, 6, .inl (fun _ => 0)))] R10 = R12
  refine n_putF (pc := 49) (ws2 := (ap [(q, .inr (5, [.int 0, .int 0, .ref q1, .ref q3, .ref q5, .ref q7, .ref q9, .ref q11, .null, .null, .null, .null, .null, .null, .null, .null, .null, .null, .null, .null, .null, .null, .null, .null, .null, .null, .null, .null, .null, .null, .null, .int 0, .null, .null, .null]))] R12)) hC hin ff_X5_26 (q0 := 0) rfl rfl rfl (Nat.le_of_ble_eq_true rfl) rfl dX5_init_49 ?_
  refine n_aload_n (pc := 52) hC dX5_init_52 rfl ?_
  refine n_bipush (pc := 53) hC (6 : Int32) dX5_init_53 (by decide) ?_
  refine n_newaH (pc := 55) (atype := .int) hC 0 (ty := .int) (N' := 6) (a0 := (6, .inl (fun _ => 0))) rfl (by decide) rfl ac_int (fun _ => rfl) (by decide) (by decide) (by decide) (by decide) (by decide) dX5_init_55 (fun q13 => ?_)
  generalize hR14 : ap [(q13, .inl (cy 0, 6, .inl (fun _ => 0)))] R12 = R14
  refine n_putF (pc := 57) (ws2 := (ap [(q, .inr (5, [.int 0, .int 0, .ref q1, .ref q3, .ref q5, .ref q7, .ref q9, .ref q11, .ref q13, .null, .null, .null, .null, .null, .null, .null, .null, .null, .null, .null, .null, .null, .null, .null, .null, .null, .null, .null, .null, .null, .null, .int 0, .null, .null, .null]))] R14)) hC hin ff_X5_29 (q0 := 0) rfl rfl rfl (Nat.le_of_ble_eq_true rfl) rfl dX5_init_57 ?_
  refine n_aload_n (pc := 60) hC dX5_init_60 rfl ?_
  refine n_bipush (pc := 61) hC (6 : Int32) dX5_init_61 (by decide) ?_
  refine n_newaH (pc := 63) (atype := .int) hC 0 (ty := .int) (N' := 6) (a0 := (6, .inl (fun _ => 0))) rfl (by decide) rfl ac_int (fun _ => rfl) (by decide) (by decide) (by decide) (by decide) (by decide) dX5_init_63 (fun q15 => ?_)
  generalize hR16 : ap [(q15, .inl (cy 0, 6, .inl (fun _ => 0)))] R14 = R16
  refine n_putF (pc := 65) (ws2 := (ap [(q, .inr (5, [.int 0, .int 0, .ref q1, .ref q3, .ref q5, .ref q7, .ref q9, .ref q11, .ref q13, .ref q15, .null, .null, .null, .null, .null, .null, .null, .null, .null, .null, .null, .null, .null, .null, .null, .null, .null, .null, .null, .null, .null, .int 0, .null, .null, .null]))] R16)) hC hin ff_X5_32 (q0 := 0) rfl rfl rfl (Nat.le_of_ble_eq_true rfl) rfl dX5_init_65 ?_
  refine n_aload_n (pc := 68) hC dX5_init_68 rfl ?_
  refine n_sipush (pc := 69) hC (192 : Int32) dX5_init_69 (by decide) ?_
  refine n_newaH (pc := 72) (atype := .int) hC 0 (ty := .int) (N' := 192) (a0 := (192, .inl (fun _ => 0))) rfl (by decide) rfl ac_int (fun _ => rfl) (by decide) (by decide) (by decide) (by decide) (by decide) dX5_init_72 (fun q17 => ?_)
  generalize hR18 : ap [(q17, .inl (cy 0, 192, .inl (fun _ => 0)))] R16 = R18
  refine n_putF (pc := 74) (ws2 := (ap [(q, .inr (5, [.int 0, .int 0, .ref q1, .ref q3, .ref q5, .ref q7, .ref q9, .ref q11, .ref q13, .ref q15, .ref q17, .null, .null, .null, .null, .null, .null, .null, .null, .null, .null, .null, .null, .null, .null, .null, .null, .null, .null, .null, .null, .int 0, .null, .null, .null]))] R18)) hC hin ff_X5_35 (q0 := 0) rfl rfl rfl (Nat.le_of_ble_eq_true rfl) rfl dX5_init_74 ?_
  refine n_aload_n (pc := 77) hC dX5_init_77 rfl ?_
  refine n_bipush (pc := 78) hC (6 : Int32) dX5_init_78 (by decide) ?_
  refine n_newaH (pc := 80) (atype := .int) hC 0 (ty := .int) (N' := 6) (a0 := (6, .inl (fun _ => 0))) rfl (by decide) rfl ac_int (fun _ => rfl) (by decide) (by decide) (by decide) (by decide) (by decide) dX5_init_80 (fun q19 => ?_)
  generalize hR20 : ap [(q19, .inl (cy 0, 6, .inl (fun _ => 0)))] R18 = R20
  refine n_putF (pc := 82) (ws2 := (ap [(q, .inr (5, [.int 0, .int 0, .ref q1, .ref q3, .ref q5, .ref q7, .ref q9, .ref q11, .ref q13, .ref q15, .ref q17, .ref q19, .null, .null, .null, .null, .null, .null, .null, .null, .null, .null, .null, .null, .null, .null, .null, .null, .null, .null, .null, .int 0, .null, .null, .null]))] R20)) hC hin ff_X5_38 (q0 := 0) rfl rfl rfl (Nat.le_of_ble_eq_true rfl) rfl dX5_init_82 ?_
  refine n_aload_n (pc := 85) hC dX5_init_85 rfl ?_
  refine n_bipush (pc := 86) hC (6 : Int32) dX5_init_86 (by decide) ?_
  refine n_newaH (pc := 88) (atype := .int) hC 0 (ty := .int) (N' := 6) (a0 := (6, .inl (fun _ => 0))) rfl (by decide) rfl ac_int (fun _ => rfl) (by decide) (by decide) (by decide) (by decide) (by decide) dX5_init_88 (fun q21 => ?_)
  generalize hR22 : ap [(q21, .inl (cy 0, 6, .inl (fun _ => 0)))] R20 = R22
  refine n_putF (pc := 90) (ws2 := (ap [(q, .inr (5, [.int 0, .int 0, .ref q1, .ref q3, .ref q5, .ref q7, .ref q9, .ref q11, .ref q13, .ref q15, .ref q17, .ref q19, .ref q21, .null, .null, .null, .null, .null, .null, .null, .null, .null, .null, .null, .null, .null, .null, .null, .null, .null, .null, .int 0, .null, .null, .null]))] R22)) hC hin ff_X5_41 (q0 := 0) rfl rfl rfl (Nat.le_of_ble_eq_true rfl) rfl dX5_init_90 ?_
  refine n_aload_n (pc := 93) hC dX5_init_93 rfl ?_
  refine n_sipush (pc := 94) hC (180 : Int32) dX5_init_94 (by decide) ?_
  refine n_newaH (pc := 97) (atype := .int) hC 0 (ty := .int) (N' := 180) (a0 := (180, .inl (fun _ => 0))) rfl (by decide) rfl ac_int (fun _ => rfl) (by decide) (by decide) (by decide) (by decide) (by decide) dX5_init_97 (fun q23 => ?_)
  generalize hR24 : ap [(q23, .inl (cy 0, 180, .inl (fun _ => 0)))] R22 = R24
  refine n_putF (pc := 99) (ws2 := (ap [(q, .inr (5, [.int 0, .int 0, .ref q1, .ref q3, .ref q5, .ref q7, .ref q9, .ref q11, .ref q13, .ref q15, .ref q17, .ref q19, .ref q21, .ref q23, .null, .null, .null, .null, .null, .null, .null, .null, .null, .null, .null, .null, .null, .null, .null, .null, .null, .int 0, .null, .null, .null]))] R24)) hC hin ff_X5_44 (q0 := 0) rfl rfl rfl (Nat.le_of_ble_eq_true rfl) rfl dX5_init_99 ?_
  refine n_aload_n (pc := 102) hC dX5_init_102 rfl ?_
  refine n_bipush (pc := 103) hC (6 : Int32) dX5_init_103 (by decide) ?_
  refine n_newaH (pc := 105) (atype := .int) hC 0 (ty := .int) (N' := 6) (a0 := (6, .inl (fun _ => 0))) rfl (by decide) rfl ac_int (fun _ => rfl) (by decide) (by decide) (by decide) (by decide) (by decide) dX5_init_105 (fun q25 => ?_)
  generalize hR26 : ap [(q25, .inl (cy 0, 6, .inl (fun _ => 0)))] R24 = R26
  refine n_putF (pc := 107) (ws2 := (ap [(q, .inr (5, [.int 0, .int 0, .ref q1, .ref q3, .ref q5, .ref q7, .ref q9, .ref q11, .ref q13, .ref q15, .ref q17, .ref q19, .ref q21, .ref q23, .ref q25, .null, .null, .null, .null, .null, .null, .null, .null, .null, .null, .null, .null, .null, .null, .null, .null, .int 0, .null, .null, .null]))] R26)) hC hin ff_X5_47 (q0 := 0) rfl rfl rfl (Nat.le_of_ble_eq_true rfl) rfl dX5_init_107 ?_
  refine n_aload_n (pc := 110) hC dX5_init_110 rfl ?_
  refine n_bipush (pc := 111) hC (96 : Int32) dX5_init_111 (by decide) ?_
  refine n_newaH (pc := 113) (atype := .int) hC 0 (ty := .int) (N' := 96) (a0 := (96, .inl (fun _ => 0))) rfl (by decide) rfl ac_int (fun _ => rfl) (by decide) (by decide) (by decide) (by decide) (by decide) dX5_init_113 (fun q27 => ?_)
  generalize hR28 : ap [(q27, .inl (cy 0, 96, .inl (fun _ => 0)))] R26 = R28
  refine n_putF (pc := 115) (ws2 := (ap [(q, .inr (5, [.int 0, .int 0, .ref q1, .ref q3, .ref q5, .ref q7, .ref q9, .ref q11, .ref q13, .ref q15, .ref q17, .ref q19, .ref q21, .ref q23, .ref q25, .ref q27, .null, .null, .null, .null, .null, .null, .null, .null, .null, .null, .null, .null, .null, .null, .null, .int 0, .null, .null, .null]))] R28)) hC hin ff_X5_50 (q0 := 0) rfl rfl rfl (Nat.le_of_ble_eq_true rfl) rfl dX5_init_115 ?_
  refine n_aload_n (pc := 118) hC dX5_init_118 rfl ?_
  refine n_bipush (pc := 119) hC (96 : Int32) dX5_init_119 (by decide) ?_
  refine n_newaH (pc := 121) (atype := .int) hC 0 (ty := .int) (N' := 96) (a0 := (96, .inl (fun _ => 0))) rfl (by decide) rfl ac_int (fun _ => rfl) (by decide) (by decide) (by decide) (by decide) (by decide) dX5_init_121 (fun q29 => ?_)
  generalize hR30 : ap [(q29, .inl (cy 0, 96, .inl (fun _ => 0)))] R28 = R30
  refine n_putF (pc := 123) (ws2 := (ap [(q, .inr (5, [.int 0, .int 0, .ref q1, .ref q3, .ref q5, .ref q7, .ref q9, .ref q11, .ref q13, .ref q15, .ref q17, .ref q19, .ref q21, .ref q23, .ref q25, .ref q27, .ref q29, .null, .null, .null, .null, .null, .null, .null, .null, .null, .null, .null, .null, .null, .null, .int 0, .null, .null, .null]))] R30)) hC hin ff_X5_53 (q0 := 0) rfl rfl rfl (Nat.le_of_ble_eq_true rfl) rfl dX5_init_123 ?_
  refine n_aload_n (pc := 126) hC dX5_init_126 rfl ?_
  refine n_bipush (pc := 127) hC (6 : Int32) dX5_init_127 (by decide) ?_
  refine n_newaH (pc := 129) (atype := .boolean) hC 2 (ty := .boolean) (N' := 6) (a0 := (6, .inl (fun _ => 0))) rfl (by decide) rfl ac_boolean (fun _ => rfl) (by decide) (by decide) (by decide) (by decide) (by decide) dX5_init_129 (fun q31 => ?_)
  generalize hR32 : ap [(q31, .inl (cy 2, 6, .inl (fun _ => 0)))] R30 = R32
  refine n_putF (pc := 131) (ws2 := (ap [(q, .inr (5, [.int 0, .int 0, .ref q1, .ref q3, .ref q5, .ref q7, .ref q9, .ref q11, .ref q13, .ref q15, .ref q17, .ref q19, .ref q21, .ref q23, .ref q25, .ref q27, .ref q29, .ref q31, .null, .null, .null, .null, .null, .null, .null, .null, .null, .null, .null, .null, .null, .int 0, .null, .null, .null]))] R32)) hC hin ff_X5_56 (q0 := 0) rfl rfl rfl (Nat.le_of_ble_eq_true rfl) rfl dX5_init_131 ?_
  refine n_aload_n (pc := 134) hC dX5_init_134 rfl ?_
  refine n_bipush (pc := 135) hC (6 : Int32) dX5_init_135 (by decide) ?_
  refine n_newaH (pc := 137) (atype := .int) hC 0 (ty := .int) (N' := 6) (a0 := (6, .inl (fun _ => 0))) rfl (by decide) rfl ac_int (fun _ => rfl) (by decide) (by decide) (by decide) (by decide) (by decide) dX5_init_137 (fun q33 => ?_)
  generalize hR34 : ap [(q33, .inl (cy 0, 6, .inl (fun _ => 0)))] R32 = R34
  refine n_putF (pc := 139) (ws2 := (ap [(q, .inr (5, [.int 0, .int 0, .ref q1, .ref q3, .ref q5, .ref q7, .ref q9, .ref q11, .ref q13, .ref q15, .ref q17, .ref q19, .ref q21, .ref q23, .ref q25, .ref q27, .ref q29, .ref q31, .ref q33, .null, .null, .null, .null, .null, .null, .null, .null, .null, .null, .null, .null, .int 0, .null, .null, .null]))] R34)) hC hin ff_X5_59 (q0 := 0) rfl rfl rfl (Nat.le_of_ble_eq_true rfl) rfl dX5_init_139 ?_
  refine n_aload_n (pc := 142) hC dX5_init_142 rfl ?_
  refine n_bipush (pc := 143) hC (6 : Int32) dX5_init_143 (by decide) ?_
  refine n_newaH (pc := 145) (atype := .int) hC 0 (ty := .int) (N' := 6) (a0 := (6, .inl (fun _ => 0))) rfl (by decide) rfl ac_int (fun _ => rfl) (by decide) (by decide) (by decide) (by decide) (by decide) dX5_init_145 (fun q35 => ?_)
  generalize hR36 : ap [(q35, .inl (cy 0, 6, .inl (fun _ => 0)))] R34 = R36
  refine n_putF (pc := 147) (ws2 := (ap [(q, .inr (5, [.int 0, .int 0, .ref q1, .ref q3, .ref q5, .ref q7, .ref q9, .ref q11, .ref q13, .ref q15, .ref q17, .ref q19, .ref q21, .ref q23, .ref q25, .ref q27, .ref q29, .ref q31, .ref q33, .ref q35, .null, .null, .null, .null, .null, .null, .null, .null, .null, .null, .null, .int 0, .null, .null, .null]))] R36)) hC hin ff_X5_62 (q0 := 0) rfl rfl rfl (Nat.le_of_ble_eq_true rfl) rfl dX5_init_147 ?_
  refine n_aload_n (pc := 150) hC dX5_init_150 rfl ?_
  refine n_bipush (pc := 151) hC (6 : Int32) dX5_init_151 (by decide) ?_
  refine n_newaH (pc := 153) (atype := .int) hC 0 (ty := .int) (N' := 6) (a0 := (6, .inl (fun _ => 0))) rfl (by decide) rfl ac_int (fun _ => rfl) (by decide) (by decide) (by decide) (by decide) (by decide) dX5_init_153 (fun q37 => ?_)
  generalize hR38 : ap [(q37, .inl (cy 0, 6, .inl (fun _ => 0)))] R36 = R38
  refine n_putF (pc := 155) (ws2 := (ap [(q, .inr (5, [.int 0, .int 0, .ref q1, .ref q3, .ref q5, .ref q7, .ref q9, .ref q11, .ref q13, .ref q15, .ref q17, .ref q19, .ref q21, .ref q23, .ref q25, .ref q27, .ref q29, .ref q31, .ref q33, .ref q35, .ref q37, .null, .null, .null, .null, .null, .null, .null, .null, .null, .null, .int 0, .null, .null, .null]))] R38)) hC hin ff_X5_65 (q0 := 0) rfl rfl rfl (Nat.le_of_ble_eq_true rfl) rfl dX5_init_155 ?_
  refine n_aload_n (pc := 158) hC dX5_init_158 rfl ?_
  refine n_bipush (pc := 159) hC (6 : Int32) dX5_init_159 (by decide) ?_
  refine n_newaH (pc := 161) (atype := .int) hC 0 (ty := .int) (N' := 6) (a0 := (6, .inl (fun _ => 0))) rfl (by decide) rfl ac_int (fun _ => rfl) (by decide) (by decide) (by decide) (by decide) (by decide) dX5_init_161 (fun q39 => ?_)
  generalize hR40 : ap [(q39, .inl (cy 0, 6, .inl (fun _ => 0)))] R38 = R40
  refine n_putF (pc := 163) (ws2 := (ap [(q, .inr (5, [.int 0, .int 0, .ref q1, .ref q3, .ref q5, .ref q7, .ref q9, .ref q11, .ref q13, .ref q15, .ref q17, .ref q19, .ref q21, .ref q23, .ref q25, .ref q27, .ref q29, .ref q31, .ref q33, .ref q35, .ref q37, .ref q39, .null, .null, .null, .null, .null, .null, .null, .null, .null, .int 0, .null, .null, .null]))] R40)) hC hin ff_X5_68 (q0 := 0) rfl rfl rfl (Nat.le_of_ble_eq_true rfl) rfl dX5_init_163 ?_
  refine n_aload_n (pc := 166) hC dX5_init_166 rfl ?_
  refine n_bipush (pc := 167) hC (6 : Int32) dX5_init_167 (by decide) ?_
  refine n_newaH (pc := 169) (atype := .int) hC 0 (ty := .int) (N' := 6) (a0 := (6, .inl (fun _ => 0))) rfl (by decide) rfl ac_int (fun _ => rfl) (by decide) (by decide) (by decide) (by decide) (by decide) dX5_init_169 (fun q41 => ?_)
  generalize hR42 : ap [(q41, .inl (cy 0, 6, .inl (fun _ => 0)))] R40 = R42
  refine n_putF (pc := 171) (ws2 := (ap [(q, .inr (5, [.int 0, .int 0, .ref q1, .ref q3, .ref q5, .ref q7, .ref q9, .ref q11, .ref q13, .ref q15, .ref q17, .ref q19, .ref q21, .ref q23, .ref q25, .ref q27, .ref q29, .ref q31, .ref q33, .ref q35, .ref q37, .ref q39, .ref q41, .null, .null, .null, .null, .null, .null, .null, .null, .int 0, .null, .null, .null]))] R42)) hC hin ff_X5_71 (q0 := 0) rfl rfl rfl (Nat.le_of_ble_eq_true rfl) rfl dX5_init_171 ?_
  refine n_aload_n (pc := 174) hC dX5_init_174 rfl ?_
  refine n_bipush (pc := 175) hC (6 : Int32) dX5_init_175 (by decide) ?_
  refine n_newaH (pc := 177) (atype := .boolean) hC 2 (ty := .boolean) (N' := 6) (a0 := (6, .inl (fun _ => 0))) rfl (by decide) rfl ac_boolean (fun _ => rfl) (by decide) (by decide) (by decide) (by decide) (by decide) dX5_init_177 (fun q43 => ?_)
  generalize hR44 : ap [(q43, .inl (cy 2, 6, .inl (fun _ => 0)))] R42 = R44
  refine n_putF (pc := 179) (ws2 := (ap [(q, .inr (5, [.int 0, .int 0, .ref q1, .ref q3, .ref q5, .ref q7, .ref q9, .ref q11, .ref q13, .ref q15, .ref q17, .ref q19, .ref q21, .ref q23, .ref q25, .ref q27, .ref q29, .ref q31, .ref q33, .ref q35, .ref q37, .ref q39, .ref q41, .ref q43, .null, .null, .null, .null, .null, .null, .null, .int 0, .null, .null, .null]))] R44)) hC hin ff_X5_74 (q0 := 0) rfl rfl rfl (Nat.le_of_ble_eq_true rfl) rfl dX5_init_179 ?_
  refine n_aload_n (pc := 182) hC dX5_init_182 rfl ?_
  refine n_bipush (pc := 183) hC (6 : Int32) dX5_init_183 (by decide) ?_
  refine n_newaH (pc := 185) (atype := .int) hC 0 (ty := .int) (N' := 6) (a0 := (6, .inl (fun _ => 0))) rfl (by decide) rfl ac_int (fun _ => rfl) (by decide) (by decide) (by decide) (by decide) (by decide) dX5_init_185 (fun q45 => ?_)
  generalize hR46 : ap [(q45, .inl (cy 0, 6, .inl (fun _ => 0)))] R44 = R46
  refine n_putF (pc := 187) (ws2 := (ap [(q, .inr (5, [.int 0, .int 0, .ref q1, .ref q3, .ref q5, .ref q7, .ref q9, .ref q11, .ref q13, .ref q15, .ref q17, .ref q19, .ref q21, .ref q23, .ref q25, .ref q27, .ref q29, .ref q31, .ref q33, .ref q35, .ref q37, .ref q39, .ref q41, .ref q43, .ref q45, .null, .null, .null, .null, .null, .null, .int 0, .null, .null, .null]))] R46)) hC hin ff_X5_77 (q0 := 0) rfl rfl rfl (Nat.le_of_ble_eq_true rfl) rfl dX5_init_187 ?_
  refine n_aload_n (pc := 190) hC dX5_init_190 rfl ?_
  refine n_bipush (pc := 191) hC (6 : Int32) dX5_init_191 (by decide) ?_
  refine n_newaH (pc := 193) (atype := .int) hC 0 (ty := .int) (N' := 6) (a0 := (6, .inl (fun _ => 0))) rfl (by decide) rfl ac_int (fun _ => rfl) (by decide) (by decide) (by decide) (by decide) (by decide) dX5_init_193 (fun q47 => ?_)
  generalize hR48 : ap [(q47, .inl (cy 0, 6, .inl (fun _ => 0)))] R46 = R48
  refine n_putF (pc := 195) (ws2 := (ap [(q, .inr (5, [.int 0, .int 0, .ref q1, .ref q3, .ref q5, .ref q7, .ref q9, .ref q11, .ref q13, .ref q15, .ref q17, .ref q19, .ref q21, .ref q23, .ref q25, .ref q27, .ref q29, .ref q31, .ref q33, .ref q35, .ref q37, .ref q39, .ref q41, .ref q43, .ref q45, .ref q47, .null, .null, .null, .null, .null, .int 0, .null, .null, .null]))] R48)) hC hin ff_X5_80 (q0 := 0) rfl rfl rfl (Nat.le_of_ble_eq_true rfl) rfl dX5_init_195 ?_
  refine n_aload_n (pc := 198) hC dX5_init_198 rfl ?_
  refine n_bipush (pc := 199) hC (6 : Int32) dX5_init_199 (by decide) ?_
  refine n_newaH (pc := 201) (atype := .int) hC 0 (ty := .int) (N' := 6) (a0 := (6, .inl (fun _ => 0))) rfl (by decide) rfl ac_int (fun _ => rfl) (by decide) (by decide) (by decide) (by decide) (by decide) dX5_init_201 (fun q49 => ?_)
  generalize hR50 : ap [(q49, .inl (cy 0, 6, .inl (fun _ => 0)))] R48 = R50
  refine n_putF (pc := 203) (ws2 := (ap [(q, .inr (5, [.int 0, .int 0, .ref q1, .ref q3, .ref q5, .ref q7, .ref q9, .ref q11, .ref q13, .ref q15, .ref q17, .ref q19, .ref q21, .ref q23, .ref q25, .ref q27, .ref q29, .ref q31, .ref q33, .ref q35, .ref q37, .ref q39, .ref q41, .ref q43, .ref q45, .ref q47, .ref q49, .null, .null, .null, .null, .int 0, .null, .null, .null]))] R50)) hC hin ff_X5_83 (q0 := 0) rfl rfl rfl (Nat.le_of_ble_eq_true rfl) rfl dX5_init_203 ?_
  refine n_aload_n (pc := 206) hC dX5_init_206 rfl ?_
  refine n_bipush (pc := 207) hC (6 : Int32) dX5_init_207 (by decide) ?_
  refine n_newaH (pc := 209) (atype := .int) hC 0 (ty := .int) (N' := 6) (a0 := (6, .inl (fun _ => 0))) rfl (by decide) rfl ac_int (fun _ => rfl) (by decide) (by decide) (by decide) (by decide) (by decide) dX5_init_209 (fun q51 => ?_)
  generalize hR52 : ap [(q51, .inl (cy 0, 6, .inl (fun _ => 0)))] R50 = R52
  refine n_putF (pc := 211) (ws2 := (ap [(q, .inr (5, [.int 0, .int 0, .ref q1, .ref q3, .ref q5, .ref q7, .ref q9, .ref q11, .ref q13, .ref q15, .ref q17, .ref q19, .ref q21, .ref q23, .ref q25, .ref q27, .ref q29, .ref q31, .ref q33, .ref q35, .ref q37, .ref q39, .ref q41, .ref q43, .ref q45, .ref q47, .ref q49, .ref q51, .null, .null, .null, .int 0, .null, .null, .null]))] R52)) hC hin ff_X5_86 (q0 := 0) rfl rfl rfl (Nat.le_of_ble_eq_true rfl) rfl dX5_init_211 ?_
  refine n_aload_n (pc := 214) hC dX5_init_214 rfl ?_
  refine n_bipush (pc := 215) hC (6 : Int32) dX5_init_215 (by decide) ?_
  refine n_newaH (pc := 217) (atype := .int) hC 0 (ty := .int) (N' := 6) (a0 := (6, .inl (fun _ => 0))) rfl (by decide) rfl ac_int (fun _ => rfl) (by decide) (by decide) (by decide) (by decide) (by decide) dX5_init_217 (fun q53 => ?_)
  generalize hR54 : ap [(q53, .inl (cy 0, 6, .inl (fun _ => 0)))] R52 = R54
  refine n_putF (pc := 219) (ws2 := (ap [(q, .inr (5, [.int 0, .int 0, .ref q1, .ref q3, .ref q5, .ref q7, .ref q9, .ref q11, .ref q13, .ref q15, .ref q17, .ref q19, .ref q21, .ref q23, .ref q25, .ref q27, .ref q29, .ref q31, .ref q33, .ref q35, .ref q37, .ref q39, .ref q41, .ref q43, .ref q45, .ref q47, .ref q49, .ref q51, .ref q53, .null, .null, .int 0, .null, .null, .null]))] R54)) hC hin ff_X5_89 (q0 := 0) rfl rfl rfl (Nat.le_of_ble_eq_true rfl) rfl dX5_init_219 ?_
  refine n_aload_n (pc := 222) hC dX5_init_222 rfl ?_
  refine n_bipush (pc := 223) hC (6 : Int32) dX5_init_223 (by decide) ?_
  refine n_newaH (pc := 225) (atype := .int) hC 0 (ty := .int) (N' := 6) (a0 := (6, .inl (fun _ => 0))) rfl (by decide) rfl ac_int (fun _ => rfl) (by decide) (by decide) (by decide) (by decide) (by decide) dX5_init_225 (fun q55 => ?_)
  generalize hR56 : ap [(q55, .inl (cy 0, 6, .inl (fun _ => 0)))] R54 = R56
  refine n_putF (pc := 227) (ws2 := (ap [(q, .inr (5, [.int 0, .int 0, .ref q1, .ref q3, .ref q5, .ref q7, .ref q9, .ref q11, .ref q13, .ref q15, .ref q17, .ref q19, .ref q21, .ref q23, .ref q25, .ref q27, .ref q29, .ref q31, .ref q33, .ref q35, .ref q37, .ref q39, .ref q41, .ref q43, .ref q45, .ref q47, .ref q49, .ref q51, .ref q53, .ref q55, .null, .int 0, .null, .null, .null]))] R56)) hC hin ff_X5_92 (q0 := 0) rfl rfl rfl (Nat.le_of_ble_eq_true rfl) rfl dX5_init_227 ?_
  refine n_aload_n (pc := 230) hC dX5_init_230 rfl ?_
  refine n_bipush (pc := 231) hC (6 : Int32) dX5_init_231 (by decide) ?_
  refine n_newaH (pc := 233) (atype := .int) hC 0 (ty := .int) (N' := 6) (a0 := (6, .inl (fun _ => 0))) rfl (by decide) rfl ac_int (fun _ => rfl) (by decide) (by decide) (by decide) (by decide) (by decide) dX5_init_233 (fun q57 => ?_)
  generalize hR58 : ap [(q57, .inl (cy 0, 6, .inl (fun _ => 0)))] R56 = R58
  refine n_putF (pc := 235) (ws2 := (ap [(q, .inr (5, [.int 0, .int 0, .ref q1, .ref q3, .ref q5, .ref q7, .ref q9, .ref q11, .ref q13, .ref q15, .ref q17, .ref q19, .ref q21, .ref q23, .ref q25, .ref q27, .ref q29, .ref q31, .ref q33, .ref q35, .ref q37, .ref q39, .ref q41, .ref q43, .ref q45, .ref q47, .ref q49, .ref q51, .ref q53, .ref q55, .ref q57, .int 0, .null, .null, .null]))] R58)) hC hin ff_X5_95 (q0 := 0) rfl rfl rfl (Nat.le_of_ble_eq_true rfl) rfl dX5_init_235 ?_
  refine n_aload_n (pc := 238) hC dX5_init_238 rfl ?_
  refine n_sipush (pc := 239) hC (600 : Int32) dX5_init_239 (by decide) ?_
  refine n_newaH (pc := 242) (atype := .int) hC 0 (ty := .int) (N' := 600) (a0 := (600, .inl (fun _ => 0))) rfl (by decide) rfl ac_int (fun _ => rfl) (by decide) (by decide) (by decide) (by decide) (by decide) dX5_init_242 (fun q59 => ?_)
  generalize hR60 : ap [(q59, .inl (cy 0, 600, .inl (fun _ => 0)))] R58 = R60
  refine n_putF (pc := 244) (ws2 := (ap [(q, .inr (5, [.int 0, .int 0, .ref q1, .ref q3, .ref q5, .ref q7, .ref q9, .ref q11, .ref q13, .ref q15, .ref q17, .ref q19, .ref q21, .ref q23, .ref q25, .ref q27, .ref q29, .ref q31, .ref q33, .ref q35, .ref q37, .ref q39, .ref q41, .ref q43, .ref q45, .ref q47, .ref q49, .ref q51, .ref q53, .ref q55, .ref q57, .int 0, .ref q59, .null, .null]))] R60)) hC hin ff_X5_98 (q0 := 0) rfl rfl rfl (Nat.le_of_ble_eq_true rfl) rfl dX5_init_244 ?_
  refine n_aload_n (pc := 247) hC dX5_init_247 rfl ?_
  refine n_sipush (pc := 248) hC (600 : Int32) dX5_init_248 (by decide) ?_
  refine n_newaH (pc := 251) (atype := .int) hC 0 (ty := .int) (N' := 600) (a0 := (600, .inl (fun _ => 0))) rfl (by decide) rfl ac_int (fun _ => rfl) (by decide) (by decide) (by decide) (by decide) (by decide) dX5_init_251 (fun q61 => ?_)
  generalize hR62 : ap [(q61, .inl (cy 0, 600, .inl (fun _ => 0)))] R60 = R62
  refine n_putF (pc := 253) (ws2 := (ap [(q, .inr (5, [.int 0, .int 0, .ref q1, .ref q3, .ref q5, .ref q7, .ref q9, .ref q11, .ref q13, .ref q15, .ref q17, .ref q19, .ref q21, .ref q23, .ref q25, .ref q27, .ref q29, .ref q31, .ref q33, .ref q35, .ref q37, .ref q39, .ref q41, .ref q43, .ref q45, .ref q47, .ref q49, .ref q51, .ref q53, .ref q55, .ref q57, .int 0, .ref q59, .ref q61, .null]))] R62)) hC hin ff_X5_101 (q0 := 0) rfl rfl rfl (Nat.le_of_ble_eq_true rfl) rfl dX5_init_253 ?_
  refine n_aload_n (pc := 256) hC dX5_init_256 rfl ?_
  refine n_sipush (pc := 257) hC (1024 : Int32) dX5_init_257 (by decide) ?_
  refine n_newaH (pc := 260) (atype := .int) hC 0 (ty := .int) (N' := 1024) (a0 := (1024, .inl (fun _ => 0))) rfl (by decide) rfl ac_int (fun _ => rfl) (by decide) (by decide) (by decide) (by decide) (by decide) dX5_init_260 (fun q63 => ?_)
  generalize hR64 : ap [(q63, .inl (cy 0, 1024, .inl (fun _ => 0)))] R62 = R64
  refine n_putF (pc := 262) (ws2 := (ap [(q, .inr (5, [.int 0, .int 0, .ref q1, .ref q3, .ref q5, .ref q7, .ref q9, .ref q11, .ref q13, .ref q15, .ref q17, .ref q19, .ref q21, .ref q23, .ref q25, .ref q27, .ref q29, .ref q31, .ref q33, .ref q35, .ref q37, .ref q39, .ref q41, .ref q43, .ref q45, .ref q47, .ref q49, .ref q51, .ref q53, .ref q55, .ref q57, .int 0, .ref q59, .ref q61, .ref q63]))] R64)) hC hin ff_X5_104 (q0 := 0) rfl rfl rfl (Nat.le_of_ble_eq_true rfl) rfl dX5_init_262 ?_
  refine n_iconst (pc := 265) hC (0 : Int32) dX5_init_265 (by decide) ?_
  refine n_istore_n (pc := 266) (L2 := [some (.ref q), some (.int (0 : Int32))]) hC dX5_init_266 (by decide) rfl ?_
  refine n_iload_n (pc := 267) hC dX5_init_267 rfl ?_
  refine n_bipush (pc := 268) hC (6 : Int32) dX5_init_268 (by decide) ?_
  refine n_ge_f (pc := 270) (tgt := 286) hC dX5_init_270 (by decide) (by decide) ?_
  refine n_aload_n (pc := 273) hC dX5_init_273 rfl ?_
  refine n_get (pc := 274) hC fl_X5_41 (q0 := 0) rfl rfl dX5_init_274 ?_
  refine n_iload_n (pc := 277) hC dX5_init_277 rfl ?_
  refine n_iconst (pc := 278) hC (-1 : Int32) dX5_init_278 (by decide) ?_
  subst hR64
  subst hR62
  subst hR60
  subst hR58
  subst hR56
  subst hR54
  subst hR52
  subst hR50
  subst hR48
  subst hR46
  subst hR44
  subst hR42
  subst hR40
  subst hR38
  subst hR36
  subst hR34
  subst hR32
  subst hR30
  subst hR28
  subst hR26
  subst hR24
  subst hR22
  subst hR20
  subst hR18
  subst hR16
  subst hR14
  subst hR12
  subst hR10
  subst hR8
  subst hR6
  subst hR4
  subst hR2
  show Nd _ _ _ _ _ _ _ _ _ _ _ _ _ _ _ _ [(q, .inr (5, [.int 0, .int 0, .ref q1, .ref q3, .ref q5, .ref q7, .ref q9, .ref q11, .ref q13, .ref q15, .ref q17, .ref q19, .ref q21, .ref q23, .ref q25, .ref q27, .ref q29, .ref q31, .ref q33, .ref q35, .ref q37, .ref q39, .ref q41, .ref q43, .ref q45, .ref q47, .ref q49, .ref q51, .ref q53, .ref q55, .ref q57, .int 0, .ref q59, .ref q61, .ref q63])), (q63, .inl (cy 0, 1024, .inl (fun _ => 0))), (q61, .inl (cy 0, 600, .inl (fun _ => 0))), (q59, .inl (cy 0, 600, .inl (fun _ => 0))), (q57, .inl (cy 0, 6, .inl (fun _ => 0))), (q55, .inl (cy 0, 6, .inl (fun _ => 0))), (q53, .inl (cy 0, 6, .inl (fun _ => 0))), (q51, .inl (cy 0, 6, .inl (fun _ => 0))), (q49, .inl (cy 0, 6, .inl (fun _ => 0))), (q47, .inl (cy 0, 6, .inl (fun _ => 0))), (q45, .inl (cy 0, 6, .inl (fun _ => 0))), (q43, .inl (cy 2, 6, .inl (fun _ => 0))), (q41, .inl (cy 0, 6, .inl (fun _ => 0))), (q39, .inl (cy 0, 6, .inl (fun _ => 0))), (q37, .inl (cy 0, 6, .inl (fun _ => 0))), (q35, .inl (cy 0, 6, .inl (fun _ => 0))), (q33, .inl (cy 0, 6, .inl (fun _ => 0))), (q31, .inl (cy 2, 6, .inl (fun _ => 0))), (q29, .inl (cy 0, 96, .inl (fun _ => 0))), (q27, .inl (cy 0, 96, .inl (fun _ => 0))), (q25, .inl (cy 0, 6, .inl (fun _ => 0))), (q23, .inl (cy 0, 180, .inl (fun _ => 0))), (q21, .inl (cy 0, 6, .inl (fun _ => 0))), (q19, .inl (cy 0, 6, .inl (fun _ => 0))), (q17, .inl (cy 0, 192, .inl (fun _ => 0))), (q15, .inl (cy 0, 6, .inl (fun _ => 0))), (q13, .inl (cy 0, 6, .inl (fun _ => 0))), (q11, .inl (cy 0, 6, .inl (fun _ => 0))), (q9, .inl (cy 0, 6, .inl (fun _ => 0))), (q7, .inl (cy 0, 6, .inl (fun _ => 0))), (q5, .inl (cy 0, 6, .inl (fun _ => 0))), (q3, .inl (cy 0, 6, .inl (fun _ => 0))), (q1, .inl (cy 2, 6, .inl (fun _ => 0)))] _ _ _
  refine n_iast (pc := 279) (ws2 := [(q, .inr (5, [.int 0, .int 0, .ref q1, .ref q3, .ref q5, .ref q7, .ref q9, .ref q11, .ref q13, .ref q15, .ref q17, .ref q19, .ref q21, .ref q23, .ref q25, .ref q27, .ref q29, .ref q31, .ref q33, .ref q35, .ref q37, .ref q39, .ref q41, .ref q43, .ref q45, .ref q47, .ref q49, .ref q51, .ref q53, .ref q55, .ref q57, .int 0, .ref q59, .ref q61, .ref q63])), (q63, .inl (cy 0, 1024, .inl (fun _ => 0))), (q61, .inl (cy 0, 600, .inl (fun _ => 0))), (q59, .inl (cy 0, 600, .inl (fun _ => 0))), (q57, .inl (cy 0, 6, .inl (fun _ => 0))), (q55, .inl (cy 0, 6, .inl (fun _ => 0))), (q53, .inl (cy 0, 6, .inl (fun _ => 0))), (q51, .inl (cy 0, 6, .inl (fun _ => 0))), (q49, .inl (cy 0, 6, .inl (fun _ => 0))), (q47, .inl (cy 0, 6, .inl (fun _ => 0))), (q45, .inl (cy 0, 6, .inl (fun _ => 0))), (q43, .inl (cy 2, 6, .inl (fun _ => 0))), (q41, .inl (cy 0, 6, .inl (fun _ => 0))), (q39, .inl (cy 0, 6, .inl (fun _ => 0))), (q37, .inl (cy 0, 6, .inl (fun _ => 0))), (q35, .inl (cy 0, 6, .inl (fun _ => 0))), (q33, .inl (cy 0, 6, .inl (fun _ => 0))), (q31, .inl (cy 2, 6, .inl (fun _ => 0))), (q29, .inl (cy 0, 96, .inl (fun _ => 0))), (q27, .inl (cy 0, 96, .inl (fun _ => 0))), (q25, .inl (cy 0, 6, .inl (fun _ => 0))), (q23, .inl (cy 0, 180, .inl (fun _ => 0))), (q21, .inl (cy 0, 6, .inl (upd (fun _ => 0) (0 : Int32).toNatClampNeg (-1 : Int32)))), (q19, .inl (cy 0, 6, .inl (fun _ => 0))), (q17, .inl (cy 0, 192, .inl (fun _ => 0))), (q15, .inl (cy 0, 6, .inl (fun _ => 0))), (q13, .inl (cy 0, 6, .inl (fun _ => 0))), (q11, .inl (cy 0, 6, .inl (fun _ => 0))), (q9, .inl (cy 0, 6, .inl (fun _ => 0))), (q7, .inl (cy 0, 6, .inl (fun _ => 0))), (q5, .inl (cy 0, 6, .inl (fun _ => 0))), (q3, .inl (cy 0, 6, .inl (fun _ => 0))), (q1, .inl (cy 2, 6, .inl (fun _ => 0)))]) hC 22 rfl (by unfold vp_in; decide) rfl dX5_init_279 ?_
  refine n_iinc (pc := 280) (L2 := [some (.ref q), some (.int (1 : Int32))]) hC (1 : Int32) dX5_init_280 rfl (by decide) (by decide) rfl ?_
  refine n_goto (pc := 283) (tgt := 267) hC dX5_init_283 (by decide) ?_
  refine n_iload_n (pc := 267) hC dX5_init_267 rfl ?_
  refine n_bipush (pc := 268) hC (6 : Int32) dX5_init_268 (by decide) ?_
  refine n_ge_f (pc := 270) (tgt := 286) hC dX5_init_270 (by decide) (by decide) ?_
  refine n_aload_n (pc := 273) hC dX5_init_273 rfl ?_
  refine n_get (pc := 274) hC fl_X5_41 (q0 := 0) rfl rfl dX5_init_274 ?_
  refine n_iload_n (pc := 277) hC dX5_init_277 rfl ?_
  refine n_iconst (pc := 278) hC (-1 : Int32) dX5_init_278 (by decide) ?_
  refine n_iast (pc := 279) (ws2 := [(q, .inr (5, [.int 0, .int 0, .ref q1, .ref q3, .ref q5, .ref q7, .ref q9, .ref q11, .ref q13, .ref q15, .ref q17, .ref q19, .ref q21, .ref q23, .ref q25, .ref q27, .ref q29, .ref q31, .ref q33, .ref q35, .ref q37, .ref q39, .ref q41, .ref q43, .ref q45, .ref q47, .ref q49, .ref q51, .ref q53, .ref q55, .ref q57, .int 0, .ref q59, .ref q61, .ref q63])), (q63, .inl (cy 0, 1024, .inl (fun _ => 0))), (q61, .inl (cy 0, 600, .inl (fun _ => 0))), (q59, .inl (cy 0, 600, .inl (fun _ => 0))), (q57, .inl (cy 0, 6, .inl (fun _ => 0))), (q55, .inl (cy 0, 6, .inl (fun _ => 0))), (q53, .inl (cy 0, 6, .inl (fun _ => 0))), (q51, .inl (cy 0, 6, .inl (fun _ => 0))), (q49, .inl (cy 0, 6, .inl (fun _ => 0))), (q47, .inl (cy 0, 6, .inl (fun _ => 0))), (q45, .inl (cy 0, 6, .inl (fun _ => 0))), (q43, .inl (cy 2, 6, .inl (fun _ => 0))), (q41, .inl (cy 0, 6, .inl (fun _ => 0))), (q39, .inl (cy 0, 6, .inl (fun _ => 0))), (q37, .inl (cy 0, 6, .inl (fun _ => 0))), (q35, .inl (cy 0, 6, .inl (fun _ => 0))), (q33, .inl (cy 0, 6, .inl (fun _ => 0))), (q31, .inl (cy 2, 6, .inl (fun _ => 0))), (q29, .inl (cy 0, 96, .inl (fun _ => 0))), (q27, .inl (cy 0, 96, .inl (fun _ => 0))), (q25, .inl (cy 0, 6, .inl (fun _ => 0))), (q23, .inl (cy 0, 180, .inl (fun _ => 0))), (q21, .inl (cy 0, 6, .inl (upd (upd (fun _ => 0) (0 : Int32).toNatClampNeg (-1 : Int32)) (1 : Int32).toNatClampNeg (-1 : Int32)))), (q19, .inl (cy 0, 6, .inl (fun _ => 0))), (q17, .inl (cy 0, 192, .inl (fun _ => 0))), (q15, .inl (cy 0, 6, .inl (fun _ => 0))), (q13, .inl (cy 0, 6, .inl (fun _ => 0))), (q11, .inl (cy 0, 6, .inl (fun _ => 0))), (q9, .inl (cy 0, 6, .inl (fun _ => 0))), (q7, .inl (cy 0, 6, .inl (fun _ => 0))), (q5, .inl (cy 0, 6, .inl (fun _ => 0))), (q3, .inl (cy 0, 6, .inl (fun _ => 0))), (q1, .inl (cy 2, 6, .inl (fun _ => 0)))]) hC 22 rfl (by unfold vp_in; decide) rfl dX5_init_279 ?_
  refine n_iinc (pc := 280) (L2 := [some (.ref q), some (.int (2 : Int32))]) hC (2 : Int32) dX5_init_280 rfl (by decide) (by decide) rfl ?_
  refine n_goto (pc := 283) (tgt := 267) hC dX5_init_283 (by decide) ?_
  refine n_iload_n (pc := 267) hC dX5_init_267 rfl ?_
  refine n_bipush (pc := 268) hC (6 : Int32) dX5_init_268 (by decide) ?_
  refine n_ge_f (pc := 270) (tgt := 286) hC dX5_init_270 (by decide) (by decide) ?_
  refine n_aload_n (pc := 273) hC dX5_init_273 rfl ?_
  refine n_get (pc := 274) hC fl_X5_41 (q0 := 0) rfl rfl dX5_init_274 ?_
  refine n_iload_n (pc := 277) hC dX5_init_277 rfl ?_
  refine n_iconst (pc := 278) hC (-1 : Int32) dX5_init_278 (by decide) ?_
  refine n_iast (pc := 279) (ws2 := [(q, .inr (5, [.int 0, .int 0, .ref q1, .ref q3, .ref q5, .ref q7, .ref q9, .ref q11, .ref q13, .ref q15, .ref q17, .ref q19, .ref q21, .ref q23, .ref q25, .ref q27, .ref q29, .ref q31, .ref q33, .ref q35, .ref q37, .ref q39, .ref q41, .ref q43, .ref q45, .ref q47, .ref q49, .ref q51, .ref q53, .ref q55, .ref q57, .int 0, .ref q59, .ref q61, .ref q63])), (q63, .inl (cy 0, 1024, .inl (fun _ => 0))), (q61, .inl (cy 0, 600, .inl (fun _ => 0))), (q59, .inl (cy 0, 600, .inl (fun _ => 0))), (q57, .inl (cy 0, 6, .inl (fun _ => 0))), (q55, .inl (cy 0, 6, .inl (fun _ => 0))), (q53, .inl (cy 0, 6, .inl (fun _ => 0))), (q51, .inl (cy 0, 6, .inl (fun _ => 0))), (q49, .inl (cy 0, 6, .inl (fun _ => 0))), (q47, .inl (cy 0, 6, .inl (fun _ => 0))), (q45, .inl (cy 0, 6, .inl (fun _ => 0))), (q43, .inl (cy 2, 6, .inl (fun _ => 0))), (q41, .inl (cy 0, 6, .inl (fun _ => 0))), (q39, .inl (cy 0, 6, .inl (fun _ => 0))), (q37, .inl (cy 0, 6, .inl (fun _ => 0))), (q35, .inl (cy 0, 6, .inl (fun _ => 0))), (q33, .inl (cy 0, 6, .inl (fun _ => 0))), (q31, .inl (cy 2, 6, .inl (fun _ => 0))), (q29, .inl (cy 0, 96, .inl (fun _ => 0))), (q27, .inl (cy 0, 96, .inl (fun _ => 0))), (q25, .inl (cy 0, 6, .inl (fun _ => 0))), (q23, .inl (cy 0, 180, .inl (fun _ => 0))), (q21, .inl (cy 0, 6, .inl (upd (upd (upd (fun _ => 0) (0 : Int32).toNatClampNeg (-1 : Int32)) (1 : Int32).toNatClampNeg (-1 : Int32)) (2 : Int32).toNatClampNeg (-1 : Int32)))), (q19, .inl (cy 0, 6, .inl (fun _ => 0))), (q17, .inl (cy 0, 192, .inl (fun _ => 0))), (q15, .inl (cy 0, 6, .inl (fun _ => 0))), (q13, .inl (cy 0, 6, .inl (fun _ => 0))), (q11, .inl (cy 0, 6, .inl (fun _ => 0))), (q9, .inl (cy 0, 6, .inl (fun _ => 0))), (q7, .inl (cy 0, 6, .inl (fun _ => 0))), (q5, .inl (cy 0, 6, .inl (fun _ => 0))), (q3, .inl (cy 0, 6, .inl (fun _ => 0))), (q1, .inl (cy 2, 6, .inl (fun _ => 0)))]) hC 22 rfl (by unfold vp_in; decide) rfl dX5_init_279 ?_
  refine n_iinc (pc := 280) (L2 := [some (.ref q), some (.int (3 : Int32))]) hC (3 : Int32) dX5_init_280 rfl (by decide) (by decide) rfl ?_
  refine n_goto (pc := 283) (tgt := 267) hC dX5_init_283 (by decide) ?_
  refine n_iload_n (pc := 267) hC dX5_init_267 rfl ?_
  refine n_bipush (pc := 268) hC (6 : Int32) dX5_init_268 (by decide) ?_
  refine n_ge_f (pc := 270) (tgt := 286) hC dX5_init_270 (by decide) (by decide) ?_
  refine n_aload_n (pc := 273) hC dX5_init_273 rfl ?_
  refine n_get (pc := 274) hC fl_X5_41 (q0 := 0) rfl rfl dX5_init_274 ?_
  refine n_iload_n (pc := 277) hC dX5_init_277 rfl ?_
  refine n_iconst (pc := 278) hC (-1 : Int32) dX5_init_278 (by decide) ?_
  refine n_iast (pc := 279) (ws2 := [(q, .inr (5, [.int 0, .int 0, .ref q1, .ref q3, .ref q5, .ref q7, .ref q9, .ref q11, .ref q13, .ref q15, .ref q17, .ref q19, .ref q21, .ref q23, .ref q25, .ref q27, .ref q29, .ref q31, .ref q33, .ref q35, .ref q37, .ref q39, .ref q41, .ref q43, .ref q45, .ref q47, .ref q49, .ref q51, .ref q53, .ref q55, .ref q57, .int 0, .ref q59, .ref q61, .ref q63])), (q63, .inl (cy 0, 1024, .inl (fun _ => 0))), (q61, .inl (cy 0, 600, .inl (fun _ => 0))), (q59, .inl (cy 0, 600, .inl (fun _ => 0))), (q57, .inl (cy 0, 6, .inl (fun _ => 0))), (q55, .inl (cy 0, 6, .inl (fun _ => 0))), (q53, .inl (cy 0, 6, .inl (fun _ => 0))), (q51, .inl (cy 0, 6, .inl (fun _ => 0))), (q49, .inl (cy 0, 6, .inl (fun _ => 0))), (q47, .inl (cy 0, 6, .inl (fun _ => 0))), (q45, .inl (cy 0, 6, .inl (fun _ => 0))), (q43, .inl (cy 2, 6, .inl (fun _ => 0))), (q41, .inl (cy 0, 6, .inl (fun _ => 0))), (q39, .inl (cy 0, 6, .inl (fun _ => 0))), (q37, .inl (cy 0, 6, .inl (fun _ => 0))), (q35, .inl (cy 0, 6, .inl (fun _ => 0))), (q33, .inl (cy 0, 6, .inl (fun _ => 0))), (q31, .inl (cy 2, 6, .inl (fun _ => 0))), (q29, .inl (cy 0, 96, .inl (fun _ => 0))), (q27, .inl (cy 0, 96, .inl (fun _ => 0))), (q25, .inl (cy 0, 6, .inl (fun _ => 0))), (q23, .inl (cy 0, 180, .inl (fun _ => 0))), (q21, .inl (cy 0, 6, .inl (upd (upd (upd (upd (fun _ => 0) (0 : Int32).toNatClampNeg (-1 : Int32)) (1 : Int32).toNatClampNeg (-1 : Int32)) (2 : Int32).toNatClampNeg (-1 : Int32)) (3 : Int32).toNatClampNeg (-1 : Int32)))), (q19, .inl (cy 0, 6, .inl (fun _ => 0))), (q17, .inl (cy 0, 192, .inl (fun _ => 0))), (q15, .inl (cy 0, 6, .inl (fun _ => 0))), (q13, .inl (cy 0, 6, .inl (fun _ => 0))), (q11, .inl (cy 0, 6, .inl (fun _ => 0))), (q9, .inl (cy 0, 6, .inl (fun _ => 0))), (q7, .inl (cy 0, 6, .inl (fun _ => 0))), (q5, .inl (cy 0, 6, .inl (fun _ => 0))), (q3, .inl (cy 0, 6, .inl (fun _ => 0))), (q1, .inl (cy 2, 6, .inl (fun _ => 0)))]) hC 22 rfl (by unfold vp_in; decide) rfl dX5_init_279 ?_
  refine n_iinc (pc := 280) (L2 := [some (.ref q), some (.int (4 : Int32))]) hC (4 : Int32) dX5_init_280 rfl (by decide) (by decide) rfl ?_
  refine n_goto (pc := 283) (tgt := 267) hC dX5_init_283 (by decide) ?_
  refine n_iload_n (pc := 267) hC dX5_init_267 rfl ?_
  refine n_bipush (pc := 268) hC (6 : Int32) dX5_init_268 (by decide) ?_
  refine n_ge_f (pc := 270) (tgt := 286) hC dX5_init_270 (by decide) (by decide) ?_
  refine n_aload_n (pc := 273) hC dX5_init_273 rfl ?_
  refine n_get (pc := 274) hC fl_X5_41 (q0 := 0) rfl rfl dX5_init_274 ?_
  refine n_iload_n (pc := 277) hC dX5_init_277 rfl ?_
  refine n_iconst (pc := 278) hC (-1 : Int32) dX5_init_278 (by decide) ?_
  refine n_iast (pc := 279) (ws2 := [(q, .inr (5, [.int 0, .int 0, .ref q1, .ref q3, .ref q5, .ref q7, .ref q9, .ref q11, .ref q13, .ref q15, .ref q17, .ref q19, .ref q21, .ref q23, .ref q25, .ref q27, .ref q29, .ref q31, .ref q33, .ref q35, .ref q37, .ref q39, .ref q41, .ref q43, .ref q45, .ref q47, .ref q49, .ref q51, .ref q53, .ref q55, .ref q57, .int 0, .ref q59, .ref q61, .ref q63])), (q63, .inl (cy 0, 1024, .inl (fun _ => 0))), (q61, .inl (cy 0, 600, .inl (fun _ => 0))), (q59, .inl (cy 0, 600, .inl (fun _ => 0))), (q57, .inl (cy 0, 6, .inl (fun _ => 0))), (q55, .inl (cy 0, 6, .inl (fun _ => 0))), (q53, .inl (cy 0, 6, .inl (fun _ => 0))), (q51, .inl (cy 0, 6, .inl (fun _ => 0))), (q49, .inl (cy 0, 6, .inl (fun _ => 0))), (q47, .inl (cy 0, 6, .inl (fun _ => 0))), (q45, .inl (cy 0, 6, .inl (fun _ => 0))), (q43, .inl (cy 2, 6, .inl (fun _ => 0))), (q41, .inl (cy 0, 6, .inl (fun _ => 0))), (q39, .inl (cy 0, 6, .inl (fun _ => 0))), (q37, .inl (cy 0, 6, .inl (fun _ => 0))), (q35, .inl (cy 0, 6, .inl (fun _ => 0))), (q33, .inl (cy 0, 6, .inl (fun _ => 0))), (q31, .inl (cy 2, 6, .inl (fun _ => 0))), (q29, .inl (cy 0, 96, .inl (fun _ => 0))), (q27, .inl (cy 0, 96, .inl (fun _ => 0))), (q25, .inl (cy 0, 6, .inl (fun _ => 0))), (q23, .inl (cy 0, 180, .inl (fun _ => 0))), (q21, .inl (cy 0, 6, .inl (upd (upd (upd (upd (upd (fun _ => 0) (0 : Int32).toNatClampNeg (-1 : Int32)) (1 : Int32).toNatClampNeg (-1 : Int32)) (2 : Int32).toNatClampNeg (-1 : Int32)) (3 : Int32).toNatClampNeg (-1 : Int32)) (4 : Int32).toNatClampNeg (-1 : Int32)))), (q19, .inl (cy 0, 6, .inl (fun _ => 0))), (q17, .inl (cy 0, 192, .inl (fun _ => 0))), (q15, .inl (cy 0, 6, .inl (fun _ => 0))), (q13, .inl (cy 0, 6, .inl (fun _ => 0))), (q11, .inl (cy 0, 6, .inl (fun _ => 0))), (q9, .inl (cy 0, 6, .inl (fun _ => 0))), (q7, .inl (cy 0, 6, .inl (fun _ => 0))), (q5, .inl (cy 0, 6, .inl (fun _ => 0))), (q3, .inl (cy 0, 6, .inl (fun _ => 0))), (q1, .inl (cy 2, 6, .inl (fun _ => 0)))]) hC 22 rfl (by unfold vp_in; decide) rfl dX5_init_279 ?_
  refine n_iinc (pc := 280) (L2 := [some (.ref q), some (.int (5 : Int32))]) hC (5 : Int32) dX5_init_280 rfl (by decide) (by decide) rfl ?_
  refine n_goto (pc := 283) (tgt := 267) hC dX5_init_283 (by decide) ?_
  refine n_iload_n (pc := 267) hC dX5_init_267 rfl ?_
  refine n_bipush (pc := 268) hC (6 : Int32) dX5_init_268 (by decide) ?_
  refine n_ge_f (pc := 270) (tgt := 286) hC dX5_init_270 (by decide) (by decide) ?_
  refine n_aload_n (pc := 273) hC dX5_init_273 rfl ?_
  refine n_get (pc := 274) hC fl_X5_41 (q0 := 0) rfl rfl dX5_init_274 ?_
  refine n_iload_n (pc := 277) hC dX5_init_277 rfl ?_
  refine n_iconst (pc := 278) hC (-1 : Int32) dX5_init_278 (by decide) ?_
  refine n_iast (pc := 279) (ws2 := [(q, .inr (5, [.int 0, .int 0, .ref q1, .ref q3, .ref q5, .ref q7, .ref q9, .ref q11, .ref q13, .ref q15, .ref q17, .ref q19, .ref q21, .ref q23, .ref q25, .ref q27, .ref q29, .ref q31, .ref q33, .ref q35, .ref q37, .ref q39, .ref q41, .ref q43, .ref q45, .ref q47, .ref q49, .ref q51, .ref q53, .ref q55, .ref q57, .int 0, .ref q59, .ref q61, .ref q63])), (q63, .inl (cy 0, 1024, .inl (fun _ => 0))), (q61, .inl (cy 0, 600, .inl (fun _ => 0))), (q59, .inl (cy 0, 600, .inl (fun _ => 0))), (q57, .inl (cy 0, 6, .inl (fun _ => 0))), (q55, .inl (cy 0, 6, .inl (fun _ => 0))), (q53, .inl (cy 0, 6, .inl (fun _ => 0))), (q51, .inl (cy 0, 6, .inl (fun _ => 0))), (q49, .inl (cy 0, 6, .inl (fun _ => 0))), (q47, .inl (cy 0, 6, .inl (fun _ => 0))), (q45, .inl (cy 0, 6, .inl (fun _ => 0))), (q43, .inl (cy 2, 6, .inl (fun _ => 0))), (q41, .inl (cy 0, 6, .inl (fun _ => 0))), (q39, .inl (cy 0, 6, .inl (fun _ => 0))), (q37, .inl (cy 0, 6, .inl (fun _ => 0))), (q35, .inl (cy 0, 6, .inl (fun _ => 0))), (q33, .inl (cy 0, 6, .inl (fun _ => 0))), (q31, .inl (cy 2, 6, .inl (fun _ => 0))), (q29, .inl (cy 0, 96, .inl (fun _ => 0))), (q27, .inl (cy 0, 96, .inl (fun _ => 0))), (q25, .inl (cy 0, 6, .inl (fun _ => 0))), (q23, .inl (cy 0, 180, .inl (fun _ => 0))), (q21, .inl (cy 0, 6, .inl (upd (upd (upd (upd (upd (upd (fun _ => 0) (0 : Int32).toNatClampNeg (-1 : Int32)) (1 : Int32).toNatClampNeg (-1 : Int32)) (2 : Int32).toNatClampNeg (-1 : Int32)) (3 : Int32).toNatClampNeg (-1 : Int32)) (4 : Int32).toNatClampNeg (-1 : Int32)) (5 : Int32).toNatClampNeg (-1 : Int32)))), (q19, .inl (cy 0, 6, .inl (fun _ => 0))), (q17, .inl (cy 0, 192, .inl (fun _ => 0))), (q15, .inl (cy 0, 6, .inl (fun _ => 0))), (q13, .inl (cy 0, 6, .inl (fun _ => 0))), (q11, .inl (cy 0, 6, .inl (fun _ => 0))), (q9, .inl (cy 0, 6, .inl (fun _ => 0))), (q7, .inl (cy 0, 6, .inl (fun _ => 0))), (q5, .inl (cy 0, 6, .inl (fun _ => 0))), (q3, .inl (cy 0, 6, .inl (fun _ => 0))), (q1, .inl (cy 2, 6, .inl (fun _ => 0)))]) hC 22 rfl (by unfold vp_in; decide) rfl dX5_init_279 ?_
  refine n_iinc (pc := 280) (L2 := [some (.ref q), some (.int (6 : Int32))]) hC (6 : Int32) dX5_init_280 rfl (by decide) (by decide) rfl ?_
  refine n_goto (pc := 283) (tgt := 267) hC dX5_init_283 (by decide) ?_
  refine n_iload_n (pc := 267) hC dX5_init_267 rfl ?_
  refine n_bipush (pc := 268) hC (6 : Int32) dX5_init_268 (by decide) ?_
  refine n_ge_t (pc := 270) (tgt := 286) hC dX5_init_270 (by decide) (by decide) ?_
  exact n_ret (pc := 286) hC hrt hlk ⟨fun j => [q, q1, q3, q5, q7, q9, q11, q13, q15, q17, q19, q21, q23, q25, q27, q29, q31, q33, q35, q37, q39, q41, q43, q45, q47, q49, q51, q53, q55, q57, q59, q61, q63].getD (j - 60) 0, rfl, rfl⟩ (Nat.le_of_ble_eq_true rfl) (Nat.le_of_ble_eq_true rfl) dX5_init_286
