theorem mk_L_8 : MK RL 8 4 6 [.null, .null, .null, .null, .int 0, .int 0] := ⟨RX4, TX4, tyX4, rfl, inX4, tyX4_ok, wa 53 (by decide +kernel) (by decide +kernel), wa 54 (by decide +kernel) (by decide +kernel), wa 39 (by decide +kernel) (by decide +kernel), by decide +kernel⟩
theorem mn_X4_init : MN yX4_init cX4_init 2 0 := ⟨wa 57 (by decide +kernel) (by decide +kernel), wa 56 (by decide +kernel) (by decide +kernel), wa 39 (by decide +kernel) (by decide +kernel), rfl, by decide +kernel, by decide +kernel, by decide +kernel⟩
theorem ml_L_49 : Cond.methodLink RL 49 yX4_init ∈ WA := wa 55 (by decide +kernel) (by decide +kernel)
theorem mk_L_50 : MK RL 50 5 35 [.int 0, .int 0, .null, .null, .null, .null, .null, .null, .null, .null, .null, .null, .null, .null, .null, .null, .null, .null, .null, .null, .null, .null, .null, .null, .null, .null, .null, .null, .null, .null, .null, .int 0, .null, .null, .null] := ⟨RX5, TX5, tyX5, rfl, inX5, tyX5_ok, wa 581 (by decide +kernel) (by decide +kernel), wa 582 (by decide +kernel) (by decide +kernel), wa 44 (by decide +kernel) (by decide +kernel), by decide +kernel⟩
theorem mn_X5_init : MN yX5_init cX5_init 2 0 := ⟨wa 585 (by decide +kernel) (by decide +kernel), wa 584 (by decide +kernel) (by decide +kernel), wa 44 (by decide +kernel) (by decide +kernel), rfl, by decide +kernel, by decide +kernel, by decide +kernel⟩
theorem ml_L_52 : Cond.methodLink RL 52 yX5_init ∈ WA := wa 583 (by decide +kernel) (by decide +kernel)
theorem ac_long : Cond.arrayClass .long ∈ WA := wa 821 (by decide +kernel) (by decide +kernel)
/-! the law begins: both objects and the row of longs are made; then its loop -/
set_option maxRecDepth 100000 in
set_option maxHeartbeats 4000000 in
theorem whole_begin {p : Program} {e : Env} {s : State} {m : MethodId} {below : List Frame} {meth : Method} {c : Code} (l : Launch) (hl : l.stackTraces = false) {b L : Nat} {xs : Nat → Int32} (hmath : ∃ n, n ≤ 100000 ∧ lp (fun _ _ => False) (h_L_law_23 L xs) n V0 0) (C0 : lw_At p s m meth c b L xs) : W p l e room_1 s m #[Value.ref b] below meth c s.heap [] 0 0 (lw_Z below #[Value.ref b] s) (entryFrame m ([Value.ref b] : List Value).toArray 7) := by
  obtain ⟨hx, hb, hr, hml, hown, hts, hX, hbl, hlocks, hgv⟩ := id C0
  obtain ⟨n, hn1, hn2⟩ := hmath
  generalize hA0 : (fun q : Nat => s.heap.size ≤ q) = A
  have hA : ∀ q, s.heap.size ≤ q → A q := fun q h => by rw [← hA0]; exact h
  have hA9 : ∀ q, A q → s.heap.size ≤ q := fun q h => by rw [← hA0] at h; exact h
  have hbA : ¬ A b := fun h => absurd (hA9 b h) (Nat.not_le.mpr hbl)
  have hWA : ∀ w ∈ WA, w.before #[Value.ref b] s = true := fun w hw => hts w (List.mem_filter.mp hw).1
  obtain ⟨c0, iS0, hKn0⟩ := u_known (C := RX0) (T := TX0) (N := 8) (n := 8) hWA inX0 (hts (Cond.instantiable RX0 8) (List.mem_of_getElem? (i := 179) (by decide +kernel)))
  obtain ⟨c1, iS1, hKn1⟩ := u_known (C := RX1) (T := TX1) (N := 3) (n := 3) hWA inX1 (hts (Cond.instantiable RX1 3) (List.mem_of_getElem? (i := 88) (by decide +kernel)))
  obtain ⟨c2, iS2, hKn2⟩ := u_known (C := RX2) (T := TX2) (N := 3) (n := 3) hWA inX2 (hts (Cond.instantiable RX2 3) (List.mem_of_getElem? (i := 69) (by decide +kernel)))
  obtain ⟨c3, iS3, hKn3⟩ := u_known (C := RX3) (T := TX3) (N := 18) (n := 18) hWA inX3 (hts (Cond.instantiable RX3 18) (List.mem_of_getElem? (i := 63) (by decide +kernel)))
  obtain ⟨c4, iS4, hKn4⟩ := u_known (C := RX4) (T := TX4) (N := 6) (n := 6) hWA inX4 (hts (Cond.instantiable RX4 6) (List.mem_of_getElem? (i := 54) (by decide +kernel)))
  obtain ⟨c5, iS5, hKn5⟩ := u_known (C := RX5) (T := TX5) (N := 35) (n := 35) hWA inX5 (hts (Cond.instantiable RX5 35) (List.mem_of_getElem? (i := 582) (by decide +kernel)))
  obtain ⟨dC, dI, hKc⟩ : ∃ (dC : Nat → ClassId) (dI : Nat → Nat → Nat), ∀ (k : Nat) (q : vw_C), vwCl[k]? = some q → u_Kn s q.1 q.2.1 q.2.2 (dC k) (dI k) := by
    refine ⟨fun k => [c0, c1, c2, c3, c4, c5].getD k c0, fun k => [iS0, iS1, iS2, iS3, iS4, iS5].getD k iS0, ?_⟩
    intro k q hq
    match k, hq with
    | 0, hq => cases hq; exact hKn0
    | 1, hq => cases hq; exact hKn1
    | 2, hq => cases hq; exact hKn2
    | 3, hq => cases hq; exact hKn3
    | 4, hq => cases hq; exact hKn4
    | 5, hq => cases hq; exact hKn5
    | k + 6, hq => simp [vwCl] at hq
  obtain ⟨y0, k0, p0, f0, g0, h0⟩ := Cond.arrayClass_spec (hts (Cond.arrayClass .int) (List.mem_of_getElem? (i := 86) (by decide +kernel)))
  obtain ⟨y1, k1, p1, f1, g1, h1⟩ := Cond.arrayClass_spec (hts (Cond.arrayClass .byte) (List.mem_of_getElem? (i := 237) (by decide +kernel)))
  obtain ⟨y2, k2, p2, f2, g2, h2⟩ := Cond.arrayClass_spec (hts (Cond.arrayClass .boolean) (List.mem_of_getElem? (i := 693) (by decide +kernel)))
  obtain ⟨y3, k3, p3, f3, g3, h3⟩ := Cond.arrayClass_spec (hts (Cond.arrayClass .long) (List.mem_of_getElem? (i := 821) (by decide +kernel)))
  have ao4 : va_AO "BudgetKernel$Source" s := va_AO.of (hts (Cond.arrayOver (.object "BudgetKernel$Source")) (List.mem_of_getElem? (i := 62) (by decide +kernel)))
  obtain ⟨p4, y4, k4, f4, -, g4, h4, e4⟩ := Cond.arrayOver_spec ao4
  have ao5 : va_AO "BudgetKernel$BaseTask" s := va_AO.of (hts (Cond.arrayOver (.object "BudgetKernel$BaseTask")) (List.mem_of_getElem? (i := 178) (by decide +kernel)))
  obtain ⟨p5, y5, k5, f5, -, g5, h5, e5⟩ := Cond.arrayOver_spec ao5
  obtain ⟨cy, hcy⟩ : ∃ cy : Nat → ClassId, cy 0 = y0 ∧ cy 1 = y1 ∧ cy 2 = y2 ∧ cy 3 = y3 ∧ cy 4 = y4 ∧ cy 5 = y5 := ⟨fun k => [y0, y1, y2, y3, y4, y5].getD k y0, rfl, rfl, rfl, rfl, rfl, rfl⟩
  obtain ⟨rfl, rfl, rfl, rfl, rfl, rfl⟩ := hcy
  have hK : va_K (dC, dI) vwCl (tyl cy) s := by
    refine ⟨hKc, fun k q hq => ?_⟩
    match k, hq with
    | 0, hq => cases hq; exact ⟨fun n z => ⟨fun k h => (by cases h), k0, g0, p0, h0⟩, f0⟩
    | 1, hq => cases hq; exact ⟨fun n z => ⟨fun k h => (by cases h), k1, g1, p1, h1⟩, f1⟩
    | 2, hq => cases hq; exact ⟨fun n z => ⟨fun k h => (by cases h), k2, g2, p2, h2⟩, f2⟩
    | 3, hq => cases hq; exact ⟨fun n z => ⟨fun k h => (by cases h), k3, g3, p3, h3⟩, f3⟩
    | 4, hq => cases hq; exact ⟨fun n z => ⟨fun k h => (by cases h), k4, g4, p4, h4⟩, k4, p4, g4, h4, f4, e4⟩
    | 5, hq => cases hq; exact ⟨fun n z => ⟨fun k h => (by cases h), k5, g5, p5, h5⟩, k5, p5, g5, h5, f5, e5⟩
    | k + 6, hq => simp [tyl] at hq
  have hNW : ∀ w ∈ NW, va_Nw w s := by
    intro w hw
    have h1 := (List.mem_filter.mp hw).1
    have h2 := (List.mem_filter.mp hw).2
    refine va_Nw.of ?_ (hts w h1)
    match w, h2 with
    | .fieldLinkNest a i b n d g, _ => rfl
    | .methodLinkNest a i x g, _ => rfl
  have hfl := flat_of_before _ hgv
  have hz : Zb l A s := by
    refine ⟨hl, vx_Zqof (hts (Cond.laysStatic Bundle.tN "UNASSIGNED_STACK" Bundle.steD) (List.mem_of_getElem? (i := 367) (by decide +kernel))) (hts (Cond.initialized Bundle.tN) (List.mem_of_getElem? (i := 45) (by decide +kernel))) (hfl _ (by decide +kernel)) (fun a ha h => absurd (hA9 a h) (by omega)), vx_Zqof (hts (Cond.laysStatic Bundle.tN "SUPPRESSED_SENTINEL" Bundle.listD) (List.mem_of_getElem? (i := 369) (by decide +kernel))) (hts (Cond.initialized Bundle.tN) (List.mem_of_getElem? (i := 45) (by decide +kernel))) (hfl _ (by decide +kernel)) (fun a ha h => absurd (hA9 a h) (by omega)), ?_, ?_⟩
    · intro n
      match n with
      | 1 => exact cast_moved (s := s) (Vm.Alike.refl s.vm) (hts (Cond.castable (exN 1) (exN 1)) (List.mem_of_getElem? (i := 342) (by decide +kernel)))
      | 2 => exact cast_moved (s := s) (Vm.Alike.refl s.vm) (hts (Cond.castable (exN 2) (exN 2)) (List.mem_of_getElem? (i := 406) (by decide +kernel)))
      | 3 => exact cast_moved (s := s) (Vm.Alike.refl s.vm) (hts (Cond.castable (exN 3) (exN 3)) (List.mem_of_getElem? (i := 425) (by decide +kernel)))
      | 0 => exact cast_moved (a := exN 4) (b := exN 4) (s := s) (Vm.Alike.refl s.vm) (hts (Cond.castable (exN 4) (exN 4)) (List.mem_of_getElem? (i := 534) (by decide +kernel)))
      | n + 4 => exact cast_moved (a := exN 4) (b := exN 4) (s := s) (Vm.Alike.refl s.vm) (hts (Cond.castable (exN 4) (exN 4)) (List.mem_of_getElem? (i := 534) (by decide +kernel)))
    · refine List.forall_mem_cons.mpr ⟨?_, List.forall_mem_cons.mpr ⟨?_, List.forall_mem_cons.mpr ⟨?_, fun _ h => absurd h List.not_mem_nil⟩⟩⟩
      · exact decl_moved (s := s) (Vm.Alike.refl s.vm) (hts (Cond.declares ⟨"java/lang/RuntimeException", "<init>", "()V"⟩) (List.mem_of_getElem? (i := 343) (by decide +kernel)))
      · exact decl_moved (s := s) (Vm.Alike.refl s.vm) (hts (Cond.declares ⟨"java/lang/Exception", "<init>", "()V"⟩) (List.mem_of_getElem? (i := 345) (by decide +kernel)))
      · exact decl_moved (s := s) (Vm.Alike.refl s.vm) (hts (Cond.declares ⟨"java/lang/Throwable", "<init>", "()V"⟩) (List.mem_of_getElem? (i := 347) (by decide +kernel)))
  have hct : Nct s := by
    refine List.forall_mem_cons.mpr ⟨?_, List.forall_mem_cons.mpr ⟨?_, List.forall_mem_cons.mpr ⟨?_, List.forall_mem_cons.mpr ⟨?_, fun _ h => absurd h List.not_mem_nil⟩⟩⟩⟩
    · exact List.forall_mem_cons.mpr ⟨fun h => absurd rfl h, List.forall_mem_cons.mpr ⟨fun _ => va_Nc.of (hfl (Cond.not (.castable (exN 1) (exN 2))) (by decide +kernel)), List.forall_mem_cons.mpr ⟨fun _ => va_Nc.of (hfl (Cond.not (.castable (exN 1) (exN 3))) (by decide +kernel)), List.forall_mem_cons.mpr ⟨fun _ => va_Nc.of (hfl (Cond.not (.castable (exN 1) (exN 4))) (by decide +kernel)), fun _ h => absurd h List.not_mem_nil⟩⟩⟩⟩
    · exact List.forall_mem_cons.mpr ⟨fun _ => va_Nc.of (hfl (Cond.not (.castable (exN 2) (exN 1))) (by decide +kernel)), List.forall_mem_cons.mpr ⟨fun h => absurd rfl h, List.forall_mem_cons.mpr ⟨fun _ => va_Nc.of (hfl (Cond.not (.castable (exN 2) (exN 3))) (by decide +kernel)), List.forall_mem_cons.mpr ⟨fun _ => va_Nc.of (hfl (Cond.not (.castable (exN 2) (exN 4))) (by decide +kernel)), fun _ h => absurd h List.not_mem_nil⟩⟩⟩⟩
    · exact List.forall_mem_cons.mpr ⟨fun _ => va_Nc.of (hfl (Cond.not (.castable (exN 3) (exN 1))) (by decide +kernel)), List.forall_mem_cons.mpr ⟨fun _ => va_Nc.of (hfl (Cond.not (.castable (exN 3) (exN 2))) (by decide +kernel)), List.forall_mem_cons.mpr ⟨fun h => absurd rfl h, List.forall_mem_cons.mpr ⟨fun _ => va_Nc.of (hfl (Cond.not (.castable (exN 3) (exN 4))) (by decide +kernel)), fun _ h => absurd h List.not_mem_nil⟩⟩⟩⟩
    · exact List.forall_mem_cons.mpr ⟨fun _ => va_Nc.of (hfl (Cond.not (.castable (exN 4) (exN 1))) (by decide +kernel)), List.forall_mem_cons.mpr ⟨fun _ => va_Nc.of (hfl (Cond.not (.castable (exN 4) (exN 2))) (by decide +kernel)), List.forall_mem_cons.mpr ⟨fun _ => va_Nc.of (hfl (Cond.not (.castable (exN 4) (exN 3))) (by decide +kernel)), List.forall_mem_cons.mpr ⟨fun h => absurd rfl h, fun _ h => absurd h List.not_mem_nil⟩⟩⟩⟩
  have hC : Cn p s m #[Value.ref b] c cL_law 7 (Cond.initialized "BudgetKernelLaw") RL (dC, dI) cy A := ⟨⟨hx, hb, hml, hown, fun w hw => (List.mem_cons.mp hw).elim (fun h => h ▸ (hts (Cond.initialized "BudgetKernelLaw") (List.mem_of_getElem? (i := 38) (by decide +kernel)))) (fun h => hWA w h)⟩, hNW, hK, ⟨ao4, ao5⟩, hA⟩
  have start : Nd p l e room_1 s m #[Value.ref b] below meth c 0 0 (lw_Z below #[Value.ref b] s) 7 (dC, dI) A [] 0 [some (.ref b), none, none, none, none, none, none] [] := by
    refine n_new (pc := 0) hC mk_L_8 (by decide) (by decide) dL_law_0 (fun q1 => ?_)
    refine n_dup (pc := 3) hC dL_law_3 rfl ?_
    refine n_init (pc := 4) hC c_X4_init mn_X4_init (Or.inl ml_L_49) ⟨rfl, rfl⟩ ⟨by decide, by decide⟩ rfl rfl (Nat.le_of_ble_eq_true rfl) ⟨by decide, by decide⟩ dL_law_4 (fun w2 hw2 => ?_)
    obtain ⟨ad1, hq1, rfl⟩ := hw2
    refine n_astore_n (pc := 7) (L2 := [some (.ref b), some (.ref q1), none, none, none, none, none]) hC dL_law_7 (by decide) rfl ?_
    refine n_new (pc := 8) hC mk_L_50 (by decide) (by decide) dL_law_8 (fun q3 => ?_)
    refine n_dup (pc := 11) hC dL_law_11 rfl ?_
    refine n_init (pc := 12) hC c_X5_init mn_X5_init (Or.inl ml_L_52) ⟨rfl, rfl⟩ ⟨by decide, by decide⟩ rfl rfl (Nat.le_of_ble_eq_true rfl) ⟨by decide, by decide⟩ dL_law_12 (fun w4 hw4 => ?_)
    obtain ⟨ad2, hq2, rfl⟩ := hw4
    refine n_astore_n (pc := 15) (L2 := [some (.ref b), some (.ref q1), some (.ref q3), none, none, none, none]) hC dL_law_15 (by decide) rfl ?_
    refine n_iconst (pc := 16) hC (1 : Int32) dL_law_16 (by decide) ?_
    refine n_newa (pc := 17) (atype := .long) hC 3 (ty := .long) (N' := 1) (a0 := (1, .inr (.inl (fun _ => 0)))) rfl (by decide) rfl ac_long (fun _ => rfl) (by decide) (by decide) (by decide) (by decide) (by decide) dL_law_17 (fun q5 => ?_)
    refine n_astore_n (pc := 19) (L2 := [some (.ref b), some (.ref q1), some (.ref q3), some (.ref q5), none, none, none]) hC dL_law_19 (by decide) rfl ?_
    refine n_iconst (pc := 20) hC (0 : Int32) dL_law_20 (by decide) ?_
    refine n_istore (pc := 21) (L2 := [some (.ref b), some (.ref q1), some (.ref q3), some (.ref q5), some (.int (0 : Int32)), none, none]) hC dL_law_21 (by decide) rfl ?_
    intro ls H locs h1 h2 h3 h4
    subst hq1
    subst hq2
    obtain ⟨hi, hAj, hPw⟩ := world0 h2 h3
    have hCx : Cx p s m #[Value.ref b] c cL_law 7 (Cond.initialized "BudgetKernelLaw") RL (dC, dI) (adF ad1 ad2 q5) cy A := ⟨hC.1, hNW, hK, hi, hAj, hA⟩
    exact law_loop hCx hA9 hr hlocks hz hct hX hbl hbA n _ _ (by omega) (by omega) V0 0 hn2 ls H locs h1 hPw h4
  rw [lg_entry_eq]
  exact start _ _ _ (lh_entry [.ref b] (Nat.le_of_ble_eq_true rfl) (List.forall_mem_cons.mpr ⟨rfl, fun _ h => absurd h List.not_mem_nil⟩)) (fun k q h => by simp at h) ⟨fun i j x y h => by simp at h, fun k q h => by simp at h⟩ va_S.rf
