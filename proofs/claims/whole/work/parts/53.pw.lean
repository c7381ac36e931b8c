def InvV (t : Nat) (V : St) : Prop := ∃ a : AA, a.1 ≤ t ∧ GWa (a.1 + 1) a ∧ RCa a V ∧ RMa a V
theorem inv0 : InvV 0 V0 := by
  have hz : ∀ j i, j ≠ 71 → V0 j i = 0 := fun j i hj => by
    show (if j = 71 then (fun k => if k < 6 then (-1 : Int32) else 0) else fun _ => 0) i = 0
    rw [if_neg hj]
  have h71 : ∀ k, k < 6 → V0 71 k = -1 := fun k hk => by
    show (if (71 : Nat) = 71 then (fun k => if k < 6 then (-1 : Int32) else 0) else fun _ => 0) k = -1
    rw [if_pos rfl]
    exact if_pos hk
  refine ⟨(0, 0, 0, fun _ => 0, fun _ => 0, fun _ => (fun _ _ => 0, 0, 0, 0), fun _ _ => 0), Nat.le_refl 0, ⟨fun k hk => ?_, fun k hk => ?_, Nat.zero_le _, fun i hi => absurd hi (Nat.not_lt_zero i), fun _ => rfl⟩, ⟨hz _ _ (by omega), hz _ _ (by omega), ?_, fun q hq => absurd hq (Nat.not_lt_zero q), fun k hk => ?_, fun k hk i hi => hz _ _ (by omega)⟩, ⟨hz _ _ (by omega), hz _ _ (by omega), fun i hi => absurd hi (Nat.not_lt_zero i), fun i hi => absurd hi (Nat.not_lt_zero i), fun q hq => absurd hq (Nat.not_lt_zero q), fun k hk => ?_, fun k hk i hi => hz _ _ (by omega)⟩⟩
  · exact ⟨Nat.zero_le _, Nat.zero_le _, Or.inl rfl, Or.inl rfl, fun _ => ⟨rfl, rfl, rfl, rfl⟩, fun q => absurd q (by show ¬ (0 : Int32) = 1; decide), fun i hi => absurd hi (Nat.not_lt_zero i), fun i hi => absurd hi (Nat.not_lt_zero i), 0, Nat.le_refl 0, rfl⟩
  · exact ⟨Or.inl rfl, fun q => absurd q (by show ¬ (0 : Int32) = 1; decide)⟩
  · exact ⟨0, by omega, Nat.zero_le _, hz _ _ (by omega), hz _ _ (by omega), fun i hi => absurd hi (Nat.not_lt_zero i)⟩
  · refine ⟨fun i _ _ => hz _ _ (by omega), ⟨0, by omega, Nat.zero_le _, hz _ _ (by omega), hz _ _ (by omega), fun i hi => absurd hi (Nat.not_lt_zero i)⟩, ⟨0, by omega, Nat.zero_le _, hz _ _ (by omega), hz _ _ (by omega), fun i hi => absurd hi (Nat.not_lt_zero i)⟩, hz _ _ (by omega), fun i hi => hz _ _ (by omega), fun i hi => hz _ _ (by omega)⟩
  · refine ⟨fun i x y => ?_, h71 k hk, hz _ _ (by omega), hz _ _ (by omega), fun i hi => absurd hi (Nat.not_lt_zero i), fun i hi => absurd hi (Nat.not_lt_zero i), fun i hi => hz _ _ (by omega), fun i hi => hz _ _ (by omega)⟩
    have := mm_rng i (by omega) x
    exact hz _ _ (by omega)
theorem comb {t : Nat} {V : St} {wC wM : St → (Int32 → St → Prop) → Prop} (hI : InvV t V) (hb : ∀ a : AA, a.1 ≤ t → GWa (a.1 + 1) a → BothV a wC wM) {KC : Int32 → St → Prop} (hK : ∀ (c : Int32) (V2 : St), (∀ KM : Int32 → St → Prop, (∀ (r : Int32) (V3 : St), InvV (t + 500) V3 → V3 60 0 = c → (c = 0 → V3 93 0 = r) → KM r V3) → wM V2 KM) → KC c V2) : wC V KC := by
  obtain ⟨a, ha, hw, hRC, hRM⟩ := hI
  obtain ⟨a', c, r, ht, hw', hC, hM⟩ := hb a ha hw
  refine hC V KC hRC (fun V2 hRC2 hFL h93 => hK c V2 (fun KM hKM => ?_))
  have hRM2 : RMa a V2 := RM.fr hRM hw.1 (fun j i h1 h2 _ => by rw [hFL j h1 h2])
  refine hM V2 KM hRM2 (fun V3 r' hr hRM3 hFM h60 => hKM r' V3 ⟨a', by omega, hw', RC.fr hRC2 (fun j hj => hFM j (by omega)), hRM3⟩ h60 (fun h0 => ?_))
  rw [hFM 93 (by omega), h93 h0, hr h0]
theorem combB {t : Nat} {V : St} {wC wM : St → (Int32 → St → Prop) → Prop} (hI : InvV t V) (hb : ∀ a : AA, a.1 ≤ t → GWa (a.1 + 1) a → BothB a wC wM) {KC : Int32 → St → Prop} (hK : ∀ (c : Int32) (V2 : St), (∀ KM : Int32 → St → Prop, (∀ (r : Int32) (V3 : St), InvV (t + 500) V3 → V3 60 0 = c → (c = 0 → V3 93 0 = r ∧ (r = 0 ∨ r = 1)) → KM r V3) → wM V2 KM) → KC c V2) : wC V KC := by
  obtain ⟨a, ha, hw, hRC, hRM⟩ := hI
  obtain ⟨a', c, r, hr01, ht, hw', hC, hM⟩ := hb a ha hw
  refine hC V KC hRC (fun V2 hRC2 hFL h93 => hK c V2 (fun KM hKM => ?_))
  have hRM2 : RMa a V2 := RM.fr hRM hw.1 (fun j i h1 h2 _ => by rw [hFL j h1 h2])
  refine hM V2 KM hRM2 (fun V3 r' hr hRM3 hFM h60 => hKM r' V3 ⟨a', by omega, hw', RC.fr hRC2 (fun j hj => hFM j (by omega)), hRM3⟩ h60 (fun h0 => ?_))
  rw [hFM 93 (by omega), h93 h0, hr h0]
  exact ⟨rfl, hr01⟩
theorem combS {t : Nat} {V : St} {wC : St → (Int32 → St → Prop) → Prop} {wM : St → (St → Prop) → Prop} (hI : InvV t V) (hb : ∀ a : AA, a.1 ≤ t → GWa (a.1 + 1) a → BothS a wC wM) {KC : Int32 → St → Prop} (hK : ∀ (c : Int32) (V2 : St), (∀ KM : St → Prop, (∀ (V3 : St), InvV (t + 500) V3 → V3 60 0 = c → KM V3) → wM V2 KM) → KC c V2) : wC V KC := by
  obtain ⟨a, ha, hw, hRC, hRM⟩ := hI
  obtain ⟨a', c, ht, hw', hC, hM⟩ := hb a ha hw
  refine hC V KC hRC (fun V2 hRC2 hFL => hK c V2 (fun KM hKM => ?_))
  have hRM2 : RMa a V2 := RM.fr hRM hw.1 (fun j i h1 h2 _ => by rw [hFL j h1 h2])
  exact hM V2 KM hRM2 (fun V3 hRM3 hFM h60 => hKM V3 ⟨a', by omega, hw', RC.fr hRC2 (fun j hj => hFM j (by omega)), hRM3⟩ h60)
theorem lg_self (x : Int64) : lg_cmp x x = 0 := by
  unfold lg_cmp
  rw [if_neg (by show ¬ x < x; exact Int64.lt_irrefl), if_pos rfl]
theorem law_fin {c r : Int32} {V3 : St} {R : St → Prop} (h60 : V3 60 0 = c) (h93 : c = 0 → V3 93 0 = r) (hR : R V3) : wp_X5_thrown V3 (fun (r4 : Int32) (V5 : St) => if r4 = c then (if c = 0 then (vp_in (0 : Int32) 1 ∧ if (lg_cmp (V5 93 (0 : Int32).toNatClampNeg).toInt64 r.toInt64) = 0 then (R V5) else False) else (R V5)) else False) := by
  unfold wp_X5_thrown
  rw [h60]
  dsimp only
  rw [if_pos rfl]
  by_cases h0 : c = 0
  · rw [if_pos h0]
    refine ⟨vp00, ?_⟩
    rw [show V3 93 (0 : Int32).toNatClampNeg = r from h93 h0, lg_self, if_pos rfl]
    exact hR
  · rw [if_neg h0]
    exact hR
theorem law_math {L : Nat} (hL : L ≤ 4096) (xs : Nat → Int32) : ∃ n, n ≤ 100000 ∧ lp (fun _ _ => False) (h_L_law_23 L xs) n V0 0 := by
  refine ⟨L / 8 + 1, by omega, lp_up (fun i (r : St → Int32 → Prop) => ∀ V, InvV (500 * i) V → r V (nI (8 * i))) (L / 8) ?_ ?_ (L / 8) 0 (by omega) V0 inv0⟩
  · intro r V _
    unfold h_L_law_23
    rw [if_pos]
    · trivial
    · by_cases h8 : 8 ≤ L
      · rw [show nI L - 8 = nI (L - 8) from pk_sub (b := 8) h8]
        exact nI_lt (by omega) (by omega)
      · have : nI L - nI 8 < 0 := pk_sneg (by omega) (by omega)
        exact Int32.lt_of_lt_of_le this (nI_pos' (by omega))
  · intro i hi r hr V hI
    have ht : 500 * i ≤ 256000 := by omega
    have hrec : ∀ V', InvV (500 * i + 500) V' → r V' (nI (8 * i) + 8) := by
      intro V' h
      rw [show nI (8 * i) + 8 = nI (8 * (i + 1)) from nI_add (8 * i) 8]
      exact hr V' h
    have hv : ∀ j, j < 8 → vp_in (nI (8 * i) + nI j) L := by
      intro j hj
      rw [nI_add]
      exact vp_in_nI (by omega) (by omega)
    have hv0 : vp_in (nI (8 * i)) L := vp_in_nI (by omega) (by omega)
    have hv1 : vp_in (nI (8 * i) + 1) L := hv 1 (by omega)
    have hv2 : vp_in (nI (8 * i) + 2) L := hv 2 (by omega)
    have hv3 : vp_in (nI (8 * i) + 3) L := hv 3 (by omega)
    have hv4 : vp_in (nI (8 * i) + 4) L := hv 4 (by omega)
    have hv5 : vp_in (nI (8 * i) + 5) L := hv 5 (by omega)
    have hv6 : vp_in (nI (8 * i) + 6) L := hv 6 (by omega)
    have hv7 : vp_in (nI (8 * i) + 7) L := hv 7 (by omega)
    unfold h_L_law_23
    rw [if_neg (by
      rw [show nI L - 8 = nI (L - 8) from pk_sub (b := 8) (by omega)]
      exact nI_nlt (by omega) (by omega))]
    refine ⟨hv0, ?_⟩
    generalize (xs (nI (8 * i)).toNatClampNeg) &&& (15 : Int32) = op
    by_cases c0 : op = 0
    · rw [if_pos c0]
      refine ⟨hv1, hv2, hv3, hv4, hv5, hv6, hv7, ?_⟩
      refine combS hI (fun a ha hw => source_both hw _ _ _ _ _ _ _) (fun c V2 hM => ?_)
      refine ⟨hv1, hv2, hv3, hv4, hv5, hv6, hv7, hM _ (fun V3 hI3 h60 => ?_)⟩
      unfold wp_X5_thrown
      rw [h60]
      dsimp only
      rw [if_pos rfl]
      exact hrec V3 hI3
    rw [if_neg c0]
    by_cases c1 : op = 1
    · rw [if_pos c1]
      refine ⟨hv1, hv2, hv3, hv4, ?_⟩
      refine combB hI (fun a ha hw => base_both hw _ _ _ _) (fun c V2 hM => ?_)
      refine ⟨hv1, hv2, hv3, hv4, hM _ (fun r8 V3 hI3 h60 h93 => ?_)⟩
      unfold wp_X5_thrown
      rw [h60]
      dsimp only
      rw [if_pos rfl]
      by_cases h0 : c = 0
      · rw [if_pos h0]
        refine ⟨vp00, ?_⟩
        obtain ⟨e, e01⟩ := h93 h0
        rw [show V3 93 (0 : Int32).toNatClampNeg = r8 from e]
        rcases e01 with e1 | e1
        · rw [if_pos e1, e1, lg_self, if_pos rfl]
          exact hrec V3 hI3
        · rw [if_neg (by rw [e1]; decide), e1, lg_self, if_pos rfl]
          exact hrec V3 hI3
      · rw [if_neg h0]
        exact hrec V3 hI3
    rw [if_neg c1]
    by_cases c2 : op = 2
    · rw [if_pos c2]
      refine ⟨hv1, ?_⟩
      refine comb hI (fun a ha hw => event_both hw _) (fun c V2 hM => ?_)
      exact ⟨hv1, hM _ (fun r8 V3 hI3 h60 h93 => law_fin (R := fun V => r V (nI (8 * i) + 8)) h60 h93 (hrec V3 hI3))⟩
    rw [if_neg c2]
    by_cases c3 : op = 3
    · rw [if_pos c3]
      obtain ⟨a, ha, hw, hRC, hRM⟩ := hI
      obtain ⟨a', c, e1, hc, hw1, hC1, hM1⟩ := tick_a (a := a) (by omega) hw
      refine hC1 V _ hRC (fun V2 hRC2 hF2 => ?_)
      unfold wp_X5_tick
      rintro V1 rfl
      have hRM2 : RMa a V2 := RM.fr hRM hw.1 (fun j i h1 h2 _ => by rw [hF2 j h1])
      refine hM1 _ _ (hRM2.thr hw) (fun V3 hRM3 hF3 => ?_)
      dsimp only
      rw [if_pos rfl]
      refine hrec V3 ⟨a', by omega, hw1, RC.fr hRC2 (fun j hj => ?_), hRM3⟩
      rw [hF3.fm j (by omega), up2_n (by omega)]
    rw [if_neg c3]
    by_cases c4 : op = 4
    · rw [if_pos c4]
      refine ⟨hv1, ?_⟩
      refine comb hI (fun a ha hw => ticks_both (by omega) hw _) (fun c V2 hM => ?_)
      exact ⟨hv1, hM _ (fun r8 V3 hI3 h60 h93 => law_fin (R := fun V => r V (nI (8 * i) + 8)) h60 h93 (hrec V3 hI3))⟩
    rw [if_neg c4]
    by_cases c5 : op = 5
    · rw [if_pos c5]
      refine ⟨hv1, hv2, ?_⟩
      refine comb hI (fun a ha hw => about_both hw _ _) (fun c V2 hM => ?_)
      exact ⟨hv1, hv2, hM _ (fun r8 V3 hI3 h60 h93 => law_fin (R := fun V => r V (nI (8 * i) + 8)) h60 h93 (hrec V3 hI3))⟩
    rw [if_neg c5]
    by_cases c6 : op = 6
    · rw [if_pos c6]
      refine ⟨hv1, hv2, ?_⟩
      refine comb hI (fun a ha hw => task_both hw _ _) (fun c V2 hM => ?_)
      exact ⟨hv1, hv2, hM _ (fun r8 V3 hI3 h60 h93 => law_fin (R := fun V => r V (nI (8 * i) + 8)) h60 h93 (hrec V3 hI3))⟩
    rw [if_neg c6]
    by_cases c7 : op = 7
    · rw [if_pos c7]
      refine ⟨hv1, ?_⟩
      refine comb hI (fun a ha hw => bound_both hw _) (fun c V2 hM => ?_)
      exact ⟨hv1, hM _ (fun r8 V3 hI3 h60 h93 => law_fin (R := fun V => r V (nI (8 * i) + 8)) h60 h93 (hrec V3 hI3))⟩
    rw [if_neg c7]
    by_cases c8 : op = 8
    · rw [if_pos c8]
      refine ⟨hv1, hv2, ?_⟩
      by_cases e2 : xs (nI (8 * i) + 2).toNatClampNeg = 0
      · rw [if_pos e2]
        refine ⟨hv3, hv4, ?_⟩
        refine comb hI (fun a ha hw => used_both (by omega) hw _ _ _ _) (fun c V2 hM => ?_)
        refine ⟨hv1, hv2, ?_⟩
        rw [if_pos e2]
        exact ⟨hv3, hv4, hM _ (fun r8 V3 hI3 h60 h93 => law_fin (R := fun V => r V (nI (8 * i) + 8)) h60 h93 (hrec V3 hI3))⟩
      · rw [if_neg e2]
        refine ⟨hv3, hv4, ?_⟩
        refine comb hI (fun a ha hw => used_both (by omega) hw _ _ _ _) (fun c V2 hM => ?_)
        refine ⟨hv1, hv2, ?_⟩
        rw [if_neg e2]
        exact ⟨hv3, hv4, hM _ (fun r8 V3 hI3 h60 h93 => law_fin (R := fun V => r V (nI (8 * i) + 8)) h60 h93 (hrec V3 hI3))⟩
    rw [if_neg c8]
    by_cases c9 : op = 9
    · rw [if_pos c9]
      refine ⟨hv1, ?_⟩
      refine comb hI (fun a ha hw => floor_both hw _) (fun c V2 hM => ?_)
      exact ⟨hv1, hM _ (fun r8 V3 hI3 h60 h93 => law_fin (R := fun V => r V (nI (8 * i) + 8)) h60 h93 (hrec V3 hI3))⟩
    rw [if_neg c9]
    by_cases c10 : op = 10
    · rw [if_pos c10]
      obtain ⟨a, ha, hw, hRC, hRM⟩ := hI
      obtain ⟨r0, hC, hM⟩ := time_both hw
      refine hC V _ hRC (hM V _ hRM (fun V3 hRM3 hF3 => ?_))
      rw [if_pos rfl]
      exact hrec V3 ⟨a, by omega, hw, RC.fr hRC (fun j hj => hF3 j (by omega)), hRM3⟩
    rw [if_neg c10]
    obtain ⟨a, ha, hw, hRC, hRM⟩ := hI
    exact hrec V ⟨a, by omega, hw, hRC, hRM⟩
