def M0 (a : Nat → Int32) (V : St) (k : Nat) : Prop := ∀ i, 3 ≤ i → i ≤ 16 → V (mm i) k = a i
theorem M0.set {a : Nat → Int32} {V : St} {k : Nat} (h : M0 a V k) (c : Nat) (h3 : 3 ≤ c) (h16 : c ≤ 16) {v v' : Int32} (e : v = v') : M0 (upd a c v') (up2 V (mm c) k v) k := by
  subst e
  intro i x y
  have hh := h i x y
  rw [up2_at, upd_at]
  by_cases e : i = c
  · rw [if_pos ⟨by rw [e], rfl⟩, if_pos e]
  · rw [if_neg (fun y2 => e (mm_inj i (by omega) c (by omega) x h3 y2.1)), if_neg e]
    exact hh
theorem M0.fr {a : Nat → Int32} {V V' : St} {k : Nat} (h : M0 a V k) (e : ∀ j, j ≠ 68 → j ≠ 69 → j ≠ 71 → j ≠ 72 → j ≠ 73 → j ≠ 74 → j ≠ 75 → 61 ≤ j → j ≤ 81 → V' j k = V j k) : M0 a V' k := by
  intro i x y
  have := mm_rng i (by omega) x
  rw [e _ (by omega) (by omega) (by omega) (by omega) (by omega) (by omega) (by omega) (by omega) (by omega)]
  exact h i x y
theorem M0.cong {a a' : Nat → Int32} {V : St} {k : Nat} (h : M0 a V k) (e : ∀ i, i ≤ 16 → a i = a' i) : M0 a' V k := fun i x y => (h i x y).trans (e i y)
theorem m_take1 {x : SA} {V : St} {k t : Nat} {s0 : Int32} {K : Int32 → St → Prop} (h : MSr x V k) (hk : k < 6) (hz : x.2.1 < 32) (hu : x.2.2.1 ≤ 30) (ht : V 60 1 = nI t) (hs : s0 = if x.2.1 = 0 then nI t else x.1 0 17) (hK : ∀ V', MSr (tkA t x) V' k → FK k V V' → b_X5_event_154 K (nI k) V') : b_X5_event_85 K (nI k) V s0 (nI k) := by
  have hv : vp_in (nI k) 6 := vp_in_nI hk (by omega)
  obtain ⟨h1, h2, h3, h4, h5, h6, h7, h8⟩ := h
  unfold b_X5_event_85
  rw [nI_clamp (by omega)]
  refine ⟨hv, ?_⟩
  rintro V1 rfl
  rw [show up2 V 71 k s0 68 k = nI x.2.1 by rw [up2_n (by omega)]; exact h3, show up2 V 71 k s0 60 1 = nI t by rw [up2_n (by omega)]; exact ht, ix32, nI_clamp (by omega)]
  refine ⟨hv, vp_in_nI (by omega) (by omega), ?_⟩
  rintro V2 rfl
  rw [show up2 (up2 V 71 k s0) 69 (32 * k + x.2.1) (nI t) 68 k = nI x.2.1 by rw [up2_n (by omega), up2_n (by omega)]; exact h3, nI_1]
  refine ⟨hv, hv, ?_⟩
  rintro V3 rfl
  refine ⟨hv, hv, ?_⟩
  have e78 : up2 (up2 (up2 V 71 k s0) 69 (32 * k + x.2.1) (nI t)) 68 k (nI (x.2.1 + 1)) 78 k = x.1 0 11 := by
    rw [up2_n (by omega), up2_n (by omega), up2_n (by omega)]; exact h1 11 (by omega) (by omega)
  rw [e78]
  rintro V4 rfl
  have hM : M0 (x.1 0) V k := h1
  have hM4 : M0 (upd (x.1 0) 11 (x.1 0 11 + 1)) (up2 (up2 (up2 (up2 V 71 k s0) 69 (32 * k + x.2.1) (nI t)) 68 k (nI (x.2.1 + 1))) 78 k (x.1 0 11 + 1)) k :=
    M0.set (M0.fr hM (fun j _ _ _ _ _ _ _ _ _ => by rw [up2_n (by omega), up2_n (by omega), up2_n (by omega)])) 11 (by omega) (by omega) rfl
  rw [show up2 (up2 (up2 (up2 V 71 k s0) 69 (32 * k + x.2.1) (nI t)) 68 k (nI (x.2.1 + 1))) 78 k (x.1 0 11 + 1) 68 k = nI (x.2.1 + 1) by rw [up2_n (by omega), up2_ss]]
  refine ⟨hv, ?_⟩
  have hfin : ∀ (a' : Nat → Int32) (V' : St), M0 a' V' k → a' 17 = s0 → (∀ j i, (j ≠ 68 ∧ j ≠ 69 ∧ j ≠ 71) → ¬ (j = 76 ∨ j = 77 ∨ j = 78) → V' j i = V j i) → V' 71 k = s0 → V' 68 k = nI (x.2.1 + 1) → (∀ i, i < 32 → V' 69 (32 * k + i) = if i = x.2.1 then nI t else V 69 (32 * k + i)) → MSr (mkS a' (upd (x.1 1) x.2.1 (nI t)) (x.1 2) (x.1 3) (x.1 4), x.2.1 + 1, x.2.2) V' k := by
    intro a' V' hM' h17 hF e71 e68 e69
    refine ⟨hM', ?_, e68, ?_, fun i hi => ?_, fun i hi => ?_, fun i hi => ?_, fun i hi => ?_⟩
    · rw [e71, if_neg (Nat.succ_ne_zero _)]
      exact h17.symm
    · rw [hF _ _ (by omega) (by omega)]; exact h4
    · change i < x.2.1 + 1 at hi
      rw [e69 i (by omega)]
      show _ = upd (x.1 1) x.2.1 (nI t) i
      rw [upd_at]
      split
      · rfl
      · exact h5 i (by omega)
    · rw [hF _ _ (by omega) (by omega)]; exact h6 i hi
    · rw [hF _ _ (by omega) (by omega)]; exact h7 i hi
    · rw [hF _ _ (by omega) (by omega)]; exact h8 i hi
  have h17 : (tkR t (x.1 0) x.2.1) 17 = s0 := by
    rw [hs]
    unfold tkR
    rw [pk_un (by omega)]
    by_cases e : x.2.1 = 0
    · rw [if_pos e, if_pos e, pk_us]
    · rw [if_neg e, if_neg e]
  have hcg : ∀ i, i ≤ 16 → upd (x.1 0) 11 (x.1 0 11 + 1) i = tkR t (x.1 0) x.2.1 i := by
    intro i hi
    unfold tkR
    rw [upd_at, upd_at]
    split
    · rfl
    · split
      · rw [pk_un (by omega)]
      · rfl
  by_cases hle : x.2.1 + 1 ≤ 24
  · rw [if_pos (kle hle)]
    refine hK _ ?_ ?_
    · unfold tkA
      rw [if_pos hle]
      refine hfin _ _ (hM4.cong hcg) h17 (fun j i q q2 => ?_) ?_ ?_ (fun i hi => ?_)
      · rw [up2_n (by omega), up2_n (by omega), up2_n (by omega), up2_n (by omega)]
      · rw [up2_n (by omega), up2_n (by omega), up2_n (by omega), up2_ss]
      · rw [up2_n (by omega), up2_ss]
      · rw [up2_n (by omega), up2_n (by omega), up2_at]
        by_cases e : i = x.2.1
        · rw [if_pos ⟨rfl, by omega⟩, if_pos e]
        · rw [if_neg (by omega), if_neg e, up2_n (by omega)]
    · exact (((FK.up _ (by unfold own; omega)).trans (FK.up _ (by unfold own; omega))).trans (FK.up _ (by unfold own; omega))).trans (FK.up _ (by unfold own; omega))
  · rw [if_neg (knle (c := 24) (by omega) (by omega))]
    refine ⟨hv, Or.inr rfl, ?_⟩
    rintro V5 rfl
    refine ⟨hv, hv, ?_⟩
    have hM5 := M0.set hM4 10 (by omega) (by omega) (rfl : (1 : Int32) = 1)
    rw [show up2 (up2 (up2 (up2 (up2 V 71 k s0) 69 (32 * k + x.2.1) (nI t)) 68 k (nI (x.2.1 + 1))) 78 k (x.1 0 11 + 1)) 76 k 1 77 k = x.1 0 14 by
      refine (hM5 14 (by omega) (by omega)).trans ?_
      rw [pk_un (by omega), pk_un (by omega)]]
    rintro V6 rfl
    have hM6 := M0.set hM5 14 (by omega) (by omega) (rfl : x.1 0 14 + 1 = x.1 0 14 + 1)
    refine hK _ ?_ ?_
    · unfold tkA
      rw [if_neg hle]
      refine hfin _ _ (hM6.cong (fun i hi => ?_)) ?_ (fun j i q q2 => ?_) ?_ ?_ (fun i hi => ?_)
      · have := hcg i hi
        rw [upd_at (upd (tkR t (x.1 0) x.2.1) 10 1), upd_at (tkR t (x.1 0) x.2.1), ← this]
        rfl
      · rw [pk_un (by omega), pk_un (by omega)]; exact h17
      · rw [up2_n (by omega), up2_n (by omega), up2_n (by omega), up2_n (by omega), up2_n (by omega), up2_n (by omega)]
      · rw [up2_n (by omega), up2_n (by omega), up2_n (by omega), up2_n (by omega), up2_n (by omega), up2_ss]
      · rw [up2_n (by omega), up2_n (by omega), up2_n (by omega), up2_ss]
      · rw [up2_n (by omega), up2_n (by omega), up2_n (by omega), up2_n (by omega), up2_at]
        by_cases e : i = x.2.1
        · rw [if_pos ⟨rfl, by omega⟩, if_pos e]
        · rw [if_neg (by omega), if_neg e, up2_n (by omega)]
    · exact (((((FK.up _ (by unfold own; omega)).trans (FK.up _ (by unfold own; omega))).trans (FK.up _ (by unfold own; omega))).trans (FK.up _ (by unfold own; omega))).trans (FK.up _ (by unfold own; omega))).trans (FK.up _ (by unfold own; omega))
theorem m_fin {a q l T M : Nat → Int32} {z' u p k : Nat} {V : St} {t : Nat} {s0 : Int32} {K : St → Prop} (h : MSr (mkS a q l T M, z' + 1, u, p) V k) (hk : k < 6) (hz : z' < 32) (hs : s0 = if a 15 < nI t + 1 - q 0 then nI t + 1 - q 0 else a 15) (h10 : a 10 = 0 ∨ a 10 = 1) (h16 : a 16 = 0) (hK : ∀ a' V', (∀ i, i ≤ 17 → a' i = if i = 10 then (if 8 < z' then a 10 else 0) else if i = 12 then a 12 + 1 else if i = 15 then s0 else a i) → MSr (mkS a' (fun i => q (i + 1)) l T M, z', u, p) V' k → FK k V V' → K V') : b_X5_runHandler_198 K (nI k) V s0 (nI k) := by
  have hv : vp_in (nI k) 6 := vp_in_nI hk (by omega)
  obtain ⟨h1, h2, h3, h4, h5, h6, h7, h8⟩ := h
  change V 68 k = nI (z' + 1) at h3
  change ∀ i, i < z' + 1 → V 69 (32 * k + i) = q i at h5
  have hM : M0 a V k := h1
  unfold b_X5_runHandler_198
  rw [nI_clamp (by omega)]
  refine ⟨hv, ?_⟩
  rintro V1 rfl
  refine ⟨hv, hv, ?_⟩
  rw [show up2 V 81 k s0 68 k = nI (z' + 1) by rw [up2_n (by omega)]; exact h3, nI_pred]
  rintro V2 rfl x3 rfl
  rw [ix32m]
  refine ⟨z' + 1, lp_up (fun i (r : St → Int32 → Prop) => ∀ V' : St, (∀ j, j < z' + 1 → V' 69 (32 * k + j) = if j < i then q (j + 1) else q j) → (∀ j c, ¬ (j = 69 ∧ 32 * k ≤ c ∧ c < 32 * k + 32) → V' j c = up2 (up2 V 81 k s0) 68 k (nI z') j c) → r V' (nI (32 * k + i))) z' ?_ ?_ z' 0 (by omega) _ (fun j hj => ?_) (fun _ _ _ => rfl)⟩
  · intro r V' e69 hF
    have e68 : V' 68 k = nI z' := by rw [hF _ _ (by omega), up2_ss]
    unfold h_X5_runHandler_215
    rw [nI_clamp (by omega), e68, ix32, if_pos (nI_le (Nat.le_refl _) (by omega))]
    refine ⟨hv, hv, hv, ?_⟩
    have hM1 : M0 (upd a 15 s0) (up2 V 81 k s0) k := M0.set hM 15 (by omega) (by omega) rfl
    have hM2 : M0 (upd a 15 s0) V' k := M0.fr hM1 (fun j _ _ _ _ _ _ _ _ _ => by rw [hF _ _ (by omega), up2_n (by omega)])
    rw [show V' 79 k = a 12 from (hM2 12 (by omega) (by omega)).trans (pk_un (by omega))]
    rintro V1 rfl
    have hM3 : M0 (upd (upd a 15 s0) 12 (a 12 + 1)) (up2 V' 79 k (a 12 + 1)) k := M0.set hM2 12 (by omega) (by omega) rfl
    have e76 : up2 V' 79 k (a 12 + 1) 76 k = a 10 := by
      refine (hM3 10 (by omega) (by omega)).trans ?_
      rw [pk_un (by omega), pk_un (by omega)]
    have e68' : up2 V' 79 k (a 12 + 1) 68 k = nI z' := by rw [up2_n (by omega)]; exact e68
    have hfin : ∀ y : Int32, y = (if 8 < z' then a 10 else 0) → (y = 0 ∨ y = 1) → b_X5_runHandler_293 K (nI k) (up2 V' 79 k (a 12 + 1)) y (nI k) := by
      intro y ey hy
      unfold b_X5_runHandler_293
      rw [nI_clamp (by omega)]
      refine ⟨hv, hy, ?_⟩
      rintro V4 rfl
      refine ⟨hv, ?_⟩
      rw [show up2 (up2 V' 79 k (a 12 + 1)) 76 k y 68 k = nI z' by rw [up2_n (by omega)]; exact e68']
      have hM4 := M0.set hM3 10 (by omega) (by omega) (rfl : y = y)
      have hend : ∀ w, w = (if z' = 0 then (-1 : Int32) else a 17) → K (up2 (up2 (up2 V' 79 k (a 12 + 1)) 76 k y) 71 k w) := by
        intro w hw
        refine hK (upd (upd (upd a 15 s0) 12 (a 12 + 1)) 10 y) _ (fun i hi => ?_) ⟨?_, ?_, ?_, ?_, fun i hi => ?_, fun i hi => ?_, fun i hi => ?_, fun i hi => ?_⟩ ?_
        · rw [upd_at, upd_at, upd_at, ← ey]
        · exact M0.fr hM4 (fun j _ _ _ _ _ _ _ _ _ => by rw [up2_n (by omega)]; rfl)
        · rw [up2_ss, hw]
          show _ = if z' = 0 then (-1 : Int32) else upd (upd (upd a 15 s0) 12 (a 12 + 1)) 10 y 17
          rw [pk_un (by omega), pk_un (by omega), pk_un (by omega)]
        · rw [up2_n (by omega), up2_n (by omega)]; exact e68'
        · rw [up2_n (by omega), up2_n (by omega), up2_n (by omega), hF _ _ (by omega), up2_n (by omega), up2_n (by omega)]; exact h4
        · change i < z' at hi
          rw [up2_n (by omega), up2_n (by omega), up2_n (by omega), e69 i (by omega), if_pos hi]
          rfl
        · rw [up2_n (by omega), up2_n (by omega), up2_n (by omega), hF _ _ (by omega), up2_n (by omega), up2_n (by omega)]; exact h6 i hi
        · rw [up2_n (by omega), up2_n (by omega), up2_n (by omega), hF _ _ (by omega), up2_n (by omega), up2_n (by omega)]; exact h7 i hi
        · rw [up2_n (by omega), up2_n (by omega), up2_n (by omega), hF _ _ (by omega), up2_n (by omega), up2_n (by omega)]; exact h8 i hi
        · intro j c ho
          have hn : ¬ (j = 69 ∧ 32 * k ≤ c ∧ c < 32 * k + 32) := fun q => ho (by unfold own; omega)
          have := (((FK.up (k := k) V' (j := 79) (i := k) (x := a 12 + 1) (by unfold own; omega)).trans (FK.up _ (j := 76) (i := k) (x := y) (by unfold own; omega))).trans (FK.up _ (j := 71) (i := k) (x := w) (by unfold own; omega))) j c ho
          rw [this, hF j c hn]
          exact ((FK.up (k := k) V (j := 81) (i := k) (x := s0) (by unfold own; omega)).trans (FK.up _ (j := 68) (i := k) (x := nI z') (by unfold own; omega))) j c ho
      by_cases e : z' = 0
      · rw [e, if_pos nI_0]
        refine ⟨hv, ?_⟩
        rintro V5 rfl
        exact hend _ (by rw [if_pos e])
      · rw [if_neg (nI_ne0 (by omega) (by omega))]
        refine ⟨hv, hv, ?_⟩
        rintro V5 rfl
        refine hend _ ?_
        rw [if_neg e, up2_n (by omega), up2_n (by omega), hF _ _ (by omega), up2_n (by omega), up2_n (by omega), h2]
        exact if_neg (Nat.succ_ne_zero _)
    refine ⟨hv, ?_⟩
    rw [e76, e68']
    by_cases e0 : a 10 = 0
    · rw [if_pos e0]
      exact hfin 0 (by rw [e0]; split <;> rfl) (Or.inl rfl)
    · rw [if_neg e0]
      have e1 : a 10 = 1 := h10.resolve_left e0
      refine ⟨hv, ?_⟩
      by_cases h8 : 8 < z'
      · rw [if_neg (knle (c := 8) h8 (by omega))]
        exact hfin 1 (by rw [if_pos h8, e1]) (Or.inr rfl)
      · rw [if_pos (kle (c := 8) (by omega))]
        exact hfin 0 (by rw [if_neg h8]) (Or.inl rfl)
  · intro i hi r hr V' e69 hF
    have e68 : V' 68 k = nI z' := by rw [hF _ _ (by omega), up2_ss]
    unfold h_X5_runHandler_215
    rw [nI_clamp (by omega), e68, ix32, if_neg (nI_ge (by omega) (by omega)), nI_1, nI_clamp (by omega), nI_clamp (by omega)]
    refine ⟨hv, vp_in_nI (by omega) (by omega), vp_in_nI (by omega) (by omega), ?_⟩
    rintro V2 rfl
    refine hr _ (fun j hj => ?_) (fun j c hn => ?_)
    · rw [up2_at]
      by_cases e : j = i
      · subst e
        rw [if_pos ⟨rfl, rfl⟩, if_pos (by omega), show 32 * k + j + 1 = 32 * k + (j + 1) from rfl, e69 (j + 1) (by omega), if_neg (by omega)]
      · rw [if_neg (by omega), e69 j hj]
        by_cases e2 : j < i
        · rw [if_pos e2, if_pos (by omega)]
        · rw [if_neg e2, if_neg (by omega)]
    · rw [up2_at, if_neg (by omega)]
      exact hF j c hn
  · rw [if_neg (Nat.not_lt_zero j), up2_n (by omega), up2_n (by omega)]
    exact h5 j hj
