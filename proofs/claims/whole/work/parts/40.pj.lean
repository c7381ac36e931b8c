theorem SWmk {lo t : Nat} {x y : SA} (h : SW lo t x) (h3 : x.1 0 3 = 1) (e : ∀ i, i ≠ 10 → i ≠ 12 → i ≠ 15 → i ≠ 16 → y.1 0 i = x.1 0 i) (hz : y.2.1 ≤ 32) (hp : y.2.2.2 ≤ 16) (h10 : y.1 0 10 = 0 ∨ y.1 0 10 = 1) (h16 : ∀ co fd, x.1 0 5 = nI co → 1 ≤ co → co ≤ 30 → fd < co → x.1 0 16 = nI fd → ∃ fd, fd < co ∧ y.1 0 16 = nI fd) (hs : y.2.2.1 + sN (y.1 4) y.2.2.2 = x.2.2.1 + sN (x.1 4) x.2.2.2) (h7 : ∀ i, i < y.2.2.2 → ∃ q m : Nat, y.1 3 i = nI q ∧ lo ≤ q ∧ q ≤ t + 500 ∧ y.1 4 i = nI m ∧ 1 ≤ m ∧ m ≤ 30) (h8 : ∀ i, i < y.2.2.1 → ∃ v : Nat, v ≤ t ∧ y.1 2 i = nI v) : SW lo t y := by
  obtain ⟨a1, a2, a3, a4, a5, a6, a7, a8, a9⟩ := h
  obtain ⟨tp, co, di, bu, pe, pr, fd, g1, g2, g3, g4, g5, g6, g7, g8, g9, g10, g11, g12, g13, g14, g15, g16, g17, g18, g19⟩ := a6 h3
  refine ⟨hz, hp, ?_, h10, fun q => ?_, fun q => ?_, h7, h8, ?_⟩
  · rw [e 3 (by omega) (by omega) (by omega) (by omega)]; exact a3
  · rw [e 3 (by omega) (by omega) (by omega) (by omega), h3] at q; exact absurd q (by decide)
  · obtain ⟨fd', f1, f2⟩ := h16 co fd g13 g2 g3 g11 g18
    rw [e 4 (by omega) (by omega) (by omega) (by omega), e 5 (by omega) (by omega) (by omega) (by omega), e 6 (by omega) (by omega) (by omega) (by omega), e 7 (by omega) (by omega) (by omega) (by omega), e 8 (by omega) (by omega) (by omega) (by omega), e 9 (by omega) (by omega) (by omega) (by omega)]
    exact ⟨tp, co, di, bu, pe, pr, fd', g1, g2, g3, g4, g5, g6, g7, g8, g9, g10, f1, g12, g13, g14, g15, g16, g17, f2, by omega⟩
  · rw [e 17 (by omega) (by omega) (by omega) (by omega)]; exact a9
theorem sN_s (f : Nat → Int32) (n : Nat) : sN f (n + 1) = sN f n + (f n).toNatClampNeg := rfl
theorem hA_row {t : Int32} {x : SA} (i : Nat) (h10 : i ≠ 10) (h12 : i ≠ 12) (h15 : i ≠ 15) (h16 : i ≠ 16) : (hA t x).1 0 i = x.1 0 i := by
  unfold hA
  split
  · exact (show upd (x.1 0) 16 (x.1 0 16 + 1) i = x.1 0 i from pk_un h16)
  · have : fnR t (fdA (spA t x)) i = x.1 0 i := by
      unfold fnR
      rw [pk_un h12, pk_un h16, pk_un h15]
      exact (show upd (x.1 0) 16 (x.1 0 16 + 1) i = x.1 0 i from pk_un h16)
    show (if 8 < (fdA (spA t x)).2.1 - 1 then fnR t (fdA (spA t x)) else upd (fnR t (fdA (spA t x))) 10 0) i = x.1 0 i
    split
    · exact this
    · rw [pk_un h10]; exact this
theorem SW.handler {t : Nat} {x : SA} (htt : t < 2 ^ 30) (h : SW (t + 1) t x) (h3 : x.1 0 3 = 1) (hz : 0 < x.2.1) (hu : 0 < x.2.2.1) : SW (t + 1) t (hA (nI t) x) := by
  have h' := h
  obtain ⟨a1, a2, a3, a4, a5, a6, a7, a8, a9⟩ := h'
  obtain ⟨tp, co, di, bu, pe, pr, fd, g1, g2, g3, g4, g5, g6, g7, g8, g9, g10, g11, g12, g13, g14, g15, g16, g17, g18, g19⟩ := a6 h3
  obtain ⟨v0, b0, c0⟩ := a8 0 hu
  obtain ⟨v1, b1, c1⟩ := a9
  have hsn : ∃ sn, snA (nI t) x = nI sn ∧ sn ≤ t ∧ t < sn + pe := by
    unfold snA
    rw [c0, c1, g16]
    have hrd : (if nI v0 < nI v1 then nI v1 else nI v0) = nI (if v0 < v1 then v1 else v0) := by
      by_cases e : v0 < v1
      · rw [if_pos (nI_lt e (by omega)), if_pos e]
      · rw [if_neg (nI_nlt (by omega) (by omega)), if_neg e]
    rw [hrd]
    have hle : (if v0 < v1 then v1 else v0) ≤ t := by split <;> omega
    generalize (if v0 < v1 then v1 else v0) = rd at hle
    rw [pk_sub hle]
    by_cases e : t - rd < pe
    · rw [if_pos (nI_lt e (by omega))]
      exact ⟨rd, rfl, hle, by omega⟩
    · rw [if_neg (nI_nlt (by omega) (by omega))]
      exact ⟨t, rfl, Nat.le_refl t, by omega⟩
  obtain ⟨sn, e1, e2, e3⟩ := hsn
  have ew : snA (nI t) x + x.1 0 8 = nI (sn + pe) := by rw [e1, g16, nI_add]
  have hm29 : ∀ i, i < x.2.2.2 → ∀ m : Nat, x.1 4 i = nI m → m ≤ 30 → m + 1 ≤ 30 := by
    intro i hi m em hm
    have k1 := sN_mono (x.1 4) (i := i + 1) (p := x.2.2.2) (by omega)
    rw [sN_s, em, nI_clamp (by omega)] at k1
    omega
  -- the pieces
  have hpc : adP (x.1 3) x.2.2.2 (nI (sn + pe)) ≤ 16 ∧ sN (adM (x.1 3) (x.1 4) x.2.2.2 (nI (sn + pe))) (adP (x.1 3) x.2.2.2 (nI (sn + pe))) = sN (x.1 4) x.2.2.2 + 1 ∧ ∀ i, i < adP (x.1 3) x.2.2.2 (nI (sn + pe)) → ∃ q m : Nat, adT (x.1 3) x.2.2.2 (nI (sn + pe)) i = nI q ∧ t + 1 ≤ q ∧ q ≤ t + 500 ∧ adM (x.1 3) (x.1 4) x.2.2.2 (nI (sn + pe)) i = nI m ∧ 1 ≤ m ∧ m ≤ 30 := by
    by_cases hc : 0 < x.2.2.2 ∧ (x.1 3 (x.2.2.2 - 1) = nI (sn + pe) ∨ x.2.2.2 = 16)
    · rw [adP, adM, adT, if_pos hc, if_pos hc, if_pos hc]
      obtain ⟨p', ep⟩ : ∃ p', x.2.2.2 = p' + 1 := ⟨x.2.2.2 - 1, by omega⟩
      obtain ⟨q, m, d1, d2, d3, d4, d5, d6⟩ := a7 p' (by omega)
      have hm1 := hm29 p' (by omega) m d4 d6
      rw [ep, show p' + 1 - 1 = p' from rfl]
      refine ⟨by omega, ?_, ?_⟩
      · rw [sN_s, sN_s, sN_out _ _ _ _ (Nat.le_refl _), pk_us, d4, nI_1, nI_clamp (by omega), nI_clamp (by omega)]
        omega
      · intro i hi
        rw [upd_at, upd_at]
        by_cases ei : i = p'
        · rw [if_pos ei, if_pos ei, d1, d4, nI_1]
          by_cases e : q < sn + pe
          · rw [if_pos (nI_lt e (by omega))]
            exact ⟨sn + pe, m + 1, rfl, by omega, by omega, rfl, by omega, hm1⟩
          · rw [if_neg (nI_nlt (by omega) (by omega))]
            exact ⟨q, m + 1, rfl, d2, d3, rfl, by omega, hm1⟩
        · rw [if_neg ei, if_neg ei]
          exact a7 i (by omega)
    · rw [adP, adM, adT, if_neg hc, if_neg hc, if_neg hc]
      refine ⟨?_, ?_, ?_⟩
      · rcases Nat.lt_or_ge x.2.2.2 16 with q | q
        · omega
        · exact absurd ⟨by omega, Or.inr (by omega)⟩ hc
      · rw [sN_s, sN_out _ _ _ _ (Nat.le_refl _), pk_us]
        rfl
      · intro i hi
        rw [upd_at, upd_at]
        by_cases ei : i = x.2.2.2
        · rw [if_pos ei, if_pos ei]
          exact ⟨sn + pe, 1, rfl, by omega, by omega, rfl, by omega, by omega⟩
        · rw [if_neg ei, if_neg ei]
          exact a7 i (by omega)
  obtain ⟨k1, k2, k3⟩ := hpc
  rw [← ew] at k1 k2 k3
  have hrows : (hA (nI t) x).1 2 = (fun i => x.1 2 (i + 1)) ∧ (hA (nI t) x).1 3 = adT (x.1 3) x.2.2.2 (snA (nI t) x + x.1 0 8) ∧ (hA (nI t) x).1 4 = adM (x.1 3) (x.1 4) x.2.2.2 (snA (nI t) x + x.1 0 8) ∧ (hA (nI t) x).2.2 = (x.2.2.1 - 1, adP (x.1 3) x.2.2.2 (snA (nI t) x + x.1 0 8)) ∧ (hA (nI t) x).2.1 ≤ x.2.1 := by
    unfold hA
    split
    · exact ⟨rfl, rfl, rfl, rfl, Nat.le_refl _⟩
    · exact ⟨rfl, rfl, rfl, rfl, Nat.sub_le _ _⟩
  obtain ⟨r1, r2, r3, r4, r5⟩ := hrows
  refine SWmk h h3 (fun i => hA_row i) (by omega) ?_ ?_ ?_ ?_ ?_ ?_
  · rw [r4]; exact k1
  · unfold hA
    split
    · show upd (x.1 0) 16 (x.1 0 16 + 1) 10 = 0 ∨ upd (x.1 0) 16 (x.1 0 16 + 1) 10 = 1
      rw [pk_un (by omega)]; exact a4
    · show (if 8 < (fdA (spA (nI t) x)).2.1 - 1 then fnR (nI t) (fdA (spA (nI t) x)) else upd (fnR (nI t) (fdA (spA (nI t) x))) 10 0) 10 = 0 ∨ (if 8 < (fdA (spA (nI t) x)).2.1 - 1 then fnR (nI t) (fdA (spA (nI t) x)) else upd (fnR (nI t) (fdA (spA (nI t) x))) 10 0) 10 = 1
      split
      · unfold fnR
        rw [pk_un (by omega), pk_un (by omega), pk_un (by omega)]
        show upd (x.1 0) 16 (x.1 0 16 + 1) 10 = 0 ∨ upd (x.1 0) 16 (x.1 0 16 + 1) 10 = 1
        rw [pk_un (by omega)]; exact a4
      · rw [pk_us]; exact Or.inl rfl
  · intro co2 fd2 f1 f2 f3 f4 f5
    unfold hA
    by_cases hc : x.1 0 16 + 1 < x.1 0 5
    · rw [if_pos hc]
      refine ⟨fd2 + 1, ?_, ?_⟩
      · rw [f1, f5, nI_1] at hc
        exact (nI_ltI (by omega) (by omega)).mp hc
      · show upd (x.1 0) 16 (x.1 0 16 + 1) 16 = _
        rw [pk_us, f5, nI_1]
    · rw [if_neg hc]
      refine ⟨0, by omega, ?_⟩
      show (if 8 < (fdA (spA (nI t) x)).2.1 - 1 then fnR (nI t) (fdA (spA (nI t) x)) else upd (fnR (nI t) (fdA (spA (nI t) x))) 10 0) 16 = 0
      have : fnR (nI t) (fdA (spA (nI t) x)) 16 = 0 := by
        unfold fnR
        rw [pk_un (by omega), pk_us]
      split
      · exact this
      · rw [pk_un (by omega)]; exact this
  · rw [r4, r3, k2]
    show x.2.2.1 - 1 + (sN (x.1 4) x.2.2.2 + 1) = _
    omega
  · intro i hi
    rw [r4] at hi
    rw [r2, r3]
    exact k3 i hi
  · intro i hi
    rw [r4] at hi
    change i < x.2.2.1 - 1 at hi
    rw [r1]
    exact a8 (i + 1) (by omega)
/-! all together -/
theorem RC.src {t n fd : Nat} {tp tr : Nat → Int32} {S : Nat → SA} {T V V' : St} {k : Nat} {y : SA} (h : RC t n fd tp tr S T V) (hk : k < 6) (hC : CS y V' (12 + 8 * k)) (hF : F8 (12 + 8 * k) V V') : RC t n fd tp tr (uS S k y) T V' := by
  obtain ⟨h1, h2, h3, h4, h5, h6⟩ := h
  refine ⟨by rw [hF _ (by omega)]; exact h1, by rw [hF _ (by omega)]; exact h2, h3.fr (hF _ (by omega)) (hF _ (by omega)), fun q a c => by rw [hF _ (by omega)]; exact h4 q a c, fun j hj => ?_, fun j hj i hi => by rw [hF _ (by omega)]; exact h6 j hj i hi⟩
  by_cases e : j = k
  · rw [e, uS_s]; exact hC
  · rw [uS_n e]
    exact (h5 j hj).fr (fun r hr => hF _ (by omega))
theorem tpo_uS {S : Nat → SA} {k : Nat} {y : SA} (h4 : y.1 0 4 = (S k).1 0 4) (x : Int32) : tpo (uS S k y) x = tpo S x := by
  unfold tpo
  by_cases e : x.toNatClampNeg = k
  · rw [e, uS_s]; exact h4
  · rw [uS_n e]
theorem RM.src {lo t n fd : Nat} {tp tr : Nat → Int32} {S : Nat → SA} {T V V' : St} {k : Nat} {y : SA} (h : RM t n fd tp tr S T V) (hw : ∀ j, j < 6 → j ≠ k → SW lo t (S j)) (hk : k < 6) (hC : MSr y V' k) (hF : FK k V V') (h4' : y.1 0 4 = (S k).1 0 4) : RM t n fd tp tr (uS S k y) T V' := by
  obtain ⟨h1, h2, h3, h4, h5, h6, h7⟩ := h
  unfold FK own at hF
  refine ⟨by rw [hF _ _ (by omega)]; exact h1, by rw [hF _ _ (by omega)]; exact h2, fun i hi => by rw [hF _ _ (by omega)]; exact h3 i hi, fun i hi => ?_, fun q a c => by rw [hF _ _ (by omega)]; exact h5 q a c, fun j hj => ?_, fun j hj i hi => by rw [hF _ _ (by omega)]; exact h7 j hj i hi⟩
  · rw [hF _ _ (by omega), tpo_uS h4', tpo_uS h4']; exact h4 i hi
  · by_cases e : j = k
    · rw [e, uS_s]; exact hC
    · rw [uS_n e]
      refine (h6 j hj).fr (hw j hj e).1 (hw j hj e).u30 (fun a c ho => hF a c ?_)
      unfold own at ho
      omega
theorem FK.fm {k : Nat} {V V' : St} (h : FK k V V') : FM0 V V' := fun j i hj => h j i (by unfold own; omega)
theorem F8.fc {k : Nat} {V V' : St} (hk : k < 6) (h : F8 (12 + 8 * k) V V') : FC V V' := fun j hj => h j (by omega)
