def gk (t : Int32) (T M : Nat → Int32) : Nat → (Nat → Int32) × (Nat → Int32) × Nat × Nat
  | 0 => (T, M, 0, 0)
  | i + 1 => if t < (gk t T M i).1 i then (upd (gk t T M i).1 (gk t T M i).2.2.1 ((gk t T M i).1 i), upd (gk t T M i).2.1 (gk t T M i).2.2.1 ((gk t T M i).2.1 i), (gk t T M i).2.2.1 + 1, (gk t T M i).2.2.2) else ((gk t T M i).1, (gk t T M i).2.1, (gk t T M i).2.2.1, (gk t T M i).2.2.2 + ((gk t T M i).2.1 i).toNatClampNeg)
theorem gk_s (t : Int32) (T M : Nat → Int32) (i : Nat) : gk t T M (i + 1) = if t < (gk t T M i).1 i then (upd (gk t T M i).1 (gk t T M i).2.2.1 ((gk t T M i).1 i), upd (gk t T M i).2.1 (gk t T M i).2.2.1 ((gk t T M i).2.1 i), (gk t T M i).2.2.1 + 1, (gk t T M i).2.2.2) else ((gk t T M i).1, (gk t T M i).2.1, (gk t T M i).2.2.1, (gk t T M i).2.2.2 + ((gk t T M i).2.1 i).toNatClampNeg) := rfl
theorem gk_le (t : Int32) (T M : Nat → Int32) : ∀ i, (gk t T M i).2.2.1 ≤ i
  | 0 => Nat.le_refl 0
  | i + 1 => by
    have := gk_le t T M i
    rw [gk_s]
    split
    · show (gk t T M i).2.2.1 + 1 ≤ i + 1; omega
    · show (gk t T M i).2.2.1 ≤ i + 1; omega
theorem gk_T (t : Int32) (T M : Nat → Int32) : ∀ i j, i ≤ j → (gk t T M i).1 j = T j ∧ (gk t T M i).2.1 j = M j
  | 0, j, _ => ⟨rfl, rfl⟩
  | i + 1, j, h => by
    have h1 := gk_T t T M i j (by omega)
    have h2 := gk_le t T M i
    rw [gk_s]
    split
    · exact ⟨(pk_un (by omega)).trans h1.1, (pk_un (by omega)).trans h1.2⟩
    · exact h1
theorem sN_out (f : Nat → Int32) (v : Int32) : ∀ (n k : Nat), n ≤ k → sN (upd f k v) n = sN f n
  | 0, _, _ => rfl
  | n + 1, k, h => by
    show sN (upd f k v) n + (upd f k v n).toNatClampNeg = sN f n + (f n).toNatClampNeg
    rw [sN_out f v n k (by omega), pk_un (by omega)]
theorem gk_sum (t : Int32) (T M : Nat → Int32) : ∀ i, (gk t T M i).2.2.2 + sN (gk t T M i).2.1 (gk t T M i).2.2.1 = sN M i
  | 0 => rfl
  | i + 1 => by
    have h1 := gk_sum t T M i
    have h2 := (gk_T t T M i i (Nat.le_refl i)).2
    rw [gk_s, show sN M (i + 1) = sN M i + (M i).toNatClampNeg from rfl]
    split
    · show (gk t T M i).2.2.2 + (sN (upd (gk t T M i).2.1 (gk t T M i).2.2.1 ((gk t T M i).2.1 i)) (gk t T M i).2.2.1 + (upd (gk t T M i).2.1 (gk t T M i).2.2.1 ((gk t T M i).2.1 i) (gk t T M i).2.2.1).toNatClampNeg) = _
      rw [sN_out _ _ _ _ (Nat.le_refl _), pk_us, h2]
      omega
    · show (gk t T M i).2.2.2 + ((gk t T M i).2.1 i).toNatClampNeg + sN (gk t T M i).2.1 (gk t T M i).2.2.1 = _
      rw [h2]
      omega
theorem gk_k (t : Int32) (T M : Nat → Int32) : ∀ i j, j < (gk t T M i).2.2.1 → ∃ k, k < i ∧ (gk t T M i).1 j = T k ∧ (gk t T M i).2.1 j = M k ∧ t < T k
  | 0, j, h => absurd h (Nat.not_lt_zero j)
  | i + 1, j, h => by
    have h2 := gk_T t T M i i (Nat.le_refl i)
    rw [gk_s] at h ⊢
    by_cases hc : t < (gk t T M i).1 i
    · rw [if_pos hc] at h ⊢
      change j < (gk t T M i).2.2.1 + 1 at h
      show ∃ k, k < i + 1 ∧ upd (gk t T M i).1 (gk t T M i).2.2.1 ((gk t T M i).1 i) j = T k ∧ upd (gk t T M i).2.1 (gk t T M i).2.2.1 ((gk t T M i).2.1 i) j = M k ∧ t < T k
      by_cases hj : j = (gk t T M i).2.2.1
      · refine ⟨i, by omega, ?_, ?_, ?_⟩
        · rw [hj, pk_us]; exact h2.1
        · rw [hj, pk_us]; exact h2.2
        · rw [← h2.1]; exact hc
      · obtain ⟨k, h3, h4, h5, h6⟩ := gk_k t T M i j (by omega)
        exact ⟨k, by omega, (pk_un hj).trans h4, (pk_un hj).trans h5, h6⟩
    · rw [if_neg hc] at h ⊢
      obtain ⟨k, h3, h4, h5, h6⟩ := gk_k t T M i j h
      exact ⟨k, by omega, h4, h5, h6⟩
theorem c_rem {a q l T M : Nat → Int32} {z u p b : Nat} {V : St} {t : Int32} {K : Int32 → St → Prop} (h : CS (mkS a q l T M, z, u, p) V b) (hp : p ≤ 16) (hm : ∀ i, i < p → ∃ m : Nat, m ≤ 30 ∧ M i = nI m) (hK : ∀ V', CS (mkS a q l (gk t T M p).1 (gk t T M p).2.1, z, u, (gk t T M p).2.2.1) V' b → F8 b V V' → K (nI (gk t T M p).2.2.2) V') : wp_X1_removeUpTo V K (b + 5) t := by
  unfold wp_X1_removeUpTo
  refine ⟨p + 1, lp_up (fun i (r : St → Int32 → Int32 → Int32 → Prop) => ∀ V' : St, V' (b + 5) 2 = nI p → (∀ j, j < 16 → V' (b + 6) j = (gk t T M i).1 j) → (∀ j, j < 16 → V' (b + 7) j = (gk t T M i).2.1 j) → (∀ j, j ≠ b + 5 → j ≠ b + 6 → j ≠ b + 7 → V' j = V j) → r V' (nI (gk t T M i).2.2.2) (nI (gk t T M i).2.2.1) (nI i)) p ?_ ?_ p 0 (by omega) V h.2.2.2.1 h.2.2.2.2.1 h.2.2.2.2.2 (fun _ _ _ _ => rfl)⟩
  · intro r V' e5 e6 e7 hF
    unfold h_X1_removeUpTo_7
    rw [e5, if_pos (nI_le (Nat.le_refl p) (by omega))]
    rintro V1 rfl
    refine hK _ (CS.pc h (up2_ss _ _ _ _) (fun i hi => ?_) (fun i hi => ?_) (fun j h1 h2 h3 => ?_)) (fun j hj => ?_)
    · rw [up2_n (by omega)]; exact e6 i hi
    · rw [up2_n (by omega)]; exact e7 i hi
    · rw [up2_n (by omega)]; exact hF j h1 h2 h3
    · rw [up2_n (by omega)]; exact hF j (by omega) (by omega) (by omega)
  · intro i hi r hr V' e5 e6 e7 hF
    have hkl := gk_le t T M i
    have hT := gk_T t T M i i (Nat.le_refl i)
    obtain ⟨m, hm30, em⟩ := hm i hi
    have hvi : vp_in (nI i) 16 := vp_in_nI (by omega) (by omega)
    have hvk : vp_in (nI (gk t T M i).2.2.1) 16 := vp_in_nI (by omega) (by omega)
    unfold h_X1_removeUpTo_7
    rw [e5, if_neg (nI_ge hi (by omega)), nI_clamp (by omega), nI_clamp (by omega), show V' (b + 5 + 1) i = (gk t T M i).1 i from e6 i (by omega), nI_1]
    refine ⟨hvi, ?_⟩
    by_cases hc : t < (gk t T M i).1 i
    · rw [if_pos hc]
      refine ⟨hvi, hvk, ?_⟩
      rintro V2 rfl
      refine ⟨hvi, hvk, ?_⟩
      rintro V3 rfl
      rw [show up2 V' (b + 5 + 1) (gk t T M i).2.2.1 ((gk t T M i).1 i) (b + 5 + 2) i = (gk t T M i).2.1 i by rw [up2_n (by omega)]; exact e7 i (by omega), nI_1]
      have hs : gk t T M (i + 1) = (upd (gk t T M i).1 (gk t T M i).2.2.1 ((gk t T M i).1 i), upd (gk t T M i).2.1 (gk t T M i).2.2.1 ((gk t T M i).2.1 i), (gk t T M i).2.2.1 + 1, (gk t T M i).2.2.2) := by rw [gk_s, if_pos hc]
      rw [hs] at hr
      refine hr _ ?_ ?_ ?_ ?_
      · rw [up2_n (by omega), up2_n (by omega)]; exact e5
      · intro j hj
        rw [up2_n (by omega), up2_at]
        show _ = upd _ _ _ j
        rw [upd_at]
        by_cases e : j = (gk t T M i).2.2.1
        · rw [if_pos ⟨rfl, e⟩, if_pos e]
        · rw [if_neg (fun y => e y.2), if_neg e]; exact e6 j hj
      · intro j hj
        rw [up2_at]
        show _ = upd _ _ _ j
        rw [upd_at]
        by_cases e : j = (gk t T M i).2.2.1
        · rw [if_pos ⟨rfl, e⟩, if_pos e]
        · rw [if_neg (fun y => e y.2), if_neg e, up2_n (by omega)]; exact e7 j hj
      · intro j h1 h2 h3
        rw [up2_n (by omega), up2_n (by omega)]; exact hF j h1 h2 h3
    · rw [if_neg hc]
      refine ⟨hvi, ?_⟩
      rintro x4 rfl
      have hs : gk t T M (i + 1) = ((gk t T M i).1, (gk t T M i).2.1, (gk t T M i).2.2.1, (gk t T M i).2.2.2 + ((gk t T M i).2.1 i).toNatClampNeg) := by rw [gk_s, if_neg hc]
      rw [hs] at hr
      have e7i : V' (b + 5 + 2) i = nI m := by
        rw [← em, ← hT.2]; exact e7 i (by omega)
      have hc2 : ((gk t T M i).2.1 i).toNatClampNeg = m := by rw [hT.2, em, nI_clamp (by omega)]
      rw [hc2] at hr
      rw [e7i, nI_add, nI_1]
      exact hr V' e5 e6 e7 hF
def flA (l : Nat → Int32) (u : Nat) (t : Int32) : Nat → Int32 := fun i => if i < u then l i else t
theorem c_fill1 {a q l T M : Nat → Int32} {z u p b N : Nat} {V : St} {t : Int32} {K : St → Prop} (h : CS (mkS a q (flA l u t) T M, z, u + N, p) V b) (hN : u + N < 30) (hK : ∀ V', CS (mkS a q (flA l u t) T M, z, u + (N + 1), p) V' b → F8 b V V' → K V') : wp_X2_add V K (b + 3) 30 t := by
  refine ring_add h.2.2.1 hN (by omega) ?_
  intro V1 hR hF
  refine hK V1 (CS.l h (hR.cong (g := flA l u t) ?_) (fun j h1 h2 => hF j h1 h2)) (fun j hj => hF j (by omega) (by omega))
  intro i hi
  rw [upd_at]
  show (if i = u + N then t else flA l u t i) = _
  split
  · unfold flA
    rw [if_neg (by omega)]
  · rfl
theorem c_fill {a q l T M : Nat → Int32} {z u p b N : Nat} {V : St} {t : Int32} {K : St → Prop} (h : CS (mkS a q l T M, z, u, p) V b) (hN : u + N ≤ 30) (hK : ∀ V', CS (mkS a q (flA l u t) T M, z, u + N, p) V' b → F8 b V V' → K V') : ∃ n, lp (fun _ _ _ => False) (h_X3_giveBack_11 K b t) n V (nI N) (0 : Int32) := by
  have h0 : CS (mkS a q (flA l u t) T M, z, u + 0, p) V b := CS.l h (h.2.2.1.cong (g := flA l u t) (fun i hi => (if_pos hi).symm)) (fun _ _ _ => rfl)
  refine ⟨N + 1, lp_up (fun i (r : St → Int32 → Int32 → Prop) => ∀ V' : St, CS (mkS a q (flA l u t) T M, z, u + i, p) V' b → F8 b V V' → r V' (nI N) (nI i)) N ?_ ?_ N 0 (by omega) V h0 (fun _ _ => rfl)⟩
  · intro r V' hC hF
    unfold h_X3_giveBack_11
    rw [if_pos (nI_le (Nat.le_refl N) (by omega))]
    exact hK V' hC hF
  · intro i hi r hr V' hC hF
    unfold h_X3_giveBack_11
    rw [if_neg (nI_ge hi (by omega)), nI_1]
    exact c_fill1 hC (by omega) (fun V2 hC2 hF2 => hr V2 hC2 (fun j hj => by rw [hF2 j hj]; exact hF j hj))
theorem c_fillB {a q l T M : Nat → Int32} {z p b N : Nat} {V : St} {K : St → Prop} (h : CS (mkS a q l T M, z, 0, p) V b) (ha : a 7 = nI N) (hN : N ≤ 30) (hK : ∀ V', CS (mkS a q (flA l 0 0) T M, z, 0 + N, p) V' b → F8 b V V' → K V') : wp_X3_fillBudget V K b := by
  have h0 : CS (mkS a q (flA l 0 0) T M, z, 0 + 0, p) V b := CS.l h (h.2.2.1.cong (g := flA l 0 0) (fun i hi => absurd hi (Nat.not_lt_zero i))) (fun _ _ _ => rfl)
  unfold wp_X3_fillBudget
  refine ⟨N + 1, lp_up (fun i (r : St → Int32 → Prop) => ∀ V' : St, CS (mkS a q (flA l 0 0) T M, z, 0 + i, p) V' b → F8 b V V' → r V' (nI i)) N ?_ ?_ N 0 (by omega) V h0 (fun _ _ => rfl)⟩
  · intro r V' hC hF
    unfold h_X3_fillBudget_2
    rw [show V' b 7 = nI N from (hC.1 7 (by omega) (by omega)).trans ha, if_pos (nI_le (Nat.le_refl N) (by omega))]
    exact hK V' hC hF
  · intro i hi r hr V' hC hF
    unfold h_X3_fillBudget_2
    rw [show V' b 7 = nI N from (hC.1 7 (by omega) (by omega)).trans ha, if_neg (nI_ge hi (by omega)), nI_1]
    exact c_fill1 hC (by omega) (fun V2 hC2 hF2 => hr V2 hC2 (fun j hj => by rw [hF2 j hj]; exact hF j hj))
def gbA (t : Int32) (x : SA) : SA := (mkS (x.1 0) (x.1 1) (flA (x.1 2) x.2.2.1 t) (gk t (x.1 3) (x.1 4) x.2.2.2).1 (gk t (x.1 3) (x.1 4) x.2.2.2).2.1, x.2.1, x.2.2.1 + (gk t (x.1 3) (x.1 4) x.2.2.2).2.2.2, (gk t (x.1 3) (x.1 4) x.2.2.2).2.2.1)
theorem c_gb {x : SA} {V : St} {b : Nat} {t : Int32} {K : St → Prop} (h : CS x V b) (hp : x.2.2.2 ≤ 16) (hm : ∀ i, i < x.2.2.2 → ∃ m : Nat, m ≤ 30 ∧ x.1 4 i = nI m) (hu : x.2.2.1 + sN (x.1 4) x.2.2.2 ≤ 30) (hK : ∀ V', CS (gbA t x) V' b → F8 b V V' → K V') : wp_X3_giveBack V K b t := by
  unfold wp_X3_giveBack
  refine c_rem (a := x.1 0) (q := x.1 1) (l := x.1 2) (T := x.1 3) (M := x.1 4) (z := x.2.1) (u := x.2.2.1) (p := x.2.2.2) h hp hm ?_
  intro V1 hC1 hF1
  have := gk_sum t (x.1 3) (x.1 4) x.2.2.2
  exact c_fill hC1 (by omega) (fun V2 hC2 hF2 => hK V2 hC2 (fun j hj => by rw [hF2 j hj]; exact hF1 j hj))
