theorem m_gb1 {x : SA} {V : St} {k t : Nat} {K : St → Prop} {rec_2 : St → Int32 → Prop} (h : MSr x V k) (hk : k < 6) (hp : x.2.2.2 ≤ 16) (hm : ∀ i, i < x.2.2.2 → ∃ m : Nat, 1 ≤ m ∧ m ≤ 30 ∧ x.1 4 i = nI m) (htm : ∀ i, i < x.2.2.2 → ¬ nI t < x.1 3 i → x.1 3 i = nI t) (hub : x.2.2.1 + sN (x.1 4) x.2.2.2 ≤ 30) (ht : V 60 1 = nI t) (hK : ∀ V', MSr (gbA (nI t) x) V' k → FK k V V' → rec_2 V' (nI (k + 1))) : ∃ n, lp (fun _ _ _ _ _ => False) (h_X5_giveBack_19 K rec_2) n V (nI k) (0 : Int32) (nI x.2.2.1) (0 : Int32) := by
  have hv : vp_in (nI k) 6 := vp_in_nI hk (by omega)
  obtain ⟨h1, h2, h3, h4, h5, h6, h7, h8⟩ := h
  refine ⟨x.2.2.2 + 1, lp_up (fun i (r : St → Int32 → Int32 → Int32 → Int32 → Prop) => ∀ V' : St, (∀ j, j < 16 → V' 74 (16 * k + j) = (gk (nI t) (x.1 3) (x.1 4) i).1 j) → (∀ j, j < 16 → V' 75 (16 * k + j) = (gk (nI t) (x.1 3) (x.1 4) i).2.1 j) → (∀ j, j < x.2.2.1 + (gk (nI t) (x.1 3) (x.1 4) i).2.2.2 → V' 72 (30 * k + j) = flA (x.1 2) x.2.2.1 (nI t) j) → (∀ j c, ¬ (j = 72 ∧ 30 * k ≤ c ∧ c < 30 * k + 30) → ¬ ((j = 74 ∨ j = 75) ∧ 16 * k ≤ c ∧ c < 16 * k + 16) → V' j c = V j c) → r V' (nI k) (nI (gk (nI t) (x.1 3) (x.1 4) i).2.2.1) (nI (x.2.2.1 + (gk (nI t) (x.1 3) (x.1 4) i).2.2.2)) (nI i)) x.2.2.2 ?_ ?_ x.2.2.2 0 (by omega) V h7 h8 (fun j hj => ?_) (fun _ _ _ _ => rfl)⟩
  · intro r V' e74 e75 e72 hF
    unfold h_X5_giveBack_19
    rw [nI_clamp (by omega), show V' 73 k = nI x.2.2.2 by rw [hF _ _ (by omega) (by omega)]; exact h4, if_pos (nI_le (Nat.le_refl _) (by omega))]
    refine ⟨hv, hv, ?_⟩
    rintro V1 rfl
    rw [nI_1]
    refine hK _ ⟨M0.fr (a := x.1 0) h1 (fun j _ _ _ _ _ _ _ _ _ => by rw [up2_n (by omega), hF _ _ (by omega) (by omega)]), ?_, ?_, up2_ss _ _ _ _, fun i hi => ?_, fun i hi => ?_, fun i hi => ?_, fun i hi => ?_⟩ (fun j c ho => ?_)
    · rw [up2_n (by omega), hF _ _ (by omega) (by omega)]; exact h2
    · rw [up2_n (by omega), hF _ _ (by omega) (by omega)]; exact h3
    · rw [up2_n (by omega), hF _ _ (by omega) (by omega)]; exact h5 i hi
    · rw [up2_n (by omega)]; exact e72 i hi
    · rw [up2_n (by omega)]; exact e74 i hi
    · rw [up2_n (by omega)]; exact e75 i hi
    · rw [(FK.up (k := k) V' (j := 73) (i := k) (by unfold own; omega)) j c ho]
      unfold own at ho
      exact hF j c (by omega) (by omega)
  · intro i hi r hr V' e74 e75 e72 hF
    have hkl := gk_le (nI t) (x.1 3) (x.1 4) i
    have hT := gk_T (nI t) (x.1 3) (x.1 4) i i (Nat.le_refl i)
    have hsum := gk_sum (nI t) (x.1 3) (x.1 4) i
    obtain ⟨m, hm1, hm30, em⟩ := hm i hi
    have hsi : sN (x.1 4) (i + 1) = sN (x.1 4) i + m := by
      show sN (x.1 4) i + (x.1 4 i).toNatClampNeg = _
      rw [em, nI_clamp (by omega)]
    have hmo := sN_mono (x.1 4) (i := i + 1) (p := x.2.2.2) (by omega)
    have e60 : V' 60 1 = nI t := by rw [hF _ _ (by omega) (by omega)]; exact ht
    have ei4 : V' 74 (16 * k + i) = x.1 3 i := (e74 i (by omega)).trans hT.1
    have ei5 : V' 75 (16 * k + i) = nI m := ((e75 i (by omega)).trans hT.2).trans em
    have hvi : vp_in (nI (16 * k + i)) 96 := vp_in_nI (by omega) (by omega)
    unfold h_X5_giveBack_19
    rw [nI_clamp (by omega), show V' 73 k = nI x.2.2.2 by rw [hF _ _ (by omega) (by omega)]; exact h4, if_neg (nI_ge hi (by omega))]
    refine ⟨hv, ?_⟩
    by_cases hc : nI t < x.1 3 i
    · refine ⟨1, ?_⟩
      show h_X5_giveBack_33 K rec_2 r _ V' (nI k) _ _ (nI i) 0
      unfold h_X5_giveBack_33
      rw [ix16, nI_clamp (by omega), ei5, if_neg (nI_nle (by omega) (by omega)), e60, ei4, if_pos hc]
      refine ⟨hvi, hvi, ?_⟩
      unfold b_X5_giveBack_101
      rw [ix16, ix16, nI_clamp (by omega), nI_clamp (by omega), ei4, e60, if_neg (Int32.not_le.mpr hc)]
      refine ⟨hvi, hvi, vp_in_nI (by omega) (by omega), ?_⟩
      rintro V1 rfl
      refine ⟨hvi, vp_in_nI (by omega) (by omega), ?_⟩
      rw [show up2 V' 74 (16 * k + (gk (nI t) (x.1 3) (x.1 4) i).2.2.1) (x.1 3 i) 75 (16 * k + i) = nI m by rw [up2_n (by omega)]; exact ei5]
      rintro V2 rfl
      have hs : gk (nI t) (x.1 3) (x.1 4) (i + 1) = (upd (gk (nI t) (x.1 3) (x.1 4) i).1 (gk (nI t) (x.1 3) (x.1 4) i).2.2.1 (x.1 3 i), upd (gk (nI t) (x.1 3) (x.1 4) i).2.1 (gk (nI t) (x.1 3) (x.1 4) i).2.2.1 (nI m), (gk (nI t) (x.1 3) (x.1 4) i).2.2.1 + 1, (gk (nI t) (x.1 3) (x.1 4) i).2.2.2) := by rw [gk_s, hT.1, hT.2, em, if_pos hc]
      rw [hs] at hr
      rw [nI_1, nI_1]
      refine hr _ (fun j hj => ?_) (fun j hj => ?_) (fun j hj => ?_) (fun j c q1 q2 => ?_)
      · rw [up2_n (by omega), up2_at]
        show _ = upd _ _ _ j
        rw [upd_at]
        by_cases e : j = (gk (nI t) (x.1 3) (x.1 4) i).2.2.1
        · rw [if_pos ⟨rfl, by omega⟩, if_pos e]
        · rw [if_neg (by omega), if_neg e]; exact e74 j hj
      · rw [up2_at]
        show _ = upd _ _ _ j
        rw [upd_at]
        by_cases e : j = (gk (nI t) (x.1 3) (x.1 4) i).2.2.1
        · rw [if_pos ⟨rfl, by omega⟩, if_pos e]
        · rw [if_neg (by omega), if_neg e, up2_n (by omega)]; exact e75 j hj
      · rw [up2_n (by omega), up2_n (by omega)]; exact e72 j hj
      · rw [up2_at, if_neg (by omega), up2_at, if_neg (by omega)]; exact hF j c q1 q2
    · have eT : x.1 3 i = nI t := htm i hi hc
      have hs : gk (nI t) (x.1 3) (x.1 4) (i + 1) = ((gk (nI t) (x.1 3) (x.1 4) i).1, (gk (nI t) (x.1 3) (x.1 4) i).2.1, (gk (nI t) (x.1 3) (x.1 4) i).2.2.1, (gk (nI t) (x.1 3) (x.1 4) i).2.2.2 + m) := by rw [gk_s, hT.1, hT.2, em, if_neg hc, nI_clamp (by omega)]
      rw [hs] at hr
      refine ⟨m + 1, lp_up (fun c (rr : St → Int32 → Int32 → Int32 → Int32 → Int32 → Prop) => ∀ V2 : St, (∀ j, j < x.2.2.1 + (gk (nI t) (x.1 3) (x.1 4) i).2.2.2 + c → V2 72 (30 * k + j) = flA (x.1 2) x.2.2.1 (nI t) j) → (∀ j c2, ¬ (j = 72 ∧ 30 * k ≤ c2 ∧ c2 < 30 * k + 30) → V2 j c2 = V' j c2) → rr V2 (nI k) (nI (gk (nI t) (x.1 3) (x.1 4) i).2.2.1) (nI (x.2.2.1 + (gk (nI t) (x.1 3) (x.1 4) i).2.2.2 + c)) (nI i) (nI c)) m ?_ ?_ m 0 (by omega) V' e72 (fun _ _ _ => rfl)⟩
      · intro rr V2 f72 hF2
        unfold h_X5_giveBack_33
        rw [ix16, nI_clamp (by omega), show V2 75 (16 * k + i) = nI m by rw [hF2 _ _ (by omega)]; exact ei5, if_pos (nI_le (Nat.le_refl _) (by omega))]
        refine ⟨hvi, ?_⟩
        unfold b_X5_giveBack_101
        rw [ix16, nI_clamp (by omega), show V2 74 (16 * k + i) = nI t by rw [hF2 _ _ (by omega), ei4, eT], show V2 60 1 = nI t by rw [hF2 _ _ (by omega)]; exact e60, if_pos (Int32.le_refl _), nI_1, Nat.add_assoc]
        refine ⟨hvi, ?_⟩
        refine hr V2 (fun j hj => ?_) (fun j hj => ?_) (fun j hj => ?_) (fun j c q1 q2 => ?_)
        · rw [hF2 _ _ (by omega)]; exact e74 j hj
        · rw [hF2 _ _ (by omega)]; exact e75 j hj
        · exact f72 j (by change j < _ + (_ + m) at hj; omega)
        · rw [hF2 _ _ q1]; exact hF j c q1 q2
      · intro c hcm rr hrr V2 f72 hF2
        unfold h_X5_giveBack_33
        rw [ix16, ix30, nI_clamp (by omega), nI_clamp (by omega), show V2 75 (16 * k + i) = nI m by rw [hF2 _ _ (by omega)]; exact ei5, if_neg (nI_ge hcm (by omega)), show V2 74 (16 * k + i) = nI t by rw [hF2 _ _ (by omega), ei4, eT], show V2 60 1 = nI t by rw [hF2 _ _ (by omega)]; exact e60, if_neg Int32.lt_irrefl]
        refine ⟨hvi, hvi, hvi, vp_in_nI (by omega) (by omega), ?_⟩
        rintro V3 rfl
        rw [nI_1, nI_1]
        refine hrr _ (fun j hj => ?_) (fun j c2 q1 => ?_)
        · rw [up2_at]
          by_cases e : j = x.2.2.1 + (gk (nI t) (x.1 3) (x.1 4) i).2.2.2 + c
          · rw [if_pos ⟨rfl, by omega⟩]
            unfold flA
            rw [if_neg (by omega)]
          · rw [if_neg (by omega)]
            exact f72 j (by omega)
        · rw [up2_at, if_neg (by omega)]; exact hF2 j c2 q1
  · rw [h6 j hj]
    exact (if_pos hj).symm
theorem m_gb0 {x : SA} {V : St} {k : Nat} {K : St → Prop} {rec_2 : St → Int32 → Prop} {r1 : Int32} (h : MSr x V k) (hk : k < 6) (hp : x.2.2.2 = 0) (hK : ∀ V', MSr x V' k → FK k V V' → rec_2 V' (nI (k + 1))) : ∃ n, lp (fun _ _ _ _ _ => False) (h_X5_giveBack_19 K rec_2) n V (nI k) (0 : Int32) r1 (0 : Int32) := by
  have hv : vp_in (nI k) 6 := vp_in_nI hk (by omega)
  refine ⟨1, ?_⟩
  show h_X5_giveBack_19 K rec_2 _ V (nI k) 0 r1 0
  unfold h_X5_giveBack_19
  rw [nI_clamp (by omega), show V 73 k = 0 by rw [h.2.2.2.1, hp]; rfl, if_pos (by decide), nI_1]
  refine ⟨hv, hv, ?_⟩
  rintro V1 rfl
  obtain ⟨h1, h2, h3, h4, h5, h6, h7, h8⟩ := h
  refine hK _ ⟨M0.fr (a := x.1 0) h1 (fun j _ _ _ _ _ _ _ _ _ => by rw [up2_n (by omega)]), ?_, ?_, ?_, fun i hi => ?_, fun i hi => ?_, fun i hi => ?_, fun i hi => ?_⟩ (FK.up _ (by unfold own; omega))
  · rw [up2_n (by omega)]; exact h2
  · rw [up2_n (by omega)]; exact h3
  · rw [up2_ss, hp]; rfl
  · rw [up2_n (by omega)]; exact h5 i hi
  · rw [up2_n (by omega)]; exact h6 i hi
  · rw [up2_n (by omega)]; exact h7 i hi
  · rw [up2_n (by omega)]; exact h8 i hi
/-! what is kept -/
theorem SW.gb {t : Nat} {x : SA} (ht : t < 2 ^ 30) (h : SW t t x) (h3 : x.1 0 3 = 1) : SW (t + 1) t (gbA (nI t) x) := by
  obtain ⟨a1, a2, a3, a4, a5, a6, a7, a8, a9⟩ := h
  have hkl := gk_le (nI t) (x.1 3) (x.1 4) x.2.2.2
  have hsum := gk_sum (nI t) (x.1 3) (x.1 4) x.2.2.2
  refine ⟨a1, ?_, a3, a4, fun q => ?_, fun q => ?_, fun i hi => ?_, fun i hi => ?_, a9⟩
  · show (gk (nI t) (x.1 3) (x.1 4) x.2.2.2).2.2.1 ≤ 16; omega
  · exact absurd (h3.symm.trans q) (by decide)
  · obtain ⟨tp, co, di, bu, pe, pr, fd, g1, g2, g3, g4, g5, g6, g7, g8, g9, g10, g11, g12, g13, g14, g15, g16, g17, g18, g19⟩ := a6 h3
    refine ⟨tp, co, di, bu, pe, pr, fd, g1, g2, g3, g4, g5, g6, g7, g8, g9, g10, g11, g12, g13, g14, g15, g16, g17, g18, ?_⟩
    show x.2.2.1 + (gk (nI t) (x.1 3) (x.1 4) x.2.2.2).2.2.2 + sN (gk (nI t) (x.1 3) (x.1 4) x.2.2.2).2.1 (gk (nI t) (x.1 3) (x.1 4) x.2.2.2).2.2.1 = bu
    omega
  · obtain ⟨j, hj, e1, e2, e3⟩ := gk_k (nI t) (x.1 3) (x.1 4) x.2.2.2 i hi
    obtain ⟨q, m, b1, b2, b3, b4, b5, b6⟩ := a7 j hj
    rw [b1] at e3
    have := (nI_ltI (by omega) (by omega)).mp e3
    exact ⟨q, m, e1.trans b1, by omega, b3, e2.trans b4, b5, b6⟩
  · change i < x.2.2.1 + (gk (nI t) (x.1 3) (x.1 4) x.2.2.2).2.2.2 at hi
    show ∃ v, v ≤ t ∧ flA (x.1 2) x.2.2.1 (nI t) i = nI v
    unfold flA
    by_cases e : i < x.2.2.1
    · rw [if_pos e]
      exact a8 i e
    · rw [if_neg e]
      exact ⟨t, Nat.le_refl t, rfl⟩
theorem SW.next {t : Nat} {x : SA} (h : SW (t + 1) t x) : SW (t + 1) (t + 1) x := by
  obtain ⟨a1, a2, a3, a4, a5, a6, a7, a8, v, a9, a10⟩ := h
  refine ⟨a1, a2, a3, a4, a5, a6, fun i hi => ?_, fun i hi => ?_, v, by omega, a10⟩
  · obtain ⟨q, m, b1, b2, b3, b4⟩ := a7 i hi
    exact ⟨q, m, b1, b2, by omega, b4⟩
  · obtain ⟨v, b1, b2⟩ := a8 i hi
    exact ⟨v, by omega, b2⟩
theorem SW.lost {lo t : Nat} {x : SA} (h : SW lo t x) : SW lo t (lostA x) := by
  obtain ⟨a1, a2, a3, a4, a5, a6, a7, a8, a9⟩ := h
  have e : ∀ i, i ≠ 13 → (lostA x).1 0 i = x.1 0 i := fun i hi => show upd (x.1 0) 13 (x.1 0 13 + 1) i = x.1 0 i from pk_un hi
  refine ⟨a1, a2, ?_, ?_, fun q => ?_, fun q => ?_, a7, a8, ?_⟩
  · rw [e 3 (by omega)]; exact a3
  · rw [e 10 (by omega)]; exact a4
  · rw [e 3 (by omega)] at q; rw [e 16 (by omega)]; exact a5 q
  · rw [e 3 (by omega)] at q
    rw [e 4 (by omega), e 5 (by omega), e 6 (by omega), e 7 (by omega), e 8 (by omega), e 9 (by omega), e 16 (by omega)]
    exact a6 q
  · rw [e 17 (by omega)]; exact a9
theorem tkA_row {t : Nat} {x : SA} (i : Nat) (h10 : i ≠ 10) (h11 : i ≠ 11) (h14 : i ≠ 14) (h17 : i ≠ 17) : (tkA t x).1 0 i = x.1 0 i := by
  have : tkR t (x.1 0) x.2.1 i = x.1 0 i := by
    unfold tkR
    rw [pk_un h11]
    split
    · exact pk_un h17
    · rfl
  show (if x.2.1 + 1 ≤ 24 then tkR t (x.1 0) x.2.1 else upd (upd (tkR t (x.1 0) x.2.1) 10 1) 14 (x.1 0 14 + 1)) i = x.1 0 i
  split
  · exact this
  · rw [pk_un h14, pk_un h10]; exact this
theorem SW.take {lo t : Nat} {x : SA} (h : SW lo t x) (h3 : x.1 0 3 = 1) (hz : x.2.1 < 32) : SW lo t (tkA t x) := by
  obtain ⟨a1, a2, a3, a4, a5, a6, a7, a8, a9⟩ := h
  have e : ∀ i, i ≠ 10 → i ≠ 11 → i ≠ 14 → i ≠ 17 → (tkA t x).1 0 i = x.1 0 i := fun i => tkA_row i
  refine ⟨hz, a2, ?_, ?_, fun q => ?_, fun q => ?_, a7, a8, ?_⟩
  · rw [e 3 (by omega) (by omega) (by omega) (by omega)]; exact a3
  · show (if x.2.1 + 1 ≤ 24 then tkR t (x.1 0) x.2.1 else upd (upd (tkR t (x.1 0) x.2.1) 10 1) 14 (x.1 0 14 + 1)) 10 = 0 ∨ (if x.2.1 + 1 ≤ 24 then tkR t (x.1 0) x.2.1 else upd (upd (tkR t (x.1 0) x.2.1) 10 1) 14 (x.1 0 14 + 1)) 10 = 1
    split
    · unfold tkR
      rw [pk_un (by omega)]
      split
      · rw [pk_un (by omega)]; exact a4
      · exact a4
    · rw [pk_un (by omega), pk_us]; exact Or.inr rfl
  · rw [e 3 (by omega) (by omega) (by omega) (by omega), h3] at q
    exact absurd q (by decide)
  · rw [e 4 (by omega) (by omega) (by omega) (by omega), e 5 (by omega) (by omega) (by omega) (by omega), e 6 (by omega) (by omega) (by omega) (by omega), e 7 (by omega) (by omega) (by omega) (by omega), e 8 (by omega) (by omega) (by omega) (by omega), e 9 (by omega) (by omega) (by omega) (by omega), e 16 (by omega) (by omega) (by omega) (by omega)]
    exact a6 h3
  · have h17 : (tkA t x).1 0 17 = if x.2.1 = 0 then nI t else x.1 0 17 := by
      show (if x.2.1 + 1 ≤ 24 then tkR t (x.1 0) x.2.1 else upd (upd (tkR t (x.1 0) x.2.1) 10 1) 14 (x.1 0 14 + 1)) 17 = _
      have : tkR t (x.1 0) x.2.1 17 = if x.2.1 = 0 then nI t else x.1 0 17 := by
        unfold tkR
        rw [pk_un (by omega)]
        split
        · exact pk_us
        · rfl
      split
      · exact this
      · rw [pk_un (by omega), pk_un (by omega)]; exact this
    rw [h17]
    split
    · exact ⟨t, Nat.le_refl t, rfl⟩
    · exact a9
