/-! the first piece of the least time -/
def lst (T : Nat → Int32) : Nat → Nat
  | 0 => 0
  | i + 1 => if T (lst T i) ≤ T (i + 1) then lst T i else i + 1
theorem lst_le (T : Nat → Int32) : ∀ i, lst T i ≤ i
  | 0 => Nat.le_refl 0
  | i + 1 => by
    have := lst_le T i
    unfold lst
    split <;> omega
theorem c_next {x : SA} {V : St} {b : Nat} {K : Int32 → St → Prop} {p' : Nat} (h : CS x V b) (hp : x.2.2.2 = p' + 1) (hp2 : p' < 16) (hK : K (nI (lst (x.1 3) p')) V) : wp_X1_next V K (b + 5) := by
  have ep : V (b + 5) 2 = nI (p' + 1) := by rw [h.2.2.2.1, hp]
  have et : ∀ i, i < 16 → V (b + 6) i = x.1 3 i := h.2.2.2.2.1
  unfold wp_X1_next
  refine ⟨p' + 1, lp_up (fun i (r : St → Int32 → Int32 → Prop) => r V (nI (lst (x.1 3) i)) (nI (i + 1))) p' ?_ ?_ p' 0 (by omega)⟩
  · intro r
    unfold h_X1_next_4
    rw [ep, if_pos (nI_le (Nat.le_refl _) (by omega))]
    exact hK
  · intro i hi r hr
    have hl := lst_le (x.1 3) i
    unfold h_X1_next_4
    rw [ep, if_neg (nI_ge (by omega) (by omega)), nI_clamp (by omega), nI_clamp (by omega), nI_1, show V (b + 5 + 1) (lst (x.1 3) i) = x.1 3 (lst (x.1 3) i) from et _ (by omega), show V (b + 5 + 1) (i + 1) = x.1 3 (i + 1) from et _ (by omega)]
    refine ⟨vp_in_nI (by omega) (by omega), vp_in_nI (by omega) (by omega), ?_⟩
    change r V (nI (if x.1 3 (lst (x.1 3) i) ≤ x.1 3 (i + 1) then lst (x.1 3) i else i + 1)) (nI (i + 1 + 1)) at hr
    by_cases hc : x.1 3 (lst (x.1 3) i) ≤ x.1 3 (i + 1)
    · rw [if_pos hc] at hr ⊢; exact hr
    · rw [if_neg hc] at hr ⊢; exact hr
def fpN (x : SA) : Option Nat := if x.2.2.2 = 0 then none else some (lst (x.1 3) (x.2.2.2 - 1))
theorem m_fp {x : SA} {V : St} {k : Nat} {K : Int32 → St → Prop} (h : MSr x V k) (hk : k < 6) (hp : x.2.2.2 ≤ 16) (hK : K (oI (fpN x)) V) : wp_X5_firstPiece V K (nI k) := by
  have hv : vp_in (nI k) 6 := vp_in_nI hk (by omega)
  have ep : V 73 k = nI x.2.2.2 := h.2.2.2.1
  have et : ∀ i, i < 16 → V 74 (16 * k + i) = x.1 3 i := h.2.2.2.2.2.2.1
  unfold wp_X5_firstPiece
  refine ⟨x.2.2.2 + 1, lp_up (fun i (r : St → Int32 → Int32 → Prop) => r V (oI (if i = 0 then none else some (lst (x.1 3) (i - 1)))) (nI i)) x.2.2.2 ?_ ?_ x.2.2.2 0 (by omega)⟩
  · intro r
    unfold h_X5_firstPiece_4
    rw [nI_clamp (by omega), ep, if_pos (nI_le (Nat.le_refl _) (by omega))]
    exact ⟨hv, hK⟩
  · intro i hi r hr
    rw [if_neg (Nat.succ_ne_zero i), show i + 1 - 1 = i from rfl] at hr
    change r V (nI (lst (x.1 3) i)) (nI (i + 1)) at hr
    unfold h_X5_firstPiece_4
    rw [nI_clamp (by omega), ep, if_neg (nI_ge hi (by omega))]
    refine ⟨hv, ?_⟩
    rcases Nat.eq_zero_or_pos i with e0 | e0
    · subst e0
      rw [if_pos rfl, show oI none = (-1 : Int32) from rfl, if_pos (by decide)]
      unfold b_X5_firstPiece_43
      rw [nI_1]
      exact hr
    · obtain ⟨j, rfl⟩ : ∃ j, i = j + 1 := ⟨i - 1, by omega⟩
      have hl := lst_le (x.1 3) j
      rw [if_neg (Nat.succ_ne_zero j), show j + 1 - 1 = j from rfl, show oI (some (lst (x.1 3) j)) = nI (lst (x.1 3) j) from rfl, if_neg (nI_pos (by omega)), ix16, ix16, nI_clamp (by omega), nI_clamp (by omega), et _ (by omega), et _ (by omega), nI_1]
      refine ⟨vp_in_nI (by omega) (by omega), vp_in_nI (by omega) (by omega), ?_⟩
      change r V (nI (if x.1 3 (lst (x.1 3) j) ≤ x.1 3 (j + 1) then lst (x.1 3) j else j + 1)) (nI (j + 1 + 1)) at hr
      by_cases hc : x.1 3 (lst (x.1 3) j) ≤ x.1 3 (j + 1)
      · rw [if_pos hc] at hr ⊢; exact hr
      · rw [if_neg hc] at hr ⊢
        unfold b_X5_firstPiece_43
        rw [nI_1]
        exact hr
theorem about_both {a : AA} (hw : GWa (a.1 + 1) a) (x y : Int32) : BothV a (fun V K => wp_L_about V K x y) (fun V K => wp_X5_about V K x y) := by
  by_cases hs : isS a.2.2.2.2.2.1 x
  · obtain ⟨k, hk, rfl, h3⟩ := hs
    have hv : vp_in (nI k) 6 := vp_in_nI hk (by omega)
    have hsw := hw.1 k hk
    have hp16 := hsw.2.1
    have hz32 := hsw.1
    obtain ⟨b1, b2, b3, b4⟩ := hsw.told h3
    have hm1 : ∀ (V : St) (K : Int32 → St → Prop), RMa a V → (¬ (¬ y < 0 ∧ ¬ (12 : Int32) < y) → b_X5_about_28 K (nI k) y V 2) → ((¬ y < 0 ∧ ¬ (12 : Int32) < y) → b_X5_about_28 K (nI k) y V 0) → wp_X5_about V K (nI k) y := by
      intro V K hR j1 j2
      unfold wp_X5_about
      refine m_isS hR hw.t3 (fun q => absurd ⟨k, hk, rfl, h3⟩ q) (fun k2 hk2 e _ => ?_)
      rw [if_neg (by decide)]
      refine m_within (fun q => ?_) (fun q => ?_)
      · rw [if_pos rfl]; exact j1 q
      · rw [if_neg (by decide)]; exact j2 q
    by_cases hy : ¬ y < 0 ∧ ¬ (12 : Int32) < y
    · obtain ⟨j, -, hj, rfl⟩ := (wi_nat (lo := 0) (hi := 12) (by omega) (by omega)).mp hy
      have hC : ∀ V, RCa a V → CS (a.2.2.2.2.2.1 k) V (12 + 8 * k) := fun V hR => hR.2.2.2.2.1 k hk
      have hM : ∀ V, RMa a V → MSr (a.2.2.2.2.2.1 k) (up2 V 60 0 0) k := fun V hR => (hR.thr (c := 0) hw).2.2.2.2.2.1 k hk
      rcases (show j = 0 ∨ j = 1 ∨ j = 2 ∨ j = 3 ∨ j = 4 ∨ j = 5 ∨ j = 6 ∨ j = 7 ∨ j = 8 ∨ j = 9 ∨ j = 10 ∨ j = 11 ∨ j = 12 by omega) with rfl | rfl | rfl | rfl | rfl | rfl | rfl | rfl | rfl | rfl | rfl | rfl | rfl
      · refine ⟨a, 0, ((a.2.2.2.2.2.1 k).1 0 11), by omega, hw, fun V K hR hK => ?_, fun V K hR hK => ?_⟩
        · show wp_L_about V K (nI k) (nI 0)
          unfold wp_L_about wp_X4_about
          refine c_told hR hw.t3 (fun q => absurd ⟨k, hk, rfl, h3⟩ q) (fun k2 hk2 e2 _ => ?_)
          have := nI_inj6 hk hk2 e2
          subst this
          · rw [if_pos (by decide)]
            rw [(hC V hR).1 11 (by omega) (by omega)]
            refine ⟨vp00, ?_⟩
            rintro V3 rfl
            exact hK _ hR.out (FLx.out _ _) (fun _ => up2_ss _ _ _ _)
        · refine hm1 V K hR (fun q => absurd hy q) (fun _ => ?_)
          unfold b_X5_about_28
          rintro V1 rfl
          rw [up2_ss, if_pos (by decide)]
          refine m_fp (hM V hR) hk hp16 ?_
          · rw [if_pos (by decide)]
            rw [nI_clamp (by omega), show up2 V 60 0 0 78 k = (a.2.2.2.2.2.1 k).1 0 11 from (hM V hR).1 11 (by omega) (by omega)]
            exact ⟨hv, hK _ _ (fun _ => rfl) (hR.thr hw) (FM.thr V 0) (up2_ss _ _ _ _)⟩
      · refine ⟨a, 0, ((a.2.2.2.2.2.1 k).1 0 12), by omega, hw, fun V K hR hK => ?_, fun V K hR hK => ?_⟩
        · show wp_L_about V K (nI k) (nI 1)
          unfold wp_L_about wp_X4_about
          refine c_told hR hw.t3 (fun q => absurd ⟨k, hk, rfl, h3⟩ q) (fun k2 hk2 e2 _ => ?_)
          have := nI_inj6 hk hk2 e2
          subst this
          · rw [if_neg (by decide), if_pos (by decide)]
            rw [(hC V hR).1 12 (by omega) (by omega)]
            refine ⟨vp00, ?_⟩
            rintro V3 rfl
            exact hK _ hR.out (FLx.out _ _) (fun _ => up2_ss _ _ _ _)
        · refine hm1 V K hR (fun q => absurd hy q) (fun _ => ?_)
          unfold b_X5_about_28
          rintro V1 rfl
          rw [up2_ss, if_pos (by decide)]
          refine m_fp (hM V hR) hk hp16 ?_
          · rw [if_neg (by decide), if_pos (by decide)]
            rw [nI_clamp (by omega), show up2 V 60 0 0 79 k = (a.2.2.2.2.2.1 k).1 0 12 from (hM V hR).1 12 (by omega) (by omega)]
            exact ⟨hv, hK _ _ (fun _ => rfl) (hR.thr hw) (FM.thr V 0) (up2_ss _ _ _ _)⟩
      · refine ⟨a, 0, ((a.2.2.2.2.2.1 k).1 0 13), by omega, hw, fun V K hR hK => ?_, fun V K hR hK => ?_⟩
        · show wp_L_about V K (nI k) (nI 2)
          unfold wp_L_about wp_X4_about
          refine c_told hR hw.t3 (fun q => absurd ⟨k, hk, rfl, h3⟩ q) (fun k2 hk2 e2 _ => ?_)
          have := nI_inj6 hk hk2 e2
          subst this
          · rw [if_neg (by decide), if_neg (by decide), if_pos (by decide)]
            rw [(hC V hR).1 13 (by omega) (by omega)]
            refine ⟨vp00, ?_⟩
            rintro V3 rfl
            exact hK _ hR.out (FLx.out _ _) (fun _ => up2_ss _ _ _ _)
        · refine hm1 V K hR (fun q => absurd hy q) (fun _ => ?_)
          unfold b_X5_about_28
          rintro V1 rfl
          rw [up2_ss, if_pos (by decide)]
          refine m_fp (hM V hR) hk hp16 ?_
          · rw [if_neg (by decide), if_neg (by decide), if_pos (by decide)]
            rw [nI_clamp (by omega), show up2 V 60 0 0 80 k = (a.2.2.2.2.2.1 k).1 0 13 from (hM V hR).1 13 (by omega) (by omega)]
            exact ⟨hv, hK _ _ (fun _ => rfl) (hR.thr hw) (FM.thr V 0) (up2_ss _ _ _ _)⟩
      · refine ⟨a, 0, (nI (a.2.2.2.2.2.1 k).2.1), by omega, hw, fun V K hR hK => ?_, fun V K hR hK => ?_⟩
        · show wp_L_about V K (nI k) (nI 3)
          unfold wp_L_about wp_X4_about
          refine c_told hR hw.t3 (fun q => absurd ⟨k, hk, rfl, h3⟩ q) (fun k2 hk2 e2 _ => ?_)
          have := nI_inj6 hk hk2 e2
          subst this
          · rw [if_neg (by decide), if_neg (by decide), if_neg (by decide), if_pos (by decide)]
            rw [(hC V hR).2.1.size]
            refine ⟨vp00, ?_⟩
            rintro V3 rfl
            exact hK _ hR.out (FLx.out _ _) (fun _ => up2_ss _ _ _ _)
        · refine hm1 V K hR (fun q => absurd hy q) (fun _ => ?_)
          unfold b_X5_about_28
          rintro V1 rfl
          rw [up2_ss, if_pos (by decide)]
          refine m_fp (hM V hR) hk hp16 ?_
          · rw [if_neg (by decide), if_neg (by decide), if_neg (by decide), if_pos (by decide)]
            rw [nI_clamp (by omega), (hM V hR).2.2.1]
            exact ⟨hv, hK _ _ (fun _ => rfl) (hR.thr hw) (FM.thr V 0) (up2_ss _ _ _ _)⟩
      · refine ⟨a, 0, (if (a.2.2.2.2.2.1 k).1 0 10 = 0 then 0 else 1), by omega, hw, fun V K hR hK => ?_, fun V K hR hK => ?_⟩
        · show wp_L_about V K (nI k) (nI 4)
          unfold wp_L_about wp_X4_about
          refine c_told hR hw.t3 (fun q => absurd ⟨k, hk, rfl, h3⟩ q) (fun k2 hk2 e2 _ => ?_)
          have := nI_inj6 hk hk2 e2
          subst this
          · rw [if_neg (by decide), if_neg (by decide), if_neg (by decide), if_neg (by decide), if_pos (by decide)]
            rw [(hC V hR).1 10 (by omega) (by omega)]
            split
            · rename_i e
              refine ⟨vp00, ?_⟩
              rintro V3 rfl
              exact hK _ hR.out (FLx.out _ _) (fun _ => (up2_ss _ _ _ _).trans (if_pos e).symm)
            · rename_i e
              refine ⟨vp00, ?_⟩
              rintro V3 rfl
              exact hK _ hR.out (FLx.out _ _) (fun _ => (up2_ss _ _ _ _).trans (if_neg e).symm)
        · refine hm1 V K hR (fun q => absurd hy q) (fun _ => ?_)
          unfold b_X5_about_28
          rintro V1 rfl
          rw [up2_ss, if_pos (by decide)]
          refine m_fp (hM V hR) hk hp16 ?_
          · rw [if_neg (by decide), if_neg (by decide), if_neg (by decide), if_neg (by decide), if_pos (by decide)]
            rw [nI_clamp (by omega), show up2 V 60 0 0 76 k = (a.2.2.2.2.2.1 k).1 0 10 from (hM V hR).1 10 (by omega) (by omega)]
            refine ⟨hv, ?_⟩
            split
            · rename_i e
              exact hK _ _ (fun _ => (if_pos e).symm) (hR.thr hw) (FM.thr V 0) (up2_ss _ _ _ _)
            · rename_i e
              exact hK _ _ (fun _ => (if_neg e).symm) (hR.thr hw) (FM.thr V 0) (up2_ss _ _ _ _)
      · refine ⟨a, 0, ((a.2.2.2.2.2.1 k).1 0 14), by omega, hw, fun V K hR hK => ?_, fun V K hR hK => ?_⟩
        · show wp_L_about V K (nI k) (nI 5)
          unfold wp_L_about wp_X4_about
          refine c_told hR hw.t3 (fun q => absurd ⟨k, hk, rfl, h3⟩ q) (fun k2 hk2 e2 _ => ?_)
          have := nI_inj6 hk hk2 e2
          subst this
          · rw [if_neg (by decide), if_neg (by decide), if_neg (by decide), if_neg (by decide), if_neg (by decide), if_pos (by decide)]
            rw [(hC V hR).1 14 (by omega) (by omega)]
            refine ⟨vp00, ?_⟩
            rintro V3 rfl
            exact hK _ hR.out (FLx.out _ _) (fun _ => up2_ss _ _ _ _)
        · refine hm1 V K hR (fun q => absurd hy q) (fun _ => ?_)
          unfold b_X5_about_28
          rintro V1 rfl
          rw [up2_ss, if_pos (by decide)]
          refine m_fp (hM V hR) hk hp16 ?_
          · rw [if_neg (by decide), if_neg (by decide), if_neg (by decide), if_neg (by decide), if_neg (by decide), if_pos (by decide)]
            rw [nI_clamp (by omega), show up2 V 60 0 0 77 k = (a.2.2.2.2.2.1 k).1 0 14 from (hM V hR).1 14 (by omega) (by omega)]
            exact ⟨hv, hK _ _ (fun _ => rfl) (hR.thr hw) (FM.thr V 0) (up2_ss _ _ _ _)⟩
      · refine ⟨a, 0, (nI (a.2.2.2.2.2.1 k).2.2.1), by omega, hw, fun V K hR hK => ?_, fun V K hR hK => ?_⟩
        · show wp_L_about V K (nI k) (nI 6)
          unfold wp_L_about wp_X4_about
          refine c_told hR hw.t3 (fun q => absurd ⟨k, hk, rfl, h3⟩ q) (fun k2 hk2 e2 _ => ?_)
          have := nI_inj6 hk hk2 e2
          subst this
          · rw [if_neg (by decide), if_neg (by decide), if_neg (by decide), if_neg (by decide), if_neg (by decide), if_neg (by decide), if_pos (by decide)]
            rw [(hC V hR).2.2.1.size]
            refine ⟨vp00, ?_⟩
            rintro V3 rfl
            exact hK _ hR.out (FLx.out _ _) (fun _ => up2_ss _ _ _ _)
        · refine hm1 V K hR (fun q => absurd hy q) (fun _ => ?_)
          unfold b_X5_about_28
          rintro V1 rfl
          rw [up2_ss, if_pos (by decide)]
          refine m_fp (hM V hR) hk hp16 ?_
          · rw [if_neg (by decide), if_neg (by decide), if_neg (by decide), if_neg (by decide), if_neg (by decide), if_neg (by decide), if_pos (by decide)]
            exact m_bl (hM V hR) hk b1 b2 b3 b4 (hK _ _ (fun _ => rfl) (hR.thr hw) (FM.thr V 0) (up2_ss _ _ _ _))
      · refine ⟨a, 0, (nI (a.2.2.2.2.2.1 k).2.2.2), by omega, hw, fun V K hR hK => ?_, fun V K hR hK => ?_⟩
        · show wp_L_about V K (nI k) (nI 7)
          unfold wp_L_about wp_X4_about
          refine c_told hR hw.t3 (fun q => absurd ⟨k, hk, rfl, h3⟩ q) (fun k2 hk2 e2 _ => ?_)
          have := nI_inj6 hk hk2 e2
          subst this
          · rw [if_neg (by decide), if_neg (by decide), if_neg (by decide), if_neg (by decide), if_neg (by decide), if_neg (by decide), if_neg (by decide), if_pos (by decide)]
            rw [(hC V hR).2.2.2.1]
            refine ⟨vp00, ?_⟩
            rintro V3 rfl
            exact hK _ hR.out (FLx.out _ _) (fun _ => up2_ss _ _ _ _)
        · refine hm1 V K hR (fun q => absurd hy q) (fun _ => ?_)
          unfold b_X5_about_28
          rintro V1 rfl
          rw [up2_ss, if_pos (by decide)]
          refine m_fp (hM V hR) hk hp16 ?_
          · rw [if_neg (by decide), if_neg (by decide), if_neg (by decide), if_neg (by decide), if_neg (by decide), if_neg (by decide), if_neg (by decide), if_pos (by decide)]
            rw [nI_clamp (by omega), (hM V hR).2.2.2.1]
            exact ⟨hv, hK _ _ (fun _ => rfl) (hR.thr hw) (FM.thr V 0) (up2_ss _ _ _ _)⟩
      · refine ⟨a, 0, (if (a.2.2.2.2.2.1 k).2.2.2 = 0 then (-1 : Int32) else (a.2.2.2.2.2.1 k).1 3 (lst ((a.2.2.2.2.2.1 k).1 3) ((a.2.2.2.2.2.1 k).2.2.2 - 1))), by omega, hw, fun V K hR hK => ?_, fun V K hR hK => ?_⟩
        · show wp_L_about V K (nI k) (nI 8)
          unfold wp_L_about wp_X4_about
          refine c_told hR hw.t3 (fun q => absurd ⟨k, hk, rfl, h3⟩ q) (fun k2 hk2 e2 _ => ?_)
          have := nI_inj6 hk hk2 e2
          subst this
          · rw [if_neg (by decide), if_neg (by decide), if_neg (by decide), if_neg (by decide), if_neg (by decide), if_neg (by decide), if_neg (by decide), if_neg (by decide), if_pos (by decide)]
            unfold wp_X1_nextTime
            rw [(hC V hR).2.2.2.1]
            by_cases e : (a.2.2.2.2.2.1 k).2.2.2 = 0
            · rw [if_pos (by rw [e]; decide)]
              refine ⟨vp00, ?_⟩
              rintro V3 rfl
              exact hK _ hR.out (FLx.out _ _) (fun _ => (up2_ss _ _ _ _).trans (if_pos e).symm)
            · rw [if_neg (nI_nle (by omega) (by omega))]
              have hl := lst_le ((a.2.2.2.2.2.1 k).1 3) ((a.2.2.2.2.2.1 k).2.2.2 - 1)
              refine c_next (p' := (a.2.2.2.2.2.1 k).2.2.2 - 1) (hC V hR) (by omega) (by omega) ?_
              rw [nI_clamp (by omega), show V (12 + 8 * k + 5 + 1) (lst ((a.2.2.2.2.2.1 k).1 3) ((a.2.2.2.2.2.1 k).2.2.2 - 1)) = (a.2.2.2.2.2.1 k).1 3 (lst ((a.2.2.2.2.2.1 k).1 3) ((a.2.2.2.2.2.1 k).2.2.2 - 1)) from (hC V hR).2.2.2.2.1 _ (by omega)]
              refine ⟨vp_in_nI (by omega) (by omega), vp00, ?_⟩
              rintro V3 rfl
              exact hK _ hR.out (FLx.out _ _) (fun _ => (up2_ss _ _ _ _).trans (if_neg e).symm)
        · refine hm1 V K hR (fun q => absurd hy q) (fun _ => ?_)
          unfold b_X5_about_28
          rintro V1 rfl
          rw [up2_ss, if_pos (by decide)]
          refine m_fp (hM V hR) hk hp16 ?_
          · rw [if_neg (by decide), if_neg (by decide), if_neg (by decide), if_neg (by decide), if_neg (by decide), if_neg (by decide), if_neg (by decide), if_neg (by decide), if_pos (by decide)]
            by_cases e : (a.2.2.2.2.2.1 k).2.2.2 = 0
            · rw [show oI (fpN (a.2.2.2.2.2.1 k)) = (-1 : Int32) by rw [fpN, if_pos e]; rfl, if_neg (by decide)]
              exact hK _ _ (fun _ => (if_pos e).symm) (hR.thr hw) (FM.thr V 0) (up2_ss _ _ _ _)
            · have hl := lst_le ((a.2.2.2.2.2.1 k).1 3) ((a.2.2.2.2.2.1 k).2.2.2 - 1)
              rw [show oI (fpN (a.2.2.2.2.2.1 k)) = nI (lst ((a.2.2.2.2.2.1 k).1 3) ((a.2.2.2.2.2.1 k).2.2.2 - 1)) by rw [fpN, if_neg e]; rfl, if_pos (nI_pos' (by omega)), ix16, nI_clamp (by omega), (hM V hR).2.2.2.2.2.2.1 _ (by omega)]
              exact ⟨vp_in_nI (by omega) (by omega), hK _ _ (fun _ => (if_neg e).symm) (hR.thr hw) (FM.thr V 0) (up2_ss _ _ _ _)⟩
      · refine ⟨a, 0, (if (a.2.2.2.2.2.1 k).2.2.2 = 0 then (0 : Int32) else (a.2.2.2.2.2.1 k).1 4 (lst ((a.2.2.2.2.2.1 k).1 3) ((a.2.2.2.2.2.1 k).2.2.2 - 1))), by omega, hw, fun V K hR hK => ?_, fun V K hR hK => ?_⟩
        · show wp_L_about V K (nI k) (nI 9)
          unfold wp_L_about wp_X4_about
          refine c_told hR hw.t3 (fun q => absurd ⟨k, hk, rfl, h3⟩ q) (fun k2 hk2 e2 _ => ?_)
          have := nI_inj6 hk hk2 e2
          subst this
          · rw [if_neg (by decide), if_neg (by decide), if_neg (by decide), if_neg (by decide), if_neg (by decide), if_neg (by decide), if_neg (by decide), if_neg (by decide), if_neg (by decide), if_pos (by decide)]
            unfold wp_X1_nextAmount
            rw [(hC V hR).2.2.2.1]
            by_cases e : (a.2.2.2.2.2.1 k).2.2.2 = 0
            · rw [if_pos (by rw [e]; decide)]
              refine ⟨vp00, ?_⟩
              rintro V3 rfl
              exact hK _ hR.out (FLx.out _ _) (fun _ => (up2_ss _ _ _ _).trans (if_pos e).symm)
            · rw [if_neg (nI_nle (by omega) (by omega))]
              have hl := lst_le ((a.2.2.2.2.2.1 k).1 3) ((a.2.2.2.2.2.1 k).2.2.2 - 1)
              refine c_next (p' := (a.2.2.2.2.2.1 k).2.2.2 - 1) (hC V hR) (by omega) (by omega) ?_
              rw [nI_clamp (by omega), show V (12 + 8 * k + 5 + 2) (lst ((a.2.2.2.2.2.1 k).1 3) ((a.2.2.2.2.2.1 k).2.2.2 - 1)) = (a.2.2.2.2.2.1 k).1 4 (lst ((a.2.2.2.2.2.1 k).1 3) ((a.2.2.2.2.2.1 k).2.2.2 - 1)) from (hC V hR).2.2.2.2.2 _ (by omega)]
              refine ⟨vp_in_nI (by omega) (by omega), vp00, ?_⟩
              rintro V3 rfl
              exact hK _ hR.out (FLx.out _ _) (fun _ => (up2_ss _ _ _ _).trans (if_neg e).symm)
        · refine hm1 V K hR (fun q => absurd hy q) (fun _ => ?_)
          unfold b_X5_about_28
          rintro V1 rfl
          rw [up2_ss, if_pos (by decide)]
          refine m_fp (hM V hR) hk hp16 ?_
          · rw [if_neg (by decide), if_neg (by decide), if_neg (by decide), if_neg (by decide), if_neg (by decide), if_neg (by decide), if_neg (by decide), if_neg (by decide), if_neg (by decide), if_pos (by decide)]
            by_cases e : (a.2.2.2.2.2.1 k).2.2.2 = 0
            · rw [show oI (fpN (a.2.2.2.2.2.1 k)) = (-1 : Int32) by rw [fpN, if_pos e]; rfl, if_neg (by decide)]
              exact hK _ _ (fun _ => (if_pos e).symm) (hR.thr hw) (FM.thr V 0) (up2_ss _ _ _ _)
            · have hl := lst_le ((a.2.2.2.2.2.1 k).1 3) ((a.2.2.2.2.2.1 k).2.2.2 - 1)
              rw [show oI (fpN (a.2.2.2.2.2.1 k)) = nI (lst ((a.2.2.2.2.2.1 k).1 3) ((a.2.2.2.2.2.1 k).2.2.2 - 1)) by rw [fpN, if_neg e]; rfl, if_pos (nI_pos' (by omega)), ix16, nI_clamp (by omega), (hM V hR).2.2.2.2.2.2.2 _ (by omega)]
              exact ⟨vp_in_nI (by omega) (by omega), hK _ _ (fun _ => (if_neg e).symm) (hR.thr hw) (FM.thr V 0) (up2_ss _ _ _ _)⟩
      · refine ⟨a, 0, ((a.2.2.2.2.2.1 k).1 0 15), by omega, hw, fun V K hR hK => ?_, fun V K hR hK => ?_⟩
        · show wp_L_about V K (nI k) (nI 10)
          unfold wp_L_about wp_X4_about
          refine c_told hR hw.t3 (fun q => absurd ⟨k, hk, rfl, h3⟩ q) (fun k2 hk2 e2 _ => ?_)
          have := nI_inj6 hk hk2 e2
          subst this
          · rw [if_neg (by decide), if_neg (by decide), if_neg (by decide), if_neg (by decide), if_neg (by decide), if_neg (by decide), if_neg (by decide), if_neg (by decide), if_neg (by decide), if_neg (by decide), if_pos (by decide)]
            rw [(hC V hR).1 15 (by omega) (by omega)]
            refine ⟨vp00, ?_⟩
            rintro V3 rfl
            exact hK _ hR.out (FLx.out _ _) (fun _ => up2_ss _ _ _ _)
        · refine hm1 V K hR (fun q => absurd hy q) (fun _ => ?_)
          unfold b_X5_about_28
          rintro V1 rfl
          rw [up2_ss, if_pos (by decide)]
          refine m_fp (hM V hR) hk hp16 ?_
          · rw [if_neg (by decide), if_neg (by decide), if_neg (by decide), if_neg (by decide), if_neg (by decide), if_neg (by decide), if_neg (by decide), if_neg (by decide), if_neg (by decide), if_neg (by decide), if_pos (by decide)]
            rw [nI_clamp (by omega), show up2 V 60 0 0 81 k = (a.2.2.2.2.2.1 k).1 0 15 from (hM V hR).1 15 (by omega) (by omega)]
            exact ⟨hv, hK _ _ (fun _ => rfl) (hR.thr hw) (FM.thr V 0) (up2_ss _ _ _ _)⟩
      · refine ⟨a, 0, ((a.2.2.2.2.2.1 k).1 0 16), by omega, hw, fun V K hR hK => ?_, fun V K hR hK => ?_⟩
        · show wp_L_about V K (nI k) (nI 11)
          unfold wp_L_about wp_X4_about
          refine c_told hR hw.t3 (fun q => absurd ⟨k, hk, rfl, h3⟩ q) (fun k2 hk2 e2 _ => ?_)
          have := nI_inj6 hk hk2 e2
          subst this
          · rw [if_neg (by decide), if_neg (by decide), if_neg (by decide), if_neg (by decide), if_neg (by decide), if_neg (by decide), if_neg (by decide), if_neg (by decide), if_neg (by decide), if_neg (by decide), if_neg (by decide), if_pos (by decide)]
            rw [(hC V hR).1 16 (by omega) (by omega)]
            refine ⟨vp00, ?_⟩
            rintro V3 rfl
            exact hK _ hR.out (FLx.out _ _) (fun _ => up2_ss _ _ _ _)
        · refine hm1 V K hR (fun q => absurd hy q) (fun _ => ?_)
          unfold b_X5_about_28
          rintro V1 rfl
          rw [up2_ss, if_pos (by decide)]
          refine m_fp (hM V hR) hk hp16 ?_
          · rw [if_neg (by decide), if_neg (by decide), if_neg (by decide), if_neg (by decide), if_neg (by decide), if_neg (by decide), if_neg (by decide), if_neg (by decide), if_neg (by decide), if_neg (by decide), if_neg (by decide), if_pos (by decide)]
            rw [nI_clamp (by omega), show up2 V 60 0 0 70 k = (a.2.2.2.2.2.1 k).1 0 16 from (hM V hR).1 16 (by omega) (by omega)]
            exact ⟨hv, hK _ _ (fun _ => rfl) (hR.thr hw) (FM.thr V 0) (up2_ss _ _ _ _)⟩
      · refine ⟨a, 0, (if (a.2.2.2.2.2.1 k).2.1 = 0 then (-1 : Int32) else (a.2.2.2.2.2.1 k).1 0 17), by omega, hw, fun V K hR hK => ?_, fun V K hR hK => ?_⟩
        · show wp_L_about V K (nI k) (nI 12)
          unfold wp_L_about wp_X4_about
          refine c_told hR hw.t3 (fun q => absurd ⟨k, hk, rfl, h3⟩ q) (fun k2 hk2 e2 _ => ?_)
          have := nI_inj6 hk hk2 e2
          subst this
          · rw [if_neg (by decide), if_neg (by decide), if_neg (by decide), if_neg (by decide), if_neg (by decide), if_neg (by decide), if_neg (by decide), if_neg (by decide), if_neg (by decide), if_neg (by decide), if_neg (by decide), if_neg (by decide), if_pos (by decide)]
            rw [(hC V hR).2.1.size, (hC V hR).1 17 (by omega) (by omega)]
            by_cases e : (a.2.2.2.2.2.1 k).2.1 = 0
            · rw [if_pos (by rw [e]; decide)]
              refine ⟨vp00, ?_⟩
              rintro V3 rfl
              exact hK _ hR.out (FLx.out _ _) (fun _ => (up2_ss _ _ _ _).trans (if_pos e).symm)
            · rw [if_neg (nI_nle (by omega) (by omega))]
              refine ⟨vp00, ?_⟩
              rintro V3 rfl
              exact hK _ hR.out (FLx.out _ _) (fun _ => (up2_ss _ _ _ _).trans (if_neg e).symm)
        · refine hm1 V K hR (fun q => absurd hy q) (fun _ => ?_)
          unfold b_X5_about_28
          rintro V1 rfl
          rw [up2_ss, if_pos (by decide)]
          refine m_fp (hM V hR) hk hp16 ?_
          · rw [if_neg (by decide), if_neg (by decide), if_neg (by decide), if_neg (by decide), if_neg (by decide), if_neg (by decide), if_neg (by decide), if_neg (by decide), if_neg (by decide), if_neg (by decide), if_neg (by decide), if_neg (by decide)]
            rw [nI_clamp (by omega), (hM V hR).2.1]
            exact ⟨hv, hK _ _ (fun _ => rfl) (hR.thr hw) (FM.thr V 0) (up2_ss _ _ _ _)⟩
    · refine ⟨a, 2, 0, by omega, hw, fun V K hR hK => ?_, fun V K hR hK => ?_⟩
      · show wp_L_about V K (nI k) y
        have hn : ∀ j, j ≤ 12 → ¬ y = nI j := fun j hj q => hy ((wi_nat (lo := 0) (hi := 12) (by omega) (by omega)).mpr ⟨j, by omega, hj, q⟩)
        unfold wp_L_about wp_X4_about
        refine c_told hR hw.t3 (fun q => absurd ⟨k, hk, rfl, h3⟩ q) (fun k2 hk2 e2 _ => ?_)
        rw [if_neg (show ¬ y = 0 from hn 0 (by omega)), if_neg (show ¬ y = 1 from hn 1 (by omega)), if_neg (show ¬ y = 2 from hn 2 (by omega)), if_neg (show ¬ y = 3 from hn 3 (by omega)), if_neg (show ¬ y = 4 from hn 4 (by omega)), if_neg (show ¬ y = 5 from hn 5 (by omega)), if_neg (show ¬ y = 6 from hn 6 (by omega)), if_neg (show ¬ y = 7 from hn 7 (by omega)), if_neg (show ¬ y = 8 from hn 8 (by omega)), if_neg (show ¬ y = 9 from hn 9 (by omega)), if_neg (show ¬ y = 10 from hn 10 (by omega)), if_neg (show ¬ y = 11 from hn 11 (by omega)), if_neg (show ¬ y = 12 from hn 12 (by omega))]
        exact Or.inr ⟨rfl, hK V hR (FLx.refl V) (fun q => absurd q (by decide))⟩
      · refine hm1 V K hR (fun _ => ?_) (fun q => absurd q hy)
        unfold b_X5_about_28
        rintro V1 rfl
        rw [up2_ss, if_neg (by decide)]
        exact hK _ _ (fun q => absurd q (by decide)) (hR.thr hw) (FM.thr V 2) (up2_ss _ _ _ _)
  · refine ⟨a, 1, 0, by omega, hw, fun V K hR hK => ?_, fun V K hR hK => ?_⟩
    · show wp_L_about V K x y
      unfold wp_L_about wp_X4_about
      refine c_told hR hw.t3 (fun _ => ?_) (fun k2 hk2 e h3 => absurd ⟨k2, hk2, e, h3⟩ hs)
      exact Or.inl ⟨rfl, hK V hR (FLx.refl V) (fun q => absurd q (by decide))⟩
    · show wp_X5_about V K x y
      unfold wp_X5_about
      refine m_isS hR hw.t3 (fun _ => ?_) (fun k2 hk2 e h3 => absurd ⟨k2, hk2, e, h3⟩ hs)
      rw [if_pos rfl]
      unfold b_X5_about_28
      rintro V1 rfl
      rw [up2_ss, if_neg (by decide)]
      exact hK _ _ (fun q => absurd q (by decide)) (hR.thr hw) (FM.thr V 1) (up2_ss _ _ _ _)
/-! used -/
def ucC (tr : Nat → Int32) (x y : Int32) (q : Nat) : Prop := tr q = 20 + x ∨ (y ≠ 0 ∧ tr q = 10 + x)
def uc (tr : Nat → Int32) (x y : Int32) (f : Nat) : Nat → Int32
  | 0 => 0
  | m + 1 => if tr (f + m) = 20 + x ∨ (y ≠ 0 ∧ tr (f + m) = 10 + x) then uc tr x y f m + 1 else uc tr x y f m
theorem used_both {a : AA} (htt : a.1 < 2 ^ 29) (hw : GWa (a.1 + 1) a) (x y f e : Int32) : BothV a (fun V K => wp_L_used V K x y f e) (fun V K => wp_X5_used V K x y f e) := by
  by_cases hs : isS a.2.2.2.2.2.1 x
  · by_cases hr : ¬ f < 0 ∧ ¬ e < f ∧ ¬ nI a.1 < e ∧ ¬ (1000 : Int32) < nI a.1 - f
    · obtain ⟨r1, r2, r3, r4⟩ := hr
      obtain ⟨fn, hf, rfl⟩ := nI_of r1
      have h0e : ¬ e < 0 := fun q => r2 (Int32.lt_of_lt_of_le q (nI_pos' hf))
      obtain ⟨en, he, rfl⟩ := nI_of h0e
      have q2 : fn ≤ en := Nat.le_of_not_lt (fun q => r2 (nI_lt q hf))
      have q3 : en ≤ a.1 := Nat.le_of_not_lt (fun q => r3 (nI_lt q he))
      rw [pk_sub (by omega)] at r4
      have q4 : a.1 - fn ≤ 1000 := Nat.le_of_not_lt (fun q => r4 (clt (c := 1000) q (by omega)))
      obtain ⟨m, rfl⟩ : ∃ m, en = fn + m := ⟨en - fn, by omega⟩
      refine ⟨a, 0, uc a.2.2.2.2.1 x y fn m, by omega, hw, fun V K hR hK => ?_, fun V K hR hK => ?_⟩
      · show wp_L_used V K x y (nI fn) (nI (fn + m))
        unfold wp_L_used wp_X4_used
        refine c_told hR hw.t3 (fun q => absurd hs q) (fun k hk ek h3 => ?_)
        rw [if_neg r1, if_neg r2, show V 0 5 = nI a.1 from hR.1, if_neg r3, pk_sub (by omega), if_pos (kle (c := 1000) q4)]
        refine ⟨m + 1, lp_up (fun i (r : St → Int32 → Int32 → Prop) => r V (uc a.2.2.2.2.1 x y fn i) (nI (fn + i))) m ?_ ?_ m 0 (by omega)⟩
        · intro r
          unfold h_X4_used_51
          rw [if_pos (nI_le (Nat.le_refl _) he)]
          refine ⟨vp00, ?_⟩
          rintro V3 rfl
          exact hK _ hR.out (FLx.out _ _) (fun _ => up2_ss _ _ _ _)
        · intro i hi r hr
          have hm : (fn + i) % 1000 < 1000 := Nat.mod_lt _ (by omega)
          change r V (if a.2.2.2.2.1 (fn + i) = 20 + x ∨ (y ≠ 0 ∧ a.2.2.2.2.1 (fn + i) = 10 + x) then uc a.2.2.2.2.1 x y fn i + 1 else uc a.2.2.2.2.1 x y fn i) (nI (fn + (i + 1))) at hr
          unfold h_X4_used_51
          rw [if_neg (nI_ge (by omega) he), show nI (fn + i) - nI (fn + i) / 1000 * 1000 = nI ((fn + i) % 1000) from pk_rem (d := 1000) (by omega) (by omega) (by omega), nI_clamp (by omega), nI_1]
          refine ⟨by decide, vp_in_nI hm (by omega), ?_⟩
          rintro x1 rfl
          rw [show V 5 ((fn + i) % 1000) = a.2.2.2.2.1 (fn + i) from hR.2.2.2.1 (fn + i) (by omega) (by omega)]
          by_cases c1 : a.2.2.2.2.1 (fn + i) = 20 + x
          · rw [if_pos c1]
            rw [if_pos (Or.inl c1)] at hr
            exact hr
          · rw [if_neg c1]
            by_cases c2 : y = 0
            · rw [if_pos c2]
              rw [if_neg (fun q => q.elim c1 (fun q => q.1 c2))] at hr
              exact hr
            · rw [if_neg c2]
              by_cases c3 : a.2.2.2.2.1 (fn + i) = 10 + x
              · rw [if_pos c3]
                rw [if_pos (Or.inr ⟨c2, c3⟩)] at hr
                exact hr
              · rw [if_neg c3]
                rw [if_neg (fun q => q.elim c1 (fun q => c3 q.2))] at hr
                exact hr
      · show wp_X5_used V K x y (nI fn) (nI (fn + m))
        unfold wp_X5_used
        rw [if_neg r1, if_neg r2, show V 60 1 = nI a.1 from hR.1, if_neg r3, pk_sub (by omega), if_neg (cnlt (c := 1000) q4)]
        unfold b_X5_used_36
        refine m_isS hR hw.t3 (fun q => absurd hs q) (fun k hk ek h3 => ?_)
        rw [if_neg (by decide), if_neg (by decide)]
        unfold b_X5_used_61
        rintro V1 rfl
        refine ⟨m + 1, lp_up (fun i (r : St → Int32 → Int32 → Prop) => r (up2 V 60 0 0) (uc a.2.2.2.2.1 x y fn i) (nI (fn + i))) m ?_ ?_ m 0 (by omega)⟩
        · intro r
          unfold h_X5_used_70
          rw [if_pos (nI_le (Nat.le_refl _) he)]
          exact hK _ _ (fun _ => rfl) (hR.thr hw) (FM.thr V 0) (up2_ss _ _ _ _)
        · intro i hi r hr
          have hm : (fn + i) % 1024 < 1024 := Nat.mod_lt _ (by omega)
          change r (up2 V 60 0 0) (if a.2.2.2.2.1 (fn + i) = 20 + x ∨ (y ≠ 0 ∧ a.2.2.2.2.1 (fn + i) = 10 + x) then uc a.2.2.2.2.1 x y fn i + 1 else uc a.2.2.2.2.1 x y fn i) (nI (fn + (i + 1))) at hr
          have h119 : (a.2.2.2.2.1 (fn + i) = 20 + x ∨ (y ≠ 0 ∧ a.2.2.2.2.1 (fn + i) = 10 + x)) → b_X5_used_119 K x y (nI fn) (nI (fn + m)) r (up2 V 60 0 0) (uc a.2.2.2.2.1 x y fn i) (nI (fn + i)) := by
            intro q
            rw [if_pos q] at hr
            unfold b_X5_used_119
            rintro x1 rfl
            rw [nI_1]
            exact hr
          unfold h_X5_used_70
          rw [if_neg (nI_ge (by omega) he), up2_ss, if_pos rfl, show nI (fn + i) - nI (fn + i) / 1024 * 1024 = nI ((fn + i) % 1024) from pk_rem (d := 1024) (by omega) (by omega) (by omega), nI_clamp (by omega), nI_1]
          refine ⟨by decide, vp_in_nI hm (by omega), ?_⟩
          rintro x1 rfl
          rw [show up2 V 60 0 0 92 ((fn + i) % 1024) = a.2.2.2.2.1 (fn + i) by rw [up2_n (by omega)]; exact hR.2.2.2.2.1 (fn + i) (by omega) (by omega)]
          by_cases c1 : a.2.2.2.2.1 (fn + i) = 20 + x
          · rw [if_pos c1]
            exact h119 (Or.inl c1)
          · rw [if_neg c1]
            by_cases c2 : y = 0
            · rw [if_pos c2]
              rw [if_neg (fun q => q.elim c1 (fun q => q.1 c2))] at hr
              exact hr
            · rw [if_neg c2]
              by_cases c3 : a.2.2.2.2.1 (fn + i) = 10 + x
              · rw [if_pos c3]
                exact h119 (Or.inr ⟨c2, c3⟩)
              · rw [if_neg c3]
                rw [if_neg (fun q => q.elim c1 (fun q => c3 q.2))] at hr
                exact hr
    · have h61 : ∀ (V : St) (K : Int32 → St → Prop), RMa a V → (∀ V' r', ((2 : Int32) = 0 → r' = 0) → RMa a V' → FM V V' → V' 60 0 = 2 → K r' V') → b_X5_used_36 K x y f e V 0 := by
        intro V K hR hK
        unfold b_X5_used_36
        refine m_isS hR hw.t3 (fun q => absurd hs q) (fun k hk ek h3 => ?_)
        rw [if_neg (by decide), if_pos rfl]
        unfold b_X5_used_61
        rintro V1 rfl
        refine ⟨1, ?_⟩
        show h_X5_used_70 K x y f e _ (up2 V 60 0 2) 0 f
        unfold h_X5_used_70
        have hend := hK (up2 V 60 0 2) 0 (fun _ => rfl) (hR.thr hw) (FM.thr V 2) (up2_ss _ _ _ _)
        by_cases c : e ≤ f
        · rw [if_pos c]; exact hend
        · rw [if_neg c, up2_ss, if_neg (by decide)]
          exact hend
      refine ⟨a, 2, 0, by omega, hw, fun V K hR hK => ?_, fun V K hR hK => ?_⟩
      · show wp_L_used V K x y f e
        unfold wp_L_used wp_X4_used
        refine c_told hR hw.t3 (fun q => absurd hs q) (fun k hk ek h3 => ?_)
        have hend := hK V hR (FLx.refl V) (fun q => absurd q (by decide))
        by_cases c1 : f < 0
        · rw [if_pos c1]; exact Or.inr ⟨rfl, hend⟩
        · rw [if_neg c1]
          by_cases c2 : e < f
          · rw [if_pos c2]; exact Or.inr ⟨rfl, hend⟩
          · rw [if_neg c2, show V 0 5 = nI a.1 from hR.1]
            by_cases c3 : nI a.1 < e
            · rw [if_pos c3]; exact Or.inr ⟨rfl, hend⟩
            · rw [if_neg c3, if_neg (fun c4 => hr ⟨c1, c2, c3, Int32.not_lt.mpr c4⟩)]
              exact Or.inr ⟨rfl, hend⟩
      · show wp_X5_used V K x y f e
        have hend := h61 V K hR hK
        unfold wp_X5_used
        by_cases c1 : f < 0
        · rw [if_pos c1]; exact hend
        · rw [if_neg c1]
          by_cases c2 : e < f
          · rw [if_pos c2]; exact hend
          · rw [if_neg c2, show V 60 1 = nI a.1 from hR.1]
            by_cases c3 : nI a.1 < e
            · rw [if_pos c3]; exact hend
            · rw [if_neg c3]
              by_cases c4 : (1000 : Int32) < nI a.1 - f
              · rw [if_pos c4]; exact hend
              · exact absurd ⟨c1, c2, c3, c4⟩ hr
  · have h61 : ∀ (V : St) (K : Int32 → St → Prop) (s0 : Int32), RMa a V → (∀ V' r', ((1 : Int32) = 0 → r' = 0) → RMa a V' → FM V V' → V' 60 0 = 1 → K r' V') → b_X5_used_36 K x y f e V s0 := by
      intro V K s0 hR hK
      unfold b_X5_used_36
      refine m_isS hR hw.t3 (fun _ => ?_) (fun k2 hk2 e h3 => absurd ⟨k2, hk2, e, h3⟩ hs)
      rw [if_pos rfl]
      unfold b_X5_used_61
      rintro V1 rfl
      refine ⟨1, ?_⟩
      show h_X5_used_70 K x y f e _ (up2 V 60 0 1) 0 f
      unfold h_X5_used_70
      have hend := hK (up2 V 60 0 1) 0 (fun _ => rfl) (hR.thr hw) (FM.thr V 1) (up2_ss _ _ _ _)
      by_cases c : e ≤ f
      · rw [if_pos c]; exact hend
      · rw [if_neg c, up2_ss, if_neg (by decide)]
        exact hend
    refine ⟨a, 1, 0, by omega, hw, fun V K hR hK => ?_, fun V K hR hK => ?_⟩
    · show wp_L_used V K x y f e
      unfold wp_L_used wp_X4_used
      refine c_told hR hw.t3 (fun _ => ?_) (fun k2 hk2 e h3 => absurd ⟨k2, hk2, e, h3⟩ hs)
      exact Or.inl ⟨rfl, hK V hR (FLx.refl V) (fun q => absurd q (by decide))⟩
    · show wp_X5_used V K x y f e
      unfold wp_X5_used
      by_cases c1 : f < 0
      · rw [if_pos c1]; exact h61 V K 0 hR hK
      · rw [if_neg c1]
        by_cases c2 : e < f
        · rw [if_pos c2]; exact h61 V K 0 hR hK
        · rw [if_neg c2]
          by_cases c3 : V 60 1 < e
          · rw [if_pos c3]; exact h61 V K 0 hR hK
          · rw [if_neg c3]
            by_cases c4 : (1000 : Int32) < V 60 1 - f
            · rw [if_pos c4]; exact h61 V K 0 hR hK
            · rw [if_neg c4]; exact h61 V K 1 hR hK
