theorem MSr.congA {a a' q l T M : Nat → Int32} {z u p k : Nat} {V : St} (h : MSr (mkS a q l T M, z, u, p) V k) (e : ∀ i, i ≤ 17 → a i = a' i) : MSr (mkS a' q l T M, z, u, p) V k := by
  obtain ⟨h1, h2, h3, h4, h5, h6, h7, h8⟩ := h
  refine ⟨fun i x y => (h1 i x y).trans (e i (by omega)), ?_, h3, h4, h5, h6, h7, h8⟩
  rw [h2]
  show (if z = 0 then (-1 : Int32) else a 17) = if z = 0 then (-1 : Int32) else a' 17
  rw [e 17 (by omega)]
theorem m_handler {lo t : Nat} {x : SA} {V : St} {k : Nat} {K : St → Prop} (h : MSr x V k) (hk : k < 6) (hw : SW lo t x) (h3 : x.1 0 3 = 1) (hz : 0 < x.2.1) (hu : 0 < x.2.2.1) (ht : V 60 1 = nI t) (hK : ∀ V', MSr (hA (nI t) x) V' k → FK k V V' → K V') : wp_X5_runHandler V K (nI k) := by
  have hv : vp_in (nI k) 6 := vp_in_nI hk (by omega)
  obtain ⟨b1, b2, b3, b4⟩ := hw.told h3
  have hz32 := hw.1
  have hu30 := hw.u30
  obtain ⟨z', ez⟩ : ∃ z', x.2.1 = z' + 1 := ⟨x.2.1 - 1, by omega⟩
  obtain ⟨u', eu⟩ : ∃ u', x.2.2.1 = u' + 1 := ⟨x.2.2.1 - 1, by omega⟩
  unfold wp_X5_runHandler
  refine m_bl h hk b1 b2 b3 b4 ?_
  have h' := h
  obtain ⟨h1, h2, h3', h4, h5, h6, h7, h8⟩ := h'
  have e72 : V 72 (30 * k) = x.1 2 0 := h6 0 hu
  have e71 : V 71 k = x.1 0 17 := by rw [h2, if_neg (by omega)]
  have h42 : ∀ s0, s0 = (if x.1 2 0 < x.1 0 17 then x.1 0 17 else x.1 2 0) → b_X5_runHandler_42 K (nI k) V (nI x.2.2.1) s0 := by
    intro s0 es
    unfold b_X5_runHandler_42
    rintro x1 rfl
    rw [ix30m, nI_1]
    refine ⟨u' + 1, lp_up (fun i (r : St → Int32 → Int32 → Int32 → Prop) => ∀ V' : St, (∀ j, j < u' + 1 → V' 72 (30 * k + j) = if j < i then x.1 2 (j + 1) else x.1 2 j) → (∀ j c, ¬ (j = 72 ∧ 30 * k ≤ c ∧ c < 30 * k + 30) → V' j c = V j c) → r V' (nI x.2.2.1) s0 (nI (30 * k + 1 + i))) u' ?_ ?_ u' 0 (by omega) V (fun j hj => ?_) (fun _ _ _ => rfl)⟩
    · intro r V' e hF
      have hF' : FK k V V' := fun j c ho => hF j c (fun q => ho (by unfold own; omega))
      have hM' : MSr (mkS (x.1 0) (x.1 1) (fun i => x.1 2 (i + 1)) (x.1 3) (x.1 4), x.2.1, u', x.2.2.2) V' k := by
        refine ⟨M0.fr (a := x.1 0) h1 (fun j _ _ _ _ _ _ _ _ _ => hF _ _ (by omega)), ?_, ?_, ?_, fun i hi => ?_, fun i hi => ?_, fun i hi => ?_, fun i hi => ?_⟩
        · rw [hF _ _ (by omega)]; exact h2
        · rw [hF _ _ (by omega)]; exact h3'
        · rw [hF _ _ (by omega)]; exact h4
        · rw [hF _ _ (by omega)]; exact h5 i hi
        · change i < u' at hi
          rw [e i (by omega), if_pos hi]; rfl
        · rw [hF _ _ (by omega)]; exact h7 i hi
        · rw [hF _ _ (by omega)]; exact h8 i hi
      have e66 : V' 66 k = x.1 0 8 := hM'.1 8 (by omega) (by omega)
      have e60 : V' 60 1 = nI t := by rw [hF _ _ (by omega)]; exact ht
      have h107 : ∀ s, s = snA (nI t) x → b_X5_runHandler_107 K (nI k) V' s := by
        intro s es2
        unfold b_X5_runHandler_107
        rw [nI_clamp (by omega), e66, es2]
        refine ⟨hv, ?_⟩
        refine m_spend hM' hk b1 ?_
        intro V1 hM1 hF1
        refine ⟨hv, hv, ?_⟩
        rw [show V1 70 k = x.1 0 16 from hM1.1 16 (by omega) (by omega)]
        rintro V2 rfl
        have hM2 : MSr (mkS (upd (x.1 0) 16 (x.1 0 16 + 1)) (x.1 1) (fun i => x.1 2 (i + 1)) (adT (x.1 3) x.2.2.2 (snA (nI t) x + x.1 0 8)) (adM (x.1 3) (x.1 4) x.2.2.2 (snA (nI t) x + x.1 0 8)), x.2.1, u', adP (x.1 3) x.2.2.2 (snA (nI t) x + x.1 0 8)) (up2 V1 70 k (x.1 0 16 + 1)) k := MSr.set hM1 16 (by omega) (by omega) rfl
        have hF2 : FK k V (up2 V1 70 k (x.1 0 16 + 1)) := (hF'.trans hF1).trans (FK.up _ (by unfold own; omega))
        rw [up2_ss, show up2 V1 70 k (x.1 0 16 + 1) 63 k = x.1 0 5 from (hM2.1 5 (by omega) (by omega)).trans (show upd (x.1 0) 16 (x.1 0 16 + 1) 5 = x.1 0 5 from pk_un (by omega))]
        refine ⟨hv, hv, ?_⟩
        obtain ⟨tp, co, di, bu, pe, pr, fd, g1, g2, g3, g4, g5, g6, g7, g8, g9, g10, g11, g12, g13, g14, g15, g16, g17, g18, g19⟩ := hw.2.2.2.2.2.1 h3
        by_cases hc : x.1 0 16 + 1 = x.1 0 5
        · rw [if_pos hc]
          have hnlt : ¬ x.1 0 16 + 1 < x.1 0 5 := by rw [hc]; exact Int32.lt_irrefl
          refine ⟨hv, ?_⟩
          rintro V3 rfl
          have hM3 := MSr.set hM2 16 (by omega) (by omega) (rfl : (0 : Int32) = 0)
          have hF3 : FK k V (up2 (up2 V1 70 k (x.1 0 16 + 1)) 70 k 0) := hF2.trans (FK.up _ (by unfold own; omega))
          rw [ix32m, nI_clamp (by omega)]
          refine ⟨vp_in_nI (by omega) (by omega), ?_⟩
          have e601 : up2 (up2 V1 70 k (x.1 0 16 + 1)) 70 k 0 60 1 = nI t := by
            rw [hF3 60 1 (by unfold own; omega)]; exact ht
          have e69 : up2 (up2 V1 70 k (x.1 0 16 + 1)) 70 k 0 69 (32 * k) = x.1 1 0 := hM3.2.2.2.2.1 0 hz
          have e81 : up2 (up2 V1 70 k (x.1 0 16 + 1)) 70 k 0 81 k = x.1 0 15 := by
            refine (hM3.1 15 (by omega) (by omega)).trans ?_
            show upd (upd (x.1 0) 16 (x.1 0 16 + 1)) 16 0 15 = _
            rw [pk_un (by omega), pk_un (by omega)]
          rw [e601, e69, e81]
          rintro x4 rfl
          refine ⟨hv, ?_⟩
          have h198 : ∀ s9, s9 = (if x.1 0 15 < nI t + 1 - x.1 1 0 then nI t + 1 - x.1 1 0 else x.1 0 15) → b_X5_runHandler_198 K (nI k) (up2 (up2 V1 70 k (x.1 0 16 + 1)) 70 k 0) s9 (nI k) := by
            intro s9 e9
            rw [ez] at hM3
            have a15 : upd (upd (x.1 0) 16 (x.1 0 16 + 1)) 16 0 15 = x.1 0 15 := by rw [pk_un (by omega), pk_un (by omega)]
            have a10 : upd (upd (x.1 0) 16 (x.1 0 16 + 1)) 16 0 10 = x.1 0 10 := by rw [pk_un (by omega), pk_un (by omega)]
            have a12 : upd (upd (x.1 0) 16 (x.1 0 16 + 1)) 16 0 12 = x.1 0 12 := by rw [pk_un (by omega), pk_un (by omega)]
            refine m_fin (t := t) hM3 hk (by omega) (by rw [a15]; exact e9) (by rw [a10]; exact hw.2.2.2.1) pk_us ?_
            intro a' V' ha hM hF9
            refine hK V' ?_ (hF3.trans hF9)
            unfold hA
            rw [if_neg hnlt]
            unfold fnA
            show MSr (mkS (if 8 < x.2.1 - 1 then _ else _) _ _ _ _, x.2.1 - 1, x.2.2.1 - 1, _) V' k
            rw [ez, eu]
            refine MSr.congA hM (fun i hi => ?_)
            rw [ha i hi, a10, a12]
            have f15 : (fdA (spA (nI t) x)).1 0 15 = x.1 0 15 := by
              show upd (x.1 0) 16 (x.1 0 16 + 1) 15 = _
              exact pk_un (by omega)
            have f12 : (fdA (spA (nI t) x)).1 0 12 = x.1 0 12 := by
              show upd (x.1 0) 16 (x.1 0 16 + 1) 12 = _
              exact pk_un (by omega)
            have hR : ∀ i, fnR (nI t) (fdA (spA (nI t) x)) i = if i = 12 then x.1 0 12 + 1 else if i = 16 then 0 else if i = 15 then s9 else upd (x.1 0) 16 (x.1 0 16 + 1) i := by
              intro i
              unfold fnR
              rw [f15, f12, upd_at, upd_at, upd_at, e9]
              rfl
            show _ = (if 8 < z' + 1 - 1 then fnR (nI t) (fdA (spA (nI t) x)) else upd (fnR (nI t) (fdA (spA (nI t) x))) 10 0) i
            have hR10 : fnR (nI t) (fdA (spA (nI t) x)) 10 = x.1 0 10 := by
              rw [hR, if_neg (by omega), if_neg (by omega), if_neg (by omega), pk_un (by omega)]
            by_cases e10 : i = 10
            · subst e10
              rw [if_pos rfl]
              by_cases h8z : 8 < z'
              · rw [if_pos h8z, if_pos (by omega), hR10]
              · rw [if_neg h8z, if_neg (by omega), pk_us]
            · rw [if_neg e10]
              have : (if 8 < z' + 1 - 1 then fnR (nI t) (fdA (spA (nI t) x)) else upd (fnR (nI t) (fdA (spA (nI t) x))) 10 0) i = fnR (nI t) (fdA (spA (nI t) x)) i := by
                split
                · rfl
                · exact pk_un e10
              rw [this, hR]
              by_cases e12 : i = 12
              · rw [if_pos e12, if_pos e12]
              · rw [if_neg e12, if_neg e12]
                by_cases e15 : i = 15
                · rw [if_pos e15, if_neg (by omega), if_pos e15]
                · rw [if_neg e15, if_neg e15, upd_at, upd_at]
          by_cases hle : nI t + 1 - x.1 1 0 ≤ x.1 0 15
          · rw [if_pos hle]
            exact ⟨hv, h198 _ (by rw [if_neg (Int32.not_lt.mpr hle)])⟩
          · rw [if_neg hle]
            exact h198 _ (by rw [if_pos (Int32.not_le.mp hle)])
        · rw [if_neg hc]
          refine hK _ ?_ hF2
          unfold hA
          have hlt : x.1 0 16 + 1 < x.1 0 5 := by
            rw [g18, g13, nI_1] at hc ⊢
            refine nI_lt ?_ (by omega)
            have : fd + 1 ≠ co := fun q => hc (by rw [q])
            omega
          rw [if_pos hlt]
          show MSr (mkS _ _ _ _ _, x.2.1, x.2.2.1 - 1, _) _ k
          rw [eu]
          exact hM2
      unfold h_X5_runHandler_51
      rw [ix30, eu, if_pos (nI_le (by omega) (by omega)), nI_clamp (by omega), e60, e66]
      refine ⟨hv, ?_⟩
      have hsn : snA (nI t) x = if nI t - s0 < x.1 0 8 then s0 else nI t := by
        rw [es]; rfl
      by_cases hc : nI t - s0 < x.1 0 8
      · rw [if_pos hc]
        exact h107 _ (by rw [hsn, if_pos hc])
      · rw [if_neg hc]
        exact h107 _ (by rw [hsn, if_neg hc])
    · intro i hi r hr V' e hF
      unfold h_X5_runHandler_51
      rw [ix30, eu, if_neg (nI_ge (by omega) (by omega)), nI_1, show 30 * k + 1 + i = (30 * k + i) + 1 by omega, nI_pred, nI_clamp (by omega), nI_clamp (by omega)]
      refine ⟨vp_in_nI (by omega) (by omega), vp_in_nI (by omega) (by omega), ?_⟩
      rintro V1 rfl
      rw [eu] at hr
      rw [show 30 * k + i + 1 + 1 = 30 * k + 1 + (i + 1) by omega]
      refine hr _ (fun j hj => ?_) (fun j c hn => ?_)
      · rw [up2_at]
        by_cases ej : j = i
        · subst ej
          rw [if_pos ⟨rfl, rfl⟩, if_pos (by omega), show 30 * k + j + 1 = 30 * k + (j + 1) from rfl, e (j + 1) (by omega), if_neg (by omega)]
        · rw [if_neg (by omega), e j hj]
          by_cases e2 : j < i
          · rw [if_pos e2, if_pos (by omega)]
          · rw [if_neg e2, if_neg (by omega)]
      · rw [up2_at, if_neg (by omega)]
        exact hF j c hn
    · rw [if_neg (Nat.not_lt_zero j)]
      exact h6 j (by omega)
  rw [ix30m, nI_clamp (by omega), nI_clamp (by omega), e72, e71]
  refine ⟨vp_in_nI (by omega) (by omega), hv, ?_⟩
  by_cases hle : x.1 2 0 ≤ x.1 0 17
  · rw [if_pos hle]
    refine ⟨hv, h42 _ ?_⟩
    by_cases hlt : x.1 2 0 < x.1 0 17
    · rw [if_pos hlt]
    · rw [if_neg hlt]
      exact Int32.le_antisymm (Int32.not_lt.mp hlt) hle
  · rw [if_neg hle]
    refine ⟨vp_in_nI (by omega) (by omega), h42 _ ?_⟩
    rw [if_neg (fun q => hle (Int32.le_of_lt q))]
