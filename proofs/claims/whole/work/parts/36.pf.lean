theorem ix16 (k i : Nat) : (16 : Int32) * nI k + nI i = nI (16 * k + i) := by
  show nI 16 * nI k + nI i = _
  rw [pk_mul, nI_add]
theorem ix30 (k i : Nat) : (30 : Int32) * nI k + nI i = nI (30 * k + i) := by
  show nI 30 * nI k + nI i = _
  rw [pk_mul, nI_add]
theorem ix32 (k i : Nat) : (32 : Int32) * nI k + nI i = nI (32 * k + i) := by
  show nI 32 * nI k + nI i = _
  rw [pk_mul, nI_add]
theorem ix30m (k : Nat) : (30 : Int32) * nI k = nI (30 * k) := by
  show nI 30 * nI k = _
  rw [pk_mul]
theorem ix32m (k : Nat) : (32 : Int32) * nI k = nI (32 * k) := by
  show nI 32 * nI k = _
  rw [pk_mul]
def FK (k : Nat) (V V' : St) : Prop := ∀ j i, ¬ own k j i → V' j i = V j i
theorem FK.refl (k : Nat) (V : St) : FK k V V := fun _ _ _ => rfl
theorem FK.trans {k : Nat} {V V1 V2 : St} (h : FK k V V1) (h2 : FK k V1 V2) : FK k V V2 := fun j i ho => (h2 j i ho).trans (h j i ho)
theorem FK.up {k : Nat} (V : St) {j i : Nat} {x : Int32} (h : own k j i) : FK k V (up2 V j i x) := fun a c ho => by
  rw [up2_at, if_neg]
  rintro ⟨rfl, rfl⟩
  exact ho h
theorem own_mm {k c : Nat} (h : 3 ≤ c) (h2 : c ≤ 16) : own k (mm c) k := by
  have := mm_rng c (by omega) h
  unfold own
  omega
theorem MSr.set {a q l t m : Nat → Int32} {z u p k : Nat} {V : St} (h : MSr (mkS a q l t m, z, u, p) V k) (c : Nat) (h3 : 3 ≤ c) (h16 : c ≤ 16) {v v' : Int32} (e : v = v') : MSr (mkS (upd a c v') q l t m, z, u, p) (up2 V (mm c) k v) k := by
  subst e
  have hc := mm_rng c (by omega) h3
  obtain ⟨h1, h2, h3', h4, h5, h6, h7, h8⟩ := h
  refine ⟨fun i x y => ?_, ?_, ?_, ?_, fun i hi => ?_, fun i hi => ?_, fun i hi => ?_, fun i hi => ?_⟩
  · have hh := h1 i x y
    show up2 V (mm c) k v (mm i) k = upd a c v i
    rw [up2_at, upd_at]
    by_cases e : i = c
    · rw [if_pos ⟨by rw [e], rfl⟩, if_pos e]
    · rw [if_neg (fun y2 => e (mm_inj i (by omega) c (by omega) x h3 y2.1)), if_neg e]
      exact hh
  · rw [up2_n (by omega), h2]
    show (if z = 0 then _ else a 17) = (if z = 0 then _ else upd a c v 17)
    rw [pk_un (by omega)]
  · rw [up2_n (by omega)]; exact h3'
  · rw [up2_n (by omega)]; exact h4
  · rw [up2_n (by omega)]; exact h5 i hi
  · rw [up2_n (by omega)]; exact h6 i hi
  · rw [up2_n (by omega)]; exact h7 i hi
  · rw [up2_n (by omega)]; exact h8 i hi
theorem sN_mono (f : Nat → Int32) : ∀ {i p : Nat}, i ≤ p → sN f i ≤ sN f p := by
  intro i p h
  induction p with
  | zero => have : i = 0 := by omega
            subst this; exact Nat.le_refl _
  | succ p ih =>
    by_cases e : i = p + 1
    · subst e; exact Nat.le_refl _
    · have := ih (by omega)
      show sN f i ≤ sN f p + (f p).toNatClampNeg
      omega
theorem m_bl {x : SA} {V : St} {k : Nat} {K : Int32 → St → Prop} (h : MSr x V k) (hk : k < 6) (hp : x.2.2.2 ≤ 16) (hm : ∀ i, i < x.2.2.2 → ∃ m : Nat, m ≤ 30 ∧ x.1 4 i = nI m) (hb : x.1 0 7 = nI (x.2.2.1 + sN (x.1 4) x.2.2.2)) (hub : x.2.2.1 + sN (x.1 4) x.2.2.2 ≤ 30) (hK : K (nI x.2.2.1) V) : wp_X5_budgetLeft V K (nI k) := by
  have hv : vp_in (nI k) 6 := vp_in_nI hk (by omega)
  unfold wp_X5_budgetLeft
  refine ⟨hv, ?_⟩
  rintro x1 rfl
  rw [nI_clamp (by omega)]
  have e65 : V 65 k = nI (x.2.2.1 + (sN (x.1 4) x.2.2.2 - sN (x.1 4) 0)) := by
    rw [show V 65 k = x.1 0 7 from h.1 7 (by omega) (by omega), hb]
    rfl
  rw [e65]
  refine ⟨x.2.2.2 + 1, lp_up (fun i (r : St → Int32 → Int32 → Prop) => r V (nI (x.2.2.1 + (sN (x.1 4) x.2.2.2 - sN (x.1 4) i))) (nI i)) x.2.2.2 ?_ ?_ x.2.2.2 0 (by omega)⟩
  · intro r
    unfold h_X5_budgetLeft_9
    rw [nI_clamp (by omega), h.2.2.2.1, if_pos (nI_le (Nat.le_refl _) (by omega)), Nat.sub_self]
    exact ⟨hv, hK⟩
  · intro i hi r hr
    obtain ⟨m, hm30, em⟩ := hm i hi
    have hs : sN (x.1 4) (i + 1) = sN (x.1 4) i + m := by
      show sN (x.1 4) i + (x.1 4 i).toNatClampNeg = _
      rw [em, nI_clamp (by omega)]
    have hmo := sN_mono (x.1 4) (i := i + 1) (p := x.2.2.2) (by omega)
    unfold h_X5_budgetLeft_9
    rw [nI_clamp (by omega), h.2.2.2.1, if_neg (nI_ge hi (by omega)), ix16, nI_clamp (by omega), nI_1]
    refine ⟨hv, vp_in_nI (by omega) (by omega), ?_⟩
    rintro x1 rfl
    rw [show V 75 (16 * k + i) = nI m from (h.2.2.2.2.2.2.2 i (by omega)).trans em, pk_sub (by omega)]
    rw [show x.2.2.1 + (sN (x.1 4) x.2.2.2 - sN (x.1 4) i) - m = x.2.2.1 + (sN (x.1 4) x.2.2.2 - sN (x.1 4) (i + 1)) by omega]
    exact hr
theorem m_bl0 {x : SA} {V : St} {k : Nat} {K : Int32 → St → Prop} (h : MSr x V k) (hk : k < 6) (hp : x.2.2.2 = 0) (hK : ∀ r, K r V) : wp_X5_budgetLeft V K (nI k) := by
  have hv : vp_in (nI k) 6 := vp_in_nI hk (by omega)
  unfold wp_X5_budgetLeft
  refine ⟨hv, ?_⟩
  rintro x1 rfl
  refine ⟨1, ?_⟩
  show h_X5_budgetLeft_9 K (nI k) _ V _ 0
  unfold h_X5_budgetLeft_9
  rw [nI_clamp (by omega), h.2.2.2.1, hp, if_pos (by decide)]
  exact ⟨hv, hK _⟩
/-- what a source that is told keeps, in one -/
theorem SW.told {lo t : Nat} {x : SA} (h : SW lo t x) (h1 : x.1 0 3 = 1) : x.2.2.2 ≤ 16 ∧ (∀ i, i < x.2.2.2 → ∃ m : Nat, m ≤ 30 ∧ x.1 4 i = nI m) ∧ x.1 0 7 = nI (x.2.2.1 + sN (x.1 4) x.2.2.2) ∧ x.2.2.1 + sN (x.1 4) x.2.2.2 ≤ 30 := by
  obtain ⟨a1, a2, a3, a4, a5, a6, a7, a8⟩ := h
  obtain ⟨tp, co, di, bu, pe, pr, fd, hh⟩ := a6 h1
  refine ⟨a2, fun i hi => ?_, ?_, by omega⟩
  · obtain ⟨q, m, b1, b2, b3, b4, b5, b6⟩ := a7 i hi
    exact ⟨m, b6, b4⟩
  · rw [show x.2.2.1 + sN (x.1 4) x.2.2.2 = bu by omega]
    exact hh.2.2.2.2.2.2.2.2.2.2.2.2.2.2.1
theorem m_ready {lo t : Nat} {x : SA} {V : St} {k : Nat} {K : Int32 → St → Prop} (h : MSr x V k) (hk : k < 6) (hw : SW lo t x) (hK : K (if x.1 0 3 = 1 ∧ 0 < x.2.1 ∧ 0 < x.2.2.1 then 1 else 0) V) : wp_X5_isReady V K (nI k) := by
  have hv : vp_in (nI k) 6 := vp_in_nI hk (by omega)
  unfold wp_X5_isReady
  rw [nI_clamp (by omega), show V 61 k = x.1 0 3 from h.1 3 (by omega) (by omega), h.2.2.1]
  refine ⟨hv, ?_⟩
  rcases hw.2.2.1 with h3 | h3
  · rw [if_pos h3]
    rw [if_neg (by rw [h3]; intro q; exact absurd q.1 (by decide))] at hK
    exact hK
  · rw [if_neg (by rw [h3]; decide)]
    refine ⟨hv, ?_⟩
    have hz := hw.1
    by_cases h1 : 0 < x.2.1
    · rw [if_neg (nI_nle h1 (by omega))]
      obtain ⟨b1, b2, b3, b4⟩ := hw.told h3
      refine m_bl h hk b1 b2 b3 b4 ?_
      by_cases h2 : 0 < x.2.2.1
      · rw [if_neg (nI_nle h2 (by omega))]
        rw [if_pos ⟨h3, h1, h2⟩] at hK
        exact hK
      · rw [show x.2.2.1 = 0 by omega, if_pos (by decide)]
        rw [if_neg (fun q => h2 q.2.2)] at hK
        exact hK
    · rw [show x.2.1 = 0 by omega, if_pos (by decide)]
      rw [if_neg (fun q => h1 q.2.1)] at hK
      exact hK
theorem m_spend {a q l t m : Nat → Int32} {z u p k : Nat} {V : St} {w : Int32} {K : St → Prop} (h : MSr (mkS a q l t m, z, u, p) V k) (hk : k < 6) (hp : p ≤ 16) (hK : ∀ V', MSr (mkS a q l (adT t p w) (adM t m p w), z, u, adP t p w) V' k → FK k V V' → K V') : wp_X5_spend V K (nI k) w := by
  have hv : vp_in (nI k) 6 := vp_in_nI hk (by omega)
  obtain ⟨h1, h2, h3, h4, h5, h6, h7, h8⟩ := h
  have ep : V 73 k = nI p := h4
  have h81 : ∀ l3 : Int32, l3 + 1 = nI (16 * k + p) → ¬ (0 < p ∧ (t (p - 1) = w ∨ p = 16)) → p < 16 → b_X5_spend_81 K (nI k) w V l3 := by
    intro l3 e hc hlt
    unfold b_X5_spend_81
    rw [e, nI_clamp (n := 16 * k + p) (by omega), nI_clamp (n := k) (by omega)]
    refine ⟨vp_in_nI (by omega) (by omega), ?_⟩
    rintro V1 rfl
    refine ⟨vp_in_nI (by omega) (by omega), ?_⟩
    rintro V2 rfl
    refine ⟨hv, hv, ?_⟩
    rintro V3 rfl
    refine hK _ ⟨fun i x y => ?_, ?_, ?_, ?_, fun i hi => ?_, fun i hi => ?_, fun i hi => ?_, fun i hi => ?_⟩ ?_
    · have := mm_rng i (by omega) x
      rw [up2_n (by omega), up2_n (by omega), up2_n (by omega)]; exact h1 i x y
    · rw [up2_n (by omega), up2_n (by omega), up2_n (by omega)]; exact h2
    · rw [up2_n (by omega), up2_n (by omega), up2_n (by omega)]; exact h3
    · rw [up2_ss, up2_n (by omega), up2_n (by omega), ep, nI_1]
      show _ = nI (adP t p w)
      rw [adP, if_neg hc]
    · rw [up2_n (by omega), up2_n (by omega), up2_n (by omega)]; exact h5 i hi
    · rw [up2_n (by omega), up2_n (by omega), up2_n (by omega)]; exact h6 i hi
    · rw [up2_n (by omega), up2_n (by omega), up2_at]
      show _ = adT t p w i
      rw [adT, if_neg hc, upd_at]
      by_cases e : i = p
      · rw [if_pos ⟨rfl, by omega⟩, if_pos e]
      · rw [if_neg (by omega), if_neg e]; exact h7 i hi
    · rw [up2_n (by omega), up2_at]
      show _ = adM t m p w i
      rw [adM, if_neg hc, upd_at]
      by_cases e : i = p
      · rw [if_pos ⟨rfl, by omega⟩, if_pos e]
      · rw [if_neg (by omega), if_neg e, up2_n (by omega)]; exact h8 i hi
    · exact ((FK.up _ (by unfold own; omega)).trans (FK.up _ (by unfold own; omega))).trans (FK.up _ (by unfold own; omega))
  have h44 : ∀ p', p = p' + 1 → (0 < p ∧ (t (p - 1) = w ∨ p = 16)) → b_X5_spend_44 K (nI k) w V (nI (16 * k + p')) := by
    intro p' e hc
    have hlt : p' < 16 := by omega
    have ep1 : p - 1 = p' := by omega
    have hvl : vp_in (nI (16 * k + p')) 96 := vp_in_nI (by omega) (by omega)
    have e7 : V 74 (16 * k + p') = t p' := h7 p' hlt
    have e8 : V 75 (16 * k + p') = m p' := h8 p' hlt
    have hfin : ∀ v, v = (if t p' < w then w else t p') → K (up2 (up2 V 75 (16 * k + p') (m p' + 1)) 74 (16 * k + p') v) := by
      intro v ev
      refine hK _ ⟨fun i x y => ?_, ?_, ?_, ?_, fun i hi => ?_, fun i hi => ?_, fun i hi => ?_, fun i hi => ?_⟩ ?_
      · have := mm_rng i (by omega) x
        rw [up2_n (by omega), up2_n (by omega)]; exact h1 i x y
      · rw [up2_n (by omega), up2_n (by omega)]; exact h2
      · rw [up2_n (by omega), up2_n (by omega)]; exact h3
      · rw [up2_n (by omega), up2_n (by omega), ep]
        show _ = nI (adP t p w)
        rw [adP, if_pos hc]
      · rw [up2_n (by omega), up2_n (by omega)]; exact h5 i hi
      · rw [up2_n (by omega), up2_n (by omega)]; exact h6 i hi
      · rw [up2_at]
        show _ = adT t p w i
        rw [adT, if_pos hc, upd_at, ep1]
        by_cases e : i = p'
        · rw [if_pos ⟨rfl, by omega⟩, if_pos e]; exact ev
        · rw [if_neg (by omega), if_neg e, up2_n (by omega)]; exact h7 i hi
      · rw [up2_n (by omega), up2_at]
        show _ = adM t m p w i
        rw [adM, if_pos hc, upd_at, ep1]
        by_cases e : i = p'
        · rw [if_pos ⟨rfl, by omega⟩, if_pos e]
        · rw [if_neg (by omega), if_neg e]; exact h8 i hi
      · exact (FK.up _ (by unfold own; omega)).trans (FK.up _ (by unfold own; omega))
    unfold b_X5_spend_44
    rw [nI_clamp (by omega)]
    refine ⟨hvl, hvl, ?_⟩
    rintro V1 rfl
    rw [e8]
    rw [show up2 V 75 (16 * k + p') (m p' + 1) 74 (16 * k + p') = t p' by rw [up2_n (by omega)]; exact e7]
    refine ⟨hvl, ?_⟩
    by_cases hle : w ≤ t p'
    · rw [if_pos hle]
      refine ⟨hvl, hvl, ?_⟩
      rintro V2 rfl
      refine hfin _ ?_
      rw [if_neg (Int32.not_lt.mpr hle)]
    · rw [if_neg hle]
      refine ⟨hvl, ?_⟩
      rintro V2 rfl
      refine hfin _ ?_
      rw [if_pos (Int32.not_le.mp hle)]
  unfold wp_X5_spend
  refine ⟨hv, ?_⟩
  rintro x1 rfl
  rw [nI_clamp (by omega), ep, ix16]
  refine ⟨hv, ?_⟩
  rcases Nat.eq_zero_or_pos p with h0 | h0
  · subst h0
    rw [if_pos (by decide)]
    exact h81 _ (Int32.sub_add_cancel _ _) (by omega) (by omega)
  · obtain ⟨p', rfl⟩ : ∃ p', p = p' + 1 := ⟨p - 1, by omega⟩
    rw [if_neg (nI_nle (by omega) (by omega)), show 16 * k + (p' + 1) = (16 * k + p') + 1 from rfl, nI_pred, nI_clamp (by omega), show V 74 (16 * k + p') = t p' from h7 p' (by omega)]
    refine ⟨vp_in_nI (by omega) (by omega), ?_⟩
    by_cases hw : t p' = w
    · rw [if_pos hw]
      exact h44 p' rfl ⟨h0, Or.inl hw⟩
    · rw [if_neg hw]
      refine ⟨hv, ?_⟩
      by_cases h16 : p' + 1 = 16
      · rw [if_pos (keq (c := 16) h16)]
        exact h44 p' rfl ⟨h0, Or.inr h16⟩
      · rw [if_neg (kne (c := 16) h16 (by omega))]
        refine h81 _ (nI_1 _) ?_ (by omega)
        rintro ⟨-, hh | hh⟩
        · exact hw hh
        · exact h16 hh
