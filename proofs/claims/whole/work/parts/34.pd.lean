def adT (t : Nat → Int32) (p : Nat) (w : Int32) : Nat → Int32 := if 0 < p ∧ (t (p - 1) = w ∨ p = 16) then upd t (p - 1) (if t (p - 1) < w then w else t (p - 1)) else upd t p w
def adM (t m : Nat → Int32) (p : Nat) (w : Int32) : Nat → Int32 := if 0 < p ∧ (t (p - 1) = w ∨ p = 16) then upd m (p - 1) (m (p - 1) + 1) else upd m p 1
def adP (t : Nat → Int32) (p : Nat) (w : Int32) : Nat := if 0 < p ∧ (t (p - 1) = w ∨ p = 16) then p else p + 1
theorem c_add {a q l t m : Nat → Int32} {z u p b : Nat} {V : St} {w : Int32} {K : St → Prop} (h : CS (mkS a q l t m, z, u, p) V b) (hp : p ≤ 16) (hK : ∀ V', CS (mkS a q l (adT t p w) (adM t m p w), z, u, adP t p w) V' b → F8 b V V' → K V') : wp_X1_add V K (b + 5) w := by
  have ep : V (b + 5) 2 = nI p := h.2.2.2.1
  have et : ∀ i, i < 16 → V (b + 6) i = t i := h.2.2.2.2.1
  have em : ∀ i, i < 16 → V (b + 7) i = m i := h.2.2.2.2.2
  have h57 : ¬ (0 < p ∧ (t (p - 1) = w ∨ p = 16)) → p < 16 → b_X1_add_57 K (b + 5) w V := by
    intro hc hlt
    unfold b_X1_add_57
    rw [ep]
    refine ⟨vp_in_nI hlt (by omega), ?_⟩
    rintro V1 rfl
    rw [nI_clamp (by omega), show up2 V (b + 5 + 1) p w (b + 5) 2 = nI p by rw [up2_n (by omega), ep], nI_clamp (by omega)]
    refine ⟨vp_in_nI hlt (by omega), ?_⟩
    rintro V2 rfl V3 rfl
    refine hK _ (CS.pc h ?_ ?_ ?_ ?_) ?_
    · rw [up2_ss, up2_n (by omega), up2_n (by omega), ep, nI_1, adP, if_neg hc]
    · intro i hi
      rw [up2_n (by omega), up2_n (by omega), adT, if_neg hc, up2_at, upd_at]
      by_cases e : i = p
      · rw [if_pos ⟨rfl, e⟩, if_pos e]
      · rw [if_neg (fun y => e y.2), if_neg e]; exact et i hi
    · intro i hi
      rw [up2_n (by omega), adM, if_neg hc, up2_at, upd_at]
      by_cases e : i = p
      · rw [if_pos ⟨rfl, e⟩, if_pos e]
      · rw [if_neg (fun y => e y.2), if_neg e, up2_n (by omega)]; exact em i hi
    · intro j h1 h2 h3
      rw [up2_n (by omega), up2_n (by omega), up2_n (by omega)]
    · intro j hj
      rw [up2_n (by omega), up2_n (by omega), up2_n (by omega)]
  have h30 : ∀ p', p = p' + 1 → (0 < p ∧ (t (p - 1) = w ∨ p = 16)) → b_X1_add_30 K (b + 5) w V (nI p') := by
    intro p' e hc
    have hlt : p' < 16 := by omega
    have hv : vp_in (nI p') 16 := vp_in_nI hlt (by omega)
    unfold b_X1_add_30
    rw [nI_clamp (by omega)]
    refine ⟨hv, hv, ?_⟩
    rintro V1 rfl
    refine ⟨hv, hv, ?_⟩
    rintro V2 rfl
    have e6 : up2 V (b + 5 + 2) p' (V (b + 5 + 2) p' + 1) (b + 5 + 1) p' = t p' := by rw [up2_n (by omega)]; exact et p' hlt
    have ep1 : p - 1 = p' := by omega
    rw [e6]
    refine hK _ (CS.pc h ?_ ?_ ?_ ?_) ?_
    · rw [up2_n (by omega), up2_n (by omega), ep, adP, if_pos hc]
    · intro i hi
      rw [adT, if_pos hc, up2_at, upd_at, ep1]
      by_cases e : i = p'
      · rw [if_pos ⟨rfl, e⟩, if_pos e]
      · rw [if_neg (fun y => e y.2), if_neg e, up2_n (by omega)]; exact et i hi
    · intro i hi
      rw [up2_n (by omega), adM, if_pos hc, up2_at, upd_at, ep1]
      by_cases e : i = p'
      · rw [if_pos ⟨rfl, e⟩, if_pos e]
        show V (b + 7) p' + 1 = _
        rw [em p' hlt]
      · rw [if_neg (fun y => e y.2), if_neg e]; exact em i hi
    · intro j h1 h2 h3
      rw [up2_n (by omega), up2_n (by omega)]
    · intro j hj
      rw [up2_n (by omega), up2_n (by omega)]
  unfold wp_X1_add
  rintro x1 rfl
  rw [ep]
  rcases Nat.eq_zero_or_pos p with h0 | h0
  · subst h0
    rw [if_pos (by decide)]
    exact h57 (by omega) (by omega)
  · obtain ⟨p', rfl⟩ : ∃ p', p = p' + 1 := ⟨p - 1, by omega⟩
    rw [nI_pred, if_neg (nI_pos (by omega)), nI_clamp (by omega), show V (b + 5 + 1) p' = t p' from et p' (by omega)]
    refine ⟨vp_in_nI (by omega) (by omega), ?_⟩
    by_cases hw : t p' = w
    · rw [if_pos hw]
      exact h30 p' rfl ⟨h0, Or.inl hw⟩
    · rw [if_neg hw]
      by_cases h16 : p' + 1 = 16
      · rw [if_neg (knlt (c := 16) (by omega) (by omega))]
        exact h30 p' rfl ⟨h0, Or.inr h16⟩
      · rw [if_pos (klt (c := 16) (by omega))]
        refine h57 ?_ (by omega)
        rintro ⟨-, hh | hh⟩
        · exact hw hh
        · exact h16 hh
def snA (t : Int32) (x : SA) : Int32 := if t - (if x.1 2 0 < x.1 0 17 then x.1 0 17 else x.1 2 0) < x.1 0 8 then (if x.1 2 0 < x.1 0 17 then x.1 0 17 else x.1 2 0) else t
def spA (t : Int32) (x : SA) : SA := (mkS (x.1 0) (x.1 1) (fun i => x.1 2 (i + 1)) (adT (x.1 3) x.2.2.2 (snA t x + x.1 0 8)) (adM (x.1 3) (x.1 4) x.2.2.2 (snA t x + x.1 0 8)), x.2.1, x.2.2.1 - 1, adP (x.1 3) x.2.2.2 (snA t x + x.1 0 8))
def fdA (x : SA) : SA := (mkS (upd (x.1 0) 16 (x.1 0 16 + 1)) (x.1 1) (x.1 2) (x.1 3) (x.1 4), x.2)
def fnR (t : Int32) (x : SA) : Nat → Int32 := upd (upd (upd (x.1 0) 15 (if x.1 0 15 < t + 1 - x.1 1 0 then t + 1 - x.1 1 0 else x.1 0 15)) 16 0) 12 (x.1 0 12 + 1)
def fnA (t : Int32) (x : SA) : SA := (mkS (if 8 < x.2.1 - 1 then fnR t x else upd (fnR t x) 10 0) (fun i => x.1 1 (i + 1)) (x.1 2) (x.1 3) (x.1 4), x.2.1 - 1, x.2.2)
def hA (t : Int32) (x : SA) : SA := if x.1 0 16 + 1 < x.1 0 5 then fdA (spA t x) else fnA t (fdA (spA t x))
theorem c_spend {x : SA} {V : St} {b : Nat} {K : St → Prop} {t : Int32} (h : CS x V b) (hu : 0 < x.2.2.1) (hp : x.2.2.2 ≤ 16) (hK : ∀ V', CS (spA t x) V' b → F8 b V V' → K V') : wp_X3_spendUnit V K b t := by
  obtain ⟨u', eu⟩ : ∃ u', x.2.2.1 = u' + 1 := ⟨x.2.2.1 - 1, by omega⟩
  have hb : ∀ s, s + x.1 0 8 = snA t x + x.1 0 8 → b_X3_spendUnit_27 K b t V s := by
    intro s es
    have hR := h.2.2.1
    rw [eu] at hR
    refine ring_rem hR (by omega) ?_
    intro V1 hR1 hF1
    have e8 : V1 b 8 = x.1 0 8 := by rw [hF1 b (by omega)]; exact h.1 8 (by omega) (by omega)
    rw [e8, es]
    refine c_add (CS.l (a := x.1 0) (q := x.1 1) (l := x.1 2) (t := x.1 3) (m := x.1 4) (z := x.2.1) (u := x.2.2.1) (p := x.2.2.2) h hR1 (fun j h1 h2 => hF1 j h1)) hp ?_
    intro V2 hC2 hF2
    refine hK V2 ?_ (fun j hj => by rw [hF2 j hj]; exact hF1 j (by omega))
    unfold spA
    rw [eu]
    exact hC2
  unfold wp_X3_spendUnit
  refine ring_first h.2.2.1 hu (by omega) ?_
  rintro x3 rfl
  rw [h.1 17 (by omega) (by omega), h.1 8 (by omega) (by omega)]
  have hs : snA t x = if t - (if x.1 2 0 < x.1 0 17 then x.1 0 17 else x.1 2 0) < x.1 0 8 then (if x.1 2 0 < x.1 0 17 then x.1 0 17 else x.1 2 0) else t := rfl
  by_cases hc : t - (if x.1 2 0 < x.1 0 17 then x.1 0 17 else x.1 2 0) < x.1 0 8
  · rw [if_pos hc] at hs ⊢
    exact hb _ (by rw [hs])
  · rw [if_neg hc] at hs ⊢
    exact hb _ (by rw [hs])
theorem c_fin {x : SA} {V : St} {b : Nat} {K : St → Prop} {t : Int32} (h : CS x V b) (hz : 0 < x.2.1) (hK : ∀ V', CS (fnA t x) V' b → F8 b V V' → K V') : wp_X3_finishFirst V K b (t + 1) := by
  obtain ⟨z', ez⟩ : ∃ z', x.2.1 = z' + 1 := ⟨x.2.1 - 1, by omega⟩
  unfold wp_X3_finishFirst
  refine ring_first h.2.1 hz (by omega) ?_
  rintro V3 rfl
  rw [h.1 15 (by omega) (by omega)]
  have hC3 := CS.set (a := x.1 0) (q := x.1 1) (l := x.1 2) (t := x.1 3) (m := x.1 4) (z := x.2.1) (u := x.2.2.1) (p := x.2.2.2) h 15 (v := if x.1 0 15 < t + 1 - x.1 1 0 then t + 1 - x.1 1 0 else x.1 0 15) rfl
  have hR := hC3.2.1
  have hz32 : x.2.1 ≤ 32 := h.2.1.le
  change Ring _ _ _ x.2.1 _ at hR
  rw [ez] at hR
  refine ring_rem hR (by omega) ?_
  intro V4 hR4 hF4
  have hC4 := CS.q hC3 hR4 (fun j h1 h2 => hF4 j h1)
  rintro V5 rfl V6 rfl
  have hC5 := CS.set hC4 16 (rfl : (0 : Int32) = 0)
  have hC6 := CS.set hC5 12 (show up2 V4 b 16 0 b 12 + 1 = x.1 0 12 + 1 by
    rw [hC5.1 12 (by omega) (by omega)]
    show upd (upd (x.1 0) 15 (if x.1 0 15 < t + 1 - x.1 1 0 then t + 1 - x.1 1 0 else x.1 0 15)) 16 0 12 + 1 = x.1 0 12 + 1
    rw [pk_un (by omega), pk_un (by omega)])
  have hz6 := hC6.2.1.size
  have hF6 : F8 b V (up2 (up2 V4 b 16 0) b 12 (up2 V4 b 16 0 b 12 + 1)) := fun j hj => by
    rw [up2_n (by omega), up2_n (by omega), hF4 j (by omega), up2_n (by omega)]
  change _ = nI z' at hz6
  rw [hz6]
  by_cases h8 : 8 < z'
  · rw [if_pos (clt h8 (by omega))]
    refine hK _ ?_ hF6
    unfold fnA
    rw [ez, if_pos (by omega)]
    exact hC6
  · rw [if_neg (cnlt (c := 8) (by omega))]
    refine ⟨Or.inl rfl, ?_⟩
    rintro V7 rfl
    refine hK _ ?_ (fun j hj => by rw [up2_n (by omega)]; exact hF6 j hj)
    unfold fnA
    rw [ez, if_neg (by omega)]
    exact CS.set hC6 10 rfl
theorem c_handler {x : SA} {V : St} {b : Nat} {K : St → Prop} {t : Int32} (h : CS x V b) (hz : 0 < x.2.1) (hu : 0 < x.2.2.1) (hp : x.2.2.2 ≤ 16) (hK : ∀ V', CS (hA t x) V' b → F8 b V V' → K V') : wp_X3_runHandler V K b t := by
  unfold wp_X3_runHandler
  refine c_spend h hu hp ?_
  intro V1 hC1 hF1
  rintro V2 rfl
  have hC2 : CS (fdA (spA t x)) (up2 V1 b 16 (V1 b 16 + 1)) b := CS.set hC1 16 (by rw [hC1.1 16 (by omega) (by omega)])
  have hF2 : F8 b V (up2 V1 b 16 (V1 b 16 + 1)) := fun j hj => by rw [up2_n (by omega)]; exact hF1 j hj
  rw [hC2.1 16 (by omega) (by omega), hC2.1 5 (by omega) (by omega)]
  have e16 : (fdA (spA t x)).1 0 16 = x.1 0 16 + 1 := by
    show upd (x.1 0) 16 (x.1 0 16 + 1) 16 = _
    exact pk_us
  have e5 : (fdA (spA t x)).1 0 5 = x.1 0 5 := by
    show upd (x.1 0) 16 (x.1 0 16 + 1) 5 = _
    exact pk_un (by omega)
  rw [e16, e5]
  by_cases hc : x.1 0 16 + 1 < x.1 0 5
  · rw [if_pos hc]
    refine hK _ ?_ hF2
    unfold hA
    rw [if_pos hc]
    exact hC2
  · rw [if_neg hc]
    refine c_fin hC2 hz ?_
    intro V3 hC3 hF3
    refine hK _ ?_ (fun j hj => by rw [hF3 j hj]; exact hF2 j hj)
    unfold hA
    rw [if_neg hc]
    exact hC3
