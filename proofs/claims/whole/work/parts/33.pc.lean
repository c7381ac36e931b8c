def mkS (a q l t m : Nat → Int32) : St := fun j => match j with
  | 0 => a | 1 => q | 2 => l | 3 => t | _ => m
theorem CS.set {a q l t m : Nat → Int32} {z u p b : Nat} {V : St} (h : CS (mkS a q l t m, z, u, p) V b) (c : Nat) {v v' : Int32} (e : v = v') : CS (mkS (upd a c v') q l t m, z, u, p) (up2 V b c v) b := by
  subst e
  obtain ⟨h1, h2, h3, h4, h5, h6⟩ := h
  refine ⟨fun i x y => ?_, h2.fr (up2_n (by omega)) (up2_n (by omega)), h3.fr (up2_n (by omega)) (up2_n (by omega)), ?_, fun i hi => ?_, fun i hi => ?_⟩
  · have := h1 i x y
    show up2 V b c v b i = upd a c v i
    rw [up2_s, upd_at, upd_at]
    split
    · rfl
    · exact this
  · rw [up2_n (by omega)]; exact h4
  · rw [up2_n (by omega)]; exact h5 i hi
  · rw [up2_n (by omega)]; exact h6 i hi
theorem CS.q {a q l t m q' : Nat → Int32} {z u p b z' : Nat} {V V' : St} (h : CS (mkS a q l t m, z, u, p) V b) (hR : Ring V' (b + 1) 32 z' q') (e : ∀ j, j ≠ b + 1 → j ≠ b + 2 → V' j = V j) : CS (mkS a q' l t m, z', u, p) V' b := by
  obtain ⟨h1, h2, h3, h4, h5, h6⟩ := h
  refine ⟨fun i x y => ?_, hR, h3.fr (e _ (by omega) (by omega)) (e _ (by omega) (by omega)), ?_, fun i hi => ?_, fun i hi => ?_⟩
  · rw [e _ (by omega) (by omega)]; exact h1 i x y
  · rw [e _ (by omega) (by omega)]; exact h4
  · rw [e _ (by omega) (by omega)]; exact h5 i hi
  · rw [e _ (by omega) (by omega)]; exact h6 i hi
theorem CS.l {a q l t m l' : Nat → Int32} {z u p b u' : Nat} {V V' : St} (h : CS (mkS a q l t m, z, u, p) V b) (hR : Ring V' (b + 3) 30 u' l') (e : ∀ j, j ≠ b + 3 → j ≠ b + 4 → V' j = V j) : CS (mkS a q l' t m, z, u', p) V' b := by
  obtain ⟨h1, h2, h3, h4, h5, h6⟩ := h
  refine ⟨fun i x y => ?_, h2.fr (e _ (by omega) (by omega)) (e _ (by omega) (by omega)), hR, ?_, fun i hi => ?_, fun i hi => ?_⟩
  · rw [e _ (by omega) (by omega)]; exact h1 i x y
  · rw [e _ (by omega) (by omega)]; exact h4
  · rw [e _ (by omega) (by omega)]; exact h5 i hi
  · rw [e _ (by omega) (by omega)]; exact h6 i hi
theorem CS.pc {a q l t m t' m' : Nat → Int32} {z u p b p' : Nat} {V V' : St} (h : CS (mkS a q l t m, z, u, p) V b) (hp : V' (b + 5) 2 = nI p') (ht : ∀ i, i < 16 → V' (b + 6) i = t' i) (hm : ∀ i, i < 16 → V' (b + 7) i = m' i) (e : ∀ j, j ≠ b + 5 → j ≠ b + 6 → j ≠ b + 7 → V' j = V j) : CS (mkS a q l t' m', z, u, p') V' b := by
  obtain ⟨h1, h2, h3, h4, h5, h6⟩ := h
  refine ⟨fun i x y => ?_, h2.fr (e _ (by omega) (by omega) (by omega)) (e _ (by omega) (by omega) (by omega)), h3.fr (e _ (by omega) (by omega) (by omega)) (e _ (by omega) (by omega) (by omega)), hp, ht, hm⟩
  rw [e _ (by omega) (by omega) (by omega)]; exact h1 i x y
/-- only the cells of one source change -/
def F8 (b : Nat) (V V' : St) : Prop := ∀ j, (j < b ∨ b + 8 ≤ j) → V' j = V j
def lostA (x : SA) : SA := (mkS (upd (x.1 0) 13 (x.1 0 13 + 1)) (x.1 1) (x.1 2) (x.1 3) (x.1 4), x.2)
def tkR (t : Nat) (a : Nat → Int32) (z : Nat) : Nat → Int32 := upd (if z = 0 then upd a 17 (nI t) else a) 11 (a 11 + 1)
def tkA (t : Nat) (x : SA) : SA := (mkS (if x.2.1 + 1 ≤ 24 then tkR t (x.1 0) x.2.1 else upd (upd (tkR t (x.1 0) x.2.1) 10 1) 14 (x.1 0 14 + 1)) (upd (x.1 1) x.2.1 (nI t)) (x.1 2) (x.1 3) (x.1 4), x.2.1 + 1, x.2.2)
theorem c_take0 {x : SA} {V : St} {b : Nat} {K : Int32 → St → Prop} {t : Int32} (h : CS x V b) (hz : x.2.1 ≤ 32) (h0 : x.1 0 10 ≠ 0 ∨ x.2.1 = 32) (hK : ∀ V', CS (lostA x) V' b → F8 b V V' → K 0 V') : wp_X3_take V K b t := by
  have e10 : V b 10 = x.1 0 10 := h.1 10 (by omega) (by omega)
  have e13 : V b 13 = x.1 0 13 := h.1 13 (by omega) (by omega)
  have ez : V (b + 1) 2 = nI x.2.1 := h.2.1.size
  have hb : b_X3_take_19 K b t V := by
    rintro V1 rfl
    exact hK _ (CS.set (a := x.1 0) (q := x.1 1) (l := x.1 2) (t := x.1 3) (m := x.1 4) h 13 (by rw [e13])) (fun j hj => up2_n (by omega))
  unfold wp_X3_take
  rw [e10, ez]
  split
  · rw [if_neg]
    · exact hb
    · rcases h0 with h0 | h0
      · contradiction
      · rw [h0]; exact nI_nlt (a := 32) (b := 32) (Nat.le_refl _) (by omega)
  · exact hb
theorem c_take1 {x : SA} {V : St} {b : Nat} {K : Int32 → St → Prop} {t : Nat} (h : CS x V b) (hz : x.2.1 < 32) (h0 : x.1 0 10 = 0) (hK : ∀ V', CS (tkA t x) V' b → F8 b V V' → K 1 V') : wp_X3_take V K b (nI t) := by
  have e10 : V b 10 = x.1 0 10 := h.1 10 (by omega) (by omega)
  have ez : V (b + 1) 2 = nI x.2.1 := h.2.1.size
  have hb : ∀ (a' : Nat → Int32) (V1 : St), a' = (if x.2.1 = 0 then upd (x.1 0) 17 (nI t) else x.1 0) → CS (mkS a' (x.1 1) (x.1 2) (x.1 3) (x.1 4), x.2) V1 b → F8 b V V1 → b_X3_take_46 K b (nI t) V1 := by
    intro a' V1 ea hC hF
    refine ring_add hC.2.1 hz (by omega) ?_
    intro V2 hR hF2
    have hC2 := CS.q hC hR hF2
    rintro V3 rfl
    have e11 : V2 b 11 = x.1 0 11 := by
      rw [hC2.1 11 (by omega) (by omega)]
      show a' 11 = _
      rw [ea]
      split
      · exact pk_un (by omega)
      · rfl
    have hC3 := CS.set hC2 11 (show V2 b 11 + 1 = x.1 0 11 + 1 by rw [e11])
    have ez3 : up2 V2 b 11 (V2 b 11 + 1) (b + 1) 2 = nI (x.2.1 + 1) := hC3.2.1.size
    rw [ez3]
    subst ea
    have hF3 : F8 b V (up2 V2 b 11 (V2 b 11 + 1)) := fun j hj => by rw [up2_n (by omega), hF2 j (by omega) (by omega)]; exact hF j hj
    by_cases hle : x.2.1 + 1 ≤ 24
    · rw [if_pos (kle hle)]
      refine hK _ ?_ hF3
      unfold tkA
      rw [if_pos hle]
      exact hC3
    · rw [if_neg (knle (c := 24) (by omega) (by omega))]
      refine ⟨Or.inr rfl, ?_⟩
      rintro V4 rfl V5 rfl
      refine hK _ ?_ (fun j hj => by rw [up2_n (by omega), up2_n (by omega)]; exact hF3 j hj)
      unfold tkA
      rw [if_neg hle]
      have hC4 := CS.set hC3 10 (rfl : (1 : Int32) = 1)
      refine CS.set hC4 14 ?_
      rw [hC4.1 14 (by omega) (by omega)]
      show upd (upd (if x.2.1 = 0 then upd (x.1 0) 17 (nI t) else x.1 0) 11 (x.1 0 11 + 1)) 10 1 14 + 1 = x.1 0 14 + 1
      rw [pk_un (by omega), pk_un (by omega)]
      split
      · rw [pk_un (by omega)]
      · rfl
  unfold wp_X3_take
  rw [e10, ez, if_pos h0, if_pos (klt hz)]
  by_cases h0z : x.2.1 = 0
  · rw [h0z, if_pos nI_0]
    rintro V1 rfl
    refine hb _ _ (by rw [if_pos h0z]) (CS.set (a := x.1 0) (q := x.1 1) (l := x.1 2) (t := x.1 3) (m := x.1 4) h 17 rfl) (fun j hj => up2_n (by omega))
  · rw [if_neg (nI_ne0 (by omega) (by omega))]
    exact hb _ _ (by rw [if_neg h0z]) h (fun _ _ => rfl)
theorem c_ready {x : SA} {V : St} {b : Nat} {K : Int32 → St → Prop} (h : CS x V b) (hK : K (if 0 < x.2.1 ∧ 0 < x.2.2.1 then 1 else 0) V) : wp_X3_ready V K b := by
  unfold wp_X3_ready
  have hz := h.2.1.le
  have hu := h.2.2.1.le
  rw [h.2.1.size, h.2.2.1.size]
  by_cases h1 : 0 < x.2.1
  · rw [if_neg (nI_nle h1 (by omega))]
    by_cases h2 : 0 < x.2.2.1
    · rw [if_neg (nI_nle h2 (by omega))]
      rw [if_pos ⟨h1, h2⟩] at hK
      exact hK
    · rw [show x.2.2.1 = 0 by omega, if_pos (by decide)]
      rw [if_neg (fun q => h2 q.2)] at hK
      exact hK
  · rw [show x.2.1 = 0 by omega, if_pos (by decide)]
    rw [if_neg (fun q => h1 q.1)] at hK
    exact hK
