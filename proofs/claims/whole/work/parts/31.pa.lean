theorem up2_s (V : St) (j k : Nat) (x : Int32) : up2 V j k x j = upd (V j) k x := if_pos rfl
theorem up2_n {V : St} {j k a : Nat} {x : Int32} (h : a ≠ j) : up2 V j k x a = V a := if_neg h
theorem up2_ss (V : St) (j k : Nat) (x : Int32) : up2 V j k x j k = x := by rw [up2_s]; exact pk_us
theorem up2_sn {V : St} {j k i : Nat} {x : Int32} (h : i ≠ k) : up2 V j k x j i = V j i := by rw [up2_s]; exact pk_un h
theorem up2_at (V : St) (j k : Nat) (x : Int32) (a i : Nat) : up2 V j k x a i = if a = j ∧ i = k then x else V a i := by
  by_cases h : a = j
  · subst h
    by_cases h2 : i = k
    · subst h2; rw [up2_ss, if_pos ⟨rfl, rfl⟩]
    · rw [up2_sn h2, if_neg (fun q => h2 q.2)]
  · rw [up2_n h, if_neg (fun q => h q.1)]
theorem upd_at (f : Nat → Int32) (k : Nat) (x : Int32) (i : Nat) : upd f k x i = if i = k then x else f i := rfl
theorem lp_up {β : Type} {z : β} {b : β → β} (P : Nat → β → Prop) (N : Nat) (hx : ∀ r, P N (b r)) (hs : ∀ i, i < N → ∀ r, P (i + 1) r → P i (b r)) : ∀ m i, i + m = N → P i (lp z b (m + 1))
  | 0, i, h => by
    have : i = N := by omega
    subst this
    exact hx _
  | m + 1, i, h => hs i (by omega) _ (lp_up P N hx hs m (i + 1) (by omega))
theorem mod_ne {h i z n : Nat} (hi : i < z) (hz : z < n) : (h + i) % n ≠ (h + z) % n := by
  intro e
  have h1 := Nat.sub_mod_eq_zero_of_mod_eq e.symm
  rw [show h + z - (h + i) = z - i by omega, Nat.mod_eq_of_lt (by omega)] at h1
  omega
def Ring (V : St) (r n z : Nat) (f : Nat → Int32) : Prop := ∃ h, h < n ∧ z ≤ n ∧ V r 1 = nI h ∧ V r 2 = nI z ∧ ∀ i, i < z → V (r + 1) ((h + i) % n) = f i
theorem Ring.fr {V V' : St} {r n z : Nat} {f : Nat → Int32} (h : Ring V r n z f) (e0 : V' r = V r) (e1 : V' (r + 1) = V (r + 1)) : Ring V' r n z f := by
  unfold Ring
  rw [e0, e1]
  exact h
theorem Ring.le {V : St} {r n z : Nat} {f : Nat → Int32} (h : Ring V r n z f) : z ≤ n := by
  obtain ⟨hd, h1, h2, -⟩ := h
  exact h2
theorem Ring.size {V : St} {r n z : Nat} {f : Nat → Int32} (h : Ring V r n z f) : V r 2 = nI z := by
  obtain ⟨hd, h1, h2, h3, h4, -⟩ := h
  exact h4
theorem Ring.cong {V : St} {r n z : Nat} {f g : Nat → Int32} (h : Ring V r n z f) (e : ∀ i, i < z → f i = g i) : Ring V r n z g := by
  obtain ⟨hd, h1, h2, h3, h4, h5⟩ := h
  exact ⟨hd, h1, h2, h3, h4, fun i hi => (h5 i hi).trans (e i hi)⟩
theorem ring_add {V : St} {K : St → Prop} {r n z : Nat} {f : Nat → Int32} {x : Int32} (hR : Ring V r n z f) (hz : z < n) (hn : n ≤ 1000) (h : ∀ V', Ring V' r n (z + 1) (upd f z x) → (∀ j, j ≠ r → j ≠ r + 1 → V' j = V j) → K V') : wp_X2_add V K r n x := by
  obtain ⟨hd, h1, h2, h3, h4, h5⟩ := hR
  have hm : (hd + z) % n < n := Nat.mod_lt _ (by omega)
  unfold wp_X2_add
  rw [h3, h4, nI_add, pk_rem (by omega) (by omega) (by omega), if_neg (nI_ge hz (by omega))]
  refine ⟨nI_ne0 (by omega) (by omega), vp_in_nI hm (by omega), ?_⟩
  rintro V1 rfl V2 rfl
  rw [nI_clamp (by omega)]
  refine h _ ⟨hd, h1, by omega, ?_, ?_, ?_⟩ ?_
  · rw [up2_at, if_neg (by omega), up2_at, if_neg (by omega)]; exact h3
  · rw [up2_ss, up2_at, if_neg (by omega), h4, nI_1]
  · intro i hi
    rw [up2_at, if_neg (by omega), up2_at, upd_at]
    by_cases hiz : i = z
    · rw [hiz, if_pos ⟨rfl, rfl⟩, if_pos rfl]
    · rw [if_neg (fun q => mod_ne (h := hd) (i := i) (z := z) (n := n) (by omega) hz q.2), if_neg hiz]
      exact h5 i (by omega)
  · intro j hj hj1
    rw [up2_n hj, up2_n hj1]
theorem ring_first {V : St} {K : Int32 → St → Prop} {r n z : Nat} {f : Nat → Int32} (hR : Ring V r n z f) (hz : 0 < z) (hn : n ≤ 1000) (h : K (f 0) V) : wp_X2_first V K r n := by
  obtain ⟨hd, h1, h2, h3, h4, h5⟩ := hR
  unfold wp_X2_first
  rw [h3, nI_clamp (by omega)]
  have := h5 0 hz
  rw [show (hd + 0) % n = hd from Nat.mod_eq_of_lt h1] at this
  rw [this]
  exact ⟨vp_in_nI h1 (by omega), h⟩
theorem ring_rem {V : St} {K : St → Prop} {r n z : Nat} {f : Nat → Int32} (hR : Ring V r n (z + 1) f) (hn : n ≤ 1000) (h : ∀ V', Ring V' r n z (fun i => f (i + 1)) → (∀ j, j ≠ r → V' j = V j) → K V') : wp_X2_removeFirst V K r n := by
  obtain ⟨hd, h1, h2, h3, h4, h5⟩ := hR
  unfold wp_X2_removeFirst
  rw [h3, h4, nI_1, pk_rem (by omega) (by omega) (by omega), if_neg (nI_nle (by omega) (by omega))]
  refine ⟨nI_ne0 (by omega) (by omega), ?_⟩
  rintro V1 rfl V2 rfl
  refine h _ ⟨(hd + 1) % n, Nat.mod_lt _ (by omega), by omega, ?_, ?_, ?_⟩ ?_
  · rw [up2_at, if_neg (by omega), up2_ss]
  · rw [up2_ss, up2_at, if_neg (by omega), h4, nI_pred]
  · intro i hi
    rw [up2_n (by omega), up2_n (by omega), Nat.mod_add_mod]
    have := h5 (i + 1) (by omega)
    rw [show hd + 1 + i = hd + (i + 1) by omega]
    exact this
  · intro j hj
    rw [up2_n hj, up2_n hj]
theorem nI_len {n : Nat} (h : n < 2 ^ 31) (h0 : 0 < n) : ¬ nI n ≤ 0 := nI_nle h0 h
theorem i6 {i : Nat} (h : i < 6) : ¬ (6 : Int32) ≤ nI i := nI_ge (b := 6) h (by omega)
theorem l6 : (6 : Int32) ≤ nI 6 := nI_le (Nat.le_refl 6) (by omega)
theorem kle {n c : Nat} (h : n ≤ c) (hc : c < 2 ^ 31 := by decide) : nI n ≤ (OfNat.ofNat c : Int32) := nI_le h hc
theorem klt {n c : Nat} (h : n < c) (hc : c < 2 ^ 31 := by decide) : nI n < (OfNat.ofNat c : Int32) := nI_lt h hc
theorem knle {n c : Nat} (h : c < n) (hc : n < 2 ^ 31) : ¬ nI n ≤ (OfNat.ofNat c : Int32) := nI_ge h hc
theorem knlt {n c : Nat} (h : c ≤ n) (hc : n < 2 ^ 31) : ¬ nI n < (OfNat.ofNat c : Int32) := nI_nlt h hc
theorem cle {n c : Nat} (h : c ≤ n) (hc : n < 2 ^ 31) : (OfNat.ofNat c : Int32) ≤ nI n := nI_le h hc
theorem clt {n c : Nat} (h : c < n) (hc : n < 2 ^ 31) : (OfNat.ofNat c : Int32) < nI n := nI_lt h hc
theorem cnle {n c : Nat} (h : n < c) (hc : c < 2 ^ 31 := by decide) : ¬ (OfNat.ofNat c : Int32) ≤ nI n := nI_ge h hc
theorem cnlt {n c : Nat} (h : n ≤ c) (hc : c < 2 ^ 31 := by decide) : ¬ (OfNat.ofNat c : Int32) < nI n := nI_nlt h hc
theorem keq {n c : Nat} (h : n = c) : nI n = (OfNat.ofNat c : Int32) := by subst h; rfl
theorem kne {n c : Nat} (h : n ≠ c) (hn : n < 2 ^ 31) (hc : c < 2 ^ 31 := by decide) : ¬ nI n = (OfNat.ofNat c : Int32) := fun e => h ((nI_eq hn hc).mp e)
