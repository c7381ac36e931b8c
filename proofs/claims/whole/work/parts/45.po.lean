/-! bounds -/
def cl (r b : Nat) : Nat := (r + b - 1) / b
theorem cl_eq {r b : Nat} (hb : 0 < b) : cl r b = if r % b = 0 then r / b else r / b + 1 := by
  unfold cl
  have hdm := Nat.div_add_mod r b
  have hlt := Nat.mod_lt r hb
  generalize r / b = q at hdm ⊢
  generalize r % b = m at hdm hlt ⊢
  subst hdm
  by_cases e : m = 0
  · rw [if_pos e, e, show b * q + 0 + b - 1 = b * q + (b - 1) by omega, Nat.mul_add_div hb, Nat.div_eq_of_lt (by omega)]
    rfl
  · rw [if_neg e, show b * q + m + b - 1 = b * q + (b + (m - 1)) by omega, Nat.mul_add_div hb, show b + (m - 1) = b * 1 + (m - 1) by omega, Nat.mul_add_div hb, Nat.div_eq_of_lt (by omega)]
theorem cl_mono {r r' b : Nat} (h : r ≤ r') : cl r b ≤ cl r' b := Nat.div_le_div_right (by omega)
theorem cl_le {r b : Nat} (hb : 0 < b) : cl r b ≤ r := by
  unfold cl
  have h1 : r ≤ r * b := Nat.le_mul_of_pos_right r hb
  have h2 : (r + b - 1) / b < r + 1 := by
    rw [Nat.div_lt_iff_lt_mul hb, Nat.add_mul]
    omega
  omega
theorem c_ceil {V : St} {K : Int32 → St → Prop} {r b : Nat} (hr : r < 2 ^ 30) (hb : 0 < b) (hb2 : b < 2 ^ 30) (hK : K (nI (cl r b)) V) : wp_X4_ceil V K (nI r) (nI b) := by
  unfold wp_X4_ceil
  rw [nI_add, show nI (r + b) - 1 = nI (r + b - 1) from pk_sub (b := 1) (by omega), pk_div (by omega) hb (by omega)]
  exact ⟨nI_ne0 hb (by omega), hK⟩
theorem m_ceil {V : St} {K : Int32 → St → Prop} {r b : Nat} (hr : r < 2 ^ 30) (hb : 0 < b) (hb2 : b < 2 ^ 30) (hK : K (nI (cl r b)) V) : wp_X5_ceil V K (nI r) (nI b) := by
  have h0 := nI_ne0 hb (show b < 2 ^ 31 by omega)
  have hm := Nat.mod_lt r hb
  unfold wp_X5_ceil
  rw [pk_rem (by omega) hb (by omega), pk_div (by omega) hb (by omega), nI_1]
  rw [cl_eq hb] at hK
  refine ⟨h0, ?_⟩
  by_cases e : r % b = 0
  · rw [e, if_pos nI_0]
    rw [if_pos e] at hK
    exact ⟨h0, hK⟩
  · rw [if_neg (nI_ne0 (by omega) (by omega))]
    rw [if_neg e] at hK
    exact ⟨h0, hK⟩
def PW (x : SA) : Prop := (x.1 0 3 = 0 ∨ x.1 0 3 = 1) ∧ (x.1 0 3 = 1 → ∃ tp co di bu pe pr : Nat, tp ≤ 3 ∧ 1 ≤ co ∧ co ≤ 30 ∧ 1 ≤ di ∧ di ≤ 2000 ∧ 1 ≤ bu ∧ bu ≤ 30 ∧ 1 ≤ pe ∧ pe ≤ 500 ∧ pr ≤ 31 ∧ x.1 0 4 = nI tp ∧ x.1 0 5 = nI co ∧ x.1 0 6 = nI di ∧ x.1 0 7 = nI bu ∧ x.1 0 8 = nI pe ∧ x.1 0 9 = nI pr)
theorem SW.pw {lo t : Nat} {x : SA} (h : SW lo t x) : PW x := by
  refine ⟨h.2.2.1, fun h3 => ?_⟩
  obtain ⟨tp, co, di, bu, pe, pr, fd, g1, g2, g3, g4, g5, g6, g7, g8, g9, g10, g11, g12, g13, g14, g15, g16, g17, g18, g19⟩ := h.2.2.2.2.2.1 h3
  exact ⟨tp, co, di, bu, pe, pr, g1, g2, g3, g4, g5, g6, g7, g8, g9, g10, g12, g13, g14, g15, g16, g17⟩
def hN (x : SA) (r : Nat) : Nat := if x.1 0 3 = 1 then (cl r (x.1 0 8).toNatClampNeg + 1) * (x.1 0 7).toNatClampNeg else 0
def tN (x : SA) (r : Nat) : Nat := if x.1 0 3 = 1 then (cl r (x.1 0 6).toNatClampNeg + 1) * (x.1 0 4).toNatClampNeg else 0
def kN (f : Nat → Int32) (r : Nat) : Nat := if f 0 = 1 then cl r (f 1).toNatClampNeg * (f 2).toNatClampNeg else 0
def sM (f : Nat → Nat) : Nat → Nat
  | 0 => 0
  | n + 1 => sM f n + f n
theorem sM_add (f g : Nat → Nat) : ∀ n, sM (fun k => f k + g k) n = sM f n + sM g n
  | 0 => rfl
  | n + 1 => by
    show sM (fun k => f k + g k) n + (f n + g n) = sM f n + f n + (sM g n + g n)
    rw [sM_add f g n]; omega
theorem sM_cong {f g : Nat → Nat} : ∀ n, (∀ k, k < n → f k = g k) → sM f n = sM g n
  | 0, _ => rfl
  | n + 1, h => by
    show sM f n + f n = sM g n + g n
    rw [sM_cong n (fun k hk => h k (by omega)), h n (by omega)]
theorem sM_mono {f g : Nat → Nat} : ∀ n, (∀ k, k < n → f k ≤ g k) → sM f n ≤ sM g n
  | 0, _ => Nat.le_refl 0
  | n + 1, h => by
    have h1 := sM_mono n (fun k hk => h k (by omega))
    have h2 := h n (by omega)
    show sM f n + f n ≤ sM g n + g n
    omega
theorem sM_le {f : Nat → Nat} {c : Nat} : ∀ n, (∀ k, k < n → f k ≤ c) → sM f n ≤ n * c
  | 0, _ => by show 0 ≤ _; omega
  | n + 1, h => by
    have h1 := sM_le n (fun k hk => h k (by omega))
    have h2 := h n (by omega)
    show sM f n + f n ≤ (n + 1) * c
    rw [Nat.add_mul]
    omega
theorem sM_zero {f : Nat → Nat} : ∀ n, (∀ k, k < n → f k = 0) → sM f n = 0
  | 0, _ => rfl
  | n + 1, h => by
    show sM f n + f n = 0
    rw [sM_zero n (fun k hk => h k (by omega)), h n (by omega)]
theorem hN_le {x : SA} (h : PW x) {r : Nat} (hr : r ≤ 2000) : hN x r ≤ 60030 := by
  unfold hN
  split
  · rename_i h3
    obtain ⟨tp, co, di, bu, pe, pr, g1, g2, g3, g4, g5, g6, g7, g8, g9, g10, g12, g13, g14, g15, g16, g17⟩ := h.2 h3
    rw [g16, g15, nI_clamp (by omega), nI_clamp (by omega)]
    have := cl_le (r := r) (b := pe) (by omega)
    exact Nat.le_trans (Nat.mul_le_mul (show cl r pe + 1 ≤ 2001 by omega) g7) (by omega)
  · omega
theorem tN_le {x : SA} (h : PW x) {r : Nat} (hr : r ≤ 2000) : tN x r ≤ 6003 := by
  unfold tN
  split
  · rename_i h3
    obtain ⟨tp, co, di, bu, pe, pr, g1, g2, g3, g4, g5, g6, g7, g8, g9, g10, g12, g13, g14, g15, g16, g17⟩ := h.2 h3
    rw [g12, g14, nI_clamp (by omega), nI_clamp (by omega)]
    have := cl_le (r := r) (b := di) (by omega)
    exact Nat.le_trans (Nat.mul_le_mul (show cl r di + 1 ≤ 2001 by omega) g1) (by omega)
  · omega
theorem kN_le {f : Nat → Int32} (h : TkW f) {r : Nat} (hr : r ≤ 2000) : kN f r ≤ 1000000 := by
  unfold kN
  split
  · rename_i h3
    obtain ⟨pe, co, pr, g1, g2, g3, g4, g5, g6, g7, g8⟩ := h.2 h3
    rw [g6, g7, nI_clamp (by omega), nI_clamp (by omega)]
    have := cl_le (r := r) (b := pe) (by omega)
    exact Nat.le_trans (Nat.mul_le_mul (show cl r pe ≤ 2000 by omega) g4) (by omega)
  · omega
theorem hN_mono {x : SA} {r r' : Nat} (hr : r ≤ r') : hN x r ≤ hN x r' := by
  unfold hN
  split
  · exact Nat.mul_le_mul_right _ (Nat.succ_le_succ (cl_mono hr))
  · exact Nat.le_refl _
theorem tN_mono {x : SA} {r r' : Nat} (hr : r ≤ r') : tN x r ≤ tN x r' := by
  unfold tN
  split
  · exact Nat.mul_le_mul_right _ (Nat.succ_le_succ (cl_mono hr))
  · exact Nat.le_refl _
theorem kN_mono {f : Nat → Int32} {r r' : Nat} (hr : r ≤ r') : kN f r ≤ kN f r' := by
  unfold kN
  split
  · exact Nat.mul_le_mul_right _ (cl_mono hr)
  · exact Nat.le_refl _
def hS (S : Nat → SA) (a : Int32) (r k : Nat) : Nat := if (S k).1 0 9 ≤ a then 0 else hN (S k) r
def kS (T : St) (a : Int32) (r k : Nat) : Nat := if T k 3 ≤ a then 0 else kN (T k) r
theorem hS0 {S : Nat → SA} {a : Int32} {r i : Nat} (h : (S i).1 0 3 = 0) : hS S a r i = 0 := by
  unfold hS
  split
  · rfl
  · exact if_neg (by rw [h]; decide)
theorem kS0 {T : St} {a : Int32} {r i : Nat} (h : T i 0 = 0) : kS T a r i = 0 := by
  unfold kS
  split
  · rfl
  · exact if_neg (by rw [h]; decide)
theorem c_hT {t n fd : Nat} {tp tr : Nat → Int32} {S : Nat → SA} {T V : St} {K : Int32 → St → Prop} {a : Int32} {r : Nat} (h : RC t n fd tp tr S T V) (hw : ∀ k, k < 6 → PW (S k)) (hr : r < 2 ^ 30) (hK : K (nI (sM (hS S a r) 6)) V) : wp_X4_handlersTake V K a (nI r) := by
  unfold wp_X4_handlersTake
  refine ⟨6 + 1, lp_up (fun i (q : St → Int32 → Int32 → Prop) => q V (nI (sM (hS S a r) i)) (nI i)) 6 ?_ ?_ 6 0 rfl⟩
  · intro q
    unfold h_X4_handlersTake_5
    rw [if_pos l6]
    exact hK
  · intro i hi q hq
    have hC := h.2.2.2.2.1 i hi
    change q V (nI (sM (hS S a r) i + hS S a r i)) (nI (i + 1)) at hq
    unfold h_X4_handlersTake_5
    rw [if_neg (i6 hi), nI_1]
    refine ⟨i, hi, rfl, ?_⟩
    rw [hC.1 3 (by omega) (by omega)]
    rcases (hw i hi).1 with h3 | h3
    · rw [if_pos h3]
      have : hS S a r i = 0 := hS0 h3
      rw [this] at hq
      exact hq
    · rw [if_neg (by rw [h3]; decide)]
      refine ⟨i, hi, rfl, ?_⟩
      rw [hC.1 9 (by omega) (by omega)]
      by_cases hle : (S i).1 0 9 ≤ a
      · rw [if_pos hle]
        have : hS S a r i = 0 := if_pos hle
        rw [this] at hq
        exact hq
      · rw [if_neg hle]
        refine ⟨i, hi, rfl, ?_⟩
        obtain ⟨tp, co, di, bu, pe, pr, g1, g2, g3, g4, g5, g6, g7, g8, g9, g10, g12, g13, g14, g15, g16, g17⟩ := (hw i hi).2 h3
        rw [hC.1 8 (by omega) (by omega), g16]
        refine c_ceil hr (by omega) (by omega) ?_
        refine ⟨i, hi, rfl, ?_⟩
        rintro x7 rfl
        rw [hC.1 7 (by omega) (by omega), g15, nI_1, pk_mul, nI_add]
        have : hS S a r i = (cl r pe + 1) * bu := by
          unfold hS hN
          rw [if_neg hle, if_pos h3, g16, g15, nI_clamp (by omega), nI_clamp (by omega)]
        rw [this] at hq
        exact hq
theorem c_tT {t n fd : Nat} {tp tr : Nat → Int32} {S : Nat → SA} {T V : St} {K : Int32 → St → Prop} {r : Nat} (h : RC t n fd tp tr S T V) (hw : ∀ k, k < 6 → PW (S k)) (hr : r < 2 ^ 30) (hK : K (nI (sM (fun k => tN (S k) r) 6)) V) : wp_X4_topsTake V K (nI r) := by
  unfold wp_X4_topsTake
  refine ⟨6 + 1, lp_up (fun i (q : St → Int32 → Int32 → Prop) => q V (nI (sM (fun k => tN (S k) r) i)) (nI i)) 6 ?_ ?_ 6 0 rfl⟩
  · intro q
    unfold h_X4_topsTake_4
    rw [if_pos l6]
    exact hK
  · intro i hi q hq
    have hC := h.2.2.2.2.1 i hi
    change q V (nI (sM (fun k => tN (S k) r) i + tN (S i) r)) (nI (i + 1)) at hq
    unfold h_X4_topsTake_4
    rw [if_neg (i6 hi), nI_1]
    refine ⟨i, hi, rfl, ?_⟩
    rw [hC.1 3 (by omega) (by omega)]
    rcases (hw i hi).1 with h3 | h3
    · rw [if_pos h3]
      have : tN (S i) r = 0 := if_neg (by rw [h3]; decide)
      rw [this] at hq
      exact hq
    · rw [if_neg (by rw [h3]; decide)]
      refine ⟨i, hi, rfl, ?_⟩
      obtain ⟨tp, co, di, bu, pe, pr, g1, g2, g3, g4, g5, g6, g7, g8, g9, g10, g12, g13, g14, g15, g16, g17⟩ := (hw i hi).2 h3
      rw [hC.1 6 (by omega) (by omega), g14]
      refine c_ceil hr (by omega) (by omega) ?_
      refine ⟨i, hi, rfl, ?_⟩
      rintro x7 rfl
      rw [hC.1 4 (by omega) (by omega), g12, nI_1, pk_mul, nI_add]
      have : tN (S i) r = (cl r di + 1) * tp := by
        unfold tN
        rw [if_pos h3, g14, g12, nI_clamp (by omega), nI_clamp (by omega)]
      rw [this] at hq
      exact hq
theorem c_kT {t n fd : Nat} {tp tr : Nat → Int32} {S : Nat → SA} {T V : St} {K : Int32 → St → Prop} {a : Int32} {r : Nat} (h : RC t n fd tp tr S T V) (hw : ∀ k, k < 6 → TkW (T k)) (hr : r < 2 ^ 30) (hK : K (nI (sM (kS T a r) 6)) V) : wp_X4_tasksTake V K a (nI r) := by
  unfold wp_X4_tasksTake
  refine ⟨6 + 1, lp_up (fun i (q : St → Int32 → Int32 → Prop) => q V (nI (sM (kS T a r) i)) (nI i)) 6 ?_ ?_ 6 0 rfl⟩
  · intro q
    unfold h_X4_tasksTake_5
    rw [if_pos l6]
    exact hK
  · intro i hi q hq
    have hC := h.2.2.2.2.2 i hi
    change q V (nI (sM (kS T a r) i + kS T a r i)) (nI (i + 1)) at hq
    unfold h_X4_tasksTake_5
    rw [if_neg (i6 hi), nI_1]
    refine ⟨i, hi, rfl, ?_⟩
    rw [hC 0 (by omega)]
    rcases (hw i hi).1 with h3 | h3
    · rw [if_pos h3]
      have : kS T a r i = 0 := kS0 h3
      rw [this] at hq
      exact hq
    · rw [if_neg (by rw [h3]; decide)]
      refine ⟨i, hi, rfl, ?_⟩
      rw [hC 3 (by omega)]
      by_cases hle : T i 3 ≤ a
      · rw [if_pos hle]
        have : kS T a r i = 0 := if_pos hle
        rw [this] at hq
        exact hq
      · rw [if_neg hle]
        refine ⟨i, hi, rfl, ?_⟩
        obtain ⟨pe, co, pr, g1, g2, g3, g4, g5, g6, g7, g8⟩ := (hw i hi).2 h3
        rw [hC 1 (by omega), g6]
        refine c_ceil hr (by omega) (by omega) ?_
        refine ⟨i, hi, rfl, ?_⟩
        rintro x7 rfl
        rw [hC 2 (by omega), g7, pk_mul, nI_add]
        have : kS T a r i = cl r pe * co := by
          unfold kS kN
          rw [if_neg hle, if_pos h3, g6, g7, nI_clamp (by omega), nI_clamp (by omega)]
        rw [this] at hq
        exact hq
/-! the model's -/
theorem m_hT {x : SA} {V : St} {k r : Nat} {K : Int32 → St → Prop} (h : MSr x V k) (hk : k < 6) (hw : PW x) (hr : r < 2 ^ 30) (hK : K (nI (hN x r)) V) : wp_X5_handlers V K (nI k) (nI r) := by
  have hv : vp_in (nI k) 6 := vp_in_nI hk (by omega)
  unfold wp_X5_handlers
  rw [nI_clamp (by omega), show V 61 k = x.1 0 3 from h.1 3 (by omega) (by omega)]
  refine ⟨hv, ?_⟩
  rcases hw.1 with h3 | h3
  · rw [if_pos h3]
    have : hN x r = 0 := if_neg (by rw [h3]; decide)
    rw [this] at hK
    exact hK
  · rw [if_neg (by rw [h3]; decide)]
    obtain ⟨tp, co, di, bu, pe, pr, g1, g2, g3, g4, g5, g6, g7, g8, g9, g10, g12, g13, g14, g15, g16, g17⟩ := hw.2 h3
    rw [show V 66 k = x.1 0 8 from h.1 8 (by omega) (by omega), g16]
    refine ⟨hv, m_ceil hr (by omega) (by omega) ⟨hv, ?_⟩⟩
    rw [show V 65 k = x.1 0 7 from h.1 7 (by omega) (by omega), g15, nI_1, pk_mul]
    have : hN x r = (cl r pe + 1) * bu := by
      unfold hN
      rw [if_pos h3, g16, g15, nI_clamp (by omega), nI_clamp (by omega)]
    rw [this] at hK
    exact hK
theorem m_tT {x : SA} {V : St} {k r : Nat} {K : Int32 → St → Prop} (h : MSr x V k) (hk : k < 6) (hw : PW x) (hr : r < 2 ^ 30) (hK : K (nI (tN x r)) V) : wp_X5_topHalves V K (nI k) (nI r) := by
  have hv : vp_in (nI k) 6 := vp_in_nI hk (by omega)
  unfold wp_X5_topHalves
  rw [nI_clamp (by omega), show V 61 k = x.1 0 3 from h.1 3 (by omega) (by omega)]
  refine ⟨hv, ?_⟩
  rcases hw.1 with h3 | h3
  · rw [if_pos h3]
    have : tN x r = 0 := if_neg (by rw [h3]; decide)
    rw [this] at hK
    exact hK
  · rw [if_neg (by rw [h3]; decide)]
    obtain ⟨tp, co, di, bu, pe, pr, g1, g2, g3, g4, g5, g6, g7, g8, g9, g10, g12, g13, g14, g15, g16, g17⟩ := hw.2 h3
    rw [show V 64 k = x.1 0 6 from h.1 6 (by omega) (by omega), g14]
    refine ⟨hv, m_ceil hr (by omega) (by omega) ⟨hv, ?_⟩⟩
    rw [show V 62 k = x.1 0 4 from h.1 4 (by omega) (by omega), g12, nI_1, pk_mul]
    have : tN x r = (cl r di + 1) * tp := by
      unfold tN
      rw [if_pos h3, g14, g12, nI_clamp (by omega), nI_clamp (by omega)]
    rw [this] at hK
    exact hK
theorem m_sI {t n fd : Nat} {tp tr : Nat → Int32} {S : Nat → SA} {T V : St} {K : Int32 → St → Prop} {r : Nat} (h : RM t n fd tp tr S T V) (hw : ∀ k, k < 6 → PW (S k)) (hr : r < 2 ^ 30) (hK : K (nI (sM (fun k => hN (S k) r + tN (S k) r) 6)) V) : wp_X5_sourcesIn V K (nI r) := by
  unfold wp_X5_sourcesIn
  refine ⟨6 + 1, lp_up (fun i (q : St → Int32 → Int32 → Prop) => q V (nI (sM (fun k => hN (S k) r + tN (S k) r) i)) (nI i)) 6 ?_ ?_ 6 0 rfl⟩
  · intro q
    unfold h_X5_sourcesIn_4
    rw [if_pos l6]
    exact hK
  · intro i hi q hq
    have hC := h.2.2.2.2.2.1 i hi
    change q V (nI (sM (fun k => hN (S k) r + tN (S k) r) i + (hN (S i) r + tN (S i) r))) (nI (i + 1)) at hq
    unfold h_X5_sourcesIn_4
    rw [if_neg (i6 hi)]
    refine m_hT hC hi (hw i hi) hr (m_tT hC hi (hw i hi) hr ?_)
    rintro x5 rfl
    rw [nI_add, nI_add, nI_1, Nat.add_assoc]
    exact hq
theorem m_tNd {t n fd : Nat} {tp tr : Nat → Int32} {S : Nat → SA} {T V : St} {K : Int32 → St → Prop} {r k co : Nat} (h : RM t n fd tp tr S T V) (hw : ∀ k, k < 6 → PW (S k)) (hwT : ∀ k, k < 6 → TkW (T k)) (hk : k < 6) (eco : T k 2 = nI co) (hr : r < 2 ^ 30) (hK : K (nI (co + sM (fun k => hN (S k) r + tN (S k) r) 6 + sM (kS T (T k 3) r) 6)) V) : wp_X5_taskNeeds V K (nI k) (nI r) := by
  have hvk : vp_in (nI k) 6 := vp_in_nI hk (by omega)
  unfold wp_X5_taskNeeds
  refine ⟨hvk, m_sI h hw hr ?_⟩
  rintro x3 rfl
  rw [nI_clamp (by omega), show V 84 k = nI co from (h.2.2.2.2.2.2 k hk 2 (by omega)).trans eco, nI_add]
  refine ⟨6 + 1, lp_up (fun i (q : St → Int32 → Int32 → Prop) => q V (nI (co + sM (fun k => hN (S k) r + tN (S k) r) 6 + sM (kS T (T k 3) r) i)) (nI i)) 6 ?_ ?_ 6 0 rfl⟩
  · intro q
    unfold h_X5_taskNeeds_16
    rw [if_pos l6]
    exact hK
  · intro i hi q hq
    have hv : vp_in (nI i) 6 := vp_in_nI hi (by omega)
    have e : ∀ j, j < 8 → V (82 + j) i = T i j := h.2.2.2.2.2.2 i hi
    change q V (nI (co + sM (fun k => hN (S k) r + tN (S k) r) 6 + (sM (kS T (T k 3) r) i + kS T (T k 3) r i))) (nI (i + 1)) at hq
    unfold h_X5_taskNeeds_16
    rw [if_neg (i6 hi), nI_1, nI_clamp (by omega), nI_clamp (by omega), show V 82 i = T i 0 from e 0 (by omega), show V 85 i = T i 3 from e 3 (by omega), show V 85 k = T k 3 from h.2.2.2.2.2.2 k hk 3 (by omega)]
    refine ⟨hv, ?_⟩
    rcases (hwT i hi).1 with h3 | h3
    · rw [if_pos h3]
      have : kS T (T k 3) r i = 0 := kS0 h3
      rw [this] at hq
      exact hq
    · rw [if_neg (by rw [h3]; decide)]
      refine ⟨hv, hvk, ?_⟩
      by_cases hle : T i 3 ≤ T k 3
      · rw [if_pos hle]
        have : kS T (T k 3) r i = 0 := if_pos hle
        rw [this] at hq
        exact hq
      · rw [if_neg hle]
        obtain ⟨pe, co2, pr, g1, g2, g3, g4, g5, g6, g7, g8⟩ := (hwT i hi).2 h3
        rw [show V 83 i = T i 1 from e 1 (by omega), g6]
        refine ⟨hv, m_ceil hr (by omega) (by omega) ⟨hv, ?_⟩⟩
        rintro x3 rfl
        rw [show V 84 i = T i 2 from e 2 (by omega), g7, pk_mul, nI_add]
        have : kS T (T k 3) r i = cl r pe * co2 := by
          unfold kS kN
          rw [if_neg hle, if_pos h3, g6, g7, nI_clamp (by omega), nI_clamp (by omega)]
        rw [this, ← Nat.add_assoc] at hq
        exact hq
theorem m_sNd {t n fd : Nat} {tp tr : Nat → Int32} {S : Nat → SA} {T V : St} {K : Int32 → St → Prop} {r k co : Nat} (h : RM t n fd tp tr S T V) (hw : ∀ k, k < 6 → PW (S k)) (hk : k < 6) (eco : (S k).1 0 5 = nI co) (hr : r < 2 ^ 30) (hK : K (nI (co + sM (fun j => tN (S j) r + hS S ((S k).1 0 9) r j) 6)) V) : wp_X5_sourceNeeds V K (nI k) (nI r) := by
  have hvk : vp_in (nI k) 6 := vp_in_nI hk (by omega)
  unfold wp_X5_sourceNeeds
  refine ⟨hvk, ?_⟩
  rintro x3 rfl
  rw [nI_clamp (by omega), show V 63 k = nI co from ((h.2.2.2.2.2.1 k hk).1 5 (by omega) (by omega)).trans eco]
  refine ⟨6 + 1, lp_up (fun i (q : St → Int32 → Int32 → Prop) => q V (nI (co + sM (fun j => tN (S j) r + hS S ((S k).1 0 9) r j) i)) (nI i)) 6 ?_ ?_ 6 0 rfl⟩
  · intro q
    unfold h_X5_sourceNeeds_10
    rw [if_pos l6]
    exact hK
  · intro i hi q hq
    have hv : vp_in (nI i) 6 := vp_in_nI hi (by omega)
    have hC := h.2.2.2.2.2.1 i hi
    change q V (nI (co + (sM (fun j => tN (S j) r + hS S ((S k).1 0 9) r j) i + (tN (S i) r + hS S ((S k).1 0 9) r i)))) (nI (i + 1)) at hq
    unfold h_X5_sourceNeeds_10
    rw [if_neg (i6 hi)]
    refine m_tT hC hi (hw i hi) hr ?_
    rintro x3 rfl
    rw [nI_add, nI_clamp (by omega), nI_clamp (by omega), nI_1, show V 61 i = (S i).1 0 3 from hC.1 3 (by omega) (by omega), show V 67 i = (S i).1 0 9 from hC.1 9 (by omega) (by omega), show V 67 k = (S k).1 0 9 from (h.2.2.2.2.2.1 k hk).1 9 (by omega) (by omega)]
    refine ⟨hv, ?_⟩
    rcases (hw i hi).1 with h3 | h3
    · rw [if_pos h3]
      have : hS S ((S k).1 0 9) r i = 0 := hS0 h3
      rw [this, Nat.add_zero, ← Nat.add_assoc] at hq
      exact hq
    · rw [if_neg (by rw [h3]; decide)]
      refine ⟨hv, hvk, ?_⟩
      by_cases hle : (S i).1 0 9 ≤ (S k).1 0 9
      · rw [if_pos hle]
        have : hS S ((S k).1 0 9) r i = 0 := if_pos hle
        rw [this, Nat.add_zero, ← Nat.add_assoc] at hq
        exact hq
      · rw [if_neg hle]
        refine m_hT hC hi (hw i hi) hr ?_
        rintro x6 rfl
        rw [nI_add]
        have : hS S ((S k).1 0 9) r i = hN (S i) r := if_neg hle
        rw [this, ← Nat.add_assoc, ← Nat.add_assoc] at hq
        exact hq
