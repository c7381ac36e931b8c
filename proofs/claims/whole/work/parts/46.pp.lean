def itB (nd : Nat → Nat) (p : Nat) : Nat → Nat → Option Nat
  | 0, _ => none
  | n + 1, r => if p < nd r then none else if nd r = r then some r else itB nd p n (nd r)
theorem itB_s (nd : Nat → Nat) (p n r : Nat) : itB nd p (n + 1) r = if p < nd r then none else if nd r = r then some r else itB nd p n (nd r) := rfl
theorem itB_le (nd : Nat → Nat) (p : Nat) : ∀ n r q, itB nd p n r = some q → q ≤ p
  | 0, r, q, h => by simp [itB] at h
  | n + 1, r, q, h => by
    rw [itB_s] at h
    by_cases h1 : p < nd r
    · rw [if_pos h1] at h; exact absurd h (by simp)
    · rw [if_neg h1] at h
      by_cases h2 : nd r = r
      · rw [if_pos h2] at h
        have := Option.some.inj h
        omega
      · rw [if_neg h2] at h
        exact itB_le nd p n _ q h
def cnd (S : Nat → SA) (T : St) (co : Nat) (sa ta : Int32) (r : Nat) : Nat := co + sM (hS S sa r) 6 + sM (fun k => tN (S k) r) 6 + sM (kS T ta r) 6
theorem hS_le {S : Nat → SA} {a : Int32} {r k : Nat} (h : PW (S k)) (hr : r ≤ 2000) : hS S a r k ≤ 60030 := by
  unfold hS
  split
  · omega
  · exact hN_le h hr
theorem kS_le {T : St} {a : Int32} {r k : Nat} (h : TkW (T k)) (hr : r ≤ 2000) : kS T a r k ≤ 1000000 := by
  unfold kS
  split
  · omega
  · exact kN_le h hr
theorem cnd_le {S : Nat → SA} {T : St} {co r : Nat} {sa ta : Int32} (hw : ∀ k, k < 6 → PW (S k)) (hwT : ∀ k, k < 6 → TkW (T k)) (hco : co ≤ 500) (hr : r ≤ 2000) : cnd S T co sa ta r ≤ 10000000 := by
  have h1 := sM_le (f := hS S sa r) (c := 60030) 6 (fun k hk => hS_le (hw k hk) hr)
  have h2 := sM_le (f := fun k => tN (S k) r) (c := 6003) 6 (fun k hk => tN_le (hw k hk) hr)
  have h3 := sM_le (f := kS T ta r) (c := 1000000) 6 (fun k hk => kS_le (hwT k hk) hr)
  unfold cnd
  omega
theorem cnd_mono {S : Nat → SA} {T : St} {co r r' : Nat} {sa ta : Int32} (h : r ≤ r') : cnd S T co sa ta r ≤ cnd S T co sa ta r' := by
  have h1 := sM_mono (f := hS S sa r) (g := hS S sa r') 6 (fun k hk => by
    unfold hS
    split
    · exact Nat.le_refl _
    · exact hN_mono h)
  have h2 := sM_mono (f := fun k => tN (S k) r) (g := fun k => tN (S k) r') 6 (fun k hk => tN_mono h)
  have h3 := sM_mono (f := kS T ta r) (g := kS T ta r') 6 (fun k hk => by
    unfold kS
    split
    · exact Nat.le_refl _
    · exact kN_mono h)
  unfold cnd
  omega
theorem c_lB {t n fd : Nat} {tp tr : Nat → Int32} {S : Nat → SA} {T V : St} {K : Int32 → St → Prop} {sa ta : Int32} {co p : Nat} (h : RC t n fd tp tr S T V) (hw : ∀ k, k < 6 → PW (S k)) (hwT : ∀ k, k < 6 → TkW (T k)) (hp : 1 ≤ p) (hp2 : p ≤ 2000) (hco : co ≤ 500) (hK : K (oI (itB (cnd S T co sa ta) p (p + 1) 1)) V) : wp_X4_leastBound V K (nI co) (nI p) sa ta := by
  unfold wp_X4_leastBound
  refine ⟨p + 1 + 1, lp_up (fun i (q : St → Int32 → Int32 → Prop) => ∀ r : Nat, r ≤ p → K (oI (itB (cnd S T co sa ta) p (p + 1 - i) r)) V → q V (nI r) (nI i)) (p + 1) ?_ ?_ (p + 1) 0 (by omega) 1 hp hK⟩
  · intro q r hr hK2
    unfold h_X4_leastBound_6
    rw [if_pos (nI_lt (by omega) (by omega))]
    rw [Nat.sub_self] at hK2
    exact hK2
  · intro i hi q hq r hr hK2
    have hb := cnd_le (sa := sa) (ta := ta) hw hwT hco (show r ≤ 2000 by omega)
    unfold h_X4_leastBound_6
    rw [if_neg (nI_nlt (by omega) (by omega)), nI_1]
    refine c_hT h hw (by omega) (c_tT h hw (by omega) (c_kT h hwT (by omega) ?_))
    rintro x7 rfl
    rw [nI_add, nI_add, nI_add]
    change if nI (cnd S T co sa ta r) ≤ nI p then (if nI (cnd S T co sa ta r) = nI r then K (nI r) V else q V (nI (cnd S T co sa ta r)) (nI (i + 1))) else K (-1) V
    rw [show p + 1 - i = (p - i) + 1 by omega, itB_s] at hK2
    by_cases h1 : p < cnd S T co sa ta r
    · rw [if_neg (nI_ge h1 (by omega))]
      rw [if_pos h1] at hK2
      exact hK2
    · rw [if_pos (nI_le (by omega) (by omega))]
      rw [if_neg h1] at hK2
      by_cases h2 : cnd S T co sa ta r = r
      · rw [if_pos (by rw [h2])]
        rw [if_pos h2] at hK2
        exact hK2
      · rw [if_neg (fun e => h2 ((nI_eq (by omega) (by omega)).mp e))]
        rw [if_neg h2] at hK2
        exact hq _ (by omega) (by rw [show p + 1 - (i + 1) = p - i by omega]; exact hK2)
theorem m_while {b : (St → Int32 → Prop) → St → Int32 → Prop} {V : St} {K : Int32 → St → Prop} {nd : Nat → Nat} {p : Nat} (hb : ∀ (q : St → Int32 → Prop) (r : Nat), r < 2 ^ 30 → (p < r → K (-1) V) → (r ≤ p → nd r = r → K (nI r) V) → (r ≤ p → nd r ≠ r → q V (nI (nd r))) → b q V (nI r)) (hm : ∀ r r', r ≤ r' → nd r ≤ nd r') (hl : ∀ r, r ≤ p → nd r < 2 ^ 30) (hp : 1 ≤ p) (h1 : 1 ≤ nd 1) (hK : K (oI (itB nd p (p + 1) 1)) V) : ∃ n, lp (fun _ _ => False) b n V (1 : Int32) := by
  refine ⟨p + 1, lp_up (fun i (q : St → Int32 → Prop) => ∀ r : Nat, i + 1 ≤ r → r ≤ nd r → r < 2 ^ 30 → (p < r → K (-1) V) → (r ≤ p → K (oI (itB nd p (p + 1 - i) r)) V) → q V (nI r)) p ?_ ?_ p 0 (by omega) 1 (by omega) h1 (by omega) (fun e => absurd e (by omega)) (fun _ => hK)⟩
  · intro q r h2 h3 h4 h5 h6
    exact hb q r h4 h5 (fun e => absurd e (by omega)) (fun e => absurd e (by omega))
  · intro i hi q hq r h2 h3 h4 h5 h6
    refine hb q r h4 h5 (fun e e2 => ?_) (fun e e2 => ?_)
    · have := h6 e
      rw [show p + 1 - i = (p - i) + 1 by omega, itB_s, if_neg (by omega), if_pos e2] at this
      exact this
    · have h7 := h6 e
      rw [show p + 1 - i = (p - i) + 1 by omega, itB_s] at h7
      refine hq (nd r) (by omega) (hm _ _ h3) (hl r e) (fun e3 => ?_) (fun e3 => ?_)
      · rw [if_pos e3] at h7
        exact h7
      · rw [if_neg (by omega), if_neg e2] at h7
        rw [show p + 1 - (i + 1) = p - i by omega]
        exact h7
def tB (S : Nat → SA) (T : St) (k : Nat) : Option Nat := itB (cnd S T (T k 2).toNatClampNeg (-1) (T k 3)) (T k 1).toNatClampNeg ((T k 1).toNatClampNeg + 1) 1
theorem nle_m1 {v : Nat} (hv : v < 2 ^ 31) : ¬ nI v ≤ (-1 : Int32) := by
  intro q
  have h1 : (nI v).toInt ≤ (-1 : Int32).toInt := Int32.le_iff_toInt_le.mp q
  rw [nI_toInt hv] at h1
  have h2 : (-1 : Int32).toInt = -1 := by decide
  omega
theorem hS_all {S : Nat → SA} {r k : Nat} (h : PW (S k)) : hS S (-1) r k = hN (S k) r := by
  rcases h.1 with h3 | h3
  · rw [hS0 h3]
    exact (if_neg (by rw [h3]; decide)).symm
  · obtain ⟨tp, co, di, bu, pe, pr, g1, g2, g3, g4, g5, g6, g7, g8, g9, g10, g12, g13, g14, g15, g16, g17⟩ := h.2 h3
    unfold hS
    rw [g17, if_neg (nle_m1 (by omega))]
theorem kS_none {T : St} {r k : Nat} (h : TkW (T k)) : kS T 31 r k = 0 := by
  rcases h.1 with h3 | h3
  · exact kS0 h3
  · obtain ⟨pe, co, pr, g1, g2, g3, g4, g5, g6, g7, g8⟩ := h.2 h3
    unfold kS
    rw [g8, if_pos (kle (c := 31) g5)]
theorem c_tB {t n fd : Nat} {tp tr : Nat → Int32} {S : Nat → SA} {T V : St} {K : Int32 → St → Prop} {k : Nat} (h : RC t n fd tp tr S T V) (hw : ∀ k, k < 6 → PW (S k)) (hwT : ∀ k, k < 6 → TkW (T k)) (hk : k < 6) (h3 : T k 0 = 1) (hK : K (oI (tB S T k)) V) : wp_X4_taskBound V K (6 + 1 * k) := by
  obtain ⟨pe, co, pr, g1, g2, g3, g4, g5, g6, g7, g8⟩ := (hwT k hk).2 h3
  have e := h.2.2.2.2.2 k hk
  unfold wp_X4_taskBound
  rw [e 1 (by omega), e 2 (by omega), e 3 (by omega), g6, g7]
  unfold tB at hK
  rw [g6, g7, nI_clamp (by omega), nI_clamp (by omega)] at hK
  exact c_lB h hw hwT g1 g2 g4 hK
theorem m_tB {t n fd : Nat} {tp tr : Nat → Int32} {S : Nat → SA} {T V : St} {K : Int32 → St → Prop} {k : Nat} (h : RM t n fd tp tr S T V) (hw : ∀ k, k < 6 → PW (S k)) (hwT : ∀ k, k < 6 → TkW (T k)) (hk : k < 6) (h3 : T k 0 = 1) (hK : K (oI (tB S T k)) V) : wp_X5_taskBound V K (nI k) := by
  obtain ⟨pe, co, pr, g1, g2, g3, g4, g5, g6, g7, g8⟩ := (hwT k hk).2 h3
  have e : ∀ j, j < 8 → V (82 + j) k = T k j := h.2.2.2.2.2.2 k hk
  have hv : vp_in (nI k) 6 := vp_in_nI hk (by omega)
  unfold tB at hK
  rw [g6, g7, nI_clamp (by omega), nI_clamp (by omega)] at hK
  unfold wp_X5_taskBound
  refine m_while (nd := cnd S T co (-1) (T k 3)) (p := pe) ?_ (fun r r' => cnd_mono) (fun r hr => Nat.lt_of_le_of_lt (cnd_le hw hwT g4 (by omega)) (by omega)) g1 ?_ hK
  · intro q r hr k1 k2 k3
    unfold h_X5_taskBound_2
    rw [nI_clamp (by omega), show V 83 k = nI pe from (e 1 (by omega)).trans g6]
    refine ⟨hv, ?_⟩
    by_cases hc : pe < r
    · rw [if_pos (nI_lt hc (by omega))]
      exact k1 hc
    · rw [if_neg (nI_nlt (by omega) (by omega))]
      refine m_tNd h hw hwT hk g7 (by omega) ?_
      have hb := cnd_le (sa := -1) (ta := T k 3) hw hwT g4 (show r ≤ 2000 by omega)
      have en : co + sM (fun k => hN (S k) r + tN (S k) r) 6 + sM (kS T (T k 3) r) 6 = cnd S T co (-1) (T k 3) r := by
        unfold cnd
        rw [sM_add, sM_cong (f := hS S (-1) r) (g := fun k => hN (S k) r) 6 (fun j hj => hS_all (hw j hj))]
        omega
      rw [en]
      by_cases h2 : cnd S T co (-1) (T k 3) r = r
      · rw [if_pos (by rw [h2])]
        exact k2 (by omega) h2
      · rw [if_neg (fun e => h2 ((nI_eq (by omega) (by omega)).mp e))]
        exact k3 (by omega) h2
  · unfold cnd
    omega
def sB (S : Nat → SA) (T : St) (k : Nat) : Option Nat := if (S k).1 0 7 < (S k).1 0 5 then none else if (S k).1 0 8 ≤ (S k).1 0 6 then itB (cnd S T ((S k).1 0 5).toNatClampNeg ((S k).1 0 9) 31) ((S k).1 0 8).toNatClampNeg (((S k).1 0 8).toNatClampNeg + 1) 1 else none
theorem c_sB {t n fd : Nat} {tp tr : Nat → Int32} {S : Nat → SA} {T V : St} {K : Int32 → St → Prop} {k : Nat} (h : RC t n fd tp tr S T V) (hw : ∀ k, k < 6 → PW (S k)) (hwT : ∀ k, k < 6 → TkW (T k)) (hk : k < 6) (h3 : (S k).1 0 3 = 1) (hK : K (oI (sB S T k)) V) : wp_X4_sourceBound V K (12 + 8 * k) := by
  obtain ⟨tp, co, di, bu, pe, pr, g1, g2, g3, g4, g5, g6, g7, g8, g9, g10, g12, g13, g14, g15, g16, g17⟩ := (hw k hk).2 h3
  have hC := h.2.2.2.2.1 k hk
  unfold wp_X4_sourceBound
  rw [hC.1 5 (by omega) (by omega), hC.1 6 (by omega) (by omega), hC.1 7 (by omega) (by omega), hC.1 8 (by omega) (by omega), hC.1 9 (by omega) (by omega)]
  unfold sB at hK
  by_cases c1 : (S k).1 0 7 < (S k).1 0 5
  · rw [if_pos c1] at hK ⊢
    exact hK
  · rw [if_neg c1] at hK ⊢
    by_cases c2 : (S k).1 0 8 ≤ (S k).1 0 6
    · rw [if_pos c2] at hK ⊢
      rw [g13, g16, nI_clamp (by omega), nI_clamp (by omega)] at hK
      rw [g13, g16]
      exact c_lB h hw hwT g8 (by omega) (by omega) hK
    · rw [if_neg c2] at hK ⊢
      exact hK
theorem m_sB {t n fd : Nat} {tp tr : Nat → Int32} {S : Nat → SA} {T V : St} {K : Int32 → St → Prop} {k : Nat} (h : RM t n fd tp tr S T V) (hw : ∀ k, k < 6 → PW (S k)) (hwT : ∀ k, k < 6 → TkW (T k)) (hk : k < 6) (h3 : (S k).1 0 3 = 1) (hK : K (oI (sB S T k)) V) : wp_X5_sourceBound V K (nI k) := by
  obtain ⟨tp, co, di, bu, pe, pr, g1, g2, g3, g4, g5, g6, g7, g8, g9, g10, g12, g13, g14, g15, g16, g17⟩ := (hw k hk).2 h3
  have hC := h.2.2.2.2.2.1 k hk
  have hv : vp_in (nI k) 6 := vp_in_nI hk (by omega)
  have e66 : V 66 k = nI pe := (hC.1 8 (by omega) (by omega)).trans g16
  have hbody : ∀ (q : St → Int32 → Prop) (r : Nat), r < 2 ^ 30 → (pe < r → K (-1) V) → (r ≤ pe → cnd S T co ((S k).1 0 9) 31 r = r → K (nI r) V) → (r ≤ pe → cnd S T co ((S k).1 0 9) 31 r ≠ r → q V (nI (cnd S T co ((S k).1 0 9) 31 r))) → h_X5_sourceBound_43 K (nI k) q V (nI r) := by
    intro q r hr k1 k2 k3
    unfold h_X5_sourceBound_43
    rw [nI_clamp (by omega), e66]
    refine ⟨hv, ?_⟩
    by_cases hc : pe < r
    · rw [if_pos (nI_lt hc (by omega))]
      exact k1 hc
    · rw [if_neg (nI_nlt (by omega) (by omega))]
      refine m_sNd h hw hk g13 (by omega) ?_
      have hb := cnd_le (sa := (S k).1 0 9) (ta := 31) hw hwT (show co ≤ 500 by omega) (show r ≤ 2000 by omega)
      have en : co + sM (fun j => tN (S j) r + hS S ((S k).1 0 9) r j) 6 = cnd S T co ((S k).1 0 9) 31 r := by
        unfold cnd
        rw [sM_add, sM_zero (f := kS T 31 r) 6 (fun j hj => kS_none (hwT j hj))]
        omega
      rw [en]
      by_cases h2 : cnd S T co ((S k).1 0 9) 31 r = r
      · rw [if_pos (by rw [h2])]
        exact k2 (by omega) h2
      · rw [if_neg (fun e => h2 ((nI_eq (by omega) (by omega)).mp e))]
        exact k3 (by omega) h2
  have h30 : K (-1) V → b_X5_sourceBound_30 K (nI k) V := by
    intro hk1
    unfold b_X5_sourceBound_30
    refine ⟨hv, ?_⟩
    rintro x1 rfl
    rw [nI_clamp (by omega), e66, nI_1]
    exact ⟨1, hbody _ (pe + 1) (by omega) (fun _ => hk1) (fun e => absurd e (by omega)) (fun e => absurd e (by omega))⟩
  unfold wp_X5_sourceBound
  rw [nI_clamp (by omega), show V 63 k = (S k).1 0 5 from hC.1 5 (by omega) (by omega), show V 64 k = (S k).1 0 6 from hC.1 6 (by omega) (by omega), show V 65 k = (S k).1 0 7 from hC.1 7 (by omega) (by omega), show V 66 k = (S k).1 0 8 from hC.1 8 (by omega) (by omega)]
  refine ⟨hv, hv, ?_⟩
  unfold sB at hK
  by_cases c1 : (S k).1 0 7 < (S k).1 0 5
  · rw [if_pos c1] at hK ⊢
    exact h30 hK
  · rw [if_neg c1] at hK ⊢
    refine ⟨hv, hv, ?_⟩
    by_cases c2 : (S k).1 0 8 ≤ (S k).1 0 6
    · rw [if_pos c2] at hK ⊢
      rw [g13, g16, nI_clamp (by omega), nI_clamp (by omega)] at hK
      exact m_while (nd := cnd S T co ((S k).1 0 9) 31) (p := pe) hbody (fun r r' => cnd_mono) (fun r hr => Nat.lt_of_le_of_lt (cnd_le hw hwT (by omega) (by omega)) (by omega)) g8 (by unfold cnd; omega) hK
    · rw [if_neg c2] at hK ⊢
      exact h30 hK
/-! admitted -/
def adB (S : Nat → SA) (T : St) : Nat → Bool
  | 0 => true
  | i + 1 => adB S T i && (decide (T i 0 = 0) || (tB S T i).isSome)
theorem adB_s (S : Nat → SA) (T : St) (i : Nat) : adB S T (i + 1) = (adB S T i && (decide (T i 0 = 0) || (tB S T i).isSome)) := rfl
theorem adB_mono {S : Nat → SA} {T : St} {i : Nat} (h : adB S T i = false) : ∀ m, adB S T (i + m) = false
  | 0 => h
  | m + 1 => by
    show (adB S T (i + m) && _) = false
    rw [adB_mono h m]
    rfl
theorem tB_le {S : Nat → SA} {T : St} {k q : Nat} (h : TkW (T k)) (h3 : T k 0 = 1) (e : tB S T k = some q) : q ≤ 2000 := by
  obtain ⟨pe, co, pr, g1, g2, g3, g4, g5, g6, g7, g8⟩ := h.2 h3
  have := itB_le _ _ _ _ _ e
  rw [g6, nI_clamp (by omega)] at this
  omega
theorem c_adm {t n fd : Nat} {tp tr : Nat → Int32} {S : Nat → SA} {T V : St} {K : Int32 → St → Prop} (h : RC t n fd tp tr S T V) (hw : ∀ k, k < 6 → PW (S k)) (hwT : ∀ k, k < 6 → TkW (T k)) (hK : K (if adB S T 6 = true then 1 else 0) V) : wp_X4_tasksAdmitted V K := by
  unfold wp_X4_tasksAdmitted
  refine ⟨6 + 1, lp_up (fun i (q : St → Int32 → Prop) => adB S T i = true → q V (nI i)) 6 ?_ ?_ 6 0 rfl rfl⟩
  · intro q ha
    unfold h_X4_tasksAdmitted_2
    rw [if_pos l6]
    rw [if_pos ha] at hK
    exact hK
  · intro i hi q hq ha
    rw [adB_s, ha, Bool.true_and] at hq
    unfold h_X4_tasksAdmitted_2
    rw [if_neg (i6 hi), nI_1]
    refine ⟨i, hi, rfl, ?_⟩
    rw [h.2.2.2.2.2 i hi 0 (by omega)]
    rcases (hwT i hi).1 with h3 | h3
    · rw [if_pos h3]
      exact hq (by simp [h3])
    · rw [if_neg (by rw [h3]; decide)]
      refine ⟨i, hi, rfl, ?_⟩
      refine c_tB h hw hwT hi h3 ?_
      cases hb : tB S T i with
      | none =>
        rw [show oI none = (-1 : Int32) from rfl, if_pos rfl]
        have hf : adB S T (i + 1) = false := by rw [adB_s, hb, h3]; simp
        have h6 := adB_mono hf (6 - (i + 1))
        rw [show i + 1 + (6 - (i + 1)) = 6 by omega] at h6
        rw [if_neg (by rw [h6]; simp)] at hK
        exact hK
      | some r =>
        have := tB_le (hwT i hi) h3 hb
        rw [show oI (some r) = nI r from rfl, if_neg (fun e => nle_m1 (v := r) (by omega) (by rw [e]; exact Int32.le_refl _))]
        exact hq (by simp [hb])
theorem m_adm {t n fd : Nat} {tp tr : Nat → Int32} {S : Nat → SA} {T V : St} {K : Int32 → St → Prop} (h : RM t n fd tp tr S T V) (hw : ∀ k, k < 6 → PW (S k)) (hwT : ∀ k, k < 6 → TkW (T k)) (hK : K (if adB S T 6 = true then 1 else 0) V) : wp_X5_areAdmitted V K := by
  unfold wp_X5_areAdmitted
  refine ⟨6 + 1, lp_up (fun i (q : St → Int32 → Int32 → Prop) => q V (if adB S T i = true then 1 else 0) (nI i)) 6 ?_ ?_ 6 0 rfl⟩
  · intro q
    unfold h_X5_areAdmitted_4
    rw [if_pos l6]
    refine ⟨?_, hK⟩
    split
    · exact Or.inr rfl
    · exact Or.inl rfl
  · intro i hi q hq
    rw [adB_s] at hq
    have hv : vp_in (nI i) 6 := vp_in_nI hi (by omega)
    unfold h_X5_areAdmitted_4
    rw [if_neg (i6 hi), nI_1]
    by_cases ha : adB S T i = true
    · rw [ha, Bool.true_and] at hq
      rw [if_pos ha, if_neg (by decide), nI_clamp (by omega), show V 82 i = T i 0 from h.2.2.2.2.2.2 i hi 0 (by omega)]
      refine ⟨hv, ?_⟩
      rcases (hwT i hi).1 with h3 | h3
      · rw [if_pos h3]
        unfold b_X5_areAdmitted_31
        rw [nI_1]
        rw [if_pos (by simp [h3])] at hq
        exact hq
      · rw [if_neg (by rw [h3]; decide)]
        refine m_tB h hw hwT hi h3 ?_
        cases hb : tB S T i with
        | none =>
          rw [show oI none = (-1 : Int32) from rfl, if_pos (by decide)]
          rw [hb, h3, if_neg (by simp)] at hq
          exact hq
        | some r =>
          have := tB_le (hwT i hi) h3 hb
          rw [show oI (some r) = nI r from rfl, if_neg (nI_pos (by omega))]
          unfold b_X5_areAdmitted_31
          rw [nI_1]
          rw [hb, if_pos (by simp)] at hq
          exact hq
    · have ha : adB S T i = false := by simpa using ha
      rw [ha, Bool.false_and] at hq
      rw [show (if adB S T i = true then (1 : Int32) else 0) = 0 by rw [ha]; rfl, if_pos rfl]
      rw [if_neg (by simp)] at hq
      exact hq
