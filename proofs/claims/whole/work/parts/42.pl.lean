/-! a top half -/
theorem c_top {t n fd s q : Nat} {tp tr : Nat → Int32} {S : Nat → SA} {T V : St} {K : Int32 → St → Prop} (h : RC t (n + 1) fd tp tr S T V) (hs : s < 6) (e0 : tp 0 = nI s) (eq : (S s).1 0 4 = nI q) (hq : q ≤ 3) (hfd : fd < q) (hK1 : fd + 1 < q → ∀ V', RC t (n + 1) (fd + 1) tp tr S T V' → FC V V' → K (nI s) V') (hK2 : fd + 1 = q → ∀ V', RC t n 0 (fun i => tp (i + 1)) tr S T V' → FC V V' → K (nI s) V') : wp_X4_runTop V K := by
  obtain ⟨h1, h2, h3, h4, h5, h6⟩ := h
  unfold wp_X4_runTop
  refine ring_first h3 (by omega) (by omega) ?_
  rintro V3 rfl
  rw [h2, nI_1]
  refine ⟨s, hs, e0, ?_⟩
  rw [up2_ss, up2_n (by omega), show V (12 + 8 * s) 4 = nI q from ((h5 s hs).1 4 (by omega) (by omega)).trans eq, e0]
  have hF1 : ∀ j, j ≠ 0 → up2 V 0 4 (nI (fd + 1)) j = V j := fun j hj => up2_n hj
  by_cases hc : fd + 1 < q
  · rw [if_pos (nI_lt hc (by omega))]
    refine hK1 hc _ ⟨?_, up2_ss _ _ _ _, h3.fr (hF1 _ (by omega)) (hF1 _ (by omega)), fun a b c => ?_, fun k hk => (h5 k hk).fr (fun r hr => hF1 _ (by omega)), fun k hk i hi => ?_⟩ (fun j hj => hF1 j (by omega))
    · rw [up2_sn (by omega)]; exact h1
    · rw [hF1 _ (by omega)]; exact h4 a b c
    · rw [hF1 _ (by omega)]; exact h6 k hk i hi
  · rw [if_neg (nI_nlt (by omega) (by omega))]
    refine ring_rem (h3.fr (hF1 _ (by omega)) (hF1 _ (by omega))) (by omega) ?_
    intro V5 hR hF5
    rintro V6 rfl
    have hF6 : ∀ j, j ≠ 0 → j ≠ 3 → up2 V5 0 4 0 j = V j := fun j a b => by rw [up2_n a, hF5 j b, hF1 j a]
    refine hK2 (by omega) _ ⟨?_, up2_ss _ _ _ _, hR.fr (up2_n (by omega)) (up2_n (by omega)), fun a b c => ?_, fun k hk => (h5 k hk).fr (fun r hr => hF6 _ (by omega) (by omega)), fun k hk i hi => ?_⟩ (fun j hj => hF6 j (by omega) (by omega))
    · rw [up2_sn (by omega), hF5 _ (by omega), up2_sn (by omega)]; exact h1
    · rw [hF6 _ (by omega) (by omega)]; exact h4 a b c
    · rw [hF6 _ (by omega) (by omega)]; exact h6 k hk i hi
theorem m_top {lo t n fd s q : Nat} {tp tr : Nat → Int32} {S : Nat → SA} {T V : St} {K : Int32 → St → Prop} (h : RM t (n + 1) fd tp tr S T V) (hw : ∀ k, k < 6 → SW lo t (S k)) (hn : n < 192) (hs : s < 6) (e0 : tp 0 = nI s) (eq : (S s).1 0 4 = nI q) (hq : q ≤ 3) (hfd : fd < q) (hK1 : fd + 1 < q → ∀ V', RM t (n + 1) (fd + 1) tp tr S T V' → FM0 V V' → K ((10 : Int32) + nI s) V') (hK2 : fd + 1 = q → ∀ V', RM t n 0 (fun i => tp (i + 1)) tr S T V' → FM0 V V' → K ((10 : Int32) + nI s) V') : wp_X5_runTop V K := by
  have h' := h
  obtain ⟨h1, h2, h3, h4, h5, h6, h7⟩ := h'
  have et : tpo S (tp 0) = nI q := by
    unfold tpo
    rw [e0, nI_clamp (by omega)]; exact eq
  have hv : vp_in (0 : Int32) 600 := vp_in_nI (n := 0) (by omega) (by omega)
  have hz : ((0 : Int32)).toNatClampNeg = 0 := rfl
  unfold wp_X5_runTop
  rw [hz, h3 0 (by omega), h4 0 (by omega), if_pos rfl, et, pk_sub (by omega), e0]
  refine ⟨hv, ?_⟩
  rintro x1 rfl
  refine ⟨hv, hv, ?_⟩
  rw [show nI (q - fd) - 1 = nI (q - fd - 1) from pk_sub (b := 1) (by omega)]
  rintro V2 rfl
  rw [up2_ss]
  refine ⟨hv, ?_⟩
  by_cases hc : fd + 1 = q
  · rw [show q - fd - 1 = 0 by omega, if_pos nI_0, show up2 V 91 0 (nI 0) 60 31 = nI (n + 1) by rw [up2_n (by omega)]; exact h2, nI_pred]
    rintro V3 rfl
    refine ⟨n + 1, lp_up (fun i (r : St → Int32 → Int32 → Prop) => ∀ V' : St, (∀ j, j < n + 1 → V' 90 j = if j < i then tp (j + 1) else tp j) → (∀ j, j < n + 1 → (0 < j ∨ 0 < i) → V' 91 j = if j < i then tpo S (tp (j + 1)) else tpo S (tp j)) → (∀ j c, j ≠ 90 → j ≠ 91 → V' j c = up2 V 60 31 (nI n) j c) → r V' (nI s) (nI i)) n ?_ ?_ n 0 (by omega) _ (fun j hj => ?_) (fun j hj hj0 => ?_) (fun j c a b => ?_)⟩
    · intro r V' e90 e91 hF
      unfold h_X5_runTop_38
      rw [show V' 60 31 = nI n by rw [hF _ _ (by omega) (by omega), up2_ss], if_pos (nI_le (Nat.le_refl n) (by omega))]
      refine hK2 hc V' ⟨?_, ?_, fun i hi => ?_, fun i hi => ?_, fun a b c => ?_, fun k hk => (h6 k hk).fr (hw k hk).1 (hw k hk).u30 (fun a c ho => ?_), fun k hk i hi => ?_⟩ (fun j c hj => ?_)
      · rw [hF _ _ (by omega) (by omega), up2_sn (by omega)]; exact h1
      · rw [hF _ _ (by omega) (by omega), up2_ss]
      · rw [e90 i (by omega), if_pos hi]
      · rw [e91 i (by omega) (by omega), if_pos hi]
        split
        · rename_i e; rw [e, nI_0, Int32.sub_zero]
        · rfl
      · rw [hF _ _ (by omega) (by omega), up2_n (by omega)]; exact h5 a b c
      · unfold own at ho
        rw [hF _ _ (by omega) (by omega), up2_n (by omega)]
      · rw [hF _ _ (by omega) (by omega), up2_n (by omega)]; exact h7 k hk i hi
      · rw [hF _ _ (by omega) (by omega), up2_at, if_neg (by omega)]
    · intro i hi r hr V' e90 e91 hF
      unfold h_X5_runTop_38
      rw [show V' 60 31 = nI n by rw [hF _ _ (by omega) (by omega), up2_ss], if_neg (nI_ge hi (by omega)), nI_1, nI_clamp (by omega), nI_clamp (by omega), e90 (i + 1) (by omega), if_neg (by omega)]
      refine ⟨vp_in_nI (by omega) (by omega), vp_in_nI (by omega) (by omega), ?_⟩
      rintro V1 rfl
      refine ⟨vp_in_nI (by omega) (by omega), vp_in_nI (by omega) (by omega), ?_⟩
      rw [show up2 V' 90 i (tp (i + 1)) 91 (i + 1) = tpo S (tp (i + 1)) by rw [up2_n (by omega), e91 (i + 1) (by omega) (by omega), if_neg (by omega)]]
      rintro V2 rfl
      refine hr _ (fun j hj => ?_) (fun j hj hj0 => ?_) (fun j c a b => ?_)
      · rw [up2_n (by omega), up2_at]
        by_cases e : j = i
        · rw [if_pos ⟨rfl, e⟩, if_pos (by omega), e]
        · rw [if_neg (fun y => e y.2), e90 j hj]
          by_cases e2 : j < i
          · rw [if_pos e2, if_pos (by omega)]
          · rw [if_neg e2, if_neg (by omega)]
      · rw [up2_at]
        by_cases e : j = i
        · rw [if_pos ⟨rfl, e⟩, if_pos (by omega), e]
        · rw [if_neg (fun y => e y.2), up2_n (by omega), e91 j hj (by omega)]
          by_cases e2 : j < i
          · rw [if_pos e2, if_pos (by omega)]
          · rw [if_neg e2, if_neg (by omega)]
      · rw [up2_n b, up2_n a]; exact hF j c a b
    · rw [if_neg (Nat.not_lt_zero j), up2_n (by omega), up2_n (by omega)]; exact h3 j hj
    · rw [if_neg (Nat.not_lt_zero j), up2_n (by omega), up2_sn (by omega), h4 j hj, if_neg (by omega)]
    · rw [up2_at, up2_at, up2_at, if_neg (show ¬ (j = 91 ∧ c = 0) by omega)]
  · rw [if_neg (nI_ne0 (by omega) (by omega))]
    refine hK1 (by omega) _ ⟨?_, ?_, fun i hi => ?_, fun i hi => ?_, fun a b c => ?_, fun k hk => (h6 k hk).fr (hw k hk).1 (hw k hk).u30 (fun a c ho => ?_), fun k hk i hi => ?_⟩ (fun j c hj => by rw [up2_n (by omega)])
    · rw [up2_n (by omega)]; exact h1
    · rw [up2_n (by omega)]; exact h2
    · rw [up2_n (by omega)]; exact h3 i hi
    · rw [up2_at]
      by_cases e : i = 0
      · rw [if_pos ⟨rfl, e⟩, if_pos e, et, pk_sub (by omega), show q - fd - 1 = q - (fd + 1) by omega]
      · rw [if_neg (fun y => e y.2), if_neg e, h4 i hi, if_neg e]
    · rw [up2_n (by omega)]; exact h5 a b c
    · unfold own at ho
      rw [up2_n (by omega)]
    · rw [up2_n (by omega)]; exact h7 k hk i hi
/-! the highest that may run -/
def bst (rd : Nat → Bool) (pr : Nat → Int32) : Nat → Option Nat
  | 0 => none
  | i + 1 => match bst rd pr i with
    | none => if rd i = true then some i else none
    | some j => if rd i = true ∧ ¬ pr i ≤ pr j then some i else some j
theorem bst_lt (rd : Nat → Bool) (pr : Nat → Int32) : ∀ i j, bst rd pr i = some j → j < i ∧ rd j = true
  | 0, j, h => by simp [bst] at h
  | i + 1, j, h => by
    unfold bst at h
    have ih := bst_lt rd pr i
    cases hb : bst rd pr i with
    | none =>
      rw [hb] at h
      by_cases hr : rd i = true
      · simp only [if_pos hr] at h
        have := Option.some.inj h
        subst this
        exact ⟨by omega, hr⟩
      · simp only [if_neg hr] at h
        exact absurd h (by simp)
    | some j2 =>
      rw [hb] at h
      by_cases hr : rd i = true ∧ ¬ pr i ≤ pr j2
      · simp only [if_pos hr] at h
        have := Option.some.inj h
        subst this
        exact ⟨by omega, hr.1⟩
      · simp only [if_neg hr] at h
        have := Option.some.inj h
        subst this
        have := ih j2 hb
        exact ⟨by omega, this.2⟩
def oI : Option Nat → Int32
  | none => -1
  | some j => nI j
def oP (pr : Nat → Int32) : Option Nat → Int32
  | none => -1
  | some j => pr j
/-- one step of the component's search -/
theorem bst_c {rd : Nat → Bool} {pr : Nat → Int32} {i : Nat} (hp : rd i = true → ∃ v : Nat, v < 2 ^ 31 ∧ pr i = nI v) : bst rd pr (i + 1) = if rd i = true ∧ ¬ pr i ≤ oP pr (bst rd pr i) then some i else bst rd pr i := by
  show (match bst rd pr i with
    | none => if rd i = true then some i else none
    | some j => if rd i = true ∧ ¬ pr i ≤ pr j then some i else some j) = _
  cases hb : bst rd pr i with
  | none =>
    by_cases hr : rd i = true
    · obtain ⟨v, hv, ev⟩ := hp hr
      have : ¬ pr i ≤ oP pr none := by
        rw [ev]
        show ¬ nI v ≤ (-1 : Int32)
        intro q
        have h1 : (nI v).toInt ≤ (-1 : Int32).toInt := Int32.le_iff_toInt_le.mp q
        rw [nI_toInt hv] at h1
        have h2 : (-1 : Int32).toInt = -1 := by decide
        omega
      show (if rd i = true then some i else none) = _
      rw [if_pos hr, if_pos ⟨hr, this⟩]
    · show (if rd i = true then some i else none) = _
      rw [if_neg hr, if_neg (fun q => hr q.1)]
  | some j => rfl
def rdS (S : Nat → SA) (k : Nat) : Bool := decide ((S k).1 0 3 = 1 ∧ 0 < (S k).2.1 ∧ 0 < (S k).2.2.1)
def prS (S : Nat → SA) (k : Nat) : Int32 := (S k).1 0 9
def rdT (T : St) (k : Nat) : Bool := decide (T k 0 = 1 ∧ ¬ T k 5 ≤ 0)
def prT (T : St) (k : Nat) : Int32 := T k 3
theorem SW.prio {lo t : Nat} {x : SA} (h : SW lo t x) (h3 : x.1 0 3 = 1) : ∃ v : Nat, v < 2 ^ 31 ∧ x.1 0 9 = nI v := by
  obtain ⟨tp, co, di, bu, pe, pr, fd, g1, g2, g3, g4, g5, g6, g7, g8, g9, g10, g11, g12, g13, g14, g15, g16, g17, g18, g19⟩ := h.2.2.2.2.2.1 h3
  exact ⟨pr, by omega, g17⟩
theorem c_best {lo t n fd : Nat} {tp tr : Nat → Int32} {S : Nat → SA} {T V : St} {K : Int32 → St → Prop} (h : RC t n fd tp tr S T V) (hw : ∀ k, k < 6 → SW lo t (S k)) (hK : K (oI (bst (rdS S) (prS S) 6)) V) : wp_X4_highestReadySource V K := by
  unfold wp_X4_highestReadySource
  refine ⟨6 + 1, lp_up (fun i (r : St → Int32 → Int32 → Int32 → Prop) => r V (oI (bst (rdS S) (prS S) i)) (oP (prS S) (bst (rdS S) (prS S) i)) (nI i)) 6 ?_ ?_ 6 0 rfl⟩
  · intro r
    unfold h_X4_highestReadySource_6
    rw [if_pos l6]
    exact hK
  · intro i hi r hr
    have hC := h.2.2.2.2.1 i hi
    have hw3 := (hw i hi).2.2.1
    have hstep := bst_c (rd := rdS S) (pr := prS S) (i := i) (fun q => (hw i hi).prio (by have := of_decide_eq_true q; exact this.1))
    rw [hstep] at hr
    unfold h_X4_highestReadySource_6
    rw [if_neg (i6 hi), nI_1]
    refine ⟨i, hi, rfl, ?_⟩
    rw [hC.1 3 (by omega) (by omega)]
    rcases hw3 with h3 | h3
    · rw [if_pos h3]
      rw [if_neg (fun q => absurd ((of_decide_eq_true q.1).1) (by rw [h3]; decide))] at hr
      exact hr
    · rw [if_neg (by rw [h3]; decide)]
      refine ⟨i, hi, rfl, ?_⟩
      refine c_ready hC ?_
      by_cases hrd : 0 < (S i).2.1 ∧ 0 < (S i).2.2.1
      · have hrt : rdS S i = true := decide_eq_true ⟨h3, hrd.1, hrd.2⟩
        rw [if_pos hrd, if_neg (by decide)]
        refine ⟨i, hi, rfl, ?_⟩
        rw [hC.1 9 (by omega) (by omega)]
        by_cases hle : (S i).1 0 9 ≤ oP (prS S) (bst (rdS S) (prS S) i)
        · rw [if_pos hle]
          rw [if_neg (fun q => q.2 hle)] at hr
          exact hr
        · rw [if_neg hle]
          rw [if_pos ⟨hrt, hle⟩] at hr
          refine ⟨i, hi, rfl, ?_⟩
          rintro x7 rfl
          rw [hC.1 9 (by omega) (by omega)]
          exact hr
      · rw [if_neg hrd, if_pos rfl]
        rw [if_neg (fun q => hrd (of_decide_eq_true q.1).2)] at hr
        exact hr
theorem c_bestT {t n fd : Nat} {tp tr : Nat → Int32} {S : Nat → SA} {T V : St} {K : Int32 → St → Prop} (h : RC t n fd tp tr S T V) (hw : ∀ k, k < 6 → TkW (T k)) (hK : K (oI (bst (rdT T) (prT T) 6)) V) : wp_X4_highestTaskWithWork V K := by
  unfold wp_X4_highestTaskWithWork
  refine ⟨6 + 1, lp_up (fun i (r : St → Int32 → Int32 → Int32 → Prop) => r V (oI (bst (rdT T) (prT T) i)) (oP (prT T) (bst (rdT T) (prT T) i)) (nI i)) 6 ?_ ?_ 6 0 rfl⟩
  · intro r
    unfold h_X4_highestTaskWithWork_6
    rw [if_pos l6]
    exact hK
  · intro i hi r hr
    have hC := h.2.2.2.2.2 i hi
    have hstep := bst_c (rd := rdT T) (pr := prT T) (i := i) (fun q => by
      obtain ⟨pe, co, pr, g1, g2, g3, g4, g5, g6, g7, g8⟩ := (hw i hi).2 (of_decide_eq_true q).1
      exact ⟨pr, by omega, g8⟩)
    rw [hstep] at hr
    unfold h_X4_highestTaskWithWork_6
    rw [if_neg (i6 hi), nI_1]
    refine ⟨i, hi, rfl, ?_⟩
    rw [hC 0 (by omega)]
    rcases (hw i hi).1 with h3 | h3
    · rw [if_pos h3]
      rw [if_neg (fun q => absurd ((of_decide_eq_true q.1).1) (by rw [h3]; decide))] at hr
      exact hr
    · rw [if_neg (by rw [h3]; decide)]
      refine ⟨i, hi, rfl, ?_⟩
      rw [hC 5 (by omega)]
      by_cases h5 : T i 5 ≤ 0
      · rw [if_pos h5]
        rw [if_neg (fun q => (of_decide_eq_true q.1).2 h5)] at hr
        exact hr
      · have hrt : rdT T i = true := decide_eq_true ⟨h3, h5⟩
        rw [if_neg h5]
        refine ⟨i, hi, rfl, ?_⟩
        rw [hC 3 (by omega)]
        by_cases hle : T i 3 ≤ oP (prT T) (bst (rdT T) (prT T) i)
        · rw [if_pos hle]
          rw [if_neg (fun q => q.2 hle)] at hr
          exact hr
        · rw [if_neg hle]
          rw [if_pos ⟨hrt, hle⟩] at hr
          refine ⟨i, hi, rfl, ?_⟩
          rintro x7 rfl
          rw [hC 3 (by omega)]
          exact hr
