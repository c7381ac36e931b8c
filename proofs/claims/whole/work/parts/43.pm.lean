theorem m_bestT {lo t n fd : Nat} {tp tr : Nat → Int32} {S : Nat → SA} {T V : St} {K : Int32 → St → Prop} (h : RM t n fd tp tr S T V) (hw : ∀ k, k < 6 → TkW (T k)) (hN : bst (rdT T) (prT T) 6 = none → K 0 V) (hS : ∀ k, bst (rdT T) (prT T) 6 = some k → ∀ V' s0, V' = up2 V 87 k (T k 5 - 1) → s0 = (if T k 5 - 1 = 0 then T k 7 + 1 else T k 7) → b_X5_runOne_179 K V' (nI k) s0 (nI k)) : ∃ n, lp (fun _ _ _ => False) (h_X5_runOne_77 K) n V (-1 : Int32) (0 : Int32) := by
  refine ⟨6 + 1, lp_up (fun i (r : St → Int32 → Int32 → Prop) => r V (oI (bst (rdT T) (prT T) i)) (nI i)) 6 ?_ ?_ 6 0 rfl⟩
  · intro r
    unfold h_X5_runOne_77
    rw [if_pos l6]
    cases hb : bst (rdT T) (prT T) 6 with
    | none =>
      rw [show oI none = (-1 : Int32) from rfl, if_neg (by decide)]
      exact hN hb
    | some k =>
      have hk := (bst_lt _ _ _ _ hb).1
      have hv : vp_in (nI k) 6 := vp_in_nI hk (by omega)
      have e5 : V 87 k = T k 5 := h.2.2.2.2.2.2 k hk 5 (by omega)
      have e7 : V 89 k = T k 7 := h.2.2.2.2.2.2 k hk 7 (by omega)
      rw [show oI (some k) = nI k from rfl, if_pos (nI_pos' (by omega)), nI_clamp (by omega), e5]
      refine ⟨hv, hv, ?_⟩
      rintro V1 rfl
      rw [up2_ss, show up2 V 87 k (T k 5 - 1) 89 k = T k 7 by rw [up2_n (by omega)]; exact e7]
      refine ⟨hv, ?_⟩
      by_cases hc : T k 5 - 1 = 0
      · rw [if_pos hc]
        exact ⟨hv, hS k hb _ _ rfl (by rw [if_pos hc])⟩
      · rw [if_neg hc]
        exact ⟨hv, hS k hb _ _ rfl (by rw [if_neg hc])⟩
  · intro i hi r hr
    have hv : vp_in (nI i) 6 := vp_in_nI hi (by omega)
    have e0 : V 82 i = T i 0 := h.2.2.2.2.2.2 i hi 0 (by omega)
    have e3 : V 85 i = T i 3 := h.2.2.2.2.2.2 i hi 3 (by omega)
    have e5 : V 87 i = T i 5 := h.2.2.2.2.2.2 i hi 5 (by omega)
    change r V (oI (match bst (rdT T) (prT T) i with
      | none => if rdT T i = true then some i else none
      | some j => if rdT T i = true ∧ ¬ prT T i ≤ prT T j then some i else some j)) (nI (i + 1)) at hr
    unfold h_X5_runOne_77
    rw [if_neg (i6 hi), nI_1, nI_clamp (by omega), e0, e5, e3]
    refine ⟨hv, ?_⟩
    by_cases hrd : rdT T i = true
    · have hq := of_decide_eq_true hrd
      rw [if_neg (by rw [hq.1]; decide)]
      refine ⟨hv, ?_⟩
      rw [if_neg hq.2]
      cases hb : bst (rdT T) (prT T) i with
      | none =>
        rw [hb] at hr
        rw [show oI none = (-1 : Int32) from rfl, if_pos (by decide)]
        simp only [if_pos hrd] at hr
        unfold b_X5_runOne_120
        rw [nI_1]
        exact hr
      | some j =>
        rw [hb] at hr
        have hj := (bst_lt _ _ _ _ hb).1
        rw [show oI (some j) = nI j from rfl, if_neg (nI_pos (by omega)), nI_clamp (by omega), show V 85 j = T j 3 from h.2.2.2.2.2.2 j (by omega) 3 (by omega)]
        refine ⟨hv, vp_in_nI (by omega) (by omega), ?_⟩
        by_cases hle : T i 3 ≤ T j 3
        · rw [if_pos hle]
          simp only [if_neg (show ¬ (rdT T i = true ∧ ¬ prT T i ≤ prT T j) from fun q => q.2 hle)] at hr
          exact hr
        · rw [if_neg hle]
          simp only [if_pos (show rdT T i = true ∧ ¬ prT T i ≤ prT T j from ⟨hrd, hle⟩)] at hr
          unfold b_X5_runOne_120
          rw [nI_1]
          exact hr
    · have hr2 : r V (oI (bst (rdT T) (prT T) i)) (nI (i + 1)) := by
        cases hb : bst (rdT T) (prT T) i with
        | none =>
          rw [hb] at hr
          simp only [if_neg hrd] at hr
          exact hr
        | some j =>
          rw [hb] at hr
          simp only [if_neg (show ¬ (rdT T i = true ∧ ¬ prT T i ≤ prT T j) from fun q => hrd q.1)] at hr
          exact hr
      by_cases h0 : T i 0 = 0
      · rw [if_pos h0]; exact hr2
      · rw [if_neg h0]
        refine ⟨hv, ?_⟩
        have h1 : T i 0 = 1 := (hw i hi).1.resolve_left h0
        rw [if_pos]
        · exact hr2
        · exact Decidable.byContradiction fun q => hrd (decide_eq_true ⟨h1, q⟩)
theorem m_best {lo t n fd : Nat} {tp tr : Nat → Int32} {S : Nat → SA} {T V : St} {K : Int32 → St → Prop} (h : RM t n fd tp tr S T V) (hw : ∀ k, k < 6 → SW lo t (S k)) (hN : bst (rdS S) (prS S) 6 = none → ∃ n, lp (fun _ _ _ => False) (h_X5_runOne_77 K) n V (-1 : Int32) (0 : Int32)) (hS : ∀ k, bst (rdS S) (prS S) 6 = some k → wp_X5_runHandler V (fun (V1 : St) => K ((20 : Int32) + nI k) V1) (nI k)) : ∃ n, lp (fun _ _ _ => False) (h_X5_runOne_16 K) n V (-1 : Int32) (0 : Int32) := by
  refine ⟨6 + 1, lp_up (fun i (r : St → Int32 → Int32 → Prop) => r V (oI (bst (rdS S) (prS S) i)) (nI i)) 6 ?_ ?_ 6 0 rfl⟩
  · intro r
    unfold h_X5_runOne_16
    rw [if_pos l6]
    cases hb : bst (rdS S) (prS S) 6 with
    | none =>
      rw [show oI none = (-1 : Int32) from rfl, if_pos (by decide)]
      exact hN hb
    | some k =>
      have hk := (bst_lt _ _ _ _ hb).1
      rw [show oI (some k) = nI k from rfl, if_neg (nI_pos (by omega))]
      exact hS k hb
  · intro i hi r hr
    have hv : vp_in (nI i) 6 := vp_in_nI hi (by omega)
    have hM := h.2.2.2.2.2.1 i hi
    change r V (oI (match bst (rdS S) (prS S) i with
      | none => if rdS S i = true then some i else none
      | some j => if rdS S i = true ∧ ¬ prS S i ≤ prS S j then some i else some j)) (nI (i + 1)) at hr
    unfold h_X5_runOne_16
    rw [if_neg (i6 hi), nI_1]
    refine m_ready hM hi (hw i hi) ?_
    by_cases hrd : rdS S i = true
    · rw [if_pos (of_decide_eq_true hrd), if_neg (by decide)]
      cases hb : bst (rdS S) (prS S) i with
      | none =>
        rw [hb] at hr
        rw [show oI none = (-1 : Int32) from rfl, if_pos (by decide)]
        simp only [if_pos hrd] at hr
        unfold b_X5_runOne_49
        rw [nI_1]
        exact hr
      | some j =>
        rw [hb] at hr
        have hj := (bst_lt _ _ _ _ hb).1
        rw [show oI (some j) = nI j from rfl, if_neg (nI_pos (by omega)), nI_clamp (by omega), nI_clamp (by omega), show V 67 j = (S j).1 0 9 from (h.2.2.2.2.2.1 j (by omega)).1 9 (by omega) (by omega), show V 67 i = (S i).1 0 9 from hM.1 9 (by omega) (by omega)]
        refine ⟨hv, vp_in_nI (by omega) (by omega), ?_⟩
        by_cases hle : (S i).1 0 9 ≤ (S j).1 0 9
        · rw [if_pos hle]
          simp only [if_neg (show ¬ (rdS S i = true ∧ ¬ prS S i ≤ prS S j) from fun q => q.2 hle)] at hr
          exact hr
        · rw [if_neg hle]
          simp only [if_pos (show rdS S i = true ∧ ¬ prS S i ≤ prS S j from ⟨hrd, hle⟩)] at hr
          unfold b_X5_runOne_49
          rw [nI_1]
          exact hr
    · rw [if_neg (fun q => hrd (decide_eq_true q)), if_pos rfl]
      cases hb : bst (rdS S) (prS S) i with
      | none =>
        rw [hb] at hr
        simp only [if_neg hrd] at hr
        exact hr
      | some j =>
        rw [hb] at hr
        simp only [if_neg (show ¬ (rdS S i = true ∧ ¬ prS S i ≤ prS S j) from fun q => hrd q.1)] at hr
        exact hr
def wkR (f : Nat → Int32) : Nat → Int32 := upd (upd f 5 (f 5 - 1)) 7 (if f 5 - 1 = 0 then f 7 + 1 else f 7)
theorem TkW.wk {f : Nat → Int32} (h : TkW f) : TkW (wkR f) := by
  have e : ∀ i, i < 5 → wkR f i = f i := fun i hi => by unfold wkR; rw [pk_un (by omega), pk_un (by omega)]
  unfold TkW
  rw [e 0 (by omega), e 1 (by omega), e 2 (by omega), e 3 (by omega)]
  exact h
theorem c_work {f : Nat → Int32} {V : St} {K : St → Prop} {b : Nat} (hf : ∀ i, i < 8 → V b i = f i) (hK : ∀ V', (∀ i, i < 8 → V' b i = wkR f i) → (∀ j, j ≠ b → V' j = V j) → K V') : wp_X0_work V K b := by
  unfold wp_X0_work
  rintro V1 rfl
  rw [hf 5 (by omega), up2_ss]
  by_cases hc : f 5 - 1 = 0
  · rw [if_pos hc]
    rintro V2 rfl
    rw [show up2 V b 5 (f 5 - 1) b 7 = f 7 by rw [up2_sn (by omega)]; exact hf 7 (by omega)]
    refine hK _ (fun i hi => ?_) (fun j hj => by rw [up2_n hj, up2_n hj])
    unfold wkR
    rw [if_pos hc, up2_s, up2_s, upd_at, upd_at, upd_at, upd_at, hf i hi]
  · rw [if_neg hc]
    refine hK _ (fun i hi => ?_) (fun j hj => by rw [up2_n hj])
    unfold wkR
    rw [if_neg hc, up2_s, upd_at, upd_at, upd_at, hf i hi]
    by_cases e : i = 5
    · rw [if_pos e, if_neg (by omega)]
    · rw [if_neg e]
      split
      · rename_i e7; rw [e7]
      · rfl
abbrev AA : Type := Nat × Nat × Nat × (Nat → Int32) × (Nat → Int32) × (Nat → SA) × St
def RCa (a : AA) (V : St) : Prop := RC a.1 a.2.1 a.2.2.1 a.2.2.2.1 a.2.2.2.2.1 a.2.2.2.2.2.1 a.2.2.2.2.2.2 V
def RMa (a : AA) (V : St) : Prop := RM a.1 a.2.1 a.2.2.1 a.2.2.2.1 a.2.2.2.2.1 a.2.2.2.2.2.1 a.2.2.2.2.2.2 V
def GWa (lo : Nat) (a : AA) : Prop := GW lo a.1 a.2.1 a.2.2.1 a.2.2.2.1 a.2.2.2.2.2.1 a.2.2.2.2.2.2
theorem zs_pos {S : Nat → SA} {k : Nat} (hk : k < 6) : (S k).2.1 ≤ zs S := by
  unfold zs
  rcases (show k = 0 ∨ k = 1 ∨ k = 2 ∨ k = 3 ∨ k = 4 ∨ k = 5 by omega) with rfl | rfl | rfl | rfl | rfl | rfl <;> omega
theorem zs_le {lo t : Nat} {S : Nat → SA} (hw : ∀ k, k < 6 → SW lo t (S k)) : zs S ≤ 192 := by
  have h0 := (hw 0 (by omega)).1
  have h1 := (hw 1 (by omega)).1
  have h2 := (hw 2 (by omega)).1
  have h3 := (hw 3 (by omega)).1
  have h4 := (hw 4 (by omega)).1
  have h5 := (hw 5 (by omega)).1
  unfold zs
  omega
theorem runOne_both {t n fd : Nat} {tp tr : Nat → Int32} {S : Nat → SA} {T : St} (htt : t < 2 ^ 30) (hw : GW (t + 1) t n fd tp S T) : ∃ (n' fd' : Nat) (tp' : Nat → Int32) (S' : Nat → SA) (T' : St) (c : Nat), c < 36 ∧ GW (t + 1) t n' fd' tp' S' T' ∧ (∀ (V : St) (K : Int32 → St → Prop), RC t n fd tp tr S T V → (∀ V', RC t n' fd' tp' tr S' T' V' → FC V V' → K (nI c) V') → wp_X4_runOne V K) ∧ (∀ (V : St) (K : Int32 → St → Prop), RM t n fd tp tr S T V → (∀ V', RM t n' fd' tp' tr S' T' V' → FM0 V V' → K (nI c) V') → wp_X5_runOne V K) := by
  obtain ⟨w1, w2, w3, w4, w5⟩ := hw
  have hzs := zs_le w1
  rcases Nat.eq_zero_or_pos n with h0 | h0
  · subst h0
    have c0 : ∀ (V : St), RC t 0 fd tp tr S T V → V 3 2 ≤ 0 := fun V hR => by rw [hR.2.2.1.size]; decide
    have m0 : ∀ (V : St), RM t 0 fd tp tr S T V → V 60 31 ≤ 0 := fun V hR => by rw [hR.2.1]; decide
    cases hb : bst (rdS S) (prS S) 6 with
    | some k =>
      obtain ⟨hk, hrd⟩ := bst_lt _ _ _ _ hb
      obtain ⟨q3, qz, qu⟩ := of_decide_eq_true hrd
      have hsw := w1 k hk
      refine ⟨0, fd, tp, uS S k (hA (nI t) (S k)), T, 20 + k, by omega, ⟨fun j hj => ?_, w2, Nat.zero_le _, fun i hi => absurd hi (Nat.not_lt_zero i), w5⟩, ?_, ?_⟩
      · by_cases e : j = k
        · rw [e, uS_s]; exact hsw.handler htt q3 qz qu
        · rw [uS_n e]; exact w1 j hj
      · intro V K hR hK
        unfold wp_X4_runOne
        rw [if_pos (c0 V hR)]
        refine c_best hR w1 ?_
        rw [hb, show oI (some k) = nI k from rfl, if_neg (fun e => absurd (show nI k < 0 by rw [e]; decide) (nI_pos (by omega)))]
        refine ⟨k, hk, rfl, ?_⟩
        rw [hR.1]
        refine c_handler (hR.2.2.2.2.1 k hk) qz qu hsw.2.1 ?_
        intro V' hC hF
        rw [show (20 : Int32) + nI k = nI (20 + k) from nI_add 20 k]
        exact hK V' (RC.src hR hk hC hF) (F8.fc hk hF)
      · intro V K hR hK
        unfold wp_X5_runOne
        rw [if_pos (m0 V hR)]
        refine m_best hR w1 (fun e => absurd (hb.symm.trans e) (by simp)) ?_
        intro k' hk'
        have : k' = k := by rw [hb] at hk'; exact (Option.some.inj hk').symm
        subst this
        refine m_handler (hR.2.2.2.2.2.1 k' hk) hk hsw q3 qz qu hR.1 ?_
        intro V' hC hF
        rw [show (20 : Int32) + nI k' = nI (20 + k') from nI_add 20 k']
        exact hK V' (RM.src hR (fun j hj _ => w1 j hj) hk hC hF (hA_row 4 (by omega) (by omega) (by omega) (by omega))) hF.fm
    | none =>
      cases hbt : bst (rdT T) (prT T) 6 with
      | some k =>
        obtain ⟨hk, hrd⟩ := bst_lt _ _ _ _ hbt
        refine ⟨0, fd, tp, S, uT T k (wkR (T k)), 30 + k, by omega, ⟨w1, fun j hj => ?_, w3, fun i hi => absurd hi (Nat.not_lt_zero i), w5⟩, ?_, ?_⟩
        · by_cases e : j = k
          · rw [e, uT_s]; exact (w2 k hk).wk
          · rw [uT_n e]; exact w2 j hj
        · intro V K hR hK
          unfold wp_X4_runOne
          rw [if_pos (c0 V hR)]
          refine c_best hR w1 ?_
          rw [hb, show oI none = (-1 : Int32) from rfl, if_pos rfl]
          refine c_bestT hR w2 ?_
          rw [hbt, show oI (some k) = nI k from rfl, if_neg (fun e => absurd (show nI k < 0 by rw [e]; decide) (nI_pos (by omega)))]
          refine ⟨k, hk, rfl, ?_⟩
          refine c_work (f := T k) (hR.2.2.2.2.2 k hk) ?_
          intro V' hC hF
          rw [show (30 : Int32) + nI k = nI (30 + k) from nI_add 30 k]
          exact hK V' (RC.tsk hR hk hC hF) (fun j hj => hF j (by omega))
        · intro V K hR hK
          unfold wp_X5_runOne
          rw [if_pos (m0 V hR)]
          refine m_best hR w1 (fun _ => ?_) (fun k e => absurd (hb.symm.trans e) (by simp))
          refine m_bestT (lo := t + 1) hR w2 (fun e => absurd (hbt.symm.trans e) (by simp)) ?_
          intro k' hk' V1 s0 e1 es
          have : k' = k := by rw [hbt] at hk'; exact (Option.some.inj hk').symm
          subst this
          subst e1
          unfold b_X5_runOne_179
          rw [nI_clamp (by omega)]
          refine ⟨vp_in_nI hk (by omega), ?_⟩
          rintro V2 rfl
          rw [show (30 : Int32) + nI k' = nI (30 + k') from nI_add 30 k']
          refine hK _ (RM.tsk hR w1 hk (fun i hi => ?_) (fun j c q => by rw [up2_at, if_neg (by omega), up2_at, if_neg (by omega)])) (fun j c hj => by rw [up2_n (by omega), up2_n (by omega)])
          unfold wkR
          rw [up2_at, up2_at, upd_at, upd_at]
          by_cases q7 : i = 7
          · rw [if_pos ⟨by omega, rfl⟩, if_pos q7]; exact es
          · rw [if_neg (by omega), if_neg q7]
            by_cases q5 : i = 5
            · rw [if_pos ⟨by omega, rfl⟩, if_pos q5]
            · rw [if_neg (by omega), if_neg q5]; exact hR.2.2.2.2.2.2 k' hk i hi
      | none =>
        refine ⟨0, fd, tp, S, T, 0, by omega, ⟨w1, w2, w3, w4, w5⟩, ?_, ?_⟩
        · intro V K hR hK
          unfold wp_X4_runOne
          rw [if_pos (c0 V hR)]
          refine c_best hR w1 ?_
          rw [hb, show oI none = (-1 : Int32) from rfl, if_pos rfl]
          refine c_bestT hR w2 ?_
          rw [hbt, show oI none = (-1 : Int32) from rfl, if_pos rfl]
          exact hK V hR (FC.refl V)
        · intro V K hR hK
          unfold wp_X5_runOne
          rw [if_pos (m0 V hR)]
          refine m_best hR w1 (fun _ => ?_) (fun k e => absurd (hb.symm.trans e) (by simp))
          exact m_bestT (lo := t + 1) hR w2 (fun _ => hK V hR (FM0.refl V)) (fun k e => absurd (hbt.symm.trans e) (by simp))
  · obtain ⟨n', rfl⟩ : ∃ n', n = n' + 1 := ⟨n - 1, by omega⟩
    obtain ⟨s, q, hs, e0, e3, e4, hq1, hq3, hfd⟩ := w4 0 (by omega)
    have hfd := hfd rfl
    have e10 : (10 : Int32) + nI s = nI (10 + s) := nI_add 10 s
    by_cases hc : fd + 1 < q
    · refine ⟨n' + 1, fd + 1, tp, S, T, 10 + s, by omega, ⟨w1, w2, w3, fun i hi => ?_, fun e => absurd e (by omega)⟩, ?_, ?_⟩
      · by_cases ei : i = 0
        · exact ⟨s, q, hs, by rw [ei]; exact e0, e3, e4, hq1, hq3, fun _ => hc⟩
        · obtain ⟨s', q', a1, a2, a3, a4, a5, a6, a7⟩ := w4 i hi
          exact ⟨s', q', a1, a2, a3, a4, a5, a6, fun e => absurd e ei⟩
      · intro V K hR hK
        unfold wp_X4_runOne
        rw [hR.2.2.1.size, if_neg (nI_nle (by omega) (by omega))]
        refine c_top hR hs e0 e4 hq3 hfd (fun _ V' hR' hF => ?_) (fun e => absurd hc (by omega))
        rw [e10]; exact hK V' hR' hF
      · intro V K hR hK
        unfold wp_X5_runOne
        rw [hR.2.1, if_neg (nI_nle (by omega) (by omega))]
        refine m_top hR w1 (by omega) hs e0 e4 hq3 hfd (fun _ V' hR' hF => ?_) (fun e => absurd hc (by omega))
        rw [e10]; exact hK V' hR' hF
    · refine ⟨n', 0, (fun i => tp (i + 1)), S, T, 10 + s, by omega, ⟨w1, w2, by omega, fun i hi => ?_, fun _ => rfl⟩, ?_, ?_⟩
      · obtain ⟨s', q', a1, a2, a3, a4, a5, a6, a7⟩ := w4 (i + 1) (by omega)
        exact ⟨s', q', a1, a2, a3, a4, a5, a6, fun _ => by omega⟩
      · intro V K hR hK
        unfold wp_X4_runOne
        rw [hR.2.2.1.size, if_neg (nI_nle (by omega) (by omega))]
        refine c_top hR hs e0 e4 hq3 hfd (fun e => absurd e hc) (fun _ V' hR' hF => ?_)
        rw [e10]; exact hK V' hR' hF
      · intro V K hR hK
        unfold wp_X5_runOne
        rw [hR.2.1, if_neg (nI_nle (by omega) (by omega))]
        refine m_top hR w1 (by omega) hs e0 e4 hq3 hfd (fun e => absurd e hc) (fun _ V' hR' hF => ?_)
        rw [e10]; exact hK V' hR' hF
