def pmT (T : St) (x : Int32) : Prop := ∃ j, j < 6 ∧ T j 0 = 1 ∧ T j 3 = x
def pmS (S : Nat → SA) (x : Int32) : Prop := ∃ j, j < 6 ∧ (S j).1 0 3 = 1 ∧ (S j).1 0 9 = x
theorem c_tHP {t n fd : Nat} {tp tr : Nat → Int32} {S : Nat → SA} {T V : St} {K : Int32 → St → Prop} {x : Int32} (h : RC t n fd tp tr S T V) (hw : ∀ k, k < 6 → TkW (T k)) (h0 : ¬ pmT T x → K 0 V) (h1 : pmT T x → K 1 V) : wp_X4_taskHasPriority V K x := by
  unfold wp_X4_taskHasPriority
  refine ⟨6 + 1, lp_up (fun i (r : St → Int32 → Prop) => (∀ j, j < i → ¬ (T j 0 = 1 ∧ T j 3 = x)) → r V (nI i)) 6 ?_ ?_ 6 0 rfl (fun j hj => absurd hj (Nat.not_lt_zero j))⟩
  · intro r hn
    unfold h_X4_taskHasPriority_2
    rw [if_pos l6]
    refine h0 ?_
    rintro ⟨j, hj, a1, a2⟩
    exact hn j hj ⟨a1, a2⟩
  · intro i hi r hr hn
    have hC := h.2.2.2.2.2 i hi
    have hstep : ¬ (T i 0 = 1 ∧ T i 3 = x) → r V (nI (i + 1)) := fun q => hr (fun j hj => by
      by_cases e : j = i
      · rw [e]; exact q
      · exact hn j (by omega))
    unfold h_X4_taskHasPriority_2
    rw [if_neg (i6 hi), nI_1]
    refine ⟨i, hi, rfl, ?_⟩
    rw [hC 0 (by omega)]
    rcases (hw i hi).1 with q | q
    · rw [if_pos q]
      exact hstep (fun e => absurd (q.symm.trans e.1) (by decide))
    · rw [if_neg (by rw [q]; decide)]
      refine ⟨i, hi, rfl, ?_⟩
      rw [hC 3 (by omega)]
      by_cases e : T i 3 = x
      · rw [if_pos e]; exact h1 ⟨i, hi, q, e⟩
      · rw [if_neg e]; exact hstep (fun q2 => e q2.2)
theorem c_sHP {t n fd : Nat} {tp tr : Nat → Int32} {S : Nat → SA} {T V : St} {K : Int32 → St → Prop} {x : Int32} (h : RC t n fd tp tr S T V) (hw : ∀ k, k < 6 → ((S k).1 0 3 = 0 ∨ (S k).1 0 3 = 1)) (h0 : ¬ pmS S x → K 0 V) (h1 : pmS S x → K 1 V) : wp_X4_sourceHasPriority V K x := by
  unfold wp_X4_sourceHasPriority
  refine ⟨6 + 1, lp_up (fun i (r : St → Int32 → Prop) => (∀ j, j < i → ¬ ((S j).1 0 3 = 1 ∧ (S j).1 0 9 = x)) → r V (nI i)) 6 ?_ ?_ 6 0 rfl (fun j hj => absurd hj (Nat.not_lt_zero j))⟩
  · intro r hn
    unfold h_X4_sourceHasPriority_2
    rw [if_pos l6]
    refine h0 ?_
    rintro ⟨j, hj, a1, a2⟩
    exact hn j hj ⟨a1, a2⟩
  · intro i hi r hr hn
    have hC := h.2.2.2.2.1 i hi
    have hstep : ¬ ((S i).1 0 3 = 1 ∧ (S i).1 0 9 = x) → r V (nI (i + 1)) := fun q => hr (fun j hj => by
      by_cases e : j = i
      · rw [e]; exact q
      · exact hn j (by omega))
    unfold h_X4_sourceHasPriority_2
    rw [if_neg (i6 hi), nI_1]
    refine ⟨i, hi, rfl, ?_⟩
    rw [hC.1 3 (by omega) (by omega)]
    rcases hw i hi with q | q
    · rw [if_pos q]
      exact hstep (fun e => absurd (q.symm.trans e.1) (by decide))
    · rw [if_neg (by rw [q]; decide)]
      refine ⟨i, hi, rfl, ?_⟩
      rw [hC.1 9 (by omega) (by omega)]
      by_cases e : (S i).1 0 9 = x
      · rw [if_pos e]; exact h1 ⟨i, hi, q, e⟩
      · rw [if_neg e]; exact hstep (fun q2 => e q2.2)
def bW (a2 a3 a4 : Int32) : Prop := (¬ a2 < 1 ∧ ¬ (2000 : Int32) < a2) ∧ (¬ a3 < 1 ∧ ¬ (500 : Int32) < a3) ∧ (¬ a4 < 0 ∧ ¬ (31 : Int32) < a4)
def bF (f : Nat → Int32) (a2 a3 a4 t : Int32) : Nat → Int32 := upd (upd (upd (upd (upd f 0 1) 1 a2) 2 a3) 3 a4) 4 t
theorem bF_W {f : Nat → Int32} {a2 a3 a4 t : Int32} (h : bW a2 a3 a4) (v : Int32) (hv : v = 0 ∨ v = 1) : TkW (upd (bF f a2 a3 a4 t) 0 v) := by
  obtain ⟨h1, h2, h3⟩ := h
  obtain ⟨pe, p1, p2, rfl⟩ := (wi_nat (lo := 1) (hi := 2000) (by omega) (by omega)).mp h1
  obtain ⟨co, c1, c2, rfl⟩ := (wi_nat (lo := 1) (hi := 500) (by omega) (by omega)).mp h2
  obtain ⟨pr, r1, r2, rfl⟩ := (wi_nat (lo := 0) (hi := 31) (by omega) (by omega)).mp h3
  refine ⟨by rw [pk_us]; exact hv, fun _ => ⟨pe, co, pr, p1, p2, c1, c2, r2, ?_, ?_, ?_⟩⟩
  · unfold bF; rw [pk_un (by omega), pk_un (by omega), pk_un (by omega), pk_un (by omega), pk_us]
  · unfold bF; rw [pk_un (by omega), pk_un (by omega), pk_un (by omega), pk_us]
  · unfold bF; rw [pk_un (by omega), pk_un (by omega), pk_us]
theorem bF_0 {f : Nat → Int32} {a2 a3 a4 t : Int32} : bF f a2 a3 a4 t 0 = 1 := by
  unfold bF; rw [pk_un (by omega), pk_un (by omega), pk_un (by omega), pk_un (by omega), pk_us]
theorem bF_W1 {f : Nat → Int32} {a2 a3 a4 t : Int32} (h : bW a2 a3 a4) : TkW (bF f a2 a3 a4 t) := by
  have := bF_W (f := f) (t := t) h 1 (Or.inr rfl)
  have e : upd (bF f a2 a3 a4 t) 0 1 = bF f a2 a3 a4 t := by
    funext i
    rw [upd_at]
    split
    · rename_i q; rw [q, bF_0]
    · rfl
  rw [e] at this
  exact this
def BothB (a : AA) (wC wM : St → (Int32 → St → Prop) → Prop) : Prop := ∃ (a' : AA) (c r : Int32), (r = 0 ∨ r = 1) ∧ a'.1 ≤ a.1 + 500 ∧ GWa (a'.1 + 1) a' ∧ (∀ (V : St) (K : Int32 → St → Prop), RCa a V → (∀ V', RCa a' V' → FLx V V' → (c = 0 → V' 93 0 = r) → K c V') → wC V K) ∧ (∀ (V : St) (K : Int32 → St → Prop), RMa a V → (∀ V' r', (c = 0 → r' = r) → RMa a' V' → FM V V' → V' 60 0 = c → K r' V') → wM V K)
theorem m_bT {lo t n fd : Nat} {tp tr : Nat → Int32} {S : Nat → SA} {T V : St} {K : Int32 → St → Prop} {a1 a2 a3 a4 : Int32} (hg : GW lo t n fd tp S T) (h : RM t n fd tp tr S T V) (h0 : V 60 0 = 0) (hK1 : pmT T a4 → ∀ V', RM t n fd tp tr S T V' → FM V V' → V' 60 0 = 3 → b_X5_base_122 K a1 a2 a3 a4 V') (hK0 : ¬ pmT T a4 → ∀ V', RM t n fd tp tr S T V' → FM V V' → V' 60 0 = 0 → b_X5_base_122 K a1 a2 a3 a4 V') : ∃ n, lp (fun _ _ => False) (h_X5_base_71 K a1 a2 a3 a4) n V (0 : Int32) := by
  refine ⟨6 + 1, lp_up (fun i (r : St → Int32 → Prop) => ∀ V', RM t n fd tp tr S T V' → FM V V' → ((V' 60 0 = 0 ∧ ∀ j, j < i → ¬ (T j 0 = 1 ∧ T j 3 = a4)) ∨ (V' 60 0 = 3 ∧ pmT T a4)) → r V' (nI i)) 6 ?_ ?_ 6 0 rfl V h (FM.refl V) (Or.inl ⟨h0, fun j hj => absurd hj (Nat.not_lt_zero j)⟩)⟩
  · intro r V' hR hF hc
    unfold h_X5_base_71
    rw [if_pos l6]
    rcases hc with ⟨c0, cn⟩ | ⟨c3, cp⟩
    · refine hK0 ?_ V' hR hF c0
      rintro ⟨j, hj, b1, b2⟩
      exact cn j hj ⟨b1, b2⟩
    · exact hK1 cp V' hR hF c3
  · intro i hi r hr V' hR hF hc
    have hv : vp_in (nI i) 6 := vp_in_nI hi (by omega)
    unfold h_X5_base_71
    rw [if_neg (i6 hi)]
    rcases hc with ⟨c0, cn⟩ | ⟨c3, cp⟩
    · have hstep : ¬ (T i 0 = 1 ∧ T i 3 = a4) → r (up2 V' 60 0 0) (nI (i + 1)) := fun q => hr _ (RMa.thr (a := (t, n, fd, tp, tr, S, T)) hR hg) (hF.trans (FM.thr V' 0)) (Or.inl ⟨up2_ss _ _ _ _, fun j hj => by
        by_cases e : j = i
        · rw [e]; exact q
        · exact cn j (by omega)⟩)
      rw [if_pos c0, nI_clamp (by omega), nI_1, show V' 82 i = T i 0 from hR.2.2.2.2.2.2 i hi 0 (by omega), show V' 85 i = T i 3 from hR.2.2.2.2.2.2 i hi 3 (by omega)]
      refine ⟨hv, ?_⟩
      rcases (hg.2.1 i hi).1 with q | q
      · rw [if_pos q]
        rintro V1 rfl
        exact hstep (fun e => absurd (q.symm.trans e.1) (by decide))
      · rw [if_neg (by rw [q]; decide)]
        refine ⟨hv, ?_⟩
        by_cases e : T i 3 = a4
        · rw [if_pos e]
          rintro V1 rfl
          exact hr _ (RMa.thr (a := (t, n, fd, tp, tr, S, T)) hR hg) (hF.trans (FM.thr V' 3)) (Or.inr ⟨up2_ss _ _ _ _, ⟨i, hi, q, e⟩⟩)
        · rw [if_neg e]
          rintro V1 rfl
          exact hstep (fun q2 => e q2.2)
    · rw [c3, if_neg (by decide)]
      exact hK1 cp V' hR hF c3
theorem m_bX {K : Int32 → St → Prop} {V : St} {a1 a2 a3 a4 c : Int32} (hc : V 60 0 = c) (h1 : ¬ c = 0) (h2 : ¬ c ≤ 0) (hK : K 0 V) : ∃ n, lp (fun _ _ => False) (h_X5_base_71 K a1 a2 a3 a4) n V (0 : Int32) := by
  refine ⟨1, ?_⟩
  show h_X5_base_71 K a1 a2 a3 a4 _ V 0
  unfold h_X5_base_71
  rw [if_neg (by decide), hc, if_neg h1]
  unfold b_X5_base_122
  rw [hc, if_neg h2]
  exact hK
theorem base_both {a : AA} (hw : GWa (a.1 + 1) a) (a1 a2 a3 a4 : Int32) : BothB a (fun V K => wp_L_base V K a1 a2 a3 a4) (fun V K => wp_X5_base V K a1 a2 a3 a4) := by
  obtain ⟨t, n, fd, tp, tr, S, T⟩ := a
  change GW (t + 1) t n fd tp S T at hw
  have hw' := hw
  obtain ⟨w1, w2, w3, w4, w5⟩ := hw'
  have hpw : ∀ k, k < 6 → PW (S k) := fun k hk => (w1 k hk).pw
  have hle : t ≤ t + 500 := by omega
  by_cases hi : ¬ a1 < 0 ∧ ¬ (5 : Int32) < a1
  · obtain ⟨k, hk, rfl⟩ := ix6.mp hi
    have hv : vp_in (nI k) 6 := vp_in_nI hk (by omega)
    by_cases hp : bW a2 a3 a4
    · obtain ⟨p1, p2, p3⟩ := hp
      have hcp : ∀ (V : St) (K : Int32 → St → Prop) (X : Nat → St → Prop), RC t n fd tp tr S T V → (if T k 0 = 0 then (wp_X4_taskHasPriority V (fun (r10 : Int32) (V11 : St) => if r10 = 0 then (wp_X0_tell V11 (fun (V12 : St) => wp_X4_tasksAdmitted V12 (fun (r13 : Int32) (V14 : St) => (r13 = 0 ∨ r13 = 1) ∧ ∀ V15 : St, V15 = up2 V14 (6 + 1 * k) 0 r13 → ((V15 (6 + 1 * k) 0) = 0 ∨ (V15 (6 + 1 * k) 0) = 1) ∧ K (V15 (6 + 1 * k) 0) V15)) (6 + 1 * k) a2 a3 a4 (V11 0 5)) else (X 3 V11)) a4) else (X 3 V)) → wp_X4_base V K X (nI k) a2 a3 a4 := by
        intro V K X hR hK
        unfold wp_X4_base
        refine c_within (fun q => absurd hi q) (fun _ => ?_)
        rw [if_neg (by decide)]
        refine c_within (fun q => absurd p1 q) (fun _ => ?_)
        rw [if_neg (by decide)]
        refine c_within (fun q => absurd p2 q) (fun _ => ?_)
        rw [if_neg (by decide)]
        refine c_within (fun q => absurd p3 q) (fun _ => ?_)
        rw [if_neg (by decide)]
        refine ⟨k, hk, rfl, ?_⟩
        rw [hR.2.2.2.2.2 k hk 0 (by omega)]
        exact hK
      have hmp : ∀ (V : St) (K : Int32 → St → Prop), RM t n fd tp tr S T V → (T k 0 = 0 → ∃ n, lp (fun _ _ => False) (h_X5_base_71 K (nI k) a2 a3 a4) n (up2 V 60 0 0) (0 : Int32)) → (T k 0 = 1 → ∃ n, lp (fun _ _ => False) (h_X5_base_71 K (nI k) a2 a3 a4) n (up2 V 60 0 3) (0 : Int32)) → wp_X5_base V K (nI k) a2 a3 a4 := by
        intro V K hR hK0 hK1
        unfold wp_X5_base
        refine m_within (fun q => absurd hi q) (fun _ => ?_)
        rw [if_neg (by decide)]
        refine m_within (fun q => absurd p1 q) (fun _ => ?_)
        rw [if_neg (by decide)]
        refine m_within (fun q => absurd p2 q) (fun _ => ?_)
        rw [if_neg (by decide)]
        refine m_within (fun q => absurd p3 q) (fun _ => ?_)
        rw [if_neg (by decide), nI_clamp (by omega), show V 82 k = T k 0 from hR.2.2.2.2.2.2 k hk 0 (by omega)]
        refine ⟨hv, ?_⟩
        rcases (w2 k hk).1 with q | q
        · rw [if_pos q]
          rintro V1 rfl
          exact hK0 q
        · rw [if_neg (by rw [q]; decide)]
          rintro V1 rfl
          exact hK1 q
      by_cases hb : T k 0 = 1 ∨ pmT T a4
      · refine ⟨(t, n, fd, tp, tr, S, T), 3, 0, Or.inl rfl, hle, hw, fun V K hR hK => ?_, fun V K hR hK => ?_⟩
        · show wp_L_base V K (nI k) a2 a3 a4
          unfold wp_L_base
          refine hcp V _ _ hR ?_
          have hend := hK V hR (FLx.refl V) (fun q => absurd q (by decide))
          rcases (w2 k hk).1 with q | q
          · rw [if_pos q]
            refine c_tHP hR w2 (fun q2 => absurd (hb.resolve_left (fun e => absurd (q.symm.trans e) (by decide))) q2) (fun _ => ?_)
            rw [if_neg (by decide)]
            exact Or.inr (Or.inr ⟨rfl, hend⟩)
          · rw [if_neg (by rw [q]; decide)]
            exact Or.inr (Or.inr ⟨rfl, hend⟩)
        · refine hmp V K hR (fun q => ?_) (fun q => ?_)
          · refine m_bT hw (RMa.thr (a := (t, n, fd, tp, tr, S, T)) hR hw) (up2_ss _ _ _ _) (fun _ V' hR' hF' e3 => ?_) (fun q2 => absurd (hb.resolve_left (fun e => absurd (q.symm.trans e) (by decide))) q2)
            unfold b_X5_base_122
            rw [e3, if_neg (by decide)]
            exact hK V' 0 (fun q => absurd q (by decide)) hR' ((FM.thr V 0).trans hF') e3
          · exact m_bX (up2_ss _ _ _ _) (by decide) (by decide) (hK _ 0 (fun q => absurd q (by decide)) (RMa.thr (a := (t, n, fd, tp, tr, S, T)) hR hw) (FM.thr V 3) (up2_ss _ _ _ _))
      · have q0 : T k 0 = 0 := (w2 k hk).1.resolve_right (fun e => hb (Or.inl e))
        have qp : ¬ pmT T a4 := fun e => hb (Or.inr e)
        have hwT1 : ∀ j, j < 6 → TkW (uT T k (bF (T k) a2 a3 a4 (nI t)) j) := by
          intro j hj
          by_cases e : j = k
          · rw [e, uT_s]; exact bF_W1 ⟨p1, p2, p3⟩
          · rw [uT_n e]; exact w2 j hj
        refine ⟨(t, n, fd, tp, tr, S, uT (uT T k (bF (T k) a2 a3 a4 (nI t))) k (upd (bF (T k) a2 a3 a4 (nI t)) 0 (if adB S (uT T k (bF (T k) a2 a3 a4 (nI t))) 6 = true then 1 else 0))), 0, (if adB S (uT T k (bF (T k) a2 a3 a4 (nI t))) 6 = true then 1 else 0), ?_, hle, ⟨w1, fun j hj => ?_, w3, w4, w5⟩, fun V K hR hK => ?_, fun V K hR hK => ?_⟩
        · split
          · exact Or.inr rfl
          · exact Or.inl rfl
        · show TkW (uT (uT T k (bF (T k) a2 a3 a4 (nI t))) k _ j)
          by_cases e : j = k
          · rw [e, uT_s]
            refine bF_W ⟨p1, p2, p3⟩ _ ?_
            split
            · exact Or.inr rfl
            · exact Or.inl rfl
          · rw [uT_n e]; exact hwT1 j hj
        · show wp_L_base V K (nI k) a2 a3 a4
          change RC t n fd tp tr S T V at hR
          unfold wp_L_base
          refine hcp V _ _ hR ?_
          rw [if_pos q0]
          refine c_tHP hR w2 (fun _ => ?_) (fun q2 => absurd q2 qp)
          rw [if_pos rfl]
          unfold wp_X0_tell
          refine ⟨Or.inr rfl, ?_⟩
          rintro V1 rfl V2 rfl V3 rfl V4 rfl V5 rfl
          rw [hR.1]
          have hR5 : RC t n fd tp tr S (uT T k (bF (T k) a2 a3 a4 (nI t))) (up2 (up2 (up2 (up2 (up2 V (6 + 1 * k) 0 1) (6 + 1 * k) 1 a2) (6 + 1 * k) 2 a3) (6 + 1 * k) 3 a4) (6 + 1 * k) 4 (nI t)) := by
            refine RC.tsk hR hk (fun i hi => ?_) (fun j hj => by rw [up2_n hj, up2_n hj, up2_n hj, up2_n hj, up2_n hj])
            unfold bF
            rw [up2_s, up2_s, up2_s, up2_s, up2_s, upd_at, upd_at, upd_at, upd_at, upd_at, upd_at, upd_at, upd_at, upd_at, upd_at, hR.2.2.2.2.2 k hk i hi]
          refine c_adm hR5 hpw hwT1 ?_
          refine ⟨by split <;> simp, ?_⟩
          generalize hva : (if adB S (uT T k (bF (T k) a2 a3 a4 (nI t))) 6 = true then (1 : Int32) else 0) = va at hK ⊢
          rintro V15 rfl
          rw [up2_ss]
          have hva2 : va = 0 ∨ va = 1 := by
            rw [← hva]
            split
            · exact Or.inr rfl
            · exact Or.inl rfl
          refine ⟨hva2, ?_⟩
          generalize hV5 : up2 (up2 (up2 (up2 (up2 V (6 + 1 * k) 0 1) (6 + 1 * k) 1 a2) (6 + 1 * k) 2 a3) (6 + 1 * k) 3 a4) (6 + 1 * k) 4 (nI t) = V5 at hR5 ⊢
          have hF5 : FC V V5 := fun j hj => by rw [← hV5, up2_n (by omega), up2_n (by omega), up2_n (by omega), up2_n (by omega), up2_n (by omega)]
          have hR6 : RC t n fd tp tr S (uT (uT T k (bF (T k) a2 a3 a4 (nI t))) k (upd (bF (T k) a2 a3 a4 (nI t)) 0 va)) (up2 V5 (6 + 1 * k) 0 va) := by
            refine RC.tsk hR5 hk (fun i hi => ?_) (fun j hj => up2_n hj)
            have := hR5.2.2.2.2.2 k hk i hi
            rw [uT_s] at this
            rw [up2_s, upd_at, upd_at, this]
          have hend : ∀ V3, V3 = up2 (up2 V5 (6 + 1 * k) 0 va) 93 0 va → K 0 V3 := by
            rintro V3 rfl
            exact hK _ (RCa.out (a := (t, n, fd, tp, tr, S, uT (uT T k (bF (T k) a2 a3 a4 (nI t))) k (upd (bF (T k) a2 a3 a4 (nI t)) 0 va))) hR6) (fun j q1 q2 => by rw [up2_n (by omega), up2_n (by omega), hF5 j q1]) (fun _ => up2_ss _ _ _ _)
          rcases hva2 with e | e
          · rw [if_pos e]
            refine ⟨vp00, ?_⟩
            rintro V3 rfl
            exact hend _ (by rw [e]; rfl)
          · rw [if_neg (by rw [e]; decide)]
            refine ⟨vp00, ?_⟩
            rintro V3 rfl
            exact hend _ (by rw [e]; rfl)
        · show wp_X5_base V K (nI k) a2 a3 a4
          change RM t n fd tp tr S T V at hR
          refine hmp V K hR (fun q => ?_) (fun q => absurd (q0.symm.trans q) (by decide))
          refine m_bT hw (RMa.thr (a := (t, n, fd, tp, tr, S, T)) hR hw) (up2_ss _ _ _ _) (fun q2 => absurd q2 qp) (fun _ V' hR' hF' e0 => ?_)
          unfold b_X5_base_122
          rw [e0, if_pos (by decide), nI_clamp (by omega)]
          refine ⟨hv, Or.inr rfl, ?_⟩
          rintro V1 rfl
          refine ⟨hv, ?_⟩
          rintro V2 rfl
          refine ⟨hv, ?_⟩
          rintro V3 rfl
          refine ⟨hv, ?_⟩
          rintro V4 rfl
          refine ⟨hv, ?_⟩
          rintro V5 rfl
          rw [show up2 (up2 (up2 (up2 V' 82 k 1) 83 k a2) 84 k a3) 85 k a4 60 1 = nI t by rw [up2_n (by omega), up2_n (by omega), up2_n (by omega), up2_n (by omega)]; exact hR'.1]
          have hR5 : RM t n fd tp tr S (uT T k (bF (T k) a2 a3 a4 (nI t))) (up2 (up2 (up2 (up2 (up2 V' 82 k 1) 83 k a2) 84 k a3) 85 k a4) 86 k (nI t)) := by
            refine RM.tsk hR' w1 hk (fun i hi => ?_) (fun j c q => by rw [up2_at, if_neg (by omega), up2_at, if_neg (by omega), up2_at, if_neg (by omega), up2_at, if_neg (by omega), up2_at, if_neg (by omega)])
            have hb := hR'.2.2.2.2.2.2 k hk i hi
            unfold bF
            rw [up2_at, up2_at, up2_at, up2_at, up2_at, upd_at, upd_at, upd_at, upd_at, upd_at, hb]
            rcases (show i = 0 ∨ i = 1 ∨ i = 2 ∨ i = 3 ∨ i = 4 ∨ 5 ≤ i by omega) with rfl | rfl | rfl | rfl | rfl | h5
            · simp
            · simp
            · simp
            · simp
            · simp
            · rw [if_neg (by omega), if_neg (by omega), if_neg (by omega), if_neg (by omega), if_neg (by omega), if_neg (by omega), if_neg (by omega), if_neg (by omega), if_neg (by omega), if_neg (by omega)]
          refine m_adm hR5 hpw hwT1 ?_
          refine ⟨hv, by split <;> simp, ?_⟩
          generalize hva : (if adB S (uT T k (bF (T k) a2 a3 a4 (nI t))) 6 = true then (1 : Int32) else 0) = va at hK ⊢
          have hva2 : va = 0 ∨ va = 1 := by
            rw [← hva]
            split
            · exact Or.inr rfl
            · exact Or.inl rfl
          generalize hV5 : up2 (up2 (up2 (up2 (up2 V' 82 k 1) 83 k a2) 84 k a3) 85 k a4) 86 k (nI t) = V5 at hR5 ⊢
          have hF5 : FM0 V' V5 := fun j c hj => by rw [← hV5, up2_n (by omega), up2_n (by omega), up2_n (by omega), up2_n (by omega), up2_n (by omega)]
          rintro V8 rfl
          rw [up2_ss]
          refine ⟨hv, hva2, ?_⟩
          have hR6 : RM t n fd tp tr S (uT (uT T k (bF (T k) a2 a3 a4 (nI t))) k (upd (bF (T k) a2 a3 a4 (nI t)) 0 va)) (up2 V5 82 k va) := by
            refine RM.tsk hR5 w1 hk (fun i hi => ?_) (fun j c q => by rw [up2_at, if_neg (by omega)])
            have := hR5.2.2.2.2.2.2 k hk i hi
            rw [uT_s] at this
            rw [up2_at, upd_at, this]
            by_cases e : i = 0
            · rw [if_pos ⟨by omega, rfl⟩, if_pos e]
            · rw [if_neg (by omega), if_neg e]
          refine hK _ va (fun _ => rfl) hR6 (((FM.thr V 0).trans hF').trans (FM.trans hF5.fm (fun j hj => up2_n (by omega)))) ?_
          rw [up2_n (by omega), hF5 60 0 (by omega)]; exact e0
    · refine ⟨(t, n, fd, tp, tr, S, T), 2, 0, Or.inl rfl, hle, hw, fun V K hR hK => ?_, fun V K hR hK => ?_⟩
      · show wp_L_base V K (nI k) a2 a3 a4
        have hend := hK V hR (FLx.refl V) (fun q => absurd q (by decide))
        unfold wp_L_base wp_X4_base
        refine c_within (fun q => absurd hi q) (fun _ => ?_)
        rw [if_neg (by decide)]
        refine c_within (fun q => ?_) (fun p1 => ?_)
        · rw [if_pos rfl]; exact Or.inr (Or.inl ⟨rfl, hend⟩)
        rw [if_neg (by decide)]
        refine c_within (fun q => ?_) (fun p2 => ?_)
        · rw [if_pos rfl]; exact Or.inr (Or.inl ⟨rfl, hend⟩)
        rw [if_neg (by decide)]
        refine c_within (fun q => ?_) (fun p3 => absurd ⟨p1, p2, p3⟩ hp)
        rw [if_pos rfl]; exact Or.inr (Or.inl ⟨rfl, hend⟩)
      · show wp_X5_base V K (nI k) a2 a3 a4
        have h47 : b_X5_base_47 K (nI k) a2 a3 a4 V := by
          unfold b_X5_base_47
          rintro V1 rfl
          exact m_bX (up2_ss _ _ _ _) (by decide) (by decide) (hK _ 0 (fun q => absurd q (by decide)) (RMa.thr (a := (t, n, fd, tp, tr, S, T)) hR hw) (FM.thr V 2) (up2_ss _ _ _ _))
        unfold wp_X5_base
        refine m_within (fun q => absurd hi q) (fun _ => ?_)
        rw [if_neg (by decide)]
        refine m_within (fun q => ?_) (fun p1 => ?_)
        · rw [if_pos rfl]; exact h47
        rw [if_neg (by decide)]
        refine m_within (fun q => ?_) (fun p2 => ?_)
        · rw [if_pos rfl]; exact h47
        rw [if_neg (by decide)]
        refine m_within (fun q => ?_) (fun p3 => absurd ⟨p1, p2, p3⟩ hp)
        rw [if_pos rfl]; exact h47
  · refine ⟨(t, n, fd, tp, tr, S, T), 1, 0, Or.inl rfl, hle, hw, fun V K hR hK => ?_, fun V K hR hK => ?_⟩
    · show wp_L_base V K a1 a2 a3 a4
      unfold wp_L_base wp_X4_base
      refine c_within (fun _ => ?_) (fun q => absurd q hi)
      rw [if_pos rfl]
      exact Or.inl ⟨rfl, hK V hR (FLx.refl V) (fun q => absurd q (by decide))⟩
    · show wp_X5_base V K a1 a2 a3 a4
      unfold wp_X5_base
      refine m_within (fun _ => ?_) (fun q => absurd q hi)
      rw [if_pos rfl]
      rintro V1 rfl
      exact m_bX (up2_ss _ _ _ _) (by decide) (by decide) (hK _ 0 (fun q => absurd q (by decide)) (RMa.thr (a := (t, n, fd, tp, tr, S, T)) hR hw) (FM.thr V 1) (up2_ss _ _ _ _))
