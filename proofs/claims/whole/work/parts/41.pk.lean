def uT (T : St) (k : Nat) (f : Nat → Int32) : St := fun j => if j = k then f else T j
theorem uT_s (T : St) (k : Nat) (f : Nat → Int32) : uT T k f k = f := if_pos rfl
theorem uT_n {T : St} {k j : Nat} {f : Nat → Int32} (h : j ≠ k) : uT T k f j = T j := if_neg h
theorem RC.tsk {t n fd : Nat} {tp tr : Nat → Int32} {S : Nat → SA} {T V V' : St} {k : Nat} {f : Nat → Int32} (h : RC t n fd tp tr S T V) (hk : k < 6) (hC : ∀ i, i < 8 → V' (6 + 1 * k) i = f i) (hF : ∀ j, j ≠ 6 + 1 * k → V' j = V j) : RC t n fd tp tr S (uT T k f) V' := by
  obtain ⟨h1, h2, h3, h4, h5, h6⟩ := h
  refine ⟨by rw [hF _ (by omega)]; exact h1, by rw [hF _ (by omega)]; exact h2, h3.fr (hF _ (by omega)) (hF _ (by omega)), fun q a c => by rw [hF _ (by omega)]; exact h4 q a c, fun j hj => (h5 j hj).fr (fun r hr => hF _ (by omega)), fun j hj i hi => ?_⟩
  by_cases e : j = k
  · rw [e, uT_s]; exact hC i hi
  · rw [uT_n e, hF _ (by omega)]; exact h6 j hj i hi
theorem RM.tsk {lo t n fd : Nat} {tp tr : Nat → Int32} {S : Nat → SA} {T V V' : St} {k : Nat} {f : Nat → Int32} (h : RM t n fd tp tr S T V) (hw : ∀ j, j < 6 → SW lo t (S j)) (hk : k < 6) (hC : ∀ i, i < 8 → V' (82 + i) k = f i) (hF : ∀ j i, ¬ (82 ≤ j ∧ j < 90 ∧ i = k) → V' j i = V j i) : RM t n fd tp tr S (uT T k f) V' := by
  obtain ⟨h1, h2, h3, h4, h5, h6, h7⟩ := h
  refine ⟨by rw [hF _ _ (by omega)]; exact h1, by rw [hF _ _ (by omega)]; exact h2, fun i hi => by rw [hF _ _ (by omega)]; exact h3 i hi, fun i hi => by rw [hF _ _ (by omega)]; exact h4 i hi, fun q a c => by rw [hF _ _ (by omega)]; exact h5 q a c, fun j hj => (h6 j hj).fr (hw j hj).1 (hw j hj).u30 (fun a c ho => hF a c ?_), fun j hj i hi => ?_⟩
  · unfold own at ho; omega
  · by_cases e : j = k
    · rw [e, uT_s]; exact hC i hi
    · rw [uT_n e, hF _ _ (by omega)]; exact h7 j hj i hi
/-! the periods' beginnings -/
def due (t : Int32) (f : Nat → Int32) : Prop := (t - f 4) - (t - f 4) / f 1 * f 1 = 0
def bgU (f : Nat → Int32) : Nat → Int32 := upd (upd f 6 (if f 5 ≤ 0 then f 6 else f 6 + 1)) 5 (f 2)
theorem TkW.bg {f : Nat → Int32} (h : TkW f) : TkW (bgU f) := by
  have e : ∀ i, i < 5 → bgU f i = f i := fun i hi => by unfold bgU; rw [pk_un (by omega), pk_un (by omega)]
  unfold TkW
  rw [e 0 (by omega), e 1 (by omega), e 2 (by omega), e 3 (by omega)]
  exact h
theorem c_begin1 {f : Nat → Int32} {V : St} {K : St → Prop} {b : Nat} {t : Int32} (hf : ∀ i, i < 8 → V b i = f i) (h0 : f 1 ≠ 0) (hK : ∀ V' g, (due t f → g = bgU f) → (¬ due t f → g = f) → (∀ i, i < 8 → V' b i = g i) → (∀ j, j ≠ b → V' j = V j) → K V') : wp_X0_beginIfDue V K b t := by
  unfold wp_X0_beginIfDue
  rw [hf 1 (by omega), hf 4 (by omega), hf 5 (by omega)]
  refine ⟨h0, ?_⟩
  by_cases hd : (t - f 4) - (t - f 4) / f 1 * f 1 = 0
  · rw [if_pos hd]
    by_cases h5 : f 5 ≤ 0
    · rw [if_pos h5]
      rintro V1 rfl
      rw [hf 2 (by omega)]
      refine hK _ (bgU f) (fun _ => rfl) (fun q => absurd hd q) (fun i hi => ?_) (fun j hj => up2_n hj)
      unfold bgU
      rw [up2_s, upd_at, upd_at, upd_at, if_pos h5]
      split
      · rfl
      · rw [hf i hi]
        split
        · rename_i e; rw [e]
        · rfl
    · rw [if_neg h5]
      rintro V1 rfl V2 rfl
      refine hK _ (bgU f) (fun _ => rfl) (fun q => absurd hd q) (fun i hi => ?_) (fun j hj => by rw [up2_n hj, up2_n hj])
      unfold bgU
      rw [up2_s, upd_at, upd_at, upd_at, if_neg h5, up2_s, upd_at, upd_at, if_neg (show ¬ 2 = 6 by omega), hf 2 (by omega), hf 6 (by omega), hf i hi]
  · rw [if_neg hd]
    exact hK V f (fun q => absurd q hd) (fun _ => rfl) hf (fun _ _ => rfl)
def bgR (t : Int32) (f : Nat → Int32) : Nat → Int32 := if f 0 = 1 ∧ (t - f 4) - (t - f 4) / f 1 * f 1 = 0 then bgU f else f
theorem TkW.per {f : Nat → Int32} (h : TkW f) (h1 : f 0 = 1) : f 1 ≠ 0 := by
  obtain ⟨pe, co, pr, g1, g2, g3, g4, g5, g6, g7, g8⟩ := h.2 h1
  rw [g6]
  exact nI_ne0 (by omega) (by omega)
theorem TkW_bgR {f : Nat → Int32} (h : TkW f) (t : Int32) : TkW (bgR t f) := by
  unfold bgR
  split
  · exact h.bg
  · exact h
def bgT (T : St) (t : Int32) (i : Nat) (T' : St) : Prop := ∀ k, T' k = if k < i then bgR t (T k) else T k
theorem bgT_s {T T' : St} {t : Int32} {i : Nat} (h : bgT T t i T') : bgT T t (i + 1) (uT T' i (bgR t (T i))) := by
  intro k
  by_cases e : k = i
  · rw [e, uT_s, if_pos (by omega)]
  · rw [uT_n e, h k]
    by_cases e2 : k < i
    · rw [if_pos e2, if_pos (by omega)]
    · rw [if_neg e2, if_neg (by omega)]
theorem c_begin {t n fd : Nat} {tp tr : Nat → Int32} {S : Nat → SA} {T V : St} {K : St → Prop} (h : RC t n fd tp tr S T V) (hw : ∀ k, k < 6 → TkW (T k)) (hK : ∀ V' T', bgT T (nI t) 6 T' → RC t n fd tp tr S T' V' → FC V V' → K V') : wp_X4_beginPeriods V K := by
  unfold wp_X4_beginPeriods
  refine ⟨6 + 1, lp_up (fun i (r : St → Int32 → Prop) => ∀ (V' T' : St), bgT T (nI t) i T' → RC t n fd tp tr S T' V' → FC V V' → r V' (nI i)) 6 ?_ ?_ 6 0 rfl V T (fun k => rfl) h (FC.refl V)⟩
  · intro r V' T' hT hR hF
    unfold h_X4_beginPeriods_2
    rw [if_pos l6]
    exact hK V' T' hT hR hF
  · intro i hi r hr V' T' hT hR hF
    have eT : T' i = T i := by rw [hT i, if_neg (by omega)]
    have e0 : V' (6 + 1 * i) 0 = T i 0 := by rw [hR.2.2.2.2.2 i hi 0 (by omega), eT]
    have hfin : ∀ (V2 : St), (∀ j, j < 8 → V2 (6 + 1 * i) j = bgR (nI t) (T i) j) → (∀ j, j ≠ 6 + 1 * i → V2 j = V' j) → r V2 (nI (i + 1)) := by
      intro V2 hg hF2
      exact hr V2 _ (bgT_s hT) (RC.tsk hR hi hg hF2) (hF.trans (fun j hj => hF2 j (by omega)))
    unfold h_X4_beginPeriods_2
    rw [if_neg (i6 hi), nI_1]
    refine ⟨i, hi, rfl, ?_⟩
    rw [e0]
    by_cases h0 : T i 0 = 0
    · rw [if_pos h0]
      refine hfin V' (fun j hj => ?_) (fun _ _ => rfl)
      unfold bgR
      rw [if_neg (by rw [h0]; intro q; exact absurd q.1 (by decide)), hR.2.2.2.2.2 i hi j hj, eT]
    · rw [if_neg h0]
      have h1 : T i 0 = 1 := (hw i hi).1.resolve_left h0
      refine ⟨i, hi, rfl, ?_⟩
      refine c_begin1 (f := T i) (fun j hj => by rw [hR.2.2.2.2.2 i hi j hj, eT]) ((hw i hi).per h1) ?_
      intro V2 g d1 d2 hg hF2
      refine hfin V2 (fun j hj => ?_) hF2
      rw [hg j hj]
      unfold bgR
      by_cases hd : due (V' 0 5) (T i)
      · rw [d1 hd]
        rw [hR.1] at hd
        rw [if_pos ⟨h1, hd⟩]
      · rw [d2 hd]
        rw [hR.1] at hd
        rw [if_neg (fun q => hd q.2)]
theorem m_begin {lo t n fd : Nat} {tp tr : Nat → Int32} {S : Nat → SA} {T V : St} {K : Int32 → St → Prop} (h : RM t n fd tp tr S T V) (hs : ∀ k, k < 6 → SW lo t (S k)) (hw : ∀ k, k < 6 → TkW (T k)) (hK : ∀ V' T', bgT T (nI t) 6 T' → RM t n fd tp tr S T' V' → FM0 V V' → wp_X5_runOne V' (fun (r1 : Int32) (V2 : St) => ¬ (1024 : Int32) = 0 ∧ vp_in ((V2 60 1) - (V2 60 1) / (1024 : Int32) * (1024 : Int32)) 1024 ∧ ∀ V3 : St, V3 = up2 V2 92 ((V2 60 1) - (V2 60 1) / (1024 : Int32) * (1024 : Int32)).toNatClampNeg r1 → ∀ V4 : St, V4 = up2 V3 60 1 ((V3 60 1) + (1 : Int32)) → wp_X5_giveBack V4 (fun (V5 : St) => K r1 V5))) : ∃ n, lp (fun _ _ => False) (h_X5_pass_6 K) n V (0 : Int32) := by
  refine ⟨6 + 1, lp_up (fun i (r : St → Int32 → Prop) => ∀ (V' T' : St), bgT T (nI t) i T' → RM t n fd tp tr S T' V' → FM0 V V' → r V' (nI i)) 6 ?_ ?_ 6 0 rfl V T (fun k => rfl) h (FM0.refl V)⟩
  · intro r V' T' hT hR hF
    unfold h_X5_pass_6
    rw [if_pos l6]
    exact hK V' T' hT hR hF
  · intro i hi r hr V' T' hT hR hF
    have hv : vp_in (nI i) 6 := vp_in_nI hi (by omega)
    have eT : T' i = T i := by rw [hT i, if_neg (by omega)]
    have e : ∀ j, j < 8 → V' (82 + j) i = T i j := fun j hj => by rw [hR.2.2.2.2.2.2 i hi j hj, eT]
    have e0 : V' 82 i = T i 0 := e 0 (by omega)
    have e1 : V' 83 i = T i 1 := e 1 (by omega)
    have e2 : V' 84 i = T i 2 := e 2 (by omega)
    have e4 : V' 86 i = T i 4 := e 4 (by omega)
    have e5 : V' 87 i = T i 5 := e 5 (by omega)
    have e6 : V' 88 i = T i 6 := e 6 (by omega)
    have hfin : ∀ (V2 : St), (∀ j, j < 8 → V2 (82 + j) i = bgR (nI t) (T i) j) → (∀ j c, ¬ (82 ≤ j ∧ j < 90 ∧ c = i) → V2 j c = V' j c) → r V2 (nI (i + 1)) := by
      intro V2 hg hF2
      refine hr V2 _ (bgT_s hT) (RM.tsk hR hs hi hg hF2) (hF.trans (fun j c hj => hF2 j c (by omega)))
    unfold h_X5_pass_6
    rw [if_neg (i6 hi), nI_1, nI_clamp (by omega), e0, e1, e4, e5, e6, hR.1]
    refine ⟨hv, ?_⟩
    by_cases h0 : T i 0 = 0
    · rw [if_pos h0]
      refine hfin V' (fun j hj => ?_) (fun _ _ _ => rfl)
      unfold bgR
      rw [if_neg (by rw [h0]; intro q; exact absurd q.1 (by decide))]
      exact e j hj
    · rw [if_neg h0]
      have h1 : T i 0 = 1 := (hw i hi).1.resolve_left h0
      refine ⟨hv, hv, (hw i hi).per h1, ?_⟩
      by_cases hd : (nI t - T i 4) - (nI t - T i 4) / T i 1 * T i 1 = 0
      · rw [if_pos hd]
        refine ⟨hv, ?_⟩
        have h73 : ∀ s0, s0 = (if T i 5 ≤ 0 then T i 6 else T i 6 + 1) → b_X5_pass_73 K r V' (nI i) s0 (nI i) := by
          intro s0 es
          unfold b_X5_pass_73
          rw [nI_clamp (by omega)]
          refine ⟨hv, ?_⟩
          rintro V1 rfl
          rw [show up2 V' 88 i s0 84 i = T i 2 by rw [up2_n (by omega)]; exact e2]
          refine ⟨hv, hv, ?_⟩
          rintro V2 rfl
          rw [nI_1]
          refine hfin _ (fun j hj => ?_) (fun j c q => by rw [up2_at, if_neg (by omega), up2_at, if_neg (by omega)])
          unfold bgR
          rw [if_pos ⟨h1, hd⟩]
          unfold bgU
          rw [up2_at, up2_at, upd_at, upd_at]
          by_cases q5 : j = 5
          · rw [if_pos ⟨by omega, rfl⟩, if_pos q5]
          · rw [if_neg (by omega), if_neg q5]
            by_cases q6 : j = 6
            · rw [if_pos ⟨by omega, rfl⟩, if_pos q6]; exact es
            · rw [if_neg (by omega), if_neg q6]; exact e j hj
        by_cases h5 : T i 5 ≤ 0
        · rw [if_pos h5]
          exact ⟨hv, h73 _ (by rw [if_pos h5])⟩
        · rw [if_neg h5]
          exact ⟨hv, h73 _ (by rw [if_neg h5])⟩
      · rw [if_neg hd]
        refine hfin V' (fun j hj => ?_) (fun _ _ _ => rfl)
        unfold bgR
        rw [if_neg (fun q => hd q.2)]
        exact e j hj
