theorem RM.srcG {lo t n fd : Nat} {tp tr : Nat → Int32} {S : Nat → SA} {T V V' : St} {k : Nat} {y : SA} (h : RM t n fd tp tr S T V) (hw : ∀ j, j < 6 → j ≠ k → SW lo t (S j)) (hk : k < 6) (hC : MSr y V' k) (hF : FK k V V') (h4' : ∀ i, i < n → tpo (uS S k y) (tp i) = tpo S (tp i)) : RM t n fd tp tr (uS S k y) T V' := by
  obtain ⟨h1, h2, h3, h4, h5, h6, h7⟩ := h
  unfold FK own at hF
  refine ⟨by rw [hF _ _ (by omega)]; exact h1, by rw [hF _ _ (by omega)]; exact h2, fun i hi => by rw [hF _ _ (by omega)]; exact h3 i hi, fun i hi => ?_, fun q a c => by rw [hF _ _ (by omega)]; exact h5 q a c, fun j hj => ?_, fun j hj i hi => by rw [hF _ _ (by omega)]; exact h7 j hj i hi⟩
  · rw [hF _ _ (by omega), h4' i hi, h4' 0 (by omega)]; exact h4 i hi
  · by_cases e : j = k
    · rw [e, uS_s]; exact hC
    · rw [uS_n e]
      refine (h6 j hj).fr (hw j hj e).1 (hw j hj e).u30 (fun a c ho => hF a c ?_)
      unfold own at ho
      omega
def sW (a2 a3 a4 a5 a6 a7 : Int32) : Prop := (¬ a2 < 0 ∧ ¬ (3 : Int32) < a2) ∧ (¬ a3 < 1 ∧ ¬ (30 : Int32) < a3) ∧ (¬ a4 < 1 ∧ ¬ (2000 : Int32) < a4) ∧ (¬ a5 < 1 ∧ ¬ (30 : Int32) < a5) ∧ (¬ a6 < 1 ∧ ¬ (500 : Int32) < a6) ∧ (¬ a7 < 0 ∧ ¬ (31 : Int32) < a7)
def sF (f : Nat → Int32) (a2 a3 a4 a5 a6 a7 : Int32) : Nat → Int32 := upd (upd (upd (upd (upd (upd (upd f 3 1) 4 a2) 5 a3) 6 a4) 7 a5) 8 a6) 9 a7
theorem sF_n {f : Nat → Int32} {a2 a3 a4 a5 a6 a7 : Int32} {i : Nat} (h : i < 3 ∨ 9 < i) : sF f a2 a3 a4 a5 a6 a7 i = f i := by
  unfold sF
  rw [pk_un (by omega), pk_un (by omega), pk_un (by omega), pk_un (by omega), pk_un (by omega), pk_un (by omega), pk_un (by omega)]
theorem sF_3 {f : Nat → Int32} {a2 a3 a4 a5 a6 a7 : Int32} : sF f a2 a3 a4 a5 a6 a7 3 = 1 := by
  unfold sF; rw [pk_un (by omega), pk_un (by omega), pk_un (by omega), pk_un (by omega), pk_un (by omega), pk_un (by omega), pk_us]
theorem sF_4 {f : Nat → Int32} {a2 a3 a4 a5 a6 a7 : Int32} : sF f a2 a3 a4 a5 a6 a7 4 = a2 := by
  unfold sF; rw [pk_un (by omega), pk_un (by omega), pk_un (by omega), pk_un (by omega), pk_un (by omega), pk_us]
theorem sF_5 {f : Nat → Int32} {a2 a3 a4 a5 a6 a7 : Int32} : sF f a2 a3 a4 a5 a6 a7 5 = a3 := by
  unfold sF; rw [pk_un (by omega), pk_un (by omega), pk_un (by omega), pk_un (by omega), pk_us]
theorem sF_6 {f : Nat → Int32} {a2 a3 a4 a5 a6 a7 : Int32} : sF f a2 a3 a4 a5 a6 a7 6 = a4 := by
  unfold sF; rw [pk_un (by omega), pk_un (by omega), pk_un (by omega), pk_us]
theorem sF_7 {f : Nat → Int32} {a2 a3 a4 a5 a6 a7 : Int32} : sF f a2 a3 a4 a5 a6 a7 7 = a5 := by
  unfold sF; rw [pk_un (by omega), pk_un (by omega), pk_us]
theorem sF_8 {f : Nat → Int32} {a2 a3 a4 a5 a6 a7 : Int32} : sF f a2 a3 a4 a5 a6 a7 8 = a6 := by
  unfold sF; rw [pk_un (by omega), pk_us]
theorem sF_9 {f : Nat → Int32} {a2 a3 a4 a5 a6 a7 : Int32} : sF f a2 a3 a4 a5 a6 a7 9 = a7 := by
  unfold sF; rw [pk_us]
theorem sF_PW {f q l T M : Nat → Int32} {z u p : Nat} {a2 a3 a4 a5 a6 a7 : Int32} (h : sW a2 a3 a4 a5 a6 a7) : PW (mkS (sF f a2 a3 a4 a5 a6 a7) q l T M, z, u, p) := by
  obtain ⟨h2, h3, h4, h5, h6, h7⟩ := h
  obtain ⟨tp, -, u2, rfl⟩ := (wi_nat (lo := 0) (hi := 3) (by omega) (by omega)).mp h2
  obtain ⟨co, l3, u3, rfl⟩ := (wi_nat (lo := 1) (hi := 30) (by omega) (by omega)).mp h3
  obtain ⟨di, l4, u4, rfl⟩ := (wi_nat (lo := 1) (hi := 2000) (by omega) (by omega)).mp h4
  obtain ⟨bu, l5, u5, rfl⟩ := (wi_nat (lo := 1) (hi := 30) (by omega) (by omega)).mp h5
  obtain ⟨pe, l6', u6, rfl⟩ := (wi_nat (lo := 1) (hi := 500) (by omega) (by omega)).mp h6
  obtain ⟨pr, -, u7, rfl⟩ := (wi_nat (lo := 0) (hi := 31) (by omega) (by omega)).mp h7
  refine ⟨Or.inr ?_, fun _ => ⟨tp, co, di, bu, pe, pr, u2, l3, u3, l4, u4, l5, u5, l6', u6, u7, ?_, ?_, ?_, ?_, ?_, ?_⟩⟩
  · show sF f (nI tp) (nI co) (nI di) (nI bu) (nI pe) (nI pr) 3 = 1
    exact sF_3
  · show sF f (nI tp) (nI co) (nI di) (nI bu) (nI pe) (nI pr) 4 = nI tp
    exact sF_4
  · show sF f (nI tp) (nI co) (nI di) (nI bu) (nI pe) (nI pr) 5 = nI co
    exact sF_5
  · show sF f (nI tp) (nI co) (nI di) (nI bu) (nI pe) (nI pr) 6 = nI di
    exact sF_6
  · show sF f (nI tp) (nI co) (nI di) (nI bu) (nI pe) (nI pr) 7 = nI bu
    exact sF_7
  · show sF f (nI tp) (nI co) (nI di) (nI bu) (nI pe) (nI pr) 8 = nI pe
    exact sF_8
  · show sF f (nI tp) (nI co) (nI di) (nI bu) (nI pe) (nI pr) 9 = nI pr
    exact sF_9
theorem sF_SW1 {lo t N : Nat} {x : SA} {a2 a3 a4 a6 a7 : Int32} (h : SW lo t x) (h3 : x.1 0 3 = 0) (hN : N ≤ 30) (hs : sW a2 a3 a4 (nI N) a6 a7) : SW lo t (mkS (sF (x.1 0) a2 a3 a4 (nI N) a6 a7) (x.1 1) (flA (x.1 2) 0 0) (x.1 3) (x.1 4), 0, 0 + N, 0) := by
  obtain ⟨b1, b2, b3, b4, b5, b6, b7, b8, b9⟩ := h
  obtain ⟨c1, c2, c3, c4⟩ := b5 h3
  obtain ⟨h2, h3', h4, h5, h6, h7⟩ := hs
  obtain ⟨tp, -, u2, rfl⟩ := (wi_nat (lo := 0) (hi := 3) (by omega) (by omega)).mp h2
  obtain ⟨co, l3, u3, rfl⟩ := (wi_nat (lo := 1) (hi := 30) (by omega) (by omega)).mp h3'
  obtain ⟨di, l4, u4, rfl⟩ := (wi_nat (lo := 1) (hi := 2000) (by omega) (by omega)).mp h4
  obtain ⟨bu, l5, u5, e5⟩ := (wi_nat (lo := 1) (hi := 30) (by omega) (by omega)).mp h5
  obtain ⟨pe, l6', u6, rfl⟩ := (wi_nat (lo := 1) (hi := 500) (by omega) (by omega)).mp h6
  obtain ⟨pr, -, u7, rfl⟩ := (wi_nat (lo := 0) (hi := 31) (by omega) (by omega)).mp h7
  have hNb : N = bu := (nI_eq (by omega) (by omega)).mp e5
  subst hNb
  have e3 : sF (x.1 0) (nI tp) (nI co) (nI di) (nI N) (nI pe) (nI pr) 3 = 1 := sF_3
  refine ⟨Nat.zero_le _, Nat.zero_le _, Or.inr e3, ?_, fun q => absurd (e3.symm.trans q) (by decide), fun _ => ⟨tp, co, di, N, pe, pr, 0, u2, l3, u3, l4, u4, l5, u5, l6', u6, u7, by omega, ?_, ?_, ?_, ?_, ?_, ?_, ?_, ?_⟩, fun i hi => absurd hi (Nat.not_lt_zero i), fun i hi => ⟨0, Nat.zero_le _, ?_⟩, ?_⟩
  · show sF (x.1 0) (nI tp) (nI co) (nI di) (nI N) (nI pe) (nI pr) 10 = 0 ∨ sF (x.1 0) (nI tp) (nI co) (nI di) (nI N) (nI pe) (nI pr) 10 = 1
    rw [sF_n (by omega)]; exact b4
  · show sF (x.1 0) (nI tp) (nI co) (nI di) (nI N) (nI pe) (nI pr) 4 = nI tp
    exact sF_4
  · show sF (x.1 0) (nI tp) (nI co) (nI di) (nI N) (nI pe) (nI pr) 5 = nI co
    exact sF_5
  · show sF (x.1 0) (nI tp) (nI co) (nI di) (nI N) (nI pe) (nI pr) 6 = nI di
    exact sF_6
  · show sF (x.1 0) (nI tp) (nI co) (nI di) (nI N) (nI pe) (nI pr) 7 = nI N
    exact sF_7
  · show sF (x.1 0) (nI tp) (nI co) (nI di) (nI N) (nI pe) (nI pr) 8 = nI pe
    exact sF_8
  · show sF (x.1 0) (nI tp) (nI co) (nI di) (nI N) (nI pe) (nI pr) 9 = nI pr
    exact sF_9
  · show sF (x.1 0) (nI tp) (nI co) (nI di) (nI N) (nI pe) (nI pr) 16 = nI 0
    rw [sF_n (by omega)]; exact c4
  · show 0 + N + 0 = N
    omega
  · show flA (x.1 2) 0 0 i = nI 0
    unfold flA
    rw [if_neg (Nat.not_lt_zero i)]; rfl
  · show ∃ v, v ≤ t ∧ sF (x.1 0) (nI tp) (nI co) (nI di) (nI N) (nI pe) (nI pr) 17 = nI v
    rw [sF_n (by omega)]; exact b9
theorem sF_SW0 {lo t : Nat} {x : SA} {a2 a3 a4 a5 a6 a7 : Int32} (h : SW lo t x) (h3 : x.1 0 3 = 0) : SW lo t (mkS (upd (sF (x.1 0) a2 a3 a4 a5 a6 a7) 3 0) (x.1 1) (x.1 2) (x.1 3) (x.1 4), 0, 0, 0) := by
  obtain ⟨b1, b2, b3, b4, b5, b6, b7, b8, b9⟩ := h
  obtain ⟨c1, c2, c3, c4⟩ := b5 h3
  have e3 : upd (sF (x.1 0) a2 a3 a4 a5 a6 a7) 3 0 3 = 0 := pk_us
  have e : ∀ i, 9 < i → upd (sF (x.1 0) a2 a3 a4 a5 a6 a7) 3 0 i = x.1 0 i := fun i hi => by rw [pk_un (by omega), sF_n (by omega)]
  refine ⟨Nat.zero_le _, Nat.zero_le _, Or.inl e3, ?_, fun q => ⟨rfl, rfl, rfl, ?_⟩, fun q => absurd (e3.symm.trans q) (by decide), fun i hi => absurd hi (Nat.not_lt_zero i), fun i hi => absurd hi (Nat.not_lt_zero i), ?_⟩
  · show upd (sF (x.1 0) a2 a3 a4 a5 a6 a7) 3 0 10 = 0 ∨ upd (sF (x.1 0) a2 a3 a4 a5 a6 a7) 3 0 10 = 1
    rw [e 10 (by omega)]; exact b4
  · show upd (sF (x.1 0) a2 a3 a4 a5 a6 a7) 3 0 16 = 0
    rw [e 16 (by omega)]; exact c4
  · show ∃ v, v ≤ t ∧ upd (sF (x.1 0) a2 a3 a4 a5 a6 a7) 3 0 17 = nI v
    rw [e 17 (by omega)]; exact b9
theorem m_sT {lo t n fd : Nat} {tp tr : Nat → Int32} {S : Nat → SA} {T V : St} {K : St → Prop} {a1 a2 a3 a4 a5 a6 a7 : Int32} (hg : GW lo t n fd tp S T) (h : RM t n fd tp tr S T V) (h0 : V 60 0 = 0) (hK1 : pmS S a7 → ∀ V', RM t n fd tp tr S T V' → FM V V' → V' 60 0 = 3 → b_X5_source_166 K a1 a2 a3 a4 a5 a6 a7 V') (hK0 : ¬ pmS S a7 → ∀ V', RM t n fd tp tr S T V' → FM V V' → V' 60 0 = 0 → b_X5_source_166 K a1 a2 a3 a4 a5 a6 a7 V') : ∃ n, lp (fun _ _ => False) (h_X5_source_115 K a1 a2 a3 a4 a5 a6 a7) n V (0 : Int32) := by
  refine ⟨6 + 1, lp_up (fun i (r : St → Int32 → Prop) => ∀ V', RM t n fd tp tr S T V' → FM V V' → ((V' 60 0 = 0 ∧ ∀ j, j < i → ¬ ((S j).1 0 3 = 1 ∧ (S j).1 0 9 = a7)) ∨ (V' 60 0 = 3 ∧ pmS S a7)) → r V' (nI i)) 6 ?_ ?_ 6 0 rfl V h (FM.refl V) (Or.inl ⟨h0, fun j hj => absurd hj (Nat.not_lt_zero j)⟩)⟩
  · intro r V' hR hF hc
    unfold h_X5_source_115
    rw [if_pos l6]
    rcases hc with ⟨c0, cn⟩ | ⟨c3, cp⟩
    · refine hK0 ?_ V' hR hF c0
      rintro ⟨j, hj, b1, b2⟩
      exact cn j hj ⟨b1, b2⟩
    · exact hK1 cp V' hR hF c3
  · intro i hi r hr V' hR hF hc
    have hv : vp_in (nI i) 6 := vp_in_nI hi (by omega)
    have hM := hR.2.2.2.2.2.1 i hi
    unfold h_X5_source_115
    rw [if_neg (i6 hi)]
    rcases hc with ⟨c0, cn⟩ | ⟨c3, cp⟩
    · have hstep : ¬ ((S i).1 0 3 = 1 ∧ (S i).1 0 9 = a7) → r (up2 V' 60 0 0) (nI (i + 1)) := fun q => hr _ (RMa.thr (a := (t, n, fd, tp, tr, S, T)) hR hg) (hF.trans (FM.thr V' 0)) (Or.inl ⟨up2_ss _ _ _ _, fun j hj => by
        by_cases e : j = i
        · rw [e]; exact q
        · exact cn j (by omega)⟩)
      rw [if_pos c0, nI_clamp (by omega), nI_1, show V' 61 i = (S i).1 0 3 from hM.1 3 (by omega) (by omega), show V' 67 i = (S i).1 0 9 from hM.1 9 (by omega) (by omega)]
      refine ⟨hv, ?_⟩
      rcases (hg.1 i hi).2.2.1 with q | q
      · rw [if_pos q]
        rintro V1 rfl
        exact hstep (fun e => absurd (q.symm.trans e.1) (by decide))
      · rw [if_neg (by rw [q]; decide)]
        refine ⟨hv, ?_⟩
        by_cases e : (S i).1 0 9 = a7
        · rw [if_pos e]
          rintro V1 rfl
          exact hr _ (RMa.thr (a := (t, n, fd, tp, tr, S, T)) hR hg) (hF.trans (FM.thr V' 3)) (Or.inr ⟨up2_ss _ _ _ _, ⟨i, hi, q, e⟩⟩)
        · rw [if_neg e]
          rintro V1 rfl
          exact hstep (fun q2 => e q2.2)
    · rw [c3, if_neg (by decide)]
      exact hK1 cp V' hR hF c3
theorem m_sX {K : St → Prop} {V : St} {a1 a2 a3 a4 a5 a6 a7 c : Int32} (hc : V 60 0 = c) (h1 : ¬ c = 0) (h2 : ¬ c ≤ 0) (hK : K V) : ∃ n, lp (fun _ _ => False) (h_X5_source_115 K a1 a2 a3 a4 a5 a6 a7) n V (0 : Int32) := by
  refine ⟨1, ?_⟩
  show h_X5_source_115 K a1 a2 a3 a4 a5 a6 a7 _ V 0
  unfold h_X5_source_115
  rw [if_neg (by decide), hc, if_neg h1]
  unfold b_X5_source_166
  rw [hc, if_neg h2]
  exact hK
/-- the model's own way through the six checks of the numbers -/
theorem m_s70 {K : St → Prop} {V : St} {a1 a2 a3 a4 a5 a6 a7 : Int32} (h1 : sW a2 a3 a4 a5 a6 a7 → b_X5_source_70 K a1 a2 a3 a4 a5 a6 a7 V 1) (h0 : ¬ sW a2 a3 a4 a5 a6 a7 → b_X5_source_70 K a1 a2 a3 a4 a5 a6 a7 V 0) : wp_X5_source V K a1 a2 a3 a4 a5 a6 a7 := by
  unfold wp_X5_source
  refine m_within (fun q => ?_) (fun p2 => ?_)
  · rw [if_pos rfl]; exact h0 (fun h => q h.1)
  rw [if_neg (by decide)]
  refine m_within (fun q => ?_) (fun p3 => ?_)
  · rw [if_pos rfl]; exact h0 (fun h => q h.2.1)
  rw [if_neg (by decide)]
  refine m_within (fun q => ?_) (fun p4 => ?_)
  · rw [if_pos rfl]; exact h0 (fun h => q h.2.2.1)
  rw [if_neg (by decide)]
  refine m_within (fun q => ?_) (fun p5 => ?_)
  · rw [if_pos rfl]; exact h0 (fun h => q h.2.2.2.1)
  rw [if_neg (by decide)]
  refine m_within (fun q => ?_) (fun p6 => ?_)
  · rw [if_pos rfl]; exact h0 (fun h => q h.2.2.2.2.1)
  rw [if_neg (by decide)]
  refine m_within (fun q => ?_) (fun p7 => ?_)
  · rw [if_pos rfl]; exact h0 (fun h => q h.2.2.2.2.2)
  rw [if_neg (by decide)]
  exact h1 ⟨p2, p3, p4, p5, p6, p7⟩
