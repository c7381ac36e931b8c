def FLx (V V' : St) : Prop := ∀ j, 60 ≤ j → j ≤ 92 → V' j = V j
def BothV (a : AA) (wC wM : St → (Int32 → St → Prop) → Prop) : Prop := ∃ (a' : AA) (c r : Int32), a'.1 ≤ a.1 + 500 ∧ GWa (a'.1 + 1) a' ∧ (∀ (V : St) (K : Int32 → St → Prop), RCa a V → (∀ V', RCa a' V' → FLx V V' → (c = 0 → V' 93 0 = r) → K c V') → wC V K) ∧ (∀ (V : St) (K : Int32 → St → Prop), RMa a V → (∀ V' r', (c = 0 → r' = r) → RMa a' V' → FM V V' → V' 60 0 = c → K r' V') → wM V K)
theorem wi_nat {x : Int32} {lo hi : Nat} (hhi : hi < 2 ^ 30) (hle : lo ≤ hi) : (¬ x < nI lo ∧ ¬ nI hi < x) ↔ ∃ j, lo ≤ j ∧ j ≤ hi ∧ x = nI j := by
  constructor
  · rintro ⟨h1, h2⟩
    have h0 : ¬ x < 0 := by
      intro q
      refine h1 (Int32.lt_of_lt_of_le q (nI_pos' (by omega)))
    obtain ⟨j, hj, rfl⟩ := nI_of h0
    refine ⟨j, ?_, ?_, rfl⟩
    · exact Nat.le_of_not_lt (fun q => h1 (nI_lt q (by omega)))
    · exact Nat.le_of_not_lt (fun q => h2 (nI_lt q (by omega)))
  · rintro ⟨j, h1, h2, rfl⟩
    exact ⟨nI_nlt h1 (by omega), nI_nlt h2 (by omega)⟩
theorem c_within {V : St} {K : Int32 → St → Prop} {x lo hi : Int32} (h0 : ¬ (¬ x < lo ∧ ¬ hi < x) → K 0 V) (h1 : (¬ x < lo ∧ ¬ hi < x) → K 1 V) : wp_X4_within V K x lo hi := by
  unfold wp_X4_within
  by_cases q1 : x < lo
  · rw [if_pos q1]; exact h0 (fun q => q.1 q1)
  · rw [if_neg q1]
    by_cases q2 : hi < x
    · rw [if_pos q2]; exact h0 (fun q => q.2 q2)
    · rw [if_neg q2]; exact h1 ⟨q1, q2⟩
theorem m_within {V : St} {K : Int32 → St → Prop} {x lo hi : Int32} (h0 : ¬ (¬ x < lo ∧ ¬ hi < x) → K 0 V) (h1 : (¬ x < lo ∧ ¬ hi < x) → K 1 V) : wp_X5_within V K x lo hi := c_within h0 h1
theorem ix6 {x : Int32} : (¬ x < 0 ∧ ¬ (5 : Int32) < x) ↔ ∃ k, k < 6 ∧ x = nI k := by
  refine (wi_nat (x := x) (lo := 0) (hi := 5) (by omega) (by omega)).trans ⟨?_, ?_⟩
  · rintro ⟨j, -, h2, h3⟩; exact ⟨j, by omega, h3⟩
  · rintro ⟨j, h2, h3⟩; exact ⟨j, by omega, by omega, h3⟩
def isS (S : Nat → SA) (x : Int32) : Prop := ∃ k, k < 6 ∧ x = nI k ∧ (S k).1 0 3 = 1
theorem nI_inj6 {i j : Nat} (hi : i < 6) (hj : j < 6) (e : nI i = nI j) : i = j := (nI_eq (by omega) (by omega)).mp e
theorem c_told {t n fd : Nat} {tp tr : Nat → Int32} {S : Nat → SA} {T V : St} {K : Nat → St → Prop} {X : Nat → St → Prop} {x : Int32} (h : RC t n fd tp tr S T V) (hw : ∀ k, k < 6 → ((S k).1 0 3 = 0 ∨ (S k).1 0 3 = 1)) (hX : ¬ isS S x → X 1 V) (hK : ∀ k, k < 6 → x = nI k → (S k).1 0 3 = 1 → K k V) : wp_X4_toldSource V K X x := by
  unfold wp_X4_toldSource
  refine c_within (fun q => ?_) (fun q => ?_)
  · rw [if_pos rfl]
    refine hX ?_
    rintro ⟨k, hk, e, -⟩
    exact q (ix6.mpr ⟨k, hk, e⟩)
  · rw [if_neg (by decide)]
    obtain ⟨k, hk, e⟩ := ix6.mp q
    refine ⟨k, hk, e, ?_⟩
    rw [(h.2.2.2.2.1 k hk).1 3 (by omega) (by omega)]
    rcases hw k hk with h3 | h3
    · rw [if_pos h3]
      refine hX ?_
      rintro ⟨k2, hk2, e2, h32⟩
      have := nI_inj6 hk hk2 (e.symm.trans e2)
      subst this
      exact absurd (h3.symm.trans h32) (by decide)
    · rw [if_neg (by rw [h3]; decide)]
      exact ⟨k, hk, e, hK k hk e h3⟩
theorem m_isS {t n fd : Nat} {tp tr : Nat → Int32} {S : Nat → SA} {T V : St} {K : Int32 → St → Prop} {x : Int32} (h : RM t n fd tp tr S T V) (hw : ∀ k, k < 6 → ((S k).1 0 3 = 0 ∨ (S k).1 0 3 = 1)) (h0 : ¬ isS S x → K 0 V) (h1 : ∀ k, k < 6 → x = nI k → (S k).1 0 3 = 1 → K 1 V) : wp_X5_isSource V K x := by
  unfold wp_X5_isSource
  refine m_within (fun q => ?_) (fun q => ?_)
  · rw [if_pos rfl]
    refine h0 ?_
    rintro ⟨k, hk, e, -⟩
    exact q (ix6.mpr ⟨k, hk, e⟩)
  · rw [if_neg (by decide)]
    obtain ⟨k, hk, e⟩ := ix6.mp q
    subst e
    rw [nI_clamp (by omega), show V 61 k = (S k).1 0 3 from (h.2.2.2.2.2.1 k hk).1 3 (by omega) (by omega)]
    refine ⟨vp_in_nI hk (by omega), ?_⟩
    rcases hw k hk with h3 | h3
    · rw [if_pos h3]
      refine h0 ?_
      rintro ⟨k2, hk2, e2, h32⟩
      have := nI_inj6 hk hk2 e2
      subst this
      exact absurd (h3.symm.trans h32) (by decide)
    · rw [if_neg (by rw [h3]; decide)]
      exact h1 k hk rfl h3
theorem RMa.thr {lo : Nat} {a : AA} {V : St} {c : Int32} (h : RMa a V) (hw : GWa lo a) : RMa a (up2 V 60 0 c) := RM.fr h hw.1 (fun j i _ _ q => by rw [up2_at, if_neg (by omega)])
theorem RCa.out {a : AA} {V : St} {c : Int32} (h : RCa a V) : RCa a (up2 V 93 0 c) := RC.fr h (fun j hj => up2_n (by omega))
theorem FM.thr (V : St) (c : Int32) : FM V (up2 V 60 0 c) := fun j hj => up2_n (by omega)
theorem FLx.out (V : St) (c : Int32) : FLx V (up2 V 93 0 c) := fun j _ _ => up2_n (by omega)
theorem FLx.refl (V : St) : FLx V V := fun _ _ _ => rfl
theorem FC.fl {V V' : St} (h : FC V V') : FLx V V' := fun j h1 _ => h j h1
theorem vp00 : vp_in (0 : Int32) 1 := vp_in_nI (n := 0) (by omega) (by omega)
theorem GWa.t3 {lo : Nat} {a : AA} (h : GWa lo a) : ∀ k, k < 6 → ((a.2.2.2.2.2.1 k).1 0 3 = 0 ∨ (a.2.2.2.2.2.1 k).1 0 3 = 1) := fun k hk => (h.1 k hk).2.2.1
theorem time_both {a : AA} (hw : GWa (a.1 + 1) a) : ∃ r : Int32, (∀ (V : St) (K : Int32 → St → Prop), RCa a V → K r V → wp_X4_time V K) ∧ (∀ (V : St) (K : Int32 → St → Prop), RMa a V → (∀ V', RMa a V' → FM V V' → K r V') → wp_X5_time V K) := by
  refine ⟨nI a.1, fun V K hR hK => ?_, fun V K hR hK => ?_⟩
  · unfold wp_X4_time
    rw [show V 0 5 = nI a.1 from hR.1]; exact hK
  · unfold wp_X5_time
    rintro V1 rfl
    rw [show up2 V 60 0 0 60 1 = nI a.1 by rw [up2_sn (by omega)]; exact hR.1]
    exact hK _ (hR.thr hw) (FM.thr V 0)
theorem bound_both {a : AA} (hw : GWa (a.1 + 1) a) (x : Int32) : BothV a (fun V K => wp_L_bound V K x) (fun V K => wp_X5_bound V K x) := by
  have hpw : ∀ k, k < 6 → PW (a.2.2.2.2.2.1 k) := fun k hk => (hw.1 k hk).pw
  by_cases hs : isS a.2.2.2.2.2.1 x
  · obtain ⟨k, hk, rfl, h3⟩ := hs
    refine ⟨a, 0, oI (sB a.2.2.2.2.2.1 a.2.2.2.2.2.2 k), by omega, hw, fun V K hR hK => ?_, fun V K hR hK => ?_⟩
    · show wp_L_bound V K (nI k)
      unfold wp_L_bound wp_X4_bound
      refine c_told hR hw.t3 (fun q => absurd ⟨k, hk, rfl, h3⟩ q) (fun k2 hk2 e _ => ?_)
      have := nI_inj6 hk hk2 e
      subst this
      refine c_sB hR hpw hw.2.1 hk h3 ⟨vp00, ?_⟩
      rintro V3 rfl
      exact hK _ hR.out (FLx.out _ _) (fun _ => up2_ss _ _ _ _)
    · show wp_X5_bound V K (nI k)
      unfold wp_X5_bound
      refine m_isS hR hw.t3 (fun q => absurd ⟨k, hk, rfl, h3⟩ q) (fun k2 hk2 e _ => ?_)
      rw [if_neg (by decide)]
      unfold b_X5_bound_14
      rintro V1 rfl
      rw [up2_ss, if_pos (by decide)]
      exact m_sB (hR.thr hw) hpw hw.2.1 hk h3 (hK _ _ (fun _ => rfl) (hR.thr hw) (FM.thr V 0) (up2_ss _ _ _ _))
  · refine ⟨a, 1, 0, by omega, hw, fun V K hR hK => ?_, fun V K hR hK => ?_⟩
    · show wp_L_bound V K x
      unfold wp_L_bound wp_X4_bound
      refine c_told hR hw.t3 (fun _ => ?_) (fun k2 hk2 e h3 => absurd ⟨k2, hk2, e, h3⟩ hs)
      exact ⟨rfl, hK V hR (FLx.refl V) (fun q => absurd q (by decide))⟩
    · show wp_X5_bound V K x
      unfold wp_X5_bound
      refine m_isS hR hw.t3 (fun _ => ?_) (fun k2 hk2 e h3 => absurd ⟨k2, hk2, e, h3⟩ hs)
      rw [if_pos rfl]
      unfold b_X5_bound_14
      rintro V1 rfl
      rw [up2_ss, if_neg (by decide)]
      exact hK _ _ (fun q => absurd q (by decide)) (hR.thr hw) (FM.thr V 1) (up2_ss _ _ _ _)
theorem floor_both {a : AA} (hw : GWa (a.1 + 1) a) (x : Int32) : BothV a (fun V K => wp_L_floor V K x) (fun V K => wp_X5_floor V K x) := by
  have hpw : ∀ k, k < 6 → PW (a.2.2.2.2.2.1 k) := fun k hk => (hw.1 k hk).pw
  by_cases hs : ¬ x < 0 ∧ ¬ (100000 : Int32) < x
  · obtain ⟨s, -, hs2, rfl⟩ := (wi_nat (lo := 0) (hi := 100000) (by omega) (by omega)).mp hs
    have eh : sM (hS a.2.2.2.2.2.1 (-1) s) 6 = sM (fun k => hN (a.2.2.2.2.2.1 k) s) 6 := sM_cong 6 (fun k hk => hS_all (hpw k hk))
    refine ⟨a, 0, (if (0 : Int32) < nI s - nI (sM (hS a.2.2.2.2.2.1 (-1) s) 6) - nI (sM (fun k => tN (a.2.2.2.2.2.1 k) s) 6) then nI s - nI (sM (hS a.2.2.2.2.2.1 (-1) s) 6) - nI (sM (fun k => tN (a.2.2.2.2.2.1 k) s) 6) else 0), by omega, hw, fun V K hR hK => ?_, fun V K hR hK => ?_⟩
    · show wp_L_floor V K (nI s)
      unfold wp_L_floor wp_X4_floor
      refine c_within (fun q => absurd hs q) (fun _ => ?_)
      rw [if_neg (by decide)]
      refine c_hT hR hpw (by omega) (c_tT hR hpw (by omega) ⟨vp00, ?_⟩)
      rintro V3 rfl
      exact hK _ hR.out (FLx.out _ _) (fun _ => up2_ss _ _ _ _)
    · show wp_X5_floor V K (nI s)
      unfold wp_X5_floor
      refine m_within (fun q => absurd hs q) (fun _ => ?_)
      rw [if_neg (by decide)]
      unfold b_X5_floor_16
      rintro V1 rfl
      rw [up2_ss, if_pos (by decide)]
      refine m_sI (hR.thr hw) hpw (by omega) ?_
      rintro x4 rfl
      have hfin := fun r' h => hK (up2 V 60 0 0) r' h (hR.thr hw) (FM.thr V 0) (up2_ss _ _ _ _)
      rw [sM_add, ← nI_add, ← eh, ← Int32.sub_sub]
      by_cases q : (0 : Int32) ≤ nI s - nI (sM (hS a.2.2.2.2.2.1 (-1) s) 6) - nI (sM (fun k => tN (a.2.2.2.2.2.1 k) s) 6)
      · rw [if_pos q]
        refine hfin _ (fun _ => ?_)
        by_cases q2 : (0 : Int32) < nI s - nI (sM (hS a.2.2.2.2.2.1 (-1) s) 6) - nI (sM (fun k => tN (a.2.2.2.2.2.1 k) s) 6)
        · rw [if_pos q2]
        · rw [if_neg q2]
          exact Int32.le_antisymm (Int32.not_lt.mp q2) q
      · rw [if_neg q]
        refine hfin _ (fun _ => ?_)
        rw [if_neg (fun q2 => q (Int32.le_of_lt q2))]
  · refine ⟨a, 1, 0, by omega, hw, fun V K hR hK => ?_, fun V K hR hK => ?_⟩
    · show wp_L_floor V K x
      unfold wp_L_floor wp_X4_floor
      refine c_within (fun _ => ?_) (fun q => absurd q hs)
      rw [if_pos rfl]
      exact ⟨rfl, hK V hR (FLx.refl V) (fun q => absurd q (by decide))⟩
    · show wp_X5_floor V K x
      unfold wp_X5_floor
      refine m_within (fun _ => ?_) (fun q => absurd q hs)
      rw [if_pos rfl]
      unfold b_X5_floor_16
      rintro V1 rfl
      rw [up2_ss, if_neg (by decide)]
      exact hK _ _ (fun q => absurd q (by decide)) (hR.thr hw) (FM.thr V 1) (up2_ss _ _ _ _)
def isT (T : St) (x : Int32) : Prop := ∃ k, k < 6 ∧ x = nI k ∧ T k 0 = 1
theorem task_both {a : AA} (hw : GWa (a.1 + 1) a) (x y : Int32) : BothV a (fun V K => wp_L_task V K x y) (fun V K => wp_X5_task V K x y) := by
  have hpw : ∀ k, k < 6 → PW (a.2.2.2.2.2.1 k) := fun k hk => (hw.1 k hk).pw
  have hcN : ¬ isT a.2.2.2.2.2.2 x → ∀ (V : St) (K : Int32 → St → Prop), RCa a V → K 1 V → wp_L_task V K x y := by
    intro hs V K hR hK
    unfold wp_L_task wp_X4_task
    refine c_within (fun _ => ?_) (fun q => ?_)
    · rw [if_pos rfl]
      exact Or.inl ⟨rfl, hK⟩
    · rw [if_neg (by decide)]
      obtain ⟨k, hk, e⟩ := ix6.mp q
      refine ⟨k, hk, e, ?_⟩
      rw [hR.2.2.2.2.2 k hk 0 (by omega)]
      rw [if_pos ((hw.2.1 k hk).1.resolve_right (fun h1 => hs ⟨k, hk, e, h1⟩))]
      exact Or.inl ⟨rfl, hK⟩
  have hmN : ¬ isT a.2.2.2.2.2.2 x → ∀ (V : St) (K : Int32 → St → Prop), RMa a V → K 0 (up2 V 60 0 1) → wp_X5_task V K x y := by
    intro hs V K hR hK
    have h19 : b_X5_task_19 K x y V := by
      unfold b_X5_task_19 b_X5_task_37
      rintro V1 rfl
      rw [up2_ss, if_neg (by decide)]
      exact hK
    unfold wp_X5_task
    refine m_within (fun _ => ?_) (fun q => ?_)
    · rw [if_pos rfl]; exact h19
    · rw [if_neg (by decide)]
      obtain ⟨k, hk, e⟩ := ix6.mp q
      subst e
      rw [nI_clamp (by omega), show V 82 k = a.2.2.2.2.2.2 k 0 from hR.2.2.2.2.2.2 k hk 0 (by omega)]
      refine ⟨vp_in_nI hk (by omega), ?_⟩
      rw [if_pos ((hw.2.1 k hk).1.resolve_right (fun h1 => hs ⟨k, hk, rfl, h1⟩))]
      exact h19
  by_cases hs : isT a.2.2.2.2.2.2 x
  · obtain ⟨k, hk, rfl, h3⟩ := hs
    have hv : vp_in (nI k) 6 := vp_in_nI hk (by omega)
    have hc1 : ∀ (V : St) (K : Int32 → St → Prop), RCa a V → (if y = 0 then (K (V (6 + 1 * k) 5) V) else (if y = 1 then (K (V (6 + 1 * k) 6) V) else (if y = 2 then (K (V (6 + 1 * k) 7) V) else (if y = 3 then (wp_X4_taskBound V (fun (r5 : Int32) (V6 : St) => K r5 V6) (6 + 1 * k)) else True)))) → (¬ (y = 0 ∨ y = 1 ∨ y = 2 ∨ y = 3) → ∀ X : Nat → St → Prop, X 4 V → wp_X4_task V K X (nI k) y) ∧ ((y = 0 ∨ y = 1 ∨ y = 2 ∨ y = 3) → ∀ X : Nat → St → Prop, wp_X4_task V K X (nI k) y) := by
      intro V K hR hK
      have hgo : ∀ X : Nat → St → Prop, (if y = 0 then (K (V (6 + 1 * k) 5) V) else (if y = 1 then (K (V (6 + 1 * k) 6) V) else (if y = 2 then (K (V (6 + 1 * k) 7) V) else (if y = 3 then (wp_X4_taskBound V (fun (r5 : Int32) (V6 : St) => K r5 V6) (6 + 1 * k)) else X 4 V)))) → wp_X4_task V K X (nI k) y := by
        intro X hX
        unfold wp_X4_task
        refine c_within (fun q => absurd (ix6.mpr ⟨k, hk, rfl⟩) q) (fun _ => ?_)
        rw [if_neg (by decide)]
        refine ⟨k, hk, rfl, ?_⟩
        rw [hR.2.2.2.2.2 k hk 0 (by omega), if_neg (by rw [h3]; decide)]
        exact ⟨k, hk, rfl, hX⟩
      refine ⟨fun hn X hX => hgo X ?_, fun hn X => hgo X ?_⟩
      · rw [if_neg (fun q => hn (Or.inl q)), if_neg (fun q => hn (Or.inr (Or.inl q))), if_neg (fun q => hn (Or.inr (Or.inr (Or.inl q)))), if_neg (fun q => hn (Or.inr (Or.inr (Or.inr q))))]
        exact hX
      · rcases hn with rfl | rfl | rfl | rfl
        · exact hK
        · exact hK
        · exact hK
        · exact hK
    have hm1 : ∀ (V : St) (K : Int32 → St → Prop), RMa a V → (¬ (¬ y < 0 ∧ ¬ (3 : Int32) < y) → K 0 (up2 V 60 0 2)) → ((¬ y < 0 ∧ ¬ (3 : Int32) < y) → b_X5_task_37 K (nI k) y V 0) → wp_X5_task V K (nI k) y := by
      intro V K hR k1 k2
      unfold wp_X5_task
      refine m_within (fun q => absurd (ix6.mpr ⟨k, hk, rfl⟩) q) (fun _ => ?_)
      rw [if_neg (by decide), nI_clamp (by omega), show V 82 k = a.2.2.2.2.2.2 k 0 from hR.2.2.2.2.2.2 k hk 0 (by omega)]
      refine ⟨hv, ?_⟩
      rw [if_neg (by rw [h3]; decide)]
      refine m_within (fun q => ?_) (fun q => ?_)
      · rw [if_pos rfl]
        unfold b_X5_task_37
        rintro V1 rfl
        rw [up2_ss, if_neg (by decide)]
        exact k1 q
      · rw [if_neg (by decide)]
        exact k2 q
    by_cases hy : ¬ y < 0 ∧ ¬ (3 : Int32) < y
    · obtain ⟨j, -, hj, rfl⟩ := (wi_nat (lo := 0) (hi := 3) (by omega) (by omega)).mp hy
      have e : ∀ V, RMa a V → ∀ i, i < 8 → up2 V 60 0 0 (82 + i) k = a.2.2.2.2.2.2 k i := fun V hR i hi => by rw [up2_n (by omega)]; exact hR.2.2.2.2.2.2 k hk i hi

      rcases (show j = 0 ∨ j = 1 ∨ j = 2 ∨ j = 3 by omega) with rfl | rfl | rfl | rfl
      · refine ⟨a, 0, (a.2.2.2.2.2.2 k 5), by omega, hw, fun V K hR hK => ?_, fun V K hR hK => ?_⟩
        · show wp_L_task V K (nI k) (nI 0)
          unfold wp_L_task
          refine (hc1 V _ hR ?_).2 (Or.inl rfl) _
          rw [if_pos (by decide)]
          rw [hR.2.2.2.2.2 k hk 5 (by omega)]
          refine ⟨vp00, ?_⟩
          rintro V3 rfl
          exact hK _ hR.out (FLx.out _ _) (fun _ => up2_ss _ _ _ _)
        · refine hm1 V K hR (fun q => absurd hy q) (fun _ => ?_)
          unfold b_X5_task_37
          rintro V1 rfl
          rw [up2_ss, if_pos (by decide), if_pos (by decide)]
          rw [nI_clamp (by omega), show up2 V 60 0 0 87 k = a.2.2.2.2.2.2 k 5 from e V hR 5 (by omega)]
          exact ⟨hv, hK _ _ (fun _ => rfl) (hR.thr hw) (FM.thr V 0) (up2_ss _ _ _ _)⟩
      · refine ⟨a, 0, (a.2.2.2.2.2.2 k 6), by omega, hw, fun V K hR hK => ?_, fun V K hR hK => ?_⟩
        · show wp_L_task V K (nI k) (nI 1)
          unfold wp_L_task
          refine (hc1 V _ hR ?_).2 (Or.inr (Or.inl rfl)) _
          rw [if_neg (by decide), if_pos (by decide)]
          rw [hR.2.2.2.2.2 k hk 6 (by omega)]
          refine ⟨vp00, ?_⟩
          rintro V3 rfl
          exact hK _ hR.out (FLx.out _ _) (fun _ => up2_ss _ _ _ _)
        · refine hm1 V K hR (fun q => absurd hy q) (fun _ => ?_)
          unfold b_X5_task_37
          rintro V1 rfl
          rw [up2_ss, if_pos (by decide), if_neg (by decide), if_pos (by decide)]
          rw [nI_clamp (by omega), show up2 V 60 0 0 88 k = a.2.2.2.2.2.2 k 6 from e V hR 6 (by omega)]
          exact ⟨hv, hK _ _ (fun _ => rfl) (hR.thr hw) (FM.thr V 0) (up2_ss _ _ _ _)⟩
      · refine ⟨a, 0, (a.2.2.2.2.2.2 k 7), by omega, hw, fun V K hR hK => ?_, fun V K hR hK => ?_⟩
        · show wp_L_task V K (nI k) (nI 2)
          unfold wp_L_task
          refine (hc1 V _ hR ?_).2 (Or.inr (Or.inr (Or.inl rfl))) _
          rw [if_neg (by decide), if_neg (by decide), if_pos (by decide)]
          rw [hR.2.2.2.2.2 k hk 7 (by omega)]
          refine ⟨vp00, ?_⟩
          rintro V3 rfl
          exact hK _ hR.out (FLx.out _ _) (fun _ => up2_ss _ _ _ _)
        · refine hm1 V K hR (fun q => absurd hy q) (fun _ => ?_)
          unfold b_X5_task_37
          rintro V1 rfl
          rw [up2_ss, if_pos (by decide), if_neg (by decide), if_neg (by decide), if_pos (by decide)]
          rw [nI_clamp (by omega), show up2 V 60 0 0 89 k = a.2.2.2.2.2.2 k 7 from e V hR 7 (by omega)]
          exact ⟨hv, hK _ _ (fun _ => rfl) (hR.thr hw) (FM.thr V 0) (up2_ss _ _ _ _)⟩
      · refine ⟨a, 0, (oI (tB a.2.2.2.2.2.1 a.2.2.2.2.2.2 k)), by omega, hw, fun V K hR hK => ?_, fun V K hR hK => ?_⟩
        · show wp_L_task V K (nI k) (nI 3)
          unfold wp_L_task
          refine (hc1 V _ hR ?_).2 (Or.inr (Or.inr (Or.inr (rfl)))) _
          rw [if_neg (by decide), if_neg (by decide), if_neg (by decide), if_pos (by decide)]
          refine c_tB hR hpw hw.2.1 hk h3 ⟨vp00, ?_⟩
          rintro V3 rfl
          exact hK _ hR.out (FLx.out _ _) (fun _ => up2_ss _ _ _ _)
        · refine hm1 V K hR (fun q => absurd hy q) (fun _ => ?_)
          unfold b_X5_task_37
          rintro V1 rfl
          rw [up2_ss, if_pos (by decide), if_neg (by decide), if_neg (by decide), if_neg (by decide)]
          exact m_tB (hR.thr hw) hpw hw.2.1 hk h3 (hK _ _ (fun _ => rfl) (hR.thr hw) (FM.thr V 0) (up2_ss _ _ _ _))
    · refine ⟨a, 2, 0, by omega, hw, fun V K hR hK => ?_, fun V K hR hK => ?_⟩
      · show wp_L_task V K (nI k) y
        have hn : ¬ (y = 0 ∨ y = 1 ∨ y = 2 ∨ y = 3) := by
          intro q
          refine hy ((wi_nat (lo := 0) (hi := 3) (by omega) (by omega)).mpr ?_)
          rcases q with q | q | q | q
          · exact ⟨0, by omega, by omega, q⟩
          · exact ⟨1, by omega, by omega, q⟩
          · exact ⟨2, by omega, by omega, q⟩
          · exact ⟨3, by omega, by omega, q⟩
        unfold wp_L_task
        refine (hc1 V _ hR ?_).1 hn _ ?_
        · rw [if_neg (fun q => hn (Or.inl q)), if_neg (fun q => hn (Or.inr (Or.inl q))), if_neg (fun q => hn (Or.inr (Or.inr (Or.inl q)))), if_neg (fun q => hn (Or.inr (Or.inr (Or.inr q))))]
          trivial
        · exact Or.inr ⟨rfl, hK V hR (FLx.refl V) (fun q => absurd q (by decide))⟩
      · exact hm1 V K hR (fun _ => hK _ _ (fun q => absurd q (by decide)) (hR.thr hw) (FM.thr V 2) (up2_ss _ _ _ _)) (fun q => absurd q hy)
  · refine ⟨a, 1, 0, by omega, hw, fun V K hR hK => ?_, fun V K hR hK => ?_⟩
    · exact hcN hs V K hR (hK V hR (FLx.refl V) (fun q => absurd q (by decide)))
    · exact hmN hs V K hR (hK _ _ (fun q => absurd q (by decide)) (hR.thr hw) (FM.thr V 1) (up2_ss _ _ _ _))
