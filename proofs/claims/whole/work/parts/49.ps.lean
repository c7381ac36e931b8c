theorem zs_uS {S : Nat → SA} {k : Nat} {y : SA} (hk : k < 6) : zs (uS S k y) + (S k).2.1 = zs S + y.2.1 := by
  unfold zs uS
  rcases (show k = 0 ∨ k = 1 ∨ k = 2 ∨ k = 3 ∨ k = 4 ∨ k = 5 by omega) with rfl | rfl | rfl | rfl | rfl | rfl <;> simp <;> omega
theorem event_both {a : AA} (hw : GWa (a.1 + 1) a) (x : Int32) : BothV a (fun V K => wp_L_event V K x) (fun V K => wp_X5_event V K x) := by
  obtain ⟨t, n, fd, tp, tr, S, T⟩ := a
  change GW (t + 1) t n fd tp S T at hw
  have hw' := hw
  obtain ⟨w1, w2, w3, w4, w5⟩ := hw'
  have ht3 : ∀ k, k < 6 → ((S k).1 0 3 = 0 ∨ (S k).1 0 3 = 1) := fun k hk => (w1 k hk).2.2.1
  by_cases hs : isS S x
  · obtain ⟨k, hk, rfl, h3⟩ := hs
    have hv : vp_in (nI k) 6 := vp_in_nI hk (by omega)
    have hsw := w1 k hk
    have hz32 := hsw.1
    by_cases hl : (S k).1 0 10 ≠ 0 ∨ (S k).2.1 = 32
    · have hzs := zs_uS (S := S) (y := lostA (S k)) hk
      have e13 : ∀ i, i ≠ 13 → (lostA (S k)).1 0 i = (S k).1 0 i := fun i hi => show upd ((S k).1 0) 13 ((S k).1 0 13 + 1) i = (S k).1 0 i from pk_un hi
      have hg : GW (t + 1) t n fd tp (uS S k (lostA (S k))) T := by
        refine ⟨fun j hj => ?_, w2, ?_, fun i hi => ?_, w5⟩
        · by_cases e : j = k
          · rw [e, uS_s]; exact hsw.lost
          · rw [uS_n e]; exact w1 j hj
        · change zs (uS S k (lostA (S k))) + (S k).2.1 = zs S + (S k).2.1 at hzs
          omega
        · obtain ⟨s, q, a1, a2, a3, a4, a5⟩ := w4 i hi
          by_cases e : s = k
          · subst e
            exact ⟨s, q, a1, a2, by rw [uS_s, e13 3 (by omega)]; exact a3, by rw [uS_s, e13 4 (by omega)]; exact a4, a5⟩
          · exact ⟨s, q, a1, a2, by rw [uS_n e]; exact a3, by rw [uS_n e]; exact a4, a5⟩
      refine ⟨(t, n, fd, tp, tr, uS S k (lostA (S k)), T), 0, 0, by show t ≤ t + 500; omega, hg, fun V K hR hK => ?_, fun V K hR hK => ?_⟩
      · show wp_L_event V K (nI k)
        change RC t n fd tp tr S T V at hR
        unfold wp_L_event wp_X4_event
        refine c_told hR ht3 (fun q => absurd ⟨k, hk, rfl, h3⟩ q) (fun k2 hk2 e _ => ?_)
        have := nI_inj6 hk hk2 e
        subst this
        refine c_take0 (hR.2.2.2.2.1 k hk) hz32 hl ?_
        intro V' hC hF
        rw [if_pos rfl]
        refine ⟨vp00, ?_⟩
        rintro V3 rfl
        exact hK _ (RCa.out (a := (t, n, fd, tp, tr, uS S k (lostA (S k)), T)) (RC.src hR hk hC hF)) (fun j q1 q2 => (FLx.out V' 0 j q1 q2).trans (by rw [(F8.fc hk hF) j q1])) (fun _ => up2_ss _ _ _ _)
      · show wp_X5_event V K (nI k)
        change RM t n fd tp tr S T V at hR
        unfold wp_X5_event
        refine m_isS hR ht3 (fun q => absurd ⟨k, hk, rfl, h3⟩ q) (fun k2 hk2 e _ => ?_)
        rw [if_neg (by decide)]
        unfold b_X5_event_14
        rintro V1 rfl
        have hR1 : RM t n fd tp tr S T (up2 V 60 0 0) := RMa.thr (a := (t, n, fd, tp, tr, S, T)) hR hw
        have hM := hR1.2.2.2.2.2.1 k hk
        rw [up2_ss, if_pos (by decide), nI_clamp (by omega), show up2 V 60 0 0 76 k = (S k).1 0 10 from hM.1 10 (by omega) (by omega), hM.2.2.1]
        have h46 : b_X5_event_46 K (nI k) (up2 V 60 0 0) := by
          unfold b_X5_event_46
          rw [nI_clamp (by omega), show up2 V 60 0 0 80 k = (S k).1 0 13 from hM.1 13 (by omega) (by omega)]
          refine ⟨hv, hv, ?_⟩
          rintro V2 rfl
          have hF2 : FK k (up2 V 60 0 0) (up2 (up2 V 60 0 0) 80 k ((S k).1 0 13 + 1)) := FK.up _ (by unfold own; omega)
          have hM2 : MSr (lostA (S k)) (up2 (up2 V 60 0 0) 80 k ((S k).1 0 13 + 1)) k := MSr.set (a := (S k).1 0) (q := (S k).1 1) (l := (S k).1 2) (t := (S k).1 3) (m := (S k).1 4) (z := (S k).2.1) (u := (S k).2.2.1) (p := (S k).2.2.2) hM 13 (by omega) (by omega) rfl
          refine hK _ 0 (fun _ => rfl) (RM.src hR1 (fun j hj _ => w1 j hj) hk hM2 hF2 (e13 4 (by omega))) ((FM.thr V 0).trans hF2.fm.fm) ?_
          rw [up2_n (by omega), up2_ss]
        refine ⟨hv, ?_⟩
        by_cases q0 : (S k).1 0 10 = 0
        · rw [if_pos q0]
          refine ⟨hv, ?_⟩
          rw [if_pos (keq (c := 32) (hl.resolve_left (fun q => q q0)))]
          exact h46
        · rw [if_neg q0]
          exact h46
    · have q10 : (S k).1 0 10 = 0 := Decidable.byContradiction fun q => hl (Or.inl q)
      have qz : (S k).2.1 < 32 := by
        have : (S k).2.1 ≠ 32 := fun q => hl (Or.inr q)
        omega
      have hzs := zs_uS (S := S) (y := tkA t (S k)) hk
      have hz192 := zs_le w1
      change zs (uS S k (tkA t (S k))) + (S k).2.1 = zs S + ((S k).2.1 + 1) at hzs
      have hn : n < 192 := by
        have h0 := (w1 0 (by omega)).1
        have h1 := (w1 1 (by omega)).1
        have h2 := (w1 2 (by omega)).1
        have h3 := (w1 3 (by omega)).1
        have h4 := (w1 4 (by omega)).1
        have h5 := (w1 5 (by omega)).1
        have : zs S ≤ 160 + (S k).2.1 := by
          unfold zs
          rcases (show k = 0 ∨ k = 1 ∨ k = 2 ∨ k = 3 ∨ k = 4 ∨ k = 5 by omega) with rfl | rfl | rfl | rfl | rfl | rfl <;> omega
        omega
      obtain ⟨q, co, di, bu, pe, pr, fd0, g1, g2, g3, g4, g5, g6, g7, g8, g9, g10, g11, g12, g13, g14, g15, g16, g17, g18, g19⟩ := hsw.2.2.2.2.2.1 h3
      have e34 : ∀ i, i < 10 → (tkA t (S k)).1 0 i = (S k).1 0 i := fun i hi => tkA_row i (by omega) (by omega) (by omega) (by omega)
      have hsw' : ∀ j, j < 6 → SW (t + 1) t (uS S k (tkA t (S k)) j) := by
        intro j hj
        by_cases e : j = k
        · rw [e, uS_s]; exact hsw.take h3 qz
        · rw [uS_n e]; exact w1 j hj
      have htops : ∀ i, i < n → ∃ s q : Nat, s < 6 ∧ tp i = nI s ∧ (uS S k (tkA t (S k)) s).1 0 3 = 1 ∧ (uS S k (tkA t (S k)) s).1 0 4 = nI q ∧ 1 ≤ q ∧ q ≤ 3 ∧ (i = 0 → fd < q) := by
        intro i hi
        obtain ⟨s, q, a1, a2, a3, a4, a5⟩ := w4 i hi
        by_cases e : s = k
        · subst e
          exact ⟨s, q, a1, a2, by rw [uS_s, e34 3 (by omega)]; exact a3, by rw [uS_s, e34 4 (by omega)]; exact a4, a5⟩
        · exact ⟨s, q, a1, a2, by rw [uS_n e]; exact a3, by rw [uS_n e]; exact a4, a5⟩
      -- both sides up to the top half
      have hC : ∀ (V : St) (K : Int32 → St → Prop), RC t n fd tp tr S T V → (∀ V', RC t n fd tp tr (uS S k (tkA t (S k))) T V' → FC V V' → (if q = 0 then K 1 V' else wp_X2_add V' (fun V5 => K 1 V5) 3 192 (nI k))) → ∀ X : Nat → St → Prop, wp_X4_event V K X (nI k) := by
        intro V K hR hK X
        unfold wp_X4_event
        refine c_told hR ht3 (fun q => absurd ⟨k, hk, rfl, h3⟩ q) (fun k2 hk2 e _ => ?_)
        have := nI_inj6 hk hk2 e
        subst this
        rw [hR.1]
        refine c_take1 (hR.2.2.2.2.1 k hk) qz q10 ?_
        intro V' hC hF
        have hR' := RC.src hR hk hC hF
        have h1 := hK V' hR' (F8.fc hk hF)
        rw [if_neg (by decide), show V' (12 + 8 * k) 4 = nI q from (hC.1 4 (by omega) (by omega)).trans ((e34 4 (by omega)).trans g12)]
        by_cases e : q = 0
        · rw [if_pos e] at h1
          rw [e, if_pos (by decide)]
          exact h1
        · rw [if_neg e] at h1
          rw [if_neg (nI_nle (by omega) (by omega))]
          exact h1
      have hM : ∀ (V : St) (K : Int32 → St → Prop), RM t n fd tp tr S T V → (∀ V', RM t n fd tp tr (uS S k (tkA t (S k))) T V' → FM V V' → V' 60 0 = 0 → b_X5_event_154 K (nI k) V') → wp_X5_event V K (nI k) := by
        intro V K hR hK
        unfold wp_X5_event
        refine m_isS hR ht3 (fun q => absurd ⟨k, hk, rfl, h3⟩ q) (fun k2 hk2 e _ => ?_)
        rw [if_neg (by decide)]
        unfold b_X5_event_14
        rintro V1 rfl
        have hR1 : RM t n fd tp tr S T (up2 V 60 0 0) := RMa.thr (a := (t, n, fd, tp, tr, S, T)) hR hw
        have hM := hR1.2.2.2.2.2.1 k hk
        rw [up2_ss, if_pos (by decide), nI_clamp (by omega), show up2 V 60 0 0 76 k = (S k).1 0 10 from hM.1 10 (by omega) (by omega), hM.2.2.1, if_pos q10, if_neg (kne (c := 32) (by omega) (by omega))]
        refine ⟨hv, hv, hv, ?_⟩
        have hgo : ∀ s0, s0 = (if (S k).2.1 = 0 then nI t else (S k).1 0 17) → b_X5_event_85 K (nI k) (up2 V 60 0 0) s0 (nI k) := by
          intro s0 es
          refine m_take1 hM hk qz hsw.u30 hR1.1 es ?_
          intro V' hM' hF'
          refine hK V' (RM.src hR1 (fun j hj _ => w1 j hj) hk hM' hF' (e34 4 (by omega))) ((FM.thr V 0).trans hF'.fm.fm) ?_
          rw [hF'.fm 60 0 (by omega), up2_ss]
        by_cases e : (S k).2.1 = 0
        · rw [e, if_pos nI_0, hR1.1]
          exact hgo _ (by rw [if_pos e])
        · rw [if_neg (nI_ne0 (by omega) (by omega)), hM.2.1]
          exact ⟨hv, hgo _ (by rw [if_neg e, if_neg e])⟩
      by_cases eq0 : q = 0
      · refine ⟨(t, n, fd, tp, tr, uS S k (tkA t (S k)), T), 0, 1, by show t ≤ t + 500; omega, ⟨hsw', w2, by show n ≤ zs (uS S k (tkA t (S k))); omega, htops, w5⟩, fun V K hR hK => ?_, fun V K hR hK => ?_⟩
        · show wp_L_event V K (nI k)
          unfold wp_L_event
          refine hC V _ hR (fun V' hR' hF' => ?_) _
          rw [if_pos eq0]
          refine ⟨vp00, ?_⟩
          rintro V3 rfl
          exact hK _ (RCa.out (a := (t, n, fd, tp, tr, uS S k (tkA t (S k)), T)) hR') (fun j q1 q2 => (FLx.out V' 1 j q1 q2).trans (by rw [hF' j q1])) (fun _ => up2_ss _ _ _ _)
        · refine hM V K hR (fun V' hR' hF' h0 => ?_)
          unfold b_X5_event_154
          rw [nI_clamp (by omega), show V' 62 k = nI q from ((hR'.2.2.2.2.2.1 k hk).1 4 (by omega) (by omega)).trans (by rw [uS_s]; exact (e34 4 (by omega)).trans g12), eq0, if_pos (by decide)]
          exact ⟨hv, hK V' 1 (fun _ => rfl) hR' hF' h0⟩
      · refine ⟨(t, n + 1, fd, upd tp n (nI k), tr, uS S k (tkA t (S k)), T), 0, 1, by show t ≤ t + 500; omega, ⟨hsw', w2, by show n + 1 ≤ zs (uS S k (tkA t (S k))); omega, fun i hi => ?_, fun e => absurd e (Nat.succ_ne_zero n)⟩, fun V K hR hK => ?_, fun V K hR hK => ?_⟩
        · change i < n + 1 at hi
          show ∃ s q : Nat, s < 6 ∧ upd tp n (nI k) i = nI s ∧ _
          rw [upd_at]
          by_cases e : i = n
          · rw [if_pos e]
            refine ⟨k, q, hk, rfl, ?_, ?_, by omega, g1, fun e2 => ?_⟩
            · show (uS S k (tkA t (S k)) k).1 0 3 = 1
              rw [uS_s, e34 3 (by omega)]; exact h3
            · show (uS S k (tkA t (S k)) k).1 0 4 = nI q
              rw [uS_s, e34 4 (by omega)]; exact g12
            · have := w5 (by omega)
              show fd < q
              omega
          · rw [if_neg e]
            exact htops i (by omega)
        · show wp_L_event V K (nI k)
          unfold wp_L_event
          refine hC V _ hR (fun V' hR' hF' => ?_) _
          rw [if_neg eq0]
          refine ring_add hR'.2.2.1 hn (by omega) ?_
          intro V5 hR5 hF5
          refine ⟨vp00, ?_⟩
          rintro V3 rfl
          have hRC : RC t (n + 1) fd (upd tp n (nI k)) tr (uS S k (tkA t (S k))) T V5 := by
            obtain ⟨r1, r2, r3, r4, r5, r6⟩ := hR'
            refine ⟨by rw [hF5 _ (by omega) (by omega)]; exact r1, by rw [hF5 _ (by omega) (by omega)]; exact r2, hR5, fun a b c => by rw [hF5 _ (by omega) (by omega)]; exact r4 a b c, fun j hj => (r5 j hj).fr (fun r hr => hF5 _ (by omega) (by omega)), fun j hj i hi => by rw [hF5 _ (by omega) (by omega)]; exact r6 j hj i hi⟩
          exact hK _ (RCa.out (a := (t, n + 1, fd, upd tp n (nI k), tr, uS S k (tkA t (S k)), T)) hRC) (fun j q1 q2 => (FLx.out V5 1 j q1 q2).trans (by rw [hF5 j (by omega) (by omega), hF' j q1])) (fun _ => up2_ss _ _ _ _)
        · refine hM V K hR (fun V' hR' hF' h0 => ?_)
          obtain ⟨r1, r2, r3, r4, r5, r6, r7⟩ := hR'
          have e62 : V' 62 k = nI q := ((r6 k hk).1 4 (by omega) (by omega)).trans (by rw [uS_s]; exact (e34 4 (by omega)).trans g12)
          unfold b_X5_event_154
          rw [nI_clamp (by omega), e62, r2, if_neg (nI_nle (by omega) (by omega)), nI_clamp (by omega)]
          refine ⟨hv, vp_in_nI (by omega) (by omega), ?_⟩
          rintro V1 rfl
          rw [show up2 V' 90 n (nI k) 60 31 = nI n by rw [up2_n (by omega)]; exact r2, nI_clamp (by omega), show up2 V' 90 n (nI k) 62 k = nI q by rw [up2_n (by omega)]; exact e62]
          refine ⟨hv, vp_in_nI (by omega) (by omega), ?_⟩
          rintro V2 rfl
          rw [show up2 (up2 V' 90 n (nI k)) 91 n (nI q) 60 31 = nI n by rw [up2_n (by omega), up2_n (by omega)]; exact r2, nI_1]
          rintro V3 rfl
          have htk : tpo (uS S k (tkA t (S k))) (nI k) = nI q := by
            unfold tpo
            rw [nI_clamp (by omega), uS_s]; exact (e34 4 (by omega)).trans g12
          refine hK _ 1 (fun _ => rfl) ⟨?_, ?_, fun i hi => ?_, fun i hi => ?_, fun a b c => ?_, fun j hj => (r6 j hj).fr (hsw' j hj).1 (hsw' j hj).u30 (fun a c ho => ?_), fun j hj i hi => ?_⟩ (hF'.trans (fun j hj => ?_)) ?_
          · rw [up2_sn (by omega), up2_n (by omega), up2_n (by omega)]; exact r1
          · rw [up2_ss]
          · change i < n + 1 at hi
            show up2 (up2 (up2 V' 90 n (nI k)) 91 n (nI q)) 60 31 (nI (n + 1)) 90 i = upd tp n (nI k) i
            rw [up2_n (by omega), up2_n (by omega), up2_s, upd_at, upd_at]
            by_cases e : i = n
            · rw [if_pos e, if_pos e]
            · rw [if_neg e, if_neg e]; exact r3 i (by omega)
          · change i < n + 1 at hi
            show up2 (up2 (up2 V' 90 n (nI k)) 91 n (nI q)) 60 31 (nI (n + 1)) 91 i = if i = 0 then tpo (uS S k (tkA t (S k))) (upd tp n (nI k) 0) - nI fd else tpo (uS S k (tkA t (S k))) (upd tp n (nI k) i)
            rw [up2_n (by omega), up2_s, upd_at]
            by_cases e : i = n
            · rw [if_pos e]
              by_cases e0 : i = 0
              · rw [if_pos e0, show n = 0 by omega, pk_us, htk, w5 (by omega), nI_0, Int32.sub_zero]
              · rw [if_neg e0, e, pk_us, htk]
            · rw [if_neg e, up2_n (by omega), r4 i (by omega)]
              by_cases e0 : i = 0
              · rw [if_pos e0, if_pos e0, pk_un (by omega)]
              · rw [if_neg e0, if_neg e0, pk_un e]
          · rw [up2_n (by omega), up2_n (by omega), up2_n (by omega)]; exact r5 a b c
          · unfold own at ho
            rw [up2_n (by omega), up2_n (by omega), up2_n (by omega)]
          · rw [up2_n (by omega), up2_n (by omega), up2_n (by omega)]; exact r7 j hj i hi
          · rw [up2_n (by omega), up2_n (by omega), up2_n (by omega)]
          · rw [up2_sn (by omega), up2_n (by omega), up2_n (by omega)]; exact h0
  · refine ⟨(t, n, fd, tp, tr, S, T), 1, 0, by show t ≤ t + 500; omega, hw, fun V K hR hK => ?_, fun V K hR hK => ?_⟩
    · show wp_L_event V K x
      unfold wp_L_event wp_X4_event
      refine c_told hR ht3 (fun _ => ?_) (fun k2 hk2 e h3 => absurd ⟨k2, hk2, e, h3⟩ hs)
      exact ⟨rfl, hK V hR (FLx.refl V) (fun q => absurd q (by decide))⟩
    · show wp_X5_event V K x
      unfold wp_X5_event
      refine m_isS hR ht3 (fun _ => ?_) (fun k2 hk2 e h3 => absurd ⟨k2, hk2, e, h3⟩ hs)
      rw [if_pos rfl]
      unfold b_X5_event_14
      rintro V1 rfl
      rw [up2_ss, if_neg (by decide)]
      exact hK _ _ (fun q => absurd q (by decide)) (RMa.thr (a := (t, n, fd, tp, tr, S, T)) hR hw) (FM.thr V 1) (up2_ss _ _ _ _)
/-! ticks -/
theorem tick_a {a : AA} (htt : a.1 + 1 < 2 ^ 29) (hw : GWa (a.1 + 1) a) : ∃ (a' : AA) (c : Nat), a'.1 = a.1 + 1 ∧ c < 36 ∧ GWa (a'.1 + 1) a' ∧ (∀ (V : St) (K : Int32 → St → Prop), RCa a V → (∀ V', RCa a' V' → FC V V' → K (nI c) V') → wp_X4_tick V K) ∧ (∀ (V : St) (K : Int32 → St → Prop), RMa a V → (∀ V', RMa a' V' → FM0 V V' → K (nI c) V') → wp_X5_pass V K) := by
  obtain ⟨t, n, fd, tp, tr, S, T⟩ := a
  obtain ⟨n', fd', tp', tr', S', T', c, h1, h2, h3, h4⟩ := tick_both (tr := tr) htt hw
  exact ⟨(t + 1, n', fd', tp', tr', S', T'), c, rfl, h1, h2, h3, h4⟩
theorem ticks_loop {N : Nat} (hN : N ≤ 500) : ∀ (m : Nat) (a : AA) (i : Nat) (acc : Int32), i + m = N → a.1 + m < 2 ^ 28 → GWa (a.1 + 1) a → ∃ (a' : AA) (r : Int32), a'.1 = a.1 + m ∧ GWa (a'.1 + 1) a' ∧ (∀ (V : St) (K : Int32 → St → Prop) (X : Nat → St → Prop), RCa a V → (∀ V', RCa a' V' → FC V V' → K r V') → lp (fun _ _ _ => False) (h_X4_ticks_23 K X (nI N)) (m + 1) V acc (nI i)) ∧ (∀ (V : St) (K : Int32 → St → Prop), RMa a V → V 60 0 = 0 → (∀ V', RMa a' V' → FM0 V V' → K r V') → lp (fun _ _ _ => False) (h_X5_ticks_24 K (nI N)) (m + 1) V acc (nI i))
  | 0, a, i, acc, hi, ht, hw => by
    refine ⟨a, acc, rfl, hw, fun V K X hR hK => ?_, fun V K hR h0 hK => ?_⟩
    · show h_X4_ticks_23 K X (nI N) _ V acc (nI i)
      unfold h_X4_ticks_23
      rw [if_pos (nI_le (by omega) (by omega))]
      exact hK V hR (FC.refl V)
    · show h_X5_ticks_24 K (nI N) _ V acc (nI i)
      unfold h_X5_ticks_24
      rw [if_pos (nI_le (by omega) (by omega))]
      exact hK V hR (FM0.refl V)
  | m + 1, a, i, acc, hi, ht, hw => by
    obtain ⟨a1, c, e1, hc, hw1, hC1, hM1⟩ := tick_a (a := a) (by omega) hw
    obtain ⟨a2, r, e2, hw2, hC2, hM2⟩ := ticks_loop hN m a1 (i + 1) (if c = 0 then acc else acc + 1) (by omega) (by omega) hw1
    refine ⟨a2, r, by omega, hw2, fun V K X hR hK => ?_, fun V K hR h0 hK => ?_⟩
    · show h_X4_ticks_23 K X (nI N) (lp (fun _ _ _ => False) (h_X4_ticks_23 K X (nI N)) (m + 1)) V acc (nI i)
      unfold h_X4_ticks_23
      rw [if_neg (nI_ge (by omega) (by omega)), nI_1]
      refine hC1 V _ hR (fun V' hR' hF' => ?_)
      have h := hC2 V' K X hR' (fun V2 hR2 hF2 => hK V2 hR2 (hF'.trans hF2))
      by_cases e : c = 0
      · rw [if_pos e] at h
        rw [e, if_pos nI_0]
        exact h
      · rw [if_neg e] at h
        rw [if_neg (nI_ne0 (by omega) (by omega))]
        exact h
    · show h_X5_ticks_24 K (nI N) (lp (fun _ _ _ => False) (h_X5_ticks_24 K (nI N)) (m + 1)) V acc (nI i)
      unfold h_X5_ticks_24
      rw [if_neg (nI_ge (by omega) (by omega)), h0, if_pos rfl, nI_1]
      refine hM1 V _ hR (fun V' hR' hF' => ?_)
      have h := hM2 V' K hR' (by rw [hF' 60 0 (by omega)]; exact h0) (fun V2 hR2 hF2 => hK V2 hR2 (hF'.trans hF2))
      by_cases e : c = 0
      · rw [if_pos e] at h
        rw [e, if_pos (by decide)]
        exact h
      · rw [if_neg e] at h
        rw [if_neg (nI_nle (by omega) (by omega))]
        rintro x3 rfl
        exact h
theorem ticks_both {a : AA} (htt : a.1 < 2 ^ 27) (hw : GWa (a.1 + 1) a) (x : Int32) : BothV a (fun V K => wp_L_ticks V K x) (fun V K => wp_X5_ticks V K x) := by
  by_cases hs : ¬ x < 0 ∧ ¬ (500 : Int32) < x
  · obtain ⟨N, -, hN, rfl⟩ := (wi_nat (lo := 0) (hi := 500) (by omega) (by omega)).mp hs
    obtain ⟨a', r, e1, hw1, hC, hM⟩ := ticks_loop hN N a 0 0 (by omega) (by omega) hw
    refine ⟨a', 0, r, by omega, hw1, fun V K hR hK => ?_, fun V K hR hK => ?_⟩
    · show wp_L_ticks V K (nI N)
      unfold wp_L_ticks wp_X4_ticks
      refine c_within (fun q => absurd hs q) (fun _ => ?_)
      rw [if_neg (by decide)]
      refine ⟨N + 1, hC V _ _ hR (fun V' hR' hF' => ⟨vp00, ?_⟩)⟩
      rintro V3 rfl
      exact hK _ hR'.out (fun j q1 q2 => (FLx.out V' r j q1 q2).trans (by rw [hF' j q1])) (fun _ => up2_ss _ _ _ _)
    · show wp_X5_ticks V K (nI N)
      unfold wp_X5_ticks
      refine m_within (fun q => absurd hs q) (fun _ => ?_)
      rw [if_neg (by decide)]
      unfold b_X5_ticks_17
      rintro V1 rfl
      refine ⟨N + 1, hM (up2 V 60 0 0) K (hR.thr hw) (up2_ss _ _ _ _) (fun V' hR' hF' => ?_)⟩
      exact hK V' r (fun _ => rfl) hR' ((FM.thr V 0).trans hF'.fm) (by rw [hF' 60 0 (by omega), up2_ss])
  · refine ⟨a, 1, 0, by omega, hw, fun V K hR hK => ?_, fun V K hR hK => ?_⟩
    · show wp_L_ticks V K x
      unfold wp_L_ticks wp_X4_ticks
      refine c_within (fun _ => ?_) (fun q => absurd q hs)
      rw [if_pos rfl]
      exact ⟨rfl, hK V hR (FLx.refl V) (fun q => absurd q (by decide))⟩
    · show wp_X5_ticks V K x
      unfold wp_X5_ticks
      refine m_within (fun _ => ?_) (fun q => absurd q hs)
      rw [if_pos rfl]
      unfold b_X5_ticks_17
      rintro V1 rfl
      refine ⟨1, ?_⟩
      show h_X5_ticks_24 K x _ (up2 V 60 0 1) 0 0
      have hend := hK (up2 V 60 0 1) 0 (fun q => absurd q (by decide)) (hR.thr hw) (FM.thr V 1) (up2_ss _ _ _ _)
      unfold h_X5_ticks_24
      by_cases c : x ≤ 0
      · rw [if_pos c]; exact hend
      · rw [if_neg c, up2_ss, if_neg (by decide)]; exact hend
