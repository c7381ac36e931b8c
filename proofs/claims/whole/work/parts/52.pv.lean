def BothS (a : AA) (wC : St → (Int32 → St → Prop) → Prop) (wM : St → (St → Prop) → Prop) : Prop := ∃ (a' : AA) (c : Int32), a'.1 ≤ a.1 + 500 ∧ GWa (a'.1 + 1) a' ∧ (∀ (V : St) (K : Int32 → St → Prop), RCa a V → (∀ V', RCa a' V' → FLx V V' → K c V') → wC V K) ∧ (∀ (V : St) (K : St → Prop), RMa a V → (∀ V', RMa a' V' → FM V V' → V' 60 0 = c → K V') → wM V K)
theorem source_both {a : AA} (hw : GWa (a.1 + 1) a) (a1 a2 a3 a4 a5 a6 a7 : Int32) : BothS a (fun V K => wp_L_source V K a1 a2 a3 a4 a5 a6 a7) (fun V K => wp_X5_source V K a1 a2 a3 a4 a5 a6 a7) := by
  obtain ⟨t, n, fd, tp, tr, S, T⟩ := a
  change GW (t + 1) t n fd tp S T at hw
  have hw' := hw
  obtain ⟨w1, w2, w3, w4, w5⟩ := hw'
  have hle : t ≤ t + 500 := by omega
  have ht3 : ∀ k, k < 6 → ((S k).1 0 3 = 0 ∨ (S k).1 0 3 = 1) := fun k hk => (w1 k hk).2.2.1
  by_cases hi : ¬ a1 < 0 ∧ ¬ (5 : Int32) < a1
  · obtain ⟨k, hk, rfl⟩ := ix6.mp hi
    have hv : vp_in (nI k) 6 := vp_in_nI hk (by omega)
    by_cases hp : sW a2 a3 a4 a5 a6 a7
    · have hp' := hp
      obtain ⟨p2, p3, p4, p5, p6, p7⟩ := hp'
      have hcp : ∀ (V : St) (K : St → Prop) (X : Nat → St → Prop), RC t n fd tp tr S T V → ((S k).1 0 3 = 1 → X 3 V) → ((S k).1 0 3 = 0 → wp_X4_sourceHasPriority V (fun (r16 : Int32) (V17 : St) => if r16 = 0 then (wp_X3_tell V17 (fun (V18 : St) => wp_X4_tasksAdmitted V18 (fun (r19 : Int32) (V20 : St) => if r19 = 0 then (((0 : Int32) = 0 ∨ (0 : Int32) = 1) ∧ ∀ V22 : St, V22 = up2 V20 (12 + 8 * k) 3 (0 : Int32) → X 3 V22) else (wp_X3_fillBudget V20 (fun (V21 : St) => K V21) (12 + 8 * k)))) (12 + 8 * k) a2 a3 a4 a5 a6 a7) else (X 3 V17)) a7) → wp_X4_source V K X (nI k) a2 a3 a4 a5 a6 a7 := by
        intro V K X hR hK1 hK0
        unfold wp_X4_source
        refine c_within (fun q => absurd hi q) (fun _ => ?_)
        rw [if_neg (by decide)]
        refine c_within (fun q => absurd p2 q) (fun _ => ?_)
        rw [if_neg (by decide)]
        refine c_within (fun q => absurd p3 q) (fun _ => ?_)
        rw [if_neg (by decide)]
        refine c_within (fun q => absurd p4 q) (fun _ => ?_)
        rw [if_neg (by decide)]
        refine c_within (fun q => absurd p5 q) (fun _ => ?_)
        rw [if_neg (by decide)]
        refine c_within (fun q => absurd p6 q) (fun _ => ?_)
        rw [if_neg (by decide)]
        refine c_within (fun q => absurd p7 q) (fun _ => ?_)
        rw [if_neg (by decide)]
        refine ⟨k, hk, rfl, ?_⟩
        rw [(hR.2.2.2.2.1 k hk).1 3 (by omega) (by omega)]
        rcases ht3 k hk with q | q
        · rw [if_pos q]; exact hK0 q
        · rw [if_neg (by rw [q]; decide)]; exact hK1 q
      have hmp : ∀ (V : St) (K : St → Prop), RM t n fd tp tr S T V → ((S k).1 0 3 = 0 → ∃ n, lp (fun _ _ => False) (h_X5_source_115 K (nI k) a2 a3 a4 a5 a6 a7) n (up2 V 60 0 0) (0 : Int32)) → ((S k).1 0 3 = 1 → ∃ n, lp (fun _ _ => False) (h_X5_source_115 K (nI k) a2 a3 a4 a5 a6 a7) n (up2 V 60 0 3) (0 : Int32)) → wp_X5_source V K (nI k) a2 a3 a4 a5 a6 a7 := by
        intro V K hR hK0 hK1
        refine m_s70 (fun _ => ?_) (fun q => absurd hp q)
        unfold b_X5_source_70
        refine m_within (fun q => absurd hi q) (fun _ => ?_)
        rw [if_neg (by decide), if_neg (by decide), nI_clamp (by omega), show V 61 k = (S k).1 0 3 from (hR.2.2.2.2.2.1 k hk).1 3 (by omega) (by omega)]
        refine ⟨hv, ?_⟩
        rcases ht3 k hk with q | q
        · rw [if_pos q]
          rintro V1 rfl
          exact hK0 q
        · rw [if_neg (by rw [q]; decide)]
          rintro V1 rfl
          exact hK1 q
      by_cases hb : (S k).1 0 3 = 1 ∨ pmS S a7
      · refine ⟨(t, n, fd, tp, tr, S, T), 3, hle, hw, fun V K hR hK => ?_, fun V K hR hK => ?_⟩
        · show wp_L_source V K (nI k) a2 a3 a4 a5 a6 a7
          unfold wp_L_source
          have hend := hK V hR (FLx.refl V)
          refine hcp V _ _ hR (fun _ => Or.inr (Or.inr ⟨rfl, hend⟩)) (fun q => ?_)
          refine c_sHP hR ht3 (fun q2 => absurd (hb.resolve_left (fun e => absurd (q.symm.trans e) (by decide))) q2) (fun _ => ?_)
          rw [if_neg (by decide)]
          exact Or.inr (Or.inr ⟨rfl, hend⟩)
        · refine hmp V _ hR (fun q => ?_) (fun q => ?_)
          · refine m_sT hw (RMa.thr (a := (t, n, fd, tp, tr, S, T)) hR hw) (up2_ss _ _ _ _) (fun _ V' hR' hF' e3 => ?_) (fun q2 => absurd (hb.resolve_left (fun e => absurd (q.symm.trans e) (by decide))) q2)
            unfold b_X5_source_166
            rw [e3, if_neg (by decide)]
            exact hK V' hR' ((FM.thr V 0).trans hF') e3
          · exact m_sX (up2_ss _ _ _ _) (by decide) (by decide) (hK _ (RMa.thr (a := (t, n, fd, tp, tr, S, T)) hR hw) (FM.thr V 3) (up2_ss _ _ _ _))
      · have q0 : (S k).1 0 3 = 0 := (ht3 k hk).resolve_right (fun e => hb (Or.inl e))
        have qp : ¬ pmS S a7 := fun e => hb (Or.inr e)
        have hsw := w1 k hk
        obtain ⟨z0, u0, p0, f0⟩ := hsw.2.2.2.2.1 q0
        have hx2 : (S k).2 = (0, 0, 0) := Prod.ext z0 (Prod.ext u0 p0)
        obtain ⟨N, N1, N30, rfl⟩ := (wi_nat (lo := 1) (hi := 30) (by omega) (by omega)).mp p5
        generalize hy : ((mkS (sF ((S k).1 0) a2 a3 a4 (nI N) a6 a7) ((S k).1 1) ((S k).1 2) ((S k).1 3) ((S k).1 4), 0, 0, 0) : SA) = y
        have hypw : PW y := by rw [← hy]; exact sF_PW hp
        have hpw : ∀ j, j < 6 → PW (uS S k y j) := by
          intro j hj
          by_cases e : j = k
          · rw [e, uS_s]; exact hypw
          · rw [uS_n e]; exact (w1 j hj).pw
        have hsne : ∀ i, i < n → ∀ s, tp i = nI s → s < 6 → (S s).1 0 3 = 1 → s ≠ k := by
          rintro i hi s e1 e2 e3 rfl
          exact absurd (q0.symm.trans e3) (by decide)
        have htp1 : ∀ i, i < n → tpo (uS S k y) (tp i) = tpo S (tp i) := by
          intro i hi
          obtain ⟨s, q, b1, b2, b3, b4, b5⟩ := w4 i hi
          have hne := hsne i hi s b2 b1 b3
          unfold tpo
          rw [b2, nI_clamp (by omega), uS_n hne]
        have htp2 : ∀ y2, ∀ i, i < n → tpo (uS (uS S k y) k y2) (tp i) = tpo (uS S k y) (tp i) := by
          intro y2 i hi
          obtain ⟨s, q, b1, b2, b3, b4, b5⟩ := w4 i hi
          have hne := hsne i hi s b2 b1 b3
          unfold tpo
          rw [b2, nI_clamp (by omega), uS_n hne]
        have hgw : ∀ y2, y2.2.1 = 0 → SW (t + 1) t y2 → GW (t + 1) t n fd tp (uS (uS S k y) k y2) T := by
          intro y2 e2 hs2
          refine ⟨fun j hj => ?_, w2, ?_, fun i hi => ?_, w5⟩
          · by_cases e : j = k
            · rw [e, uS_s]; exact hs2
            · rw [uS_n e, uS_n e]; exact w1 j hj
          · have h1 := zs_uS (S := S) (k := k) (y := y) hk
            have h2 := zs_uS (S := uS S k y) (k := k) (y := y2) hk
            rw [uS_s] at h2
            have hy0 : y.2.1 = 0 := by rw [← hy]
            omega
          · obtain ⟨s, q, b1, b2, b3, b4, b5⟩ := w4 i hi
            have hne := hsne i hi s b2 b1 b3
            exact ⟨s, q, b1, b2, by rw [uS_n hne, uS_n hne]; exact b3, by rw [uS_n hne, uS_n hne]; exact b4, b5⟩
        -- the component, up to the question whether all are admitted
        have hC : ∀ (V : St) (K : St → Prop) (X : Nat → St → Prop), RC t n fd tp tr S T V → (∀ V', CS y V' (12 + 8 * k) → RC t n fd tp tr (uS S k y) T V' → FC V V' → (if adB (uS S k y) T 6 = true then wp_X3_fillBudget V' (fun V21 => K V21) (12 + 8 * k) else X 3 (up2 V' (12 + 8 * k) 3 0))) → wp_X4_source V K X (nI k) a2 a3 a4 (nI N) a6 a7 := by
          intro V K X hR hK
          refine hcp V K X hR (fun q => absurd (q0.symm.trans q) (by decide)) (fun _ => ?_)
          refine c_sHP hR ht3 (fun _ => ?_) (fun q => absurd q qp)
          rw [if_pos rfl]
          unfold wp_X3_tell
          refine ⟨Or.inr rfl, ?_⟩
          rintro V1 rfl V2 rfl V3 rfl V4 rfl V5 rfl V6 rfl V7 rfl
          have h0 : CS (mkS ((S k).1 0) ((S k).1 1) ((S k).1 2) ((S k).1 3) ((S k).1 4), (S k).2) V (12 + 8 * k) := hR.2.2.2.2.1 k hk
          rw [hx2] at h0
          have h7 := CS.set (CS.set (CS.set (CS.set (CS.set (CS.set (CS.set h0 3 (rfl : (1 : Int32) = 1)) 4 (rfl : a2 = a2)) 5 (rfl : a3 = a3)) 6 (rfl : a4 = a4)) 7 (rfl : nI N = nI N)) 8 (rfl : a6 = a6)) 9 (rfl : a7 = a7)
          generalize hV7 : up2 (up2 (up2 (up2 (up2 (up2 (up2 V (12 + 8 * k) 3 1) (12 + 8 * k) 4 a2) (12 + 8 * k) 5 a3) (12 + 8 * k) 6 a4) (12 + 8 * k) 7 (nI N)) (12 + 8 * k) 8 a6) (12 + 8 * k) 9 a7 = V7 at h7 ⊢
          have hC7 : CS y V7 (12 + 8 * k) := by rw [← hy]; exact h7
          have hF7 : F8 (12 + 8 * k) V V7 := fun j hj => by rw [← hV7, up2_n (by omega), up2_n (by omega), up2_n (by omega), up2_n (by omega), up2_n (by omega), up2_n (by omega), up2_n (by omega)]
          have hR7 := RC.src hR hk hC7 hF7
          have hend := hK V7 hC7 hR7 (F8.fc hk hF7)
          refine c_adm hR7 hpw w2 ?_
          by_cases ha : adB (uS S k y) T 6 = true
          · rw [if_pos ha] at hend
            rw [if_pos ha, if_neg (by decide)]
            exact hend
          · rw [if_neg ha] at hend
            rw [if_neg ha, if_pos rfl]
            refine ⟨Or.inl rfl, ?_⟩
            rintro V22 rfl
            exact hend
        -- the model, up to there
        have hM : ∀ (V : St) (K : St → Prop), RM t n fd tp tr S T V → (∀ V', MSr y V' k → (∀ j, j < 30 → V' 72 (30 * k + j) = 0) → RM t n fd tp tr (uS S k y) T V' → FM V V' → V' 60 0 = 0 → (if adB (uS S k y) T 6 = true then K (up2 (up2 V' 61 k 1) 60 0 0) else K (up2 (up2 V' 61 k 0) 60 0 3))) → wp_X5_source V K (nI k) a2 a3 a4 (nI N) a6 a7 := by
          intro V K hR hK
          refine hmp V K hR (fun _ => ?_) (fun q => absurd (q0.symm.trans q) (by decide))
          refine m_sT hw (RMa.thr (a := (t, n, fd, tp, tr, S, T)) hR hw) (up2_ss _ _ _ _) (fun q2 => absurd q2 qp) (fun _ V' hR' hF' e0 => ?_)
          have hFV : FM V V' := (FM.thr V 0).trans hF'
          unfold b_X5_source_166
          rw [e0, if_pos (by decide), nI_clamp (by omega)]
          refine ⟨hv, Or.inr rfl, ?_⟩
          rintro V1 rfl
          refine ⟨hv, ?_⟩
          rintro V2 rfl
          refine ⟨hv, ?_⟩
          rintro V3 rfl
          refine ⟨hv, ?_⟩
          rintro V4 rfl
          refine ⟨hv, ?_⟩
          rintro V5 rfl
          refine ⟨hv, ?_⟩
          rintro V6 rfl
          refine ⟨hv, ?_⟩
          rintro V7 rfl
          have h0 : MSr (mkS ((S k).1 0) ((S k).1 1) ((S k).1 2) ((S k).1 3) ((S k).1 4), (S k).2) V' k := hR'.2.2.2.2.2.1 k hk
          rw [hx2] at h0
          have h7 : MSr (mkS (sF ((S k).1 0) a2 a3 a4 (nI N) a6 a7) ((S k).1 1) ((S k).1 2) ((S k).1 3) ((S k).1 4), 0, 0, 0) (up2 (up2 (up2 (up2 (up2 (up2 (up2 V' 61 k 1) 62 k a2) 63 k a3) 64 k a4) 65 k (nI N)) 66 k a6) 67 k a7) k := MSr.set (MSr.set (MSr.set (MSr.set (MSr.set (MSr.set (MSr.set h0 3 (by omega) (by omega) (rfl : (1 : Int32) = 1)) 4 (by omega) (by omega) (rfl : a2 = a2)) 5 (by omega) (by omega) (rfl : a3 = a3)) 6 (by omega) (by omega) (rfl : a4 = a4)) 7 (by omega) (by omega) (rfl : nI N = nI N)) 8 (by omega) (by omega) (rfl : a6 = a6)) 9 (by omega) (by omega) (rfl : a7 = a7)
          have hF7 : FK k V' (up2 (up2 (up2 (up2 (up2 (up2 (up2 V' 61 k 1) 62 k a2) 63 k a3) 64 k a4) 65 k (nI N)) 66 k a6) 67 k a7) := ((((((FK.up _ (by unfold own; omega)).trans (FK.up _ (by unfold own; omega))).trans (FK.up _ (by unfold own; omega))).trans (FK.up _ (by unfold own; omega))).trans (FK.up _ (by unfold own; omega))).trans (FK.up _ (by unfold own; omega))).trans (FK.up _ (by unfold own; omega))
          generalize up2 (up2 (up2 (up2 (up2 (up2 (up2 V' 61 k 1) 62 k a2) 63 k a3) 64 k a4) 65 k (nI N)) 66 k a6) 67 k a7 = V7 at h7 hF7 ⊢
          have hM7 : MSr y V7 k := by rw [← hy]; exact h7
          refine ⟨30 + 1, lp_up (fun i (r : St → Int32 → Prop) => ∀ V2 : St, MSr y V2 k → FK k V' V2 → (∀ j, j < i → V2 72 (30 * k + j) = 0) → r V2 (nI i)) 30 ?_ ?_ 30 0 rfl V7 hM7 hF7 (fun j hj => absurd hj (Nat.not_lt_zero j))⟩
          · intro r V2 hM2 hF2 hz2
            have hR2 := RM.srcG hR' (fun j hj _ => w1 j hj) hk hM2 hF2 htp1
            have e02 : V2 60 0 = 0 := by rw [hF2.fm 60 0 (by omega)]; exact e0
            have hend := hK V2 hM2 hz2 hR2 (hFV.trans hF2.fm.fm) e02
            unfold h_X5_source_230
            rw [if_pos (by decide)]
            refine m_adm hR2 hpw w2 ?_
            by_cases ha : adB (uS S k y) T 6 = true
            · rw [if_pos ha] at hend ⊢
              refine ⟨hv, Or.inr rfl, ?_⟩
              rintro V3 rfl
              rw [nI_clamp (by omega), up2_ss, if_neg (by decide)]
              refine ⟨hv, ?_⟩
              rintro V5 rfl
              exact hend
            · rw [if_neg ha] at hend ⊢
              refine ⟨hv, Or.inl rfl, ?_⟩
              rintro V3 rfl
              rw [nI_clamp (by omega), up2_ss, if_pos rfl]
              refine ⟨hv, ?_⟩
              rintro V5 rfl
              exact hend
          · intro i hi r hr V2 hM2 hF2 hz2
            unfold h_X5_source_230
            rw [if_neg (cnle (c := 30) hi), ix30, nI_clamp (by omega), nI_1]
            refine ⟨vp_in_nI (by omega) (by omega), ?_⟩
            rintro V6 rfl
            refine hr _ ?_ (hF2.trans (FK.up _ (by unfold own; omega))) (fun j hj => ?_)
            · obtain ⟨m1, m2, m3, m4, m5, m6, m7, m8⟩ := hM2
              have hyu : y.2.2.1 = 0 := by rw [← hy]
              refine ⟨M0.fr (a := y.1 0) m1 (fun j _ _ _ _ _ _ _ _ _ => by rw [up2_n (by omega)]), ?_, ?_, ?_, fun j hj => ?_, fun j hj => absurd hj (by omega), fun j hj => ?_, fun j hj => ?_⟩
              · rw [up2_n (by omega)]; exact m2
              · rw [up2_n (by omega)]; exact m3
              · rw [up2_n (by omega)]; exact m4
              · rw [up2_n (by omega)]; exact m5 j hj
              · rw [up2_n (by omega)]; exact m7 j hj
              · rw [up2_n (by omega)]; exact m8 j hj
            · rw [up2_at]
              by_cases e : j = i
              · rw [if_pos ⟨rfl, by omega⟩]
              · rw [if_neg (by omega)]; exact hz2 j (by omega)
        by_cases ha : adB (uS S k y) T 6 = true
        · have hsw1 := sF_SW1 (N := N) (a2 := a2) (a3 := a3) (a4 := a4) (a6 := a6) (a7 := a7) hsw q0 N30 hp
          refine ⟨(t, n, fd, tp, tr, uS (uS S k y) k (mkS (sF ((S k).1 0) a2 a3 a4 (nI N) a6 a7) ((S k).1 1) (flA ((S k).1 2) 0 0) ((S k).1 3) ((S k).1 4), 0, 0 + N, 0), T), 0, hle, hgw _ rfl hsw1, fun V K hR hK => ?_, fun V K hR hK => ?_⟩
          · show wp_L_source V K (nI k) a2 a3 a4 (nI N) a6 a7
            unfold wp_L_source
            refine hC V _ _ hR (fun V' hCy hR' hF' => ?_)
            rw [if_pos ha]
            rw [← hy] at hCy
            refine c_fillB hCy sF_7 N30 ?_
            intro V2 hC2 hF2
            have hR2 := RC.src hR' hk hC2 hF2
            refine hK V2 hR2 (fun j q1 q2 => ?_)
            rw [(F8.fc hk hF2) j q1, hF' j q1]
          · show wp_X5_source V K (nI k) a2 a3 a4 (nI N) a6 a7
            refine hM V _ hR (fun V' hMy hz hR' hF' e0 => ?_)
            rw [if_pos ha]
            rw [← hy] at hMy
            obtain ⟨m1, m2, m3, m4, m5, m6, m7, m8⟩ := hMy
            have hM1 : MSr (mkS (sF ((S k).1 0) a2 a3 a4 (nI N) a6 a7) ((S k).1 1) (flA ((S k).1 2) 0 0) ((S k).1 3) ((S k).1 4), 0, 0 + N, 0) (up2 V' 61 k 1) k := by
              have hms : M0 (sF ((S k).1 0) a2 a3 a4 (nI N) a6 a7) V' k := m1
              refine ⟨(M0.set hms 3 (by omega) (by omega) (rfl : (1 : Int32) = 1)).cong (fun i _ => ?_), ?_, ?_, ?_, fun i hi => absurd hi (Nat.not_lt_zero i), fun i hi => ?_, fun i hi => ?_, fun i hi => ?_⟩
              · rw [upd_at]
                split
                · rename_i e
                  rw [e]
                  show (1 : Int32) = sF ((S k).1 0) a2 a3 a4 (nI N) a6 a7 3
                  exact sF_3.symm
                · rfl
              · rw [up2_n (by omega)]; exact m2
              · rw [up2_n (by omega)]; exact m3
              · rw [up2_n (by omega)]; exact m4
              · change i < 0 + N at hi
                rw [up2_n (by omega), hz i (by omega)]
                show 0 = flA ((S k).1 2) 0 0 i
                unfold flA
                rw [if_neg (Nat.not_lt_zero i)]
              · rw [up2_n (by omega)]; exact m7 i hi
              · rw [up2_n (by omega)]; exact m8 i hi
            have hR1 := RM.srcG hR' (fun j hj e => by rw [uS_n e]; exact w1 j hj) hk hM1 (FK.up V' (by unfold own; omega)) (htp2 _)
            exact hK _ (RMa.thr (lo := t + 1) (a := (t, n, fd, tp, tr, uS (uS S k y) k (mkS (sF ((S k).1 0) a2 a3 a4 (nI N) a6 a7) ((S k).1 1) (flA ((S k).1 2) 0 0) ((S k).1 3) ((S k).1 4), 0, 0 + N, 0), T)) hR1 (hgw _ rfl hsw1)) ((hF'.trans (fun j hj => up2_n (by omega))).trans (FM.thr _ 0)) (up2_ss _ _ _ _)
        · have hsw0 := sF_SW0 (a2 := a2) (a3 := a3) (a4 := a4) (a5 := nI N) (a6 := a6) (a7 := a7) hsw q0
          refine ⟨(t, n, fd, tp, tr, uS (uS S k y) k (mkS (upd (sF ((S k).1 0) a2 a3 a4 (nI N) a6 a7) 3 0) ((S k).1 1) ((S k).1 2) ((S k).1 3) ((S k).1 4), 0, 0, 0), T), 3, hle, hgw _ rfl hsw0, fun V K hR hK => ?_, fun V K hR hK => ?_⟩
          · show wp_L_source V K (nI k) a2 a3 a4 (nI N) a6 a7
            unfold wp_L_source
            refine hC V _ _ hR (fun V' hCy hR' hF' => ?_)
            rw [if_neg ha]
            rw [← hy] at hCy
            have hC2 := CS.set hCy 3 (rfl : (0 : Int32) = 0)
            have hF2 : F8 (12 + 8 * k) V' (up2 V' (12 + 8 * k) 3 0) := fun j hj => up2_n (by omega)
            have hR2 := RC.src hR' hk hC2 hF2
            refine Or.inr (Or.inr ⟨rfl, hK _ hR2 (fun j q1 q2 => ?_)⟩)
            rw [(F8.fc hk hF2) j q1, hF' j q1]
          · show wp_X5_source V K (nI k) a2 a3 a4 (nI N) a6 a7
            refine hM V _ hR (fun V' hMy hz hR' hF' e0 => ?_)
            rw [if_neg ha]
            rw [← hy] at hMy
            have hM1 := MSr.set hMy 3 (by omega) (by omega) (rfl : (0 : Int32) = 0)
            have hR1 := RM.srcG hR' (fun j hj e => by rw [uS_n e]; exact w1 j hj) hk hM1 (FK.up V' (own_mm (by omega) (by omega))) (htp2 _)
            exact hK _ (RMa.thr (lo := t + 1) (a := (t, n, fd, tp, tr, uS (uS S k y) k (mkS (upd (sF ((S k).1 0) a2 a3 a4 (nI N) a6 a7) 3 0) ((S k).1 1) ((S k).1 2) ((S k).1 3) ((S k).1 4), 0, 0, 0), T)) hR1 (hgw _ rfl hsw0)) ((hF'.trans (fun j hj => up2_n (by omega))).trans (FM.thr _ 3)) (up2_ss _ _ _ _)
    · refine ⟨(t, n, fd, tp, tr, S, T), 2, hle, hw, fun V K hR hK => ?_, fun V K hR hK => ?_⟩
      · show wp_L_source V K (nI k) a2 a3 a4 a5 a6 a7
        have hend := hK V hR (FLx.refl V)
        unfold wp_L_source wp_X4_source
        refine c_within (fun q => absurd hi q) (fun _ => ?_)
        rw [if_neg (by decide)]
        refine c_within (fun q => ?_) (fun p2 => ?_)
        · rw [if_pos rfl]; exact Or.inr (Or.inl ⟨rfl, hend⟩)
        rw [if_neg (by decide)]
        refine c_within (fun q => ?_) (fun p3 => ?_)
        · rw [if_pos rfl]; exact Or.inr (Or.inl ⟨rfl, hend⟩)
        rw [if_neg (by decide)]
        refine c_within (fun q => ?_) (fun p4 => ?_)
        · rw [if_pos rfl]; exact Or.inr (Or.inl ⟨rfl, hend⟩)
        rw [if_neg (by decide)]
        refine c_within (fun q => ?_) (fun p5 => ?_)
        · rw [if_pos rfl]; exact Or.inr (Or.inl ⟨rfl, hend⟩)
        rw [if_neg (by decide)]
        refine c_within (fun q => ?_) (fun p6 => ?_)
        · rw [if_pos rfl]; exact Or.inr (Or.inl ⟨rfl, hend⟩)
        rw [if_neg (by decide)]
        refine c_within (fun q => ?_) (fun p7 => absurd ⟨p2, p3, p4, p5, p6, p7⟩ hp)
        rw [if_pos rfl]; exact Or.inr (Or.inl ⟨rfl, hend⟩)
      · show wp_X5_source V K (nI k) a2 a3 a4 a5 a6 a7
        refine m_s70 (fun q => absurd q hp) (fun _ => ?_)
        unfold b_X5_source_70
        refine m_within (fun q => absurd hi q) (fun _ => ?_)
        rw [if_neg (by decide), if_pos rfl]
        rintro V5 rfl
        exact m_sX (up2_ss _ _ _ _) (by decide) (by decide) (hK _ (RMa.thr (a := (t, n, fd, tp, tr, S, T)) hR hw) (FM.thr V 2) (up2_ss _ _ _ _))
  · refine ⟨(t, n, fd, tp, tr, S, T), 1, hle, hw, fun V K hR hK => ?_, fun V K hR hK => ?_⟩
    · show wp_L_source V K a1 a2 a3 a4 a5 a6 a7
      unfold wp_L_source wp_X4_source
      refine c_within (fun _ => ?_) (fun q => absurd q hi)
      rw [if_pos rfl]
      exact Or.inl ⟨rfl, hK V hR (FLx.refl V)⟩
    · show wp_X5_source V K a1 a2 a3 a4 a5 a6 a7
      have h70 : ∀ s0, b_X5_source_70 K a1 a2 a3 a4 a5 a6 a7 V s0 := by
        intro s0
        unfold b_X5_source_70
        refine m_within (fun _ => ?_) (fun q => absurd q hi)
        rw [if_pos rfl]
        rintro V5 rfl
        exact m_sX (up2_ss _ _ _ _) (by decide) (by decide) (hK _ (RMa.thr (a := (t, n, fd, tp, tr, S, T)) hR hw) (FM.thr V 1) (up2_ss _ _ _ _))
      exact m_s70 (fun _ => h70 1) (fun _ => h70 0)
