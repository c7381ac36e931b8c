def gbS (t : Int32) (S : Nat → SA) (i : Nat) : Nat → SA := fun k => if k < i ∧ (S k).1 0 3 = 1 then gbA t (S k) else S k
theorem gbS_told {t : Int32} {S : Nat → SA} {i : Nat} (h : (S i).1 0 3 = 1) : gbS t S (i + 1) = uS (gbS t S i) i (gbA t (S i)) := by
  funext k
  by_cases e : k = i
  · rw [e, uS_s]
    exact if_pos ⟨by omega, h⟩
  · rw [uS_n e]
    unfold gbS
    by_cases q : k < i ∧ (S k).1 0 3 = 1
    · rw [if_pos q, if_pos ⟨by omega, q.2⟩]
    · rw [if_neg q, if_neg (fun q2 => q ⟨by omega, q2.2⟩)]
theorem gbS_not {t : Int32} {S : Nat → SA} {i : Nat} (h : (S i).1 0 3 = 0) : gbS t S (i + 1) = gbS t S i := by
  funext k
  unfold gbS
  by_cases e : k = i
  · subst e
    rw [if_neg (fun q => absurd (h.symm.trans q.2) (by decide)), if_neg (fun q => absurd q.1 (by omega))]
  · by_cases q : k < i ∧ (S k).1 0 3 = 1
    · rw [if_pos q, if_pos ⟨by omega, q.2⟩]
    · rw [if_neg q, if_neg (fun q2 => q ⟨by omega, q2.2⟩)]
theorem gbS_0 (t : Int32) (S : Nat → SA) : gbS t S 0 = S := by
  funext k
  exact if_neg (fun q => absurd q.1 (Nat.not_lt_zero k))
theorem gbS_at {t : Int32} {S : Nat → SA} {i : Nat} : gbS t S i i = S i := if_neg (fun q => absurd q.1 (by omega))
theorem c_giveBack {t n fd : Nat} {tp tr : Nat → Int32} {S : Nat → SA} {T V : St} {K : St → Prop} (h : RC t n fd tp tr S T V) (hw : ∀ k, k < 6 → SW t t (S k)) (hK : ∀ V', RC t n fd tp tr (gbS (nI t) S 6) T V' → FC V V' → K V') : wp_X4_giveBack V K := by
  unfold wp_X4_giveBack
  refine ⟨6 + 1, lp_up (fun i (r : St → Int32 → Prop) => ∀ V' : St, RC t n fd tp tr (gbS (nI t) S i) T V' → FC V V' → r V' (nI i)) 6 ?_ ?_ 6 0 rfl V (by rw [gbS_0]; exact h) (FC.refl V)⟩
  · intro r V' hR hF
    unfold h_X4_giveBack_2
    rw [if_pos l6]
    exact hK V' hR hF
  · intro i hi r hr V' hR hF
    have hC := hR.2.2.2.2.1 i hi
    rw [gbS_at] at hC
    unfold h_X4_giveBack_2
    rw [if_neg (i6 hi), nI_1]
    refine ⟨i, hi, rfl, ?_⟩
    rw [hC.1 3 (by omega) (by omega), hR.1]
    rcases (hw i hi).2.2.1 with h3 | h3
    · rw [if_pos h3]
      refine hr V' ?_ hF
      rw [gbS_not h3]
      exact hR
    · rw [if_neg (by rw [h3]; decide)]
      refine ⟨i, hi, rfl, ?_⟩
      obtain ⟨b1, b2, b3, b4⟩ := (hw i hi).told h3
      refine c_gb hC b1 b2 b4 ?_
      intro V2 hC2 hF2
      refine hr V2 ?_ (hF.trans (F8.fc hi hF2))
      rw [gbS_told h3]
      exact RC.src hR hi hC2 hF2
theorem SW.gbx {t : Nat} {S : Nat → SA} (ht : t < 2 ^ 30) (hw : ∀ k, k < 6 → SW t t (S k)) {k : Nat} (hk : k < 6) : SW (t + 1) t (gbS (nI t) S 6 k) := by
  unfold gbS
  rcases (hw k hk).2.2.1 with h3 | h3
  · rw [if_neg (fun q => absurd (h3.symm.trans q.2) (by decide))]
    obtain ⟨a1, a2, a3, a4, a5, a6, a7, a8, a9⟩ := hw k hk
    refine ⟨a1, a2, a3, a4, a5, a6, fun i hi => ?_, a8, a9⟩
    have := a5 h3
    omega
  · rw [if_pos ⟨hk, h3⟩]
    exact SW.gb ht (hw k hk) h3
theorem SW.gbw {lo t : Nat} {S : Nat → SA} (hl : lo ≤ t + 1) (htt : t < 2 ^ 30) (hw : ∀ k, k < 6 → SW lo t (S k)) (hlt : ∀ k, k < 6 → ∀ i, i < (S k).2.2.2 → nI t < (S k).1 3 i → ∃ q, (S k).1 3 i = nI q ∧ t < q) (i : Nat) {k : Nat} (hk : k < 6) : SW lo t (gbS (nI t) S i k) := by
  unfold gbS
  split
  · rename_i q
    obtain ⟨a1, a2, a3, a4, a5, a6, a7, a8, a9⟩ := hw k hk
    have hkl := gk_le (nI t) ((S k).1 3) ((S k).1 4) (S k).2.2.2
    have hsum := gk_sum (nI t) ((S k).1 3) ((S k).1 4) (S k).2.2.2
    refine ⟨a1, ?_, a3, a4, fun q2 => absurd (q.2.symm.trans q2) (by decide), fun q2 => ?_, fun j hj => ?_, fun j hj => ?_, a9⟩
    · show (gk (nI t) ((S k).1 3) ((S k).1 4) (S k).2.2.2).2.2.1 ≤ 16; omega
    · obtain ⟨tp, co, di, bu, pe, pr, fd, g1, g2, g3, g4, g5, g6, g7, g8, g9, g10, g11, g12, g13, g14, g15, g16, g17, g18, g19⟩ := a6 q.2
      refine ⟨tp, co, di, bu, pe, pr, fd, g1, g2, g3, g4, g5, g6, g7, g8, g9, g10, g11, g12, g13, g14, g15, g16, g17, g18, ?_⟩
      show (S k).2.2.1 + (gk (nI t) ((S k).1 3) ((S k).1 4) (S k).2.2.2).2.2.2 + sN (gk (nI t) ((S k).1 3) ((S k).1 4) (S k).2.2.2).2.1 (gk (nI t) ((S k).1 3) ((S k).1 4) (S k).2.2.2).2.2.1 = bu
      omega
    · obtain ⟨j2, hj2, e1, e2, e3⟩ := gk_k (nI t) ((S k).1 3) ((S k).1 4) (S k).2.2.2 j hj
      obtain ⟨q3, m, b1, b2, b3, b4, b5, b6⟩ := a7 j2 hj2
      exact ⟨q3, m, e1.trans b1, b2, b3, e2.trans b4, b5, b6⟩
    · change j < (S k).2.2.1 + (gk (nI t) ((S k).1 3) ((S k).1 4) (S k).2.2.2).2.2.2 at hj
      show ∃ v, v ≤ t ∧ flA ((S k).1 2) (S k).2.2.1 (nI t) j = nI v
      unfold flA
      by_cases e : j < (S k).2.2.1
      · rw [if_pos e]
        exact a8 j e
      · rw [if_neg e]
        exact ⟨t, Nat.le_refl t, rfl⟩
  · exact hw k hk
theorem m_giveBack {t n fd : Nat} {tp tr : Nat → Int32} {S : Nat → SA} {T V : St} {K : St → Prop} (htt : t < 2 ^ 30) (h : RM t n fd tp tr S T V) (hw : ∀ k, k < 6 → SW t t (S k)) (hK : ∀ V', RM t n fd tp tr (gbS (nI t) S 6) T V' → FM0 V V' → K V') : wp_X5_giveBack V K := by
  have hlt : ∀ k, k < 6 → ∀ i, i < (S k).2.2.2 → nI t < (S k).1 3 i → ∃ q, (S k).1 3 i = nI q ∧ t < q := by
    intro k hk i hi hc
    obtain ⟨q3, m, b1, b2, b3, b4, b5, b6⟩ := (hw k hk).2.2.2.2.2.2.1 i hi
    rw [b1] at hc
    exact ⟨q3, b1, (nI_ltI (by omega) (by omega)).mp hc⟩
  unfold wp_X5_giveBack
  refine ⟨6 + 1, lp_up (fun i (r : St → Int32 → Prop) => ∀ V' : St, RM t n fd tp tr (gbS (nI t) S i) T V' → FM0 V V' → r V' (nI i)) 6 ?_ ?_ 6 0 rfl V (by rw [gbS_0]; exact h) (FM0.refl V)⟩
  · intro r V' hR hF
    unfold h_X5_giveBack_2
    rw [if_pos l6]
    exact hK V' hR hF
  · intro i hi r hr V' hR hF
    have hC := hR.2.2.2.2.2.1 i hi
    rw [gbS_at] at hC
    unfold h_X5_giveBack_2
    rw [if_neg (i6 hi)]
    rcases (hw i hi).2.2.1 with h3 | h3
    · have hp0 := ((hw i hi).2.2.2.2.1 h3).2.2.1
      refine m_bl0 hC hi hp0 (fun r1 => ?_)
      refine m_gb0 hC hi hp0 ?_
      intro V2 hC2 hF2
      refine hr V2 ?_ (hF.trans hF2.fm)
      have hu : uS (gbS (nI t) S i) i (S i) = gbS (nI t) S i := by
        funext k
        by_cases e : k = i
        · rw [e, uS_s, gbS_at]
        · rw [uS_n e]
      rw [gbS_not h3, ← hu]
      exact RM.src hR (fun j hj _ => SW.gbw (by omega) htt hw hlt i hj) hi hC2 hF2 (by rw [gbS_at])
    · obtain ⟨b1, b2, b3, b4⟩ := (hw i hi).told h3
      refine m_bl hC hi b1 b2 b3 b4 ?_
      refine m_gb1 hC hi b1 (fun j hj => ?_) (fun j hj hn => ?_) b4 hR.1 ?_
      · obtain ⟨q3, m, c1, c2, c3, c4, c5, c6⟩ := (hw i hi).2.2.2.2.2.2.1 j hj
        exact ⟨m, c5, c6, c4⟩
      · obtain ⟨q3, m, c1, c2, c3, c4, c5, c6⟩ := (hw i hi).2.2.2.2.2.2.1 j hj
        rw [c1] at hn ⊢
        have : ¬ t < q3 := fun q => hn (nI_lt q (by omega))
        rw [show q3 = t by omega]
      · intro V2 hC2 hF2
        refine hr V2 ?_ (hF.trans hF2.fm)
        rw [gbS_told h3]
        exact RM.src hR (fun j hj _ => SW.gbw (by omega) htt hw hlt i hj) hi hC2 hF2 (by rw [gbS_at]; rfl)
/-! what is given back at a time when nothing is due -/
theorem gk_id {t : Int32} {T M : Nat → Int32} : ∀ i, (∀ j, j < i → t < T j) → gk t T M i = (T, M, i, 0)
  | 0, _ => rfl
  | i + 1, h => by
    have h1 := gk_id (T := T) (M := M) i (fun j hj => h j (by omega))
    have hs : ∀ f : Nat → Int32, upd f i (f i) = f := fun f => funext fun j => by
      rw [upd_at]
      split
      · rename_i e; rw [e]
      · rfl
    rw [gk_s, h1, if_pos (h i (by omega)), hs, hs]
theorem m_idle {t n fd : Nat} {tp tr : Nat → Int32} {S : Nat → SA} {T V : St} (htt : t < 2 ^ 30) (hw : ∀ k, k < 6 → SW (t + 1) t (S k)) (h : RM t n fd tp tr (gbS (nI t) S 6) T V) : RM t n fd tp tr S T V := by
  have hgb : ∀ k, k < 6 → (S k).1 0 3 = 1 → gbA (nI t) (S k) = (mkS ((S k).1 0) ((S k).1 1) (flA ((S k).1 2) (S k).2.2.1 (nI t)) ((S k).1 3) ((S k).1 4), (S k).2.1, (S k).2.2.1, (S k).2.2.2) := by
    intro k hk h3
    unfold gbA
    rw [gk_id (t := nI t) (T := (S k).1 3) (M := (S k).1 4) (S k).2.2.2 (fun j hj => by
      obtain ⟨q3, m, c1, c2, c3, c4, c5, c6⟩ := (hw k hk).2.2.2.2.2.2.1 j hj
      rw [c1]
      exact nI_lt (by omega) (by omega))]
    rfl
  obtain ⟨h1, h2, h3, h4, h5, h6, h7⟩ := h
  have h04 : ∀ k, (gbS (nI t) S 6 k).1 0 4 = (S k).1 0 4 := by
    intro k
    unfold gbS
    split
    · rfl
    · rfl
  have htp : ∀ x, tpo (gbS (nI t) S 6) x = tpo S x := fun x => h04 _
  refine ⟨h1, h2, h3, fun i hi => ?_, h5, fun k hk => ?_, h7⟩
  · rw [h4 i hi, htp, htp]
  · have := h6 k hk
    unfold gbS at this
    rcases (hw k hk).2.2.1 with q3 | q3
    · rw [if_neg (fun q => absurd (q3.symm.trans q.2) (by decide))] at this
      exact this
    · rw [if_pos ⟨hk, q3⟩, hgb k hk q3] at this
      obtain ⟨g1, g2, g3, g4, g5, g6, g7, g8⟩ := this
      exact ⟨g1, g2, g3, g4, g5, fun i hi => (g6 i hi).trans (if_pos hi), g7, g8⟩
theorem fb_xorI (a b : Nat) : nI a ^^^ nI b = nI (a ^^^ b) := by
  apply Int32.toBitVec_inj.1
  show BitVec.ofNat 32 a ^^^ BitVec.ofNat 32 b = BitVec.ofNat 32 (a ^^^ b)
  apply BitVec.eq_of_getLsbD_eq
  intro i hi
  simp [hi]
theorem fa_byte_small {n : Nat} (h : n < 128) : (nI n).toInt8.toInt32 = nI n := by
  have : ∀ j : Fin 128, (nI j.val).toInt8.toInt32 = nI j.val := by decide +kernel
  exact this ⟨n, h⟩
def bgS (t : Int32) (T : St) : St := fun k => if k < 6 then bgR t (T k) else T k
theorem tick_both {t n fd : Nat} {tp tr : Nat → Int32} {S : Nat → SA} {T : St} (htt : t + 1 < 2 ^ 29) (hw : GW (t + 1) t n fd tp S T) : ∃ (n' fd' : Nat) (tp' tr' : Nat → Int32) (S' : Nat → SA) (T' : St) (c : Nat), c < 36 ∧ GW (t + 2) (t + 1) n' fd' tp' S' T' ∧ (∀ (V : St) (K : Int32 → St → Prop), RC t n fd tp tr S T V → (∀ V', RC (t + 1) n' fd' tp' tr' S' T' V' → FC V V' → K (nI c) V') → wp_X4_tick V K) ∧ (∀ (V : St) (K : Int32 → St → Prop), RM t n fd tp tr S T V → (∀ V', RM (t + 1) n' fd' tp' tr' S' T' V' → FM0 V V' → K (nI c) V') → wp_X5_pass V K) := by
  have hwb : GW (t + 1) t n fd tp S (bgS (nI t) T) := by
    obtain ⟨w1, w2, w3, w4, w5⟩ := hw
    refine ⟨w1, fun k hk => ?_, w3, w4, w5⟩
    unfold bgS
    rw [if_pos hk]
    exact TkW_bgR (w2 k hk) (nI t)
  obtain ⟨n', fd', tp', S', T', c, hc, hw', hC, hM⟩ := runOne_both (tr := tr) (by omega) hwb
  have hw1 : ∀ k, k < 6 → SW (t + 1) (t + 1) (S' k) := fun k hk => (hw'.1 k hk).next
  refine ⟨n', fd', tp', upd tr t (nI c), gbS (nI (t + 1)) S' 6, T', c, hc, ?_, ?_, ?_⟩
  · obtain ⟨w1, w2, w3, w4, w5⟩ := hw'
    have hz : ∀ k, (gbS (nI (t + 1)) S' 6 k).2.1 = (S' k).2.1 := by
      intro k
      unfold gbS
      split
      · rfl
      · rfl
    have h0 : ∀ k i, (gbS (nI (t + 1)) S' 6 k).1 0 i = (S' k).1 0 i := by
      intro k i
      unfold gbS
      split
      · rfl
      · rfl
    refine ⟨fun k hk => SW.gbx (by omega) hw1 hk, w2, ?_, fun i hi => ?_, w5⟩
    · unfold zs
      rw [hz, hz, hz, hz, hz, hz]
      exact w3
    · obtain ⟨s, q, a1, a2, a3, a4, a5⟩ := w4 i hi
      exact ⟨s, q, a1, a2, by rw [h0]; exact a3, by rw [h0]; exact a4, a5⟩
  · intro V K hR hK
    unfold wp_X4_tick
    refine c_begin hR hw.2.1 ?_
    intro V1 T1 hT1 hR1 hF1
    have : T1 = bgS (nI t) T := funext hT1
    subst this
    refine hC V1 _ hR1 ?_
    intro V3 hR3 hF3
    unfold wp_J9_floorMod_7cf53
    rw [hR3.1]
    refine ⟨by decide, ?_⟩
    rintro x1 rfl
    rw [show nI t - nI t / 1000 * 1000 = nI (t % 1000) from pk_rem (d := 1000) (by omega) (by omega) (by omega)]
    have hx : (0 : Int32) ≤ nI t ^^^ 1000 := by
      show 0 ≤ nI t ^^^ nI 1000
      rw [fb_xorI]
      exact nI_pos' (Nat.xor_lt_two_pow (n := 31) (by omega) (by omega))
    rw [if_pos hx]
    have hm : t % 1000 < 1000 := Nat.mod_lt _ (by omega)
    refine ⟨vp_in_nI hm (by omega), ?_⟩
    rw [nI_clamp (by omega), fa_byte_small (by omega), fa_byte_small (by omega)]
    rintro V6 rfl V7 rfl
    have e5 : up2 V3 5 (t % 1000) (nI c) 0 5 = nI t := by rw [up2_n (by omega)]; exact hR3.1
    rw [e5, nI_1]
    obtain ⟨r1, r2, r3, r4, r5, r6⟩ := hR3
    have hFj : ∀ j, j ≠ 0 → j ≠ 5 → up2 (up2 V3 5 (t % 1000) (nI c)) 0 5 (nI (t + 1)) j = V3 j := fun j a b => by rw [up2_n a, up2_n b]
    have hR7 : RC (t + 1) n' fd' tp' (upd tr t (nI c)) S' T' (up2 (up2 V3 5 (t % 1000) (nI c)) 0 5 (nI (t + 1))) := by
      refine ⟨up2_ss _ _ _ _, ?_, r3.fr (hFj _ (by omega) (by omega)) (hFj _ (by omega) (by omega)), fun q a b => ?_, fun k hk => (r5 k hk).fr (fun r hr => hFj _ (by omega) (by omega)), fun k hk i hi => ?_⟩
      · rw [up2_sn (by omega), up2_n (by omega)]; exact r2
      · rw [up2_n (by omega), up2_at, upd_at]
        by_cases e : q = t
        · rw [e, if_pos ⟨rfl, rfl⟩, if_pos rfl]
        · have hne := mod_ne (h := q) (i := 0) (z := t - q) (n := 1000) (by omega) (by omega)
          rw [show q + (t - q) = t by omega, Nat.add_zero] at hne
          rw [if_neg (fun y => hne y.2), if_neg e]
          exact r4 q (by omega) (by omega)
      · rw [hFj _ (by omega) (by omega)]; exact r6 k hk i hi
    have hF7 : FC V (up2 (up2 V3 5 (t % 1000) (nI c)) 0 5 (nI (t + 1))) := (hF1.trans hF3).trans (fun j hj => hFj j (by omega) (by omega))
    exact c_giveBack hR7 hw1 (fun V8 hR8 hF8 => hK V8 hR8 (hF7.trans hF8))
  · intro V K hR hK
    unfold wp_X5_pass
    refine m_giveBack (by omega) hR (fun k hk => ?_) ?_
    · obtain ⟨a1, a2, a3, a4, a5, a6, a7, a8, a9⟩ := hw.1 k hk
      refine ⟨a1, a2, a3, a4, a5, a6, fun i hi => ?_, a8, a9⟩
      obtain ⟨q3, m, c1, c2, c3, c4⟩ := a7 i hi
      exact ⟨q3, m, c1, by omega, c3, c4⟩
    intro V0 hR0 hF0
    have hR0 := m_idle (by omega) hw.1 hR0
    refine m_begin hR0 hw.1 hw.2.1 ?_
    intro V1 T1 hT1 hR1 hF1
    have : T1 = bgS (nI t) T := funext hT1
    subst this
    refine hM V1 _ hR1 ?_
    intro V2 hR2 hF2
    have hm : t % 1024 < 1024 := Nat.mod_lt _ (by omega)
    rw [hR2.1, show nI t - nI t / 1024 * 1024 = nI (t % 1024) from pk_rem (d := 1024) (by omega) (by omega) (by omega), nI_clamp (by omega)]
    refine ⟨by decide, vp_in_nI hm (by omega), ?_⟩
    rintro V3 rfl V4 rfl
    have e5 : up2 V2 92 (t % 1024) (nI c) 60 1 = nI t := by rw [up2_n (by omega)]; exact hR2.1
    rw [e5, nI_1]
    obtain ⟨r1, r2, r3, r4, r5, r6, r7⟩ := hR2
    have hFj : ∀ j, j ≠ 60 → j ≠ 92 → up2 (up2 V2 92 (t % 1024) (nI c)) 60 1 (nI (t + 1)) j = V2 j := fun j a b => by rw [up2_n a, up2_n b]
    have hR7 : RM (t + 1) n' fd' tp' (upd tr t (nI c)) S' T' (up2 (up2 V2 92 (t % 1024) (nI c)) 60 1 (nI (t + 1))) := by
      refine ⟨up2_ss _ _ _ _, ?_, fun i hi => ?_, fun i hi => ?_, fun q a b => ?_, fun k hk => (r6 k hk).fr (hw1 k hk).1 (hw1 k hk).u30 (fun j c2 ho => ?_), fun k hk i hi => ?_⟩
      · rw [up2_sn (by omega), up2_n (by omega)]; exact r2
      · rw [hFj _ (by omega) (by omega)]; exact r3 i hi
      · rw [hFj _ (by omega) (by omega)]; exact r4 i hi
      · rw [up2_n (by omega), up2_at, upd_at]
        by_cases e : q = t
        · rw [e, if_pos ⟨rfl, rfl⟩, if_pos rfl]
        · have hne := mod_ne (h := q) (i := 0) (z := t - q) (n := 1024) (by omega) (by omega)
          rw [show q + (t - q) = t by omega, Nat.add_zero] at hne
          rw [if_neg (fun y => hne y.2), if_neg e]
          exact r5 q (by omega) (by omega)
      · unfold own at ho
        rw [hFj _ (by omega) (by omega)]
      · rw [hFj _ (by omega) (by omega)]; exact r7 k hk i hi
    have hF7 : FM0 V (up2 (up2 V2 92 (t % 1024) (nI c)) 60 1 (nI (t + 1))) := ((hF0.trans hF1).trans hF2).trans (fun j c2 hj => by rw [up2_at, if_neg (by omega), up2_n (by omega)])
    exact m_giveBack (by omega) hR7 hw1 (fun V8 hR8 hF8 => hK V8 hR8 (hF7.trans hF8))
