/-! ===== a source, apart from where it lies: fields 3 .. 17, queue, units left, pieces; and how many of each ===== -/
abbrev SA : Type := St × Nat × Nat × Nat
def mm (i : Nat) : Nat := match i with
  | 3 => 61 | 4 => 62 | 5 => 63 | 6 => 64 | 7 => 65 | 8 => 66 | 9 => 67 | 10 => 76 | 11 => 78 | 12 => 79 | 13 => 80 | 14 => 77 | 15 => 81 | 16 => 70 | _ => 0
theorem mm_inj : ∀ i, i < 17 → ∀ j, j < 17 → 3 ≤ i → 3 ≤ j → mm i = mm j → i = j := by decide
theorem mm_rng : ∀ i, i < 17 → 3 ≤ i → 61 ≤ mm i ∧ mm i ≤ 81 ∧ mm i ≠ 68 ∧ mm i ≠ 69 ∧ mm i ≠ 71 ∧ mm i ≠ 72 ∧ mm i ≠ 73 ∧ mm i ≠ 74 ∧ mm i ≠ 75 := by decide
def CS (x : SA) (V : St) (b : Nat) : Prop := (∀ i, 3 ≤ i → i ≤ 17 → V b i = x.1 0 i) ∧ Ring V (b + 1) 32 x.2.1 (x.1 1) ∧ Ring V (b + 3) 30 x.2.2.1 (x.1 2) ∧ V (b + 5) 2 = nI x.2.2.2 ∧ (∀ i, i < 16 → V (b + 6) i = x.1 3 i) ∧ (∀ i, i < 16 → V (b + 7) i = x.1 4 i)
def MSr (x : SA) (V : St) (k : Nat) : Prop := (∀ i, 3 ≤ i → i ≤ 16 → V (mm i) k = x.1 0 i) ∧ V 71 k = (if x.2.1 = 0 then (-1 : Int32) else x.1 0 17) ∧ V 68 k = nI x.2.1 ∧ V 73 k = nI x.2.2.2 ∧ (∀ i, i < x.2.1 → V 69 (32 * k + i) = x.1 1 i) ∧ (∀ i, i < x.2.2.1 → V 72 (30 * k + i) = x.1 2 i) ∧ (∀ i, i < 16 → V 74 (16 * k + i) = x.1 3 i) ∧ (∀ i, i < 16 → V 75 (16 * k + i) = x.1 4 i)
def sN (f : Nat → Int32) : Nat → Nat
  | 0 => 0
  | n + 1 => sN f n + (f n).toNatClampNeg
/-- lo: no piece's time is before it; t: the time -/
def SW (lo t : Nat) (x : SA) : Prop := x.2.1 ≤ 32 ∧ x.2.2.2 ≤ 16 ∧ (x.1 0 3 = 0 ∨ x.1 0 3 = 1) ∧ (x.1 0 10 = 0 ∨ x.1 0 10 = 1)
  ∧ (x.1 0 3 = 0 → x.2.1 = 0 ∧ x.2.2.1 = 0 ∧ x.2.2.2 = 0 ∧ x.1 0 16 = 0)
  ∧ (x.1 0 3 = 1 → ∃ tp co di bu pe pr fd : Nat, tp ≤ 3 ∧ 1 ≤ co ∧ co ≤ 30 ∧ 1 ≤ di ∧ di ≤ 2000 ∧ 1 ≤ bu ∧ bu ≤ 30 ∧ 1 ≤ pe ∧ pe ≤ 500 ∧ pr ≤ 31 ∧ fd < co ∧ x.1 0 4 = nI tp ∧ x.1 0 5 = nI co ∧ x.1 0 6 = nI di ∧ x.1 0 7 = nI bu ∧ x.1 0 8 = nI pe ∧ x.1 0 9 = nI pr ∧ x.1 0 16 = nI fd ∧ x.2.2.1 + sN (x.1 4) x.2.2.2 = bu)
  ∧ (∀ i, i < x.2.2.2 → ∃ q m : Nat, x.1 3 i = nI q ∧ lo ≤ q ∧ q ≤ t + 500 ∧ x.1 4 i = nI m ∧ 1 ≤ m ∧ m ≤ 30)
  ∧ (∀ i, i < x.2.2.1 → ∃ v : Nat, v ≤ t ∧ x.1 2 i = nI v) ∧ (∃ v : Nat, v ≤ t ∧ x.1 0 17 = nI v)
theorem CS.fr {x : SA} {V V' : St} {b : Nat} (h : CS x V b) (e : ∀ r, r < 8 → V' (b + r) = V (b + r)) : CS x V' b := by
  obtain ⟨h1, h2, h3, h4, h5, h6⟩ := h
  have e0 := e 0 (by omega)
  rw [Nat.add_zero] at e0
  refine ⟨fun i a c => by rw [e0]; exact h1 i a c, h2.fr (e 1 (by omega)) (e 2 (by omega)), h3.fr (e 3 (by omega)) (e 4 (by omega)), by rw [e 5 (by omega)]; exact h4, fun i hi => by rw [e 6 (by omega)]; exact h5 i hi, fun i hi => by rw [e 7 (by omega)]; exact h6 i hi⟩
def own (k j i : Nat) : Prop := (j = 69 ∧ 32 * k ≤ i ∧ i < 32 * k + 32) ∨ (j = 72 ∧ 30 * k ≤ i ∧ i < 30 * k + 30) ∨ ((j = 74 ∨ j = 75) ∧ 16 * k ≤ i ∧ i < 16 * k + 16) ∨ (j ≠ 69 ∧ j ≠ 72 ∧ j ≠ 74 ∧ j ≠ 75 ∧ 61 ≤ j ∧ j ≤ 81 ∧ i = k)
theorem MSr.fr {x : SA} {V V' : St} {k : Nat} (h : MSr x V k) (hz : x.2.1 ≤ 32) (hu : x.2.2.1 ≤ 30) (e : ∀ j i, own k j i → V' j i = V j i) : MSr x V' k := by
  obtain ⟨h1, h2, h3, h4, h5, h6, h7, h8⟩ := h
  unfold own at e
  refine ⟨fun i a c => ?_, ?_, ?_, ?_, fun i hi => ?_, fun i hi => ?_, fun i hi => ?_, fun i hi => ?_⟩
  · have := mm_rng i (by omega) a
    rw [e _ _ (by omega)]; exact h1 i a c
  · rw [e _ _ (by omega)]; exact h2
  · rw [e _ _ (by omega)]; exact h3
  · rw [e _ _ (by omega)]; exact h4
  · rw [e _ _ (by omega)]; exact h5 i hi
  · rw [e _ _ (by omega)]; exact h6 i hi
  · rw [e _ _ (by omega)]; exact h7 i hi
  · rw [e _ _ (by omega)]; exact h8 i hi
/-! ===== all together ===== -/
def tpo (S : Nat → SA) (x : Int32) : Int32 := (S x.toNatClampNeg).1 0 4
def RC (t n fd : Nat) (tp tr : Nat → Int32) (S : Nat → SA) (T : St) (V : St) : Prop := V 0 5 = nI t ∧ V 0 4 = nI fd ∧ Ring V 3 192 n tp ∧ (∀ q, q < t → t ≤ q + 1000 → V 5 (q % 1000) = tr q) ∧ (∀ k, k < 6 → CS (S k) V (12 + 8 * k)) ∧ (∀ k, k < 6 → ∀ i, i < 8 → V (6 + 1 * k) i = T k i)
def RM (t n fd : Nat) (tp tr : Nat → Int32) (S : Nat → SA) (T : St) (V : St) : Prop := V 60 1 = nI t ∧ V 60 31 = nI n ∧ (∀ i, i < n → V 90 i = tp i) ∧ (∀ i, i < n → V 91 i = if i = 0 then tpo S (tp 0) - nI fd else tpo S (tp i)) ∧ (∀ q, q < t → t ≤ q + 1000 → V 92 (q % 1024) = tr q) ∧ (∀ k, k < 6 → MSr (S k) V k) ∧ (∀ k, k < 6 → ∀ i, i < 8 → V (82 + i) k = T k i)
def TkW (f : Nat → Int32) : Prop := (f 0 = 0 ∨ f 0 = 1) ∧ (f 0 = 1 → ∃ pe co pr : Nat, 1 ≤ pe ∧ pe ≤ 2000 ∧ 1 ≤ co ∧ co ≤ 500 ∧ pr ≤ 31 ∧ f 1 = nI pe ∧ f 2 = nI co ∧ f 3 = nI pr)
def zs (S : Nat → SA) : Nat := (S 0).2.1 + (S 1).2.1 + (S 2).2.1 + (S 3).2.1 + (S 4).2.1 + (S 5).2.1
def GW (lo t n fd : Nat) (tp : Nat → Int32) (S : Nat → SA) (T : St) : Prop := (∀ k, k < 6 → SW lo t (S k)) ∧ (∀ k, k < 6 → TkW (T k)) ∧ n ≤ zs S ∧ (∀ i, i < n → ∃ s q : Nat, s < 6 ∧ tp i = nI s ∧ (S s).1 0 3 = 1 ∧ (S s).1 0 4 = nI q ∧ 1 ≤ q ∧ q ≤ 3 ∧ (i = 0 → fd < q)) ∧ (n = 0 → fd = 0)
def FC (V V' : St) : Prop := ∀ j, 60 ≤ j → V' j = V j
def FM (V V' : St) : Prop := ∀ j, (j < 60 ∨ 92 < j) → V' j = V j
theorem RC.fr {t n fd : Nat} {tp tr : Nat → Int32} {S : Nat → SA} {T V V' : St} (h : RC t n fd tp tr S T V) (e : ∀ j, j < 60 → V' j = V j) : RC t n fd tp tr S T V' := by
  obtain ⟨h1, h2, h3, h4, h5, h6⟩ := h
  refine ⟨by rw [e 0 (by omega)]; exact h1, by rw [e 0 (by omega)]; exact h2, h3.fr (e 3 (by omega)) (e 4 (by omega)), fun q a c => by rw [e 5 (by omega)]; exact h4 q a c, fun k hk => (h5 k hk).fr (fun r hr => e _ (by omega)), fun k hk i hi => by rw [e _ (by omega)]; exact h6 k hk i hi⟩
theorem SW.u30 {lo t : Nat} {x : SA} (h : SW lo t x) : x.2.2.1 ≤ 30 := by
  obtain ⟨h1, h2, h3, h4, h5, h6, h7, h8⟩ := h
  rcases h3 with h3 | h3
  · have := h5 h3; omega
  · obtain ⟨tp, co, di, bu, pe, pr, fd, hh⟩ := h6 h3
    omega
theorem RM.fr {lo t n fd : Nat} {tp tr : Nat → Int32} {S : Nat → SA} {T V V' : St} (h : RM t n fd tp tr S T V) (hw : ∀ k, k < 6 → SW lo t (S k)) (e : ∀ j i, 60 ≤ j → j ≤ 92 → (j = 60 → i ≠ 0) → V' j i = V j i) : RM t n fd tp tr S T V' := by
  obtain ⟨h1, h2, h3, h4, h5, h6, h7⟩ := h
  refine ⟨by rw [e 60 1 (by omega) (by omega) (by omega)]; exact h1, by rw [e 60 31 (by omega) (by omega) (by omega)]; exact h2, fun i hi => by rw [e 90 i (by omega) (by omega) (by omega)]; exact h3 i hi, fun i hi => by rw [e 91 i (by omega) (by omega) (by omega)]; exact h4 i hi, fun q a c => by rw [e 92 _ (by omega) (by omega) (by omega)]; exact h5 q a c, fun k hk => (h6 k hk).fr (hw k hk).1 (hw k hk).u30 (fun j i ho => e j i ?_ ?_ ?_), fun k hk i hi => by rw [e _ _ (by omega) (by omega) (by omega)]; exact h7 k hk i hi⟩ <;> (unfold own at ho; omega)
theorem FC.trans {V V1 V2 : St} (h : FC V V1) (h2 : FC V1 V2) : FC V V2 := fun j hj => (h2 j hj).trans (h j hj)
theorem FM.trans {V V1 V2 : St} (h : FM V V1) (h2 : FM V1 V2) : FM V V2 := fun j hj => (h2 j hj).trans (h j hj)
theorem FC.refl (V : St) : FC V V := fun _ _ => rfl
theorem FM.refl (V : St) : FM V V := fun _ _ => rfl
def FM0 (V V' : St) : Prop := ∀ j i, (j < 60 ∨ 92 < j ∨ (j = 60 ∧ i = 0)) → V' j i = V j i
theorem FM0.trans {V V1 V2 : St} (h : FM0 V V1) (h2 : FM0 V1 V2) : FM0 V V2 := fun j i hj => (h2 j i hj).trans (h j i hj)
theorem FM0.refl (V : St) : FM0 V V := fun _ _ _ => rfl
theorem FM0.fm {V V' : St} (h : FM0 V V') : FM V V' := fun j hj => funext fun i => h j i (by omega)
def uS (S : Nat → SA) (k : Nat) (x : SA) : Nat → SA := fun j => if j = k then x else S j
theorem uS_s (S : Nat → SA) (k : Nat) (x : SA) : uS S k x k = x := if_pos rfl
theorem uS_n {S : Nat → SA} {k j : Nat} {x : SA} (h : j ≠ k) : uS S k x j = S j := if_neg h
