/-! ===== the state: cells 0 .. 93, each a row of ints (V j k); where the references go is fixed by the layout ly ===== -/
abbrev St : Type := Nat → Nat → Int32
def up2 (V : St) (j k : Nat) (x : Int32) : St := fun a => if a = j then upd (V a) k x else V a
abbrev Ly : Type := (Nat × List (Option Nat)) ⊕ ((Nat × Nat) ⊕ (Nat × Nat × Nat × Nat))
def sv (ad : Nat → Nat) (f : Nat → Int32) : Nat → List (Option Nat) → List Value
  | _, [] => []
  | k, none :: t => .int (f k) :: sv ad f (k + 1) t
  | k, some q :: t => .ref (ad q) :: sv ad f (k + 1) t
theorem sv_len (ad : Nat → Nat) (f : Nat → Int32) : ∀ (sl : List (Option Nat)) (k : Nat), (sv ad f k sl).length = sl.length
  | [], _ => rfl
  | none :: t, k => by simp [sv, sv_len ad f t (k + 1)]
  | some q :: t, k => by simp [sv, sv_len ad f t (k + 1)]
theorem sv_int (ad : Nat → Nat) (f : Nat → Int32) : ∀ (sl : List (Option Nat)) (k i : Nat), sl[i]? = some none → (sv ad f k sl)[i]? = some (.int (f (k + i)))
  | [], _, i, h => by simp at h
  | none :: t, k, 0, _ => by simp [sv]
  | none :: t, k, i + 1, h => by
    have := sv_int ad f t (k + 1) i (by simpa using h)
    simp only [sv, List.getElem?_cons_succ, this]
    rw [show k + 1 + i = k + (i + 1) by omega]
  | some q :: t, k, 0, h => by simp at h
  | some q :: t, k, i + 1, h => by
    have := sv_int ad f t (k + 1) i (by simpa using h)
    simp only [sv, List.getElem?_cons_succ, this]
    rw [show k + 1 + i = k + (i + 1) by omega]
theorem sv_ref (ad : Nat → Nat) (f : Nat → Int32) {q : Nat} : ∀ (sl : List (Option Nat)) (k i : Nat), sl[i]? = some (some q) → (sv ad f k sl)[i]? = some (.ref (ad q))
  | [], _, i, h => by simp at h
  | none :: t, k, 0, h => by simp at h
  | none :: t, k, i + 1, h => by simpa [sv] using sv_ref ad f t (k + 1) i (by simpa using h)
  | some q' :: t, k, 0, h => by simp at h; simp [sv, h]
  | some q' :: t, k, i + 1, h => by simpa [sv] using sv_ref ad f t (k + 1) i (by simpa using h)
theorem sv_cong (ad : Nat → Nat) {f g : Nat → Int32} : ∀ (sl : List (Option Nat)) (k : Nat), (∀ j, k ≤ j → f j = g j) → sv ad f k sl = sv ad g k sl
  | [], _, _ => rfl
  | none :: t, k, h => by simp only [sv]; rw [h k (Nat.le_refl k), sv_cong ad t (k + 1) (fun j hj => h j (by omega))]
  | some q :: t, k, h => by simp only [sv]; rw [sv_cong ad t (k + 1) (fun j hj => h j (by omega))]
theorem sv_set (ad : Nat → Nat) (f : Nat → Int32) (x : Int32) : ∀ (sl : List (Option Nat)) (k i : Nat), sl[i]? = some none → (sv ad f k sl).set i (.int x) = sv ad (upd f (k + i) x) k sl
  | [], _, i, h => by simp at h
  | none :: t, k, 0, _ => by
    simp only [sv, List.set_cons_zero, Nat.add_zero]
    rw [sv_cong ad (f := upd f k x) (g := f) t (k + 1) (fun j hj => by simp [upd]; intro h; omega)]
    simp [upd]
  | none :: t, k, i + 1, h => by
    have := sv_set ad f x t (k + 1) i (by simpa using h)
    simp only [sv, List.set_cons_succ, this]
    rw [show k + 1 + i = k + (i + 1) by omega]
    simp [upd]
  | some q :: t, k, 0, h => by simp at h
  | some q :: t, k, i + 1, h => by
    have := sv_set ad f x t (k + 1) i (by simpa using h)
    simp only [sv, List.set_cons_succ, this]
    rw [show k + 1 + i = k + (i + 1) by omega]
def ce (ad : Nat → Nat) (cy : Nat → ClassId) (f : Nat → Int32) (y : Ly) : va_E := match y with
  | .inl o => .inr (o.1, sv ad f 0 o.2)
  | .inr (.inl a) => .inl (cy a.1, a.2, if a.1 = 3 then .inr (.inl (fun k => (f k).toInt64)) else .inl f)
  | .inr (.inr r) => .inl (cy r.1, r.2.1, .inr (.inr (.inr (.inr (fun k => if k < r.2.1 then some (ad (r.2.2.1 + r.2.2.2 * k)) else none)))))
def ly1 (j : Nat) : Ly := match j with
  | 0 => .inl (4, [some 1, some 2, some 3, some 5, none, none])
  | 1 => .inr (.inr (4, 6, 12, 8))
  | 2 => .inr (.inr (5, 6, 6, 1))
  | 3 => .inl (2, [some 4, none, none])
  | 4 => .inr (.inl (0, 192))
  | 5 => .inr (.inl (1, 1000))
  | _ => .inl (0, [none, none, none, none, none, none, none, none])
def lyS (b r : Nat) : Ly := match r with
  | 0 => .inl (3, [some (b + 1), some (b + 3), some (b + 5), none, none, none, none, none, none, none, none, none, none, none, none, none, none, none])
  | 1 => .inl (2, [some (b + 1 + 1), none, none])
  | 2 => .inr (.inl (0, 32))
  | 3 => .inl (2, [some (b + 3 + 1), none, none])
  | 4 => .inr (.inl (0, 30))
  | 5 => .inl (1, [some (b + 5 + 1), some (b + 5 + 2), none])
  | _ => .inr (.inl (0, 16))
def ly2 (j : Nat) : Ly := match j with
  | 60 => .inl (5, [none, none, some 61, some 62, some 63, some 64, some 65, some 66, some 67, some 68, some 69, some 70, some 71, some 72, some 73, some 74, some 75, some 76, some 77, some 78, some 79, some 80, some 81, some 82, some 83, some 84, some 85, some 86, some 87, some 88, some 89, none, some 90, some 91, some 92])
  | 61 => .inr (.inl (2, 6))
  | 76 => .inr (.inl (2, 6))
  | 82 => .inr (.inl (2, 6))
  | 69 => .inr (.inl (0, 192))
  | 72 => .inr (.inl (0, 180))
  | 74 => .inr (.inl (0, 96))
  | 75 => .inr (.inl (0, 96))
  | 90 => .inr (.inl (0, 600))
  | 91 => .inr (.inl (0, 600))
  | 92 => .inr (.inl (0, 1024))
  | 93 => .inr (.inl (3, 1))
  | _ => .inr (.inl (0, 6))
def ly (j : Nat) : Ly := if j < 12 then ly1 j else if j < 60 then lyS (j - (j - 12) % 8) ((j - 12) % 8) else ly2 j
def RowAt (r n : Nat) : Prop := r + 1 < 94 ∧ ly r = .inl (2, [some (r + 1), none, none]) ∧ ly (r + 1) = .inr (.inl (0, n))
def PcsAt (q : Nat) : Prop := q + 2 < 94 ∧ ly q = .inl (1, [some (q + 1), some (q + 2), none]) ∧ ly (q + 1) = .inr (.inl (0, 16)) ∧ ly (q + 2) = .inr (.inl (0, 16))
def SrcAt (b : Nat) : Prop := b + 7 < 94 ∧ ly b = .inl (3, [some (b + 1), some (b + 3), some (b + 5), none, none, none, none, none, none, none, none, none, none, none, none, none, none, none]) ∧ RowAt (b + 1) 32 ∧ RowAt (b + 3) 30 ∧ PcsAt (b + 5)
def TskAt (t : Nat) : Prop := t < 94 ∧ ly t = .inl (0, [none, none, none, none, none, none, none, none])
theorem ly_src {k r : Nat} (hk : k < 6) (hr : r < 8) : ly (12 + 8 * k + r) = lyS (12 + 8 * k) r := by
  unfold ly
  rw [if_neg (by omega), if_pos (by omega)]
  rw [show (12 + 8 * k + r - 12) % 8 = r by omega, show 12 + 8 * k + r - r = 12 + 8 * k by omega]
theorem srcAt {k : Nat} (hk : k < 6) : SrcAt (12 + 8 * k) := by
  refine ⟨by omega, ly_src (r := 0) hk (by omega), ⟨by omega, ly_src (r := 1) hk (by omega), ly_src (r := 2) hk (by omega)⟩, ⟨by omega, ly_src (r := 3) hk (by omega), ly_src (r := 4) hk (by omega)⟩, by omega, ly_src (r := 5) hk (by omega), ly_src (r := 6) hk (by omega), ly_src (r := 7) hk (by omega)⟩
theorem tskAt {k : Nat} (hk : k < 6) : TskAt (6 + 1 * k) := by
  refine ⟨by omega, ?_⟩
  rcases (show k = 0 ∨ k = 1 ∨ k = 2 ∨ k = 3 ∨ k = 4 ∨ k = 5 by omega) with rfl | rfl | rfl | rfl | rfl | rfl <;> rfl
theorem topAt : RowAt 3 192 := ⟨by omega, rfl, rfl⟩
def wA (ad : Nat → Nat) (cy : Nat → ClassId) (V : St) : va_W := (List.range 94).map (fun j => (ad j, ce ad cy (V j) (ly j)))
theorem wA_get (ad : Nat → Nat) (cy : Nat → ClassId) (V : St) {j : Nat} (hj : j < 94) : (wA ad cy V)[j]? = some (ad j, ce ad cy (V j) (ly j)) := by
  simp [wA, hj]
theorem wA_at {ad : Nat → Nat} {cy : Nat → ClassId} {V : St} {k : Nat} {q : Nat × va_E} (h : (wA ad cy V)[k]? = some q) : k < 94 ∧ q = (ad k, ce ad cy (V k) (ly k)) := by
  have hk : k < 94 := by
    have := (List.getElem?_eq_some_iff.mp h).1
    simpa [wA] using this
  exact ⟨hk, by rw [wA_get ad cy V hk] at h; exact (Option.some.inj h).symm⟩
theorem wA_set (ad : Nat → Nat) (cy : Nat → ClassId) (V : St) {j : Nat} (hj : j < 94) (k : Nat) (x : Int32) {y : va_E} (hy : y = ce ad cy (upd (V j) k x) (ly j)) : (wA ad cy V).set j (ad j, y) = wA ad cy (up2 V j k x) := by
  subst hy
  apply List.ext_getElem?
  intro i
  by_cases hi : i < 94
  · rw [wA_get ad cy (up2 V j k x) hi, List.getElem?_set]
    by_cases hij : j = i
    · subst hij
      simp [wA, hj, up2]
    · rw [if_neg hij, wA_get ad cy V hi]
      simp [up2, Ne.symm hij]
  · rw [List.getElem?_eq_none (by simp [wA]; omega), List.getElem?_eq_none (by simp [wA]; omega)]
/-! ===== words: one list for all methods ===== -/
def isNest : Cond → Bool
  | .fieldLinkNest .. => true
  | .methodLinkNest .. => true
  | _ => false
def WA : List Cond := lw_tbl.filter goodWord
def NW : List Cond := lw_tbl.filter isNest
theorem wa {w : Cond} (i : Nat) (h : lw_tbl[i]? = some w) (g : goodWord w = true) : w ∈ WA := List.mem_filter.mpr ⟨List.mem_of_getElem? h, g⟩
theorem nw {w : Cond} (i : Nat) (h : lw_tbl[i]? = some w) (g : isNest w = true) : w ∈ NW := List.mem_filter.mpr ⟨List.mem_of_getElem? h, g⟩
theorem goodWA {x : Cond} {w : Cond} (h : w ∈ WA) : w ∈ x :: WA ∧ ((w.onTables && w.keeps) = true ∨ ∃ ty, w = .arrayClass ty) := ⟨List.mem_cons_of_mem _ h, good_of_word (List.mem_filter.mp h).2⟩
theorem goodCode {x : Cond} {y : MethodName} {b : ByteArray} {n : Nat} {r : Option FieldType} (h : Cond.code y b n r ∈ WA) : GoodIn (x :: WA) (Cond.code y b n r :: WA) := fun w hw => (List.mem_cons.mp hw).elim (fun e => e ▸ goodWA h) (fun h => goodWA h)
theorem nw_warm {w : Cond} (h : w ∈ NW) {s U : State} (hW : s.WarmedH U.vm) (hz : va_Nw w s) : va_Nw w U := by
  have h2 := (List.mem_filter.mp h).2
  match w, h2, hz with
  | .fieldLinkNest a i b n d g, _, hz => exact va_Nw.warmF hW hz
  | .methodLinkNest a i x g, _, hz => exact va_Nw.warmM hW hz
theorem nw_calling {w : Cond} (h : w ∈ NW) {U : State} {g : JFrame} {mk : MethodId} {a : Array Value} (hz : va_Nw w U) : va_Nw w (U.calling g mk a) := by
  have h2 := (List.mem_filter.mp h).2
  refine va_Nw.same (u := U) (U := U.calling g mk a) ?_ rfl hz
  match w, h2 with
  | .fieldLinkNest a i b n d g, _ => rfl
  | .methodLinkNest a i x g, _ => rfl
theorem nw_use {w : Cond} (h : w ∈ NW) {s : State} {args : Array Value} (hz : va_Nw w s) : w.before args s = true := by
  have h2 := (List.mem_filter.mp h).2
  refine va_Nw.use ?_ hz
  match w, h2 with
  | .fieldLinkNest a i b n d g, _ => rfl
  | .methodLinkNest a i x g, _ => rfl
