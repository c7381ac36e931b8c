/-! ===== the world behind the two constructors ===== -/
def V0 : St := fun j => if j = 71 then (fun k => if k < 6 then -1 else 0) else fun _ => 0
def adF (ad1 ad2 : Nat → Nat) (q3 : Nat) : Nat → Nat := fun j => if j < 60 then ad1 j else if j < 93 then ad2 j else q3
def Wt (cy : Nat → ClassId) (ad1 ad2 : Nat → Nat) (q3 : Nat) : va_W := ap (ap (ap [] (kerW cy ad1)) (modW cy ad2)) [(q3, .inl (cy 3, 1, .inr (.inl (fun _ => 0))))]
def pi0 : Nat → Nat := fun j => [0, 1, 2, 4, 5, 3, 11, 10, 9, 8, 7, 6, 52, 53, 54, 55, 56, 57, 58, 59, 44, 45, 46, 47, 48, 49, 50, 51, 36, 37, 38, 39, 40, 41, 42, 43, 28, 29, 30, 31, 32, 33, 34, 35, 20, 21, 22, 23, 24, 25, 26, 27, 12, 13, 14, 15, 16, 17, 18, 19, 60, 92, 91, 90, 89, 88, 87, 86, 85, 84, 83, 82, 81, 80, 79, 78, 77, 76, 75, 74, 73, 72, 71, 70, 69, 68, 67, 66, 65, 64, 63, 62, 61, 93].getD j 0
theorem pi0_inj : ∀ i, i < 94 → ∀ j, j < 94 → pi0 i = pi0 j → i = j := by decide +kernel
theorem up6 (f : Nat → Nat) : (va_up (va_up (va_up (va_up (va_up (va_up (fun _ => none) (0 : Int32).toNatClampNeg (some (f 0))) (1 : Int32).toNatClampNeg (some (f 1))) (2 : Int32).toNatClampNeg (some (f 2))) (3 : Int32).toNatClampNeg (some (f 3))) (4 : Int32).toNatClampNeg (some (f 4))) (5 : Int32).toNatClampNeg (some (f 5))) = (fun k => if k < 6 then some (f k) else none) := by
  funext k
  match k with
  | 0 => rfl
  | 1 => rfl
  | 2 => rfl
  | 3 => rfl
  | 4 => rfl
  | 5 => rfl
  | k + 6 =>
    have e0 : (0 : Int32).toNatClampNeg = 0 := by decide
    have e1 : (1 : Int32).toNatClampNeg = 1 := by decide
    have e2 : (2 : Int32).toNatClampNeg = 2 := by decide
    have e3 : (3 : Int32).toNatClampNeg = 3 := by decide
    have e4 : (4 : Int32).toNatClampNeg = 4 := by decide
    have e5 : (5 : Int32).toNatClampNeg = 5 := by decide
    rw [e0, e1, e2, e3, e4, e5, va_up_ne _ _ (by omega), va_up_ne _ _ (by omega), va_up_ne _ _ (by omega), va_up_ne _ _ (by omega), va_up_ne _ _ (by omega), va_up_ne _ _ (by omega), if_neg (by omega)]
theorem busy6 : (upd (upd (upd (upd (upd (upd (fun _ => 0) (0 : Int32).toNatClampNeg (-1 : Int32)) (1 : Int32).toNatClampNeg (-1 : Int32)) (2 : Int32).toNatClampNeg (-1 : Int32)) (3 : Int32).toNatClampNeg (-1 : Int32)) (4 : Int32).toNatClampNeg (-1 : Int32)) (5 : Int32).toNatClampNeg (-1 : Int32)) = V0 71 := by
  funext k
  match k with
  | 0 => rfl
  | 1 => rfl
  | 2 => rfl
  | 3 => rfl
  | 4 => rfl
  | 5 => rfl
  | k + 6 =>
    have e0 : (0 : Int32).toNatClampNeg = 0 := by decide
    have e1 : (1 : Int32).toNatClampNeg = 1 := by decide
    have e2 : (2 : Int32).toNatClampNeg = 2 := by decide
    have e3 : (3 : Int32).toNatClampNeg = 3 := by decide
    have e4 : (4 : Int32).toNatClampNeg = 4 := by decide
    have e5 : (5 : Int32).toNatClampNeg = 5 := by decide
    rw [e0, e1, e2, e3, e4, e5, pk_un (by omega), pk_un (by omega), pk_un (by omega), pk_un (by omega), pk_un (by omega), pk_un (by omega)]
    simp [V0]
set_option maxRecDepth 100000 in
set_option maxHeartbeats 4000000 in
theorem at0 (cy : Nat → ClassId) (ad1 ad2 : Nat → Nat) (q3 : Nat) : ∀ j, j < 94 → (Wt cy ad1 ad2 q3)[pi0 j]? = some (adF ad1 ad2 q3 j, ce (adF ad1 ad2 q3) cy (V0 j) (ly j)) := by
  intro j hj
  match j, hj with
  | 0, _ => rfl
  | 1, _ => exact (congrArg (fun f => some (ad1 1, (.inl (cy 4, 6, .inr (.inr (.inr (.inr f)))) : va_E))) (up6 (fun k => adF ad1 ad2 q3 (12 + 8 * k))) : _)
  | 2, _ => exact (congrArg (fun f => some (ad1 2, (.inl (cy 5, 6, .inr (.inr (.inr (.inr f)))) : va_E))) (up6 (fun k => adF ad1 ad2 q3 (6 + 1 * k))) : _)
  | 3, _ => rfl
  | 4, _ => rfl
  | 5, _ => rfl
  | 6, _ => rfl
  | 7, _ => rfl
  | 8, _ => rfl
  | 9, _ => rfl
  | 10, _ => rfl
  | 11, _ => rfl
  | 12, _ => rfl
  | 13, _ => rfl
  | 14, _ => rfl
  | 15, _ => rfl
  | 16, _ => rfl
  | 17, _ => rfl
  | 18, _ => rfl
  | 19, _ => rfl
  | 20, _ => rfl
  | 21, _ => rfl
  | 22, _ => rfl
  | 23, _ => rfl
  | 24, _ => rfl
  | 25, _ => rfl
  | 26, _ => rfl
  | 27, _ => rfl
  | 28, _ => rfl
  | 29, _ => rfl
  | 30, _ => rfl
  | 31, _ => rfl
  | 32, _ => rfl
  | 33, _ => rfl
  | 34, _ => rfl
  | 35, _ => rfl
  | 36, _ => rfl
  | 37, _ => rfl
  | 38, _ => rfl
  | 39, _ => rfl
  | 40, _ => rfl
  | 41, _ => rfl
  | 42, _ => rfl
  | 43, _ => rfl
  | 44, _ => rfl
  | 45, _ => rfl
  | 46, _ => rfl
  | 47, _ => rfl
  | 48, _ => rfl
  | 49, _ => rfl
  | 50, _ => rfl
  | 51, _ => rfl
  | 52, _ => rfl
  | 53, _ => rfl
  | 54, _ => rfl
  | 55, _ => rfl
  | 56, _ => rfl
  | 57, _ => rfl
  | 58, _ => rfl
  | 59, _ => rfl
  | 60, _ => rfl
  | 61, _ => rfl
  | 62, _ => rfl
  | 63, _ => rfl
  | 64, _ => rfl
  | 65, _ => rfl
  | 66, _ => rfl
  | 67, _ => rfl
  | 68, _ => rfl
  | 69, _ => rfl
  | 70, _ => rfl
  | 71, _ => exact (congrArg (fun f => some (ad2 71, (.inl (cy 0, 6, .inl f) : va_E))) busy6 : _)
  | 72, _ => rfl
  | 73, _ => rfl
  | 74, _ => rfl
  | 75, _ => rfl
  | 76, _ => rfl
  | 77, _ => rfl
  | 78, _ => rfl
  | 79, _ => rfl
  | 80, _ => rfl
  | 81, _ => rfl
  | 82, _ => rfl
  | 83, _ => rfl
  | 84, _ => rfl
  | 85, _ => rfl
  | 86, _ => rfl
  | 87, _ => rfl
  | 88, _ => rfl
  | 89, _ => rfl
  | 90, _ => rfl
  | 91, _ => rfl
  | 92, _ => rfl
  | 93, _ => rfl
  | n + 94, h => exact absurd h (by omega)
theorem world0 {D : va_G} {cy : Nat → ClassId} {ad1 ad2 : Nat → Nat} {q3 : Nat} {A : Nat → Prop} {H : Heap} (hP : va_P D vwCl (Wt cy ad1 ad2 q3) H) (hD : va_D A (Wt cy ad1 ad2 q3)) : inj (adF ad1 ad2 q3) ∧ (∀ j, j < 94 → A (adF ad1 ad2 q3 j)) ∧ va_P D vwCl (wA (adF ad1 ad2 q3) cy V0) H := by
  refine ⟨fun i j hi hj e => ?_, fun j hj => hD.2 _ _ (at0 cy ad1 ad2 q3 j hj), fun k q hk => ?_⟩
  · exact pi0_inj i hi j hj (hD.1 _ _ _ _ (at0 cy ad1 ad2 q3 i hi) (at0 cy ad1 ad2 q3 j hj) e)
  · obtain ⟨hk2, rfl⟩ := wA_at hk
    exact hP _ _ (at0 cy ad1 ad2 q3 k hk2)
