/-! ===== small facts: places, classes, the switch ===== -/
theorem RowAt.l0 {r n : Nat} (h : RowAt r n) : r < 94 := Nat.lt_of_succ_lt h.1
theorem RowAt.l1 {r n : Nat} (h : RowAt r n) : r + 1 < 94 := h.1
theorem PcsAt.l0 {q : Nat} (h : PcsAt q) : q < 94 := by have := h.1; omega
theorem PcsAt.l1 {q : Nat} (h : PcsAt q) : q + 1 < 94 := by have := h.1; omega
theorem PcsAt.l2 {q : Nat} (h : PcsAt q) : q + 2 < 94 := h.1
theorem SrcAt.l0 {b : Nat} (h : SrcAt b) : b < 94 := by have := h.1; omega
theorem inX0 : ∀ w ∈ u_ws RX0 TX0 8, w ∈ WA := by decide +kernel
theorem inX1 : ∀ w ∈ u_ws RX1 TX1 3, w ∈ WA := by decide +kernel
theorem inX2 : ∀ w ∈ u_ws RX2 TX2 3, w ∈ WA := by decide +kernel
theorem inX3 : ∀ w ∈ u_ws RX3 TX3 18, w ∈ WA := by decide +kernel
theorem inX4 : ∀ w ∈ u_ws RX4 TX4 6, w ∈ WA := by decide +kernel
theorem inX5 : ∀ w ∈ u_ws RX5 TX5 35, w ∈ WA := by decide +kernel
section
variable {p : Program} {l : Launch} {e : Env} {R : Room} {s : State} {m : MethodId} {args : Array Value} {below : List Frame} {meth : Method} {c : Code} {cells slots : Nat} {Q : State → Prop} {cc : ByteArray} {nL : Nat} {x0 : Cond} {own : String} {D : va_G} {ad : Nat → Nat} {cy : Nat → ClassId} {A : Nat → Prop}
variable {w : Prop} {V : St} {pc : Nat} {L : List (Option Value)} {st : List Value}
theorem g_ixor (hC : Cx p s m args c cc nL x0 own D ad cy A) {x y : Int32} (d : decode cc pc = .ok (.ixor, 1)) (k : G p l e R s m args below meth c cells slots Q nL D ad cy A w V (pc + 1) L (.int (x ^^^ y) :: st)) : G p l e R s m args below meth c cells slots Q nL D ad cy A w V pc L (.int y :: .int x :: st) := fun hw ls H locs h1 h2 h3 => lv_ixor hC.1.1 hC.1.2.1 d (k hw ls H locs h1 h2 h3)
end
theorem ne_ti {x k : Int32} (h : ¬ x = k) : x.toInt ≠ k.toInt := fun e => h (Int32.toInt_inj.mp e)
theorem sw_out_4 {x : Int32} (h0 : ¬ x = 0) (h1 : ¬ x = 1) (h2 : ¬ x = 2) (h3 : ¬ x = 3) : x.toInt < 0 ∨ 3 < x.toInt := by
  have e0 : x.toInt ≠ 0 := ne_ti h0
  have e1 : x.toInt ≠ 1 := ne_ti h1
  have e2 : x.toInt ≠ 2 := ne_ti h2
  have e3 : x.toInt ≠ 3 := ne_ti h3
  omega
theorem sw_out_11 {x : Int32} (h0 : ¬ x = 0) (h1 : ¬ x = 1) (h2 : ¬ x = 2) (h3 : ¬ x = 3) (h4 : ¬ x = 4) (h5 : ¬ x = 5) (h6 : ¬ x = 6) (h7 : ¬ x = 7) (h8 : ¬ x = 8) (h9 : ¬ x = 9) (h10 : ¬ x = 10) : x.toInt < 0 ∨ 10 < x.toInt := by
  have e0 : x.toInt ≠ 0 := ne_ti h0
  have e1 : x.toInt ≠ 1 := ne_ti h1
  have e2 : x.toInt ≠ 2 := ne_ti h2
  have e3 : x.toInt ≠ 3 := ne_ti h3
  have e4 : x.toInt ≠ 4 := ne_ti h4
  have e5 : x.toInt ≠ 5 := ne_ti h5
  have e6 : x.toInt ≠ 6 := ne_ti h6
  have e7 : x.toInt ≠ 7 := ne_ti h7
  have e8 : x.toInt ≠ 8 := ne_ti h8
  have e9 : x.toInt ≠ 9 := ne_ti h9
  have e10 : x.toInt ≠ 10 := ne_ti h10
  omega
theorem sw_out_12 {x : Int32} (h0 : ¬ x = 0) (h1 : ¬ x = 1) (h2 : ¬ x = 2) (h3 : ¬ x = 3) (h4 : ¬ x = 4) (h5 : ¬ x = 5) (h6 : ¬ x = 6) (h7 : ¬ x = 7) (h8 : ¬ x = 8) (h9 : ¬ x = 9) (h10 : ¬ x = 10) (h11 : ¬ x = 11) : x.toInt < 0 ∨ 11 < x.toInt := by
  have := sw_out_11 h0 h1 h2 h3 h4 h5 h6 h7 h8 h9 h10
  have e11 : x.toInt ≠ 11 := ne_ti h11
  omega
theorem sw_out_13 {x : Int32} (h0 : ¬ x = 0) (h1 : ¬ x = 1) (h2 : ¬ x = 2) (h3 : ¬ x = 3) (h4 : ¬ x = 4) (h5 : ¬ x = 5) (h6 : ¬ x = 6) (h7 : ¬ x = 7) (h8 : ¬ x = 8) (h9 : ¬ x = 9) (h10 : ¬ x = 10) (h11 : ¬ x = 11) (h12 : ¬ x = 12) : x.toInt < 0 ∨ 12 < x.toInt := by
  have := sw_out_12 h0 h1 h2 h3 h4 h5 h6 h7 h8 h9 h10 h11
  have e12 : x.toInt ≠ 12 := ne_ti h12
  omega
/-- a JDK method that the machine has no entry of its own for -/
theorem H_iF {l : Launch} {cc : ByteArray} {nL : Nat} {D : va_G} {ad : Nat → Nat} {cy : Nat → ClassId} {w : Prop} {V : St} {y : MethodName} {rm : Room} {av : List Value} {K : Int32 → St → Prop} {ret : FieldType} (hy : plainFor y = true) (hsl : (lg_sl av).length ≤ nL) (hcat : ∀ x ∈ av, x.category = 1) (hi : inj ad) (body : ∀ (p : Program) (e : Env) (s : State) (m : MethodId) (args : Array Value) (below : List Frame) (meth : Method) (c : Code) (A : Nat → Prop), Cx p s m args c cc nL (Cond.code y cc nL (some ret)) y.cls D ad cy A → meth.sig.returnType = some ret → meth.locks = false → G p l e rm s m args below meth c 0 0 (MQ below (va_Qi K (Bq D ad cy) A) args s 0 0 A) nL D ad cy A w V 0 (L0 av nL) []) (hw : w) : Hi l D ad cy y (Cond.code y cc nL (some ret) :: WA) rm av V K := by
  intro sz
  refine va_MetF (cc := cc) (maxL := nL) (ret := some ret) hy rfl ?_
  intro p e s m args below meth c s₁ B hml hv
  obtain ⟨rfl, rfl, hP, hK, hN⟩ := hv
  have hts := atoms_spec (ws := Cond.code y cc nL (some ret) :: WA) B.pre
  have hown : s.vm.findClass y.cls = some m.cls := findClass_of_methodNamed B.named
  rw [lg_entry_eq]
  exact body p e s m _ below meth c (fr ad s.heap.size) ⟨⟨B.exec, B.bytes, hml, hown, hts⟩, hN, hK, hi, fun j hj => Or.inl ⟨j, hj, rfl⟩, fun q h => Or.inr h⟩ B.returns B.notSynchronized hw _ _ _ (lh_entry av hsl hcat) hP va_S.rf
