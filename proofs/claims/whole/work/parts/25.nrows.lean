/-! ===== constructors: worlds that grow, as lists of cells ===== -/
def AOs (U : State) : Prop := va_AO "BudgetKernel$Source" U ∧ va_AO "BudgetKernel$BaseTask" U
theorem AOs.moved {s U : State} (hvm : s.vm.Alike U.vm) (h : AOs s) : AOs U := ⟨va_AO.moved hvm h.1, va_AO.moved hvm h.2⟩
def Cn (p : Program) (s : State) (m : MethodId) (args : Array Value) (c : Code) (cc : ByteArray) (nL : Nat) (x : Cond) (own : String) (D : va_G) (cy : Nat → ClassId) (A : Nat → Prop) : Prop :=
  CallFix p m c cc nL s args (x :: WA) own ∧ (∀ w ∈ NW, va_Nw w s) ∧ va_K D vwCl (tyl cy) s ∧ AOs s ∧ (∀ q, s.heap.size ≤ q → A q)
def Nd (p : Program) (l : Launch) (e : Env) (R : Room) (s : State) (m : MethodId) (args : Array Value) (below : List Frame) (meth : Method) (c : Code) (cells slots : Nat) (Q : State → Prop) (nL : Nat) (D : va_G) (A : Nat → Prop) (ws : va_W) (pc : Nat) (L : List (Option Value)) (st : List Value) : Prop :=
  ∀ (ls : Array Slot) (H : Heap) (locs : List Loc), lh ls nL L → va_P D vwCl ws H → va_D A ws → va_S A s.heap H locs → W p l e R s m args below meth c H locs cells slots Q (F0 m pc ls st)
def ap (a b : va_W) : va_W := a ++ b
def fr1 (q sz : Nat) : Nat → Prop := fun z => z = q ∨ sz ≤ z
def Npre (D : va_G) (cy : Nat → ClassId) (q : Nat) (o : va_E) (sz : Nat) (U : State) : Prop := U.heap.size = sz ∧ va_P D vwCl [(q, o)] U.heap ∧ va_K D vwCl (tyl cy) U ∧ (∀ w ∈ NW, va_Nw w U) ∧ AOs U
def HN (l : Launch) (D : va_G) (cy : Nat → ClassId) (y : MethodName) (ws : List Cond) (rm : Room) (mc ms : Nat) (As : List Value) (o : va_E) (Post : Nat → va_W → Prop) : Prop := ∀ q sz : Nat, Met l y ws rm (va_Pc (.ref q :: As) (Npre D cy q o sz)) (va_Qv (Post q) (fun w1 t => va_P D vwCl w1 t.heap ∧ va_D (fr1 q sz) w1) (fr1 q sz)) mc ms (fr1 q sz)
section NR
variable {p : Program} {l : Launch} {e : Env} {R : Room} {s : State} {m : MethodId} {args : Array Value} {below : List Frame} {meth : Method} {c : Code} {cells slots : Nat} {Q : State → Prop} {cc : ByteArray} {nL : Nat} {x0 : Cond} {own : String} {D : va_G} {cy : Nat → ClassId} {A : Nat → Prop}
variable {ws ws2 : va_W} {pc : Nat} {L : List (Option Value)} {st : List Value}
theorem n_iconst (hC : Cn p s m args c cc nL x0 own D cy A) {n : Int} (v : Int32) (d : decode cc pc = .ok (.iconst n, 1)) (hv : Int32.ofInt n = v) (k : Nd p l e R s m args below meth c cells slots Q nL D A ws (pc + 1) L (.int v :: st)) : Nd p l e R s m args below meth c cells slots Q nL D A ws pc L st := fun ls H locs h1 h2 h3 h4 => lv_iconst hC.1.1 hC.1.2.1 d hv (k ls H locs h1 h2 h3 h4)
theorem n_bipush (hC : Cn p s m args c cc nL x0 own D cy A) {n : Int} (v : Int32) (d : decode cc pc = .ok (.bipush n, 2)) (hv : (Int8.ofInt n).toInt32 = v) (k : Nd p l e R s m args below meth c cells slots Q nL D A ws (pc + 2) L (.int v :: st)) : Nd p l e R s m args below meth c cells slots Q nL D A ws pc L st := fun ls H locs h1 h2 h3 h4 => lv_bipush hC.1.1 hC.1.2.1 d hv (k ls H locs h1 h2 h3 h4)
theorem n_sipush (hC : Cn p s m args c cc nL x0 own D cy A) {n : Int} (v : Int32) (d : decode cc pc = .ok (.sipush n, 3)) (hv : (Int16.ofInt n).toInt32 = v) (k : Nd p l e R s m args below meth c cells slots Q nL D A ws (pc + 3) L (.int v :: st)) : Nd p l e R s m args below meth c cells slots Q nL D A ws pc L st := fun ls H locs h1 h2 h3 h4 => lv_sipush hC.1.1 hC.1.2.1 d hv (k ls H locs h1 h2 h3 h4)
theorem n_iload_n (hC : Cn p s m args c cc nL x0 own D cy A) {k : Fin 4} {x : Int32} (d : decode cc pc = .ok (.iload_n k, 1)) (h : L[(k : Nat)]? = some (some (.int x))) (kk : Nd p l e R s m args below meth c cells slots Q nL D A ws (pc + 1) L (.int x :: st)) : Nd p l e R s m args below meth c cells slots Q nL D A ws pc L st := fun ls H locs h1 h2 h3 h4 => lv_iload_n hC.1.1 hC.1.2.1 d rfl (h1.2.2 _ _ h).2 (kk ls H locs h1 h2 h3 h4)
theorem n_aload_n (hC : Cn p s m args c cc nL x0 own D cy A) {k : Fin 4} {x : Nat} (d : decode cc pc = .ok (.aload_n k, 1)) (h : L[(k : Nat)]? = some (some (.ref x))) (kk : Nd p l e R s m args below meth c cells slots Q nL D A ws (pc + 1) L (.ref x :: st)) : Nd p l e R s m args below meth c cells slots Q nL D A ws pc L st := fun ls H locs h1 h2 h3 h4 => lv_aload_n hC.1.1 hC.1.2.1 d rfl (h1.2.2 _ _ h).2 (kk ls H locs h1 h2 h3 h4)
theorem n_istore_n (hC : Cn p s m args c cc nL x0 own D cy A) {k : Fin 4} {x : Int32} {L2 : List (Option Value)} (d : decode cc pc = .ok (.istore_n k, 1)) (hn : (k : Nat) < nL) (hL : L.set k (some (.int x)) = L2) (kk : Nd p l e R s m args below meth c cells slots Q nL D A ws (pc + 1) L2 st) : Nd p l e R s m args below meth c cells slots Q nL D A ws pc L (.int x :: st) := by
  subst hL
  exact fun ls H locs h1 h2 h3 h4 => lv_istore_n hC.1.1 hC.1.2.1 d rfl (lh_has h1) hn rfl (fun ls2 h5 => kk ls2 H locs (lh_set h1 rfl h5) h2 h3 h4)
theorem n_istore (hC : Cn p s m args c cc nL x0 own D cy A) {i : Nat} {x : Int32} {L2 : List (Option Value)} (d : decode cc pc = .ok (.istore i, 2)) (hn : i < nL) (hL : L.set i (some (.int x)) = L2) (kk : Nd p l e R s m args below meth c cells slots Q nL D A ws (pc + 2) L2 st) : Nd p l e R s m args below meth c cells slots Q nL D A ws pc L (.int x :: st) := by
  subst hL
  exact fun ls H locs h1 h2 h3 h4 => lv_istore hC.1.1 hC.1.2.1 d (lh_has h1) hn rfl (fun ls2 h5 => kk ls2 H locs (lh_set h1 rfl h5) h2 h3 h4)
theorem n_astore_n (hC : Cn p s m args c cc nL x0 own D cy A) {k : Fin 4} {x : Nat} {L2 : List (Option Value)} (d : decode cc pc = .ok (.astore_n k, 1)) (hn : (k : Nat) < nL) (hL : L.set k (some (.ref x)) = L2) (kk : Nd p l e R s m args below meth c cells slots Q nL D A ws (pc + 1) L2 st) : Nd p l e R s m args below meth c cells slots Q nL D A ws pc L (.ref x :: st) := by
  subst hL
  exact fun ls H locs h1 h2 h3 h4 => lv_astore_n hC.1.1 hC.1.2.1 d rfl (lh_has h1) hn rfl (fun ls2 h5 => kk ls2 H locs (lh_set h1 rfl h5) h2 h3 h4)
theorem n_iinc (hC : Cn p s m args c cc nL x0 own D cy A) {i : Nat} {n : Int} {x : Int32} (v : Int32) {L2 : List (Option Value)} (d : decode cc pc = .ok (.iinc i n, 3)) (h : L[i]? = some (some (.int x))) (hv : x + Int32.ofInt n = v) (hn : i < nL) (hL : L.set i (some (.int v)) = L2) (kk : Nd p l e R s m args below meth c cells slots Q nL D A ws (pc + 3) L2 st) : Nd p l e R s m args below meth c cells slots Q nL D A ws pc L st := by
  subst hL
  intro ls H locs h1 h2 h3 h4
  obtain ⟨k, hk⟩ := List.getElem?_of_mem (pr_mem.mpr h : (i, Value.int x) ∈ pr L)
  exact lv_iinc hC.1.1 hC.1.2.1 d (lh_has h1) hk hv hn rfl (fun ls2 h5 => kk ls2 H locs (lh_set h1 rfl h5) h2 h3 h4)
theorem n_dup (hC : Cn p s m args c cc nL x0 own D cy A) {v : Value} (d : decode cc pc = .ok (.dup, 1)) (hv : v.category = 1) (k : Nd p l e R s m args below meth c cells slots Q nL D A ws (pc + 1) L (v :: v :: st)) : Nd p l e R s m args below meth c cells slots Q nL D A ws pc L (v :: st) := fun ls H locs h1 h2 h3 h4 => lv_dup hC.1.1 hC.1.2.1 d hv (k ls H locs h1 h2 h3 h4)
theorem n_goto (hC : Cn p s m args c cc nL x0 own D cy A) {off : Int} {tgt : Nat} (d : decode cc pc = .ok (.goto off, 3)) (ht : (pc : Int) + off = (tgt : Int)) (k : Nd p l e R s m args below meth c cells slots Q nL D A ws tgt L st) : Nd p l e R s m args below meth c cells slots Q nL D A ws pc L st := fun ls H locs h1 h2 h3 h4 => lv_goto hC.1.1 hC.1.2.1 d ht (k ls H locs h1 h2 h3 h4)
theorem n_ge_t (hC : Cn p s m args c cc nL x0 own D cy A) {x y : Int32} {off : Int} {tgt : Nat} (d : decode cc pc = .ok (.if_icmp .ge off, 3)) (ht : (pc : Int) + off = (tgt : Int)) (h : y ≤ x) (k : Nd p l e R s m args below meth c cells slots Q nL D A ws tgt L st) : Nd p l e R s m args below meth c cells slots Q nL D A ws pc L (.int y :: .int x :: st) := fun ls H locs h1 h2 h3 h4 => lv_icmp_ge hC.1.1 hC.1.2.1 d ht (fun _ => k ls H locs h1 h2 h3 h4) (fun n => absurd h n)
theorem n_ge_f (hC : Cn p s m args c cc nL x0 own D cy A) {x y : Int32} {off : Int} {tgt : Nat} (d : decode cc pc = .ok (.if_icmp .ge off, 3)) (ht : (pc : Int) + off = (tgt : Int)) (h : ¬ y ≤ x) (k : Nd p l e R s m args below meth c cells slots Q nL D A ws (pc + 3) L st) : Nd p l e R s m args below meth c cells slots Q nL D A ws pc L (.int y :: .int x :: st) := fun ls H locs h1 h2 h3 h4 => lv_icmp_ge hC.1.1 hC.1.2.1 d ht (fun n => absurd n h) (fun _ => k ls H locs h1 h2 h3 h4)
theorem Cn.mem (hC : Cn p s m args c cc nL x0 own D cy A) {z : Cond} (h : z ∈ WA) : z.before args s = true := hC.1.2.2.2.2 _ (List.mem_cons_of_mem _ h)
theorem n_obj (hC : Cn p s m args c cc nL x0 own D cy A) {idx a : Nat} (hlk : Cond.methodLink own idx objectInit ∈ WA) (hin : Cond.instanceMethod objectInit ∈ WA) (hcd : Cond.code objectInit ⟨#[0xb1]⟩ 1 none ∈ WA) (d : decode cc pc = .ok (.invokespecial idx, 3)) (hfr : 1 ≤ R.frames) (hlo : (st.map fun v => v.category).sum + 12 ≤ R.locals) (k : Nd p l e R s m args below meth c cells slots Q nL D A ws (pc + 3) L st) : Nd p l e R s m args below meth c cells slots Q nL D A ws pc L (.ref a :: st) := by
  intro ls H locs h1 h2 h3 h4
  exact W.objInit hC.1.1 hC.1.2.1 hC.1.2.2.2.1 (hC.mem hlk) (hC.mem hin) (hC.mem hcd) rfl (by rw [hC.1.2.2.1]; exact h1.1) rfl d hfr (by show 2 * 0 + _ + 12 ≤ _; omega) (W.eq (g2 := F0 m (pc + 3) ls st) rfl (k ls H locs h1 h2 h3 h4))
/-- a class of the list, that can be made -/
def MK (own : String) (index ci N : Nat) (fs : List Value) : Prop := ∃ (C : String) (T : u_T) (ty : Nat → FieldType), vwCl[ci]? = some (C, T, N) ∧ (∀ w ∈ u_ws C T N, w ∈ WA) ∧ (∀ k, k < N → parseFieldDescriptor (T k).2.2.1 = some (ty k)) ∧ Cond.classLink own index C ∈ WA ∧ Cond.instantiable C N ∈ WA ∧ Cond.initialized C ∈ WA ∧ ∀ j, j < N → defaultValue (ty j) = vp_V fs j
theorem n_new (hC : Cn p s m args c cc nL x0 own D cy A) {index ci N : Nat} {fs : List Value} (hm : MK own index ci N fs) (hc : cells + 1 ≤ R.cells) (hs : slots + N ≤ R.slots) (d : decode cc pc = .ok (.new index, 3)) (k : ∀ q, Nd p l e R s m args below meth c (cells + 1) (slots + N) Q nL D A (ap ws [(q, .inr (ci, fs))]) (pc + 3) L (.ref q :: st)) : Nd p l e R s m args below meth c cells slots Q nL D A ws pc L st := by
  obtain ⟨C, T, ty, m1, m2, m3, m4, m5, m6, m7⟩ := hm
  exact fun ls H locs h1 h2 h3 h4 => va_new hC.1.1 hC.1.2.1 hC.1.2.2.2.2 (fun z hz => List.mem_cons_of_mem _ (m2 z hz)) ty m3 hC.1.2.2.2.1 (hC.mem m4) (hC.mem m5) (hC.mem m6) hC.2.2.1 h2 h3 h4 hC.2.2.2.2 m1 m7 hc hs d (fun q H1 g1 g2 g3 => k q ls H1 locs h1 g1 g2 g3)
theorem ra_int {U : State} {cA : ClassId} {t : FieldType} (ht : t = .int ∨ t = .byte ∨ t = .boolean ∨ t = .long) (h : va_RA U cA t) : U.vm.findClass ("[" ++ t.toString) = some cA := by rcases ht with rfl | rfl | rfl | rfl <;> exact h
theorem n_newa (hC : Cn p s m args c cc nL x0 own D cy A) {atype : ArrayType} (t : Nat) {ty : FieldType} (hty : newarray.typeOf atype = ty) (hp4 : ty = .int ∨ ty = .byte ∨ ty = .boolean ∨ ty = .long) (htl : (tyl cy)[t]? = some (cy t, ty)) (hcl : Cond.arrayClass (newarray.typeOf atype) ∈ WA) {n : Int32} {N' : Nat} {a0 : vp_A} (ha : ∀ cA : ClassId, vp_cell cA a0 = arrV cA N' (fun _ => defaultValue ty)) (hn : ¬ n < 0) (hN : n.toNatClampNeg = N') (hby : N' * componentBytes ty ≤ 536870912) (hc : cells + 1 ≤ R.cells) (hs : slots + N' ≤ R.slots) (d : decode cc pc = .ok (.newarray atype, 2)) (k : ∀ q, Nd p l e R s m args below meth c (cells + 1) (slots + N') Q nL D A (ap ws [(q, .inl (cy t, a0))]) (pc + 2) L (.ref q :: st)) : Nd p l e R s m args below meth c cells slots Q nL D A ws pc L (.int n :: st) := by
  intro ls H locs h1 h2 h3 h4
  refine va_newa hC.1.1 hC.1.2.1 (hC.mem hcl) hty hC.2.2.1 h2 h3 h4 hC.2.2.2.2 ha hn hN hby hc hs d (fun q cA H1 gK g1 g2 g3 => ?_)
  have e1 := ra_int hp4 ((gK.2 (tyl cy).length (cA, ty) (by simp)).2)
  have e2 := ra_int hp4 ((hC.2.2.1.2 t _ htl).2)
  have e3 : cA = cy t := Option.some.inj (e1.symm.trans e2)
  subst e3
  exact k q ls H1 locs h1 g1 g2 g3
theorem n_newq (hC : Cn p s m args c cc nL x0 own D cy A) (t : Nat) {C : String} {index : Nat} (hao : va_AO C s) (htl : (tyl cy)[t]? = some (cy t, .object C)) (hcl : Cond.classLink own index C ∈ WA) {n : Int32} {N' : Nat} (hn : ¬ n < 0) (hN : n.toNatClampNeg = N') (hby : N' * 4 ≤ 536870912) (hc : cells + 1 ≤ R.cells) (hs : slots + N' ≤ R.slots) (d : decode cc pc = .ok (.anewarray index, 3)) (k : ∀ q, Nd p l e R s m args below meth c (cells + 1) (slots + N') Q nL D A (ap ws [(q, .inl (cy t, N', .inr (.inr (.inr (.inr (fun _ => none))))))]) (pc + 3) L (.ref q :: st)) : Nd p l e R s m args below meth c cells slots Q nL D A ws pc L (.int n :: st) := by
  intro ls H locs h1 h2 h3 h4
  refine va_newq hC.1.1 hC.1.2.1 hC.1.2.2.2.1 (hC.mem hcl) hao hC.2.2.1 h2 h3 h4 hC.2.2.2.2 hn hN hby hc hs d (fun q cA H1 gK g1 g2 g3 => ?_)
  obtain ⟨_, _, -, -, -, e1⟩ := (gK.2 (tyl cy).length (cA, .object C) (by simp)).2
  obtain ⟨_, _, -, -, -, e2⟩ := (hC.2.2.1.2 t _ htl).2
  have e3 : cA = cy t := Option.some.inj (e1.symm.trans e2)
  subst e3
  exact k q ls H1 locs h1 g1 g2 g3
/-- a final field's link, in its constructor -/
def FF (own : String) (index ci k : Nat) (ty : FieldType) (b : Bool) : Prop := ∃ (C : String) (T : u_T) (N : Nat) (ty0 : Nat → FieldType), vwCl[ci]? = some (C, T, N) ∧ k < N ∧ (∀ w ∈ u_ws C T N, w ∈ WA) ∧ Cond.fieldLink own index (T k).1 (T k).2.1 (T k).2.2.1 ∈ WA ∧ (T k).2.2.2 = b ∧ (T k).1 = own ∧ parseFieldDescriptor (T k).2.2.1 = some ty ∧ (∀ k, k < N → parseFieldDescriptor (T k).2.2.1 = some (ty0 k)) ∧ (∀ a, a < N → ∀ b, b < N → a ≠ b → (T a).2.1 ≠ (T b).2.1)
theorem n_putF (hC : Cn p s m args c cc nL x0 own D cy A) (hin : meth.name = "<init>") {index ci k a q0 : Nat} {ty : FieldType} {v : Value} {fs : List Value} (hf : FF own index ci k ty true) (he : ws[q0]? = some (a, .inr (ci, fs))) (hn : narrow ty v = v) (hfit : fits ty v = true) (hl : k < fs.length) (hs : ws.set q0 (a, .inr (ci, fs.set k v)) = ws2) (d : decode cc pc = .ok (.putfield index, 3)) (kk : Nd p l e R s m args below meth c cells slots Q nL D A ws2 (pc + 3) L st) : Nd p l e R s m args below meth c cells slots Q nL D A ws pc L (v :: .ref a :: st) := by
  subst hs
  obtain ⟨C, T, N, ty0, f1, f2, f3, f4, f5, f6, f7, f8, f9⟩ := hf
  exact fun ls H locs h1 h2 h3 h4 => va_putF hC.1.1 hC.1.2.1 hC.1.2.2.2.2 (fun z hz => List.mem_cons_of_mem _ (f3 z hz)) ty0 f8 f9 hC.1.2.2.2.1 hC.2.2.1 h2 h3 h4 q0 he f1 k f2 (hC.mem f4) (fun _ h9 => h9) f5 hin f6 f7 hn hfit hl d (fun H1 locs1 g1 g2 g3 => kk ls H1 locs1 h1 g1 g2 g3)
theorem n_put (hC : Cn p s m args c cc nL x0 own D cy A) {index ci k a q0 : Nat} {ty : FieldType} {v : Value} {fs : List Value} (hf : FF own index ci k ty false) (he : ws[q0]? = some (a, .inr (ci, fs))) (hn : narrow ty v = v) (hfit : fits ty v = true) (hl : k < fs.length) (hs : ws.set q0 (a, .inr (ci, fs.set k v)) = ws2) (d : decode cc pc = .ok (.putfield index, 3)) (kk : Nd p l e R s m args below meth c cells slots Q nL D A ws2 (pc + 3) L st) : Nd p l e R s m args below meth c cells slots Q nL D A ws pc L (v :: .ref a :: st) := by
  subst hs
  obtain ⟨C, T, N, ty0, f1, f2, f3, f4, f5, f6, f7, f8, f9⟩ := hf
  exact fun ls H locs h1 h2 h3 h4 => va_put hC.1.1 hC.1.2.1 hC.1.2.2.2.2 (fun z hz => List.mem_cons_of_mem _ (f3 z hz)) ty0 f8 f9 hC.1.2.2.2.1 hC.2.2.1 h2 h3 h4 q0 he f1 k f2 (hC.mem f4) (fun _ h9 => h9) f5 f7 hn hfit hl d (fun H1 locs1 g1 g2 g3 => kk ls H1 locs1 h1 g1 g2 g3)
theorem n_get (hC : Cn p s m args c cc nL x0 own D cy A) {index ci k a q0 : Nat} {v : Value} {fs : List Value} (hf : FL own index ci k) (he : ws[q0]? = some (a, .inr (ci, fs))) (hv : fs[k]? = some v) (d : decode cc pc = .ok (.getfield index, 3)) (kk : Nd p l e R s m args below meth c cells slots Q nL D A ws (pc + 3) L (v :: st)) : Nd p l e R s m args below meth c cells slots Q nL D A ws pc L (.ref a :: st) := by
  obtain ⟨C, T, N, hc, hk, hin, hlk⟩ := hf
  intro ls H locs h1 h2 h3 h4
  rcases hlk with hlk | ⟨host, hlk⟩
  · exact va_get hC.1.1 hC.1.2.1 hC.1.2.2.2.2 (fun z hz => List.mem_cons_of_mem _ (hin z hz)) hC.1.2.2.2.1 hC.2.2.1 h2 q0 he hc k hk (hC.mem hlk) (fun _ h9 => h9) hv d (kk ls H locs h1 h2 h3 h4)
  · exact va_getN hC.1.1 hC.1.2.1 hC.1.2.2.2.2 (fun z hz => List.mem_cons_of_mem _ (hin z hz)) hC.1.2.2.2.1 hC.2.2.1 h2 q0 he hc k hk (nw_use hlk (hC.2.1 _ hlk)) (fun _ h9 => h9) hv d (kk ls H locs h1 h2 h3 h4)
theorem n_aast (hC : Cn p s m args c cc nL x0 own D cy A) (q0 t qk ci : Nat) {r : vw_C} {n v a : Nat} {vs : List Value} {f : Nat → Option Nat} (ha : ws[q0]? = some (a, .inl (cy t, n, .inr (.inr (.inr (.inr f)))))) (ht : (tyl cy)[t]? = some (cy t, .object r.1)) (hv : ws[qk]? = some (v, .inr (ci, vs))) (hc : vwCl[ci]? = some r) {i : Int32} (hin : vp_in i n) (hs : ws.set q0 (a, .inl (cy t, n, .inr (.inr (.inr (.inr (va_up f i.toNatClampNeg (some v))))))) = ws2) (d : decode cc pc = .ok (.aastore, 1)) (kk : Nd p l e R s m args below meth c cells slots Q nL D A ws2 (pc + 1) L st) : Nd p l e R s m args below meth c cells slots Q nL D A ws pc L (.ref v :: .int i :: .ref a :: st) := by
  subst hs
  exact fun ls H locs h1 h2 h3 h4 => va_astq hC.1.1 hC.1.2.1 hC.2.2.1 h2 h3 h4 q0 t qk ci ha ht hv hc hin d (fun H1 locs1 g1 g2 g3 => kk ls H1 locs1 h1 g1 g2 g3)
theorem n_iast (hC : Cn p s m args c cc nL x0 own D cy A) (q0 : Nat) {n a : Nat} {f : Nat → Int32} (ha : ws[q0]? = some (a, .inl (cy 0, n, .inl f))) {i x : Int32} (hin : vp_in i n) (hs : ws.set q0 (a, .inl (cy 0, n, .inl (upd f i.toNatClampNeg x))) = ws2) (d : decode cc pc = .ok (.iastore, 1)) (kk : Nd p l e R s m args below meth c cells slots Q nL D A ws2 (pc + 1) L st) : Nd p l e R s m args below meth c cells slots Q nL D A ws pc L (.int x :: .int i :: .ref a :: st) := by
  subst hs
  exact fun ls H locs h1 h2 h3 h4 => va_iast hC.1.1 hC.1.2.1 hC.2.2.1 h2 h3 h4 q0 0 ha rfl hin d (fun H1 locs1 g1 g2 g3 => kk ls H1 locs1 h1 g1 g2 g3)
theorem n_join {q : Nat} {o : va_E} {w1 : va_W} {H H1 : Heap} (hP : va_P D vwCl (ws ++ [(q, o)]) H) (hD : va_D A (ws ++ [(q, o)])) (hA : ∀ z, H.size ≤ z → A z) (hk : ∀ z : Nat, z < H.size → ¬ fr1 q H.size z → H1[z]? = H[z]?) (hP1 : va_P D vwCl w1 H1) (hD1 : va_D (fr1 q H.size) w1) : va_P D vwCl (ws ++ w1) H1 ∧ va_D A (ws ++ w1) := by
  have hlast : (ws ++ [(q, o)])[ws.length]? = some (q, o) := by simp
  have hin : ∀ (k : Nat) (x : Nat × va_E), ws[k]? = some x → (ws ++ [(q, o)])[k]? = some x := fun k x h => by
    rw [List.getElem?_append_left (List.getElem?_eq_some_iff.mp h).1]; exact h
  have apart : ∀ (k : Nat) (x : Nat × va_E), ws[k]? = some x → x.1 < H.size ∧ ¬ fr1 q H.size x.1 := by
    intro k x h
    have hl := (hP k x (hin k x h)).lt
    refine ⟨hl, fun z => ?_⟩
    rcases z with z | z
    · have := hD.1 k ws.length x (q, o) (hin k x h) hlast z
      have := (List.getElem?_eq_some_iff.mp h).1
      omega
    · omega
  have hq : A q := hD.2 ws.length (q, o) hlast
  refine ⟨va_P.app (fun k x hx => (hP k x (hin k x hx)).kept (hk x.1 (apart k x hx).1 (apart k x hx).2)) hP1, va_D.app ⟨fun i j x y hx hy e => hD.1 i j x y (hin i x hx) (hin j y hy) e, fun k x hx => hD.2 k x (hin k x hx)⟩ (hD1.weaken (fun k x _ h => ?_)) (fun i j x y hx hy e => ?_)⟩
  · rcases h with h | h
    · rw [h]; exact hq
    · exact hA _ h
  · exact (apart i x hx).2 (by rw [e]; exact hD1.2 j y hy)
theorem Npre.blind {av : List Value} {q sz : Nat} {o : va_E} : FrameBlind (va_Pc av (Npre D cy q o sz)) := by
  intro a U g mk z
  obtain ⟨z0, z1, zP, zK, zN, zA⟩ := z
  exact ⟨z0, z1, zP, va_K.moved (u := U) (U := U.calling g mk a) (Vm.Alike.refl U.vm) zK, fun w hw => nw_calling hw (zN w hw), AOs.moved (s := U) (U := U.calling g mk a) (Vm.Alike.refl U.vm) zA⟩
/-- a constructor's words -/
def MN (y : MethodName) (b : ByteArray) (mL n : Nat) : Prop := Cond.code y b mL none ∈ WA ∧ Cond.instanceMethod y ∈ WA ∧ Cond.initialized y.cls ∈ WA ∧ y.name = "<init>" ∧ y.cls ≠ "java/lang/invoke/MethodHandle" ∧ y.cls ≠ "java/lang/invoke/VarHandle" ∧ (parseMethodDescriptor y.desc).map (fun d => d.parameters.length) = some n
theorem n_init (hC : Cn p s m args c cc nL x0 own D cy A) {y : MethodName} {b : ByteArray} {mL n index mc ms q : Nat} {rm : Room} {As rest : List Value} {o : va_E} {Post : Nat → va_W → Prop} (hM : HN l D cy y (Cond.code y b mL none :: WA) rm mc ms As o Post) (hm : MN y b mL n) (hlk : Cond.methodLink own index y ∈ WA ∨ ∃ host, Cond.methodLinkNest own index y host ∈ NW) (hrm : rm.cells = mc ∧ rm.slots = ms) (hR : rm.frames + 1 ≤ R.frames ∧ 8 + (mL + 11) + rm.locals ≤ R.locals) (hn : As.length = n) (hst : st = As.reverse ++ .ref q :: rest) (hW : (rest.map fun v => v.category).sum ≤ 8) (hcs : cells + mc ≤ R.cells ∧ slots + ms ≤ R.slots) (d : decode cc pc = .ok (.invokespecial index, 3)) (kk : ∀ w1, Post q w1 → Nd p l e R s m args below meth c (cells + mc) (slots + ms) Q nL D A (ap ws w1) (pc + 3) L rest) : Nd p l e R s m args below meth c cells slots Q nL D A (ap ws [(q, o)]) pc L st := by
  subst hst
  unfold ap at *
  intro ls H locs h1 h2 h3 h4
  obtain ⟨m1, m2, m3, m4, m5, m6, m7⟩ := hm
  have hsz : ∀ z, H.size ≤ z → A z := fun z hz => hC.2.2.2.2 z (Nat.le_trans h4.1 hz)
  have hq : A q := h3.2 ws.length (q, o) (by simp)
  have hfr : ∀ z, fr1 q H.size z → A z := fun z hz => hz.elim (fun e => e ▸ hq) (fun h => hsz z h)
  have hPq : va_P D vwCl [(q, o)] H := fun k x hx => h2 (ws.length + k) x (by rw [List.getElem?_append_right (by omega), Nat.add_sub_cancel_left]; exact hx)
  have hpre : ∀ U : State, U.heap = H → s.WarmedH U.vm → va_Pc (.ref q :: As) (Npre D cy q o H.size) (Value.ref q :: As).toArray U := fun U hU hW => ⟨rfl, by rw [hU], by rw [hU]; exact hPq, va_K.moved hW.alike hC.2.2.1, fun z hz => nw_warm hz hW (hC.2.1 z hz), hC.2.2.2.1.moved hW.alike⟩
  have done : va_Run p l e R s m args below meth c H locs cells slots mc ms (F0 m pc ls (As.reverse ++ .ref q :: rest)) rest (va_Qv (Post q) (fun w1 t => va_P D vwCl w1 t.heap ∧ va_D (fr1 q H.size) w1) (fr1 q H.size) (Value.ref q :: As).toArray) (fr1 q H.size) := by
    rcases hlk with hlk | ⟨host, hlk⟩
    · exact va_runI (As := As) (rest := rest) hC.1 (hM q H.size) (cwI n hC.1.2.2.2.2 (goodCode m1) rfl hrm.1 hrm.2 (hC.mem m3) (hC.mem hlk) (hC.mem m2) m4 ⟨m5, m6, m7⟩ hR) ⟨Npre.blind, hpre⟩ rfl hn h1.1 rfl (lv_room hW) d hcs
    · exact va_runIN (As := As) (rest := rest) hC.1 (hM q H.size) ⟨va_cnB (host := host) n hC.1.2.2.2.2 (goodCode m1) rfl hrm.1 hrm.2 (hC.2.1 _ hlk) (hC.mem m3) ⟨m5, m6, m7⟩ hR, m4, hC.mem m2⟩ ⟨Npre.blind, hpre⟩ rfl hn h1.1 rfl (lv_room hW) d hcs
  refine va_callv done h4 (fun z _ hz => hfr z hz) hfr (fun w1 t H1 locs1 ht _ hp hb _ hk hS => ?_)
  obtain ⟨hb1, hb2⟩ := hb
  rw [ht] at hb1
  obtain ⟨j1, j2⟩ := n_join h2 h3 hsz hk hb1 hb2
  exact kk w1 hp ls H1 locs1 h1 j1 j2 hS
theorem n_ret (hC : Cn p s m args c cc nL x0 own D cy A) (hr : meth.sig.returnType = none) (hlk : meth.locks = false) {Post : va_W → Prop} {mc ms : Nat} (hp : Post ws) (hc : cells ≤ mc) (hs : slots ≤ ms) (d : decode cc pc = .ok (.return_, 1)) : Nd p l e R s m args below meth c cells slots (MQ below (va_Qv Post (fun w1 t => va_P D vwCl w1 t.heap ∧ va_D A w1) A) args s mc ms A) nL D A ws pc L [] := fun ls H locs h1 h2 h3 h4 => W.widen hc hs (W.vret hC.1.1 hC.1.2.1 hr (fun t ht hW => ⟨⟨ws, rfl, hp, by rw [ht]; exact h2, h3⟩, h4.F ht⟩) h4.2.2 d hlk)
theorem N_i {y : MethodName} {rm : Room} {As : List Value} {o : va_E} {Post : Nat → va_W → Prop} {mc ms : Nat} (hy : plainName y.cls = true) (hsl : ∀ q, (lg_sl (.ref q :: As)).length ≤ nL) (hcat : ∀ x ∈ As, x.category = 1) (hin : y.name = "<init>") (body : ∀ (q : Nat) (p : Program) (e : Env) (s : State) (m : MethodId) (args : Array Value) (below : List Frame) (meth : Method) (c : Code) (A : Nat → Prop), Cn p s m args c cc nL (Cond.code y cc nL none) y.cls D cy A → meth.sig.returnType = none → meth.locks = false → meth.name = "<init>" → Nd p l e rm s m args below meth c 0 0 (MQ below (va_Qv (Post q) (fun w1 t => va_P D vwCl w1 t.heap ∧ va_D A w1) A) args s mc ms A) nL D A [(q, o)] 0 (L0 (.ref q :: As) nL) []) : HN l D cy y (Cond.code y cc nL none :: WA) rm mc ms As o Post := by
  intro q sz
  refine Met.ofW (cc := cc) (maxL := nL) (ret := none) hy rfl ?_
  intro p e s m args below meth c s₁ B hml hv
  obtain ⟨rfl, rfl, hP, hK, hN, hA⟩ := hv
  have hts := atoms_spec (ws := Cond.code y cc nL none :: WA) B.pre
  have hown : s.vm.findClass y.cls = some m.cls := findClass_of_methodNamed B.named
  have hnm : meth.name = "<init>" := (name_of_methodNamed B.named B.method).1.trans hin
  rw [lg_entry_eq]
  exact body q p e s m _ below meth c (fr1 q s.heap.size) ⟨⟨B.exec, B.bytes, hml, hown, hts⟩, hN, hK, hA, fun z h => Or.inr h⟩ B.returns B.notSynchronized hnm _ _ _ (lh_entry (.ref q :: As) (hsl q) (List.forall_mem_cons.mpr ⟨rfl, hcat⟩)) hP ⟨fun i j x y hx hy e => by have := (List.getElem?_eq_some_iff.mp hx).1; have := (List.getElem?_eq_some_iff.mp hy).1; simp at *; omega, fun k x hx => by cases k with | zero => simp at hx; subst hx; exact Or.inl rfl | succ k => simp at hx⟩ va_S.rf
end NR
