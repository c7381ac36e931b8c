/-! ===== the law's own small methods: they catch ===== -/
def Nct (U : State) : Prop := ∀ i ∈ [1, 2, 3, 4], ∀ j ∈ [1, 2, 3, 4], i ≠ j → va_Nc (exN i) (exN j) U
theorem Nct.moved {s U : State} (hvm : s.vm.Alike U.vm) (h : Nct s) : Nct U := fun i hi j hj n => va_Nc.moved hvm (h i hi j hj n)
def Lpre (l : Launch) (D : va_G) (ad : Nat → Nat) (cy : Nat → ClassId) (V : St) (sz : Nat) (U : State) : Prop := Xpre l D ad cy V sz U ∧ Nct U
def Li (l : Launch) (D : va_G) (ad : Nat → Nat) (cy : Nat → ClassId) (y : MethodName) (ws : List Cond) (rm : Room) (mc ms : Nat) (av : List Value) (V : St) (K : Int32 → St → Prop) : Prop := ∀ sz : Nat, vx_Met l y ws rm (va_Pc av (Lpre l D ad cy V sz)) (va_Qi K (Bq D ad cy) (fr ad sz)) (XCx D ad cy (fr ad sz) (fun _ _ => False)) mc ms (fr ad sz)
def ML (y : MethodName) (b : ByteArray) (mL : Nat) (ret : Option FieldType) (hh : List (Nat × Nat × Nat × Nat)) (n : Nat) : Prop := Cond.codeWith y b mL ret hh ∈ WA ∧ Cond.static y ∈ WA ∧ Cond.initialized y.cls ∈ WA ∧ y.cls ≠ "java/lang/invoke/MethodHandle" ∧ y.cls ≠ "java/lang/invoke/VarHandle" ∧ (parseMethodDescriptor y.desc).map (fun d => d.parameters.length) = some n
section LR
variable {p : Program} {l : Launch} {e : Env} {R : Room} {s : State} {m : MethodId} {args : Array Value} {below : List Frame} {meth : Method} {c : Code} {cells slots : Nat} {Q : State → Prop} {cc : ByteArray} {nL : Nat} {x0 : Cond} {own : String} {D : va_G} {ad : Nat → Nat} {cy : Nat → ClassId} {A : Nat → Prop}
variable {w : Prop} {V : St} {pc : Nat} {L : List (Option Value)} {st : List Value} {mc ms : Nat}
theorem Lpre.blind {av : List Value} {sz : Nat} : FrameBlind (va_Pc av (Lpre l D ad cy V sz)) := by
  intro a U g mk q
  obtain ⟨q0, q1, q2⟩ := q
  have := Xpre.blind (l := l) (D := D) (ad := ad) (cy := cy) (V := V) (av := av) (sz := sz) a U g mk ⟨q0, q1⟩
  exact ⟨q0, this.2, Nct.moved (s := U) (U := U.calling g mk a) (Vm.Alike.refl U.vm) q2⟩
theorem L_i {y : MethodName} {rm : Room} {av : List Value} {K : Int32 → St → Prop} {ret : FieldType} {hh : List (Nat × Nat × Nat × Nat)} (hy : plainName y.cls = true) (hsl : (lg_sl av).length ≤ nL) (hcat : ∀ x ∈ av, x.category = 1) (hi : inj ad) (body : ∀ (p : Program) (e : Env) (s : State) (m : MethodId) (args : Array Value) (below : List Frame) (meth : Method) (c : Code) (A : Nat → Prop), Cx p s m args c cc nL (Cond.codeWith y cc nL (some ret) hh) y.cls D ad cy A → meth.sig.returnType = some ret → meth.locks = false → Zb l A s → c.exceptionTable.toList = tableOf hh → Nct s → G p l e rm s m args below meth c 0 0 (vx_MQ below (va_Qi K (Bq D ad cy) A) (XCx D ad cy A (fun _ _ => False)) args s mc ms A) nL D ad cy A w V 0 (L0 av nL) []) (hw : w) : Li l D ad cy y (Cond.codeWith y cc nL (some ret) hh :: WA) rm mc ms av V K := by
  intro sz
  refine vx_ofWH (cc := cc) (maxL := nL) (ret := some ret) (hh := hh) hy rfl ?_
  intro p e s m args below meth c s₁ B hml hv
  obtain ⟨rfl, ⟨rfl, ⟨hP, hK, hN⟩, hZ⟩, hct⟩ := hv
  have hts := atoms_spec (ws := Cond.codeWith y cc nL (some ret) hh :: WA) B.pre
  have hown : s.vm.findClass y.cls = some m.cls := findClass_of_methodNamed B.named
  have htab : c.exceptionTable.toList = tableOf hh := vx_table (x := y) B (hts _ List.mem_cons_self)
  rw [lg_entry_eq]
  exact body p e s m _ below meth c (fr ad s.heap.size) ⟨⟨B.exec, B.bytes, hml, hown, hts⟩, hN, hK, hi, fun j hj => Or.inl ⟨j, hj, rfl⟩, fun q h => Or.inr h⟩ B.returns B.notSynchronized hZ htab hct hw _ _ _ (lh_entry av hsl hcat) hP va_S.rf
theorem Cx.wL (hC : Cx p s m args c cc nL x0 own D ad cy A) {y : MethodName} {b : ByteArray} {mL n index : Nat} {ret : Option FieldType} {hh : List (Nat × Nat × Nat × Nat)} {rm : Room} (hm : ML y b mL ret hh n) (hl : Cond.methodLink own index y ∈ WA) {mc ms : Nat} (hrc : rm.cells = mc) (hrs : rm.slots = ms) (hR : rm.frames + 1 ≤ R.frames ∧ 8 + (mL + 11) + rm.locals ≤ R.locals) : vx_CSW R s args own index y b mL ret hh (Cond.codeWith y b mL ret hh :: WA) rm mc ms n := by
  obtain ⟨h1, h2, h3, h5, h6, h7⟩ := hm
  refine vx_cwSW n hC.1.2.2.2.2 (fun z hz => ?_) rfl hrc hrs ⟨h5, h6, h7⟩ hR
  rcases List.mem_append.mp hz with h | h
  · simp only [List.mem_cons, List.not_mem_nil, or_false] at h
    rcases h with rfl | rfl | rfl
    · exact goodWA hl
    · exact goodWA h2
    · exact goodWA h3
  · rcases List.mem_cons.mp h with rfl | h
    · exact goodWA h1
    · exact goodWA h
/-- a call of one of the law's small methods -/
theorem g_lsi (hC : Cx p s m args c cc nL x0 own D ad cy A) (hz : Zb l A s) (hct : Nct s) {y : MethodName} {b : ByteArray} {mL n index : Nat} {ret : Option FieldType} {hh : List (Nat × Nat × Nat × Nat)} {rm : Room} {As rest : List Value} {K : Int32 → St → Prop} (hM : w → Li l D ad cy y (Cond.codeWith y b mL ret hh :: WA) rm mc ms As V K) (hm : ML y b mL ret hh n) (hlk : Cond.methodLink own index y ∈ WA) (hrm : rm.cells = mc ∧ rm.slots = ms) (hR : rm.frames + 1 ≤ R.frames ∧ 8 + (mL + 11) + rm.locals ≤ R.locals) (hn : As.length = n) (hst : st = As.reverse ++ rest) (hW : (rest.map fun v => v.category).sum ≤ 8) (hcs : cells + mc ≤ R.cells ∧ slots + ms ≤ R.slots) (d : decode cc pc = .ok (.invokestatic index, 3)) (kk : ∀ r V2, G p l e R s m args below meth c (cells + mc) (slots + ms) Q nL D ad cy A (K r V2) V2 (pc + 3) L (.int r :: rest)) : G p l e R s m args below meth c cells slots Q nL D ad cy A w V pc L st := by
  subst hst
  intro hw ls H locs h1 h2 h3
  exact vx_calli (vx_runSX (As := As) (rest := rest) hC.1 (hM hw H.size) (hC.wL hm hlk hrm.1 hrm.2 hR) ⟨Lpre.blind, fun U hU hW => ⟨rfl, hC.calleeX hz h2 h3 hU hW, hct.moved hW.alike⟩⟩ rfl hn h1.1 rfl (lv_room hW) d hcs) h3 (fun q _ h => hC.fr h3 h) (fun q h => hC.fr h3 h) (fun q _ h => hC.fr h3 h) (fun E ce q9 u t H1 locs1 ht _ hp hb _ _ hS g1 g2 g3 => hp.elim) (fun r V2 t H1 locs1 ht _ hp hb _ _ hS => kk r V2 hp ls H1 locs1 h1 (by rw [← ht]; exact hb) hS)
end LR
