/-! ===== a throw of a callee, caught by a row of the caller's table ===== -/
section SR
variable {e : Env} {f : JFrame} {a : Addr}
/-- one row whose range holds the pc and whose type links: it takes the object, or the search goes on; the link is noted -/
theorem sr_row {Q : Handler → Pre} {E : CtlPost} {d : Bool} {acts : List Action} {s : State} {x : ExceptionTableEntry} {t : List ExceptionTableEntry} {c : ClassId} {cell : Cell} (hx : covers x f.pc = true) (h0 : x.catchType ≠ 0) (hl : s.vm.ClassLinks e.platform f.method.cls x.catchType c) (hcell : s.heap[a]? = some cell) (hobj : ∀ k, cell.vm ≠ .statics k) (hk : ∃ k, s.vm.classes[cell.cls]? = some k) (hc : ∃ k, s.vm.classes[c]? = some k) :
    wp (findHandler.go f a (x :: t)) Q E e d acts s ↔ if s.vm.assignable cell.cls c = true then Q (.found x.handlerPc) d acts (s.setVm (s.vm.noted f.method.cls x.catchType (.cls c))) else wp (findHandler.go f a t) Q E e d acts (s.setVm (s.vm.noted f.method.cls x.catchType (.cls c))) := by
  simp only [covers] at hx
  obtain ⟨z1, z2⟩ := (resolveClass_links e.toSetting hl).op (op := VmOp.resolveClass f.method.cls x.catchType) rfl
  have hal : s.vm.Alike (s.vm.noted f.method.cls x.catchType (.cls c)) := (Vm.Alike.refl s.vm).noted _ _ _
  obtain ⟨_, hk1⟩ := hk
  obtain ⟨_, hk2⟩ := hc
  obtain ⟨_, y1, -⟩ := hal.2.2 _ _ hk1
  obtain ⟨_, y2, -⟩ := hal.2.2 _ _ hk2
  have hsame : (s.vm.noted f.method.cls x.catchType (.cls c)).assignable cell.cls c = s.vm.assignable cell.cls c := hal.assignable ..
  cases hfit : s.vm.assignable cell.cls c <;> rw [hfit] at hsame <;> simp [findHandler.go, hx, h0, z1, z2, hcell, hobj, y1, y2, hsame, VmOp.dirties, VmOp.acts]
/-- what a row's words give: the class that it links, and whether the thrown class is one of it -/
def sr_Ln (pl : Platform) (s₀ : State) (k : ClassId) (E : ClassId) (b : Bool) (x : ExceptionTableEntry) : Prop := x.catchType ≠ 0 ∧ ∃ c, s₀.vm.ClassLinks pl k x.catchType c ∧ s₀.vm.assignable E c = b
theorem sr_all {s₀ : State} {cell : Cell} (hobj : ∀ k, cell.vm ≠ .statics k) (hk0 : ∃ k, s₀.vm.classes[cell.cls]? = some k) {x : ExceptionTableEntry} {suf : List ExceptionTableEntry} (hx : covers x f.pc = true) (hend : sr_Ln e.platform s₀ f.method.cls cell.cls true x) :
    ∀ (pre : List ExceptionTableEntry), (∀ y ∈ pre, covers y f.pc = true ∧ sr_Ln e.platform s₀ f.method.cls cell.cls false y) → ∀ S : State, s₀.WarmedH S.vm → S.heap[a]? = some cell →
      ∃ vm', s₀.WarmedH vm' ∧ ∀ (Q : Handler → Pre) (E : CtlPost) (d : Bool) (acts : List Action), wp (findHandler.go f a (pre ++ x :: suf)) Q E e d acts S ↔ Q (.found x.handlerPc) d acts (S.setVm vm') := by
  obtain ⟨k0, hk0⟩ := hk0
  have step : ∀ (b : Bool) (y : ExceptionTableEntry) (S : State), sr_Ln e.platform s₀ f.method.cls cell.cls b y → covers y f.pc = true → s₀.WarmedH S.vm → S.heap[a]? = some cell → ∃ vm1, s₀.WarmedH vm1 ∧ ∀ (t : List ExceptionTableEntry) (Q : Handler → Pre) (E : CtlPost) (d : Bool) (acts : List Action), wp (findHandler.go f a (y :: t)) Q E e d acts S ↔ if b = true then Q (.found y.handlerPc) d acts (S.setVm vm1) else wp (findHandler.go f a t) Q E e d acts (S.setVm vm1) := by
    intro b y S hy hcov hW hcell
    obtain ⟨h0, c, hl, hb⟩ := hy
    obtain ⟨dk, _, _, kt, hd, _, _, _, _, hkt, _, hopen⟩ := hl.here
    obtain ⟨k1, hk1, -⟩ := hW.alike.2.2 _ _ hk0
    obtain ⟨k2, hk2, -⟩ := hW.alike.2.2 _ _ hkt
    refine ⟨S.vm.noted f.method.cls y.catchType (.cls c), hW.noted hd hopen (State.rightAt_cls hl), fun t Q E d acts => ?_⟩
    rw [sr_row hcov h0 (hW.classLinks hl) hcell hobj ⟨k1, hk1⟩ ⟨k2, hk2⟩, hW.alike.assignable, hb]
  intro pre
  induction pre with
  | nil =>
    intro _ S hW hcell
    obtain ⟨vm1, w1, h⟩ := step true x S hend hx hW hcell
    exact ⟨vm1, w1, fun Q E d acts => by rw [List.nil_append, h]; simp⟩
  | cons y ys ih =>
    intro hp S hW hcell
    obtain ⟨hc1, hn1⟩ := hp y List.mem_cons_self
    obtain ⟨vm1, w1, h⟩ := step false y S hn1 hc1 hW hcell
    obtain ⟨vm2, w2, h2⟩ := ih (fun z hz => hp z (List.mem_cons_of_mem _ hz)) (S.setVm vm1) w1 hcell
    refine ⟨vm2, w2, fun Q E d acts => ?_⟩
    rw [List.cons_append, h]
    simp only [Bool.false_eq_true, if_false]
    exact h2 Q E d acts
theorem sr_step {s : State} {r : List Frame} {pc : Nat} {vm' : Vm} (hfind : ∀ (Q : Handler → Pre) (E : CtlPost) (d : Bool) (acts : List Action), wp (findHandler f a) Q E e d acts s ↔ Q (.found pc) d acts (s.setVm vm')) :
    (stepThrowing e s a (.java f :: r)).Is ((s.setVm vm').setFrames (.java { f with pc := pc, stack := [.ref a] } :: r)) [] := by
  simp only [stepThrowing, searchFrame, vmDo]
  generalize hr : Sem.go _ e false [] s = res
  obtain ⟨as, rfl, ha⟩ := Sem.eq_ok_of hr (a := Handler.found pc) (s' := s.setVm vm') (acts' := []) (by simp [hfind _ _ _ _])
  exact ⟨rfl, ha⟩
end SR
section CA
variable {p : Program} {l : Launch} {e : Env} {R : Room} {s : State} {m : MethodId} {args : Array Value} {below : List Frame} {meth : Method} {c : Code} {cells slots : Nat} {Q : State → Prop} {cc : ByteArray} {nL : Nat} {x0 : Cond} {own : String} {D : va_G} {ad : Nat → Nat} {cy : Nat → ClassId} {A : Nat → Prop}
variable {w : Prop} {V : St} {pc : Nat} {L : List (Option Value)} {st : List Value}
theorem sr_link (X : ∃ (T : State) (locs : List Loc) (k1 k2 : Nat), Stand p l e R s m args below meth c T locs k1 k2) (hown : s.vm.findClass own = some m.cls) {x : ExceptionTableEntry} (h0 : x.catchType ≠ 0) {nm : String} (hl : (Cond.classLink own x.catchType nm).before args s = true) {E : ClassId} {b : Bool} (hb : ∀ t, s.vm.findClass nm = some t → s.vm.assignable E t = b) : sr_Ln e.platform s m.cls E b x := by
  obtain ⟨T, locs, k1, k2, X⟩ := X
  have hpl : e.platform.magicAccessors = ({} : Platform).magicAccessors := by rw [X.admits.platform]
  obtain ⟨c1, hc1, hcl⟩ := Cond.classLink_spec hown hl e.platform hpl
  exact ⟨h0, c1, hcl, hb c1 hc1⟩
/-- thrown here: rows ahead pass it, this row takes it -/
theorem gx_catch (hC : Cx p s m args c cc nL x0 own D ad cy A) {n : Nat} (pre : List ExceptionTableEntry) (x : ExceptionTableEntry) (suf : List ExceptionTableEntry) (htab : c.exceptionTable.toList = pre ++ x :: suf) (hpre : ∀ y ∈ pre, covers y pc = true ∧ y.catchType ≠ 0 ∧ ∃ nm : String, (Cond.classLink own y.catchType nm).before args s = true ∧ va_Nc (exN n) nm s) (hx : covers x pc = true) (h0 : x.catchType ≠ 0) {nm : String} (hl : (Cond.classLink own x.catchType nm).before args s = true) (hcast : (Cond.castable (exN n) nm).before args s = true) (kk : ∀ q9, G p l e R s m args below meth c cells slots Q nL D ad cy A w V x.handlerPc L [.ref q9]) : GX p l e R s m args below meth c cells slots Q nL D ad cy A w V pc L n := by
  intro hw ls H locs rest q9 ce h1 h2 h3 g1 g2 g3 T hT X
  have Xe : ∃ (T : State) (locs : List Loc) (k1 k2 : Nat), Stand p l e R s m args below meth c T locs k1 k2 := ⟨T, locs, cells, slots, X⟩
  obtain ⟨c3, c4, hc3, hc4, hasg⟩ := Cond.castable_spec hcast
  cases Option.some.inj (hc3.symm.trans g3)
  have hend := sr_link Xe hC.1.2.2.2.1 h0 hl (E := ce.cls) (b := true) (fun t ht => by cases Option.some.inj (hc4.symm.trans ht); exact hasg)
  have hpass : ∀ y ∈ pre, covers y (F0 m pc ls rest).pc = true ∧ sr_Ln e.platform s (F0 m pc ls rest).method.cls ce.cls false y := by
    intro y hy
    obtain ⟨q1, q2, nm2, q3, a8, b8, q4, q5, q6⟩ := hpre y hy
    cases Option.some.inj (q4.symm.trans g3)
    exact ⟨q1, sr_link Xe hC.1.2.2.2.1 q2 q3 (fun t ht => by cases Option.some.inj (q5.symm.trans ht); exact q6)⟩
  have hcls : ∃ k, s.vm.classes[ce.cls]? = some k := by
    obtain ⟨k9, h9, -⟩ := Vm.findClass_spec g3
    exact ⟨k9, h9⟩
  obtain ⟨vm', hW', hf⟩ := sr_all (e := e) (f := F0 m pc ls rest) (a := q9) (s₀ := s) (cell := ce) (VmData.ne_statics_of (by rw [g2]; rfl)) hcls (x := x) (suf := suf) hx hend pre hpass ((T.setTop (F0 m pc ls rest)).pushFrame (.throwing q9)) X.warmed (by show T.heap[q9]? = some ce; rw [hT]; exact g1)
  obtain ⟨t, a1, b1⟩ := kk q9 hw ls H locs h1 h2 h3 (T.setVm vm') hT (X.noted hW')
  refine ⟨t, ?_, b1⟩
  obtain ⟨hgo, hwi⟩ := At.throwing (g := F0 m pc ls rest) X.here q9
  refine Steps.head hgo hwi ?_
  have hfind : ∀ (Q : Handler → Pre) (E : CtlPost) (d : Bool) (acts : List Action), wp (findHandler (F0 m pc ls rest) q9) Q E e d acts ((T.setTop (F0 m pc ls rest)).pushFrame (.throwing q9)) ↔ Q (.found x.handlerPc) d acts (((T.setTop (F0 m pc ls rest)).pushFrame (.throwing q9)).setVm vm') := by
    intro Q E d acts
    rw [Jvm.W.findHandler_eq (meth := meth) (code := c) X.method' X.code, htab]
    exact hf Q E d acts
  rw [stepThread_throwing (frames_entered X.here.top _), (sr_step (s := (T.setTop (F0 m pc ls rest)).pushFrame (.throwing q9)) hfind).1]
  obtain ⟨g₀, hg⟩ := Option.isSome_iff_exists.mp X.here.top
  obtain ⟨r, hr⟩ := State.topJava?_eq_some.mp hg
  have hr' : (T.setVm vm').frames = .java g₀ :: r := hr
  rw [State.setTop_of_frames _ hr'] at a1
  have sw : ∀ (u : State) (F K : List Frame), ((u.setFrames F).setVm vm').setFrames K = (u.setVm vm').setFrames K := fun u F K => by
    rw [show (u.setFrames F).setVm vm' = (u.setVm vm').setFrames F from rfl, State.setFrames_setFrames]
  rw [hr, List.tail_cons, State.pushFrame, sw, State.setTop_of_frames _ hr, sw]
  exact a1
end CA
