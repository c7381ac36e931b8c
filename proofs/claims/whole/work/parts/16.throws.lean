/-! ===== methods that return or throw ===== -/
def exN : Nat → String
  | 1 => "java/util/NoSuchElementException"
  | 2 => "java/lang/IllegalArgumentException"
  | 3 => "java/lang/IllegalStateException"
  | _ => "java/lang/IndexOutOfBoundsException"
def NMX : List String := ["java/lang/RuntimeException", "java/lang/Exception"]
def XCL : List String := ["java/lang/RuntimeException", "java/lang/Exception", "java/lang/Throwable"]
def Cst (U : State) : Prop := (∀ n : Nat, (Cond.castable (exN n) (exN n)).before #[] U = true) ∧ ∀ C ∈ XCL, (Cond.declares ⟨C, "<init>", "()V"⟩).before #[] U = true
theorem cast_moved {a b : String} {A A' : Array Value} {s U : State} (hvm : s.vm.Alike U.vm) (h : (Cond.castable a b).before A s = true) : (Cond.castable a b).before A' U = true := by
  simp only [Cond.before, Cond.holds, Cond.value] at h ⊢
  rw [hvm.findClass, hvm.findClass]
  cases ha : s.vm.findClass a with
  | none => simp [ha] at h
  | some x =>
    cases hb : s.vm.findClass b with
    | none => simp [ha, hb] at h
    | some y =>
      simp only [ha, hb] at h ⊢
      rw [hvm.assignable]
      exact h
theorem decl_moved {x : MethodName} {A A' : Array Value} {s U : State} (hvm : s.vm.Alike U.vm) (h : (Cond.declares x).before A s = true) : (Cond.declares x).before A' U = true := va_tabs (A := A) rfl (rfl : (s.setVm U.vm).vm = U.vm) (by rw [Cond.declares_setVm hvm]; exact h)
theorem Cst.moved {s U : State} (hvm : s.vm.Alike U.vm) (h : Cst s) : Cst U := ⟨fun n => cast_moved hvm (h.1 n), fun C hC => decl_moved hvm (h.2 C hC)⟩
/-- what a throw rests on, where A may be changed -/
def Zb (l : Launch) (A : Nat → Prop) (U : State) : Prop := l.stackTraces = false ∧ vx_Zq Bundle.tN "UNASSIGNED_STACK" Bundle.steD A U U.heap ∧ vx_Zq Bundle.tN "SUPPRESSED_SENTINEL" Bundle.listD A U U.heap ∧ Cst U
theorem Zb.callee {l : Launch} {A B : Nat → Prop} {s U : State} {H : Heap} {locs : List Loc} (h : Zb l A s) (hS : va_S A s.heap H locs) (hU : U.heap = H) (hW : s.vm.Alike U.vm) (hB : ∀ q, B q → A q) : Zb l B U := by
  obtain ⟨h1, h2, h3, h4⟩ := h
  refine ⟨h1, ?_, ?_, h4.moved hW⟩
  · rw [hU]; exact ((h2.kept (fun a ha hn => hS.2.1 a ha hn)).moved hW).narrow hB
  · rw [hU]; exact ((h3.kept (fun a ha hn => hS.2.1 a ha hn)).moved hW).narrow hB
theorem Zb.calling {l : Launch} {A : Nat → Prop} {U : State} {g : JFrame} {mk : MethodId} {a : Array Value} (h : Zb l A U) : Zb l A (U.calling g mk a) := by
  obtain ⟨h1, h2, h3, h4⟩ := h
  exact ⟨h1, vx_Zq.moved (u := U) (U := U.calling g mk a) (Vm.Alike.refl U.vm) h2, vx_Zq.moved (u := U) (U := U.calling g mk a) (Vm.Alike.refl U.vm) h3, Cst.moved (s := U) (U := U.calling g mk a) (Vm.Alike.refl U.vm) h4⟩
abbrev XCx (D : va_G) (ad : Nat → Nat) (cy : Nat → ClassId) (A : Nat → Prop) (X : Nat → St → Prop) : String → State → State → Prop := vx_X (fun u : Nat × St => X u.1 u.2) (fun E u t => E = exN u.1 ∧ Bq D ad cy u.2 t) A
def Xpre (l : Launch) (D : va_G) (ad : Nat → Nat) (cy : Nat → ClassId) (V : St) (sz : Nat) (U : State) : Prop := U.heap.size = sz ∧ Bs D ad cy V U ∧ Zb l (fr ad sz) U
def Xi (l : Launch) (D : va_G) (ad : Nat → Nat) (cy : Nat → ClassId) (y : MethodName) (ws : List Cond) (rm : Room) (mc ms : Nat) (av : List Value) (V : St) (K : Int32 → St → Prop) (X : Nat → St → Prop) : Prop := ∀ sz : Nat, vx_Met l y ws rm (va_Pc av (Xpre l D ad cy V sz)) (va_Qi K (Bq D ad cy) (fr ad sz)) (XCx D ad cy (fr ad sz) X) mc ms (fr ad sz)
def Xv (l : Launch) (D : va_G) (ad : Nat → Nat) (cy : Nat → ClassId) (y : MethodName) (ws : List Cond) (rm : Room) (mc ms : Nat) (av : List Value) (V : St) (K : St → Prop) (X : Nat → St → Prop) : Prop := ∀ sz : Nat, vx_Met l y ws rm (va_Pc av (Xpre l D ad cy V sz)) (va_Qv K (Bq D ad cy) (fr ad sz)) (XCx D ad cy (fr ad sz) X) mc ms (fr ad sz)
def Xr (l : Launch) (D : va_G) (ad : Nat → Nat) (cy : Nat → ClassId) (y : MethodName) (ws : List Cond) (rm : Room) (mc ms : Nat) (av : List Value) (V : St) (K : Nat → St → Prop) (X : Nat → St → Prop) : Prop := ∀ sz : Nat, vx_Met l y ws rm (va_Pc av (Xpre l D ad cy V sz)) (va_Qr (fun u : Nat × St => u.1 < 6 ∧ K u.1 u.2) (fun u a t => a = ad (12 + 8 * u.1) ∧ Bq D ad cy u.2 t) (fr ad sz)) (XCx D ad cy (fr ad sz) X) mc ms (fr ad sz)
/-- the words of 'throw new E()' in a class -/
def TW (own : String) (n ik ic : Nat) : Prop := Cond.classLink own ik (exN n) ∈ WA ∧ Cond.initialized (exN n) ∈ WA ∧ Bundle.fit (exN n) = true ∧ (∀ w ∈ (vx_at0 own ic (exN n) NMX).filter goodWord, w ∈ WA) ∧ (∀ w ∈ (vx_at0 own ic (exN n) NMX).filter (fun w => !goodWord w), w ∈ [Cond.castable (exN n) (exN n), Cond.declares ⟨"java/lang/RuntimeException", "<init>", "()V"⟩, Cond.declares ⟨"java/lang/Exception", "<init>", "()V"⟩, Cond.declares ⟨"java/lang/Throwable", "<init>", "()V"⟩]) ∧ (∀ w ∈ Cond.classLink own ik (exN n) :: Cond.initialized (exN n) :: vx_at0 own ic (exN n) NMX, vx_ot w = true)
/-- where E has been thrown at pc -/
def GX (p : Program) (l : Launch) (e : Env) (R : Room) (s : State) (m : MethodId) (args : Array Value) (below : List Frame) (meth : Method) (c : Code) (cells slots : Nat) (Q : State → Prop) (nL : Nat) (D : va_G) (ad : Nat → Nat) (cy : Nat → ClassId) (A : Nat → Prop) (w : Prop) (V : St) (pc : Nat) (L : List (Option Value)) (n : Nat) : Prop :=
  w → ∀ (ls : Array Slot) (H : Heap) (locs : List Loc) (rest : List Value) (q9 : Addr) (ce : Cell), lh ls nL L → va_P D vwCl (wA ad cy V) H → va_S A s.heap H locs → H[q9]? = some ce → ce.vm = .none → s.vm.findClass (exN n) = some ce.cls → vx_W p l e R s m args below meth c H locs cells slots Q (F0 m pc ls rest) q9
section TH
variable {p : Program} {l : Launch} {e : Env} {R : Room} {s : State} {m : MethodId} {args : Array Value} {below : List Frame} {meth : Method} {c : Code} {cells slots : Nat} {Q : State → Prop} {cc : ByteArray} {nL : Nat} {x0 : Cond} {own : String} {D : va_G} {ad : Nat → Nat} {cy : Nat → ClassId} {A : Nat → Prop}
variable {w : Prop} {V : St} {pc : Nat} {L : List (Option Value)} {st : List Value} {Qc : Array Value → State → Outcome → State → Prop} {X : Nat → St → Prop} {mc ms : Nat}
theorem Xpre.blind {av : List Value} {sz : Nat} : FrameBlind (va_Pc av (Xpre l D ad cy V sz)) := by
  intro a U g mk q
  obtain ⟨q0, q1, ⟨qP, qK, qN⟩, qZ⟩ := q
  exact ⟨q0, q1, ⟨qP, va_K.moved (u := U) (U := U.calling g mk a) (Vm.Alike.refl U.vm) qK, fun z hz => nw_calling hz (qN z hz)⟩, qZ.calling⟩
theorem Cx.calleeX (hC : Cx p s m args c cc nL x0 own D ad cy A) (hz : Zb l A s) {H : Heap} {locs : List Loc} (h2 : va_P D vwCl (wA ad cy V) H) (h3 : va_S A s.heap H locs) {U : State} (hU : U.heap = H) (hW : s.WarmedH U.vm) : Xpre l D ad cy V H.size U := ⟨by rw [hU], (hC.callee h2 hU hW).2, hz.callee h3 hU hW.alike (fun q h => hC.fr h3 h)⟩
theorem X_i {y : MethodName} {rm : Room} {av : List Value} {K : Int32 → St → Prop} {ret : FieldType} (hy : plainName y.cls = true) (hsl : (lg_sl av).length ≤ nL) (hcat : ∀ x ∈ av, x.category = 1) (hi : inj ad) (body : ∀ (p : Program) (e : Env) (s : State) (m : MethodId) (args : Array Value) (below : List Frame) (meth : Method) (c : Code) (A : Nat → Prop), Cx p s m args c cc nL (Cond.code y cc nL (some ret)) y.cls D ad cy A → meth.sig.returnType = some ret → meth.locks = false → Zb l A s → (∀ x ∈ c.exceptionTable.toList, False) → G p l e rm s m args below meth c 0 0 (vx_MQ below (va_Qi K (Bq D ad cy) A) (XCx D ad cy A X) args s mc ms A) nL D ad cy A w V 0 (L0 av nL) []) (hw : w) : Xi l D ad cy y (Cond.code y cc nL (some ret) :: WA) rm mc ms av V K X := by
  intro sz
  refine vx_ofW (cc := cc) (maxL := nL) (ret := some ret) hy rfl ?_
  intro p e s m args below meth c s₁ B hml ht hv
  obtain ⟨rfl, rfl, ⟨hP, hK, hN⟩, hZ⟩ := hv
  have hts := atoms_spec (ws := Cond.code y cc nL (some ret) :: WA) B.pre
  have hown : s.vm.findClass y.cls = some m.cls := findClass_of_methodNamed B.named
  rw [lg_entry_eq]
  exact body p e s m _ below meth c (fr ad s.heap.size) ⟨⟨B.exec, B.bytes, hml, hown, hts⟩, hN, hK, hi, fun j hj => Or.inl ⟨j, hj, rfl⟩, fun q h => Or.inr h⟩ B.returns B.notSynchronized hZ ht hw _ _ _ (lh_entry av hsl hcat) hP va_S.rf
theorem X_v {y : MethodName} {rm : Room} {av : List Value} {K : St → Prop} (hy : plainName y.cls = true) (hsl : (lg_sl av).length ≤ nL) (hcat : ∀ x ∈ av, x.category = 1) (hi : inj ad) (body : ∀ (p : Program) (e : Env) (s : State) (m : MethodId) (args : Array Value) (below : List Frame) (meth : Method) (c : Code) (A : Nat → Prop), Cx p s m args c cc nL (Cond.code y cc nL none) y.cls D ad cy A → meth.sig.returnType = none → meth.locks = false → Zb l A s → (∀ x ∈ c.exceptionTable.toList, False) → G p l e rm s m args below meth c 0 0 (vx_MQ below (va_Qv K (Bq D ad cy) A) (XCx D ad cy A X) args s mc ms A) nL D ad cy A w V 0 (L0 av nL) []) (hw : w) : Xv l D ad cy y (Cond.code y cc nL none :: WA) rm mc ms av V K X := by
  intro sz
  refine vx_ofW (cc := cc) (maxL := nL) (ret := none) hy rfl ?_
  intro p e s m args below meth c s₁ B hml ht hv
  obtain ⟨rfl, rfl, ⟨hP, hK, hN⟩, hZ⟩ := hv
  have hts := atoms_spec (ws := Cond.code y cc nL none :: WA) B.pre
  have hown : s.vm.findClass y.cls = some m.cls := findClass_of_methodNamed B.named
  rw [lg_entry_eq]
  exact body p e s m _ below meth c (fr ad s.heap.size) ⟨⟨B.exec, B.bytes, hml, hown, hts⟩, hN, hK, hi, fun j hj => Or.inl ⟨j, hj, rfl⟩, fun q h => Or.inr h⟩ B.returns B.notSynchronized hZ ht hw _ _ _ (lh_entry av hsl hcat) hP va_S.rf
theorem X_r {y : MethodName} {rm : Room} {av : List Value} {K : Nat → St → Prop} {ret : FieldType} (hy : plainName y.cls = true) (hsl : (lg_sl av).length ≤ nL) (hcat : ∀ x ∈ av, x.category = 1) (hi : inj ad) (body : ∀ (p : Program) (e : Env) (s : State) (m : MethodId) (args : Array Value) (below : List Frame) (meth : Method) (c : Code) (A : Nat → Prop), Cx p s m args c cc nL (Cond.code y cc nL (some ret)) y.cls D ad cy A → meth.sig.returnType = some ret → meth.locks = false → Zb l A s → (∀ x ∈ c.exceptionTable.toList, False) → G p l e rm s m args below meth c 0 0 (vx_MQ below (va_Qr (fun u : Nat × St => u.1 < 6 ∧ K u.1 u.2) (fun u a t => a = ad (12 + 8 * u.1) ∧ Bq D ad cy u.2 t) A) (XCx D ad cy A X) args s mc ms A) nL D ad cy A w V 0 (L0 av nL) []) (hw : w) : Xr l D ad cy y (Cond.code y cc nL (some ret) :: WA) rm mc ms av V K X := by
  intro sz
  refine vx_ofW (cc := cc) (maxL := nL) (ret := some ret) hy rfl ?_
  intro p e s m args below meth c s₁ B hml ht hv
  obtain ⟨rfl, rfl, ⟨hP, hK, hN⟩, hZ⟩ := hv
  have hts := atoms_spec (ws := Cond.code y cc nL (some ret) :: WA) B.pre
  have hown : s.vm.findClass y.cls = some m.cls := findClass_of_methodNamed B.named
  rw [lg_entry_eq]
  exact body p e s m _ below meth c (fr ad s.heap.size) ⟨⟨B.exec, B.bytes, hml, hown, hts⟩, hN, hK, hi, fun j hj => Or.inl ⟨j, hj, rfl⟩, fun q h => Or.inr h⟩ B.returns B.notSynchronized hZ ht hw _ _ _ (lh_entry av hsl hcat) hP va_S.rf
/-- at a return: the body's own end, its room rounded up -/
theorem g_xret (hc : cells ≤ mc) (hs : slots ≤ ms) (k : G p l e R s m args below meth c mc ms (MQ below Qc args s mc ms A) nL D ad cy A w V pc L st) {XC : String → State → State → Prop} : G p l e R s m args below meth c cells slots (vx_MQ below Qc XC args s mc ms A) nL D ad cy A w V pc L st := fun hw ls H locs h1 h2 h3 => W.widen hc hs (vx_ret (k hw ls H locs h1 h2 h3))
theorem g_aret (hC : Cx p s m args c cc nL x0 own D ad cy A) {C : String} (hr : meth.sig.returnType = some (.object C)) (hlk : meth.locks = false) {K : Nat → St → Prop} {k : Nat} (hk : k < 6) (d : decode cc pc = .ok (.areturn, 1)) : G p l e R s m args below meth c cells slots (MQ below (va_Qr (fun u : Nat × St => u.1 < 6 ∧ K u.1 u.2) (fun u a t => a = ad (12 + 8 * u.1) ∧ Bq D ad cy u.2 t) A) args s cells slots A) nL D ad cy A (K k V) V pc L [.ref (ad (12 + 8 * k))] := fun hw ls H locs h1 h2 h3 => W.aret hC.1.1 hC.1.2.1 hr (Or.inl ⟨C, rfl⟩) (Or.inr ⟨_, rfl⟩) (fun t ht hW => ⟨⟨(k, V), ad (12 + 8 * k), rfl, ⟨hk, hw⟩, rfl, by unfold Bq; rw [ht]; exact h2⟩, h3.F ht⟩) h3.2.2 d hlk
theorem g_throw (hC : Cx p s m args c cc nL x0 own D ad cy A) (hlk : meth.locks = false) (hz : Zb l A s) (ht : ∀ x ∈ c.exceptionTable.toList, False) {n ik ic : Nat} (hw1 : TW own n ik ic) (d0 : decode cc pc = .ok (.new ik, 3)) (d3 : decode cc (pc + 3) = .ok (.dup, 1)) (d4 : decode cc (pc + 4) = .ok (.invokespecial ic, 3)) (d7 : decode cc (pc + 7) = .ok (.athrow, 1)) (hfr : 5 < R.frames) (hlo : (st.map fun v => v.category).sum + 81 ≤ R.locals) (hrc : cells + 1 ≤ R.cells) (hrs : slots + 6 ≤ R.slots) (hc : cells + 1 ≤ mc) (hs : slots + 6 ≤ ms) : G p l e R s m args below meth c cells slots (vx_MQ below Qc (XCx D ad cy A X) args s mc ms A) nL D ad cy A (X n V) V pc L st := by
  obtain ⟨t1, t2, t3, t4, t5, t6⟩ := hw1
  obtain ⟨z1, z2, z3, z4⟩ := hz
  intro hw ls H locs h1 h2 h3
  refine vx_throw0 hC.1.1 hC.1.2.1 z1 (names := NMX) (A := A) hC.1.2.2.2.1 t3 (by decide) (hC.mem t1) (hC.mem t2) (vx_hat (fun z hz => hC.mem (t4 z hz)) t5 (vx_c (cast_moved (s := s) (Vm.Alike.refl s.vm) (z4.1 n)) (vx_c (decl_moved (s := s) (Vm.Alike.refl s.vm) (z4.2 _ (by decide))) (vx_c (decl_moved (s := s) (Vm.Alike.refl s.vm) (z4.2 _ (by decide))) (vx_c (decl_moved (s := s) (Vm.Alike.refl s.vm) (z4.2 _ (by decide))) vx_n))))) t6 z2 z3 h3 (h1.1.trans hC.1.2.2.1.symm) d0 d3 d4 d7 (fun x hx => (ht x hx).elim) hfr hlo hrc hrs hlk ?_ h3.2.2 hc hs
  intro t hvm hsz hk
  refine ⟨(n, V), hw, ⟨rfl, ?_⟩, Nat.le_trans h3.1 hsz, fun q q1 q2 => ?_⟩
  · exact h2.kept (fun k q hq => hk q.1 (vx_lt h2 hq))
  · rw [hk q (Nat.lt_of_lt_of_le q1 h3.1)]
    exact h3.2.1 q q1 q2
/-- not caught here: it goes on to the caller -/
theorem gx_out (hC : Cx p s m args c cc nL x0 own D ad cy A) (hlk : meth.locks = false) (ht : ∀ x ∈ c.exceptionTable.toList, False) (hc : cells ≤ mc) (hs : slots ≤ ms) {n : Nat} : GX p l e R s m args below meth c cells slots (vx_MQ below Qc (XCx D ad cy A X) args s mc ms A) nL D ad cy A (X n V) V pc L n := by
  intro hw ls H locs rest q9 ce h1 h2 h3 g1 g2 g3
  exact vx_out (fun x hx => (ht x hx).elim) hlk g1 g2 g3 (fun t ht hvm => ⟨(n, V), hw, ⟨rfl, by unfold Bq; rw [ht]; exact h2⟩, by rw [ht]; exact h3.1, fun q q1 q2 => by rw [ht]; exact h3.2.1 q q1 q2⟩) h3.2.2 hc hs
theorem g_xvi (hC : Cx p s m args c cc nL x0 own D ad cy A) (hz : Zb l A s) {y : MethodName} {b : ByteArray} {mL n index j ci N : Nat} {ret : Option FieldType} {rm : Room} {As rest : List Value} {sl : List (Option Nat)} {T : u_T} {K : Int32 → St → Prop} {X2 : Nat → St → Prop} (hM : w → Xi l D ad cy y (Cond.code y b mL ret :: WA) rm mc ms (.ref (ad j) :: As) V K X2) (hm : MI y b mL ret n) (hlk : Cond.methodLink own index y ∈ WA) (hrm : rm.cells = mc ∧ rm.slots = ms) (hR : rm.frames + 1 ≤ R.frames ∧ 8 + (mL + 11) + rm.locals ≤ R.locals) (hj : j < 94) (hl : ly j = .inl (ci, sl)) (hc : vwCl[ci]? = some (y.cls, T, N)) (hn : As.length = n) (hst : st = As.reverse ++ .ref (ad j) :: rest) (hW : (rest.map fun v => v.category).sum ≤ 8) (hcs : cells + mc ≤ R.cells ∧ slots + ms ≤ R.slots) (d : decode cc pc = .ok (.invokevirtual index, 3)) (kx : ∀ n V2, GX p l e R s m args below meth c (cells + mc) (slots + ms) Q nL D ad cy A (X2 n V2) V2 pc L n) (kk : ∀ r V2, G p l e R s m args below meth c (cells + mc) (slots + ms) Q nL D ad cy A (K r V2) V2 (pc + 3) L (.int r :: rest)) : G p l e R s m args below meth c cells slots Q nL D ad cy A w V pc L st := by
  subst hst
  intro hw ls H locs h1 h2 h3
  refine vx_calli (vx_runV (As := As) (rest := rest) hC.1 (hM hw H.size) (hC.wV hm hlk hrm.1 hrm.2 hR) ⟨Xpre.blind, va_recv hC.2.2.1 h2 hc (wA_obj ad cy V hj hl), fun U hU hW => ⟨rfl, hC.calleeX hz h2 h3 hU hW⟩⟩ rfl hn h1.1 rfl (lv_room hW) d hcs) h3 (fun q _ h => hC.fr h3 h) (fun q h => hC.fr h3 h) (fun q _ h => hC.fr h3 h) (fun E ce q9 u t H1 locs1 ht _ hp hb _ _ hS g1 g2 g3 => ?_) (fun r V2 t H1 locs1 ht _ hp hb _ _ hS => kk r V2 hp ls H1 locs1 h1 (by rw [← ht]; exact hb) hS)
  obtain ⟨rfl, hb⟩ := hb
  exact kx u.1 u.2 hp ls H1 locs1 rest q9 ce h1 (by rw [← ht]; exact hb) hS g1 g2 g3
theorem g_xvv (hC : Cx p s m args c cc nL x0 own D ad cy A) (hz : Zb l A s) {y : MethodName} {b : ByteArray} {mL n index j ci N : Nat} {ret : Option FieldType} {rm : Room} {As rest : List Value} {sl : List (Option Nat)} {T : u_T} {K : St → Prop} {X2 : Nat → St → Prop} (hM : w → Xv l D ad cy y (Cond.code y b mL ret :: WA) rm mc ms (.ref (ad j) :: As) V K X2) (hm : MI y b mL ret n) (hlk : Cond.methodLink own index y ∈ WA) (hrm : rm.cells = mc ∧ rm.slots = ms) (hR : rm.frames + 1 ≤ R.frames ∧ 8 + (mL + 11) + rm.locals ≤ R.locals) (hj : j < 94) (hl : ly j = .inl (ci, sl)) (hc : vwCl[ci]? = some (y.cls, T, N)) (hn : As.length = n) (hst : st = As.reverse ++ .ref (ad j) :: rest) (hW : (rest.map fun v => v.category).sum ≤ 8) (hcs : cells + mc ≤ R.cells ∧ slots + ms ≤ R.slots) (d : decode cc pc = .ok (.invokevirtual index, 3)) (kx : ∀ n V2, GX p l e R s m args below meth c (cells + mc) (slots + ms) Q nL D ad cy A (X2 n V2) V2 pc L n) (kk : ∀ V2, G p l e R s m args below meth c (cells + mc) (slots + ms) Q nL D ad cy A (K V2) V2 (pc + 3) L rest) : G p l e R s m args below meth c cells slots Q nL D ad cy A w V pc L st := by
  subst hst
  intro hw ls H locs h1 h2 h3
  refine vx_callv (vx_runV (As := As) (rest := rest) hC.1 (hM hw H.size) (hC.wV hm hlk hrm.1 hrm.2 hR) ⟨Xpre.blind, va_recv hC.2.2.1 h2 hc (wA_obj ad cy V hj hl), fun U hU hW => ⟨rfl, hC.calleeX hz h2 h3 hU hW⟩⟩ rfl hn h1.1 rfl (lv_room hW) d hcs) h3 (fun q _ h => hC.fr h3 h) (fun q h => hC.fr h3 h) (fun q _ h => hC.fr h3 h) (fun E ce q9 u t H1 locs1 ht _ hp hb _ _ hS g1 g2 g3 => ?_) (fun V2 t H1 locs1 ht _ hp hb _ _ hS => kk V2 hp ls H1 locs1 h1 (by rw [← ht]; exact hb) hS)
  obtain ⟨rfl, hb⟩ := hb
  exact kx u.1 u.2 hp ls H1 locs1 rest q9 ce h1 (by rw [← ht]; exact hb) hS g1 g2 g3
/-- a call that answers a reference, or throws -/
theorem vx_callrr {H : Heap} {locs : List Loc} {free : Addr → Prop} {A0 A1 : Nat → Prop} {H0 : Heap} {a : Array Value} {ls : Array Slot} {st0 rest : List Value} {S SX : Type} {post : S → Prop} {px : SX → Prop} {B : S → Nat → State → Prop} {BX : String → SX → State → Prop} {AX : Nat → Prop} (hr : vx_Run p l e R s m args below meth c H locs cells slots mc ms (F0 m pc ls st0) rest (va_Qr post B A1 a) (vx_X px BX AX) free) (hS : va_S A0 H0 H locs) (hA : ∀ q, q < H.size → A1 q → A0 q) (hf : ∀ q, free q → A0 q) (hAX : ∀ q, q < H.size → AX q → A0 q)
    (kx : ∀ (E : String) (ce : Cell) (q9 : Addr) (u : SX) (t : State) (H1 : Heap) (locs1 : List Loc), t.heap = H1 → px u → BX E u t → va_S A0 H0 H1 locs1 → H1[q9]? = some ce → ce.vm = .none → s.vm.findClass E = some ce.cls → vx_W p l e R s m args below meth c H1 locs1 (cells + mc) (slots + ms) Q (F0 m pc ls rest) q9)
    (kk : ∀ (u : S) (ra : Nat) (t : State) (H1 : Heap) (locs1 : List Loc), t.heap = H1 → post u → B u ra t → va_S A0 H0 H1 locs1 → W p l e R s m args below meth c H1 locs1 (cells + mc) (slots + ms) Q (F0 m (pc + 3) ls (.ref ra :: rest))) : W p l e R s m args below meth c H locs cells slots Q (F0 m pc ls st0) := by
  intro T hT X
  rcases hr T hT X with ⟨v, st₀, t, T', L, h0, X', hL, e1, e2, ⟨⟨u, ra, hv, hp, hb⟩, hF⟩, st⟩ | ⟨q, st₀, t, T', L, E, ce, h0, X', hL, e1, e2, ⟨u, hp, hb, hF⟩, hce, hcv, hcl, st⟩
  · cases hv
    obtain ⟨k1, k2, k3⟩ := vx_keep h0 e1 hS hA hf hL hF
    obtain ⟨t2, a1, b1⟩ := kk u ra t T'.heap (locs ++ L) e1.symm hp hb k3 T' rfl X'
    exact ⟨t2, st t2 a1, b1⟩
  · obtain ⟨k1, k2, k3⟩ := vx_keep h0 e1 hS hAX hf hL hF
    obtain ⟨t2, a1, b1⟩ := kx E ce q u t T'.heap (locs ++ L) e1.symm hp hb k3 (by rw [e1]; exact hce) hcv hcl T' rfl X'
    exact ⟨t2, st.trans a1, b1⟩
theorem g_xvr (hC : Cx p s m args c cc nL x0 own D ad cy A) (hz : Zb l A s) {y : MethodName} {b : ByteArray} {mL n index j ci N : Nat} {ret : Option FieldType} {rm : Room} {As rest : List Value} {sl : List (Option Nat)} {T : u_T} {K : Nat → St → Prop} {X2 : Nat → St → Prop} (hM : w → Xr l D ad cy y (Cond.code y b mL ret :: WA) rm mc ms (.ref (ad j) :: As) V K X2) (hm : MI y b mL ret n) (hlk : Cond.methodLink own index y ∈ WA) (hrm : rm.cells = mc ∧ rm.slots = ms) (hR : rm.frames + 1 ≤ R.frames ∧ 8 + (mL + 11) + rm.locals ≤ R.locals) (hj : j < 94) (hl : ly j = .inl (ci, sl)) (hc : vwCl[ci]? = some (y.cls, T, N)) (hn : As.length = n) (hst : st = As.reverse ++ .ref (ad j) :: rest) (hW : (rest.map fun v => v.category).sum ≤ 8) (hcs : cells + mc ≤ R.cells ∧ slots + ms ≤ R.slots) (d : decode cc pc = .ok (.invokevirtual index, 3)) (kx : ∀ n V2, GX p l e R s m args below meth c (cells + mc) (slots + ms) Q nL D ad cy A (X2 n V2) V2 pc L n) (kk : ∀ k, k < 6 → ∀ V2, G p l e R s m args below meth c (cells + mc) (slots + ms) Q nL D ad cy A (K k V2) V2 (pc + 3) L (.ref (ad (12 + 8 * k)) :: rest)) : G p l e R s m args below meth c cells slots Q nL D ad cy A w V pc L st := by
  subst hst
  intro hw ls H locs h1 h2 h3
  refine vx_callrr (vx_runV (As := As) (rest := rest) hC.1 (hM hw H.size) (hC.wV hm hlk hrm.1 hrm.2 hR) ⟨Xpre.blind, va_recv hC.2.2.1 h2 hc (wA_obj ad cy V hj hl), fun U hU hW => ⟨rfl, hC.calleeX hz h2 h3 hU hW⟩⟩ rfl hn h1.1 rfl (lv_room hW) d hcs) h3 (fun q _ h => hC.fr h3 h) (fun q h => hC.fr h3 h) (fun q _ h => hC.fr h3 h) (fun E ce q9 u t H1 locs1 ht hp hb hS g1 g2 g3 => ?_) (fun u ra t H1 locs1 ht hp hb hS => ?_)
  · obtain ⟨rfl, hb⟩ := hb
    exact kx u.1 u.2 hp ls H1 locs1 rest q9 ce h1 (by rw [← ht]; exact hb) hS g1 g2 g3
  · obtain ⟨rfl, hb⟩ := hb
    exact kk u.1 hp.1 u.2 hp.2 ls H1 locs1 h1 (by rw [← ht]; exact hb) hS
end TH
