/-! ===== contracts: a method with the weakest precondition w comes to K ===== -/
def Bs (D : va_G) (ad : Nat → Nat) (cy : Nat → ClassId) (V : St) (U : State) : Prop := va_P D vwCl (wA ad cy V) U.heap ∧ va_K D vwCl (tyl cy) U ∧ ∀ w ∈ NW, va_Nw w U
def Bq (D : va_G) (ad : Nat → Nat) (cy : Nat → ClassId) (V : St) (t : State) : Prop := va_P D vwCl (wA ad cy V) t.heap
def Hi (l : Launch) (D : va_G) (ad : Nat → Nat) (cy : Nat → ClassId) (y : MethodName) (ws : List Cond) (rm : Room) (av : List Value) (V : St) (K : Int32 → St → Prop) : Prop := ∀ sz : Nat, Met l y ws rm (va_Pc av (fun U => U.heap.size = sz ∧ Bs D ad cy V U)) (va_Qi K (Bq D ad cy) (fr ad sz)) 0 0 (fr ad sz)
def Hv (l : Launch) (D : va_G) (ad : Nat → Nat) (cy : Nat → ClassId) (y : MethodName) (ws : List Cond) (rm : Room) (av : List Value) (V : St) (K : St → Prop) : Prop := ∀ sz : Nat, Met l y ws rm (va_Pc av (fun U => U.heap.size = sz ∧ Bs D ad cy V U)) (va_Qv K (Bq D ad cy) (fr ad sz)) 0 0 (fr ad sz)
/-- an instance method's words; a static one's -/
def MI (y : MethodName) (b : ByteArray) (mL : Nat) (ret : Option FieldType) (n : Nat) : Prop := Cond.code y b mL ret ∈ WA ∧ Cond.instanceMethod y ∈ WA ∧ Cond.selects y.cls y y ∈ WA ∧ Cond.initialized y.cls ∈ WA ∧ y.cls ≠ "java/lang/invoke/MethodHandle" ∧ y.cls ≠ "java/lang/invoke/VarHandle" ∧ (parseMethodDescriptor y.desc).map (fun d => d.parameters.length) = some n
def MS (y : MethodName) (b : ByteArray) (mL : Nat) (ret : Option FieldType) (n : Nat) : Prop := Cond.code y b mL ret ∈ WA ∧ Cond.static y ∈ WA ∧ Cond.initialized y.cls ∈ WA ∧ y.cls ≠ "java/lang/invoke/MethodHandle" ∧ y.cls ≠ "java/lang/invoke/VarHandle" ∧ (parseMethodDescriptor y.desc).map (fun d => d.parameters.length) = some n
section CT
variable {p : Program} {l : Launch} {e : Env} {R : Room} {s : State} {m : MethodId} {args : Array Value} {below : List Frame} {meth : Method} {c : Code} {cells slots : Nat} {Q : State → Prop} {cc : ByteArray} {nL : Nat} {x0 : Cond} {own : String} {D : va_G} {ad : Nat → Nat} {cy : Nat → ClassId} {A : Nat → Prop}
variable {w : Prop} {V : St} {pc : Nat} {L : List (Option Value)} {st : List Value}
theorem H_i {y : MethodName} {rm : Room} {av : List Value} {K : Int32 → St → Prop} {ret : FieldType} (hy : plainName y.cls = true) (hsl : (lg_sl av).length ≤ nL) (hcat : ∀ x ∈ av, x.category = 1) (hi : inj ad) (body : ∀ (p : Program) (e : Env) (s : State) (m : MethodId) (args : Array Value) (below : List Frame) (meth : Method) (c : Code) (A : Nat → Prop), Cx p s m args c cc nL (Cond.code y cc nL (some ret)) y.cls D ad cy A → meth.sig.returnType = some ret → meth.locks = false → G p l e rm s m args below meth c 0 0 (MQ below (va_Qi K (Bq D ad cy) A) args s 0 0 A) nL D ad cy A w V 0 (L0 av nL) []) (hw : w) : Hi l D ad cy y (Cond.code y cc nL (some ret) :: WA) rm av V K := by
  intro sz
  refine Met.ofW (cc := cc) (maxL := nL) (ret := some ret) hy rfl ?_
  intro p e s m args below meth c s₁ B hml hv
  obtain ⟨rfl, rfl, hP, hK, hN⟩ := hv
  have hts := atoms_spec (ws := Cond.code y cc nL (some ret) :: WA) B.pre
  have hown : s.vm.findClass y.cls = some m.cls := findClass_of_methodNamed B.named
  rw [lg_entry_eq]
  exact body p e s m _ below meth c (fr ad s.heap.size) ⟨⟨B.exec, B.bytes, hml, hown, hts⟩, hN, hK, hi, fun j hj => Or.inl ⟨j, hj, rfl⟩, fun q h => Or.inr h⟩ B.returns B.notSynchronized hw _ _ _ (lh_entry av hsl hcat) hP va_S.rf
theorem H_v {y : MethodName} {rm : Room} {av : List Value} {K : St → Prop} (hy : plainName y.cls = true) (hsl : (lg_sl av).length ≤ nL) (hcat : ∀ x ∈ av, x.category = 1) (hi : inj ad) (body : ∀ (p : Program) (e : Env) (s : State) (m : MethodId) (args : Array Value) (below : List Frame) (meth : Method) (c : Code) (A : Nat → Prop), Cx p s m args c cc nL (Cond.code y cc nL none) y.cls D ad cy A → meth.sig.returnType = none → meth.locks = false → G p l e rm s m args below meth c 0 0 (MQ below (va_Qv K (Bq D ad cy) A) args s 0 0 A) nL D ad cy A w V 0 (L0 av nL) []) (hw : w) : Hv l D ad cy y (Cond.code y cc nL none :: WA) rm av V K := by
  intro sz
  refine Met.ofW (cc := cc) (maxL := nL) (ret := none) hy rfl ?_
  intro p e s m args below meth c s₁ B hml hv
  obtain ⟨rfl, rfl, hP, hK, hN⟩ := hv
  have hts := atoms_spec (ws := Cond.code y cc nL none :: WA) B.pre
  have hown : s.vm.findClass y.cls = some m.cls := findClass_of_methodNamed B.named
  rw [lg_entry_eq]
  exact body p e s m _ below meth c (fr ad s.heap.size) ⟨⟨B.exec, B.bytes, hml, hown, hts⟩, hN, hK, hi, fun j hj => Or.inl ⟨j, hj, rfl⟩, fun q h => Or.inr h⟩ B.returns B.notSynchronized hw _ _ _ (lh_entry av hsl hcat) hP va_S.rf
theorem g_iret (hC : Cx p s m args c cc nL x0 own D ad cy A) (hr : meth.sig.returnType = some .int) (hlk : meth.locks = false) {K : Int32 → St → Prop} {x : Int32} (d : decode cc pc = .ok (.ireturn, 1)) : G p l e R s m args below meth c cells slots (MQ below (va_Qi K (Bq D ad cy) A) args s cells slots A) nL D ad cy A (K x V) V pc L [.int x] := fun hw ls H locs h1 h2 h3 => W.iret hC.1.1 hC.1.2.1 hr (fun t ht hW => ⟨⟨x, V, rfl, hw, by unfold Bq; rw [ht]; exact h2⟩, h3.F ht⟩) h3.2.2 d hlk
theorem g_zret0 (hC : Cx p s m args c cc nL x0 own D ad cy A) (hr : meth.sig.returnType = some .boolean) (hlk : meth.locks = false) {K : Int32 → St → Prop} {x : Int32} (d : decode cc pc = .ok (.ireturn, 1)) (hx : x = 0 ∨ x = 1) : G p l e R s m args below meth c cells slots (MQ below (va_Qi K (Bq D ad cy) A) args s cells slots A) nL D ad cy A (K x V) V pc L [.int x] := fun hw ls H locs h1 h2 h3 => W.zret hC.1.1 hC.1.2.1 hr (by rcases hx with h | h <;> rw [h] <;> decide) (fun t ht hW => ⟨⟨x, V, rfl, hw, by unfold Bq; rw [ht]; exact h2⟩, h3.F ht⟩) h3.2.2 d hlk
theorem g_zret (hC : Cx p s m args c cc nL x0 own D ad cy A) (hr : meth.sig.returnType = some .boolean) (hlk : meth.locks = false) {K : Int32 → St → Prop} {x : Int32} (d : decode cc pc = .ok (.ireturn, 1)) : G p l e R s m args below meth c cells slots (MQ below (va_Qi K (Bq D ad cy) A) args s cells slots A) nL D ad cy A ((x = 0 ∨ x = 1) ∧ K x V) V pc L [.int x] := fun hw => g_zret0 hC hr hlk d hw.1 hw.2
theorem g_vret (hC : Cx p s m args c cc nL x0 own D ad cy A) (hr : meth.sig.returnType = none) (hlk : meth.locks = false) {K : St → Prop} (d : decode cc pc = .ok (.return_, 1)) : G p l e R s m args below meth c cells slots (MQ below (va_Qv K (Bq D ad cy) A) args s cells slots A) nL D ad cy A (K V) V pc L [] := fun hw ls H locs h1 h2 h3 => W.vret hC.1.1 hC.1.2.1 hr (fun t ht hW => ⟨⟨V, rfl, hw, by unfold Bq; rw [ht]; exact h2⟩, h3.F ht⟩) h3.2.2 d hlk
theorem Bs.blind {av : List Value} {sz : Nat} : FrameBlind (va_Pc av (fun U => U.heap.size = sz ∧ Bs D ad cy V U)) := by
  intro a U g mk q
  obtain ⟨q0, q1, qP, qK, qN⟩ := q
  exact ⟨q0, q1, qP, va_K.moved (u := U) (U := U.calling g mk a) (Vm.Alike.refl U.vm) qK, fun z hz => nw_calling hz (qN z hz)⟩
theorem Cx.callee (hC : Cx p s m args c cc nL x0 own D ad cy A) {H : Heap} (h2 : va_P D vwCl (wA ad cy V) H) {U : State} (hU : U.heap = H) (hW : s.WarmedH U.vm) : U.heap.size = H.size ∧ Bs D ad cy V U := ⟨by rw [hU], by rw [hU]; exact h2, va_K.moved hW.alike hC.2.2.1, fun z hz => nw_warm hz hW (hC.2.1 z hz)⟩
theorem Cx.fr (hC : Cx p s m args c cc nL x0 own D ad cy A) {H : Heap} {locs : List Loc} (h3 : va_S A s.heap H locs) {q : Nat} (h : fr ad H.size q) : A q := by
  rcases h with ⟨j, hj, rfl⟩ | h
  · exact hC.2.2.2.2.1 j hj
  · exact hC.2.2.2.2.2 q (Nat.le_trans h3.1 h)
theorem Cx.wV (hC : Cx p s m args c cc nL x0 own D ad cy A) {y : MethodName} {b : ByteArray} {mL n index : Nat} {ret : Option FieldType} {rm : Room} (hm : MI y b mL ret n) (hl : Cond.methodLink own index y ∈ WA) {mc ms : Nat} (hrc : rm.cells = mc) (hrs : rm.slots = ms) (hR : rm.frames + 1 ≤ R.frames ∧ 8 + (mL + 11) + rm.locals ≤ R.locals) : CallW R s args own y.cls index y b mL ret (Cond.code y b mL ret :: WA) rm mc ms n := by
  obtain ⟨h1, h2, h3, h4, h5, h6, h7⟩ := hm
  refine cwV n hC.1.2.2.2.2 (fun z hz => ?_) rfl hrc hrs ⟨rfl, h5, h6, h7⟩ hR
  rcases List.mem_append.mp hz with h | h
  · simp only [List.mem_cons, List.not_mem_nil, or_false] at h
    rcases h with rfl | rfl | rfl | rfl
    · exact goodWA hl
    · exact goodWA h2
    · exact goodWA h3
    · exact goodWA h4
  · exact goodCode h1 z h
theorem Cx.wS (hC : Cx p s m args c cc nL x0 own D ad cy A) {y : MethodName} {b : ByteArray} {mL n index : Nat} {ret : Option FieldType} {rm : Room} (hm : MS y b mL ret n) (hl : Cond.methodLink own index y ∈ WA) {mc ms : Nat} (hrc : rm.cells = mc) (hrs : rm.slots = ms) (hR : rm.frames + 1 ≤ R.frames ∧ 8 + (mL + 11) + rm.locals ≤ R.locals) : CallB R s args own index y b mL ret (Cond.code y b mL ret :: WA) rm mc ms n ∧ (Cond.static y).before args s = true := by
  obtain ⟨h1, h2, h3, h5, h6, h7⟩ := hm
  refine va_cwS n hC.1.2.2.2.2 (fun z hz => ?_) rfl hrc hrs ⟨h5, h6, h7⟩ hR
  rcases List.mem_append.mp hz with h | h
  · simp only [List.mem_cons, List.not_mem_nil, or_false] at h
    rcases h with rfl | rfl | rfl
    · exact goodWA hl
    · exact goodWA h2
    · exact goodWA h3
  · exact goodCode h1 z h
theorem g_cvi (hC : Cx p s m args c cc nL x0 own D ad cy A) {y : MethodName} {b : ByteArray} {mL n index j ci N : Nat} {ret : Option FieldType} {rm : Room} {As rest : List Value} {sl : List (Option Nat)} {T : u_T} {K : Int32 → St → Prop} (hM : w → Hi l D ad cy y (Cond.code y b mL ret :: WA) rm (.ref (ad j) :: As) V K) (hm : MI y b mL ret n) (hlk : Cond.methodLink own index y ∈ WA) (hrm : rm.cells = 0 ∧ rm.slots = 0) (hR : rm.frames + 1 ≤ R.frames ∧ 8 + (mL + 11) + rm.locals ≤ R.locals) (hj : j < 94) (hl : ly j = .inl (ci, sl)) (hc : vwCl[ci]? = some (y.cls, T, N)) (hn : As.length = n) (hst : st = As.reverse ++ .ref (ad j) :: rest) (hW : (rest.map fun v => v.category).sum ≤ 8) (hcs : cells + 0 ≤ R.cells ∧ slots + 0 ≤ R.slots) (d : decode cc pc = .ok (.invokevirtual index, 3)) (kk : ∀ r V2, G p l e R s m args below meth c cells slots Q nL D ad cy A (K r V2) V2 (pc + 3) L (.int r :: rest)) : G p l e R s m args below meth c cells slots Q nL D ad cy A w V pc L st := by
  subst hst
  intro hw ls H locs h1 h2 h3
  exact va_calli (va_runV (As := As) (rest := rest) hC.1 (hM hw H.size) (hC.wV hm hlk hrm.1 hrm.2 hR) ⟨Bs.blind, va_recv hC.2.2.1 h2 hc (wA_obj ad cy V hj hl), fun U hU hW => ⟨rfl, hC.callee h2 hU hW⟩⟩ rfl hn h1.1 rfl (lv_room hW) d hcs) h3 (fun q _ h => hC.fr h3 h) (fun q h => hC.fr h3 h) (fun r V2 t H1 locs1 ht _ hp hb _ _ hS => kk r V2 hp ls H1 locs1 h1 (by rw [← ht]; exact hb) hS)
theorem g_cvv (hC : Cx p s m args c cc nL x0 own D ad cy A) {y : MethodName} {b : ByteArray} {mL n index j ci N : Nat} {ret : Option FieldType} {rm : Room} {As rest : List Value} {sl : List (Option Nat)} {T : u_T} {K : St → Prop} (hM : w → Hv l D ad cy y (Cond.code y b mL ret :: WA) rm (.ref (ad j) :: As) V K) (hm : MI y b mL ret n) (hlk : Cond.methodLink own index y ∈ WA) (hrm : rm.cells = 0 ∧ rm.slots = 0) (hR : rm.frames + 1 ≤ R.frames ∧ 8 + (mL + 11) + rm.locals ≤ R.locals) (hj : j < 94) (hl : ly j = .inl (ci, sl)) (hc : vwCl[ci]? = some (y.cls, T, N)) (hn : As.length = n) (hst : st = As.reverse ++ .ref (ad j) :: rest) (hW : (rest.map fun v => v.category).sum ≤ 8) (hcs : cells + 0 ≤ R.cells ∧ slots + 0 ≤ R.slots) (d : decode cc pc = .ok (.invokevirtual index, 3)) (kk : ∀ V2, G p l e R s m args below meth c cells slots Q nL D ad cy A (K V2) V2 (pc + 3) L rest) : G p l e R s m args below meth c cells slots Q nL D ad cy A w V pc L st := by
  subst hst
  intro hw ls H locs h1 h2 h3
  exact va_callv (va_runV (As := As) (rest := rest) hC.1 (hM hw H.size) (hC.wV hm hlk hrm.1 hrm.2 hR) ⟨Bs.blind, va_recv hC.2.2.1 h2 hc (wA_obj ad cy V hj hl), fun U hU hW => ⟨rfl, hC.callee h2 hU hW⟩⟩ rfl hn h1.1 rfl (lv_room hW) d hcs) h3 (fun q _ h => hC.fr h3 h) (fun q h => hC.fr h3 h) (fun V2 t H1 locs1 ht _ hp hb _ _ hS => kk V2 hp ls H1 locs1 h1 (by rw [← ht]; exact hb) hS)
theorem g_csi (hC : Cx p s m args c cc nL x0 own D ad cy A) {y : MethodName} {b : ByteArray} {mL n index : Nat} {ret : Option FieldType} {rm : Room} {As rest : List Value} {K : Int32 → St → Prop} (hM : w → Hi l D ad cy y (Cond.code y b mL ret :: WA) rm As V K) (hm : MS y b mL ret n) (hlk : Cond.methodLink own index y ∈ WA) (hrm : rm.cells = 0 ∧ rm.slots = 0) (hR : rm.frames + 1 ≤ R.frames ∧ 8 + (mL + 11) + rm.locals ≤ R.locals) (hn : As.length = n) (hst : st = As.reverse ++ rest) (hW : (rest.map fun v => v.category).sum ≤ 8) (hcs : cells + 0 ≤ R.cells ∧ slots + 0 ≤ R.slots) (d : decode cc pc = .ok (.invokestatic index, 3)) (kk : ∀ r V2, G p l e R s m args below meth c cells slots Q nL D ad cy A (K r V2) V2 (pc + 3) L (.int r :: rest)) : G p l e R s m args below meth c cells slots Q nL D ad cy A w V pc L st := by
  subst hst
  intro hw ls H locs h1 h2 h3
  exact va_calli (va_runS (As := As) (rest := rest) hC.1 (hM hw H.size) (hC.wS hm hlk hrm.1 hrm.2 hR) ⟨Bs.blind, fun U hU hW => ⟨rfl, hC.callee h2 hU hW⟩⟩ rfl hn h1.1 rfl (lv_room hW) d hcs) h3 (fun q _ h => hC.fr h3 h) (fun q h => hC.fr h3 h) (fun r V2 t H1 locs1 ht _ hp hb _ _ hS => kk r V2 hp ls H1 locs1 h1 (by rw [← ht]; exact hb) hS)
end CT
def lp {β : Type} (z : β) (b : β → β) : Nat → β
  | 0 => z
  | n + 1 => b (lp z b n)
