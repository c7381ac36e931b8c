/-! ===== the same rows, with the rest of the world under a name ===== -/
theorem va_D.nd {A : Nat → Prop} {ws : va_W} : va_D A ws ↔ (ws.map (fun x => x.1)).Nodup ∧ ∀ x ∈ ws, A x.1 := by
  constructor
  · rintro ⟨h1, h2⟩
    refine ⟨?_, fun x hx => ?_⟩
    · rw [List.Nodup, List.pairwise_iff_getElem]
      intro i j hi hj hij e
      simp only [List.getElem_map] at e
      simp only [List.length_map] at hi hj
      have := h1 i j _ _ (List.getElem?_eq_getElem hi) (List.getElem?_eq_getElem hj) e
      omega
    · obtain ⟨k, hk⟩ := List.getElem?_of_mem hx
      exact h2 k x hk
  · rintro ⟨h1, h2⟩
    refine ⟨fun i j x y hx hy e => ?_, fun k x hk => h2 x (List.mem_of_getElem? hk)⟩
    rw [List.Nodup, List.pairwise_iff_getElem] at h1
    obtain ⟨hi, ei⟩ := List.getElem?_eq_some_iff.mp hx
    obtain ⟨hj, ej⟩ := List.getElem?_eq_some_iff.mp hy
    rcases Nat.lt_trichotomy i j with h | h | h
    · exact (h1 i j (by simpa using hi) (by simpa using hj) h (by simp only [List.getElem_map, ei, ej]; exact e)).elim
    · exact h
    · exact (h1 j i (by simpa using hj) (by simpa using hi) h (by simp only [List.getElem_map, ei, ej]; exact e.symm)).elim
theorem va_D.perm {A : Nat → Prop} {ws ws2 : va_W} (hp : ws.Perm ws2) (h : va_D A ws) : va_D A ws2 := by
  rw [va_D.nd] at h ⊢
  exact ⟨(hp.map (fun x => x.1)).nodup_iff.mp h.1, fun x hx => h.2 x (hp.mem_iff.mpr hx)⟩
theorem va_P.perm {D : va_G} {cl : List vw_C} {ws ws2 : va_W} {H : Heap} (hp : ws.Perm ws2) (h : va_P D cl ws H) : va_P D cl ws2 H := fun k q hk => by
  obtain ⟨i, hi⟩ := List.getElem?_of_mem (hp.mem_iff.mpr (List.mem_of_getElem? hk))
  exact h i q hi
theorem ap_perm (pre R w : va_W) : (ap (ap pre R) w).Perm (ap pre (ap w R)) := by
  unfold ap
  rw [List.append_assoc]
  exact List.Perm.append_left pre List.perm_append_comm
section HR
variable {p : Program} {l : Launch} {e : Env} {R : Room} {s : State} {m : MethodId} {args : Array Value} {below : List Frame} {meth : Method} {c : Code} {cells slots : Nat} {Q : State → Prop} {cc : ByteArray} {nL : Nat} {x0 : Cond} {own : String} {D : va_G} {cy : Nat → ClassId} {A : Nat → Prop}
variable {ws ws2 pre Rs : va_W} {pc : Nat} {L : List (Option Value)} {st : List Value}
theorem n_perm (hp : ws.Perm ws2) (k : Nd p l e R s m args below meth c cells slots Q nL D A ws2 pc L st) : Nd p l e R s m args below meth c cells slots Q nL D A ws pc L st := fun ls H locs h1 h2 h3 h4 => k ls H locs h1 (va_P.perm hp h2) (va_D.perm hp h3) h4
theorem n_newH (hC : Cn p s m args c cc nL x0 own D cy A) {index ci N : Nat} {fs : List Value} (hm : MK own index ci N fs) (hc : cells + 1 ≤ R.cells) (hs : slots + N ≤ R.slots) (d : decode cc pc = .ok (.new index, 3)) (k : ∀ q, Nd p l e R s m args below meth c (cells + 1) (slots + N) Q nL D A (ap pre (ap [(q, .inr (ci, fs))] Rs)) (pc + 3) L (.ref q :: st)) : Nd p l e R s m args below meth c cells slots Q nL D A (ap pre Rs) pc L st := n_new hC hm hc hs d (fun q => n_perm (ap_perm pre Rs _) (k q))
theorem n_newaH (hC : Cn p s m args c cc nL x0 own D cy A) {atype : ArrayType} (t : Nat) {ty : FieldType} (hty : newarray.typeOf atype = ty) (hp4 : ty = .int ∨ ty = .byte ∨ ty = .boolean ∨ ty = .long) (htl : (tyl cy)[t]? = some (cy t, ty)) (hcl : Cond.arrayClass (newarray.typeOf atype) ∈ WA) {n : Int32} {N' : Nat} {a0 : vp_A} (ha : ∀ cA : ClassId, vp_cell cA a0 = arrV cA N' (fun _ => defaultValue ty)) (hn : ¬ n < 0) (hN : n.toNatClampNeg = N') (hby : N' * componentBytes ty ≤ 536870912) (hc : cells + 1 ≤ R.cells) (hs : slots + N' ≤ R.slots) (d : decode cc pc = .ok (.newarray atype, 2)) (k : ∀ q, Nd p l e R s m args below meth c (cells + 1) (slots + N') Q nL D A (ap pre (ap [(q, .inl (cy t, a0))] Rs)) (pc + 2) L (.ref q :: st)) : Nd p l e R s m args below meth c cells slots Q nL D A (ap pre Rs) pc L (.int n :: st) := n_newa hC t hty hp4 htl hcl ha hn hN hby hc hs d (fun q => n_perm (ap_perm pre Rs _) (k q))
theorem n_newqH (hC : Cn p s m args c cc nL x0 own D cy A) (t : Nat) {C : String} {index : Nat} (hao : va_AO C s) (htl : (tyl cy)[t]? = some (cy t, .object C)) (hcl : Cond.classLink own index C ∈ WA) {n : Int32} {N' : Nat} (hn : ¬ n < 0) (hN : n.toNatClampNeg = N') (hby : N' * 4 ≤ 536870912) (hc : cells + 1 ≤ R.cells) (hs : slots + N' ≤ R.slots) (d : decode cc pc = .ok (.anewarray index, 3)) {pre2 : Nat → va_W} (hpre : ∀ q, ap pre [(q, .inl (cy t, N', .inr (.inr (.inr (.inr (fun _ => none))))))] = pre2 q) (k : ∀ q, Nd p l e R s m args below meth c (cells + 1) (slots + N') Q nL D A (ap (pre2 q) Rs) (pc + 3) L (.ref q :: st)) : Nd p l e R s m args below meth c cells slots Q nL D A (ap pre Rs) pc L (.int n :: st) := n_newq hC t hao htl hcl hn hN hby hc hs d (fun q => n_perm (ap_perm pre Rs _) (by
  have := k q
  rw [← hpre q] at this
  unfold ap at this ⊢
  rw [List.append_assoc] at this
  exact this))
theorem n_initH (hC : Cn p s m args c cc nL x0 own D cy A) {y : MethodName} {b : ByteArray} {mL n index mc ms q : Nat} {rm : Room} {As rest : List Value} {o : va_E} {Post : Nat → va_W → Prop} (hM : HN l D cy y (Cond.code y b mL none :: WA) rm mc ms As o Post) (hm : MN y b mL n) (hlk : Cond.methodLink own index y ∈ WA ∨ ∃ host, Cond.methodLinkNest own index y host ∈ NW) (hrm : rm.cells = mc ∧ rm.slots = ms) (hR : rm.frames + 1 ≤ R.frames ∧ 8 + (mL + 11) + rm.locals ≤ R.locals) (hn : As.length = n) (hst : st = As.reverse ++ .ref q :: rest) (hW : (rest.map fun v => v.category).sum ≤ 8) (hcs : cells + mc ≤ R.cells ∧ slots + ms ≤ R.slots) (d : decode cc pc = .ok (.invokespecial index, 3)) (kk : ∀ w1, Post q w1 → Nd p l e R s m args below meth c (cells + mc) (slots + ms) Q nL D A (ap pre (ap w1 Rs)) (pc + 3) L rest) : Nd p l e R s m args below meth c cells slots Q nL D A (ap pre (ap [(q, o)] Rs)) pc L st := n_perm (ap_perm pre Rs _).symm (n_init hC hM hm hlk hrm hR hn hst hW hcs d (fun w1 hw => n_perm (ap_perm pre Rs _) (kk w1 hw)))
end HR
