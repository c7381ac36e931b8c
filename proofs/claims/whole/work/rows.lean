section
-- ===== PART A: goes FIRST, ahead of the names: the tables' words, and 'selects' of the private methods out of them =====
/-- a private method of a class that the tables say can be made, by its rows of tables_1 -/
def lw_okq (q : MethodName × Nat) : Prop := (q.1.cls ≠ "java/lang/invoke/MethodHandle" ∧ q.1.cls ≠ "java/lang/invoke/VarHandle") ∧ Cond.instantiable q.1.cls q.2 ∈ tables_1 ∧ Cond.privateMethod q.1 ∈ tables_1 ∧ Cond.instanceMethod q.1 ∈ tables_1
theorem lw_p0 : lw_okq (⟨"BudgetKernel", "beginPeriods", "()V"⟩, 6) := ⟨⟨by decide +kernel, by decide +kernel⟩, List.mem_of_getElem? (i := 16) (by decide +kernel), List.mem_of_getElem? (i := 205) (by decide +kernel), List.mem_of_getElem? (i := 206) (by decide +kernel)⟩
theorem lw_p1 : lw_okq (⟨"BudgetKernel", "runOne", "()I"⟩, 6) := ⟨⟨by decide +kernel, by decide +kernel⟩, List.mem_of_getElem? (i := 16) (by decide +kernel), List.mem_of_getElem? (i := 213) (by decide +kernel), List.mem_of_getElem? (i := 214) (by decide +kernel)⟩
theorem lw_p2 : lw_okq (⟨"BudgetKernel", "runTop", "()I"⟩, 6) := ⟨⟨by decide +kernel, by decide +kernel⟩, List.mem_of_getElem? (i := 16) (by decide +kernel), List.mem_of_getElem? (i := 217) (by decide +kernel), List.mem_of_getElem? (i := 218) (by decide +kernel)⟩
theorem lw_p3 : lw_okq (⟨"BudgetKernel", "highestReadySource", "()I"⟩, 6) := ⟨⟨by decide +kernel, by decide +kernel⟩, List.mem_of_getElem? (i := 16) (by decide +kernel), List.mem_of_getElem? (i := 229) (by decide +kernel), List.mem_of_getElem? (i := 230) (by decide +kernel)⟩
theorem lw_p4 : lw_okq (⟨"BudgetKernel$Source", "spendUnit", "(I)V"⟩, 18) := ⟨⟨by decide +kernel, by decide +kernel⟩, List.mem_of_getElem? (i := 25) (by decide +kernel), List.mem_of_getElem? (i := 241) (by decide +kernel), List.mem_of_getElem? (i := 242) (by decide +kernel)⟩
theorem lw_p5 : lw_okq (⟨"BudgetKernel$Source", "finishFirst", "(I)V"⟩, 18) := ⟨⟨by decide +kernel, by decide +kernel⟩, List.mem_of_getElem? (i := 25) (by decide +kernel), List.mem_of_getElem? (i := 255) (by decide +kernel), List.mem_of_getElem? (i := 256) (by decide +kernel)⟩
theorem lw_p6 : lw_okq (⟨"BudgetKernel", "highestTaskWithWork", "()I"⟩, 6) := ⟨⟨by decide +kernel, by decide +kernel⟩, List.mem_of_getElem? (i := 16) (by decide +kernel), List.mem_of_getElem? (i := 259) (by decide +kernel), List.mem_of_getElem? (i := 260) (by decide +kernel)⟩
theorem lw_p7 : lw_okq (⟨"BudgetKernel", "giveBack", "()V"⟩, 6) := ⟨⟨by decide +kernel, by decide +kernel⟩, List.mem_of_getElem? (i := 16) (by decide +kernel), List.mem_of_getElem? (i := 270) (by decide +kernel), List.mem_of_getElem? (i := 271) (by decide +kernel)⟩
theorem lw_p8 : lw_okq (⟨"java/lang/Throwable", "fillInStackTrace", "(I)Ljava/lang/Throwable;"⟩, 6) := ⟨⟨by decide +kernel, by decide +kernel⟩, List.mem_of_getElem? (i := 342) (by decide +kernel), List.mem_of_getElem? (i := 340) (by decide +kernel), List.mem_of_getElem? (i := 341) (by decide +kernel)⟩
theorem lw_p9 : lw_okq (⟨"BudgetKernel", "sourceHasPriority", "(I)Z"⟩, 6) := ⟨⟨by decide +kernel, by decide +kernel⟩, List.mem_of_getElem? (i := 16) (by decide +kernel), List.mem_of_getElem? (i := 382) (by decide +kernel), List.mem_of_getElem? (i := 383) (by decide +kernel)⟩
theorem lw_p10 : lw_okq (⟨"BudgetKernel", "tasksAdmitted", "()Z"⟩, 6) := ⟨⟨by decide +kernel, by decide +kernel⟩, List.mem_of_getElem? (i := 16) (by decide +kernel), List.mem_of_getElem? (i := 405) (by decide +kernel), List.mem_of_getElem? (i := 406) (by decide +kernel)⟩
theorem lw_p11 : lw_okq (⟨"BudgetKernel", "taskBound", "(LBudgetKernel$BaseTask;)I"⟩, 6) := ⟨⟨by decide +kernel, by decide +kernel⟩, List.mem_of_getElem? (i := 16) (by decide +kernel), List.mem_of_getElem? (i := 409) (by decide +kernel), List.mem_of_getElem? (i := 410) (by decide +kernel)⟩
theorem lw_p12 : lw_okq (⟨"BudgetKernel", "leastBound", "(IIII)I"⟩, 6) := ⟨⟨by decide +kernel, by decide +kernel⟩, List.mem_of_getElem? (i := 16) (by decide +kernel), List.mem_of_getElem? (i := 413) (by decide +kernel), List.mem_of_getElem? (i := 414) (by decide +kernel)⟩
theorem lw_p13 : lw_okq (⟨"BudgetKernel", "handlersTake", "(II)I"⟩, 6) := ⟨⟨by decide +kernel, by decide +kernel⟩, List.mem_of_getElem? (i := 16) (by decide +kernel), List.mem_of_getElem? (i := 417) (by decide +kernel), List.mem_of_getElem? (i := 418) (by decide +kernel)⟩
theorem lw_p14 : lw_okq (⟨"BudgetKernel", "topsTake", "(I)I"⟩, 6) := ⟨⟨by decide +kernel, by decide +kernel⟩, List.mem_of_getElem? (i := 16) (by decide +kernel), List.mem_of_getElem? (i := 424) (by decide +kernel), List.mem_of_getElem? (i := 425) (by decide +kernel)⟩
theorem lw_p15 : lw_okq (⟨"BudgetKernel", "tasksTake", "(II)I"⟩, 6) := ⟨⟨by decide +kernel, by decide +kernel⟩, List.mem_of_getElem? (i := 16) (by decide +kernel), List.mem_of_getElem? (i := 428) (by decide +kernel), List.mem_of_getElem? (i := 429) (by decide +kernel)⟩
def lw_privs_1 : List (MethodName × Nat) := [(⟨"BudgetKernel", "beginPeriods", "()V"⟩, 6), (⟨"BudgetKernel", "runOne", "()I"⟩, 6), (⟨"BudgetKernel", "runTop", "()I"⟩, 6), (⟨"BudgetKernel", "highestReadySource", "()I"⟩, 6), (⟨"BudgetKernel$Source", "spendUnit", "(I)V"⟩, 18), (⟨"BudgetKernel$Source", "finishFirst", "(I)V"⟩, 18), (⟨"BudgetKernel", "highestTaskWithWork", "()I"⟩, 6), (⟨"BudgetKernel", "giveBack", "()V"⟩, 6), (⟨"java/lang/Throwable", "fillInStackTrace", "(I)Ljava/lang/Throwable;"⟩, 6), (⟨"BudgetKernel", "sourceHasPriority", "(I)Z"⟩, 6), (⟨"BudgetKernel", "tasksAdmitted", "()Z"⟩, 6), (⟨"BudgetKernel", "taskBound", "(LBudgetKernel$BaseTask;)I"⟩, 6), (⟨"BudgetKernel", "leastBound", "(IIII)I"⟩, 6), (⟨"BudgetKernel", "handlersTake", "(II)I"⟩, 6), (⟨"BudgetKernel", "topsTake", "(I)I"⟩, 6), (⟨"BudgetKernel", "tasksTake", "(II)I"⟩, 6)]
theorem lw_r1 : ∀ q ∈ lw_privs_1, lw_okq q := List.forall_mem_cons.mpr ⟨lw_p0, List.forall_mem_cons.mpr ⟨lw_p1, List.forall_mem_cons.mpr ⟨lw_p2, List.forall_mem_cons.mpr ⟨lw_p3, List.forall_mem_cons.mpr ⟨lw_p4, List.forall_mem_cons.mpr ⟨lw_p5, List.forall_mem_cons.mpr ⟨lw_p6, List.forall_mem_cons.mpr ⟨lw_p7, List.forall_mem_cons.mpr ⟨lw_p8, List.forall_mem_cons.mpr ⟨lw_p9, List.forall_mem_cons.mpr ⟨lw_p10, List.forall_mem_cons.mpr ⟨lw_p11, List.forall_mem_cons.mpr ⟨lw_p12, List.forall_mem_cons.mpr ⟨lw_p13, List.forall_mem_cons.mpr ⟨lw_p14, List.forall_mem_cons.mpr ⟨lw_p15, fun _ h => absurd h List.not_mem_nil⟩⟩⟩⟩⟩⟩⟩⟩⟩⟩⟩⟩⟩⟩⟩⟩
theorem lw_p16 : lw_okq (⟨"BudgetKernel", "taskHasPriority", "(I)Z"⟩, 6) := ⟨⟨by decide +kernel, by decide +kernel⟩, List.mem_of_getElem? (i := 16) (by decide +kernel), List.mem_of_getElem? (i := 443) (by decide +kernel), List.mem_of_getElem? (i := 444) (by decide +kernel)⟩
theorem lw_p17 : lw_okq (⟨"BudgetKernel", "toldSource", "(I)LBudgetKernel$Source;"⟩, 6) := ⟨⟨by decide +kernel, by decide +kernel⟩, List.mem_of_getElem? (i := 16) (by decide +kernel), List.mem_of_getElem? (i := 458) (by decide +kernel), List.mem_of_getElem? (i := 459) (by decide +kernel)⟩
theorem lw_p18 : lw_okq (⟨"BudgetKernel$Pieces", "next", "()I"⟩, 3) := ⟨⟨by decide +kernel, by decide +kernel⟩, List.mem_of_getElem? (i := 50) (by decide +kernel), List.mem_of_getElem? (i := 487) (by decide +kernel), List.mem_of_getElem? (i := 488) (by decide +kernel)⟩
theorem lw_p19 : lw_okq (⟨"BudgetKernel", "sourceBound", "(LBudgetKernel$Source;)I"⟩, 6) := ⟨⟨by decide +kernel, by decide +kernel⟩, List.mem_of_getElem? (i := 16) (by decide +kernel), List.mem_of_getElem? (i := 524) (by decide +kernel), List.mem_of_getElem? (i := 525) (by decide +kernel)⟩
theorem lw_p20 : lw_okq (⟨"BudgetKernelModel", "areAdmitted", "()Z"⟩, 35) := ⟨⟨by decide +kernel, by decide +kernel⟩, List.mem_of_getElem? (i := 544) (by decide +kernel), List.mem_of_getElem? (i := 668) (by decide +kernel), List.mem_of_getElem? (i := 669) (by decide +kernel)⟩
theorem lw_p21 : lw_okq (⟨"BudgetKernelModel", "taskBound", "(I)I"⟩, 35) := ⟨⟨by decide +kernel, by decide +kernel⟩, List.mem_of_getElem? (i := 544) (by decide +kernel), List.mem_of_getElem? (i := 672) (by decide +kernel), List.mem_of_getElem? (i := 673) (by decide +kernel)⟩
theorem lw_p22 : lw_okq (⟨"BudgetKernelModel", "taskNeeds", "(II)I"⟩, 35) := ⟨⟨by decide +kernel, by decide +kernel⟩, List.mem_of_getElem? (i := 544) (by decide +kernel), List.mem_of_getElem? (i := 676) (by decide +kernel), List.mem_of_getElem? (i := 677) (by decide +kernel)⟩
theorem lw_p23 : lw_okq (⟨"BudgetKernelModel", "sourcesIn", "(I)I"⟩, 35) := ⟨⟨by decide +kernel, by decide +kernel⟩, List.mem_of_getElem? (i := 544) (by decide +kernel), List.mem_of_getElem? (i := 680) (by decide +kernel), List.mem_of_getElem? (i := 681) (by decide +kernel)⟩
theorem lw_p24 : lw_okq (⟨"BudgetKernelModel", "handlers", "(II)I"⟩, 35) := ⟨⟨by decide +kernel, by decide +kernel⟩, List.mem_of_getElem? (i := 544) (by decide +kernel), List.mem_of_getElem? (i := 684) (by decide +kernel), List.mem_of_getElem? (i := 685) (by decide +kernel)⟩
theorem lw_p25 : lw_okq (⟨"BudgetKernelModel", "topHalves", "(II)I"⟩, 35) := ⟨⟨by decide +kernel, by decide +kernel⟩, List.mem_of_getElem? (i := 544) (by decide +kernel), List.mem_of_getElem? (i := 691) (by decide +kernel), List.mem_of_getElem? (i := 692) (by decide +kernel)⟩
theorem lw_p26 : lw_okq (⟨"BudgetKernelModel", "isSource", "(I)Z"⟩, 35) := ⟨⟨by decide +kernel, by decide +kernel⟩, List.mem_of_getElem? (i := 544) (by decide +kernel), List.mem_of_getElem? (i := 703) (by decide +kernel), List.mem_of_getElem? (i := 704) (by decide +kernel)⟩
theorem lw_p27 : lw_okq (⟨"BudgetKernelModel", "pass", "()I"⟩, 35) := ⟨⟨by decide +kernel, by decide +kernel⟩, List.mem_of_getElem? (i := 544) (by decide +kernel), List.mem_of_getElem? (i := 711) (by decide +kernel), List.mem_of_getElem? (i := 712) (by decide +kernel)⟩
theorem lw_p28 : lw_okq (⟨"BudgetKernelModel", "giveBack", "()V"⟩, 35) := ⟨⟨by decide +kernel, by decide +kernel⟩, List.mem_of_getElem? (i := 544) (by decide +kernel), List.mem_of_getElem? (i := 715) (by decide +kernel), List.mem_of_getElem? (i := 716) (by decide +kernel)⟩
theorem lw_p29 : lw_okq (⟨"BudgetKernelModel", "budgetLeft", "(I)I"⟩, 35) := ⟨⟨by decide +kernel, by decide +kernel⟩, List.mem_of_getElem? (i := 544) (by decide +kernel), List.mem_of_getElem? (i := 719) (by decide +kernel), List.mem_of_getElem? (i := 720) (by decide +kernel)⟩
theorem lw_p30 : lw_okq (⟨"BudgetKernelModel", "runOne", "()I"⟩, 35) := ⟨⟨by decide +kernel, by decide +kernel⟩, List.mem_of_getElem? (i := 544) (by decide +kernel), List.mem_of_getElem? (i := 723) (by decide +kernel), List.mem_of_getElem? (i := 724) (by decide +kernel)⟩
theorem lw_p31 : lw_okq (⟨"BudgetKernelModel", "runTop", "()I"⟩, 35) := ⟨⟨by decide +kernel, by decide +kernel⟩, List.mem_of_getElem? (i := 544) (by decide +kernel), List.mem_of_getElem? (i := 727) (by decide +kernel), List.mem_of_getElem? (i := 728) (by decide +kernel)⟩
def lw_privs_2 : List (MethodName × Nat) := [(⟨"BudgetKernel", "taskHasPriority", "(I)Z"⟩, 6), (⟨"BudgetKernel", "toldSource", "(I)LBudgetKernel$Source;"⟩, 6), (⟨"BudgetKernel$Pieces", "next", "()I"⟩, 3), (⟨"BudgetKernel", "sourceBound", "(LBudgetKernel$Source;)I"⟩, 6), (⟨"BudgetKernelModel", "areAdmitted", "()Z"⟩, 35), (⟨"BudgetKernelModel", "taskBound", "(I)I"⟩, 35), (⟨"BudgetKernelModel", "taskNeeds", "(II)I"⟩, 35), (⟨"BudgetKernelModel", "sourcesIn", "(I)I"⟩, 35), (⟨"BudgetKernelModel", "handlers", "(II)I"⟩, 35), (⟨"BudgetKernelModel", "topHalves", "(II)I"⟩, 35), (⟨"BudgetKernelModel", "isSource", "(I)Z"⟩, 35), (⟨"BudgetKernelModel", "pass", "()I"⟩, 35), (⟨"BudgetKernelModel", "giveBack", "()V"⟩, 35), (⟨"BudgetKernelModel", "budgetLeft", "(I)I"⟩, 35), (⟨"BudgetKernelModel", "runOne", "()I"⟩, 35), (⟨"BudgetKernelModel", "runTop", "()I"⟩, 35)]
theorem lw_r2 : ∀ q ∈ lw_privs_2, lw_okq q := List.forall_mem_cons.mpr ⟨lw_p16, List.forall_mem_cons.mpr ⟨lw_p17, List.forall_mem_cons.mpr ⟨lw_p18, List.forall_mem_cons.mpr ⟨lw_p19, List.forall_mem_cons.mpr ⟨lw_p20, List.forall_mem_cons.mpr ⟨lw_p21, List.forall_mem_cons.mpr ⟨lw_p22, List.forall_mem_cons.mpr ⟨lw_p23, List.forall_mem_cons.mpr ⟨lw_p24, List.forall_mem_cons.mpr ⟨lw_p25, List.forall_mem_cons.mpr ⟨lw_p26, List.forall_mem_cons.mpr ⟨lw_p27, List.forall_mem_cons.mpr ⟨lw_p28, List.forall_mem_cons.mpr ⟨lw_p29, List.forall_mem_cons.mpr ⟨lw_p30, List.forall_mem_cons.mpr ⟨lw_p31, fun _ h => absurd h List.not_mem_nil⟩⟩⟩⟩⟩⟩⟩⟩⟩⟩⟩⟩⟩⟩⟩⟩
theorem lw_p32 : lw_okq (⟨"BudgetKernelModel", "isReady", "(I)Z"⟩, 35) := ⟨⟨by decide +kernel, by decide +kernel⟩, List.mem_of_getElem? (i := 544) (by decide +kernel), List.mem_of_getElem? (i := 731) (by decide +kernel), List.mem_of_getElem? (i := 732) (by decide +kernel)⟩
theorem lw_p33 : lw_okq (⟨"BudgetKernelModel", "runHandler", "(I)V"⟩, 35) := ⟨⟨by decide +kernel, by decide +kernel⟩, List.mem_of_getElem? (i := 544) (by decide +kernel), List.mem_of_getElem? (i := 735) (by decide +kernel), List.mem_of_getElem? (i := 736) (by decide +kernel)⟩
theorem lw_p34 : lw_okq (⟨"BudgetKernelModel", "spend", "(II)V"⟩, 35) := ⟨⟨by decide +kernel, by decide +kernel⟩, List.mem_of_getElem? (i := 544) (by decide +kernel), List.mem_of_getElem? (i := 739) (by decide +kernel), List.mem_of_getElem? (i := 740) (by decide +kernel)⟩
theorem lw_p35 : lw_okq (⟨"BudgetKernelModel", "firstPiece", "(I)I"⟩, 35) := ⟨⟨by decide +kernel, by decide +kernel⟩, List.mem_of_getElem? (i := 544) (by decide +kernel), List.mem_of_getElem? (i := 751) (by decide +kernel), List.mem_of_getElem? (i := 752) (by decide +kernel)⟩
theorem lw_p36 : lw_okq (⟨"BudgetKernelModel", "sourceBound", "(I)I"⟩, 35) := ⟨⟨by decide +kernel, by decide +kernel⟩, List.mem_of_getElem? (i := 544) (by decide +kernel), List.mem_of_getElem? (i := 763) (by decide +kernel), List.mem_of_getElem? (i := 764) (by decide +kernel)⟩
theorem lw_p37 : lw_okq (⟨"BudgetKernelModel", "sourceNeeds", "(II)I"⟩, 35) := ⟨⟨by decide +kernel, by decide +kernel⟩, List.mem_of_getElem? (i := 544) (by decide +kernel), List.mem_of_getElem? (i := 767) (by decide +kernel), List.mem_of_getElem? (i := 768) (by decide +kernel)⟩
def lw_privs_3 : List (MethodName × Nat) := [(⟨"BudgetKernelModel", "isReady", "(I)Z"⟩, 35), (⟨"BudgetKernelModel", "runHandler", "(I)V"⟩, 35), (⟨"BudgetKernelModel", "spend", "(II)V"⟩, 35), (⟨"BudgetKernelModel", "firstPiece", "(I)I"⟩, 35), (⟨"BudgetKernelModel", "sourceBound", "(I)I"⟩, 35), (⟨"BudgetKernelModel", "sourceNeeds", "(II)I"⟩, 35)]
theorem lw_r3 : ∀ q ∈ lw_privs_3, lw_okq q := List.forall_mem_cons.mpr ⟨lw_p32, List.forall_mem_cons.mpr ⟨lw_p33, List.forall_mem_cons.mpr ⟨lw_p34, List.forall_mem_cons.mpr ⟨lw_p35, List.forall_mem_cons.mpr ⟨lw_p36, List.forall_mem_cons.mpr ⟨lw_p37, fun _ h => absurd h List.not_mem_nil⟩⟩⟩⟩⟩⟩
def lw_privs : List (MethodName × Nat) := lw_privs_1 ++ (lw_privs_2 ++ (lw_privs_3))
def lw_tbl : List Cond := k2_sels lw_privs ++ tables_1
theorem lw_privs_ok : ∀ q ∈ lw_privs, lw_okq q := by
  show ∀ q ∈ lw_privs_1 ++ (lw_privs_2 ++ (lw_privs_3)), lw_okq q
  exact List.forall_mem_append.mpr ⟨lw_r1, List.forall_mem_append.mpr ⟨lw_r2, lw_r3⟩⟩
/-! ===== BEGIN words of one list among another's, by their places ===== -/
theorem goodIn_r {big : List Cond} (ws : List Cond) (ps : List Nat) (hp : ws = ps.filterMap (fun i => big[i]?)) (h : ws.all goodWord = true) : GoodIn big ws := by
  intro w hw
  have h1 := List.all_eq_true.mp h w hw
  rw [hp] at hw
  obtain ⟨i, -, hi⟩ := List.mem_filterMap.mp hw
  have hm : w ∈ big := by first | exact List.mem_of_getElem? hi | exact List.getElem?_mem hi
  exact ⟨hm, good_of_word h1⟩
theorem goodIn_app {big a b : List Cond} (ha : GoodIn big a) (hb : GoodIn big b) : GoodIn big (a ++ b) := fun w h => (List.mem_append.mp h).elim (ha w) (hb w)
theorem goodIn_ca {big a b : List Cond} {c : Cond} (ha : GoodIn big (c :: a)) (hb : GoodIn big b) : GoodIn big (c :: (a ++ b)) := fun w h => (List.mem_cons.mp h).elim (fun e => ha w (List.mem_cons.mpr (Or.inl e))) (fun h => (List.mem_append.mp h).elim (fun h => ha w (List.mem_cons.mpr (Or.inr h))) (hb w))
theorem goodIn_sub {big ws : List Cond} (hm : ∀ w ∈ ws, w ∈ big) (h : ws.all goodWord = true) : GoodIn big ws := fun w hw => ⟨hm w hw, good_of_word (List.all_eq_true.mp h w hw)⟩
/-! ===== END ===== -/

/-! ===== BEGIN exceptions that leave a method, and their catching by the caller (launches without stack traces) ===== -/
section VXA
/-! The laws vx_back, vx_callV, vx_callS, vx_callSW, vx_throw0, vx_throwS follow proofs of the library, with one case more: JvmDerived/Free/Laws.lean (Back.of_free), Shelf42/LK1.lean (callV, callS), Shelf/KitTraced.lean (throwNew0V, throwNewS). -/
/-- where a method has thrown q: the class by its name, the cell, what was written, the world -/
def vx_T (XC : String → State → State → Prop) (st : State) (q : Addr) (t : State) (mc ms : Nat) (free : Addr → Prop) : Prop :=
  ∃ (E : String) (ce : Cell) (L : List Loc), XC E st t ∧ t.heap[q]? = some ce ∧ ce.vm = .none ∧ st.vm.findClass E = some ce.cls ∧ st.WarmedH t.vm ∧ st.sameButNew ({ t with vm := st.vm } : State) L mc ms ∧ ∀ z ∈ L, free z.base
def vx_Q (Qc : Array Value → State → Outcome → State → Prop) (XC : String → State → State → Prop) (mc ms : Nat) (free : Addr → Prop) : Array Value → State → Outcome → State → Prop := fun a st o t =>
  (Qc a st o t ∧ ∃ L, FrameEnd st o t L mc ms ∧ ∀ q ∈ L, free q.base) ∨ ∃ q, o = .threw q ∧ vx_T XC st q t mc ms free
/-- a callee that returns or throws -/
def vx_Met (l : Launch) (y : MethodName) (ws : List Cond) (rm : Room) (Pc : Array Value → State → Prop) (Qc : Array Value → State → Outcome → State → Prop) (XC : String → State → State → Prop) (mc ms : Nat) (free : Addr → Prop) : Prop :=
  MetFree l y (headSpec ws rm) Pc (fun _ _ _ _ _ => True) (vx_Q Qc XC mc ms free)
def vx_Post (XC : String → State → State → Prop) (mc ms : Nat) (free : Addr → Prop) : Pt → Array Value → Addr → Pt → Prop := fun A a q B =>
  ∃ (g : JFrame) (mk : MethodId) (t : State) (L : List Loc) (E : String) (ce : Cell), B.U.heap = t.heap ∧ B.U.vm = t.vm ∧ XC E (A.U.calling g mk a) t ∧ t.heap[q]? = some ce ∧ ce.vm = .none ∧ A.U.vm.findClass E = some ce.cls ∧ B.locs = A.locs ++ L ∧ (∀ z ∈ L, free z.base) ∧ B.cells = A.cells + mc ∧ B.slots = A.slots + ms
def vx_Back (l : Launch) (R : Room) (p : Program) (e : Env) (below : List Frame) (s : State) (sargs : Array Value) (y : MethodName) (len W9 : Nat)
    (Pre : Pt → Array Value → Prop) (Post : Pt → Array Value → Option Value → Pt → Prop) (PostX : Pt → Array Value → Addr → Pt → Prop) : Prop :=
  ∀ (m : MethodId) (meth : Method) (c : Code) (A : Pt) (g : JFrame) (ig : Instr) (mk : MethodId) (a : Array Value),
    Stand p l e R s m sargs below meth c A.U A.locs A.cells A.slots → g.method = m → g.locals.size = c.maxLocals → decode c.code g.pc = .ok (ig, len) →
    2 * g.monitorRoom + (g.stack.map fun v => v.category).sum ≤ W9 → A.U.methodNamed? y = some mk → Pre A a →
    (∃ (v : Option Value) (B : Pt), Stand p l e R s m sargs below meth c B.U B.locs B.cells B.slots ∧ Post A a v B ∧
      Steps p.tables e below (doInvoke e (A.U.setTop g) [] mk a).1 (B.U.setTop { g with pc := g.pc + len, stack := v.toList ++ g.stack })) ∨
    (∃ (q : Addr) (B : Pt), Stand p l e R s m sargs below meth c B.U B.locs B.cells B.slots ∧ PostX A a q B ∧
      Steps p.tables e below (doInvoke e (A.U.setTop g) [] mk a).1 ((B.U.setTop g).pushFrame (.throwing q)))
section Payer
variable {l : Launch} {R : Room} {p : Program} {e : Env} {below : List Frame} {s : State} {sargs : Array Value} {y : MethodName} {len W9 : Nat}
theorem vx_back {ws : List Cond} {rm : Room} {Pc : Array Value → State → Prop} {Qc : Array Value → State → Outcome → State → Prop} {XC : String → State → State → Prop} {mc ms : Nat} {free : Addr → Prop} {bytes : ByteArray} {maxL : Nat} {ret : Option FieldType}
    (hM : vx_Met l y ws rm Pc Qc XC mc ms free) (hblind : FrameBlind Pc) (hrc : rm.cells = mc) (hrs : rm.slots = ms)
    (hframes : rm.frames + 1 ≤ R.frames) (hlocals : W9 + (maxL + 11) + rm.locals ≤ R.locals)
    (hws : ∀ w ∈ ws, ∀ a' U, s.WarmedH U.vm → w.before a' U = true) (hcode : Cond.code y bytes maxL ret ∈ ws) (hinit : ∀ a' U, s.WarmedH U.vm → (Cond.initialized y.cls).before a' U = true) :
    vx_Back l R p e below s sargs y len W9 (PreOf R mc ms Pc) (PostOf Qc mc ms free) (vx_Post XC mc ms free) := by
  intro m meth c A g ig mk a X hg hsize hdg hW hn hp
  have h1 : (headSpec ws rm).pre.before a A.U = true := atoms_intro fun w hw => hws w hw _ _ X.warmed
  have h2 : (Cond.code y bytes maxL ret).before a A.U = true := hws _ hcode _ _ X.warmed
  have h3 : (Cond.initialized y.cls).before a A.U = true := hinit _ _ X.warmed
  have h4 : A.cells + (headSpec ws rm).room.cells ≤ R.cells := by rw [show (headSpec ws rm).room.cells = mc from hrc]; exact hp.1
  have h5 : A.slots + (headSpec ws rm).room.slots ≤ R.slots := by rw [show (headSpec ws rm).room.slots = ms from hrs]; exact hp.2.1
  have hPc : Pc a (A.U.calling g mk a) := hblind _ _ _ _ hp.2.2
  obtain ⟨U, Ls, c0, s0⟩ := A
  dsimp only [Pt.U, Pt.locs, Pt.cells, Pt.slots] at h1 h2 h3 h4 h5 X hn hPc ⊢
  obtain ⟨methY, cY, hmY, hcY, -, hlY, -, -, -, -⟩ := Cond.code_spec hn h2
  obtain ⟨kY, hkY, -⟩ := className_of_methodNamed hn
  have hinitY : kY.init = .initialized := Cond.initialized_spec (findClass_of_methodNamed hn) hkY h3
  have h : At U g.method c below := by rw [hg]; exact X.here
  have hlocals9 : W9 + (maxL + 11) + (headSpec ws rm).room.locals ≤ R.locals := hlocals
  have happ : (headSpec ws rm).appliesLoose y e.platform (U.calling g mk a) = true :=
    Spec.appliesLoose_calling (g := g) h hdg hn hkY hinitY
      (X.room_calling (g := g) (R' := (headSpec ws rm).room) hsize hmY hcY hframes (by rw [hlY]; omega) h4 h5) h1
  obtain ⟨mid, hmid⟩ := h.above
  have hfr : (U.setTop g).frames = (.java g :: mid) ++ below := by rw [State.frames_setTop' g h.top, hmid]; rfl
  obtain ⟨o, s₂, hsteps, -, hend, hq⟩ := Steps.callFree hM p X.admits X.cas X.clock (acts := []) hfr happ hPc trivial
  have hq' : vx_Q Qc XC mc ms free a (U.calling g mk a) o s₂ := hq
  rw [State.frames_setTop' g h.top] at hend
  obtain ⟨g₀, hg0⟩ := Option.isSome_iff_exists.mp h.top
  obtain ⟨r, hr⟩ := State.topJava?_eq_some.mp hg0
  have hr' : (({ U with heap := s₂.heap, slotsUsed := s₂.slotsUsed } : State).setVm s₂.vm).frames = .java g₀ :: r := hr
  rcases hq' with ⟨hqc, L, hfe, hL⟩ | ⟨q, rfl, E, ce, L, hx, hce, hcv, hcl, hW₂, hsm, hL⟩
  · obtain ⟨⟨v, rfl⟩, hW₂, e2, q2, q3, q4, q5, q6⟩ := id hfe
    have e3 : s₂ = ({ (U.calling g mk a).setFrames s₂.frames with heap := s₂.heap, slotsUsed := s₂.slotsUsed } : State).setVm s₂.vm := by
      have : s₂ = ({ s₂ with vm := (U.calling g mk a).vm } : State).setVm s₂.vm := rfl
      rw [e2] at this
      exact this
    obtain ⟨c₂, i₂, len₂, hc₂, hd₂, hf₂⟩ := hend
    have hW' : U.WarmedH s₂.vm := hW₂
    have hcc : c₂ = c := by
      have h1 : s₂.code? g.method = U.code? g.method := by
        rw [State.code?_eq, State.code?_eq, hW'.alike.method?]
      exact Option.some.inj (hc₂.symm.trans (h1.trans h.code))
    subst hcc
    have hlen : len₂ = len := by rw [hdg] at hd₂; cases hd₂; rfl
    subst hlen
    have hs₂ : s₂ = (({ U with heap := s₂.heap, slotsUsed := s₂.slotsUsed } : State).setVm s₂.vm).setTop { g with pc := g.pc + len₂, stack := v.toList ++ g.stack } := by
      refine e3.trans ?_
      rw [hf₂, State.calling_eq h.top, State.setFrames_setFrames, State.setTop_of_frames _ hr', hr]
      rfl
    have hsame : U.sameButNew ({ U with heap := s₂.heap, slotsUsed := s₂.slotsUsed } : State) L mc ms := by
      refine ⟨?_, q2, q3, q4, q5, q6⟩
      obtain ⟨t, ht, -⟩ := State.frames_cons hr
      show ({ U with heap := s₂.heap, slotsUsed := s₂.slotsUsed } : State) = { U.setFrames U.frames with heap := s₂.heap, slotsUsed := s₂.slotsUsed }
      rw [State.setFrames_self ht]
    subst hg
    refine Or.inl ⟨v, ⟨(({ U with heap := s₂.heap, slotsUsed := s₂.slotsUsed } : State).setVm s₂.vm), Ls ++ L, c0 + mc, s0 + ms⟩,
      ⟨X.admits, X.cas, X.clock, X.frames, X.room, X.hears, X.method, X.code, (X.here.setHeapUsed s₂.heap s₂.slotsUsed).setVm hW'.alike, X.tail, State.WarmedH.trans X.warmed hW', X.limits, X.bytes, X.same.trans (hsame.setVm s.vm)⟩,
      ⟨g, mk, s₂, L, rfl, rfl, hqc, rfl, hL, rfl, rfl⟩, ?_⟩
    show Steps p.tables e below _ ((({ U with heap := s₂.heap, slotsUsed := s₂.slotsUsed } : State).setVm s₂.vm).setTop { g with pc := g.pc + len₂, stack := v.toList ++ g.stack })
    rw [← hs₂]
    exact hsteps
  · obtain ⟨e2, q2, q3, q4, q5, q6⟩ := id hsm
    have e3 : s₂ = ({ (U.calling g mk a).setFrames s₂.frames with heap := s₂.heap, slotsUsed := s₂.slotsUsed } : State).setVm s₂.vm := by
      have : s₂ = ({ s₂ with vm := (U.calling g mk a).vm } : State).setVm s₂.vm := rfl
      rw [e2] at this
      exact this
    have hf₂ : s₂.frames = .throwing q :: .java g :: U.frames.tail := hend
    have hW' : U.WarmedH s₂.vm := hW₂
    have hs₂ : s₂ = ((({ U with heap := s₂.heap, slotsUsed := s₂.slotsUsed } : State).setVm s₂.vm).setTop g).pushFrame (.throwing q) := by
      refine e3.trans ?_
      rw [hf₂, State.calling_eq h.top, State.setFrames_setFrames, State.pushFrame, State.frames_setTop _ hr', State.setTop_of_frames _ hr', State.setFrames_setFrames, hr]
      rfl
    have hsame : U.sameButNew ({ U with heap := s₂.heap, slotsUsed := s₂.slotsUsed } : State) L mc ms := by
      refine ⟨?_, q2, q3, q4, q5, q6⟩
      obtain ⟨t, ht, -⟩ := State.frames_cons hr
      show ({ U with heap := s₂.heap, slotsUsed := s₂.slotsUsed } : State) = { U.setFrames U.frames with heap := s₂.heap, slotsUsed := s₂.slotsUsed }
      rw [State.setFrames_self ht]
    subst hg
    refine Or.inr ⟨q, ⟨(({ U with heap := s₂.heap, slotsUsed := s₂.slotsUsed } : State).setVm s₂.vm), Ls ++ L, c0 + mc, s0 + ms⟩,
      ⟨X.admits, X.cas, X.clock, X.frames, X.room, X.hears, X.method, X.code, (X.here.setHeapUsed s₂.heap s₂.slotsUsed).setVm hW'.alike, X.tail, State.WarmedH.trans X.warmed hW', X.limits, X.bytes, X.same.trans (hsame.setVm s.vm)⟩,
      ⟨g, mk, s₂, L, E, ce, rfl, rfl, hx, hce, hcv, hcl, rfl, hL, rfl, rfl⟩, ?_⟩
    show Steps p.tables e below _ (((({ U with heap := s₂.heap, slotsUsed := s₂.slotsUsed } : State).setVm s₂.vm).setTop g).pushFrame (.throwing q))
    rw [← hs₂]
    exact hsteps
end Payer
section Calls
variable {p : Program} {l : Launch} {e : Env} {R : Room} {s : State} {m : MethodId} {args : Array Value} {below : List Frame} {meth : Method} {c : Code} {T : State} {locs : List Loc} {cells slots : Nat}
theorem vx_callV (X : Stand p l e R s m args below meth c T locs cells slots) (hexec : p.tables.exec = Jvm.exec) {own C : String} {index : Nat} {y : MethodName} {bytes : ByteArray} {maxL : Nat} {ret : Option FieldType}
    (hown : s.vm.findClass own = some m.cls) (hlink : (Cond.methodLink own index y).before args s = true) (hinst : (Cond.instanceMethod y).before args s = true) (hsel : (Cond.selects C y y).before args s = true)
    (hcode : (Cond.code y bytes maxL ret).before args s = true) (hy : y.cls ≠ "java/lang/invoke/MethodHandle" ∧ y.cls ≠ "java/lang/invoke/VarHandle")
    {W9 : Nat} {Pre : Pt → Array Value → Prop} {Post : Pt → Array Value → Option Value → Pt → Prop} {PostX : Pt → Array Value → Addr → Pt → Prop} (hK : vx_Back l R p e below s args y 3 W9 Pre Post PostX)
    {b : Addr} {cellB : Cell} (hcell : T.heap[b]? = some cellB) (hobj : cellB.vm.isStatics = false) (hcls : s.vm.findClass C = some cellB.cls)
    {g : JFrame} (hg : g.method = m) (hsize : g.locals.size = c.maxLocals) {argsL rest : List Value} (hlen : ∀ sig, parseMethodDescriptor y.desc = some sig → argsL.length = sig.parameters.length)
    (hstack : g.stack = argsL.reverse ++ .ref b :: rest) (hW : 2 * g.monitorRoom + (rest.map fun v => v.category).sum ≤ W9) (hdg : decode c.code g.pc = .ok (.invokevirtual index, 3))
    (hpre : ∀ vm₁, s.WarmedH vm₁ → Pre ⟨T.setVm vm₁, locs, cells, slots⟩ (Value.ref b :: argsL).toArray) :
    (∃ (v : Option Value) (vm₁ : Vm) (B : Pt), s.WarmedH vm₁ ∧ Stand p l e R s m args below meth c B.U B.locs B.cells B.slots ∧ Post ⟨T.setVm vm₁, locs, cells, slots⟩ (Value.ref b :: argsL).toArray v B ∧
      ∀ target, Steps p.tables e below (B.U.setTop { g with pc := g.pc + 3, stack := v.toList ++ rest }) target → Steps p.tables e below (T.setTop g) target) ∨
    (∃ (q : Addr) (vm₁ : Vm) (B : Pt), s.WarmedH vm₁ ∧ Stand p l e R s m args below meth c B.U B.locs B.cells B.slots ∧ PostX ⟨T.setVm vm₁, locs, cells, slots⟩ (Value.ref b :: argsL).toArray q B ∧
      Steps p.tables e below (T.setTop g) ((B.U.setTop { g with stack := rest }).pushFrame (.throwing q))) := by
  obtain ⟨mk, methM, hnamed, hmethM, hstM, habM⟩ := Cond.instanceMethod_spec hinst
  obtain ⟨methM', cM, hmethM', -, -, -, -, -, -, hsigM⟩ := Cond.code_spec hnamed hcode
  cases hmethM.symm.trans hmethM'
  obtain ⟨c2, r2, m2, q1, q2, q3, q4, kP, hkP, hkPi⟩ := Cond.selects_spec hsel
  cases hcls.symm.trans q1
  cases (State.methodFound?_of_named hnamed hy).symm.trans q2
  cases hnamed.symm.trans q3
  have hselP : selectMethod e.platform s.vm cellB.cls mk = .method mk := by rw [Launch.admits_selectMethod X.admits]; exact q4
  obtain ⟨vm₁, X₁, hstep₁⟩ := X.invokevirtual hexec hown hlink hnamed hmethM hstM hkP hkPi hy (a := b) (cell := cellB) hcell
    (fun z h => by rw [h] at hobj; cases hobj) hselP hmethM habM hkP hkPi (g := g) hg (argsL := argsL) (rest := rest) (hlen _ hsigM) hstack hdg
  rcases hK m meth c ⟨T.setVm vm₁, locs, cells, slots⟩ { g with stack := rest } (.invokevirtual index) mk (Value.ref b :: argsL).toArray X₁ hg hsize hdg hW (X₁.named hnamed) (hpre vm₁ X₁.warmed) with ⟨v, B, X', hpost, hsteps⟩ | ⟨q, B, X', hpost, hsteps⟩
  · exact Or.inl ⟨v, vm₁, B, X₁.warmed, X', hpost, fun target h => hstep₁ _ fun acts => by rw [doInvoke_state]; exact hsteps.trans h⟩
  · exact Or.inr ⟨q, vm₁, B, X₁.warmed, X', hpost, hstep₁ _ fun acts => by rw [doInvoke_state]; exact hsteps⟩
theorem vx_callS (X : Stand p l e R s m args below meth c T locs cells slots) (hexec : p.tables.exec = Jvm.exec) {own : String} {index : Nat} {y : MethodName} {bytes : ByteArray} {maxL : Nat} {ret : Option FieldType}
    (hown : s.vm.findClass own = some m.cls) (hlink : (Cond.methodLink own index y).before args s = true) (hstat : (Cond.static y).before args s = true) (hinit : (Cond.initialized y.cls).before args s = true)
    (hcode : (Cond.code y bytes maxL ret).before args s = true) (hy : y.cls ≠ "java/lang/invoke/MethodHandle" ∧ y.cls ≠ "java/lang/invoke/VarHandle")
    {W9 : Nat} {Pre : Pt → Array Value → Prop} {Post : Pt → Array Value → Option Value → Pt → Prop} {PostX : Pt → Array Value → Addr → Pt → Prop} (hK : vx_Back l R p e below s args y 3 W9 Pre Post PostX)
    {g : JFrame} (hg : g.method = m) (hsize : g.locals.size = c.maxLocals) {argsL rest : List Value} (hlen : ∀ sig, parseMethodDescriptor y.desc = some sig → argsL.length = sig.parameters.length)
    (hstack : g.stack = argsL.reverse ++ rest) (hW : 2 * g.monitorRoom + (rest.map fun v => v.category).sum ≤ W9) (hdg : decode c.code g.pc = .ok (.invokestatic index, 3))
    (hpre : ∀ vm₁, s.WarmedH vm₁ → Pre ⟨T.setVm vm₁, locs, cells, slots⟩ argsL.toArray) :
    (∃ (v : Option Value) (vm₁ : Vm) (B : Pt), s.WarmedH vm₁ ∧ Stand p l e R s m args below meth c B.U B.locs B.cells B.slots ∧ Post ⟨T.setVm vm₁, locs, cells, slots⟩ argsL.toArray v B ∧
      ∀ target, Steps p.tables e below (B.U.setTop { g with pc := g.pc + 3, stack := v.toList ++ rest }) target → Steps p.tables e below (T.setTop g) target) ∨
    (∃ (q : Addr) (vm₁ : Vm) (B : Pt), s.WarmedH vm₁ ∧ Stand p l e R s m args below meth c B.U B.locs B.cells B.slots ∧ PostX ⟨T.setVm vm₁, locs, cells, slots⟩ argsL.toArray q B ∧
      Steps p.tables e below (T.setTop g) ((B.U.setTop { g with stack := rest }).pushFrame (.throwing q))) := by
  obtain ⟨mk, hnamed⟩ := Cond.code_named hcode
  obtain ⟨methM, cM, hmethM, -, -, -, -, -, -, hsigM⟩ := Cond.code_spec hnamed hcode
  have hstatic : methM.isStatic = true := Cond.static_spec hnamed hmethM hstat
  obtain ⟨kP, hkP, -⟩ := className_of_methodNamed hnamed
  have hinitP : kP.init = .initialized := Cond.initialized_spec (findClass_of_methodNamed hnamed) hkP hinit
  obtain ⟨vm₁, X₁, hstep₁⟩ := X.invokestatic hexec hown hlink hnamed hmethM hstatic hkP hinitP hy (g := g) hg (argsL := argsL) (rest := rest) (hlen _ hsigM) hstack hdg
  rcases hK m meth c ⟨T.setVm vm₁, locs, cells, slots⟩ { g with stack := rest } (.invokestatic index) mk argsL.toArray X₁ hg hsize hdg hW (X₁.named hnamed) (hpre vm₁ X₁.warmed) with ⟨v, B, X', hpost, hsteps⟩ | ⟨q, B, X', hpost, hsteps⟩
  · exact Or.inl ⟨v, vm₁, B, X₁.warmed, X', hpost, fun target h => hstep₁ _ fun acts => by rw [doInvoke_state]; exact hsteps.trans h⟩
  · exact Or.inr ⟨q, vm₁, B, X₁.warmed, X', hpost, hstep₁ _ fun acts => by rw [doInvoke_state]; exact hsteps⟩
end Calls
theorem vx_cls {s : State} {T : State} {vm₁ : Vm} {E : String} {k : ClassId} (hW : s.WarmedH vm₁) (h : (T.setVm vm₁).vm.findClass E = some k) : s.vm.findClass E = some k := by
  have h1 : vm₁.findClass E = some k := h
  rw [hW.alike.findClass] at h1
  exact h1
/-- the method's frame g, with q thrown over it -/
def vx_W (p : Program) (l : Launch) (e : Env) (R : Room) (s : State) (m : MethodId) (args : Array Value) (below : List Frame) (meth : Method) (c : Code) (H : Heap) (locs : List Loc) (cells slots : Nat) (Q : State → Prop) (g : JFrame) (q : Addr) : Prop :=
  ∀ T : State, T.heap = H → Stand p l e R s m args below meth c T locs cells slots → ∃ t, Steps p.tables e below ((T.setTop g).pushFrame (.throwing q)) t ∧ Q t
def vx_Run (p : Program) (l : Launch) (e : Env) (R : Room) (s : State) (m : MethodId) (args : Array Value) (below : List Frame) (meth : Method) (c : Code) (H : Heap) (locs : List Loc) (cells slots mc ms : Nat) (g : JFrame) (rest : List Value) (Qa : State → Outcome → State → Prop) (XC : String → State → State → Prop) (free : Addr → Prop) : Prop :=
  ∀ T : State, T.heap = H → Stand p l e R s m args below meth c T locs cells slots →
    (∃ (v : Option Value) (st₀ t T' : State) (L : List Loc), st₀.heap = H ∧ Stand p l e R s m args below meth c T' (locs ++ L) (cells + mc) (slots + ms) ∧ (∀ q ∈ L, free q.base) ∧ T'.heap = t.heap ∧ T'.vm = t.vm ∧ Qa st₀ (.returned v) t ∧
      Goes p e below T g T' { g with pc := g.pc + 3, stack := v.toList ++ rest }) ∨
    (∃ (q : Addr) (st₀ t T' : State) (L : List Loc) (E : String) (ce : Cell), st₀.heap = H ∧ Stand p l e R s m args below meth c T' (locs ++ L) (cells + mc) (slots + ms) ∧ (∀ z ∈ L, free z.base) ∧ T'.heap = t.heap ∧ T'.vm = t.vm ∧ XC E st₀ t ∧ t.heap[q]? = some ce ∧ ce.vm = .none ∧ s.vm.findClass E = some ce.cls ∧
      Steps p.tables e below (T.setTop g) ((T'.setTop { g with stack := rest }).pushFrame (.throwing q)))
def vx_X {S : Type} (px : S → Prop) (B : String → S → State → Prop) (A : Nat → Prop) : String → State → State → Prop := fun E st t => ∃ u : S, px u ∧ B E u t ∧ va_F A st t
section Runs
variable {p : Program} {l : Launch} {e : Env} {R : Room} {s : State} {m : MethodId} {args : Array Value} {below : List Frame} {meth : Method} {c : Code} {H : Heap} {locs : List Loc} {cells slots : Nat}
variable {y : MethodName} {bytes cc : ByteArray} {maxL nL mc ms n index : Nat} {ret : Option FieldType} {ws : List Cond} {rm : Room} {Pc : Array Value → State → Prop} {Qc : Array Value → State → Outcome → State → Prop} {XC : String → State → State → Prop} {free : Addr → Prop} {Ts : List Cond} {own C : String} {b : Addr} {As rest : List Value} {g : JFrame}
theorem vx_callBack (cb : CallB R s args own index y bytes maxL ret ws rm mc ms n) (hM : vx_Met l y ws rm Pc Qc XC mc ms free) (hbl : FrameBlind Pc) : vx_Back l R p e below s args y 3 8 (PreOf R mc ms Pc) (PostOf Qc mc ms free) (vx_Post XC mc ms free) := by
  obtain ⟨hrc, hrs, hfr, hlo, hws, hcw, -, hini, -⟩ := cb
  exact vx_back (bytes := bytes) (maxL := maxL) (ret := ret) hM hbl hrc hrs hfr hlo hws hcw (fun a' U hW => word_at hW (Or.inl (by first | rfl | simp [Cond.onTables, Cond.keeps, Cond.steady])) hini)
theorem vx_runV (S : CallFix p m c cc nL s args Ts own) (hM : vx_Met l y ws rm Pc Qc XC mc ms free) (cw : CallW R s args own C index y bytes maxL ret ws rm mc ms n) (hp : PreV s H C b Pc As)
    (hg : g.method = m) (hn : As.length = n) (hsize : g.locals.size = nL) (hstack : g.stack = As.reverse ++ .ref b :: rest) (hW : 2 * g.monitorRoom + (rest.map fun v => v.category).sum ≤ 8) (hdg : decode cc g.pc = .ok (.invokevirtual index, 3)) (hf : cells + mc ≤ R.cells ∧ slots + ms ≤ R.slots) :
    vx_Run p l e R s m args below meth c H locs cells slots mc ms g rest (Qc (Value.ref b :: As).toArray) XC free := by
  have hK : vx_Back l R p e below s args y 3 8 (PreOf R mc ms Pc) (PostOf Qc mc ms free) (vx_Post XC mc ms free) := vx_callBack cw.1 hM hp.1
  obtain ⟨⟨-, -, -, -, -, -, hcode, -, hy, hlen, hl⟩, hin, hse⟩ := cw
  obtain ⟨hx, hb, hml, ho, -⟩ := S
  obtain ⟨-, ⟨cellB, hcB, hoB, hclB⟩, hPc⟩ := hp
  intro T hT X
  rcases vx_callV X hx (C := C) (bytes := bytes) (maxL := maxL) (ret := ret) ho hl hin hse hcode hy hK (by rw [hT]; exact hcB) hoB hclB hg (hsize.trans hml.symm) (argsL := As) (rest := rest) (fun sig h => hn.trans (hlen sig h)) hstack hW (by rw [hb]; exact hdg)
    (fun vm₁ hW₁ => ⟨hf.1, hf.2, hPc (T.setVm vm₁) hT hW₁⟩) with ⟨v, vm₁, ⟨U', l2, c2, s2⟩, hW₁, X', ⟨g', mk, t, L, e1, e2, hq, h1, hL, h2, h3⟩, st⟩ | ⟨q, vm₁, ⟨U', l2, c2, s2⟩, hW₁, X', ⟨g', mk, t, L, E, ce, e1, e2, hq, hce, hcv, hcl, h1, hL, h2, h3⟩, st⟩
  · dsimp only [Pt.U, Pt.locs, Pt.cells, Pt.slots] at X' e1 e2 h1 h2 h3 st
    subst h1; subst h2; subst h3
    exact Or.inl ⟨v, (T.setVm vm₁).calling g' mk (Value.ref b :: As).toArray, t, U', L, hT, X', hL, e1, e2, hq, st⟩
  · dsimp only [Pt.U, Pt.locs, Pt.cells, Pt.slots] at X' e1 e2 h1 h2 h3 st hcl
    subst h1; subst h2; subst h3
    exact Or.inr ⟨q, (T.setVm vm₁).calling g' mk (Value.ref b :: As).toArray, t, U', L, E, ce, hT, X', hL, e1, e2, hq, hce, hcv, vx_cls hW₁ hcl, st⟩
theorem vx_runS (S : CallFix p m c cc nL s args Ts own) (hM : vx_Met l y ws rm Pc Qc XC mc ms free) (cw : CallB R s args own index y bytes maxL ret ws rm mc ms n ∧ (Cond.static y).before args s = true) (hp : PreS s H Pc As)
    (hg : g.method = m) (hn : As.length = n) (hsize : g.locals.size = nL) (hstack : g.stack = As.reverse ++ rest) (hW : 2 * g.monitorRoom + (rest.map fun v => v.category).sum ≤ 8) (hdg : decode cc g.pc = .ok (.invokestatic index, 3)) (hf : cells + mc ≤ R.cells ∧ slots + ms ≤ R.slots) :
    vx_Run p l e R s m args below meth c H locs cells slots mc ms g rest (Qc As.toArray) XC free := by
  have hK : vx_Back l R p e below s args y 3 8 (PreOf R mc ms Pc) (PostOf Qc mc ms free) (vx_Post XC mc ms free) := vx_callBack cw.1 hM hp.1
  obtain ⟨⟨-, -, -, -, -, -, hcode, hini, hy, hlen, hl⟩, hstt⟩ := cw
  obtain ⟨hx, hb, hml, ho, -⟩ := S
  intro T hT X
  rcases vx_callS X hx (bytes := bytes) (maxL := maxL) (ret := ret) ho hl hstt hini hcode hy hK hg (hsize.trans hml.symm) (argsL := As) (rest := rest) (fun sig h => hn.trans (hlen sig h)) hstack hW (by rw [hb]; exact hdg)
    (fun vm₁ hW₁ => ⟨hf.1, hf.2, hp.2 (T.setVm vm₁) hT hW₁⟩) with ⟨v, vm₁, ⟨U', l2, c2, s2⟩, hW₁, X', ⟨g', mk, t, L, e1, e2, hq, h1, hL, h2, h3⟩, st⟩ | ⟨q, vm₁, ⟨U', l2, c2, s2⟩, hW₁, X', ⟨g', mk, t, L, E, ce, e1, e2, hq, hce, hcv, hcl, h1, hL, h2, h3⟩, st⟩
  · dsimp only [Pt.U, Pt.locs, Pt.cells, Pt.slots] at X' e1 e2 h1 h2 h3 st
    subst h1; subst h2; subst h3
    exact Or.inl ⟨v, (T.setVm vm₁).calling g' mk As.toArray, t, U', L, hT, X', hL, e1, e2, hq, st⟩
  · dsimp only [Pt.U, Pt.locs, Pt.cells, Pt.slots] at X' e1 e2 h1 h2 h3 st hcl
    subst h1; subst h2; subst h3
    exact Or.inr ⟨q, (T.setVm vm₁).calling g' mk As.toArray, t, U', L, E, ce, hT, X', hL, e1, e2, hq, hce, hcv, vx_cls hW₁ hcl, st⟩
end Runs
section Rows
variable {p : Program} {l : Launch} {e : Env} {R : Room} {s : State} {m : MethodId} {args : Array Value} {below : List Frame} {meth : Method} {c : Code} {H : Heap} {locs : List Loc} {cells slots : Nat} {Q : State → Prop}
variable {mc ms : Nat} {free : Addr → Prop} {A0 A1 : Nat → Prop} {H0 : Heap} {a : Array Value} {pc : Nat} {ls : Array Slot} {st0 rest : List Value}
theorem vx_keep {st₀ t T' : State} {L : List Loc} (h0 : st₀.heap = H) (e1 : T'.heap = t.heap) (hS : va_S A0 H0 H locs) (hA : ∀ q, q < H.size → A1 q → A0 q) (hf : ∀ q, free q → A0 q) (hL : ∀ q ∈ L, free q.base) (hF : va_F A1 st₀ t) :
    H.size ≤ T'.heap.size ∧ (∀ q : Nat, q < H.size → ¬ A1 q → T'.heap[q]? = H[q]?) ∧ va_S A0 H0 T'.heap (locs ++ L) := by
  obtain ⟨hz, hk⟩ := hF
  rw [h0] at hz hk
  exact ⟨by rw [e1]; exact hz, fun q h1 h2 => by rw [e1]; exact hk q h1 h2,
    ⟨Nat.le_trans hS.1 (by rw [e1]; exact hz), fun q h1 h2 => by rw [e1, hk q (Nat.lt_of_lt_of_le h1 hS.1) (fun z => h2 (hA q (Nat.lt_of_lt_of_le h1 hS.1) z))]; exact hS.2.1 q h1 h2, fun q hq => by
      rcases List.mem_append.mp hq with h | h
      · exact hS.2.2 q h
      · exact hf _ (hL q h)⟩⟩
theorem vx_calli {S SX : Type} {post : Int32 → S → Prop} {px : SX → Prop} {B : S → State → Prop} {BX : String → SX → State → Prop} {AX : Nat → Prop} (hr : vx_Run p l e R s m args below meth c H locs cells slots mc ms (F0 m pc ls st0) rest (va_Qi post B A1 a) (vx_X px BX AX) free) (hS : va_S A0 H0 H locs) (hA : ∀ q, q < H.size → A1 q → A0 q) (hf : ∀ q, free q → A0 q) (hAX : ∀ q, q < H.size → AX q → A0 q)
    (kx : ∀ (E : String) (ce : Cell) (q9 : Addr) (u : SX) (t : State) (H1 : Heap) (locs1 : List Loc), t.heap = H1 → s.vm.Alike t.vm → px u → BX E u t → H.size ≤ H1.size → (∀ q : Nat, q < H.size → ¬ AX q → H1[q]? = H[q]?) → va_S A0 H0 H1 locs1 → H1[q9]? = some ce → ce.vm = .none → s.vm.findClass E = some ce.cls → vx_W p l e R s m args below meth c H1 locs1 (cells + mc) (slots + ms) Q (F0 m pc ls rest) q9)
    (kk : ∀ (r : Int32) (u : S) (t : State) (H1 : Heap) (locs1 : List Loc), t.heap = H1 → s.vm.Alike t.vm → post r u → B u t → H.size ≤ H1.size → (∀ q : Nat, q < H.size → ¬ A1 q → H1[q]? = H[q]?) → va_S A0 H0 H1 locs1 → W p l e R s m args below meth c H1 locs1 (cells + mc) (slots + ms) Q (F0 m (pc + 3) ls (.int r :: rest))) : W p l e R s m args below meth c H locs cells slots Q (F0 m pc ls st0) := by
  intro T hT X
  rcases hr T hT X with ⟨v, st₀, t, T', L, h0, X', hL, e1, e2, ⟨⟨r, u, hv, hp, hb⟩, hF⟩, st⟩ | ⟨q, st₀, t, T', L, E, ce, h0, X', hL, e1, e2, ⟨u, hp, hb, hF⟩, hce, hcv, hcl, st⟩
  · cases hv
    obtain ⟨k1, k2, k3⟩ := vx_keep h0 e1 hS hA hf hL hF
    obtain ⟨t2, a1, b1⟩ := kk r u t T'.heap (locs ++ L) e1.symm (by rw [← e2]; exact X'.warmed.alike) hp hb k1 k2 k3 T' rfl X'
    exact ⟨t2, st t2 a1, b1⟩
  · obtain ⟨k1, k2, k3⟩ := vx_keep h0 e1 hS hAX hf hL hF
    obtain ⟨t2, a1, b1⟩ := kx E ce q u t T'.heap (locs ++ L) e1.symm (by rw [← e2]; exact X'.warmed.alike) hp hb k1 k2 k3 (by rw [e1]; exact hce) hcv hcl T' rfl X'
    exact ⟨t2, st.trans a1, b1⟩
theorem vx_calll {S SX : Type} {post : Int64 → S → Prop} {px : SX → Prop} {B : S → State → Prop} {BX : String → SX → State → Prop} {AX : Nat → Prop} (hr : vx_Run p l e R s m args below meth c H locs cells slots mc ms (F0 m pc ls st0) rest (va_Ql post B A1 a) (vx_X px BX AX) free) (hS : va_S A0 H0 H locs) (hA : ∀ q, q < H.size → A1 q → A0 q) (hf : ∀ q, free q → A0 q) (hAX : ∀ q, q < H.size → AX q → A0 q)
    (kx : ∀ (E : String) (ce : Cell) (q9 : Addr) (u : SX) (t : State) (H1 : Heap) (locs1 : List Loc), t.heap = H1 → s.vm.Alike t.vm → px u → BX E u t → H.size ≤ H1.size → (∀ q : Nat, q < H.size → ¬ AX q → H1[q]? = H[q]?) → va_S A0 H0 H1 locs1 → H1[q9]? = some ce → ce.vm = .none → s.vm.findClass E = some ce.cls → vx_W p l e R s m args below meth c H1 locs1 (cells + mc) (slots + ms) Q (F0 m pc ls rest) q9)
    (kk : ∀ (r : Int64) (u : S) (t : State) (H1 : Heap) (locs1 : List Loc), t.heap = H1 → s.vm.Alike t.vm → post r u → B u t → H.size ≤ H1.size → (∀ q : Nat, q < H.size → ¬ A1 q → H1[q]? = H[q]?) → va_S A0 H0 H1 locs1 → W p l e R s m args below meth c H1 locs1 (cells + mc) (slots + ms) Q (F0 m (pc + 3) ls (.long r :: rest))) : W p l e R s m args below meth c H locs cells slots Q (F0 m pc ls st0) := by
  intro T hT X
  rcases hr T hT X with ⟨v, st₀, t, T', L, h0, X', hL, e1, e2, ⟨⟨r, u, hv, hp, hb⟩, hF⟩, st⟩ | ⟨q, st₀, t, T', L, E, ce, h0, X', hL, e1, e2, ⟨u, hp, hb, hF⟩, hce, hcv, hcl, st⟩
  · cases hv
    obtain ⟨k1, k2, k3⟩ := vx_keep h0 e1 hS hA hf hL hF
    obtain ⟨t2, a1, b1⟩ := kk r u t T'.heap (locs ++ L) e1.symm (by rw [← e2]; exact X'.warmed.alike) hp hb k1 k2 k3 T' rfl X'
    exact ⟨t2, st t2 a1, b1⟩
  · obtain ⟨k1, k2, k3⟩ := vx_keep h0 e1 hS hAX hf hL hF
    obtain ⟨t2, a1, b1⟩ := kx E ce q u t T'.heap (locs ++ L) e1.symm (by rw [← e2]; exact X'.warmed.alike) hp hb k1 k2 k3 (by rw [e1]; exact hce) hcv hcl T' rfl X'
    exact ⟨t2, st.trans a1, b1⟩
theorem vx_callf {S SX : Type} {post : UInt32 → S → Prop} {px : SX → Prop} {B : S → State → Prop} {BX : String → SX → State → Prop} {AX : Nat → Prop} (hr : vx_Run p l e R s m args below meth c H locs cells slots mc ms (F0 m pc ls st0) rest (va_Qf post B A1 a) (vx_X px BX AX) free) (hS : va_S A0 H0 H locs) (hA : ∀ q, q < H.size → A1 q → A0 q) (hf : ∀ q, free q → A0 q) (hAX : ∀ q, q < H.size → AX q → A0 q)
    (kx : ∀ (E : String) (ce : Cell) (q9 : Addr) (u : SX) (t : State) (H1 : Heap) (locs1 : List Loc), t.heap = H1 → s.vm.Alike t.vm → px u → BX E u t → H.size ≤ H1.size → (∀ q : Nat, q < H.size → ¬ AX q → H1[q]? = H[q]?) → va_S A0 H0 H1 locs1 → H1[q9]? = some ce → ce.vm = .none → s.vm.findClass E = some ce.cls → vx_W p l e R s m args below meth c H1 locs1 (cells + mc) (slots + ms) Q (F0 m pc ls rest) q9)
    (kk : ∀ (r : UInt32) (u : S) (t : State) (H1 : Heap) (locs1 : List Loc), t.heap = H1 → s.vm.Alike t.vm → post r u → B u t → H.size ≤ H1.size → (∀ q : Nat, q < H.size → ¬ A1 q → H1[q]? = H[q]?) → va_S A0 H0 H1 locs1 → W p l e R s m args below meth c H1 locs1 (cells + mc) (slots + ms) Q (F0 m (pc + 3) ls (.float r :: rest))) : W p l e R s m args below meth c H locs cells slots Q (F0 m pc ls st0) := by
  intro T hT X
  rcases hr T hT X with ⟨v, st₀, t, T', L, h0, X', hL, e1, e2, ⟨⟨r, u, hv, hp, hb⟩, hF⟩, st⟩ | ⟨q, st₀, t, T', L, E, ce, h0, X', hL, e1, e2, ⟨u, hp, hb, hF⟩, hce, hcv, hcl, st⟩
  · cases hv
    obtain ⟨k1, k2, k3⟩ := vx_keep h0 e1 hS hA hf hL hF
    obtain ⟨t2, a1, b1⟩ := kk r u t T'.heap (locs ++ L) e1.symm (by rw [← e2]; exact X'.warmed.alike) hp hb k1 k2 k3 T' rfl X'
    exact ⟨t2, st t2 a1, b1⟩
  · obtain ⟨k1, k2, k3⟩ := vx_keep h0 e1 hS hAX hf hL hF
    obtain ⟨t2, a1, b1⟩ := kx E ce q u t T'.heap (locs ++ L) e1.symm (by rw [← e2]; exact X'.warmed.alike) hp hb k1 k2 k3 (by rw [e1]; exact hce) hcv hcl T' rfl X'
    exact ⟨t2, st.trans a1, b1⟩
theorem vx_calld {S SX : Type} {post : UInt64 → S → Prop} {px : SX → Prop} {B : S → State → Prop} {BX : String → SX → State → Prop} {AX : Nat → Prop} (hr : vx_Run p l e R s m args below meth c H locs cells slots mc ms (F0 m pc ls st0) rest (va_Qd post B A1 a) (vx_X px BX AX) free) (hS : va_S A0 H0 H locs) (hA : ∀ q, q < H.size → A1 q → A0 q) (hf : ∀ q, free q → A0 q) (hAX : ∀ q, q < H.size → AX q → A0 q)
    (kx : ∀ (E : String) (ce : Cell) (q9 : Addr) (u : SX) (t : State) (H1 : Heap) (locs1 : List Loc), t.heap = H1 → s.vm.Alike t.vm → px u → BX E u t → H.size ≤ H1.size → (∀ q : Nat, q < H.size → ¬ AX q → H1[q]? = H[q]?) → va_S A0 H0 H1 locs1 → H1[q9]? = some ce → ce.vm = .none → s.vm.findClass E = some ce.cls → vx_W p l e R s m args below meth c H1 locs1 (cells + mc) (slots + ms) Q (F0 m pc ls rest) q9)
    (kk : ∀ (r : UInt64) (u : S) (t : State) (H1 : Heap) (locs1 : List Loc), t.heap = H1 → s.vm.Alike t.vm → post r u → B u t → H.size ≤ H1.size → (∀ q : Nat, q < H.size → ¬ A1 q → H1[q]? = H[q]?) → va_S A0 H0 H1 locs1 → W p l e R s m args below meth c H1 locs1 (cells + mc) (slots + ms) Q (F0 m (pc + 3) ls (.double r :: rest))) : W p l e R s m args below meth c H locs cells slots Q (F0 m pc ls st0) := by
  intro T hT X
  rcases hr T hT X with ⟨v, st₀, t, T', L, h0, X', hL, e1, e2, ⟨⟨r, u, hv, hp, hb⟩, hF⟩, st⟩ | ⟨q, st₀, t, T', L, E, ce, h0, X', hL, e1, e2, ⟨u, hp, hb, hF⟩, hce, hcv, hcl, st⟩
  · cases hv
    obtain ⟨k1, k2, k3⟩ := vx_keep h0 e1 hS hA hf hL hF
    obtain ⟨t2, a1, b1⟩ := kk r u t T'.heap (locs ++ L) e1.symm (by rw [← e2]; exact X'.warmed.alike) hp hb k1 k2 k3 T' rfl X'
    exact ⟨t2, st t2 a1, b1⟩
  · obtain ⟨k1, k2, k3⟩ := vx_keep h0 e1 hS hAX hf hL hF
    obtain ⟨t2, a1, b1⟩ := kx E ce q u t T'.heap (locs ++ L) e1.symm (by rw [← e2]; exact X'.warmed.alike) hp hb k1 k2 k3 (by rw [e1]; exact hce) hcv hcl T' rfl X'
    exact ⟨t2, st.trans a1, b1⟩
theorem vx_callv {S SX : Type} {post : S → Prop} {px : SX → Prop} {B : S → State → Prop} {BX : String → SX → State → Prop} {AX : Nat → Prop} (hr : vx_Run p l e R s m args below meth c H locs cells slots mc ms (F0 m pc ls st0) rest (va_Qv post B A1 a) (vx_X px BX AX) free) (hS : va_S A0 H0 H locs) (hA : ∀ q, q < H.size → A1 q → A0 q) (hf : ∀ q, free q → A0 q) (hAX : ∀ q, q < H.size → AX q → A0 q)
    (kx : ∀ (E : String) (ce : Cell) (q9 : Addr) (u : SX) (t : State) (H1 : Heap) (locs1 : List Loc), t.heap = H1 → s.vm.Alike t.vm → px u → BX E u t → H.size ≤ H1.size → (∀ q : Nat, q < H.size → ¬ AX q → H1[q]? = H[q]?) → va_S A0 H0 H1 locs1 → H1[q9]? = some ce → ce.vm = .none → s.vm.findClass E = some ce.cls → vx_W p l e R s m args below meth c H1 locs1 (cells + mc) (slots + ms) Q (F0 m pc ls rest) q9)
    (kk : ∀ (u : S) (t : State) (H1 : Heap) (locs1 : List Loc), t.heap = H1 → s.vm.Alike t.vm → post u → B u t → H.size ≤ H1.size → (∀ q : Nat, q < H.size → ¬ A1 q → H1[q]? = H[q]?) → va_S A0 H0 H1 locs1 → W p l e R s m args below meth c H1 locs1 (cells + mc) (slots + ms) Q (F0 m (pc + 3) ls (rest))) : W p l e R s m args below meth c H locs cells slots Q (F0 m pc ls st0) := by
  intro T hT X
  rcases hr T hT X with ⟨v, st₀, t, T', L, h0, X', hL, e1, e2, ⟨⟨u, hv, hp, hb⟩, hF⟩, st⟩ | ⟨q, st₀, t, T', L, E, ce, h0, X', hL, e1, e2, ⟨u, hp, hb, hF⟩, hce, hcv, hcl, st⟩
  · cases hv
    obtain ⟨k1, k2, k3⟩ := vx_keep h0 e1 hS hA hf hL hF
    obtain ⟨t2, a1, b1⟩ := kk u t T'.heap (locs ++ L) e1.symm (by rw [← e2]; exact X'.warmed.alike) hp hb k1 k2 k3 T' rfl X'
    exact ⟨t2, st t2 a1, b1⟩
  · obtain ⟨k1, k2, k3⟩ := vx_keep h0 e1 hS hAX hf hL hF
    obtain ⟨t2, a1, b1⟩ := kx E ce q u t T'.heap (locs ++ L) e1.symm (by rw [← e2]; exact X'.warmed.alike) hp hb k1 k2 k3 (by rw [e1]; exact hce) hcv hcl T' rfl X'
    exact ⟨t2, st.trans a1, b1⟩
end Rows
section Ends
variable {p : Program} {l : Launch} {e : Env} {R : Room} {s : State} {m : MethodId} {args : Array Value} {below : List Frame} {meth : Method} {c : Code} {H : Heap} {locs : List Loc} {cells slots : Nat} {Q : State → Prop}
variable {mc ms : Nat} {free : Addr → Prop} {A0 A1 : Nat → Prop} {H0 : Heap} {a : Array Value} {ls : Array Slot} {st0 rest : List Value}
variable {Qc : Array Value → State → Outcome → State → Prop} {XC : String → State → State → Prop}
/-- what a body that may throw owes at its end -/
def vx_MQ (below : List Frame) (Qc : Array Value → State → Outcome → State → Prop) (XC : String → State → State → Prop) (a : Array Value) (s : State) (mc ms : Nat) (free : Addr → Prop) : State → Prop := fun t =>
  ∃ o, t.status = .running ∧ Ended t below o ∧ vx_Q Qc XC mc ms free a s o t
theorem vx_ret {g : JFrame} {mc ms : Nat} (k : W p l e R s m args below meth c H locs cells slots (MQ below Qc args s mc ms free) g) : W p l e R s m args below meth c H locs cells slots (vx_MQ below Qc XC args s mc ms free) g := by
  intro T hT X
  obtain ⟨t, a1, o, b1, b2, b3, b4⟩ := k T hT X
  exact ⟨t, a1, o, b1, b2, Or.inl ⟨b3, b4⟩⟩
/-- not caught here: it goes on to the caller -/
theorem vx_widen {g : JFrame} {q : Addr} {k n : Nat} (h1 : cells ≤ k) (h2 : slots ≤ n) (kk : vx_W p l e R s m args below meth c H locs k n Q g q) : vx_W p l e R s m args below meth c H locs cells slots Q g q := fun T hT X => kk T hT (stand_widen X h1 h2)
theorem vx_out {pc : Nat} {E : String} {ce : Cell} {q : Addr} {mc ms : Nat} (hout : ∀ x ∈ c.exceptionTable.toList, covers x pc = false) (hlocks : meth.locks = false) (hcell : H[q]? = some ce) (hv : ce.vm = .none) (hcl : s.vm.findClass E = some ce.cls)
    (hx : ∀ t : State, t.heap = H → s.vm.Alike t.vm → XC E s t) (hf : ∀ z ∈ locs, free z.base) (hc : cells ≤ mc) (hs : slots ≤ ms) :
    vx_W p l e R s m args below meth c H locs cells slots (vx_MQ below Qc XC args s mc ms free) (F0 m pc ls rest) q := by
  intro T hT X
  obtain ⟨st1, hrun, hend, hW, hsm⟩ := X.leaveThrown q (g := F0 m pc ls rest) rfl rfl rfl hout hlocks
  have hcell9 : (T.setFrames (.throwing q :: below)).heap[q]? = some ce := by
    show T.heap[q]? = some ce
    rw [hT]; exact hcell
  exact ⟨_, st1, .threw q, hrun, hend, Or.inr ⟨q, rfl, E, ce, locs, hx _ hT hW.alike, hcell9, hv, hcl, hW, hsm.mono hc hs, hf⟩⟩
theorem vx_frame {U : State} {k n : Nat} (h : s.sameButNew ({ U with vm := s.vm } : State) locs k n) : s.heap.size ≤ U.heap.size ∧ ∀ q : Nat, q < s.heap.size → (∀ z ∈ locs, z.base ≠ q) → U.heap[q]? = s.heap[q]? := by
  obtain ⟨-, h2, -, -, -, h6⟩ := h
  refine ⟨h2, fun q hq hz => ?_⟩
  obtain ⟨c9, e1, e2, e3, e4⟩ := h6 q _ (Array.getElem?_eq_getElem hq)
  have hs : c9.slots = (s.heap[q]).slots := Array.ext_getElem? fun i => e4 i fun hm => hz _ hm rfl
  have h9 : c9 = s.heap[q] := by
    rw [hs] at e2
    exact e2
  have e5 : U.heap[q]? = some c9 := e1
  rw [e5, h9, Array.getElem?_eq_getElem hq]
/-- the words of a throw but the four that speak of the heap -/
def vx_no (w : Cond) : Bool := decide (w ≠ .isRef (.static Bundle.tN "UNASSIGNED_STACK" Bundle.steD)) && decide (w ≠ .isRef (.static Bundle.tN "SUPPRESSED_SENTINEL" Bundle.listD)) && decide (w ≠ .laysStatic Bundle.tN "UNASSIGNED_STACK" Bundle.steD) && decide (w ≠ .laysStatic Bundle.tN "SUPPRESSED_SENTINEL" Bundle.listD)
def vx_at0 (own : String) (ic : Nat) (X : String) (names : List String) : List Cond := (Bundle.ownAtoms0 own ic X names).filter vx_no
def vx_atS (own : String) (ic : Nat) (X : String) (names : List String) : List Cond := (Bundle.ownAtoms own ic X names).filter vx_no
/-- a word that the tables alone decide, or a good one -/
def vx_ot (w : Cond) : Bool := w.onTables || goodWord w
theorem vx_ot_at {args a' : Array Value} {s U : State} {w : Cond} (hW : s.WarmedH U.vm) (hvm : s.vm = U.vm) (hg : vx_ot w = true) (h : w.before args s = true) : w.before a' U = true := by
  simp only [vx_ot, Bool.or_eq_true] at hg
  rcases hg with hg | hg
  · exact va_tabs hg hvm h
  · exact word_at hW (good_of_word hg) h
/-- a list's words: the good ones out of the method's own list, the others by premises of their own -/
theorem vx_hat {args : Array Value} {s : State} {L B : List Cond} (h1 : ∀ w ∈ L.filter goodWord, w.before args s = true) (h2 : ∀ w ∈ L.filter (fun w => !goodWord w), w ∈ B) (h3 : ∀ w ∈ B, w.before args s = true) : ∀ w ∈ L, w.before args s = true := by
  intro w hw
  by_cases g : goodWord w = true
  · exact h1 w (List.mem_filter.mpr ⟨hw, g⟩)
  · refine h3 w (h2 w (List.mem_filter.mpr ⟨hw, ?_⟩))
    show (!goodWord w) = true
    cases hgw : goodWord w
    · rfl
    · exact absurd hgw g
theorem vx_c {args : Array Value} {s : State} {w : Cond} {B : List Cond} (h : w.before args s = true) (t : ∀ w ∈ B, w.before args s = true) : ∀ w' ∈ w :: B, w'.before args s = true := fun w' h' => (List.mem_cons.mp h').elim (fun e => by rw [e]; exact h) (t w')
theorem vx_n {args : Array Value} {s : State} : ∀ w ∈ ([] : List Cond), w.before args s = true := fun _ h => nomatch h
theorem vx_own {args : Array Value} {s : State} {L : List Cond} (h1 : ∀ w ∈ L.filter vx_no, w.before args s = true)
    (hU : (Cond.isRef (.static Bundle.tN "UNASSIGNED_STACK" Bundle.steD)).before args s = true) (hN : (Cond.isRef (.static Bundle.tN "SUPPRESSED_SENTINEL" Bundle.listD)).before args s = true)
    (lU : (Cond.laysStatic Bundle.tN "UNASSIGNED_STACK" Bundle.steD).before args s = true) (lN : (Cond.laysStatic Bundle.tN "SUPPRESSED_SENTINEL" Bundle.listD).before args s = true) : ∀ w ∈ L, w.before args s = true := by
  intro w hw
  by_cases e1 : w = .isRef (.static Bundle.tN "UNASSIGNED_STACK" Bundle.steD)
  · rw [e1]; exact hU
  · by_cases e2 : w = .isRef (.static Bundle.tN "SUPPRESSED_SENTINEL" Bundle.listD)
    · rw [e2]; exact hN
    · by_cases e3 : w = .laysStatic Bundle.tN "UNASSIGNED_STACK" Bundle.steD
      · rw [e3]; exact lU
      · by_cases e4 : w = .laysStatic Bundle.tN "SUPPRESSED_SENTINEL" Bundle.listD
        · rw [e4]; exact lN
        · exact h1 w (List.mem_filter.mpr ⟨hw, by unfold vx_no; rw [decide_eq_true e1, decide_eq_true e2, decide_eq_true e3, decide_eq_true e4]; rfl⟩)
/-- where a static field lies, its class's statics cell in H -/
def vx_L (C n d : String) (A : Nat → Prop) (U : State) (H : Heap) : Prop := ∃ (c : ClassId) (k : Class) (i : Nat) (f : Field) (a : Nat) (cell : Cell), U.vm.findClass C = some c ∧ U.fieldFound? C n d = some (c, k, i, f) ∧ f.isStatic = true ∧ k.statics = some a ∧ H[a]? = some cell ∧ cell.vm.isStatics = true ∧ cell.cls = c ∧ f.slot < cell.slots.size ∧ k.staticTypes[f.slot]? = some f.type ∧ ¬ A a
theorem vx_L.moved {C n d : String} {A : Nat → Prop} {u U : State} {H : Heap} (hvm : u.vm.Alike U.vm) (h : vx_L C n d A u H) : vx_L C n d A U H := by
  obtain ⟨c, k, i, f, a, cell, h1, h2, h3, h4, h5, h6, h7, h8, h9, h10⟩ := h
  obtain ⟨k', hi', he⟩ := State.fieldFound?_setVm hvm h2
  exact ⟨c, k', i, f, a, cell, by rw [hvm.findClass]; exact h1, hi', h3, by rw [he]; exact h4, h5, h6, h7, h8, by rw [he]; exact h9, h10⟩
theorem vx_L.kept {C n d : String} {A : Nat → Prop} {U : State} {H H1 : Heap} (h : vx_L C n d A U H) (hq : ∀ a : Nat, a < H.size → ¬ A a → H1[a]? = H[a]?) : vx_L C n d A U H1 := by
  obtain ⟨c, k, i, f, a, cell, h1, h2, h3, h4, h5, h6, h7, h8, h9, h10⟩ := h
  exact ⟨c, k, i, f, a, cell, h1, h2, h3, h4, by rw [hq a (Array.getElem?_eq_some_iff.mp h5).1 h10]; exact h5, h6, h7, h8, h9, h10⟩
theorem vx_L.narrow {C n d : String} {A B : Nat → Prop} {U : State} {H : Heap} (h : vx_L C n d A U H) (hAB : ∀ q, B q → A q) : vx_L C n d B U H := by
  obtain ⟨c, k, i, f, a, cell, h1, h2, h3, h4, h5, h6, h7, h8, h9, h10⟩ := h
  exact ⟨c, k, i, f, a, cell, h1, h2, h3, h4, h5, h6, h7, h8, h9, fun z => h10 (hAB _ z)⟩
theorem vx_L.word {C n d : String} {A : Nat → Prop} {s : State} {args : Array Value} (h : vx_L C n d A s s.heap) : (Cond.laysStatic C n d).before args s = true := by
  obtain ⟨c, k, i, f, a, cell, h1, h2, h3, h4, h5, h6, h7, h8, h9, -⟩ := h
  show (Cond.laysStatic C n d).holds args s none s [] = true
  exact Cond.laysStatic_of h1 h2 h3 h4 h5 h6 h7 h8 h9
/-- .. and what it holds: null or some reference -/
def vx_Zq (C n d : String) (A : Nat → Prop) (U : State) (H : Heap) : Prop := va_Zq C n d A U H ∧ vx_L C n d A U H
theorem vx_Zq.moved {C n d : String} {A : Nat → Prop} {u U : State} {H : Heap} (hvm : u.vm.Alike U.vm) (h : vx_Zq C n d A u H) : vx_Zq C n d A U H := ⟨va_Zq.moved hvm h.1, vx_L.moved hvm h.2⟩
theorem vx_Zq.kept {C n d : String} {A : Nat → Prop} {U : State} {H H1 : Heap} (h : vx_Zq C n d A U H) (hq : ∀ a : Nat, a < H.size → ¬ A a → H1[a]? = H[a]?) : vx_Zq C n d A U H1 := ⟨va_Zq.kept h.1 hq, vx_L.kept h.2 hq⟩
theorem vx_Zq.narrow {C n d : String} {A B : Nat → Prop} {U : State} {H : Heap} (h : vx_Zq C n d A U H) (hAB : ∀ q, B q → A q) : vx_Zq C n d B U H := ⟨va_Zq.narrow h.1 hAB, vx_L.narrow h.2 hAB⟩
theorem vx_Zqof {args : Array Value} {s : State} {C n d : String} {A : Nat → Prop} (hl : (Cond.laysStatic C n d).before args s = true) (hini : (Cond.initialized C).before args s = true) (h : (Cond.isRef (.static C n d)).before args s = true) (hA : ∀ a : Nat, a < s.heap.size → ¬ A a) : vx_Zq C n d A s s.heap := by
  refine ⟨va_Zqof hl hini h hA, ?_⟩
  obtain ⟨c, k, i, f, a, cell, h1, h2, h3, h4, h5, h6, h7, h8, h9⟩ := Cond.laysStatic_spec hl
  exact ⟨c, k, i, f, a, cell, h1, h2, h3, h4, h5, h6, h7, h8, h9, hA a (Array.getElem?_eq_some_iff.mp h5).1⟩
theorem vx_isRef {C n d : String} {v : Value} {A : Nat → Prop} {s : State} {args : Array Value} (h : va_Z C n d v A s s.heap) (hv : v.isRef = true) : (Cond.isRef (.static C n d)).before args s = true := by
  obtain ⟨cf, kf, fi, f, a, cell, h1, h2, h3, h4, h5, h6, h7, -⟩ := h
  have he : (Term.static C n d).eval args s none [] s = some v := by
    simp [Term.eval, State.fieldNamed?, h1, h2, h4, h5, h6, h7]
  simp only [Cond.before, Cond.holds, Cond.value, he]
  cases v <;> simp_all [Value.isRef]
theorem vx_isRefq {C n d : String} {A : Nat → Prop} {s : State} {args : Array Value} (h : va_Zq C n d A s s.heap) : (Cond.isRef (.static C n d)).before args s = true := by
  rcases h with h | ⟨t, h⟩
  · exact vx_isRef h rfl
  · exact vx_isRef h rfl
/-- the same frame, seen from here: as if the method were called anew in this heap -/
theorem vx_rebase {T : State} (X : Stand p l e R s m args below meth c T locs cells slots) {R' : Room} (hf : R'.frames ≤ R.frames) (hl : R'.locals ≤ R.locals) (hc : cells + R'.cells ≤ R.cells) (hs : slots + R'.slots ≤ R.slots) :
    Stand p l e R' ((T.setVm s.vm).setFrames (.invoking m args :: below)) m args below meth c T [] 0 0 := by
  have htop : (T.setVm s.vm).topJava?.isSome := X.here.top
  have hF : ((T.setVm s.vm).setFrames (.invoking m args :: below)).frames = .invoking m args :: below := State.frames_setFrames _ (State.cur_lt_of_top htop)
  obtain ⟨g₀, hg0⟩ := Option.isSome_iff_exists.mp htop
  obtain ⟨r, hr⟩ := State.topJava?_eq_some.mp hg0
  have hl9 : e.platform.stackLimits (T.setVm s.vm).me = e.platform.stackLimits s.me := X.limits
  have hb9 : (T.setVm s.vm).me.stackBytes = s.me.stackBytes := X.bytes
  refine ⟨X.admits, X.cas, X.clock, hF, ?_, X.hears, X.method, X.code, X.here, X.tail, X.warmed, ?_, ?_, ?_⟩
  · have h := X.room
    have hU : ((T.setVm s.vm).setFrames (.invoking m args :: below)).localsInUse = s.localsInUse := by
      rw [State.localsInUse_invoking hF (meth := meth) (c := c) X.method X.code, State.localsInUse_invoking X.frames X.method X.code]
    simp only [State.hasRoom, Bool.and_eq_true, decide_eq_true_eq] at h ⊢
    obtain ⟨⟨⟨⟨h1, h2, h3, h4, h5, h6⟩, h7⟩, h8⟩, h9⟩ := h
    rw [X.frames, List.length_cons] at h2 h3
    have q1 := X.heapSize
    have q2 := X.used
    simp only [hF, hU, List.length_cons, State.stackLimits_setFrames, State.stackBytes_setFrames, hl9, hb9]
    refine ⟨⟨⟨⟨by omega, by omega, by omega, by omega, by omega, h6⟩, ?_⟩, ?_⟩, X.book⟩
    · show T.heap.size + R'.cells ≤ e.platform.maxCells
      omega
    · show T.slotsUsed + R'.slots ≤ e.platform.maxSlots
      omega
  · rw [State.stackLimits_setFrames]; rfl
  · rw [State.stackBytes_setFrames]; rfl
  · refine ⟨?_, Nat.le_refl _, Nat.le_refl _, ?_, ?_, fun a c9 h9 => ⟨c9, h9, rfl, rfl, fun _ _ => rfl⟩⟩
    · obtain ⟨t, ht, -⟩ := State.frames_cons hr
      show T.setVm s.vm = { ((T.setVm s.vm).setFrames (.invoking m args :: below)).setFrames (T.setVm s.vm).frames with heap := T.heap, slotsUsed := T.slotsUsed }
      rw [State.setFrames_setFrames, State.setFrames_self ht]
      rfl
    · show T.slotsUsed = T.slotsUsed + ((T.heap.toList.drop T.heap.size).map (·.slots.size)).sum
      rw [List.drop_eq_nil_of_le (Nat.le_of_eq Array.length_toList)]
      rfl
    · show ((T.heap.toList.drop T.heap.size).map (·.slots.size)).sum ≤ 0
      rw [List.drop_eq_nil_of_le (Nat.le_of_eq Array.length_toList)]
      exact Nat.le_refl _
/-- 'throw new E()': new; dup; invokespecial; athrow -/
theorem vx_throw0 {cc : ByteArray} {pc : Nat} (hexec : p.tables.exec = Jvm.exec) (hb : c.code = cc) (hl : l.stackTraces = false) {own cls : String} {names : List String} {ik ic mc ms : Nat} {A : Nat → Prop}
    (hown : s.vm.findClass own = some m.cls) (hcls : Bundle.fit cls = true) (hnames : ∀ n ∈ names, Bundle.fit n = true)
    (hk : (Cond.classLink own ik cls).before args s = true) (hini : (Cond.initialized cls).before args s = true) (hat : ∀ w ∈ vx_at0 own ic cls names, w.before args s = true)
    (hgood : ∀ w ∈ Cond.classLink own ik cls :: Cond.initialized cls :: vx_at0 own ic cls names, vx_ot w = true)
    (hU : vx_Zq Bundle.tN "UNASSIGNED_STACK" Bundle.steD A s s.heap) (hN : vx_Zq Bundle.tN "SUPPRESSED_SENTINEL" Bundle.listD A s s.heap) (hS : va_S A s.heap H locs) (hsize : ls.size = c.maxLocals)
    (d0 : decode cc pc = .ok (.new ik, 3)) (d3 : decode cc (pc + 3) = .ok (.dup, 1)) (d4 : decode cc (pc + 4) = .ok (.invokespecial ic, 3)) (d7 : decode cc (pc + 7) = .ok (.athrow, 1))
    (hout : ∀ x ∈ c.exceptionTable.toList, covers x (pc + 7) = false)
    (hRframes : names.length + 3 < R.frames) (hRlocals : (rest.map fun v => v.category).sum + (13 * (names.length + 1) + 42) ≤ R.locals) (hRcells : cells + 1 ≤ R.cells) (hRslots : slots + 6 ≤ R.slots) (hlocks : meth.locks = false)
    (hx : ∀ t : State, s.vm.Alike t.vm → H.size ≤ t.heap.size → (∀ q : Nat, q < H.size → t.heap[q]? = H[q]?) → XC cls s t)
    (hf : ∀ z ∈ locs, free z.base) (hc : cells + 1 ≤ mc) (hs : slots + 6 ≤ ms) :
    W p l e R s m args below meth c H locs cells slots (vx_MQ below Qc XC args s mc ms free) (F0 m pc ls rest) := by
  intro T hT X
  have htr : e.platform.stackTraces = false := (show e.platform.stackTraces = l.stackTraces by rw [X.admits.platform]).trans hl
  have Y := vx_rebase X (R' := { frames := R.frames, locals := R.locals, cells := 1, slots := 6 }) (Nat.le_refl _) (Nat.le_refl _) hRcells hRslots
  obtain ⟨s', hA⟩ : ∃ z, z = (T.setVm s.vm).setFrames (.invoking m args :: below) := ⟨_, rfl⟩
  rw [← hA] at Y
  have hvm : s'.vm = s.vm := by rw [hA]; rfl
  have hhp : s'.heap = H := by rw [hA]; exact hT
  have hW0 : s.WarmedH s'.vm := by rw [hvm]; exact State.WarmedH.refl s
  have hat' : ∀ w ∈ vx_at0 own ic cls names, w.before args s' = true := fun w hw => vx_ot_at hW0 hvm.symm (hgood w (List.mem_cons_of_mem _ (List.mem_cons_of_mem _ hw))) (hat w hw)
  have hk' : (Cond.classLink own ik cls).before args s' = true := vx_ot_at hW0 hvm.symm (hgood _ List.mem_cons_self) hk
  have hini' : (Cond.initialized cls).before args s' = true := vx_ot_at hW0 hvm.symm (hgood _ (List.mem_cons_of_mem _ List.mem_cons_self)) hini
  have hU' : vx_Zq Bundle.tN "UNASSIGNED_STACK" Bundle.steD A s' s'.heap := by rw [hhp]; exact vx_Zq.moved hW0.alike (hU.kept hS.2.1)
  have hN' : vx_Zq Bundle.tN "SUPPRESSED_SENTINEL" Bundle.listD A s' s'.heap := by rw [hhp]; exact vx_Zq.moved hW0.alike (hN.kept hS.2.1)
  have h : ∀ w ∈ Bundle.ownAtoms0 own ic cls names, w.before args s' = true := vx_own hat' (vx_isRefq hU'.1) (vx_isRefq hN'.1) hU'.2.word hN'.2.word
  have hown' : s'.vm.findClass own = some m.cls := by rw [hvm]; exact hown
  have hins : (Cond.instantiable cls 6).before args s' = true := h _ (by simp [Bundle.ownAtoms0])
  obtain ⟨vm₁, cX, kX, hfX, hkX, -, -, X₁, st1⟩ := Y.newCold hexec (own := own) (C := cls) (index := ik) (n := 6) hown' hk' hins hini'
    (g := F0 m pc ls rest) rfl (by rw [hb]; exact d0) (Nat.le_refl _) (Nat.le_refl _)
  generalize hT1 : (T.setVm vm₁).pushCell { cls := cX, slots := kX.instanceTypes.map defaultValue, vm := .none } = T1 at X₁ st1
  have hcat : (Value.ref T.heap.size).category = 1 := rfl
  have hcellA : T1.heap[T.heap.size]? = some (freshCell cX kX) := by rw [← hT1]; exact State.heap_pushCell_size _ _
  have d3' : decode c.code (pc + 3) = .ok (.dup, 1) := by rw [hb]; exact d3
  obtain ⟨U, hsteps, hrun, hend, hW, hsame, ce, hce, hO⟩ := X₁.ctorThrow0 hexec htr (own := own) (cls := cls) (names := names) (ic := ic) hown' hcls hnames h (fun x hx => nomatch hx) hfX hkX hcellA (by rw [hhp, hT]; exact Nat.le_refl _)
    (g := { method := m, pc := pc + 4, locals := ls, stack := .ref T.heap.size :: .ref T.heap.size :: rest, locked := none }) rfl hsize rfl rfl (rest := rest) rfl
    (by rw [hb]; exact d4) (by rw [hb]; exact d7) hout hRframes (by simp only [List.map_cons, List.sum_cons, hcat]; omega) hlocks
  obtain ⟨f1, f2⟩ := vx_frame hsame
  rw [hhp] at f1 f2
  have hWs : s.WarmedH U.vm := State.WarmedH.trans hW0 hW
  have hcl : s.vm.findClass cls = some ce.cls := by
    have h9 := hO.cls
    rw [hvm] at h9
    exact h9
  have hall : s.sameButNew ({ U with vm := s.vm } : State) locs mc ms := by
    subst hA
    obtain ⟨e1, e2⟩ := hsame
    rw [State.setFrames_setFrames] at e1
    have h2 : (T.setVm s.vm).sameButNew ({ U with vm := s.vm } : State) [] (0 + 1) (0 + 6) := ⟨e1, e2⟩
    have h3 := X.same.trans h2
    rw [List.append_nil] at h3
    exact h3.mono hc hs
  refine ⟨U, ?_, .threw T.heap.size, hrun, hend, Or.inr ⟨T.heap.size, rfl, cls, ce, locs, hx U hWs.alike f1 (fun q hq => f2 q hq (fun z hz => nomatch hz)), hce, hO.vm, hcl, hWs, hall, hf⟩⟩
  refine st1 _ ?_
  show Steps p.tables e below (T1.setTop { method := m, pc := pc + 3, locals := ls, stack := .ref T.heap.size :: rest, locked := none }) _
  jvm_step X₁.here [X₁.here.top, hexec, d3', Value.category]
  exact hsteps
/-- 'throw new E("text")': new; dup; ldc; invokespecial; athrow -/
theorem vx_throwS {cc : ByteArray} {pc : Nat} (hexec : p.tables.exec = Jvm.exec) (hb : c.code = cc) (hl : l.stackTraces = false) {own cls text : String} {names : List String} {ik is ic mc ms sa : Nat} {A : Nat → Prop}
    (hown : s.vm.findClass own = some m.cls) (hcls : Bundle.fit cls = true) (hnames : ∀ n ∈ names, Bundle.fit n = true)
    (hk : (Cond.classLink own ik cls).before args s = true) (hini : (Cond.initialized cls).before args s = true) (hstr : vk_R own is text sa s) (hat : ∀ w ∈ vx_atS own ic cls names, w.before args s = true)
    (hgood : ∀ w ∈ Cond.classLink own ik cls :: Cond.initialized cls :: vx_atS own ic cls names, vx_ot w = true)
    (hU : vx_Zq Bundle.tN "UNASSIGNED_STACK" Bundle.steD A s s.heap) (hN : vx_Zq Bundle.tN "SUPPRESSED_SENTINEL" Bundle.listD A s s.heap) (hS : va_S A s.heap H locs) (hsize : ls.size = c.maxLocals)
    (d0 : decode cc pc = .ok (.new ik, 3)) (d3 : decode cc (pc + 3) = .ok (.dup, 1)) (d4 : decode cc (pc + 4) = .ok (.ldc is, 2)) (d6 : decode cc (pc + 6) = .ok (.invokespecial ic, 3)) (d9 : decode cc (pc + 9) = .ok (.athrow, 1))
    (hout : ∀ x ∈ c.exceptionTable.toList, covers x (pc + 9) = false)
    (hRframes : names.length + 3 < R.frames) (hRlocals : (rest.map fun v => v.category).sum + (13 * (names.length + 1) + 43) ≤ R.locals) (hRcells : cells + 1 ≤ R.cells) (hRslots : slots + 6 ≤ R.slots) (hlocks : meth.locks = false)
    (hx : ∀ t : State, s.vm.Alike t.vm → H.size ≤ t.heap.size → (∀ q : Nat, q < H.size → t.heap[q]? = H[q]?) → XC cls s t)
    (hf : ∀ z ∈ locs, free z.base) (hc : cells + 1 ≤ mc) (hs : slots + 6 ≤ ms) :
    W p l e R s m args below meth c H locs cells slots (vx_MQ below Qc XC args s mc ms free) (F0 m pc ls rest) := by
  intro T hT X
  have htr : e.platform.stackTraces = false := (show e.platform.stackTraces = l.stackTraces by rw [X.admits.platform]).trans hl
  have Y := vx_rebase X (R' := { frames := R.frames, locals := R.locals, cells := 1, slots := 6 }) (Nat.le_refl _) (Nat.le_refl _) hRcells hRslots
  obtain ⟨s', hA⟩ : ∃ z, z = (T.setVm s.vm).setFrames (.invoking m args :: below) := ⟨_, rfl⟩
  rw [← hA] at Y
  have hvm : s'.vm = s.vm := by rw [hA]; rfl
  have hhp : s'.heap = H := by rw [hA]; exact hT
  have hW0 : s.WarmedH s'.vm := by rw [hvm]; exact State.WarmedH.refl s
  have hat' : ∀ w ∈ vx_atS own ic cls names, w.before args s' = true := fun w hw => vx_ot_at hW0 hvm.symm (hgood w (List.mem_cons_of_mem _ (List.mem_cons_of_mem _ hw))) (hat w hw)
  have hk' : (Cond.classLink own ik cls).before args s' = true := vx_ot_at hW0 hvm.symm (hgood _ List.mem_cons_self) hk
  have hini' : (Cond.initialized cls).before args s' = true := vx_ot_at hW0 hvm.symm (hgood _ (List.mem_cons_of_mem _ List.mem_cons_self)) hini
  have hU' : vx_Zq Bundle.tN "UNASSIGNED_STACK" Bundle.steD A s' s'.heap := by rw [hhp]; exact vx_Zq.moved hW0.alike (hU.kept hS.2.1)
  have hN' : vx_Zq Bundle.tN "SUPPRESSED_SENTINEL" Bundle.listD A s' s'.heap := by rw [hhp]; exact vx_Zq.moved hW0.alike (hN.kept hS.2.1)
  have h : ∀ w ∈ Bundle.ownAtoms own ic cls names, w.before args s' = true := vx_own hat' (vx_isRefq hU'.1) (vx_isRefq hN'.1) hU'.2.word hN'.2.word
  have hown' : s'.vm.findClass own = some m.cls := by rw [hvm]; exact hown
  have hins : (Cond.instantiable cls 6).before args s' = true := h _ (by simp [Bundle.ownAtoms])
  obtain ⟨vm₁, cX, kX, hfX, hkX, -, -, X₁, st1⟩ := Y.newCold hexec (own := own) (C := cls) (index := ik) (n := 6) hown' hk' hins hini'
    (g := F0 m pc ls rest) rfl (by rw [hb]; exact d0) (Nat.le_refl _) (Nat.le_refl _)
  generalize hT1 : (T.setVm vm₁).pushCell { cls := cX, slots := kX.instanceTypes.map defaultValue, vm := .none } = T1 at X₁ st1
  have hcat : (Value.ref T.heap.size).category = 1 := rfl
  have hcellA : T1.heap[T.heap.size]? = some (freshCell cX kX) := by rw [← hT1]; exact State.heap_pushCell_size _ _
  have d3' : decode c.code (pc + 3) = .ok (.dup, 1) := by rw [hb]; exact d3
  have d4' : decode c.code (pc + 4) = .ok (.ldc is, 2) := by rw [hb]; exact d4
  have hstr' : vk_R own is text sa s' := vk_R.warm hW0 hstr
  obtain ⟨U, hsteps, hrun, hend, hW, hsame, ce, hce, hO⟩ := X₁.ctorThrowS hexec htr (own := own) (cls := cls) (names := names) (ic := ic) hown' hcls hnames h (fun x hx => nomatch hx) hfX hkX hcellA (by rw [hhp, hT]; exact Nat.le_refl _) (msg := .ref sa) rfl
    (g := { method := m, pc := pc + 6, locals := ls, stack := .ref sa :: .ref T.heap.size :: .ref T.heap.size :: rest, locked := none }) rfl hsize rfl rfl (rest := rest) rfl
    (by rw [hb]; exact d6) (by rw [hb]; exact d9) hout hRframes (by simp only [List.map_cons, List.sum_cons, hcat]; omega) hlocks
  obtain ⟨f1, f2⟩ := vx_frame hsame
  rw [hhp] at f1 f2
  have hWs : s.WarmedH U.vm := State.WarmedH.trans hW0 hW
  have hcl : s.vm.findClass cls = some ce.cls := by
    have h9 := hO.cls
    rw [hvm] at h9
    exact h9
  have hall : s.sameButNew ({ U with vm := s.vm } : State) locs mc ms := by
    subst hA
    obtain ⟨e1, e2⟩ := hsame
    rw [State.setFrames_setFrames] at e1
    have h2 : (T.setVm s.vm).sameButNew ({ U with vm := s.vm } : State) [] (0 + 1) (0 + 6) := ⟨e1, e2⟩
    have h3 := X.same.trans h2
    rw [List.append_nil] at h3
    exact h3.mono hc hs
  refine ⟨U, ?_, .threw T.heap.size, hrun, hend, Or.inr ⟨T.heap.size, rfl, cls, ce, locs, hx U hWs.alike f1 (fun q hq => f2 q hq (fun z hz => nomatch hz)), hce, hO.vm, hcl, hWs, hall, hf⟩⟩
  refine st1 _ ?_
  show Steps p.tables e below (T1.setTop { method := m, pc := pc + 3, locals := ls, stack := .ref T.heap.size :: rest, locked := none }) _
  jvm_step X₁.here [X₁.here.top, hexec, d3', Value.category]
  exact X₁.ldcString hexec (own := own) (text := text) (index := is) (a := sa) hown' hstr'.1 hstr'.2
    (g := { method := m, pc := pc + 4, locals := ls, stack := .ref T.heap.size :: .ref T.heap.size :: rest, locked := none }) rfl d4' _ hsteps
/-- 'throw new E("text")', the text by a wide index -/
theorem vx_throwSW {cc : ByteArray} {pc : Nat} (hexec : p.tables.exec = Jvm.exec) (hb : c.code = cc) (hl : l.stackTraces = false) {own cls text : String} {names : List String} {ik is ic mc ms sa : Nat} {A : Nat → Prop}
    (hown : s.vm.findClass own = some m.cls) (hcls : Bundle.fit cls = true) (hnames : ∀ n ∈ names, Bundle.fit n = true)
    (hk : (Cond.classLink own ik cls).before args s = true) (hini : (Cond.initialized cls).before args s = true) (hstr : vk_R own is text sa s) (hat : ∀ w ∈ vx_atS own ic cls names, w.before args s = true)
    (hgood : ∀ w ∈ Cond.classLink own ik cls :: Cond.initialized cls :: vx_atS own ic cls names, vx_ot w = true)
    (hU : vx_Zq Bundle.tN "UNASSIGNED_STACK" Bundle.steD A s s.heap) (hN : vx_Zq Bundle.tN "SUPPRESSED_SENTINEL" Bundle.listD A s s.heap) (hS : va_S A s.heap H locs) (hsize : ls.size = c.maxLocals)
    (d0 : decode cc pc = .ok (.new ik, 3)) (d3 : decode cc (pc + 3) = .ok (.dup, 1)) (d4 : decode cc (pc + 4) = .ok (.ldc_w is, 3)) (d7 : decode cc (pc + 7) = .ok (.invokespecial ic, 3)) (d10 : decode cc (pc + 10) = .ok (.athrow, 1))
    (hout : ∀ x ∈ c.exceptionTable.toList, covers x (pc + 10) = false)
    (hRframes : names.length + 3 < R.frames) (hRlocals : (rest.map fun v => v.category).sum + (13 * (names.length + 1) + 43) ≤ R.locals) (hRcells : cells + 1 ≤ R.cells) (hRslots : slots + 6 ≤ R.slots) (hlocks : meth.locks = false)
    (hx : ∀ t : State, s.vm.Alike t.vm → H.size ≤ t.heap.size → (∀ q : Nat, q < H.size → t.heap[q]? = H[q]?) → XC cls s t)
    (hf : ∀ z ∈ locs, free z.base) (hc : cells + 1 ≤ mc) (hs : slots + 6 ≤ ms) :
    W p l e R s m args below meth c H locs cells slots (vx_MQ below Qc XC args s mc ms free) (F0 m pc ls rest) := by
  intro T hT X
  have htr : e.platform.stackTraces = false := (show e.platform.stackTraces = l.stackTraces by rw [X.admits.platform]).trans hl
  have Y := vx_rebase X (R' := { frames := R.frames, locals := R.locals, cells := 1, slots := 6 }) (Nat.le_refl _) (Nat.le_refl _) hRcells hRslots
  obtain ⟨s', hA⟩ : ∃ z, z = (T.setVm s.vm).setFrames (.invoking m args :: below) := ⟨_, rfl⟩
  rw [← hA] at Y
  have hvm : s'.vm = s.vm := by rw [hA]; rfl
  have hhp : s'.heap = H := by rw [hA]; exact hT
  have hW0 : s.WarmedH s'.vm := by rw [hvm]; exact State.WarmedH.refl s
  have hat' : ∀ w ∈ vx_atS own ic cls names, w.before args s' = true := fun w hw => vx_ot_at hW0 hvm.symm (hgood w (List.mem_cons_of_mem _ (List.mem_cons_of_mem _ hw))) (hat w hw)
  have hk' : (Cond.classLink own ik cls).before args s' = true := vx_ot_at hW0 hvm.symm (hgood _ List.mem_cons_self) hk
  have hini' : (Cond.initialized cls).before args s' = true := vx_ot_at hW0 hvm.symm (hgood _ (List.mem_cons_of_mem _ List.mem_cons_self)) hini
  have hU' : vx_Zq Bundle.tN "UNASSIGNED_STACK" Bundle.steD A s' s'.heap := by rw [hhp]; exact vx_Zq.moved hW0.alike (hU.kept hS.2.1)
  have hN' : vx_Zq Bundle.tN "SUPPRESSED_SENTINEL" Bundle.listD A s' s'.heap := by rw [hhp]; exact vx_Zq.moved hW0.alike (hN.kept hS.2.1)
  have h : ∀ w ∈ Bundle.ownAtoms own ic cls names, w.before args s' = true := vx_own hat' (vx_isRefq hU'.1) (vx_isRefq hN'.1) hU'.2.word hN'.2.word
  have hown' : s'.vm.findClass own = some m.cls := by rw [hvm]; exact hown
  have hins : (Cond.instantiable cls 6).before args s' = true := h _ (by simp [Bundle.ownAtoms])
  obtain ⟨vm₁, cX, kX, hfX, hkX, -, -, X₁, st1⟩ := Y.newCold hexec (own := own) (C := cls) (index := ik) (n := 6) hown' hk' hins hini'
    (g := F0 m pc ls rest) rfl (by rw [hb]; exact d0) (Nat.le_refl _) (Nat.le_refl _)
  generalize hT1 : (T.setVm vm₁).pushCell { cls := cX, slots := kX.instanceTypes.map defaultValue, vm := .none } = T1 at X₁ st1
  have hcat : (Value.ref T.heap.size).category = 1 := rfl
  have hcellA : T1.heap[T.heap.size]? = some (freshCell cX kX) := by rw [← hT1]; exact State.heap_pushCell_size _ _
  have d3' : decode c.code (pc + 3) = .ok (.dup, 1) := by rw [hb]; exact d3
  have d4' : decode c.code (pc + 4) = .ok (.ldc_w is, 3) := by rw [hb]; exact d4
  have hstr' : vk_R own is text sa s' := vk_R.warm hW0 hstr
  obtain ⟨U, hsteps, hrun, hend, hW, hsame, ce, hce, hO⟩ := X₁.ctorThrowS hexec htr (own := own) (cls := cls) (names := names) (ic := ic) hown' hcls hnames h (fun x hx => nomatch hx) hfX hkX hcellA (by rw [hhp, hT]; exact Nat.le_refl _) (msg := .ref sa) rfl
    (g := { method := m, pc := pc + 7, locals := ls, stack := .ref sa :: .ref T.heap.size :: .ref T.heap.size :: rest, locked := none }) rfl hsize rfl rfl (rest := rest) rfl
    (by rw [hb]; exact d7) (by rw [hb]; exact d10) hout hRframes (by simp only [List.map_cons, List.sum_cons, hcat]; omega) hlocks
  obtain ⟨f1, f2⟩ := vx_frame hsame
  rw [hhp] at f1 f2
  have hWs : s.WarmedH U.vm := State.WarmedH.trans hW0 hW
  have hcl : s.vm.findClass cls = some ce.cls := by
    have h9 := hO.cls
    rw [hvm] at h9
    exact h9
  have hall : s.sameButNew ({ U with vm := s.vm } : State) locs mc ms := by
    subst hA
    obtain ⟨e1, e2⟩ := hsame
    rw [State.setFrames_setFrames] at e1
    have h2 : (T.setVm s.vm).sameButNew ({ U with vm := s.vm } : State) [] (0 + 1) (0 + 6) := ⟨e1, e2⟩
    have h3 := X.same.trans h2
    rw [List.append_nil] at h3
    exact h3.mono hc hs
  refine ⟨U, ?_, .threw T.heap.size, hrun, hend, Or.inr ⟨T.heap.size, rfl, cls, ce, locs, hx U hWs.alike f1 (fun q hq => f2 q hq (fun z hz => nomatch hz)), hce, hO.vm, hcl, hWs, hall, hf⟩⟩
  refine st1 _ ?_
  show Steps p.tables e below (T1.setTop { method := m, pc := pc + 3, locals := ls, stack := .ref T.heap.size :: rest, locked := none }) _
  jvm_step X₁.here [X₁.here.top, hexec, d3', Value.category]
  exact X₁.ldcStringW hexec (own := own) (text := text) (index := is) (a := sa) hown' hstr'.1 hstr'.2
    (g := { method := m, pc := pc + 4, locals := ls, stack := .ref T.heap.size :: .ref T.heap.size :: rest, locked := none }) rfl d4' _ hsteps
end Ends
section Bodies
variable {l : Launch}
theorem vx_ofW {y : MethodName} {ws ws' : List Cond} {rm : Room} {Pc : Array Value → State → Prop} {Qc : Array Value → State → Outcome → State → Prop} {XC : String → State → State → Prop} {mc ms : Nat} {free : Addr → Prop} {cc : ByteArray} {maxL : Nat} {ret : Option FieldType}
    (hy : plainName y.cls = true) (hw : ws = Cond.code y cc maxL ret :: ws')
    (body : ∀ p e s m args below meth c s₁, BodyLoose p l y (headSpec ws rm) cc maxL ret e s m args below meth c s₁ → c.maxLocals = maxL → (∀ x ∈ c.exceptionTable.toList, False) → Pc args s →
      W p l e (headSpec ws rm).room s m args below meth c s.heap [] 0 0 (vx_MQ below Qc XC args s mc ms free) (entryFrame m args maxL)) : vx_Met l y ws rm Pc Qc XC mc ms free := by
  refine MetFree.of_bodyS (code := cc) (maxLocals := maxL) (ret := ret) hy ?_ ?_
  · intro args s m h hn
    obtain ⟨meth, c, h1, h2, h3, h4, h5, h6, -, -⟩ := Cond.code_spec hn (atoms_spec (ws := ws) h _ (by rw [hw]; exact List.mem_cons_self))
    exact ⟨meth, c, h1, h2, h3, h4, h5, h6⟩
  · intro p e s m args below meth c s₁ B hml hP _
    have hh0 : s₁.heap = s.heap := by rw [B.state]; rfl
    have ht : ∀ x ∈ c.exceptionTable.toList, False := by
      obtain ⟨meth9, c9, h1, h2, -, -, -, -, h7, -⟩ := Cond.code_spec B.named (atoms_spec (ws := ws) B.pre _ (by rw [hw]; exact List.mem_cons_self))
      cases Option.some.inj (h1.symm.trans B.method)
      cases Option.some.inj (h2.symm.trans (Stand.of_body B).code)
      intro x hx
      rw [Array.isEmpty_iff.mp h7] at hx
      cases hx
    obtain ⟨t, a1, o, b1, b2, b3⟩ := body p e s m args below meth c s₁ B hml ht hP s₁ hh0 (Stand.of_body B)
    exact ⟨t, o, a1, b1, b2, b3⟩
/-- the table of a body with handlers -/
theorem vx_table {p : Program} {x y : MethodName} {S : Spec} {cc bytes : ByteArray} {maxL maxL' : Nat} {ret ret' : Option FieldType} {e : Env} {s s₁ : State} {m : MethodId} {args : Array Value} {below : List Frame} {meth : Method} {c : Code} {hh : List (Nat × Nat × Nat × Nat)}
    (B : BodyLoose p l y S cc maxL ret e s m args below meth c s₁) (h : (Cond.codeWith y bytes maxL' ret' hh).before args s = true) : c.exceptionTable.toList = tableOf hh := by
  obtain ⟨m9, meth9, c9, hn9, h1, h2, -, -, h6, -⟩ := Cond.codeWith_spec h
  cases Option.some.inj (hn9.symm.trans B.named)
  cases Option.some.inj (h1.symm.trans B.method)
  cases Option.some.inj (h2.symm.trans (Stand.of_body B).code)
  rw [← h6, table_eq]
end Bodies
end VXA
/-! ===== END ===== -/
/-! ===== BEGIN a static call of a method with an exception table ===== -/
section VXS
variable {p : Program} {l : Launch} {e : Env} {R : Room} {s : State} {m : MethodId} {args : Array Value} {below : List Frame} {meth : Method} {c : Code} {T : State} {H : Heap} {locs : List Loc} {cells slots : Nat}
abbrev vx_CSW (R : Room) (s : State) (args : Array Value) (own : String) (index : Nat) (y : MethodName) (bytes : ByteArray) (maxL : Nat) (ret : Option FieldType) (hh : List (Nat × Nat × Nat × Nat)) (ws : List Cond) (rm : Room) (mc ms n : Nat) : Prop :=
  (rm.cells = mc ∧ rm.slots = ms ∧ rm.frames + 1 ≤ R.frames ∧ 8 + (maxL + 11) + rm.locals ≤ R.locals ∧ (∀ w ∈ ws, ∀ (a' : Array Value) (U : State), s.WarmedH U.vm → w.before a' U = true) ∧ Cond.codeWith y bytes maxL ret hh ∈ ws) ∧
  (Cond.codeWith y bytes maxL ret hh).before args s = true ∧ (Cond.initialized y.cls).before args s = true ∧ (y.cls ≠ "java/lang/invoke/MethodHandle" ∧ y.cls ≠ "java/lang/invoke/VarHandle") ∧
  (∀ sig, parseMethodDescriptor y.desc = some sig → n = sig.parameters.length) ∧ (Cond.methodLink own index y).before args s = true ∧ (Cond.static y).before args s = true
theorem vx_cwSW {own : String} {index maxL mc ms : Nat} {y : MethodName} {bytes : ByteArray} {ret : Option FieldType} {hh : List (Nat × Nat × Nat × Nat)} {Ts ws ws' : List Cond} {rm : Room} (n : Nat) (ht : ∀ w ∈ Ts, w.before args s = true) (hT : GoodIn Ts (va_wsS own index y ws)) (hw : ws = Cond.codeWith y bytes maxL ret hh :: ws') (hrc : rm.cells = mc) (hrs : rm.slots = ms)
    (hd : y.cls ≠ "java/lang/invoke/MethodHandle" ∧ y.cls ≠ "java/lang/invoke/VarHandle" ∧ (parseMethodDescriptor y.desc).map (fun d => d.parameters.length) = some n) (hR : rm.frames + 1 ≤ R.frames ∧ 8 + (maxL + 11) + rm.locals ≤ R.locals) :
    vx_CSW R s args own index y bytes maxL ret hh ws rm mc ms n := by
  have ok : ∀ w ∈ va_wsS own index y ws, w.before args s = true := fun w h => ht w (hT w h).1
  have hG : GoodIn Ts ws := fun w h => hT w (by unfold va_wsS; exact List.mem_append_right _ h)
  have hc : Cond.codeWith y bytes maxL ret hh ∈ ws := by rw [hw]; exact List.mem_cons_self
  refine ⟨⟨hrc, hrs, hR.1, hR.2, pay_in ht hG, hc⟩, ht _ (hG _ hc).1, ok _ (by simp [va_wsS]), ⟨hd.1, hd.2.1⟩, fun sig h => ?_, ok _ (by simp [va_wsS]), ok _ (by simp [va_wsS])⟩
  have h2 := hd.2.2
  rw [h] at h2
  exact (Option.some.inj h2).symm
theorem vx_callSW (X : Stand p l e R s m args below meth c T locs cells slots) (hexec : p.tables.exec = Jvm.exec) {own : String} {index : Nat} {y : MethodName} {bytes : ByteArray} {maxL : Nat} {ret : Option FieldType} {hh : List (Nat × Nat × Nat × Nat)}
    (hown : s.vm.findClass own = some m.cls) (hlink : (Cond.methodLink own index y).before args s = true) (hstat : (Cond.static y).before args s = true) (hinit : (Cond.initialized y.cls).before args s = true)
    (hcode : (Cond.codeWith y bytes maxL ret hh).before args s = true) (hy : y.cls ≠ "java/lang/invoke/MethodHandle" ∧ y.cls ≠ "java/lang/invoke/VarHandle")
    {W9 : Nat} {Pre : Pt → Array Value → Prop} {Post : Pt → Array Value → Option Value → Pt → Prop} (hK : Back l R p e below s args y 3 W9 Pre Post)
    {g : JFrame} (hg : g.method = m) (hsize : g.locals.size = c.maxLocals) {argsL rest : List Value} (hlen : ∀ sig, parseMethodDescriptor y.desc = some sig → argsL.length = sig.parameters.length)
    (hstack : g.stack = argsL.reverse ++ rest) (hW : 2 * g.monitorRoom + (rest.map fun v => v.category).sum ≤ W9) (hdg : decode c.code g.pc = .ok (.invokestatic index, 3))
    (hpre : ∀ vm₁, s.WarmedH vm₁ → Pre ⟨T.setVm vm₁, locs, cells, slots⟩ argsL.toArray) :
    ∃ (v : Option Value) (vm₁ : Vm) (B : Pt), s.WarmedH vm₁ ∧ Stand p l e R s m args below meth c B.U B.locs B.cells B.slots ∧ Post ⟨T.setVm vm₁, locs, cells, slots⟩ argsL.toArray v B ∧
      ∀ target, Steps p.tables e below (B.U.setTop { g with pc := g.pc + 3, stack := v.toList ++ rest }) target → Steps p.tables e below (T.setTop g) target := by
  obtain ⟨mk, methM, cM, hnamed, hmethM, -, -, -, -, -, -, hsigM⟩ := Cond.codeWith_spec hcode
  have hstatic : methM.isStatic = true := Cond.static_spec hnamed hmethM hstat
  obtain ⟨kP, hkP, -⟩ := className_of_methodNamed hnamed
  have hinitP : kP.init = .initialized := Cond.initialized_spec (findClass_of_methodNamed hnamed) hkP hinit
  obtain ⟨vm₁, X₁, hstep₁⟩ := X.invokestatic hexec hown hlink hnamed hmethM hstatic hkP hinitP hy (g := g) hg (argsL := argsL) (rest := rest) (hlen _ hsigM) hstack hdg
  obtain ⟨v, B, X', hpost, hsteps⟩ := hK m meth c ⟨T.setVm vm₁, locs, cells, slots⟩ { g with stack := rest } (.invokestatic index) mk argsL.toArray X₁ hg hsize hdg hW (X₁.named hnamed) (hpre vm₁ X₁.warmed)
  exact ⟨v, vm₁, B, X₁.warmed, X', hpost, fun target h => hstep₁ _ fun acts => by rw [doInvoke_state]; exact hsteps.trans h⟩
theorem vx_runSW {y : MethodName} {bytes cc : ByteArray} {maxL nL mc ms n index : Nat} {ret : Option FieldType} {hh : List (Nat × Nat × Nat × Nat)} {ws : List Cond} {rm : Room} {Pc : Array Value → State → Prop} {Qc : Array Value → State → Outcome → State → Prop} {free : Addr → Prop} {Ts : List Cond} {own : String} {As rest : List Value} {g : JFrame}
    (S : CallFix p m c cc nL s args Ts own) (hM : Met l y ws rm Pc Qc mc ms free) (cw : vx_CSW R s args own index y bytes maxL ret hh ws rm mc ms n) (hp : PreS s H Pc As)
    (hg : g.method = m) (hn : As.length = n) (hsize : g.locals.size = nL) (hstack : g.stack = As.reverse ++ rest) (hW : 2 * g.monitorRoom + (rest.map fun v => v.category).sum ≤ 8) (hdg : decode cc g.pc = .ok (.invokestatic index, 3)) (hf : cells + mc ≤ R.cells ∧ slots + ms ≤ R.slots) :
    va_Run p l e R s m args below meth c H locs cells slots mc ms g rest (Qc As.toArray) (free) := by
  obtain ⟨⟨hrc, hrs, hfr, hlo, hws, hcw⟩, hcode, hini, hy, hlen, hl, hstt⟩ := cw
  have hK : Back l R p e below s args y 3 8 (PreOf R mc ms Pc) (PostOf Qc mc ms free) := va_backW (hh := hh) (bytes := bytes) (maxL := maxL) (ret := ret) hM hp.1 hrc hrs hfr hlo hws hcw (fun a' U hW => word_at hW (Or.inl (by first | rfl | simp [Cond.onTables, Cond.keeps, Cond.steady])) hini)
  obtain ⟨hx, hb, hml, ho, -⟩ := S
  intro T hT X
  obtain ⟨v, vm₁, ⟨U', l2, c2, s2⟩, hW₁, X', ⟨g', mk, t, L, e1, e2, hq, h1, hL, h2, h3⟩, st⟩ := vx_callSW X hx (hh := hh) (bytes := bytes) (maxL := maxL) (ret := ret) ho hl hstt hini hcode hy hK hg (hsize.trans hml.symm) (argsL := As) (rest := rest) (fun sig h => hn.trans (hlen sig h)) hstack hW (by rw [hb]; exact hdg)
    (fun vm₁ hW₁ => ⟨hf.1, hf.2, hp.2 (T.setVm vm₁) hT hW₁⟩)
  dsimp only [Pt.U, Pt.locs, Pt.cells, Pt.slots] at X' e1 e2 h1 h2 h3 st
  subst h1; subst h2; subst h3
  exact ⟨v, (T.setVm vm₁).calling g' mk As.toArray, t, U', L, hT, X', hL, e1, e2, hq, st⟩
/-- a thing of a world lies in the heap -/
theorem vx_lt {D : va_G} {cl : List vw_C} {ws : va_W} {H1 : Heap} (h : va_P D cl ws H1) {k : Nat} {q : Nat × va_E} (hk : ws[k]? = some q) : q.1 < H1.size := (h k q hk).lt
end VXS
/-! ===== END ===== -/
/-! ===== BEGIN methods with a table of their own: called by a name, returning or throwing ===== -/
section VXH
/-! vx_backW, vx_callVX, vx_callSX, vx_callVW, vx_runVW, vx_runVX, vx_runSX, vx_ofWH follow the same proofs as their sisters above (Free/Laws.lean, Shelf42/LK1.lean); vx_outP calls Shelf42/NT130.lean (outThrough). -/
section
variable {l : Launch} {R : Room} {p : Program} {e : Env} {below : List Frame} {s : State} {sargs : Array Value} {y : MethodName} {len W9 : Nat}
theorem vx_backW {ws : List Cond} {rm : Room} {Pc : Array Value → State → Prop} {Qc : Array Value → State → Outcome → State → Prop} {XC : String → State → State → Prop} {mc ms : Nat} {free : Addr → Prop} {bytes : ByteArray} {maxL : Nat} {ret : Option FieldType} {hh : List (Nat × Nat × Nat × Nat)}
    (hM : vx_Met l y ws rm Pc Qc XC mc ms free) (hblind : FrameBlind Pc) (hrc : rm.cells = mc) (hrs : rm.slots = ms)
    (hframes : rm.frames + 1 ≤ R.frames) (hlocals : W9 + (maxL + 11) + rm.locals ≤ R.locals)
    (hws : ∀ w ∈ ws, ∀ a' U, s.WarmedH U.vm → w.before a' U = true) (hcode : Cond.codeWith y bytes maxL ret hh ∈ ws) (hinit : ∀ a' U, s.WarmedH U.vm → (Cond.initialized y.cls).before a' U = true) :
    vx_Back l R p e below s sargs y len W9 (PreOf R mc ms Pc) (PostOf Qc mc ms free) (vx_Post XC mc ms free) := by
  intro m meth c A g ig mk a X hg hsize hdg hW hn hp
  have h1 : (headSpec ws rm).pre.before a A.U = true := atoms_intro fun w hw => hws w hw _ _ X.warmed
  have h2 : (Cond.codeWith y bytes maxL ret hh).before a A.U = true := hws _ hcode _ _ X.warmed
  have h3 : (Cond.initialized y.cls).before a A.U = true := hinit _ _ X.warmed
  have h4 : A.cells + (headSpec ws rm).room.cells ≤ R.cells := by rw [show (headSpec ws rm).room.cells = mc from hrc]; exact hp.1
  have h5 : A.slots + (headSpec ws rm).room.slots ≤ R.slots := by rw [show (headSpec ws rm).room.slots = ms from hrs]; exact hp.2.1
  have hPc : Pc a (A.U.calling g mk a) := hblind _ _ _ _ hp.2.2
  obtain ⟨U, Ls, c0, s0⟩ := A
  dsimp only [Pt.U, Pt.locs, Pt.cells, Pt.slots] at h1 h2 h3 h4 h5 X hn hPc ⊢
  obtain ⟨m9, methY, cY, hn9, hmY, hcY, -, hlY, -⟩ := Cond.codeWith_spec h2
  cases Option.some.inj (hn9.symm.trans hn)
  obtain ⟨kY, hkY, -⟩ := className_of_methodNamed hn
  have hinitY : kY.init = .initialized := Cond.initialized_spec (findClass_of_methodNamed hn) hkY h3
  have h : At U g.method c below := by rw [hg]; exact X.here
  have hlocals9 : W9 + (maxL + 11) + (headSpec ws rm).room.locals ≤ R.locals := hlocals
  have happ : (headSpec ws rm).appliesLoose y e.platform (U.calling g mk a) = true :=
    Spec.appliesLoose_calling (g := g) h hdg hn hkY hinitY
      (X.room_calling (g := g) (R' := (headSpec ws rm).room) hsize hmY hcY hframes (by rw [hlY]; omega) h4 h5) h1
  obtain ⟨mid, hmid⟩ := h.above
  have hfr : (U.setTop g).frames = (.java g :: mid) ++ below := by rw [State.frames_setTop' g h.top, hmid]; rfl
  obtain ⟨o, s₂, hsteps, -, hend, hq⟩ := Steps.callFree hM p X.admits X.cas X.clock (acts := []) hfr happ hPc trivial
  have hq' : vx_Q Qc XC mc ms free a (U.calling g mk a) o s₂ := hq
  rw [State.frames_setTop' g h.top] at hend
  obtain ⟨g₀, hg0⟩ := Option.isSome_iff_exists.mp h.top
  obtain ⟨r, hr⟩ := State.topJava?_eq_some.mp hg0
  have hr' : (({ U with heap := s₂.heap, slotsUsed := s₂.slotsUsed } : State).setVm s₂.vm).frames = .java g₀ :: r := hr
  rcases hq' with ⟨hqc, L, hfe, hL⟩ | ⟨q, rfl, E, ce, L, hx, hce, hcv, hcl, hW₂, hsm, hL⟩
  · obtain ⟨⟨v, rfl⟩, hW₂, e2, q2, q3, q4, q5, q6⟩ := id hfe
    have e3 : s₂ = ({ (U.calling g mk a).setFrames s₂.frames with heap := s₂.heap, slotsUsed := s₂.slotsUsed } : State).setVm s₂.vm := by
      have : s₂ = ({ s₂ with vm := (U.calling g mk a).vm } : State).setVm s₂.vm := rfl
      rw [e2] at this
      exact this
    obtain ⟨c₂, i₂, len₂, hc₂, hd₂, hf₂⟩ := hend
    have hW' : U.WarmedH s₂.vm := hW₂
    have hcc : c₂ = c := by
      have h1 : s₂.code? g.method = U.code? g.method := by
        rw [State.code?_eq, State.code?_eq, hW'.alike.method?]
      exact Option.some.inj (hc₂.symm.trans (h1.trans h.code))
    subst hcc
    have hlen : len₂ = len := by rw [hdg] at hd₂; cases hd₂; rfl
    subst hlen
    have hs₂ : s₂ = (({ U with heap := s₂.heap, slotsUsed := s₂.slotsUsed } : State).setVm s₂.vm).setTop { g with pc := g.pc + len₂, stack := v.toList ++ g.stack } := by
      refine e3.trans ?_
      rw [hf₂, State.calling_eq h.top, State.setFrames_setFrames, State.setTop_of_frames _ hr', hr]
      rfl
    have hsame : U.sameButNew ({ U with heap := s₂.heap, slotsUsed := s₂.slotsUsed } : State) L mc ms := by
      refine ⟨?_, q2, q3, q4, q5, q6⟩
      obtain ⟨t, ht, -⟩ := State.frames_cons hr
      show ({ U with heap := s₂.heap, slotsUsed := s₂.slotsUsed } : State) = { U.setFrames U.frames with heap := s₂.heap, slotsUsed := s₂.slotsUsed }
      rw [State.setFrames_self ht]
    subst hg
    refine Or.inl ⟨v, ⟨(({ U with heap := s₂.heap, slotsUsed := s₂.slotsUsed } : State).setVm s₂.vm), Ls ++ L, c0 + mc, s0 + ms⟩,
      ⟨X.admits, X.cas, X.clock, X.frames, X.room, X.hears, X.method, X.code, (X.here.setHeapUsed s₂.heap s₂.slotsUsed).setVm hW'.alike, X.tail, State.WarmedH.trans X.warmed hW', X.limits, X.bytes, X.same.trans (hsame.setVm s.vm)⟩,
      ⟨g, mk, s₂, L, rfl, rfl, hqc, rfl, hL, rfl, rfl⟩, ?_⟩
    show Steps p.tables e below _ ((({ U with heap := s₂.heap, slotsUsed := s₂.slotsUsed } : State).setVm s₂.vm).setTop { g with pc := g.pc + len₂, stack := v.toList ++ g.stack })
    rw [← hs₂]
    exact hsteps
  · obtain ⟨e2, q2, q3, q4, q5, q6⟩ := id hsm
    have e3 : s₂ = ({ (U.calling g mk a).setFrames s₂.frames with heap := s₂.heap, slotsUsed := s₂.slotsUsed } : State).setVm s₂.vm := by
      have : s₂ = ({ s₂ with vm := (U.calling g mk a).vm } : State).setVm s₂.vm := rfl
      rw [e2] at this
      exact this
    have hf₂ : s₂.frames = .throwing q :: .java g :: U.frames.tail := hend
    have hW' : U.WarmedH s₂.vm := hW₂
    have hs₂ : s₂ = ((({ U with heap := s₂.heap, slotsUsed := s₂.slotsUsed } : State).setVm s₂.vm).setTop g).pushFrame (.throwing q) := by
      refine e3.trans ?_
      rw [hf₂, State.calling_eq h.top, State.setFrames_setFrames, State.pushFrame, State.frames_setTop _ hr', State.setTop_of_frames _ hr', State.setFrames_setFrames, hr]
      rfl
    have hsame : U.sameButNew ({ U with heap := s₂.heap, slotsUsed := s₂.slotsUsed } : State) L mc ms := by
      refine ⟨?_, q2, q3, q4, q5, q6⟩
      obtain ⟨t, ht, -⟩ := State.frames_cons hr
      show ({ U with heap := s₂.heap, slotsUsed := s₂.slotsUsed } : State) = { U.setFrames U.frames with heap := s₂.heap, slotsUsed := s₂.slotsUsed }
      rw [State.setFrames_self ht]
    subst hg
    refine Or.inr ⟨q, ⟨(({ U with heap := s₂.heap, slotsUsed := s₂.slotsUsed } : State).setVm s₂.vm), Ls ++ L, c0 + mc, s0 + ms⟩,
      ⟨X.admits, X.cas, X.clock, X.frames, X.room, X.hears, X.method, X.code, (X.here.setHeapUsed s₂.heap s₂.slotsUsed).setVm hW'.alike, X.tail, State.WarmedH.trans X.warmed hW', X.limits, X.bytes, X.same.trans (hsame.setVm s.vm)⟩,
      ⟨g, mk, s₂, L, E, ce, rfl, rfl, hx, hce, hcv, hcl, rfl, hL, rfl, rfl⟩, ?_⟩
    show Steps p.tables e below _ (((({ U with heap := s₂.heap, slotsUsed := s₂.slotsUsed } : State).setVm s₂.vm).setTop g).pushFrame (.throwing q))
    rw [← hs₂]
    exact hsteps
end
variable {p : Program} {l : Launch} {e : Env} {R : Room} {s : State} {m : MethodId} {args : Array Value} {below : List Frame} {meth : Method} {c : Code} {T : State} {H : Heap} {locs : List Loc} {cells slots : Nat}
theorem vx_callVX (X : Stand p l e R s m args below meth c T locs cells slots) (hexec : p.tables.exec = Jvm.exec) {own C : String} {index : Nat} {y : MethodName} {bytes : ByteArray} {maxL : Nat} {ret : Option FieldType} {hh : List (Nat × Nat × Nat × Nat)}
    (hown : s.vm.findClass own = some m.cls) (hlink : (Cond.methodLink own index y).before args s = true) (hinst : (Cond.instanceMethod y).before args s = true) (hsel : (Cond.selects C y y).before args s = true)
    (hcode : (Cond.codeWith y bytes maxL ret hh).before args s = true) (hy : y.cls ≠ "java/lang/invoke/MethodHandle" ∧ y.cls ≠ "java/lang/invoke/VarHandle")
    {W9 : Nat} {Pre : Pt → Array Value → Prop} {Post : Pt → Array Value → Option Value → Pt → Prop} {PostX : Pt → Array Value → Addr → Pt → Prop} (hK : vx_Back l R p e below s args y 3 W9 Pre Post PostX)
    {b : Addr} {cellB : Cell} (hcell : T.heap[b]? = some cellB) (hobj : cellB.vm.isStatics = false) (hcls : s.vm.findClass C = some cellB.cls)
    {g : JFrame} (hg : g.method = m) (hsize : g.locals.size = c.maxLocals) {argsL rest : List Value} (hlen : ∀ sig, parseMethodDescriptor y.desc = some sig → argsL.length = sig.parameters.length)
    (hstack : g.stack = argsL.reverse ++ .ref b :: rest) (hW : 2 * g.monitorRoom + (rest.map fun v => v.category).sum ≤ W9) (hdg : decode c.code g.pc = .ok (.invokevirtual index, 3))
    (hpre : ∀ vm₁, s.WarmedH vm₁ → Pre ⟨T.setVm vm₁, locs, cells, slots⟩ (Value.ref b :: argsL).toArray) :
    (∃ (v : Option Value) (vm₁ : Vm) (B : Pt), s.WarmedH vm₁ ∧ Stand p l e R s m args below meth c B.U B.locs B.cells B.slots ∧ Post ⟨T.setVm vm₁, locs, cells, slots⟩ (Value.ref b :: argsL).toArray v B ∧
      ∀ target, Steps p.tables e below (B.U.setTop { g with pc := g.pc + 3, stack := v.toList ++ rest }) target → Steps p.tables e below (T.setTop g) target) ∨
    (∃ (q : Addr) (vm₁ : Vm) (B : Pt), s.WarmedH vm₁ ∧ Stand p l e R s m args below meth c B.U B.locs B.cells B.slots ∧ PostX ⟨T.setVm vm₁, locs, cells, slots⟩ (Value.ref b :: argsL).toArray q B ∧
      Steps p.tables e below (T.setTop g) ((B.U.setTop { g with stack := rest }).pushFrame (.throwing q))) := by
  obtain ⟨mk, methM, hnamed, hmethM, hstM, habM⟩ := Cond.instanceMethod_spec hinst
  obtain ⟨m8, methM', cM, hn8, hmethM', -, -, -, -, -, -, hsigM⟩ := Cond.codeWith_spec hcode
  cases Option.some.inj (hn8.symm.trans hnamed)
  cases hmethM.symm.trans hmethM'
  obtain ⟨c2, r2, m2, q1, q2, q3, q4, kP, hkP, hkPi⟩ := Cond.selects_spec hsel
  cases hcls.symm.trans q1
  cases (State.methodFound?_of_named hnamed hy).symm.trans q2
  cases hnamed.symm.trans q3
  have hselP : selectMethod e.platform s.vm cellB.cls mk = .method mk := by rw [Launch.admits_selectMethod X.admits]; exact q4
  obtain ⟨vm₁, X₁, hstep₁⟩ := X.invokevirtual hexec hown hlink hnamed hmethM hstM hkP hkPi hy (a := b) (cell := cellB) hcell
    (fun z h => by rw [h] at hobj; cases hobj) hselP hmethM habM hkP hkPi (g := g) hg (argsL := argsL) (rest := rest) (hlen _ hsigM) hstack hdg
  rcases hK m meth c ⟨T.setVm vm₁, locs, cells, slots⟩ { g with stack := rest } (.invokevirtual index) mk (Value.ref b :: argsL).toArray X₁ hg hsize hdg hW (X₁.named hnamed) (hpre vm₁ X₁.warmed) with ⟨v, B, X', hpost, hsteps⟩ | ⟨q, B, X', hpost, hsteps⟩
  · exact Or.inl ⟨v, vm₁, B, X₁.warmed, X', hpost, fun target h => hstep₁ _ fun acts => by rw [doInvoke_state]; exact hsteps.trans h⟩
  · exact Or.inr ⟨q, vm₁, B, X₁.warmed, X', hpost, hstep₁ _ fun acts => by rw [doInvoke_state]; exact hsteps⟩
theorem vx_callSX (X : Stand p l e R s m args below meth c T locs cells slots) (hexec : p.tables.exec = Jvm.exec) {own : String} {index : Nat} {y : MethodName} {bytes : ByteArray} {maxL : Nat} {ret : Option FieldType} {hh : List (Nat × Nat × Nat × Nat)}
    (hown : s.vm.findClass own = some m.cls) (hlink : (Cond.methodLink own index y).before args s = true) (hstat : (Cond.static y).before args s = true) (hinit : (Cond.initialized y.cls).before args s = true)
    (hcode : (Cond.codeWith y bytes maxL ret hh).before args s = true) (hy : y.cls ≠ "java/lang/invoke/MethodHandle" ∧ y.cls ≠ "java/lang/invoke/VarHandle")
    {W9 : Nat} {Pre : Pt → Array Value → Prop} {Post : Pt → Array Value → Option Value → Pt → Prop} {PostX : Pt → Array Value → Addr → Pt → Prop} (hK : vx_Back l R p e below s args y 3 W9 Pre Post PostX)
    {g : JFrame} (hg : g.method = m) (hsize : g.locals.size = c.maxLocals) {argsL rest : List Value} (hlen : ∀ sig, parseMethodDescriptor y.desc = some sig → argsL.length = sig.parameters.length)
    (hstack : g.stack = argsL.reverse ++ rest) (hW : 2 * g.monitorRoom + (rest.map fun v => v.category).sum ≤ W9) (hdg : decode c.code g.pc = .ok (.invokestatic index, 3))
    (hpre : ∀ vm₁, s.WarmedH vm₁ → Pre ⟨T.setVm vm₁, locs, cells, slots⟩ argsL.toArray) :
    (∃ (v : Option Value) (vm₁ : Vm) (B : Pt), s.WarmedH vm₁ ∧ Stand p l e R s m args below meth c B.U B.locs B.cells B.slots ∧ Post ⟨T.setVm vm₁, locs, cells, slots⟩ argsL.toArray v B ∧
      ∀ target, Steps p.tables e below (B.U.setTop { g with pc := g.pc + 3, stack := v.toList ++ rest }) target → Steps p.tables e below (T.setTop g) target) ∨
    (∃ (q : Addr) (vm₁ : Vm) (B : Pt), s.WarmedH vm₁ ∧ Stand p l e R s m args below meth c B.U B.locs B.cells B.slots ∧ PostX ⟨T.setVm vm₁, locs, cells, slots⟩ argsL.toArray q B ∧
      Steps p.tables e below (T.setTop g) ((B.U.setTop { g with stack := rest }).pushFrame (.throwing q))) := by
  obtain ⟨mk, methM, cM, hnamed, hmethM, -, -, -, -, -, -, hsigM⟩ := Cond.codeWith_spec hcode
  have hstatic : methM.isStatic = true := Cond.static_spec hnamed hmethM hstat
  obtain ⟨kP, hkP, -⟩ := className_of_methodNamed hnamed
  have hinitP : kP.init = .initialized := Cond.initialized_spec (findClass_of_methodNamed hnamed) hkP hinit
  obtain ⟨vm₁, X₁, hstep₁⟩ := X.invokestatic hexec hown hlink hnamed hmethM hstatic hkP hinitP hy (g := g) hg (argsL := argsL) (rest := rest) (hlen _ hsigM) hstack hdg
  rcases hK m meth c ⟨T.setVm vm₁, locs, cells, slots⟩ { g with stack := rest } (.invokestatic index) mk argsL.toArray X₁ hg hsize hdg hW (X₁.named hnamed) (hpre vm₁ X₁.warmed) with ⟨v, B, X', hpost, hsteps⟩ | ⟨q, B, X', hpost, hsteps⟩
  · exact Or.inl ⟨v, vm₁, B, X₁.warmed, X', hpost, fun target h => hstep₁ _ fun acts => by rw [doInvoke_state]; exact hsteps.trans h⟩
  · exact Or.inr ⟨q, vm₁, B, X₁.warmed, X', hpost, hstep₁ _ fun acts => by rw [doInvoke_state]; exact hsteps⟩
theorem vx_callVW (X : Stand p l e R s m args below meth c T locs cells slots) (hexec : p.tables.exec = Jvm.exec) {own C : String} {index : Nat} {y : MethodName} {bytes : ByteArray} {maxL : Nat} {ret : Option FieldType} {hh : List (Nat × Nat × Nat × Nat)}
    (hown : s.vm.findClass own = some m.cls) (hlink : (Cond.methodLink own index y).before args s = true) (hinst : (Cond.instanceMethod y).before args s = true) (hsel : (Cond.selects C y y).before args s = true)
    (hcode : (Cond.codeWith y bytes maxL ret hh).before args s = true) (hy : y.cls ≠ "java/lang/invoke/MethodHandle" ∧ y.cls ≠ "java/lang/invoke/VarHandle")
    {W9 : Nat} {Pre : Pt → Array Value → Prop} {Post : Pt → Array Value → Option Value → Pt → Prop} (hK : Back l R p e below s args y 3 W9 Pre Post)
    {b : Addr} {cellB : Cell} (hcell : T.heap[b]? = some cellB) (hobj : cellB.vm.isStatics = false) (hcls : s.vm.findClass C = some cellB.cls)
    {g : JFrame} (hg : g.method = m) (hsize : g.locals.size = c.maxLocals) {argsL rest : List Value} (hlen : ∀ sig, parseMethodDescriptor y.desc = some sig → argsL.length = sig.parameters.length)
    (hstack : g.stack = argsL.reverse ++ .ref b :: rest) (hW : 2 * g.monitorRoom + (rest.map fun v => v.category).sum ≤ W9) (hdg : decode c.code g.pc = .ok (.invokevirtual index, 3))
    (hpre : ∀ vm₁, s.WarmedH vm₁ → Pre ⟨T.setVm vm₁, locs, cells, slots⟩ (Value.ref b :: argsL).toArray) :
    ∃ (v : Option Value) (vm₁ : Vm) (B : Pt), s.WarmedH vm₁ ∧ Stand p l e R s m args below meth c B.U B.locs B.cells B.slots ∧ Post ⟨T.setVm vm₁, locs, cells, slots⟩ (Value.ref b :: argsL).toArray v B ∧
      ∀ target, Steps p.tables e below (B.U.setTop { g with pc := g.pc + 3, stack := v.toList ++ rest }) target → Steps p.tables e below (T.setTop g) target := by
  obtain ⟨mk, methM, hnamed, hmethM, hstM, habM⟩ := Cond.instanceMethod_spec hinst
  obtain ⟨m8, methM', cM, hn8, hmethM', -, -, -, -, -, -, hsigM⟩ := Cond.codeWith_spec hcode
  cases Option.some.inj (hn8.symm.trans hnamed)
  cases hmethM.symm.trans hmethM'
  obtain ⟨c2, r2, m2, q1, q2, q3, q4, kP, hkP, hkPi⟩ := Cond.selects_spec hsel
  cases hcls.symm.trans q1
  cases (State.methodFound?_of_named hnamed hy).symm.trans q2
  cases hnamed.symm.trans q3
  have hselP : selectMethod e.platform s.vm cellB.cls mk = .method mk := by rw [Launch.admits_selectMethod X.admits]; exact q4
  obtain ⟨vm₁, X₁, hstep₁⟩ := X.invokevirtual hexec hown hlink hnamed hmethM hstM hkP hkPi hy (a := b) (cell := cellB) hcell
    (fun z h => by rw [h] at hobj; cases hobj) hselP hmethM habM hkP hkPi (g := g) hg (argsL := argsL) (rest := rest) (hlen _ hsigM) hstack hdg
  obtain ⟨v, B, X', hpost, hsteps⟩ := hK m meth c ⟨T.setVm vm₁, locs, cells, slots⟩ { g with stack := rest } (.invokevirtual index) mk (Value.ref b :: argsL).toArray X₁ hg hsize hdg hW (X₁.named hnamed) (hpre vm₁ X₁.warmed)
  exact ⟨v, vm₁, B, X₁.warmed, X', hpost, fun target h => hstep₁ _ fun acts => by rw [doInvoke_state]; exact hsteps.trans h⟩
abbrev vx_CVW (R : Room) (s : State) (args : Array Value) (own C : String) (index : Nat) (y : MethodName) (bytes : ByteArray) (maxL : Nat) (ret : Option FieldType) (hh : List (Nat × Nat × Nat × Nat)) (ws : List Cond) (rm : Room) (mc ms n : Nat) : Prop :=
  (rm.cells = mc ∧ rm.slots = ms ∧ rm.frames + 1 ≤ R.frames ∧ 8 + (maxL + 11) + rm.locals ≤ R.locals ∧ (∀ w ∈ ws, ∀ (a' : Array Value) (U : State), s.WarmedH U.vm → w.before a' U = true) ∧ Cond.codeWith y bytes maxL ret hh ∈ ws) ∧
  (Cond.codeWith y bytes maxL ret hh).before args s = true ∧ (Cond.initialized y.cls).before args s = true ∧ (y.cls ≠ "java/lang/invoke/MethodHandle" ∧ y.cls ≠ "java/lang/invoke/VarHandle") ∧
  (∀ sig, parseMethodDescriptor y.desc = some sig → n = sig.parameters.length) ∧ (Cond.methodLink own index y).before args s = true ∧ (Cond.instanceMethod y).before args s = true ∧ (Cond.selects C y y).before args s = true
theorem vx_cwVW {own C : String} {index maxL mc ms : Nat} {y : MethodName} {bytes : ByteArray} {ret : Option FieldType} {hh : List (Nat × Nat × Nat × Nat)} {Ts ws ws' : List Cond} {rm : Room} (n : Nat) (ht : ∀ w ∈ Ts, w.before args s = true) (hT : GoodIn Ts (wsV own index C y ws)) (hw : ws = Cond.codeWith y bytes maxL ret hh :: ws') (hrc : rm.cells = mc) (hrs : rm.slots = ms)
    (hd : y.cls = C ∧ y.cls ≠ "java/lang/invoke/MethodHandle" ∧ y.cls ≠ "java/lang/invoke/VarHandle" ∧ (parseMethodDescriptor y.desc).map (fun d => d.parameters.length) = some n) (hR : rm.frames + 1 ≤ R.frames ∧ 8 + (maxL + 11) + rm.locals ≤ R.locals) :
    vx_CVW R s args own C index y bytes maxL ret hh ws rm mc ms n := by
  obtain ⟨hC, hd⟩ := hd
  subst hC
  have ok : ∀ w ∈ wsV own index y.cls y ws, w.before args s = true := fun w h => ht w (hT w h).1
  have hG : GoodIn Ts ws := fun w h => hT w (by unfold wsV; exact List.mem_append_right _ h)
  have hc : Cond.codeWith y bytes maxL ret hh ∈ ws := by rw [hw]; exact List.mem_cons_self
  refine ⟨⟨hrc, hrs, hR.1, hR.2, pay_in ht hG, hc⟩, ht _ (hG _ hc).1, ok _ (by simp [wsV]), ⟨hd.1, hd.2.1⟩, fun sig h => ?_, ok _ (by simp [wsV]), ok _ (by simp [wsV]), ok _ (by simp [wsV])⟩
  have h2 := hd.2.2
  rw [h] at h2
  exact (Option.some.inj h2).symm
theorem vx_runVW {y : MethodName} {bytes cc : ByteArray} {maxL nL mc ms n index : Nat} {ret : Option FieldType} {hh : List (Nat × Nat × Nat × Nat)} {ws : List Cond} {rm : Room} {Pc : Array Value → State → Prop} {Qc : Array Value → State → Outcome → State → Prop} {free : Addr → Prop} {Ts : List Cond} {own C : String} {b : Addr} {As rest : List Value} {g : JFrame}
    (S : CallFix p m c cc nL s args Ts own) (hM : Met l y ws rm Pc Qc mc ms free) (cw : vx_CVW R s args own C index y bytes maxL ret hh ws rm mc ms n) (hp : PreV s H C b Pc As)
    (hg : g.method = m) (hn : As.length = n) (hsize : g.locals.size = nL) (hstack : g.stack = As.reverse ++ .ref b :: rest) (hW : 2 * g.monitorRoom + (rest.map fun v => v.category).sum ≤ 8) (hdg : decode cc g.pc = .ok (.invokevirtual index, 3)) (hf : cells + mc ≤ R.cells ∧ slots + ms ≤ R.slots) :
    va_Run p l e R s m args below meth c H locs cells slots mc ms g rest (Qc (Value.ref b :: As).toArray) free := by
  obtain ⟨⟨hrc, hrs, hfr, hlo, hws, hcw⟩, hcode, hini, hy, hlen, hl, hin, hse⟩ := cw
  have hK : Back l R p e below s args y 3 8 (PreOf R mc ms Pc) (PostOf Qc mc ms free) := va_backW (hh := hh) (bytes := bytes) (maxL := maxL) (ret := ret) hM hp.1 hrc hrs hfr hlo hws hcw (fun a' U hW => word_at hW (Or.inl (by first | rfl | simp [Cond.onTables, Cond.keeps, Cond.steady])) hini)
  obtain ⟨hx, hb, hml, ho, -⟩ := S
  obtain ⟨-, ⟨cellB, hcB, hoB, hclB⟩, hPc⟩ := hp
  intro T hT X
  obtain ⟨v, vm₁, ⟨U', l2, c2, s2⟩, hW₁, X', ⟨g', mk, t, L, e1, e2, hq, h1, hL, h2, h3⟩, st⟩ := vx_callVW X hx (C := C) (hh := hh) (bytes := bytes) (maxL := maxL) (ret := ret) ho hl hin hse hcode hy hK (by rw [hT]; exact hcB) hoB hclB hg (hsize.trans hml.symm) (argsL := As) (rest := rest) (fun sig h => hn.trans (hlen sig h)) hstack hW (by rw [hb]; exact hdg)
    (fun vm₁ hW₁ => ⟨hf.1, hf.2, hPc (T.setVm vm₁) hT hW₁⟩)
  dsimp only [Pt.U, Pt.locs, Pt.cells, Pt.slots] at X' e1 e2 h1 h2 h3 st
  subst h1; subst h2; subst h3
  exact ⟨v, (T.setVm vm₁).calling g' mk (Value.ref b :: As).toArray, t, U', L, hT, X', hL, e1, e2, hq, st⟩
section
variable {y : MethodName} {bytes cc : ByteArray} {maxL nL mc ms n index : Nat} {ret : Option FieldType} {ws : List Cond} {rm : Room} {Pc : Array Value → State → Prop} {Qc : Array Value → State → Outcome → State → Prop} {XC : String → State → State → Prop} {free : Addr → Prop} {Ts : List Cond} {own C : String} {b : Addr} {As rest : List Value} {g : JFrame}
theorem vx_runVX {hh : List (Nat × Nat × Nat × Nat)} (S : CallFix p m c cc nL s args Ts own) (hM : vx_Met l y ws rm Pc Qc XC mc ms free) (cw : vx_CVW R s args own C index y bytes maxL ret hh ws rm mc ms n) (hp : PreV s H C b Pc As)
    (hg : g.method = m) (hn : As.length = n) (hsize : g.locals.size = nL) (hstack : g.stack = As.reverse ++ .ref b :: rest) (hW : 2 * g.monitorRoom + (rest.map fun v => v.category).sum ≤ 8) (hdg : decode cc g.pc = .ok (.invokevirtual index, 3)) (hf : cells + mc ≤ R.cells ∧ slots + ms ≤ R.slots) :
    vx_Run p l e R s m args below meth c H locs cells slots mc ms g rest (Qc (Value.ref b :: As).toArray) XC free := by
  obtain ⟨⟨hrc, hrs, hfr, hlo, hws, hcw⟩, hcode, hini, hy, hlen, hl, hin, hse⟩ := cw
  have hK : vx_Back l R p e below s args y 3 8 (PreOf R mc ms Pc) (PostOf Qc mc ms free) (vx_Post XC mc ms free) := vx_backW (hh := hh) (bytes := bytes) (maxL := maxL) (ret := ret) hM hp.1 hrc hrs hfr hlo hws hcw (fun a' U hW => word_at hW (Or.inl (by first | rfl | simp [Cond.onTables, Cond.keeps, Cond.steady])) hini)
  obtain ⟨hx, hb, hml, ho, -⟩ := S
  obtain ⟨-, ⟨cellB, hcB, hoB, hclB⟩, hPc⟩ := hp
  intro T hT X
  rcases vx_callVX X hx (C := C) (hh := hh) (bytes := bytes) (maxL := maxL) (ret := ret) ho hl hin hse hcode hy hK (by rw [hT]; exact hcB) hoB hclB hg (hsize.trans hml.symm) (argsL := As) (rest := rest) (fun sig h => hn.trans (hlen sig h)) hstack hW (by rw [hb]; exact hdg)
    (fun vm₁ hW₁ => ⟨hf.1, hf.2, hPc (T.setVm vm₁) hT hW₁⟩) with ⟨v, vm₁, ⟨U', l2, c2, s2⟩, hW₁, X', ⟨g', mk, t, L, e1, e2, hq, h1, hL, h2, h3⟩, st⟩ | ⟨q, vm₁, ⟨U', l2, c2, s2⟩, hW₁, X', ⟨g', mk, t, L, E, ce, e1, e2, hq, hce, hcv, hcl, h1, hL, h2, h3⟩, st⟩
  · dsimp only [Pt.U, Pt.locs, Pt.cells, Pt.slots] at X' e1 e2 h1 h2 h3 st
    subst h1; subst h2; subst h3
    exact Or.inl ⟨v, (T.setVm vm₁).calling g' mk (Value.ref b :: As).toArray, t, U', L, hT, X', hL, e1, e2, hq, st⟩
  · dsimp only [Pt.U, Pt.locs, Pt.cells, Pt.slots] at X' e1 e2 h1 h2 h3 st hcl
    subst h1; subst h2; subst h3
    exact Or.inr ⟨q, (T.setVm vm₁).calling g' mk (Value.ref b :: As).toArray, t, U', L, E, ce, hT, X', hL, e1, e2, hq, hce, hcv, vx_cls hW₁ hcl, st⟩
theorem vx_runSX {hh : List (Nat × Nat × Nat × Nat)} (S : CallFix p m c cc nL s args Ts own) (hM : vx_Met l y ws rm Pc Qc XC mc ms free) (cw : vx_CSW R s args own index y bytes maxL ret hh ws rm mc ms n) (hp : PreS s H Pc As)
    (hg : g.method = m) (hn : As.length = n) (hsize : g.locals.size = nL) (hstack : g.stack = As.reverse ++ rest) (hW : 2 * g.monitorRoom + (rest.map fun v => v.category).sum ≤ 8) (hdg : decode cc g.pc = .ok (.invokestatic index, 3)) (hf : cells + mc ≤ R.cells ∧ slots + ms ≤ R.slots) :
    vx_Run p l e R s m args below meth c H locs cells slots mc ms g rest (Qc As.toArray) XC free := by
  obtain ⟨⟨hrc, hrs, hfr, hlo, hws, hcw⟩, hcode, hini, hy, hlen, hl, hstt⟩ := cw
  have hK : vx_Back l R p e below s args y 3 8 (PreOf R mc ms Pc) (PostOf Qc mc ms free) (vx_Post XC mc ms free) := vx_backW (hh := hh) (bytes := bytes) (maxL := maxL) (ret := ret) hM hp.1 hrc hrs hfr hlo hws hcw (fun a' U hW => word_at hW (Or.inl (by first | rfl | simp [Cond.onTables, Cond.keeps, Cond.steady])) hini)
  obtain ⟨hx, hb, hml, ho, -⟩ := S
  intro T hT X
  rcases vx_callSX X hx (hh := hh) (bytes := bytes) (maxL := maxL) (ret := ret) ho hl hstt hini hcode hy hK hg (hsize.trans hml.symm) (argsL := As) (rest := rest) (fun sig h => hn.trans (hlen sig h)) hstack hW (by rw [hb]; exact hdg)
    (fun vm₁ hW₁ => ⟨hf.1, hf.2, hp.2 (T.setVm vm₁) hT hW₁⟩) with ⟨v, vm₁, ⟨U', l2, c2, s2⟩, hW₁, X', ⟨g', mk, t, L, e1, e2, hq, h1, hL, h2, h3⟩, st⟩ | ⟨q, vm₁, ⟨U', l2, c2, s2⟩, hW₁, X', ⟨g', mk, t, L, E, ce, e1, e2, hq, hce, hcv, hcl, h1, hL, h2, h3⟩, st⟩
  · dsimp only [Pt.U, Pt.locs, Pt.cells, Pt.slots] at X' e1 e2 h1 h2 h3 st
    subst h1; subst h2; subst h3
    exact Or.inl ⟨v, (T.setVm vm₁).calling g' mk As.toArray, t, U', L, hT, X', hL, e1, e2, hq, st⟩
  · dsimp only [Pt.U, Pt.locs, Pt.cells, Pt.slots] at X' e1 e2 h1 h2 h3 st hcl
    subst h1; subst h2; subst h3
    exact Or.inr ⟨q, (T.setVm vm₁).calling g' mk As.toArray, t, U', L, E, ce, hT, X', hL, e1, e2, hq, hce, hcv, vx_cls hW₁ hcl, st⟩
end
end VXH
theorem vx_ofWH {l : Launch} {y : MethodName} {ws ws' : List Cond} {rm : Room} {Pc : Array Value → State → Prop} {Qc : Array Value → State → Outcome → State → Prop} {XC : String → State → State → Prop} {mc ms : Nat} {free : Addr → Prop} {cc : ByteArray} {maxL : Nat} {ret : Option FieldType} {hh : List (Nat × Nat × Nat × Nat)}
    (hy : plainName y.cls = true) (hw : ws = Cond.codeWith y cc maxL ret hh :: ws')
    (body : ∀ p e s m args below meth c s₁, BodyLoose p l y (headSpec ws rm) cc maxL ret e s m args below meth c s₁ → c.maxLocals = maxL → Pc args s →
      W p l e (headSpec ws rm).room s m args below meth c s.heap [] 0 0 (vx_MQ below Qc XC args s mc ms free) (entryFrame m args maxL)) : vx_Met l y ws rm Pc Qc XC mc ms free := by
  refine MetFree.of_bodyS (code := cc) (maxLocals := maxL) (ret := ret) hy ?_ ?_
  · intro args s m h hn
    obtain ⟨m9, meth, c, hn9, h1, h2, h3, h4, -, h5, h6, -⟩ := Cond.codeWith_spec (atoms_spec (ws := ws) h _ (by rw [hw]; exact List.mem_cons_self))
    cases hn.symm.trans hn9
    exact ⟨meth, c, h1, h2, h3, h4, h5, h6⟩
  · intro p e s m args below meth c s₁ B hml hP _
    have hh0 : s₁.heap = s.heap := by rw [B.state]; rfl
    obtain ⟨t, a1, o, b1, b2, b3⟩ := body p e s m args below meth c s₁ B hml hP s₁ hh0 (Stand.of_body B)
    exact ⟨t, o, a1, b1, b2, b3⟩
/-! ===== END ===== -/
end
section
def RX0 : String := "BudgetKernel$BaseTask"
def TX0 : u_T := fun k => match k with
  | 0 => ("BudgetKernel$BaseTask", "told", "Z", false)
  | 1 => ("BudgetKernel$BaseTask", "period", "I", false)
  | 2 => ("BudgetKernel$BaseTask", "cost", "I", false)
  | 3 => ("BudgetKernel$BaseTask", "priority", "I", false)
  | 4 => ("BudgetKernel$BaseTask", "begin", "I", false)
  | 5 => ("BudgetKernel$BaseTask", "left", "I", false)
  | 6 => ("BudgetKernel$BaseTask", "missed", "I", false)
  | _ => ("BudgetKernel$BaseTask", "done", "I", false)
def tyX0 : Nat → FieldType := fun k => match k with
  | 0 => .boolean
  | 1 => .int
  | 2 => .int
  | 3 => .int
  | 4 => .int
  | 5 => .int
  | 6 => .int
  | _ => .int
abbrev wsX00 : List Cond := u_ws RX0 TX0 8
theorem nmX0 : ∀ a, a < 8 → ∀ b, b < 8 → a ≠ b → (TX0 a).2.1 ≠ (TX0 b).2.1 := by decide +kernel
theorem tyX0_ok : ∀ k, k < 8 → parseFieldDescriptor (TX0 k).2.2.1 = some (tyX0 k) := by decide +kernel
abbrev cX0_init : ByteArray := prog_2_method_1_code
def yX0_init : MethodName := ⟨RX0, "<init>", "()V"⟩
abbrev cX0_tell : ByteArray := prog_2_method_2_code
def yX0_tell : MethodName := ⟨RX0, "tell", "(IIII)V"⟩
abbrev cX0_beginIfDue : ByteArray := prog_2_method_3_code
def yX0_beginIfDue : MethodName := ⟨RX0, "beginIfDue", "(I)V"⟩
abbrev cX0_work : ByteArray := prog_2_method_4_code
def yX0_work : MethodName := ⟨RX0, "work", "()V"⟩
def RX1 : String := "BudgetKernel$Pieces"
def TX1 : u_T := fun k => match k with
  | 0 => ("BudgetKernel$Pieces", "times", "[I", true)
  | 1 => ("BudgetKernel$Pieces", "amounts", "[I", true)
  | _ => ("BudgetKernel$Pieces", "size", "I", false)
def tyX1 : Nat → FieldType := fun k => match k with
  | 0 => .array .int
  | 1 => .array .int
  | _ => .int
abbrev wsX10 : List Cond := u_ws RX1 TX1 3
theorem nmX1 : ∀ a, a < 3 → ∀ b, b < 3 → a ≠ b → (TX1 a).2.1 ≠ (TX1 b).2.1 := by decide +kernel
theorem tyX1_ok : ∀ k, k < 3 → parseFieldDescriptor (TX1 k).2.2.1 = some (tyX1 k) := by decide +kernel
abbrev cX1_init : ByteArray := prog_3_method_1_code
def yX1_init : MethodName := ⟨RX1, "<init>", "()V"⟩
abbrev cX1_add : ByteArray := prog_3_method_2_code
def yX1_add : MethodName := ⟨RX1, "add", "(I)V"⟩
abbrev cX1_removeUpTo : ByteArray := prog_3_method_3_code
def yX1_removeUpTo : MethodName := ⟨RX1, "removeUpTo", "(I)I"⟩
abbrev cX1_nextTime : ByteArray := prog_3_method_4_code
def yX1_nextTime : MethodName := ⟨RX1, "nextTime", "()I"⟩
abbrev cX1_nextAmount : ByteArray := prog_3_method_5_code
def yX1_nextAmount : MethodName := ⟨RX1, "nextAmount", "()I"⟩
abbrev cX1_next : ByteArray := prog_3_method_6_code
def yX1_next : MethodName := ⟨RX1, "next", "()I"⟩
def RX2 : String := "BudgetKernel$Row"
def TX2 : u_T := fun k => match k with
  | 0 => ("BudgetKernel$Row", "items", "[I", true)
  | 1 => ("BudgetKernel$Row", "head", "I", false)
  | _ => ("BudgetKernel$Row", "size", "I", false)
def tyX2 : Nat → FieldType := fun k => match k with
  | 0 => .array .int
  | 1 => .int
  | _ => .int
abbrev wsX20 : List Cond := u_ws RX2 TX2 3
theorem nmX2 : ∀ a, a < 3 → ∀ b, b < 3 → a ≠ b → (TX2 a).2.1 ≠ (TX2 b).2.1 := by decide +kernel
theorem tyX2_ok : ∀ k, k < 3 → parseFieldDescriptor (TX2 k).2.2.1 = some (tyX2 k) := by decide +kernel
abbrev cX2_init : ByteArray := prog_4_method_1_code
def yX2_init : MethodName := ⟨RX2, "<init>", "(I)V"⟩
abbrev cX2_add : ByteArray := prog_4_method_2_code
def yX2_add : MethodName := ⟨RX2, "add", "(I)V"⟩
abbrev cX2_first : ByteArray := prog_4_method_3_code
def yX2_first : MethodName := ⟨RX2, "first", "()I"⟩
abbrev cX2_removeFirst : ByteArray := prog_4_method_4_code
def yX2_removeFirst : MethodName := ⟨RX2, "removeFirst", "()V"⟩
def RX3 : String := "BudgetKernel$Source"
def TX3 : u_T := fun k => match k with
  | 0 => ("BudgetKernel$Source", "queue", "LBudgetKernel$Row;", true)
  | 1 => ("BudgetKernel$Source", "leftSince", "LBudgetKernel$Row;", true)
  | 2 => ("BudgetKernel$Source", "pieces", "LBudgetKernel$Pieces;", true)
  | 3 => ("BudgetKernel$Source", "told", "Z", false)
  | 4 => ("BudgetKernel$Source", "top", "I", false)
  | 5 => ("BudgetKernel$Source", "cost", "I", false)
  | 6 => ("BudgetKernel$Source", "distance", "I", false)
  | 7 => ("BudgetKernel$Source", "budget", "I", false)
  | 8 => ("BudgetKernel$Source", "period", "I", false)
  | 9 => ("BudgetKernel$Source", "priority", "I", false)
  | 10 => ("BudgetKernel$Source", "masked", "Z", false)
  | 11 => ("BudgetKernel$Source", "taken", "I", false)
  | 12 => ("BudgetKernel$Source", "handled", "I", false)
  | 13 => ("BudgetKernel$Source", "lost", "I", false)
  | 14 => ("BudgetKernel$Source", "timesMasked", "I", false)
  | 15 => ("BudgetKernel$Source", "greatestDelay", "I", false)
  | 16 => ("BudgetKernel$Source", "firstDone", "I", false)
  | _ => ("BudgetKernel$Source", "busySince", "I", false)
def tyX3 : Nat → FieldType := fun k => match k with
  | 0 => .object "BudgetKernel$Row"
  | 1 => .object "BudgetKernel$Row"
  | 2 => .object "BudgetKernel$Pieces"
  | 3 => .boolean
  | 4 => .int
  | 5 => .int
  | 6 => .int
  | 7 => .int
  | 8 => .int
  | 9 => .int
  | 10 => .boolean
  | 11 => .int
  | 12 => .int
  | 13 => .int
  | 14 => .int
  | 15 => .int
  | 16 => .int
  | _ => .int
abbrev wsX30 : List Cond := u_ws RX3 TX3 18
theorem nmX3 : ∀ a, a < 18 → ∀ b, b < 18 → a ≠ b → (TX3 a).2.1 ≠ (TX3 b).2.1 := by decide +kernel
theorem tyX3_ok : ∀ k, k < 18 → parseFieldDescriptor (TX3 k).2.2.1 = some (tyX3 k) := by decide +kernel
abbrev cX3_init : ByteArray := prog_5_method_1_code
def yX3_init : MethodName := ⟨RX3, "<init>", "()V"⟩
abbrev cX3_tell : ByteArray := prog_5_method_2_code
def yX3_tell : MethodName := ⟨RX3, "tell", "(IIIIII)V"⟩
abbrev cX3_fillBudget : ByteArray := prog_5_method_3_code
def yX3_fillBudget : MethodName := ⟨RX3, "fillBudget", "()V"⟩
abbrev cX3_take : ByteArray := prog_5_method_4_code
def yX3_take : MethodName := ⟨RX3, "take", "(I)Z"⟩
abbrev cX3_ready : ByteArray := prog_5_method_5_code
def yX3_ready : MethodName := ⟨RX3, "ready", "()Z"⟩
abbrev cX3_runHandler : ByteArray := prog_5_method_6_code
def yX3_runHandler : MethodName := ⟨RX3, "runHandler", "(I)V"⟩
abbrev cX3_spendUnit : ByteArray := prog_5_method_7_code
def yX3_spendUnit : MethodName := ⟨RX3, "spendUnit", "(I)V"⟩
abbrev cX3_finishFirst : ByteArray := prog_5_method_8_code
def yX3_finishFirst : MethodName := ⟨RX3, "finishFirst", "(I)V"⟩
abbrev cX3_giveBack : ByteArray := prog_5_method_9_code
def yX3_giveBack : MethodName := ⟨RX3, "giveBack", "(I)V"⟩
def RX4 : String := "BudgetKernel"
def TX4 : u_T := fun k => match k with
  | 0 => ("BudgetKernel", "sources", "[LBudgetKernel$Source;", true)
  | 1 => ("BudgetKernel", "tasks", "[LBudgetKernel$BaseTask;", true)
  | 2 => ("BudgetKernel", "openTops", "LBudgetKernel$Row;", true)
  | 3 => ("BudgetKernel", "ran", "[B", true)
  | 4 => ("BudgetKernel", "firstTopDone", "I", false)
  | _ => ("BudgetKernel", "now", "I", false)
def tyX4 : Nat → FieldType := fun k => match k with
  | 0 => .array (.object "BudgetKernel$Source")
  | 1 => .array (.object "BudgetKernel$BaseTask")
  | 2 => .object "BudgetKernel$Row"
  | 3 => .array .byte
  | 4 => .int
  | _ => .int
abbrev wsX40 : List Cond := u_ws RX4 TX4 6
theorem nmX4 : ∀ a, a < 6 → ∀ b, b < 6 → a ≠ b → (TX4 a).2.1 ≠ (TX4 b).2.1 := by decide +kernel
theorem tyX4_ok : ∀ k, k < 6 → parseFieldDescriptor (TX4 k).2.2.1 = some (tyX4 k) := by decide +kernel
abbrev cX4_init : ByteArray := prog_1_method_1_code
def yX4_init : MethodName := ⟨RX4, "<init>", "()V"⟩
abbrev cX4_source : ByteArray := prog_1_method_2_code
def yX4_source : MethodName := ⟨RX4, "source", "(IIIIIII)V"⟩
abbrev cX4_base : ByteArray := prog_1_method_3_code
def yX4_base : MethodName := ⟨RX4, "base", "(IIII)Z"⟩
abbrev cX4_event : ByteArray := prog_1_method_4_code
def yX4_event : MethodName := ⟨RX4, "event", "(I)I"⟩
abbrev cX4_tick : ByteArray := prog_1_method_5_code
def yX4_tick : MethodName := ⟨RX4, "tick", "()I"⟩
abbrev cX4_ticks : ByteArray := prog_1_method_6_code
def yX4_ticks : MethodName := ⟨RX4, "ticks", "(I)I"⟩
abbrev cX4_about : ByteArray := prog_1_method_7_code
def yX4_about : MethodName := ⟨RX4, "about", "(II)I"⟩
abbrev cX4_task : ByteArray := prog_1_method_8_code
def yX4_task : MethodName := ⟨RX4, "task", "(II)I"⟩
abbrev cX4_bound : ByteArray := prog_1_method_9_code
def yX4_bound : MethodName := ⟨RX4, "bound", "(I)I"⟩
abbrev cX4_used : ByteArray := prog_1_method_10_code
def yX4_used : MethodName := ⟨RX4, "used", "(IZII)I"⟩
abbrev cX4_floor : ByteArray := prog_1_method_11_code
def yX4_floor : MethodName := ⟨RX4, "floor", "(I)I"⟩
abbrev cX4_time : ByteArray := prog_1_method_12_code
def yX4_time : MethodName := ⟨RX4, "time", "()I"⟩
abbrev cX4_within : ByteArray := prog_1_method_13_code
def yX4_within : MethodName := ⟨RX4, "within", "(III)Z"⟩
abbrev cX4_toldSource : ByteArray := prog_1_method_14_code
def yX4_toldSource : MethodName := ⟨RX4, "toldSource", "(I)LBudgetKernel$Source;"⟩
abbrev cX4_sourceHasPriority : ByteArray := prog_1_method_15_code
def yX4_sourceHasPriority : MethodName := ⟨RX4, "sourceHasPriority", "(I)Z"⟩
abbrev cX4_taskHasPriority : ByteArray := prog_1_method_16_code
def yX4_taskHasPriority : MethodName := ⟨RX4, "taskHasPriority", "(I)Z"⟩
abbrev cX4_beginPeriods : ByteArray := prog_1_method_17_code
def yX4_beginPeriods : MethodName := ⟨RX4, "beginPeriods", "()V"⟩
abbrev cX4_giveBack : ByteArray := prog_1_method_18_code
def yX4_giveBack : MethodName := ⟨RX4, "giveBack", "()V"⟩
abbrev cX4_runOne : ByteArray := prog_1_method_19_code
def yX4_runOne : MethodName := ⟨RX4, "runOne", "()I"⟩
abbrev cX4_runTop : ByteArray := prog_1_method_20_code
def yX4_runTop : MethodName := ⟨RX4, "runTop", "()I"⟩
abbrev cX4_highestReadySource : ByteArray := prog_1_method_21_code
def yX4_highestReadySource : MethodName := ⟨RX4, "highestReadySource", "()I"⟩
abbrev cX4_highestTaskWithWork : ByteArray := prog_1_method_22_code
def yX4_highestTaskWithWork : MethodName := ⟨RX4, "highestTaskWithWork", "()I"⟩
abbrev cX4_tasksAdmitted : ByteArray := prog_1_method_23_code
def yX4_tasksAdmitted : MethodName := ⟨RX4, "tasksAdmitted", "()Z"⟩
abbrev cX4_taskBound : ByteArray := prog_1_method_24_code
def yX4_taskBound : MethodName := ⟨RX4, "taskBound", "(LBudgetKernel$BaseTask;)I"⟩
abbrev cX4_sourceBound : ByteArray := prog_1_method_25_code
def yX4_sourceBound : MethodName := ⟨RX4, "sourceBound", "(LBudgetKernel$Source;)I"⟩
abbrev cX4_leastBound : ByteArray := prog_1_method_26_code
def yX4_leastBound : MethodName := ⟨RX4, "leastBound", "(IIII)I"⟩
abbrev cX4_handlersTake : ByteArray := prog_1_method_27_code
def yX4_handlersTake : MethodName := ⟨RX4, "handlersTake", "(II)I"⟩
abbrev cX4_topsTake : ByteArray := prog_1_method_28_code
def yX4_topsTake : MethodName := ⟨RX4, "topsTake", "(I)I"⟩
abbrev cX4_tasksTake : ByteArray := prog_1_method_29_code
def yX4_tasksTake : MethodName := ⟨RX4, "tasksTake", "(II)I"⟩
abbrev cX4_ceil : ByteArray := prog_1_method_30_code
def yX4_ceil : MethodName := ⟨RX4, "ceil", "(II)I"⟩
def RX5 : String := "BudgetKernelModel"
def TX5 : u_T := fun k => match k with
  | 0 => ("BudgetKernelModel", "thrown", "I", false)
  | 1 => ("BudgetKernelModel", "time", "I", false)
  | 2 => ("BudgetKernelModel", "there", "[Z", true)
  | 3 => ("BudgetKernelModel", "top", "[I", true)
  | 4 => ("BudgetKernelModel", "cost", "[I", true)
  | 5 => ("BudgetKernelModel", "distance", "[I", true)
  | 6 => ("BudgetKernelModel", "budget", "[I", true)
  | 7 => ("BudgetKernelModel", "period", "[I", true)
  | 8 => ("BudgetKernelModel", "priority", "[I", true)
  | 9 => ("BudgetKernelModel", "queued", "[I", true)
  | 10 => ("BudgetKernelModel", "queue", "[I", true)
  | 11 => ("BudgetKernelModel", "done", "[I", true)
  | 12 => ("BudgetKernelModel", "busy", "[I", true)
  | 13 => ("BudgetKernelModel", "since", "[I", true)
  | 14 => ("BudgetKernelModel", "pieces", "[I", true)
  | 15 => ("BudgetKernelModel", "times", "[I", true)
  | 16 => ("BudgetKernelModel", "amounts", "[I", true)
  | 17 => ("BudgetKernelModel", "masked", "[Z", true)
  | 18 => ("BudgetKernelModel", "storms", "[I", true)
  | 19 => ("BudgetKernelModel", "taken", "[I", true)
  | 20 => ("BudgetKernelModel", "handled", "[I", true)
  | 21 => ("BudgetKernelModel", "lost", "[I", true)
  | 22 => ("BudgetKernelModel", "worst", "[I", true)
  | 23 => ("BudgetKernelModel", "told", "[Z", true)
  | 24 => ("BudgetKernelModel", "every", "[I", true)
  | 25 => ("BudgetKernelModel", "work", "[I", true)
  | 26 => ("BudgetKernelModel", "rank", "[I", true)
  | 27 => ("BudgetKernelModel", "begun", "[I", true)
  | 28 => ("BudgetKernelModel", "left", "[I", true)
  | 29 => ("BudgetKernelModel", "missed", "[I", true)
  | 30 => ("BudgetKernelModel", "finished", "[I", true)
  | 31 => ("BudgetKernelModel", "tops", "I", false)
  | 32 => ("BudgetKernelModel", "topOf", "[I", true)
  | 33 => ("BudgetKernelModel", "topLeft", "[I", true)
  | _ => ("BudgetKernelModel", "trace", "[I", true)
def tyX5 : Nat → FieldType := fun k => match k with
  | 0 => .int
  | 1 => .int
  | 2 => .array .boolean
  | 3 => .array .int
  | 4 => .array .int
  | 5 => .array .int
  | 6 => .array .int
  | 7 => .array .int
  | 8 => .array .int
  | 9 => .array .int
  | 10 => .array .int
  | 11 => .array .int
  | 12 => .array .int
  | 13 => .array .int
  | 14 => .array .int
  | 15 => .array .int
  | 16 => .array .int
  | 17 => .array .boolean
  | 18 => .array .int
  | 19 => .array .int
  | 20 => .array .int
  | 21 => .array .int
  | 22 => .array .int
  | 23 => .array .boolean
  | 24 => .array .int
  | 25 => .array .int
  | 26 => .array .int
  | 27 => .array .int
  | 28 => .array .int
  | 29 => .array .int
  | 30 => .array .int
  | 31 => .int
  | 32 => .array .int
  | 33 => .array .int
  | _ => .array .int
abbrev wsX50 : List Cond := u_ws RX5 TX5 35
theorem nmX5 : ∀ a, a < 35 → ∀ b, b < 35 → a ≠ b → (TX5 a).2.1 ≠ (TX5 b).2.1 := by decide +kernel
theorem tyX5_ok : ∀ k, k < 35 → parseFieldDescriptor (TX5 k).2.2.1 = some (tyX5 k) := by decide +kernel
abbrev cX5_init : ByteArray := prog_7_method_1_code
def yX5_init : MethodName := ⟨RX5, "<init>", "()V"⟩
abbrev cX5_thrown : ByteArray := prog_7_method_2_code
def yX5_thrown : MethodName := ⟨RX5, "thrown", "()I"⟩
abbrev cX5_within : ByteArray := prog_7_method_3_code
def yX5_within : MethodName := ⟨RX5, "within", "(III)Z"⟩
abbrev cX5_budgetLeft : ByteArray := prog_7_method_4_code
def yX5_budgetLeft : MethodName := ⟨RX5, "budgetLeft", "(I)I"⟩
abbrev cX5_isReady : ByteArray := prog_7_method_5_code
def yX5_isReady : MethodName := ⟨RX5, "isReady", "(I)Z"⟩
abbrev cX5_giveBack : ByteArray := prog_7_method_6_code
def yX5_giveBack : MethodName := ⟨RX5, "giveBack", "()V"⟩
abbrev cX5_spend : ByteArray := prog_7_method_7_code
def yX5_spend : MethodName := ⟨RX5, "spend", "(II)V"⟩
abbrev cX5_firstPiece : ByteArray := prog_7_method_8_code
def yX5_firstPiece : MethodName := ⟨RX5, "firstPiece", "(I)I"⟩
abbrev cX5_ceil : ByteArray := prog_7_method_9_code
def yX5_ceil : MethodName := ⟨RX5, "ceil", "(II)I"⟩
abbrev cX5_handlers : ByteArray := prog_7_method_10_code
def yX5_handlers : MethodName := ⟨RX5, "handlers", "(II)I"⟩
abbrev cX5_topHalves : ByteArray := prog_7_method_11_code
def yX5_topHalves : MethodName := ⟨RX5, "topHalves", "(II)I"⟩
abbrev cX5_sourcesIn : ByteArray := prog_7_method_12_code
def yX5_sourcesIn : MethodName := ⟨RX5, "sourcesIn", "(I)I"⟩
abbrev cX5_taskNeeds : ByteArray := prog_7_method_13_code
def yX5_taskNeeds : MethodName := ⟨RX5, "taskNeeds", "(II)I"⟩
abbrev cX5_sourceNeeds : ByteArray := prog_7_method_14_code
def yX5_sourceNeeds : MethodName := ⟨RX5, "sourceNeeds", "(II)I"⟩
abbrev cX5_taskBound : ByteArray := prog_7_method_15_code
def yX5_taskBound : MethodName := ⟨RX5, "taskBound", "(I)I"⟩
abbrev cX5_sourceBound : ByteArray := prog_7_method_16_code
def yX5_sourceBound : MethodName := ⟨RX5, "sourceBound", "(I)I"⟩
abbrev cX5_areAdmitted : ByteArray := prog_7_method_17_code
def yX5_areAdmitted : MethodName := ⟨RX5, "areAdmitted", "()Z"⟩
abbrev cX5_source : ByteArray := prog_7_method_18_code
def yX5_source : MethodName := ⟨RX5, "source", "(IIIIIII)V"⟩
abbrev cX5_base : ByteArray := prog_7_method_19_code
def yX5_base : MethodName := ⟨RX5, "base", "(IIII)Z"⟩
abbrev cX5_isSource : ByteArray := prog_7_method_20_code
def yX5_isSource : MethodName := ⟨RX5, "isSource", "(I)Z"⟩
abbrev cX5_event : ByteArray := prog_7_method_21_code
def yX5_event : MethodName := ⟨RX5, "event", "(I)I"⟩
abbrev cX5_runTop : ByteArray := prog_7_method_22_code
def yX5_runTop : MethodName := ⟨RX5, "runTop", "()I"⟩
abbrev cX5_runHandler : ByteArray := prog_7_method_23_code
def yX5_runHandler : MethodName := ⟨RX5, "runHandler", "(I)V"⟩
abbrev cX5_runOne : ByteArray := prog_7_method_24_code
def yX5_runOne : MethodName := ⟨RX5, "runOne", "()I"⟩
abbrev cX5_pass : ByteArray := prog_7_method_25_code
def yX5_pass : MethodName := ⟨RX5, "pass", "()I"⟩
abbrev cX5_tick : ByteArray := prog_7_method_26_code
def yX5_tick : MethodName := ⟨RX5, "tick", "()I"⟩
abbrev cX5_ticks : ByteArray := prog_7_method_27_code
def yX5_ticks : MethodName := ⟨RX5, "ticks", "(I)I"⟩
abbrev cX5_about : ByteArray := prog_7_method_28_code
def yX5_about : MethodName := ⟨RX5, "about", "(II)I"⟩
abbrev cX5_task : ByteArray := prog_7_method_29_code
def yX5_task : MethodName := ⟨RX5, "task", "(II)I"⟩
abbrev cX5_bound : ByteArray := prog_7_method_30_code
def yX5_bound : MethodName := ⟨RX5, "bound", "(I)I"⟩
abbrev cX5_used : ByteArray := prog_7_method_31_code
def yX5_used : MethodName := ⟨RX5, "used", "(IZII)I"⟩
abbrev cX5_floor : ByteArray := prog_7_method_32_code
def yX5_floor : MethodName := ⟨RX5, "floor", "(I)I"⟩
abbrev cX5_time : ByteArray := prog_7_method_33_code
def yX5_time : MethodName := ⟨RX5, "time", "()I"⟩
def RJx145de : String := "java/io/Serializable"
def TJx145de : u_T := fun k => match k with
  | _ => ("", "", "", false)
def tyJx145de : Nat → FieldType := fun k => match k with
  | _ => .int
abbrev wsJx145de0 : List Cond := u_ws RJx145de TJx145de 0
theorem nmJx145de : ∀ a, a < 0 → ∀ b, b < 0 → a ≠ b → (TJx145de a).2.1 ≠ (TJx145de b).2.1 := by decide +kernel
theorem tyJx145de_ok : ∀ k, k < 0 → parseFieldDescriptor (TJx145de k).2.2.1 = some (tyJx145de k) := by decide +kernel
def RJ9 : String := "java/lang/Math"
def TJ9 : u_T := fun k => match k with
  | _ => ("", "", "", false)
def tyJ9 : Nat → FieldType := fun k => match k with
  | _ => .int
abbrev wsJ90 : List Cond := u_ws RJ9 TJ9 0
theorem nmJ9 : ∀ a, a < 0 → ∀ b, b < 0 → a ≠ b → (TJ9 a).2.1 ≠ (TJ9 b).2.1 := by decide +kernel
theorem tyJ9_ok : ∀ k, k < 0 → parseFieldDescriptor (TJ9 k).2.2.1 = some (tyJ9 k) := by decide +kernel
abbrev cJ9_floorMod_7cf53 : ByteArray := prog_13_method_50_code
def yJ9_floorMod_7cf53 : MethodName := ⟨RJ9, "floorMod", "(II)I"⟩
abbrev cJ9_max_7cf53 : ByteArray := prog_13_method_65_code
def yJ9_max_7cf53 : MethodName := ⟨RJ9, "max", "(II)I"⟩
def RL : String := "BudgetKernelLaw"
abbrev cL_source : ByteArray := method_3_code
def yL_source : MethodName := ⟨RL, "source", "(LBudgetKernel;IIIIIII)I"⟩
abbrev cL_base : ByteArray := method_4_code
def yL_base : MethodName := ⟨RL, "base", "(LBudgetKernel;IIII[J)I"⟩
abbrev cL_event : ByteArray := method_5_code
def yL_event : MethodName := ⟨RL, "event", "(LBudgetKernel;I[J)I"⟩
abbrev cL_ticks : ByteArray := method_6_code
def yL_ticks : MethodName := ⟨RL, "ticks", "(LBudgetKernel;I[J)I"⟩
abbrev cL_about : ByteArray := method_7_code
def yL_about : MethodName := ⟨RL, "about", "(LBudgetKernel;II[J)I"⟩
abbrev cL_task : ByteArray := method_8_code
def yL_task : MethodName := ⟨RL, "task", "(LBudgetKernel;II[J)I"⟩
abbrev cL_bound : ByteArray := method_9_code
def yL_bound : MethodName := ⟨RL, "bound", "(LBudgetKernel;I[J)I"⟩
abbrev cL_used : ByteArray := method_10_code
def yL_used : MethodName := ⟨RL, "used", "(LBudgetKernel;IZII[J)I"⟩
abbrev cL_floor : ByteArray := method_11_code
def yL_floor : MethodName := ⟨RL, "floor", "(LBudgetKernel;I[J)I"⟩
abbrev cL_law : ByteArray := code
def yL_law : MethodName := ⟨RL, "law", "([I)Z"⟩
abbrev vwCl : List vw_C := [(RX0, TX0, 8), (RX1, TX1, 3), (RX2, TX2, 3), (RX3, TX3, 18), (RX4, TX4, 6), (RX5, TX5, 35)]
end
section
theorem dX0_init_0 : decode cX0_init 0 = .ok (.aload_n 0, 1) := by decide +kernel
theorem dX0_init_1 : decode cX0_init 1 = .ok (.invokespecial 1, 3) := by decide +kernel
theorem dX0_init_4 : decode cX0_init 4 = .ok (.return_, 1) := by decide +kernel
theorem dX0_tell_0 : decode cX0_tell 0 = .ok (.aload_n 0, 1) := by decide +kernel
theorem dX0_tell_1 : decode cX0_tell 1 = .ok (.iconst 1, 1) := by decide +kernel
theorem dX0_tell_2 : decode cX0_tell 2 = .ok (.putfield 7, 3) := by decide +kernel
theorem dX0_tell_5 : decode cX0_tell 5 = .ok (.aload_n 0, 1) := by decide +kernel
theorem dX0_tell_6 : decode cX0_tell 6 = .ok (.iload_n 1, 1) := by decide +kernel
theorem dX0_tell_7 : decode cX0_tell 7 = .ok (.putfield 13, 3) := by decide +kernel
theorem dX0_tell_10 : decode cX0_tell 10 = .ok (.aload_n 0, 1) := by decide +kernel
theorem dX0_tell_11 : decode cX0_tell 11 = .ok (.iload_n 2, 1) := by decide +kernel
theorem dX0_tell_12 : decode cX0_tell 12 = .ok (.putfield 17, 3) := by decide +kernel
theorem dX0_tell_15 : decode cX0_tell 15 = .ok (.aload_n 0, 1) := by decide +kernel
theorem dX0_tell_16 : decode cX0_tell 16 = .ok (.iload_n 3, 1) := by decide +kernel
theorem dX0_tell_17 : decode cX0_tell 17 = .ok (.putfield 20, 3) := by decide +kernel
theorem dX0_tell_20 : decode cX0_tell 20 = .ok (.aload_n 0, 1) := by decide +kernel
theorem dX0_tell_21 : decode cX0_tell 21 = .ok (.iload 4, 2) := by decide +kernel
theorem dX0_tell_23 : decode cX0_tell 23 = .ok (.putfield 23, 3) := by decide +kernel
theorem dX0_tell_26 : decode cX0_tell 26 = .ok (.return_, 1) := by decide +kernel
theorem dX0_beginIfDue_0 : decode cX0_beginIfDue 0 = .ok (.iload_n 1, 1) := by decide +kernel
theorem dX0_beginIfDue_1 : decode cX0_beginIfDue 1 = .ok (.aload_n 0, 1) := by decide +kernel
theorem dX0_beginIfDue_2 : decode cX0_beginIfDue 2 = .ok (.getfield 23, 3) := by decide +kernel
theorem dX0_beginIfDue_5 : decode cX0_beginIfDue 5 = .ok (.isub, 1) := by decide +kernel
theorem dX0_beginIfDue_6 : decode cX0_beginIfDue 6 = .ok (.aload_n 0, 1) := by decide +kernel
theorem dX0_beginIfDue_7 : decode cX0_beginIfDue 7 = .ok (.getfield 13, 3) := by decide +kernel
theorem dX0_beginIfDue_10 : decode cX0_beginIfDue 10 = .ok (.irem, 1) := by decide +kernel
theorem dX0_beginIfDue_11 : decode cX0_beginIfDue 11 = .ok (.ifCond .eq 4, 3) := by decide +kernel
theorem dX0_beginIfDue_14 : decode cX0_beginIfDue 14 = .ok (.return_, 1) := by decide +kernel
theorem dX0_beginIfDue_15 : decode cX0_beginIfDue 15 = .ok (.aload_n 0, 1) := by decide +kernel
theorem dX0_beginIfDue_16 : decode cX0_beginIfDue 16 = .ok (.getfield 26, 3) := by decide +kernel
theorem dX0_beginIfDue_19 : decode cX0_beginIfDue 19 = .ok (.ifCond .le 13, 3) := by decide +kernel
theorem dX0_beginIfDue_22 : decode cX0_beginIfDue 22 = .ok (.aload_n 0, 1) := by decide +kernel
theorem dX0_beginIfDue_23 : decode cX0_beginIfDue 23 = .ok (.dup, 1) := by decide +kernel
theorem dX0_beginIfDue_24 : decode cX0_beginIfDue 24 = .ok (.getfield 29, 3) := by decide +kernel
theorem dX0_beginIfDue_27 : decode cX0_beginIfDue 27 = .ok (.iconst 1, 1) := by decide +kernel
theorem dX0_beginIfDue_28 : decode cX0_beginIfDue 28 = .ok (.iadd, 1) := by decide +kernel
theorem dX0_beginIfDue_29 : decode cX0_beginIfDue 29 = .ok (.putfield 29, 3) := by decide +kernel
theorem dX0_beginIfDue_32 : decode cX0_beginIfDue 32 = .ok (.aload_n 0, 1) := by decide +kernel
theorem dX0_beginIfDue_33 : decode cX0_beginIfDue 33 = .ok (.aload_n 0, 1) := by decide +kernel
theorem dX0_beginIfDue_34 : decode cX0_beginIfDue 34 = .ok (.getfield 17, 3) := by decide +kernel
theorem dX0_beginIfDue_37 : decode cX0_beginIfDue 37 = .ok (.putfield 26, 3) := by decide +kernel
theorem dX0_beginIfDue_40 : decode cX0_beginIfDue 40 = .ok (.return_, 1) := by decide +kernel
theorem dX0_work_0 : decode cX0_work 0 = .ok (.aload_n 0, 1) := by decide +kernel
theorem dX0_work_1 : decode cX0_work 1 = .ok (.dup, 1) := by decide +kernel
theorem dX0_work_2 : decode cX0_work 2 = .ok (.getfield 26, 3) := by decide +kernel
theorem dX0_work_5 : decode cX0_work 5 = .ok (.iconst 1, 1) := by decide +kernel
theorem dX0_work_6 : decode cX0_work 6 = .ok (.isub, 1) := by decide +kernel
theorem dX0_work_7 : decode cX0_work 7 = .ok (.putfield 26, 3) := by decide +kernel
theorem dX0_work_10 : decode cX0_work 10 = .ok (.aload_n 0, 1) := by decide +kernel
theorem dX0_work_11 : decode cX0_work 11 = .ok (.getfield 26, 3) := by decide +kernel
theorem dX0_work_14 : decode cX0_work 14 = .ok (.ifCond .ne 13, 3) := by decide +kernel
theorem dX0_work_17 : decode cX0_work 17 = .ok (.aload_n 0, 1) := by decide +kernel
theorem dX0_work_18 : decode cX0_work 18 = .ok (.dup, 1) := by decide +kernel
theorem dX0_work_19 : decode cX0_work 19 = .ok (.getfield 32, 3) := by decide +kernel
theorem dX0_work_22 : decode cX0_work 22 = .ok (.iconst 1, 1) := by decide +kernel
theorem dX0_work_23 : decode cX0_work 23 = .ok (.iadd, 1) := by decide +kernel
theorem dX0_work_24 : decode cX0_work 24 = .ok (.putfield 32, 3) := by decide +kernel
theorem dX0_work_27 : decode cX0_work 27 = .ok (.return_, 1) := by decide +kernel
theorem dX1_init_0 : decode cX1_init 0 = .ok (.aload_n 0, 1) := by decide +kernel
theorem dX1_init_1 : decode cX1_init 1 = .ok (.invokespecial 3, 3) := by decide +kernel
theorem dX1_init_4 : decode cX1_init 4 = .ok (.aload_n 0, 1) := by decide +kernel
theorem dX1_init_5 : decode cX1_init 5 = .ok (.bipush 16, 2) := by decide +kernel
theorem dX1_init_7 : decode cX1_init 7 = .ok (.newarray .int, 2) := by decide +kernel
theorem dX1_init_9 : decode cX1_init 9 = .ok (.putfield 9, 3) := by decide +kernel
theorem dX1_init_12 : decode cX1_init 12 = .ok (.aload_n 0, 1) := by decide +kernel
theorem dX1_init_13 : decode cX1_init 13 = .ok (.bipush 16, 2) := by decide +kernel
theorem dX1_init_15 : decode cX1_init 15 = .ok (.newarray .int, 2) := by decide +kernel
theorem dX1_init_17 : decode cX1_init 17 = .ok (.putfield 15, 3) := by decide +kernel
theorem dX1_init_20 : decode cX1_init 20 = .ok (.return_, 1) := by decide +kernel
theorem dX1_add_0 : decode cX1_add 0 = .ok (.aload_n 0, 1) := by decide +kernel
theorem dX1_add_1 : decode cX1_add 1 = .ok (.getfield 18, 3) := by decide +kernel
theorem dX1_add_4 : decode cX1_add 4 = .ok (.iconst 1, 1) := by decide +kernel
theorem dX1_add_5 : decode cX1_add 5 = .ok (.isub, 1) := by decide +kernel
theorem dX1_add_6 : decode cX1_add 6 = .ok (.istore_n 2, 1) := by decide +kernel
theorem dX1_add_7 : decode cX1_add 7 = .ok (.iload_n 2, 1) := by decide +kernel
theorem dX1_add_8 : decode cX1_add 8 = .ok (.ifCond .lt 49, 3) := by decide +kernel
theorem dX1_add_11 : decode cX1_add 11 = .ok (.aload_n 0, 1) := by decide +kernel
theorem dX1_add_12 : decode cX1_add 12 = .ok (.getfield 9, 3) := by decide +kernel
theorem dX1_add_15 : decode cX1_add 15 = .ok (.iload_n 2, 1) := by decide +kernel
theorem dX1_add_16 : decode cX1_add 16 = .ok (.iaload, 1) := by decide +kernel
theorem dX1_add_17 : decode cX1_add 17 = .ok (.iload_n 1, 1) := by decide +kernel
theorem dX1_add_18 : decode cX1_add 18 = .ok (.if_icmp .eq 12, 3) := by decide +kernel
theorem dX1_add_21 : decode cX1_add 21 = .ok (.aload_n 0, 1) := by decide +kernel
theorem dX1_add_22 : decode cX1_add 22 = .ok (.getfield 18, 3) := by decide +kernel
theorem dX1_add_25 : decode cX1_add 25 = .ok (.bipush 16, 2) := by decide +kernel
theorem dX1_add_27 : decode cX1_add 27 = .ok (.if_icmp .lt 30, 3) := by decide +kernel
theorem dX1_add_30 : decode cX1_add 30 = .ok (.aload_n 0, 1) := by decide +kernel
theorem dX1_add_31 : decode cX1_add 31 = .ok (.getfield 15, 3) := by decide +kernel
theorem dX1_add_34 : decode cX1_add 34 = .ok (.iload_n 2, 1) := by decide +kernel
theorem dX1_add_35 : decode cX1_add 35 = .ok (.dup2, 1) := by decide +kernel
theorem dX1_add_36 : decode cX1_add 36 = .ok (.iaload, 1) := by decide +kernel
theorem dX1_add_37 : decode cX1_add 37 = .ok (.iconst 1, 1) := by decide +kernel
theorem dX1_add_38 : decode cX1_add 38 = .ok (.iadd, 1) := by decide +kernel
theorem dX1_add_39 : decode cX1_add 39 = .ok (.iastore, 1) := by decide +kernel
theorem dX1_add_40 : decode cX1_add 40 = .ok (.aload_n 0, 1) := by decide +kernel
theorem dX1_add_41 : decode cX1_add 41 = .ok (.getfield 9, 3) := by decide +kernel
theorem dX1_add_44 : decode cX1_add 44 = .ok (.iload_n 2, 1) := by decide +kernel
theorem dX1_add_45 : decode cX1_add 45 = .ok (.aload_n 0, 1) := by decide +kernel
theorem dX1_add_46 : decode cX1_add 46 = .ok (.getfield 9, 3) := by decide +kernel
theorem dX1_add_49 : decode cX1_add 49 = .ok (.iload_n 2, 1) := by decide +kernel
theorem dX1_add_50 : decode cX1_add 50 = .ok (.iaload, 1) := by decide +kernel
theorem dX1_add_51 : decode cX1_add 51 = .ok (.iload_n 1, 1) := by decide +kernel
theorem dX1_add_52 : decode cX1_add 52 = .ok (.invokestatic 22, 3) := by decide +kernel
theorem dX1_add_55 : decode cX1_add 55 = .ok (.iastore, 1) := by decide +kernel
theorem dX1_add_56 : decode cX1_add 56 = .ok (.return_, 1) := by decide +kernel
theorem dX1_add_57 : decode cX1_add 57 = .ok (.aload_n 0, 1) := by decide +kernel
theorem dX1_add_58 : decode cX1_add 58 = .ok (.getfield 9, 3) := by decide +kernel
theorem dX1_add_61 : decode cX1_add 61 = .ok (.aload_n 0, 1) := by decide +kernel
theorem dX1_add_62 : decode cX1_add 62 = .ok (.getfield 18, 3) := by decide +kernel
theorem dX1_add_65 : decode cX1_add 65 = .ok (.iload_n 1, 1) := by decide +kernel
theorem dX1_add_66 : decode cX1_add 66 = .ok (.iastore, 1) := by decide +kernel
theorem dX1_add_67 : decode cX1_add 67 = .ok (.aload_n 0, 1) := by decide +kernel
theorem dX1_add_68 : decode cX1_add 68 = .ok (.getfield 15, 3) := by decide +kernel
theorem dX1_add_71 : decode cX1_add 71 = .ok (.aload_n 0, 1) := by decide +kernel
theorem dX1_add_72 : decode cX1_add 72 = .ok (.getfield 18, 3) := by decide +kernel
theorem dX1_add_75 : decode cX1_add 75 = .ok (.iconst 1, 1) := by decide +kernel
theorem dX1_add_76 : decode cX1_add 76 = .ok (.iastore, 1) := by decide +kernel
theorem dX1_add_77 : decode cX1_add 77 = .ok (.aload_n 0, 1) := by decide +kernel
theorem dX1_add_78 : decode cX1_add 78 = .ok (.dup, 1) := by decide +kernel
theorem dX1_add_79 : decode cX1_add 79 = .ok (.getfield 18, 3) := by decide +kernel
theorem dX1_add_82 : decode cX1_add 82 = .ok (.iconst 1, 1) := by decide +kernel
theorem dX1_add_83 : decode cX1_add 83 = .ok (.iadd, 1) := by decide +kernel
theorem dX1_add_84 : decode cX1_add 84 = .ok (.putfield 18, 3) := by decide +kernel
theorem dX1_add_87 : decode cX1_add 87 = .ok (.return_, 1) := by decide +kernel
theorem dX1_removeUpTo_0 : decode cX1_removeUpTo 0 = .ok (.iconst 0, 1) := by decide +kernel
theorem dX1_removeUpTo_1 : decode cX1_removeUpTo 1 = .ok (.istore_n 2, 1) := by decide +kernel
theorem dX1_removeUpTo_2 : decode cX1_removeUpTo 2 = .ok (.iconst 0, 1) := by decide +kernel
theorem dX1_removeUpTo_3 : decode cX1_removeUpTo 3 = .ok (.istore_n 3, 1) := by decide +kernel
theorem dX1_removeUpTo_4 : decode cX1_removeUpTo 4 = .ok (.iconst 0, 1) := by decide +kernel
theorem dX1_removeUpTo_5 : decode cX1_removeUpTo 5 = .ok (.istore 4, 2) := by decide +kernel
theorem dX1_removeUpTo_7 : decode cX1_removeUpTo 7 = .ok (.iload 4, 2) := by decide +kernel
theorem dX1_removeUpTo_9 : decode cX1_removeUpTo 9 = .ok (.aload_n 0, 1) := by decide +kernel
theorem dX1_removeUpTo_10 : decode cX1_removeUpTo 10 = .ok (.getfield 18, 3) := by decide +kernel
theorem dX1_removeUpTo_13 : decode cX1_removeUpTo 13 = .ok (.if_icmp .ge 62, 3) := by decide +kernel
theorem dX1_removeUpTo_16 : decode cX1_removeUpTo 16 = .ok (.aload_n 0, 1) := by decide +kernel
theorem dX1_removeUpTo_17 : decode cX1_removeUpTo 17 = .ok (.getfield 9, 3) := by decide +kernel
theorem dX1_removeUpTo_20 : decode cX1_removeUpTo 20 = .ok (.iload 4, 2) := by decide +kernel
theorem dX1_removeUpTo_22 : decode cX1_removeUpTo 22 = .ok (.iaload, 1) := by decide +kernel
theorem dX1_removeUpTo_23 : decode cX1_removeUpTo 23 = .ok (.iload_n 1, 1) := by decide +kernel
theorem dX1_removeUpTo_24 : decode cX1_removeUpTo 24 = .ok (.if_icmp .gt 16, 3) := by decide +kernel
theorem dX1_removeUpTo_27 : decode cX1_removeUpTo 27 = .ok (.iload_n 2, 1) := by decide +kernel
theorem dX1_removeUpTo_28 : decode cX1_removeUpTo 28 = .ok (.aload_n 0, 1) := by decide +kernel
theorem dX1_removeUpTo_29 : decode cX1_removeUpTo 29 = .ok (.getfield 15, 3) := by decide +kernel
theorem dX1_removeUpTo_32 : decode cX1_removeUpTo 32 = .ok (.iload 4, 2) := by decide +kernel
theorem dX1_removeUpTo_34 : decode cX1_removeUpTo 34 = .ok (.iaload, 1) := by decide +kernel
theorem dX1_removeUpTo_35 : decode cX1_removeUpTo 35 = .ok (.iadd, 1) := by decide +kernel
theorem dX1_removeUpTo_36 : decode cX1_removeUpTo 36 = .ok (.istore_n 2, 1) := by decide +kernel
theorem dX1_removeUpTo_37 : decode cX1_removeUpTo 37 = .ok (.goto 32, 3) := by decide +kernel
theorem dX1_removeUpTo_40 : decode cX1_removeUpTo 40 = .ok (.aload_n 0, 1) := by decide +kernel
theorem dX1_removeUpTo_41 : decode cX1_removeUpTo 41 = .ok (.getfield 9, 3) := by decide +kernel
theorem dX1_removeUpTo_44 : decode cX1_removeUpTo 44 = .ok (.iload_n 3, 1) := by decide +kernel
theorem dX1_removeUpTo_45 : decode cX1_removeUpTo 45 = .ok (.aload_n 0, 1) := by decide +kernel
theorem dX1_removeUpTo_46 : decode cX1_removeUpTo 46 = .ok (.getfield 9, 3) := by decide +kernel
theorem dX1_removeUpTo_49 : decode cX1_removeUpTo 49 = .ok (.iload 4, 2) := by decide +kernel
theorem dX1_removeUpTo_51 : decode cX1_removeUpTo 51 = .ok (.iaload, 1) := by decide +kernel
theorem dX1_removeUpTo_52 : decode cX1_removeUpTo 52 = .ok (.iastore, 1) := by decide +kernel
theorem dX1_removeUpTo_53 : decode cX1_removeUpTo 53 = .ok (.aload_n 0, 1) := by decide +kernel
theorem dX1_removeUpTo_54 : decode cX1_removeUpTo 54 = .ok (.getfield 15, 3) := by decide +kernel
theorem dX1_removeUpTo_57 : decode cX1_removeUpTo 57 = .ok (.iload_n 3, 1) := by decide +kernel
theorem dX1_removeUpTo_58 : decode cX1_removeUpTo 58 = .ok (.aload_n 0, 1) := by decide +kernel
theorem dX1_removeUpTo_59 : decode cX1_removeUpTo 59 = .ok (.getfield 15, 3) := by decide +kernel
theorem dX1_removeUpTo_62 : decode cX1_removeUpTo 62 = .ok (.iload 4, 2) := by decide +kernel
theorem dX1_removeUpTo_64 : decode cX1_removeUpTo 64 = .ok (.iaload, 1) := by decide +kernel
theorem dX1_removeUpTo_65 : decode cX1_removeUpTo 65 = .ok (.iastore, 1) := by decide +kernel
theorem dX1_removeUpTo_66 : decode cX1_removeUpTo 66 = .ok (.iinc 3 1, 3) := by decide +kernel
theorem dX1_removeUpTo_69 : decode cX1_removeUpTo 69 = .ok (.iinc 4 1, 3) := by decide +kernel
theorem dX1_removeUpTo_72 : decode cX1_removeUpTo 72 = .ok (.goto (-65), 3) := by decide +kernel
theorem dX1_removeUpTo_75 : decode cX1_removeUpTo 75 = .ok (.aload_n 0, 1) := by decide +kernel
theorem dX1_removeUpTo_76 : decode cX1_removeUpTo 76 = .ok (.iload_n 3, 1) := by decide +kernel
theorem dX1_removeUpTo_77 : decode cX1_removeUpTo 77 = .ok (.putfield 18, 3) := by decide +kernel
theorem dX1_removeUpTo_80 : decode cX1_removeUpTo 80 = .ok (.iload_n 2, 1) := by decide +kernel
theorem dX1_removeUpTo_81 : decode cX1_removeUpTo 81 = .ok (.ireturn, 1) := by decide +kernel
theorem dX1_nextTime_0 : decode cX1_nextTime 0 = .ok (.aload_n 0, 1) := by decide +kernel
theorem dX1_nextTime_1 : decode cX1_nextTime 1 = .ok (.getfield 18, 3) := by decide +kernel
theorem dX1_nextTime_4 : decode cX1_nextTime 4 = .ok (.ifCond .le 15, 3) := by decide +kernel
theorem dX1_nextTime_7 : decode cX1_nextTime 7 = .ok (.aload_n 0, 1) := by decide +kernel
theorem dX1_nextTime_8 : decode cX1_nextTime 8 = .ok (.getfield 9, 3) := by decide +kernel
theorem dX1_nextTime_11 : decode cX1_nextTime 11 = .ok (.aload_n 0, 1) := by decide +kernel
theorem dX1_nextTime_12 : decode cX1_nextTime 12 = .ok (.invokevirtual 28, 3) := by decide +kernel
theorem dX1_nextTime_15 : decode cX1_nextTime 15 = .ok (.iaload, 1) := by decide +kernel
theorem dX1_nextTime_16 : decode cX1_nextTime 16 = .ok (.goto 4, 3) := by decide +kernel
theorem dX1_nextTime_19 : decode cX1_nextTime 19 = .ok (.iconst (-1), 1) := by decide +kernel
theorem dX1_nextTime_20 : decode cX1_nextTime 20 = .ok (.ireturn, 1) := by decide +kernel
theorem dX1_nextAmount_0 : decode cX1_nextAmount 0 = .ok (.aload_n 0, 1) := by decide +kernel
theorem dX1_nextAmount_1 : decode cX1_nextAmount 1 = .ok (.getfield 18, 3) := by decide +kernel
theorem dX1_nextAmount_4 : decode cX1_nextAmount 4 = .ok (.ifCond .le 15, 3) := by decide +kernel
theorem dX1_nextAmount_7 : decode cX1_nextAmount 7 = .ok (.aload_n 0, 1) := by decide +kernel
theorem dX1_nextAmount_8 : decode cX1_nextAmount 8 = .ok (.getfield 15, 3) := by decide +kernel
theorem dX1_nextAmount_11 : decode cX1_nextAmount 11 = .ok (.aload_n 0, 1) := by decide +kernel
theorem dX1_nextAmount_12 : decode cX1_nextAmount 12 = .ok (.invokevirtual 28, 3) := by decide +kernel
theorem dX1_nextAmount_15 : decode cX1_nextAmount 15 = .ok (.iaload, 1) := by decide +kernel
theorem dX1_nextAmount_16 : decode cX1_nextAmount 16 = .ok (.goto 4, 3) := by decide +kernel
theorem dX1_nextAmount_19 : decode cX1_nextAmount 19 = .ok (.iconst 0, 1) := by decide +kernel
theorem dX1_nextAmount_20 : decode cX1_nextAmount 20 = .ok (.ireturn, 1) := by decide +kernel
theorem dX1_next_0 : decode cX1_next 0 = .ok (.iconst 0, 1) := by decide +kernel
theorem dX1_next_1 : decode cX1_next 1 = .ok (.istore_n 1, 1) := by decide +kernel
theorem dX1_next_2 : decode cX1_next 2 = .ok (.iconst 1, 1) := by decide +kernel
theorem dX1_next_3 : decode cX1_next 3 = .ok (.istore_n 2, 1) := by decide +kernel
theorem dX1_next_4 : decode cX1_next 4 = .ok (.iload_n 2, 1) := by decide +kernel
theorem dX1_next_5 : decode cX1_next 5 = .ok (.aload_n 0, 1) := by decide +kernel
theorem dX1_next_6 : decode cX1_next 6 = .ok (.getfield 18, 3) := by decide +kernel
theorem dX1_next_9 : decode cX1_next 9 = .ok (.if_icmp .ge 26, 3) := by decide +kernel
theorem dX1_next_12 : decode cX1_next 12 = .ok (.aload_n 0, 1) := by decide +kernel
theorem dX1_next_13 : decode cX1_next 13 = .ok (.getfield 9, 3) := by decide +kernel
theorem dX1_next_16 : decode cX1_next 16 = .ok (.iload_n 2, 1) := by decide +kernel
theorem dX1_next_17 : decode cX1_next 17 = .ok (.iaload, 1) := by decide +kernel
theorem dX1_next_18 : decode cX1_next 18 = .ok (.aload_n 0, 1) := by decide +kernel
theorem dX1_next_19 : decode cX1_next 19 = .ok (.getfield 9, 3) := by decide +kernel
theorem dX1_next_22 : decode cX1_next 22 = .ok (.iload_n 1, 1) := by decide +kernel
theorem dX1_next_23 : decode cX1_next 23 = .ok (.iaload, 1) := by decide +kernel
theorem dX1_next_24 : decode cX1_next 24 = .ok (.if_icmp .ge 5, 3) := by decide +kernel
theorem dX1_next_27 : decode cX1_next 27 = .ok (.iload_n 2, 1) := by decide +kernel
theorem dX1_next_28 : decode cX1_next 28 = .ok (.istore_n 1, 1) := by decide +kernel
theorem dX1_next_29 : decode cX1_next 29 = .ok (.iinc 2 1, 3) := by decide +kernel
theorem dX1_next_32 : decode cX1_next 32 = .ok (.goto (-28), 3) := by decide +kernel
theorem dX1_next_35 : decode cX1_next 35 = .ok (.iload_n 1, 1) := by decide +kernel
theorem dX1_next_36 : decode cX1_next 36 = .ok (.ireturn, 1) := by decide +kernel
theorem dX2_init_0 : decode cX2_init 0 = .ok (.aload_n 0, 1) := by decide +kernel
theorem dX2_init_1 : decode cX2_init 1 = .ok (.invokespecial 1, 3) := by decide +kernel
theorem dX2_init_4 : decode cX2_init 4 = .ok (.aload_n 0, 1) := by decide +kernel
theorem dX2_init_5 : decode cX2_init 5 = .ok (.iload_n 1, 1) := by decide +kernel
theorem dX2_init_6 : decode cX2_init 6 = .ok (.newarray .int, 2) := by decide +kernel
theorem dX2_init_8 : decode cX2_init 8 = .ok (.putfield 7, 3) := by decide +kernel
theorem dX2_init_11 : decode cX2_init 11 = .ok (.return_, 1) := by decide +kernel
theorem dX2_add_0 : decode cX2_add 0 = .ok (.aload_n 0, 1) := by decide +kernel
theorem dX2_add_1 : decode cX2_add 1 = .ok (.getfield 13, 3) := by decide +kernel
theorem dX2_add_4 : decode cX2_add 4 = .ok (.aload_n 0, 1) := by decide +kernel
theorem dX2_add_5 : decode cX2_add 5 = .ok (.getfield 7, 3) := by decide +kernel
theorem dX2_add_8 : decode cX2_add 8 = .ok (.arraylength, 1) := by decide +kernel
theorem dX2_add_9 : decode cX2_add 9 = .ok (.if_icmp .ge 34, 3) := by decide +kernel
theorem dX2_add_12 : decode cX2_add 12 = .ok (.aload_n 0, 1) := by decide +kernel
theorem dX2_add_13 : decode cX2_add 13 = .ok (.getfield 7, 3) := by decide +kernel
theorem dX2_add_16 : decode cX2_add 16 = .ok (.aload_n 0, 1) := by decide +kernel
theorem dX2_add_17 : decode cX2_add 17 = .ok (.getfield 17, 3) := by decide +kernel
theorem dX2_add_20 : decode cX2_add 20 = .ok (.aload_n 0, 1) := by decide +kernel
theorem dX2_add_21 : decode cX2_add 21 = .ok (.getfield 13, 3) := by decide +kernel
theorem dX2_add_24 : decode cX2_add 24 = .ok (.iadd, 1) := by decide +kernel
theorem dX2_add_25 : decode cX2_add 25 = .ok (.aload_n 0, 1) := by decide +kernel
theorem dX2_add_26 : decode cX2_add 26 = .ok (.getfield 7, 3) := by decide +kernel
theorem dX2_add_29 : decode cX2_add 29 = .ok (.arraylength, 1) := by decide +kernel
theorem dX2_add_30 : decode cX2_add 30 = .ok (.irem, 1) := by decide +kernel
theorem dX2_add_31 : decode cX2_add 31 = .ok (.iload_n 1, 1) := by decide +kernel
theorem dX2_add_32 : decode cX2_add 32 = .ok (.iastore, 1) := by decide +kernel
theorem dX2_add_33 : decode cX2_add 33 = .ok (.aload_n 0, 1) := by decide +kernel
theorem dX2_add_34 : decode cX2_add 34 = .ok (.dup, 1) := by decide +kernel
theorem dX2_add_35 : decode cX2_add 35 = .ok (.getfield 13, 3) := by decide +kernel
theorem dX2_add_38 : decode cX2_add 38 = .ok (.iconst 1, 1) := by decide +kernel
theorem dX2_add_39 : decode cX2_add 39 = .ok (.iadd, 1) := by decide +kernel
theorem dX2_add_40 : decode cX2_add 40 = .ok (.putfield 13, 3) := by decide +kernel
theorem dX2_add_43 : decode cX2_add 43 = .ok (.return_, 1) := by decide +kernel
theorem dX2_first_0 : decode cX2_first 0 = .ok (.aload_n 0, 1) := by decide +kernel
theorem dX2_first_1 : decode cX2_first 1 = .ok (.getfield 7, 3) := by decide +kernel
theorem dX2_first_4 : decode cX2_first 4 = .ok (.aload_n 0, 1) := by decide +kernel
theorem dX2_first_5 : decode cX2_first 5 = .ok (.getfield 17, 3) := by decide +kernel
theorem dX2_first_8 : decode cX2_first 8 = .ok (.iaload, 1) := by decide +kernel
theorem dX2_first_9 : decode cX2_first 9 = .ok (.ireturn, 1) := by decide +kernel
theorem dX2_removeFirst_0 : decode cX2_removeFirst 0 = .ok (.aload_n 0, 1) := by decide +kernel
theorem dX2_removeFirst_1 : decode cX2_removeFirst 1 = .ok (.getfield 13, 3) := by decide +kernel
theorem dX2_removeFirst_4 : decode cX2_removeFirst 4 = .ok (.ifCond .le 29, 3) := by decide +kernel
theorem dX2_removeFirst_7 : decode cX2_removeFirst 7 = .ok (.aload_n 0, 1) := by decide +kernel
theorem dX2_removeFirst_8 : decode cX2_removeFirst 8 = .ok (.aload_n 0, 1) := by decide +kernel
theorem dX2_removeFirst_9 : decode cX2_removeFirst 9 = .ok (.getfield 17, 3) := by decide +kernel
theorem dX2_removeFirst_12 : decode cX2_removeFirst 12 = .ok (.iconst 1, 1) := by decide +kernel
theorem dX2_removeFirst_13 : decode cX2_removeFirst 13 = .ok (.iadd, 1) := by decide +kernel
theorem dX2_removeFirst_14 : decode cX2_removeFirst 14 = .ok (.aload_n 0, 1) := by decide +kernel
theorem dX2_removeFirst_15 : decode cX2_removeFirst 15 = .ok (.getfield 7, 3) := by decide +kernel
theorem dX2_removeFirst_18 : decode cX2_removeFirst 18 = .ok (.arraylength, 1) := by decide +kernel
theorem dX2_removeFirst_19 : decode cX2_removeFirst 19 = .ok (.irem, 1) := by decide +kernel
theorem dX2_removeFirst_20 : decode cX2_removeFirst 20 = .ok (.putfield 17, 3) := by decide +kernel
theorem dX2_removeFirst_23 : decode cX2_removeFirst 23 = .ok (.aload_n 0, 1) := by decide +kernel
theorem dX2_removeFirst_24 : decode cX2_removeFirst 24 = .ok (.dup, 1) := by decide +kernel
theorem dX2_removeFirst_25 : decode cX2_removeFirst 25 = .ok (.getfield 13, 3) := by decide +kernel
theorem dX2_removeFirst_28 : decode cX2_removeFirst 28 = .ok (.iconst 1, 1) := by decide +kernel
theorem dX2_removeFirst_29 : decode cX2_removeFirst 29 = .ok (.isub, 1) := by decide +kernel
theorem dX2_removeFirst_30 : decode cX2_removeFirst 30 = .ok (.putfield 13, 3) := by decide +kernel
theorem dX2_removeFirst_33 : decode cX2_removeFirst 33 = .ok (.return_, 1) := by decide +kernel
theorem dX3_init_0 : decode cX3_init 0 = .ok (.aload_n 0, 1) := by decide +kernel
theorem dX3_init_1 : decode cX3_init 1 = .ok (.invokespecial 3, 3) := by decide +kernel
theorem dX3_init_4 : decode cX3_init 4 = .ok (.aload_n 0, 1) := by decide +kernel
theorem dX3_init_5 : decode cX3_init 5 = .ok (.new 9, 3) := by decide +kernel
theorem dX3_init_8 : decode cX3_init 8 = .ok (.dup, 1) := by decide +kernel
theorem dX3_init_9 : decode cX3_init 9 = .ok (.bipush 32, 2) := by decide +kernel
theorem dX3_init_11 : decode cX3_init 11 = .ok (.invokespecial 11, 3) := by decide +kernel
theorem dX3_init_14 : decode cX3_init 14 = .ok (.putfield 14, 3) := by decide +kernel
theorem dX3_init_17 : decode cX3_init 17 = .ok (.aload_n 0, 1) := by decide +kernel
theorem dX3_init_18 : decode cX3_init 18 = .ok (.new 9, 3) := by decide +kernel
theorem dX3_init_21 : decode cX3_init 21 = .ok (.dup, 1) := by decide +kernel
theorem dX3_init_22 : decode cX3_init 22 = .ok (.bipush 30, 2) := by decide +kernel
theorem dX3_init_24 : decode cX3_init 24 = .ok (.invokespecial 11, 3) := by decide +kernel
theorem dX3_init_27 : decode cX3_init 27 = .ok (.putfield 20, 3) := by decide +kernel
theorem dX3_init_30 : decode cX3_init 30 = .ok (.aload_n 0, 1) := by decide +kernel
theorem dX3_init_31 : decode cX3_init 31 = .ok (.new 23, 3) := by decide +kernel
theorem dX3_init_34 : decode cX3_init 34 = .ok (.dup, 1) := by decide +kernel
theorem dX3_init_35 : decode cX3_init 35 = .ok (.invokespecial 25, 3) := by decide +kernel
theorem dX3_init_38 : decode cX3_init 38 = .ok (.putfield 26, 3) := by decide +kernel
theorem dX3_init_41 : decode cX3_init 41 = .ok (.return_, 1) := by decide +kernel
theorem dX3_tell_0 : decode cX3_tell 0 = .ok (.aload_n 0, 1) := by decide +kernel
theorem dX3_tell_1 : decode cX3_tell 1 = .ok (.iconst 1, 1) := by decide +kernel
theorem dX3_tell_2 : decode cX3_tell 2 = .ok (.putfield 30, 3) := by decide +kernel
theorem dX3_tell_5 : decode cX3_tell 5 = .ok (.aload_n 0, 1) := by decide +kernel
theorem dX3_tell_6 : decode cX3_tell 6 = .ok (.iload_n 1, 1) := by decide +kernel
theorem dX3_tell_7 : decode cX3_tell 7 = .ok (.putfield 34, 3) := by decide +kernel
theorem dX3_tell_10 : decode cX3_tell 10 = .ok (.aload_n 0, 1) := by decide +kernel
theorem dX3_tell_11 : decode cX3_tell 11 = .ok (.iload_n 2, 1) := by decide +kernel
theorem dX3_tell_12 : decode cX3_tell 12 = .ok (.putfield 38, 3) := by decide +kernel
theorem dX3_tell_15 : decode cX3_tell 15 = .ok (.aload_n 0, 1) := by decide +kernel
theorem dX3_tell_16 : decode cX3_tell 16 = .ok (.iload_n 3, 1) := by decide +kernel
theorem dX3_tell_17 : decode cX3_tell 17 = .ok (.putfield 41, 3) := by decide +kernel
theorem dX3_tell_20 : decode cX3_tell 20 = .ok (.aload_n 0, 1) := by decide +kernel
theorem dX3_tell_21 : decode cX3_tell 21 = .ok (.iload 4, 2) := by decide +kernel
theorem dX3_tell_23 : decode cX3_tell 23 = .ok (.putfield 44, 3) := by decide +kernel
theorem dX3_tell_26 : decode cX3_tell 26 = .ok (.aload_n 0, 1) := by decide +kernel
theorem dX3_tell_27 : decode cX3_tell 27 = .ok (.iload 5, 2) := by decide +kernel
theorem dX3_tell_29 : decode cX3_tell 29 = .ok (.putfield 47, 3) := by decide +kernel
theorem dX3_tell_32 : decode cX3_tell 32 = .ok (.aload_n 0, 1) := by decide +kernel
theorem dX3_tell_33 : decode cX3_tell 33 = .ok (.iload 6, 2) := by decide +kernel
theorem dX3_tell_35 : decode cX3_tell 35 = .ok (.putfield 50, 3) := by decide +kernel
theorem dX3_tell_38 : decode cX3_tell 38 = .ok (.return_, 1) := by decide +kernel
theorem dX3_fillBudget_0 : decode cX3_fillBudget 0 = .ok (.iconst 0, 1) := by decide +kernel
theorem dX3_fillBudget_1 : decode cX3_fillBudget 1 = .ok (.istore_n 1, 1) := by decide +kernel
theorem dX3_fillBudget_2 : decode cX3_fillBudget 2 = .ok (.iload_n 1, 1) := by decide +kernel
theorem dX3_fillBudget_3 : decode cX3_fillBudget 3 = .ok (.aload_n 0, 1) := by decide +kernel
theorem dX3_fillBudget_4 : decode cX3_fillBudget 4 = .ok (.getfield 44, 3) := by decide +kernel
theorem dX3_fillBudget_7 : decode cX3_fillBudget 7 = .ok (.if_icmp .ge 17, 3) := by decide +kernel
theorem dX3_fillBudget_10 : decode cX3_fillBudget 10 = .ok (.aload_n 0, 1) := by decide +kernel
theorem dX3_fillBudget_11 : decode cX3_fillBudget 11 = .ok (.getfield 20, 3) := by decide +kernel
theorem dX3_fillBudget_14 : decode cX3_fillBudget 14 = .ok (.iconst 0, 1) := by decide +kernel
theorem dX3_fillBudget_15 : decode cX3_fillBudget 15 = .ok (.invokevirtual 53, 3) := by decide +kernel
theorem dX3_fillBudget_18 : decode cX3_fillBudget 18 = .ok (.iinc 1 1, 3) := by decide +kernel
theorem dX3_fillBudget_21 : decode cX3_fillBudget 21 = .ok (.goto (-19), 3) := by decide +kernel
theorem dX3_fillBudget_24 : decode cX3_fillBudget 24 = .ok (.return_, 1) := by decide +kernel
theorem dX3_take_0 : decode cX3_take 0 = .ok (.aload_n 0, 1) := by decide +kernel
theorem dX3_take_1 : decode cX3_take 1 = .ok (.getfield 56, 3) := by decide +kernel
theorem dX3_take_4 : decode cX3_take 4 = .ok (.ifCond .ne 15, 3) := by decide +kernel
theorem dX3_take_7 : decode cX3_take 7 = .ok (.aload_n 0, 1) := by decide +kernel
theorem dX3_take_8 : decode cX3_take 8 = .ok (.getfield 14, 3) := by decide +kernel
theorem dX3_take_11 : decode cX3_take 11 = .ok (.getfield 59, 3) := by decide +kernel
theorem dX3_take_14 : decode cX3_take 14 = .ok (.bipush 32, 2) := by decide +kernel
theorem dX3_take_16 : decode cX3_take 16 = .ok (.if_icmp .lt 15, 3) := by decide +kernel
theorem dX3_take_19 : decode cX3_take 19 = .ok (.aload_n 0, 1) := by decide +kernel
theorem dX3_take_20 : decode cX3_take 20 = .ok (.dup, 1) := by decide +kernel
theorem dX3_take_21 : decode cX3_take 21 = .ok (.getfield 62, 3) := by decide +kernel
theorem dX3_take_24 : decode cX3_take 24 = .ok (.iconst 1, 1) := by decide +kernel
theorem dX3_take_25 : decode cX3_take 25 = .ok (.iadd, 1) := by decide +kernel
theorem dX3_take_26 : decode cX3_take 26 = .ok (.putfield 62, 3) := by decide +kernel
theorem dX3_take_29 : decode cX3_take 29 = .ok (.iconst 0, 1) := by decide +kernel
theorem dX3_take_30 : decode cX3_take 30 = .ok (.ireturn, 1) := by decide +kernel
theorem dX3_take_31 : decode cX3_take 31 = .ok (.aload_n 0, 1) := by decide +kernel
theorem dX3_take_32 : decode cX3_take 32 = .ok (.getfield 14, 3) := by decide +kernel
theorem dX3_take_35 : decode cX3_take 35 = .ok (.getfield 59, 3) := by decide +kernel
theorem dX3_take_38 : decode cX3_take 38 = .ok (.ifCond .ne 8, 3) := by decide +kernel
theorem dX3_take_41 : decode cX3_take 41 = .ok (.aload_n 0, 1) := by decide +kernel
theorem dX3_take_42 : decode cX3_take 42 = .ok (.iload_n 1, 1) := by decide +kernel
theorem dX3_take_43 : decode cX3_take 43 = .ok (.putfield 65, 3) := by decide +kernel
theorem dX3_take_46 : decode cX3_take 46 = .ok (.aload_n 0, 1) := by decide +kernel
theorem dX3_take_47 : decode cX3_take 47 = .ok (.getfield 14, 3) := by decide +kernel
theorem dX3_take_50 : decode cX3_take 50 = .ok (.iload_n 1, 1) := by decide +kernel
theorem dX3_take_51 : decode cX3_take 51 = .ok (.invokevirtual 53, 3) := by decide +kernel
theorem dX3_take_54 : decode cX3_take 54 = .ok (.aload_n 0, 1) := by decide +kernel
theorem dX3_take_55 : decode cX3_take 55 = .ok (.dup, 1) := by decide +kernel
theorem dX3_take_56 : decode cX3_take 56 = .ok (.getfield 68, 3) := by decide +kernel
theorem dX3_take_59 : decode cX3_take 59 = .ok (.iconst 1, 1) := by decide +kernel
theorem dX3_take_60 : decode cX3_take 60 = .ok (.iadd, 1) := by decide +kernel
theorem dX3_take_61 : decode cX3_take 61 = .ok (.putfield 68, 3) := by decide +kernel
theorem dX3_take_64 : decode cX3_take 64 = .ok (.aload_n 0, 1) := by decide +kernel
theorem dX3_take_65 : decode cX3_take 65 = .ok (.getfield 14, 3) := by decide +kernel
theorem dX3_take_68 : decode cX3_take 68 = .ok (.getfield 59, 3) := by decide +kernel
theorem dX3_take_71 : decode cX3_take 71 = .ok (.bipush 24, 2) := by decide +kernel
theorem dX3_take_73 : decode cX3_take 73 = .ok (.if_icmp .le 18, 3) := by decide +kernel
theorem dX3_take_76 : decode cX3_take 76 = .ok (.aload_n 0, 1) := by decide +kernel
theorem dX3_take_77 : decode cX3_take 77 = .ok (.iconst 1, 1) := by decide +kernel
theorem dX3_take_78 : decode cX3_take 78 = .ok (.putfield 56, 3) := by decide +kernel
theorem dX3_take_81 : decode cX3_take 81 = .ok (.aload_n 0, 1) := by decide +kernel
theorem dX3_take_82 : decode cX3_take 82 = .ok (.dup, 1) := by decide +kernel
theorem dX3_take_83 : decode cX3_take 83 = .ok (.getfield 71, 3) := by decide +kernel
theorem dX3_take_86 : decode cX3_take 86 = .ok (.iconst 1, 1) := by decide +kernel
theorem dX3_take_87 : decode cX3_take 87 = .ok (.iadd, 1) := by decide +kernel
theorem dX3_take_88 : decode cX3_take 88 = .ok (.putfield 71, 3) := by decide +kernel
theorem dX3_take_91 : decode cX3_take 91 = .ok (.iconst 1, 1) := by decide +kernel
theorem dX3_take_92 : decode cX3_take 92 = .ok (.ireturn, 1) := by decide +kernel
theorem dX3_ready_0 : decode cX3_ready 0 = .ok (.aload_n 0, 1) := by decide +kernel
theorem dX3_ready_1 : decode cX3_ready 1 = .ok (.getfield 14, 3) := by decide +kernel
theorem dX3_ready_4 : decode cX3_ready 4 = .ok (.getfield 59, 3) := by decide +kernel
theorem dX3_ready_7 : decode cX3_ready 7 = .ok (.ifCond .le 17, 3) := by decide +kernel
theorem dX3_ready_10 : decode cX3_ready 10 = .ok (.aload_n 0, 1) := by decide +kernel
theorem dX3_ready_11 : decode cX3_ready 11 = .ok (.getfield 20, 3) := by decide +kernel
theorem dX3_ready_14 : decode cX3_ready 14 = .ok (.getfield 59, 3) := by decide +kernel
theorem dX3_ready_17 : decode cX3_ready 17 = .ok (.ifCond .le 7, 3) := by decide +kernel
theorem dX3_ready_20 : decode cX3_ready 20 = .ok (.iconst 1, 1) := by decide +kernel
theorem dX3_ready_21 : decode cX3_ready 21 = .ok (.goto 4, 3) := by decide +kernel
theorem dX3_ready_24 : decode cX3_ready 24 = .ok (.iconst 0, 1) := by decide +kernel
theorem dX3_ready_25 : decode cX3_ready 25 = .ok (.ireturn, 1) := by decide +kernel
theorem dX3_runHandler_0 : decode cX3_runHandler 0 = .ok (.aload_n 0, 1) := by decide +kernel
theorem dX3_runHandler_1 : decode cX3_runHandler 1 = .ok (.iload_n 1, 1) := by decide +kernel
theorem dX3_runHandler_2 : decode cX3_runHandler 2 = .ok (.invokevirtual 74, 3) := by decide +kernel
theorem dX3_runHandler_5 : decode cX3_runHandler 5 = .ok (.aload_n 0, 1) := by decide +kernel
theorem dX3_runHandler_6 : decode cX3_runHandler 6 = .ok (.dup, 1) := by decide +kernel
theorem dX3_runHandler_7 : decode cX3_runHandler 7 = .ok (.getfield 77, 3) := by decide +kernel
theorem dX3_runHandler_10 : decode cX3_runHandler 10 = .ok (.iconst 1, 1) := by decide +kernel
theorem dX3_runHandler_11 : decode cX3_runHandler 11 = .ok (.iadd, 1) := by decide +kernel
theorem dX3_runHandler_12 : decode cX3_runHandler 12 = .ok (.putfield 77, 3) := by decide +kernel
theorem dX3_runHandler_15 : decode cX3_runHandler 15 = .ok (.aload_n 0, 1) := by decide +kernel
theorem dX3_runHandler_16 : decode cX3_runHandler 16 = .ok (.getfield 77, 3) := by decide +kernel
theorem dX3_runHandler_19 : decode cX3_runHandler 19 = .ok (.aload_n 0, 1) := by decide +kernel
theorem dX3_runHandler_20 : decode cX3_runHandler 20 = .ok (.getfield 38, 3) := by decide +kernel
theorem dX3_runHandler_23 : decode cX3_runHandler 23 = .ok (.if_icmp .lt 10, 3) := by decide +kernel
theorem dX3_runHandler_26 : decode cX3_runHandler 26 = .ok (.aload_n 0, 1) := by decide +kernel
theorem dX3_runHandler_27 : decode cX3_runHandler 27 = .ok (.iload_n 1, 1) := by decide +kernel
theorem dX3_runHandler_28 : decode cX3_runHandler 28 = .ok (.iconst 1, 1) := by decide +kernel
theorem dX3_runHandler_29 : decode cX3_runHandler 29 = .ok (.iadd, 1) := by decide +kernel
theorem dX3_runHandler_30 : decode cX3_runHandler 30 = .ok (.invokevirtual 80, 3) := by decide +kernel
theorem dX3_runHandler_33 : decode cX3_runHandler 33 = .ok (.return_, 1) := by decide +kernel
theorem dX3_spendUnit_0 : decode cX3_spendUnit 0 = .ok (.aload_n 0, 1) := by decide +kernel
theorem dX3_spendUnit_1 : decode cX3_spendUnit 1 = .ok (.getfield 20, 3) := by decide +kernel
theorem dX3_spendUnit_4 : decode cX3_spendUnit 4 = .ok (.invokevirtual 83, 3) := by decide +kernel
theorem dX3_spendUnit_7 : decode cX3_spendUnit 7 = .ok (.aload_n 0, 1) := by decide +kernel
theorem dX3_spendUnit_8 : decode cX3_spendUnit 8 = .ok (.getfield 65, 3) := by decide +kernel
theorem dX3_spendUnit_11 : decode cX3_spendUnit 11 = .ok (.invokestatic 87, 3) := by decide +kernel
theorem dX3_spendUnit_14 : decode cX3_spendUnit 14 = .ok (.istore_n 2, 1) := by decide +kernel
theorem dX3_spendUnit_15 : decode cX3_spendUnit 15 = .ok (.iload_n 1, 1) := by decide +kernel
theorem dX3_spendUnit_16 : decode cX3_spendUnit 16 = .ok (.iload_n 2, 1) := by decide +kernel
theorem dX3_spendUnit_17 : decode cX3_spendUnit 17 = .ok (.isub, 1) := by decide +kernel
theorem dX3_spendUnit_18 : decode cX3_spendUnit 18 = .ok (.aload_n 0, 1) := by decide +kernel
theorem dX3_spendUnit_19 : decode cX3_spendUnit 19 = .ok (.getfield 47, 3) := by decide +kernel
theorem dX3_spendUnit_22 : decode cX3_spendUnit 22 = .ok (.if_icmp .lt 5, 3) := by decide +kernel
theorem dX3_spendUnit_25 : decode cX3_spendUnit 25 = .ok (.iload_n 1, 1) := by decide +kernel
theorem dX3_spendUnit_26 : decode cX3_spendUnit 26 = .ok (.istore_n 2, 1) := by decide +kernel
theorem dX3_spendUnit_27 : decode cX3_spendUnit 27 = .ok (.aload_n 0, 1) := by decide +kernel
theorem dX3_spendUnit_28 : decode cX3_spendUnit 28 = .ok (.getfield 20, 3) := by decide +kernel
theorem dX3_spendUnit_31 : decode cX3_spendUnit 31 = .ok (.invokevirtual 93, 3) := by decide +kernel
theorem dX3_spendUnit_34 : decode cX3_spendUnit 34 = .ok (.aload_n 0, 1) := by decide +kernel
theorem dX3_spendUnit_35 : decode cX3_spendUnit 35 = .ok (.getfield 26, 3) := by decide +kernel
theorem dX3_spendUnit_38 : decode cX3_spendUnit 38 = .ok (.iload_n 2, 1) := by decide +kernel
theorem dX3_spendUnit_39 : decode cX3_spendUnit 39 = .ok (.aload_n 0, 1) := by decide +kernel
theorem dX3_spendUnit_40 : decode cX3_spendUnit 40 = .ok (.getfield 47, 3) := by decide +kernel
theorem dX3_spendUnit_43 : decode cX3_spendUnit 43 = .ok (.iadd, 1) := by decide +kernel
theorem dX3_spendUnit_44 : decode cX3_spendUnit 44 = .ok (.invokevirtual 96, 3) := by decide +kernel
theorem dX3_spendUnit_47 : decode cX3_spendUnit 47 = .ok (.return_, 1) := by decide +kernel
theorem dX3_finishFirst_0 : decode cX3_finishFirst 0 = .ok (.aload_n 0, 1) := by decide +kernel
theorem dX3_finishFirst_1 : decode cX3_finishFirst 1 = .ok (.aload_n 0, 1) := by decide +kernel
theorem dX3_finishFirst_2 : decode cX3_finishFirst 2 = .ok (.getfield 97, 3) := by decide +kernel
theorem dX3_finishFirst_5 : decode cX3_finishFirst 5 = .ok (.iload_n 1, 1) := by decide +kernel
theorem dX3_finishFirst_6 : decode cX3_finishFirst 6 = .ok (.aload_n 0, 1) := by decide +kernel
theorem dX3_finishFirst_7 : decode cX3_finishFirst 7 = .ok (.getfield 14, 3) := by decide +kernel
theorem dX3_finishFirst_10 : decode cX3_finishFirst 10 = .ok (.invokevirtual 83, 3) := by decide +kernel
theorem dX3_finishFirst_13 : decode cX3_finishFirst 13 = .ok (.isub, 1) := by decide +kernel
theorem dX3_finishFirst_14 : decode cX3_finishFirst 14 = .ok (.invokestatic 87, 3) := by decide +kernel
theorem dX3_finishFirst_17 : decode cX3_finishFirst 17 = .ok (.putfield 97, 3) := by decide +kernel
theorem dX3_finishFirst_20 : decode cX3_finishFirst 20 = .ok (.aload_n 0, 1) := by decide +kernel
theorem dX3_finishFirst_21 : decode cX3_finishFirst 21 = .ok (.getfield 14, 3) := by decide +kernel
theorem dX3_finishFirst_24 : decode cX3_finishFirst 24 = .ok (.invokevirtual 93, 3) := by decide +kernel
theorem dX3_finishFirst_27 : decode cX3_finishFirst 27 = .ok (.aload_n 0, 1) := by decide +kernel
theorem dX3_finishFirst_28 : decode cX3_finishFirst 28 = .ok (.iconst 0, 1) := by decide +kernel
theorem dX3_finishFirst_29 : decode cX3_finishFirst 29 = .ok (.putfield 77, 3) := by decide +kernel
theorem dX3_finishFirst_32 : decode cX3_finishFirst 32 = .ok (.aload_n 0, 1) := by decide +kernel
theorem dX3_finishFirst_33 : decode cX3_finishFirst 33 = .ok (.dup, 1) := by decide +kernel
theorem dX3_finishFirst_34 : decode cX3_finishFirst 34 = .ok (.getfield 100, 3) := by decide +kernel
theorem dX3_finishFirst_37 : decode cX3_finishFirst 37 = .ok (.iconst 1, 1) := by decide +kernel
theorem dX3_finishFirst_38 : decode cX3_finishFirst 38 = .ok (.iadd, 1) := by decide +kernel
theorem dX3_finishFirst_39 : decode cX3_finishFirst 39 = .ok (.putfield 100, 3) := by decide +kernel
theorem dX3_finishFirst_42 : decode cX3_finishFirst 42 = .ok (.aload_n 0, 1) := by decide +kernel
theorem dX3_finishFirst_43 : decode cX3_finishFirst 43 = .ok (.getfield 14, 3) := by decide +kernel
theorem dX3_finishFirst_46 : decode cX3_finishFirst 46 = .ok (.getfield 59, 3) := by decide +kernel
theorem dX3_finishFirst_49 : decode cX3_finishFirst 49 = .ok (.bipush 8, 2) := by decide +kernel
theorem dX3_finishFirst_51 : decode cX3_finishFirst 51 = .ok (.if_icmp .gt 8, 3) := by decide +kernel
theorem dX3_finishFirst_54 : decode cX3_finishFirst 54 = .ok (.aload_n 0, 1) := by decide +kernel
theorem dX3_finishFirst_55 : decode cX3_finishFirst 55 = .ok (.iconst 0, 1) := by decide +kernel
theorem dX3_finishFirst_56 : decode cX3_finishFirst 56 = .ok (.putfield 56, 3) := by decide +kernel
theorem dX3_finishFirst_59 : decode cX3_finishFirst 59 = .ok (.return_, 1) := by decide +kernel
theorem dX3_giveBack_0 : decode cX3_giveBack 0 = .ok (.aload_n 0, 1) := by decide +kernel
theorem dX3_giveBack_1 : decode cX3_giveBack 1 = .ok (.getfield 26, 3) := by decide +kernel
theorem dX3_giveBack_4 : decode cX3_giveBack 4 = .ok (.iload_n 1, 1) := by decide +kernel
theorem dX3_giveBack_5 : decode cX3_giveBack 5 = .ok (.invokevirtual 103, 3) := by decide +kernel
theorem dX3_giveBack_8 : decode cX3_giveBack 8 = .ok (.istore_n 2, 1) := by decide +kernel
theorem dX3_giveBack_9 : decode cX3_giveBack 9 = .ok (.iconst 0, 1) := by decide +kernel
theorem dX3_giveBack_10 : decode cX3_giveBack 10 = .ok (.istore_n 3, 1) := by decide +kernel
theorem dX3_giveBack_11 : decode cX3_giveBack 11 = .ok (.iload_n 3, 1) := by decide +kernel
theorem dX3_giveBack_12 : decode cX3_giveBack 12 = .ok (.iload_n 2, 1) := by decide +kernel
theorem dX3_giveBack_13 : decode cX3_giveBack 13 = .ok (.if_icmp .ge 17, 3) := by decide +kernel
theorem dX3_giveBack_16 : decode cX3_giveBack 16 = .ok (.aload_n 0, 1) := by decide +kernel
theorem dX3_giveBack_17 : decode cX3_giveBack 17 = .ok (.getfield 20, 3) := by decide +kernel
theorem dX3_giveBack_20 : decode cX3_giveBack 20 = .ok (.iload_n 1, 1) := by decide +kernel
theorem dX3_giveBack_21 : decode cX3_giveBack 21 = .ok (.invokevirtual 53, 3) := by decide +kernel
theorem dX3_giveBack_24 : decode cX3_giveBack 24 = .ok (.iinc 3 1, 3) := by decide +kernel
theorem dX3_giveBack_27 : decode cX3_giveBack 27 = .ok (.goto (-16), 3) := by decide +kernel
theorem dX3_giveBack_30 : decode cX3_giveBack 30 = .ok (.return_, 1) := by decide +kernel
theorem dJ9_floorMod_7cf53_0 : decode cJ9_floorMod_7cf53 0 = .ok (.iload_n 0, 1) := by decide +kernel
theorem dJ9_floorMod_7cf53_1 : decode cJ9_floorMod_7cf53 1 = .ok (.iload_n 1, 1) := by decide +kernel
theorem dJ9_floorMod_7cf53_2 : decode cJ9_floorMod_7cf53 2 = .ok (.irem, 1) := by decide +kernel
theorem dJ9_floorMod_7cf53_3 : decode cJ9_floorMod_7cf53 3 = .ok (.istore_n 2, 1) := by decide +kernel
theorem dJ9_floorMod_7cf53_4 : decode cJ9_floorMod_7cf53 4 = .ok (.iload_n 0, 1) := by decide +kernel
theorem dJ9_floorMod_7cf53_5 : decode cJ9_floorMod_7cf53 5 = .ok (.iload_n 1, 1) := by decide +kernel
theorem dJ9_floorMod_7cf53_6 : decode cJ9_floorMod_7cf53 6 = .ok (.ixor, 1) := by decide +kernel
theorem dJ9_floorMod_7cf53_7 : decode cJ9_floorMod_7cf53 7 = .ok (.ifCond .ge 11, 3) := by decide +kernel
theorem dJ9_floorMod_7cf53_10 : decode cJ9_floorMod_7cf53 10 = .ok (.iload_n 2, 1) := by decide +kernel
theorem dJ9_floorMod_7cf53_11 : decode cJ9_floorMod_7cf53 11 = .ok (.ifCond .eq 7, 3) := by decide +kernel
theorem dJ9_floorMod_7cf53_14 : decode cJ9_floorMod_7cf53 14 = .ok (.iload_n 2, 1) := by decide +kernel
theorem dJ9_floorMod_7cf53_15 : decode cJ9_floorMod_7cf53 15 = .ok (.iload_n 1, 1) := by decide +kernel
theorem dJ9_floorMod_7cf53_16 : decode cJ9_floorMod_7cf53 16 = .ok (.iadd, 1) := by decide +kernel
theorem dJ9_floorMod_7cf53_17 : decode cJ9_floorMod_7cf53 17 = .ok (.ireturn, 1) := by decide +kernel
theorem dJ9_floorMod_7cf53_18 : decode cJ9_floorMod_7cf53 18 = .ok (.iload_n 2, 1) := by decide +kernel
theorem dJ9_floorMod_7cf53_19 : decode cJ9_floorMod_7cf53 19 = .ok (.ireturn, 1) := by decide +kernel
theorem dJ9_max_7cf53_0 : decode cJ9_max_7cf53 0 = .ok (.iload_n 0, 1) := by decide +kernel
theorem dJ9_max_7cf53_1 : decode cJ9_max_7cf53 1 = .ok (.iload_n 1, 1) := by decide +kernel
theorem dJ9_max_7cf53_2 : decode cJ9_max_7cf53 2 = .ok (.if_icmp .lt 7, 3) := by decide +kernel
theorem dJ9_max_7cf53_5 : decode cJ9_max_7cf53 5 = .ok (.iload_n 0, 1) := by decide +kernel
theorem dJ9_max_7cf53_6 : decode cJ9_max_7cf53 6 = .ok (.goto 4, 3) := by decide +kernel
theorem dJ9_max_7cf53_9 : decode cJ9_max_7cf53 9 = .ok (.iload_n 1, 1) := by decide +kernel
theorem dJ9_max_7cf53_10 : decode cJ9_max_7cf53 10 = .ok (.ireturn, 1) := by decide +kernel
end
section
theorem dX4_init_0 : decode cX4_init 0 = .ok (.aload_n 0, 1) := by decide +kernel
theorem dX4_init_1 : decode cX4_init 1 = .ok (.invokespecial 1, 3) := by decide +kernel
theorem dX4_init_4 : decode cX4_init 4 = .ok (.aload_n 0, 1) := by decide +kernel
theorem dX4_init_5 : decode cX4_init 5 = .ok (.bipush 6, 2) := by decide +kernel
theorem dX4_init_7 : decode cX4_init 7 = .ok (.anewarray 9, 3) := by decide +kernel
theorem dX4_init_10 : decode cX4_init 10 = .ok (.putfield 11, 3) := by decide +kernel
theorem dX4_init_13 : decode cX4_init 13 = .ok (.iconst 0, 1) := by decide +kernel
theorem dX4_init_14 : decode cX4_init 14 = .ok (.istore_n 1, 1) := by decide +kernel
theorem dX4_init_15 : decode cX4_init 15 = .ok (.iload_n 1, 1) := by decide +kernel
theorem dX4_init_16 : decode cX4_init 16 = .ok (.bipush 6, 2) := by decide +kernel
theorem dX4_init_18 : decode cX4_init 18 = .ok (.if_icmp .ge 22, 3) := by decide +kernel
theorem dX4_init_21 : decode cX4_init 21 = .ok (.aload_n 0, 1) := by decide +kernel
theorem dX4_init_22 : decode cX4_init 22 = .ok (.getfield 11, 3) := by decide +kernel
theorem dX4_init_25 : decode cX4_init 25 = .ok (.iload_n 1, 1) := by decide +kernel
theorem dX4_init_26 : decode cX4_init 26 = .ok (.new 9, 3) := by decide +kernel
theorem dX4_init_29 : decode cX4_init 29 = .ok (.dup, 1) := by decide +kernel
theorem dX4_init_30 : decode cX4_init 30 = .ok (.invokespecial 15, 3) := by decide +kernel
theorem dX4_init_33 : decode cX4_init 33 = .ok (.aastore, 1) := by decide +kernel
theorem dX4_init_34 : decode cX4_init 34 = .ok (.iinc 1 1, 3) := by decide +kernel
theorem dX4_init_37 : decode cX4_init 37 = .ok (.goto (-22), 3) := by decide +kernel
theorem dX4_init_40 : decode cX4_init 40 = .ok (.aload_n 0, 1) := by decide +kernel
theorem dX4_init_41 : decode cX4_init 41 = .ok (.bipush 6, 2) := by decide +kernel
theorem dX4_init_43 : decode cX4_init 43 = .ok (.anewarray 16, 3) := by decide +kernel
theorem dX4_init_46 : decode cX4_init 46 = .ok (.putfield 18, 3) := by decide +kernel
theorem dX4_init_49 : decode cX4_init 49 = .ok (.iconst 0, 1) := by decide +kernel
theorem dX4_init_50 : decode cX4_init 50 = .ok (.istore_n 1, 1) := by decide +kernel
theorem dX4_init_51 : decode cX4_init 51 = .ok (.iload_n 1, 1) := by decide +kernel
theorem dX4_init_52 : decode cX4_init 52 = .ok (.bipush 6, 2) := by decide +kernel
theorem dX4_init_54 : decode cX4_init 54 = .ok (.if_icmp .ge 22, 3) := by decide +kernel
theorem dX4_init_57 : decode cX4_init 57 = .ok (.aload_n 0, 1) := by decide +kernel
theorem dX4_init_58 : decode cX4_init 58 = .ok (.getfield 18, 3) := by decide +kernel
theorem dX4_init_61 : decode cX4_init 61 = .ok (.iload_n 1, 1) := by decide +kernel
theorem dX4_init_62 : decode cX4_init 62 = .ok (.new 16, 3) := by decide +kernel
theorem dX4_init_65 : decode cX4_init 65 = .ok (.dup, 1) := by decide +kernel
theorem dX4_init_66 : decode cX4_init 66 = .ok (.invokespecial 22, 3) := by decide +kernel
theorem dX4_init_69 : decode cX4_init 69 = .ok (.aastore, 1) := by decide +kernel
theorem dX4_init_70 : decode cX4_init 70 = .ok (.iinc 1 1, 3) := by decide +kernel
theorem dX4_init_73 : decode cX4_init 73 = .ok (.goto (-22), 3) := by decide +kernel
theorem dX4_init_76 : decode cX4_init 76 = .ok (.aload_n 0, 1) := by decide +kernel
theorem dX4_init_77 : decode cX4_init 77 = .ok (.new 23, 3) := by decide +kernel
theorem dX4_init_80 : decode cX4_init 80 = .ok (.dup, 1) := by decide +kernel
theorem dX4_init_81 : decode cX4_init 81 = .ok (.sipush 192, 3) := by decide +kernel
theorem dX4_init_84 : decode cX4_init 84 = .ok (.invokespecial 25, 3) := by decide +kernel
theorem dX4_init_87 : decode cX4_init 87 = .ok (.putfield 28, 3) := by decide +kernel
theorem dX4_init_90 : decode cX4_init 90 = .ok (.aload_n 0, 1) := by decide +kernel
theorem dX4_init_91 : decode cX4_init 91 = .ok (.sipush 1000, 3) := by decide +kernel
theorem dX4_init_94 : decode cX4_init 94 = .ok (.newarray .byte, 2) := by decide +kernel
theorem dX4_init_96 : decode cX4_init 96 = .ok (.putfield 32, 3) := by decide +kernel
theorem dX4_init_99 : decode cX4_init 99 = .ok (.aload_n 0, 1) := by decide +kernel
theorem dX4_init_100 : decode cX4_init 100 = .ok (.iconst 0, 1) := by decide +kernel
theorem dX4_init_101 : decode cX4_init 101 = .ok (.putfield 36, 3) := by decide +kernel
theorem dX4_init_104 : decode cX4_init 104 = .ok (.aload_n 0, 1) := by decide +kernel
theorem dX4_init_105 : decode cX4_init 105 = .ok (.iconst 0, 1) := by decide +kernel
theorem dX4_init_106 : decode cX4_init 106 = .ok (.putfield 40, 3) := by decide +kernel
theorem dX4_init_109 : decode cX4_init 109 = .ok (.return_, 1) := by decide +kernel
theorem dX4_source_0 : decode cX4_source 0 = .ok (.iload_n 1, 1) := by decide +kernel
theorem dX4_source_1 : decode cX4_source 1 = .ok (.iconst 0, 1) := by decide +kernel
theorem dX4_source_2 : decode cX4_source 2 = .ok (.iconst 5, 1) := by decide +kernel
theorem dX4_source_3 : decode cX4_source 3 = .ok (.invokestatic 43, 3) := by decide +kernel
theorem dX4_source_6 : decode cX4_source 6 = .ok (.ifCond .ne 11, 3) := by decide +kernel
theorem dX4_source_9 : decode cX4_source 9 = .ok (.new 47, 3) := by decide +kernel
theorem dX4_source_12 : decode cX4_source 12 = .ok (.dup, 1) := by decide +kernel
theorem dX4_source_13 : decode cX4_source 13 = .ok (.invokespecial 49, 3) := by decide +kernel
theorem dX4_source_16 : decode cX4_source 16 = .ok (.athrow, 1) := by decide +kernel
theorem dX4_source_17 : decode cX4_source 17 = .ok (.iload_n 2, 1) := by decide +kernel
theorem dX4_source_18 : decode cX4_source 18 = .ok (.iconst 0, 1) := by decide +kernel
theorem dX4_source_19 : decode cX4_source 19 = .ok (.iconst 3, 1) := by decide +kernel
theorem dX4_source_20 : decode cX4_source 20 = .ok (.invokestatic 43, 3) := by decide +kernel
theorem dX4_source_23 : decode cX4_source 23 = .ok (.ifCond .eq 59, 3) := by decide +kernel
theorem dX4_source_26 : decode cX4_source 26 = .ok (.iload_n 3, 1) := by decide +kernel
theorem dX4_source_27 : decode cX4_source 27 = .ok (.iconst 1, 1) := by decide +kernel
theorem dX4_source_28 : decode cX4_source 28 = .ok (.bipush 30, 2) := by decide +kernel
theorem dX4_source_30 : decode cX4_source 30 = .ok (.invokestatic 43, 3) := by decide +kernel
theorem dX4_source_33 : decode cX4_source 33 = .ok (.ifCond .eq 49, 3) := by decide +kernel
theorem dX4_source_36 : decode cX4_source 36 = .ok (.iload 4, 2) := by decide +kernel
theorem dX4_source_38 : decode cX4_source 38 = .ok (.iconst 1, 1) := by decide +kernel
theorem dX4_source_39 : decode cX4_source 39 = .ok (.sipush 2000, 3) := by decide +kernel
theorem dX4_source_42 : decode cX4_source 42 = .ok (.invokestatic 43, 3) := by decide +kernel
theorem dX4_source_45 : decode cX4_source 45 = .ok (.ifCond .eq 37, 3) := by decide +kernel
theorem dX4_source_48 : decode cX4_source 48 = .ok (.iload 5, 2) := by decide +kernel
theorem dX4_source_50 : decode cX4_source 50 = .ok (.iconst 1, 1) := by decide +kernel
theorem dX4_source_51 : decode cX4_source 51 = .ok (.bipush 30, 2) := by decide +kernel
theorem dX4_source_53 : decode cX4_source 53 = .ok (.invokestatic 43, 3) := by decide +kernel
theorem dX4_source_56 : decode cX4_source 56 = .ok (.ifCond .eq 26, 3) := by decide +kernel
theorem dX4_source_59 : decode cX4_source 59 = .ok (.iload 6, 2) := by decide +kernel
theorem dX4_source_61 : decode cX4_source 61 = .ok (.iconst 1, 1) := by decide +kernel
theorem dX4_source_62 : decode cX4_source 62 = .ok (.sipush 500, 3) := by decide +kernel
theorem dX4_source_65 : decode cX4_source 65 = .ok (.invokestatic 43, 3) := by decide +kernel
theorem dX4_source_68 : decode cX4_source 68 = .ok (.ifCond .eq 14, 3) := by decide +kernel
theorem dX4_source_71 : decode cX4_source 71 = .ok (.iload 7, 2) := by decide +kernel
theorem dX4_source_73 : decode cX4_source 73 = .ok (.iconst 0, 1) := by decide +kernel
theorem dX4_source_74 : decode cX4_source 74 = .ok (.bipush 31, 2) := by decide +kernel
theorem dX4_source_76 : decode cX4_source 76 = .ok (.invokestatic 43, 3) := by decide +kernel
theorem dX4_source_79 : decode cX4_source 79 = .ok (.ifCond .ne 11, 3) := by decide +kernel
theorem dX4_source_82 : decode cX4_source 82 = .ok (.new 50, 3) := by decide +kernel
theorem dX4_source_85 : decode cX4_source 85 = .ok (.dup, 1) := by decide +kernel
theorem dX4_source_86 : decode cX4_source 86 = .ok (.invokespecial 52, 3) := by decide +kernel
theorem dX4_source_89 : decode cX4_source 89 = .ok (.athrow, 1) := by decide +kernel
theorem dX4_source_90 : decode cX4_source 90 = .ok (.aload_n 0, 1) := by decide +kernel
theorem dX4_source_91 : decode cX4_source 91 = .ok (.getfield 11, 3) := by decide +kernel
theorem dX4_source_94 : decode cX4_source 94 = .ok (.iload_n 1, 1) := by decide +kernel
theorem dX4_source_95 : decode cX4_source 95 = .ok (.aaload, 1) := by decide +kernel
theorem dX4_source_96 : decode cX4_source 96 = .ok (.astore 8, 2) := by decide +kernel
theorem dX4_source_98 : decode cX4_source 98 = .ok (.aload 8, 2) := by decide +kernel
theorem dX4_source_100 : decode cX4_source 100 = .ok (.getfield 53, 3) := by decide +kernel
theorem dX4_source_103 : decode cX4_source 103 = .ok (.ifCond .ne 12, 3) := by decide +kernel
theorem dX4_source_106 : decode cX4_source 106 = .ok (.aload_n 0, 1) := by decide +kernel
theorem dX4_source_107 : decode cX4_source 107 = .ok (.iload 7, 2) := by decide +kernel
theorem dX4_source_109 : decode cX4_source 109 = .ok (.invokevirtual 57, 3) := by decide +kernel
theorem dX4_source_112 : decode cX4_source 112 = .ok (.ifCond .eq 11, 3) := by decide +kernel
theorem dX4_source_115 : decode cX4_source 115 = .ok (.new 61, 3) := by decide +kernel
theorem dX4_source_118 : decode cX4_source 118 = .ok (.dup, 1) := by decide +kernel
theorem dX4_source_119 : decode cX4_source 119 = .ok (.invokespecial 63, 3) := by decide +kernel
theorem dX4_source_122 : decode cX4_source 122 = .ok (.athrow, 1) := by decide +kernel
theorem dX4_source_123 : decode cX4_source 123 = .ok (.aload 8, 2) := by decide +kernel
theorem dX4_source_125 : decode cX4_source 125 = .ok (.iload_n 2, 1) := by decide +kernel
theorem dX4_source_126 : decode cX4_source 126 = .ok (.iload_n 3, 1) := by decide +kernel
theorem dX4_source_127 : decode cX4_source 127 = .ok (.iload 4, 2) := by decide +kernel
theorem dX4_source_129 : decode cX4_source 129 = .ok (.iload 5, 2) := by decide +kernel
theorem dX4_source_131 : decode cX4_source 131 = .ok (.iload 6, 2) := by decide +kernel
theorem dX4_source_133 : decode cX4_source 133 = .ok (.iload 7, 2) := by decide +kernel
theorem dX4_source_135 : decode cX4_source 135 = .ok (.invokevirtual 64, 3) := by decide +kernel
theorem dX4_source_138 : decode cX4_source 138 = .ok (.aload_n 0, 1) := by decide +kernel
theorem dX4_source_139 : decode cX4_source 139 = .ok (.invokevirtual 68, 3) := by decide +kernel
theorem dX4_source_142 : decode cX4_source 142 = .ok (.ifCond .ne 17, 3) := by decide +kernel
theorem dX4_source_145 : decode cX4_source 145 = .ok (.aload 8, 2) := by decide +kernel
theorem dX4_source_147 : decode cX4_source 147 = .ok (.iconst 0, 1) := by decide +kernel
theorem dX4_source_148 : decode cX4_source 148 = .ok (.putfield 53, 3) := by decide +kernel
theorem dX4_source_151 : decode cX4_source 151 = .ok (.new 61, 3) := by decide +kernel
theorem dX4_source_154 : decode cX4_source 154 = .ok (.dup, 1) := by decide +kernel
theorem dX4_source_155 : decode cX4_source 155 = .ok (.invokespecial 63, 3) := by decide +kernel
theorem dX4_source_158 : decode cX4_source 158 = .ok (.athrow, 1) := by decide +kernel
theorem dX4_source_159 : decode cX4_source 159 = .ok (.aload 8, 2) := by decide +kernel
theorem dX4_source_161 : decode cX4_source 161 = .ok (.invokevirtual 72, 3) := by decide +kernel
theorem dX4_source_164 : decode cX4_source 164 = .ok (.return_, 1) := by decide +kernel
theorem dX4_base_0 : decode cX4_base 0 = .ok (.iload_n 1, 1) := by decide +kernel
theorem dX4_base_1 : decode cX4_base 1 = .ok (.iconst 0, 1) := by decide +kernel
theorem dX4_base_2 : decode cX4_base 2 = .ok (.iconst 5, 1) := by decide +kernel
theorem dX4_base_3 : decode cX4_base 3 = .ok (.invokestatic 43, 3) := by decide +kernel
theorem dX4_base_6 : decode cX4_base 6 = .ok (.ifCond .ne 11, 3) := by decide +kernel
theorem dX4_base_9 : decode cX4_base 9 = .ok (.new 47, 3) := by decide +kernel
theorem dX4_base_12 : decode cX4_base 12 = .ok (.dup, 1) := by decide +kernel
theorem dX4_base_13 : decode cX4_base 13 = .ok (.invokespecial 49, 3) := by decide +kernel
theorem dX4_base_16 : decode cX4_base 16 = .ok (.athrow, 1) := by decide +kernel
theorem dX4_base_17 : decode cX4_base 17 = .ok (.iload_n 2, 1) := by decide +kernel
theorem dX4_base_18 : decode cX4_base 18 = .ok (.iconst 1, 1) := by decide +kernel
theorem dX4_base_19 : decode cX4_base 19 = .ok (.sipush 2000, 3) := by decide +kernel
theorem dX4_base_22 : decode cX4_base 22 = .ok (.invokestatic 43, 3) := by decide +kernel
theorem dX4_base_25 : decode cX4_base 25 = .ok (.ifCond .eq 25, 3) := by decide +kernel
theorem dX4_base_28 : decode cX4_base 28 = .ok (.iload_n 3, 1) := by decide +kernel
theorem dX4_base_29 : decode cX4_base 29 = .ok (.iconst 1, 1) := by decide +kernel
theorem dX4_base_30 : decode cX4_base 30 = .ok (.sipush 500, 3) := by decide +kernel
theorem dX4_base_33 : decode cX4_base 33 = .ok (.invokestatic 43, 3) := by decide +kernel
theorem dX4_base_36 : decode cX4_base 36 = .ok (.ifCond .eq 14, 3) := by decide +kernel
theorem dX4_base_39 : decode cX4_base 39 = .ok (.iload 4, 2) := by decide +kernel
theorem dX4_base_41 : decode cX4_base 41 = .ok (.iconst 0, 1) := by decide +kernel
theorem dX4_base_42 : decode cX4_base 42 = .ok (.bipush 31, 2) := by decide +kernel
theorem dX4_base_44 : decode cX4_base 44 = .ok (.invokestatic 43, 3) := by decide +kernel
theorem dX4_base_47 : decode cX4_base 47 = .ok (.ifCond .ne 11, 3) := by decide +kernel
theorem dX4_base_50 : decode cX4_base 50 = .ok (.new 50, 3) := by decide +kernel
theorem dX4_base_53 : decode cX4_base 53 = .ok (.dup, 1) := by decide +kernel
theorem dX4_base_54 : decode cX4_base 54 = .ok (.invokespecial 52, 3) := by decide +kernel
theorem dX4_base_57 : decode cX4_base 57 = .ok (.athrow, 1) := by decide +kernel
theorem dX4_base_58 : decode cX4_base 58 = .ok (.aload_n 0, 1) := by decide +kernel
theorem dX4_base_59 : decode cX4_base 59 = .ok (.getfield 18, 3) := by decide +kernel
theorem dX4_base_62 : decode cX4_base 62 = .ok (.iload_n 1, 1) := by decide +kernel
theorem dX4_base_63 : decode cX4_base 63 = .ok (.aaload, 1) := by decide +kernel
theorem dX4_base_64 : decode cX4_base 64 = .ok (.astore 5, 2) := by decide +kernel
theorem dX4_base_66 : decode cX4_base 66 = .ok (.aload 5, 2) := by decide +kernel
theorem dX4_base_68 : decode cX4_base 68 = .ok (.getfield 75, 3) := by decide +kernel
theorem dX4_base_71 : decode cX4_base 71 = .ok (.ifCond .ne 12, 3) := by decide +kernel
theorem dX4_base_74 : decode cX4_base 74 = .ok (.aload_n 0, 1) := by decide +kernel
theorem dX4_base_75 : decode cX4_base 75 = .ok (.iload 4, 2) := by decide +kernel
theorem dX4_base_77 : decode cX4_base 77 = .ok (.invokevirtual 76, 3) := by decide +kernel
theorem dX4_base_80 : decode cX4_base 80 = .ok (.ifCond .eq 11, 3) := by decide +kernel
theorem dX4_base_83 : decode cX4_base 83 = .ok (.new 61, 3) := by decide +kernel
theorem dX4_base_86 : decode cX4_base 86 = .ok (.dup, 1) := by decide +kernel
theorem dX4_base_87 : decode cX4_base 87 = .ok (.invokespecial 63, 3) := by decide +kernel
theorem dX4_base_90 : decode cX4_base 90 = .ok (.athrow, 1) := by decide +kernel
theorem dX4_base_91 : decode cX4_base 91 = .ok (.aload 5, 2) := by decide +kernel
theorem dX4_base_93 : decode cX4_base 93 = .ok (.iload_n 2, 1) := by decide +kernel
theorem dX4_base_94 : decode cX4_base 94 = .ok (.iload_n 3, 1) := by decide +kernel
theorem dX4_base_95 : decode cX4_base 95 = .ok (.iload 4, 2) := by decide +kernel
theorem dX4_base_97 : decode cX4_base 97 = .ok (.aload_n 0, 1) := by decide +kernel
theorem dX4_base_98 : decode cX4_base 98 = .ok (.getfield 40, 3) := by decide +kernel
theorem dX4_base_101 : decode cX4_base 101 = .ok (.invokevirtual 79, 3) := by decide +kernel
theorem dX4_base_104 : decode cX4_base 104 = .ok (.aload 5, 2) := by decide +kernel
theorem dX4_base_106 : decode cX4_base 106 = .ok (.aload_n 0, 1) := by decide +kernel
theorem dX4_base_107 : decode cX4_base 107 = .ok (.invokevirtual 68, 3) := by decide +kernel
theorem dX4_base_110 : decode cX4_base 110 = .ok (.putfield 75, 3) := by decide +kernel
theorem dX4_base_113 : decode cX4_base 113 = .ok (.aload 5, 2) := by decide +kernel
theorem dX4_base_115 : decode cX4_base 115 = .ok (.getfield 75, 3) := by decide +kernel
theorem dX4_base_118 : decode cX4_base 118 = .ok (.ireturn, 1) := by decide +kernel
theorem dX4_event_0 : decode cX4_event 0 = .ok (.aload_n 0, 1) := by decide +kernel
theorem dX4_event_1 : decode cX4_event 1 = .ok (.iload_n 1, 1) := by decide +kernel
theorem dX4_event_2 : decode cX4_event 2 = .ok (.invokevirtual 82, 3) := by decide +kernel
theorem dX4_event_5 : decode cX4_event 5 = .ok (.astore_n 2, 1) := by decide +kernel
theorem dX4_event_6 : decode cX4_event 6 = .ok (.aload_n 2, 1) := by decide +kernel
theorem dX4_event_7 : decode cX4_event 7 = .ok (.aload_n 0, 1) := by decide +kernel
theorem dX4_event_8 : decode cX4_event 8 = .ok (.getfield 40, 3) := by decide +kernel
theorem dX4_event_11 : decode cX4_event 11 = .ok (.invokevirtual 86, 3) := by decide +kernel
theorem dX4_event_14 : decode cX4_event 14 = .ok (.ifCond .ne 5, 3) := by decide +kernel
theorem dX4_event_17 : decode cX4_event 17 = .ok (.iconst 0, 1) := by decide +kernel
theorem dX4_event_18 : decode cX4_event 18 = .ok (.ireturn, 1) := by decide +kernel
theorem dX4_event_19 : decode cX4_event 19 = .ok (.aload_n 2, 1) := by decide +kernel
theorem dX4_event_20 : decode cX4_event 20 = .ok (.getfield 89, 3) := by decide +kernel
theorem dX4_event_23 : decode cX4_event 23 = .ok (.ifCond .le 11, 3) := by decide +kernel
theorem dX4_event_26 : decode cX4_event 26 = .ok (.aload_n 0, 1) := by decide +kernel
theorem dX4_event_27 : decode cX4_event 27 = .ok (.getfield 28, 3) := by decide +kernel
theorem dX4_event_30 : decode cX4_event 30 = .ok (.iload_n 1, 1) := by decide +kernel
theorem dX4_event_31 : decode cX4_event 31 = .ok (.invokevirtual 92, 3) := by decide +kernel
theorem dX4_event_34 : decode cX4_event 34 = .ok (.iconst 1, 1) := by decide +kernel
theorem dX4_event_35 : decode cX4_event 35 = .ok (.ireturn, 1) := by decide +kernel
theorem dX4_tick_0 : decode cX4_tick 0 = .ok (.aload_n 0, 1) := by decide +kernel
theorem dX4_tick_1 : decode cX4_tick 1 = .ok (.invokevirtual 95, 3) := by decide +kernel
theorem dX4_tick_4 : decode cX4_tick 4 = .ok (.aload_n 0, 1) := by decide +kernel
theorem dX4_tick_5 : decode cX4_tick 5 = .ok (.invokevirtual 98, 3) := by decide +kernel
theorem dX4_tick_8 : decode cX4_tick 8 = .ok (.istore_n 1, 1) := by decide +kernel
theorem dX4_tick_9 : decode cX4_tick 9 = .ok (.aload_n 0, 1) := by decide +kernel
theorem dX4_tick_10 : decode cX4_tick 10 = .ok (.getfield 32, 3) := by decide +kernel
theorem dX4_tick_13 : decode cX4_tick 13 = .ok (.aload_n 0, 1) := by decide +kernel
theorem dX4_tick_14 : decode cX4_tick 14 = .ok (.getfield 40, 3) := by decide +kernel
theorem dX4_tick_17 : decode cX4_tick 17 = .ok (.sipush 1000, 3) := by decide +kernel
theorem dX4_tick_20 : decode cX4_tick 20 = .ok (.invokestatic 102, 3) := by decide +kernel
theorem dX4_tick_23 : decode cX4_tick 23 = .ok (.iload_n 1, 1) := by decide +kernel
theorem dX4_tick_24 : decode cX4_tick 24 = .ok (.i2b, 1) := by decide +kernel
theorem dX4_tick_25 : decode cX4_tick 25 = .ok (.bastore, 1) := by decide +kernel
theorem dX4_tick_26 : decode cX4_tick 26 = .ok (.aload_n 0, 1) := by decide +kernel
theorem dX4_tick_27 : decode cX4_tick 27 = .ok (.dup, 1) := by decide +kernel
theorem dX4_tick_28 : decode cX4_tick 28 = .ok (.getfield 40, 3) := by decide +kernel
theorem dX4_tick_31 : decode cX4_tick 31 = .ok (.iconst 1, 1) := by decide +kernel
theorem dX4_tick_32 : decode cX4_tick 32 = .ok (.iadd, 1) := by decide +kernel
theorem dX4_tick_33 : decode cX4_tick 33 = .ok (.putfield 40, 3) := by decide +kernel
theorem dX4_tick_36 : decode cX4_tick 36 = .ok (.aload_n 0, 1) := by decide +kernel
theorem dX4_tick_37 : decode cX4_tick 37 = .ok (.invokevirtual 108, 3) := by decide +kernel
theorem dX4_tick_40 : decode cX4_tick 40 = .ok (.iload_n 1, 1) := by decide +kernel
theorem dX4_tick_41 : decode cX4_tick 41 = .ok (.ireturn, 1) := by decide +kernel
theorem dX4_ticks_0 : decode cX4_ticks 0 = .ok (.iload_n 1, 1) := by decide +kernel
theorem dX4_ticks_1 : decode cX4_ticks 1 = .ok (.iconst 0, 1) := by decide +kernel
theorem dX4_ticks_2 : decode cX4_ticks 2 = .ok (.sipush 500, 3) := by decide +kernel
theorem dX4_ticks_5 : decode cX4_ticks 5 = .ok (.invokestatic 43, 3) := by decide +kernel
theorem dX4_ticks_8 : decode cX4_ticks 8 = .ok (.ifCond .ne 11, 3) := by decide +kernel
theorem dX4_ticks_11 : decode cX4_ticks 11 = .ok (.new 50, 3) := by decide +kernel
theorem dX4_ticks_14 : decode cX4_ticks 14 = .ok (.dup, 1) := by decide +kernel
theorem dX4_ticks_15 : decode cX4_ticks 15 = .ok (.invokespecial 52, 3) := by decide +kernel
theorem dX4_ticks_18 : decode cX4_ticks 18 = .ok (.athrow, 1) := by decide +kernel
theorem dX4_ticks_19 : decode cX4_ticks 19 = .ok (.iconst 0, 1) := by decide +kernel
theorem dX4_ticks_20 : decode cX4_ticks 20 = .ok (.istore_n 2, 1) := by decide +kernel
theorem dX4_ticks_21 : decode cX4_ticks 21 = .ok (.iconst 0, 1) := by decide +kernel
theorem dX4_ticks_22 : decode cX4_ticks 22 = .ok (.istore_n 3, 1) := by decide +kernel
theorem dX4_ticks_23 : decode cX4_ticks 23 = .ok (.iload_n 3, 1) := by decide +kernel
theorem dX4_ticks_24 : decode cX4_ticks 24 = .ok (.iload_n 1, 1) := by decide +kernel
theorem dX4_ticks_25 : decode cX4_ticks 25 = .ok (.if_icmp .ge 19, 3) := by decide +kernel
theorem dX4_ticks_28 : decode cX4_ticks 28 = .ok (.aload_n 0, 1) := by decide +kernel
theorem dX4_ticks_29 : decode cX4_ticks 29 = .ok (.invokevirtual 111, 3) := by decide +kernel
theorem dX4_ticks_32 : decode cX4_ticks 32 = .ok (.ifCond .eq 6, 3) := by decide +kernel
theorem dX4_ticks_35 : decode cX4_ticks 35 = .ok (.iinc 2 1, 3) := by decide +kernel
theorem dX4_ticks_38 : decode cX4_ticks 38 = .ok (.iinc 3 1, 3) := by decide +kernel
theorem dX4_ticks_41 : decode cX4_ticks 41 = .ok (.goto (-18), 3) := by decide +kernel
theorem dX4_ticks_44 : decode cX4_ticks 44 = .ok (.iload_n 2, 1) := by decide +kernel
theorem dX4_ticks_45 : decode cX4_ticks 45 = .ok (.ireturn, 1) := by decide +kernel
theorem dX4_about_0 : decode cX4_about 0 = .ok (.aload_n 0, 1) := by decide +kernel
theorem dX4_about_1 : decode cX4_about 1 = .ok (.iload_n 1, 1) := by decide +kernel
theorem dX4_about_2 : decode cX4_about 2 = .ok (.invokevirtual 82, 3) := by decide +kernel
theorem dX4_about_5 : decode cX4_about 5 = .ok (.astore_n 3, 1) := by decide +kernel
theorem dX4_about_6 : decode cX4_about 6 = .ok (.iload_n 2, 1) := by decide +kernel
theorem dX4_about_7 : decode cX4_about 7 = .ok (.tableswitch 167 0 12 #[65, 70, 75, 80, 88, 101, 106, 114, 122, 130, 138, 143, 148], 65) := by decide +kernel
theorem dX4_about_72 : decode cX4_about 72 = .ok (.aload_n 3, 1) := by decide +kernel
theorem dX4_about_73 : decode cX4_about 73 = .ok (.getfield 114, 3) := by decide +kernel
theorem dX4_about_76 : decode cX4_about 76 = .ok (.ireturn, 1) := by decide +kernel
theorem dX4_about_77 : decode cX4_about 77 = .ok (.aload_n 3, 1) := by decide +kernel
theorem dX4_about_78 : decode cX4_about 78 = .ok (.getfield 117, 3) := by decide +kernel
theorem dX4_about_81 : decode cX4_about 81 = .ok (.ireturn, 1) := by decide +kernel
theorem dX4_about_82 : decode cX4_about 82 = .ok (.aload_n 3, 1) := by decide +kernel
theorem dX4_about_83 : decode cX4_about 83 = .ok (.getfield 120, 3) := by decide +kernel
theorem dX4_about_86 : decode cX4_about 86 = .ok (.ireturn, 1) := by decide +kernel
theorem dX4_about_87 : decode cX4_about 87 = .ok (.aload_n 3, 1) := by decide +kernel
theorem dX4_about_88 : decode cX4_about 88 = .ok (.getfield 123, 3) := by decide +kernel
theorem dX4_about_91 : decode cX4_about 91 = .ok (.getfield 126, 3) := by decide +kernel
theorem dX4_about_94 : decode cX4_about 94 = .ok (.ireturn, 1) := by decide +kernel
theorem dX4_about_95 : decode cX4_about 95 = .ok (.aload_n 3, 1) := by decide +kernel
theorem dX4_about_96 : decode cX4_about 96 = .ok (.getfield 129, 3) := by decide +kernel
theorem dX4_about_99 : decode cX4_about 99 = .ok (.ifCond .eq 7, 3) := by decide +kernel
theorem dX4_about_102 : decode cX4_about 102 = .ok (.iconst 1, 1) := by decide +kernel
theorem dX4_about_103 : decode cX4_about 103 = .ok (.goto 4, 3) := by decide +kernel
theorem dX4_about_106 : decode cX4_about 106 = .ok (.iconst 0, 1) := by decide +kernel
theorem dX4_about_107 : decode cX4_about 107 = .ok (.ireturn, 1) := by decide +kernel
theorem dX4_about_108 : decode cX4_about 108 = .ok (.aload_n 3, 1) := by decide +kernel
theorem dX4_about_109 : decode cX4_about 109 = .ok (.getfield 132, 3) := by decide +kernel
theorem dX4_about_112 : decode cX4_about 112 = .ok (.ireturn, 1) := by decide +kernel
theorem dX4_about_113 : decode cX4_about 113 = .ok (.aload_n 3, 1) := by decide +kernel
theorem dX4_about_114 : decode cX4_about 114 = .ok (.getfield 135, 3) := by decide +kernel
theorem dX4_about_117 : decode cX4_about 117 = .ok (.getfield 126, 3) := by decide +kernel
theorem dX4_about_120 : decode cX4_about 120 = .ok (.ireturn, 1) := by decide +kernel
theorem dX4_about_121 : decode cX4_about 121 = .ok (.aload_n 3, 1) := by decide +kernel
theorem dX4_about_122 : decode cX4_about 122 = .ok (.getfield 138, 3) := by decide +kernel
theorem dX4_about_125 : decode cX4_about 125 = .ok (.getfield 142, 3) := by decide +kernel
theorem dX4_about_128 : decode cX4_about 128 = .ok (.ireturn, 1) := by decide +kernel
theorem dX4_about_129 : decode cX4_about 129 = .ok (.aload_n 3, 1) := by decide +kernel
theorem dX4_about_130 : decode cX4_about 130 = .ok (.getfield 138, 3) := by decide +kernel
theorem dX4_about_133 : decode cX4_about 133 = .ok (.invokevirtual 145, 3) := by decide +kernel
theorem dX4_about_136 : decode cX4_about 136 = .ok (.ireturn, 1) := by decide +kernel
theorem dX4_about_137 : decode cX4_about 137 = .ok (.aload_n 3, 1) := by decide +kernel
theorem dX4_about_138 : decode cX4_about 138 = .ok (.getfield 138, 3) := by decide +kernel
theorem dX4_about_141 : decode cX4_about 141 = .ok (.invokevirtual 148, 3) := by decide +kernel
theorem dX4_about_144 : decode cX4_about 144 = .ok (.ireturn, 1) := by decide +kernel
theorem dX4_about_145 : decode cX4_about 145 = .ok (.aload_n 3, 1) := by decide +kernel
theorem dX4_about_146 : decode cX4_about 146 = .ok (.getfield 151, 3) := by decide +kernel
theorem dX4_about_149 : decode cX4_about 149 = .ok (.ireturn, 1) := by decide +kernel
theorem dX4_about_150 : decode cX4_about 150 = .ok (.aload_n 3, 1) := by decide +kernel
theorem dX4_about_151 : decode cX4_about 151 = .ok (.getfield 154, 3) := by decide +kernel
theorem dX4_about_154 : decode cX4_about 154 = .ok (.ireturn, 1) := by decide +kernel
theorem dX4_about_155 : decode cX4_about 155 = .ok (.aload_n 3, 1) := by decide +kernel
theorem dX4_about_156 : decode cX4_about 156 = .ok (.getfield 123, 3) := by decide +kernel
theorem dX4_about_159 : decode cX4_about 159 = .ok (.getfield 126, 3) := by decide +kernel
theorem dX4_about_162 : decode cX4_about 162 = .ok (.ifCond .le 10, 3) := by decide +kernel
theorem dX4_about_165 : decode cX4_about 165 = .ok (.aload_n 3, 1) := by decide +kernel
theorem dX4_about_166 : decode cX4_about 166 = .ok (.getfield 157, 3) := by decide +kernel
theorem dX4_about_169 : decode cX4_about 169 = .ok (.goto 4, 3) := by decide +kernel
theorem dX4_about_172 : decode cX4_about 172 = .ok (.iconst (-1), 1) := by decide +kernel
theorem dX4_about_173 : decode cX4_about 173 = .ok (.ireturn, 1) := by decide +kernel
theorem dX4_about_174 : decode cX4_about 174 = .ok (.new 160, 3) := by decide +kernel
theorem dX4_about_177 : decode cX4_about 177 = .ok (.dup, 1) := by decide +kernel
theorem dX4_about_178 : decode cX4_about 178 = .ok (.invokespecial 162, 3) := by decide +kernel
theorem dX4_about_181 : decode cX4_about 181 = .ok (.athrow, 1) := by decide +kernel
theorem dX4_task_0 : decode cX4_task 0 = .ok (.iload_n 1, 1) := by decide +kernel
theorem dX4_task_1 : decode cX4_task 1 = .ok (.iconst 0, 1) := by decide +kernel
theorem dX4_task_2 : decode cX4_task 2 = .ok (.iconst 5, 1) := by decide +kernel
theorem dX4_task_3 : decode cX4_task 3 = .ok (.invokestatic 43, 3) := by decide +kernel
theorem dX4_task_6 : decode cX4_task 6 = .ok (.ifCond .eq 15, 3) := by decide +kernel
theorem dX4_task_9 : decode cX4_task 9 = .ok (.aload_n 0, 1) := by decide +kernel
theorem dX4_task_10 : decode cX4_task 10 = .ok (.getfield 18, 3) := by decide +kernel
theorem dX4_task_13 : decode cX4_task 13 = .ok (.iload_n 1, 1) := by decide +kernel
theorem dX4_task_14 : decode cX4_task 14 = .ok (.aaload, 1) := by decide +kernel
theorem dX4_task_15 : decode cX4_task 15 = .ok (.getfield 75, 3) := by decide +kernel
theorem dX4_task_18 : decode cX4_task 18 = .ok (.ifCond .ne 11, 3) := by decide +kernel
theorem dX4_task_21 : decode cX4_task 21 = .ok (.new 47, 3) := by decide +kernel
theorem dX4_task_24 : decode cX4_task 24 = .ok (.dup, 1) := by decide +kernel
theorem dX4_task_25 : decode cX4_task 25 = .ok (.invokespecial 49, 3) := by decide +kernel
theorem dX4_task_28 : decode cX4_task 28 = .ok (.athrow, 1) := by decide +kernel
theorem dX4_task_29 : decode cX4_task 29 = .ok (.aload_n 0, 1) := by decide +kernel
theorem dX4_task_30 : decode cX4_task 30 = .ok (.getfield 18, 3) := by decide +kernel
theorem dX4_task_33 : decode cX4_task 33 = .ok (.iload_n 1, 1) := by decide +kernel
theorem dX4_task_34 : decode cX4_task 34 = .ok (.aaload, 1) := by decide +kernel
theorem dX4_task_35 : decode cX4_task 35 = .ok (.astore_n 3, 1) := by decide +kernel
theorem dX4_task_36 : decode cX4_task 36 = .ok (.iload_n 2, 1) := by decide +kernel
theorem dX4_task_37 : decode cX4_task 37 = .ok (.tableswitch 52 0 3 #[31, 36, 41, 46], 31) := by decide +kernel
theorem dX4_task_68 : decode cX4_task 68 = .ok (.aload_n 3, 1) := by decide +kernel
theorem dX4_task_69 : decode cX4_task 69 = .ok (.getfield 163, 3) := by decide +kernel
theorem dX4_task_72 : decode cX4_task 72 = .ok (.ireturn, 1) := by decide +kernel
theorem dX4_task_73 : decode cX4_task 73 = .ok (.aload_n 3, 1) := by decide +kernel
theorem dX4_task_74 : decode cX4_task 74 = .ok (.getfield 166, 3) := by decide +kernel
theorem dX4_task_77 : decode cX4_task 77 = .ok (.ireturn, 1) := by decide +kernel
theorem dX4_task_78 : decode cX4_task 78 = .ok (.aload_n 3, 1) := by decide +kernel
theorem dX4_task_79 : decode cX4_task 79 = .ok (.getfield 169, 3) := by decide +kernel
theorem dX4_task_82 : decode cX4_task 82 = .ok (.ireturn, 1) := by decide +kernel
theorem dX4_task_83 : decode cX4_task 83 = .ok (.aload_n 0, 1) := by decide +kernel
theorem dX4_task_84 : decode cX4_task 84 = .ok (.aload_n 3, 1) := by decide +kernel
theorem dX4_task_85 : decode cX4_task 85 = .ok (.invokevirtual 172, 3) := by decide +kernel
theorem dX4_task_88 : decode cX4_task 88 = .ok (.ireturn, 1) := by decide +kernel
theorem dX4_task_89 : decode cX4_task 89 = .ok (.new 160, 3) := by decide +kernel
theorem dX4_task_92 : decode cX4_task 92 = .ok (.dup, 1) := by decide +kernel
theorem dX4_task_93 : decode cX4_task 93 = .ok (.invokespecial 162, 3) := by decide +kernel
theorem dX4_task_96 : decode cX4_task 96 = .ok (.athrow, 1) := by decide +kernel
theorem dX4_bound_0 : decode cX4_bound 0 = .ok (.aload_n 0, 1) := by decide +kernel
theorem dX4_bound_1 : decode cX4_bound 1 = .ok (.aload_n 0, 1) := by decide +kernel
theorem dX4_bound_2 : decode cX4_bound 2 = .ok (.iload_n 1, 1) := by decide +kernel
theorem dX4_bound_3 : decode cX4_bound 3 = .ok (.invokevirtual 82, 3) := by decide +kernel
theorem dX4_bound_6 : decode cX4_bound 6 = .ok (.invokevirtual 176, 3) := by decide +kernel
theorem dX4_bound_9 : decode cX4_bound 9 = .ok (.ireturn, 1) := by decide +kernel
theorem dX4_used_0 : decode cX4_used 0 = .ok (.aload_n 0, 1) := by decide +kernel
theorem dX4_used_1 : decode cX4_used 1 = .ok (.iload_n 1, 1) := by decide +kernel
theorem dX4_used_2 : decode cX4_used 2 = .ok (.invokevirtual 82, 3) := by decide +kernel
theorem dX4_used_5 : decode cX4_used 5 = .ok (.pop, 1) := by decide +kernel
theorem dX4_used_6 : decode cX4_used 6 = .ok (.iload_n 3, 1) := by decide +kernel
theorem dX4_used_7 : decode cX4_used 7 = .ok (.ifCond .lt 30, 3) := by decide +kernel
theorem dX4_used_10 : decode cX4_used 10 = .ok (.iload_n 3, 1) := by decide +kernel
theorem dX4_used_11 : decode cX4_used 11 = .ok (.iload 4, 2) := by decide +kernel
theorem dX4_used_13 : decode cX4_used 13 = .ok (.if_icmp .gt 24, 3) := by decide +kernel
theorem dX4_used_16 : decode cX4_used 16 = .ok (.iload 4, 2) := by decide +kernel
theorem dX4_used_18 : decode cX4_used 18 = .ok (.aload_n 0, 1) := by decide +kernel
theorem dX4_used_19 : decode cX4_used 19 = .ok (.getfield 40, 3) := by decide +kernel
theorem dX4_used_22 : decode cX4_used 22 = .ok (.if_icmp .gt 15, 3) := by decide +kernel
theorem dX4_used_25 : decode cX4_used 25 = .ok (.aload_n 0, 1) := by decide +kernel
theorem dX4_used_26 : decode cX4_used 26 = .ok (.getfield 40, 3) := by decide +kernel
theorem dX4_used_29 : decode cX4_used 29 = .ok (.iload_n 3, 1) := by decide +kernel
theorem dX4_used_30 : decode cX4_used 30 = .ok (.isub, 1) := by decide +kernel
theorem dX4_used_31 : decode cX4_used 31 = .ok (.sipush 1000, 3) := by decide +kernel
theorem dX4_used_34 : decode cX4_used 34 = .ok (.if_icmp .le 11, 3) := by decide +kernel
theorem dX4_used_37 : decode cX4_used 37 = .ok (.new 160, 3) := by decide +kernel
theorem dX4_used_40 : decode cX4_used 40 = .ok (.dup, 1) := by decide +kernel
theorem dX4_used_41 : decode cX4_used 41 = .ok (.invokespecial 162, 3) := by decide +kernel
theorem dX4_used_44 : decode cX4_used 44 = .ok (.athrow, 1) := by decide +kernel
theorem dX4_used_45 : decode cX4_used 45 = .ok (.iconst 0, 1) := by decide +kernel
theorem dX4_used_46 : decode cX4_used 46 = .ok (.istore 5, 2) := by decide +kernel
theorem dX4_used_48 : decode cX4_used 48 = .ok (.iload_n 3, 1) := by decide +kernel
theorem dX4_used_49 : decode cX4_used 49 = .ok (.istore 6, 2) := by decide +kernel
theorem dX4_used_51 : decode cX4_used 51 = .ok (.iload 6, 2) := by decide +kernel
theorem dX4_used_53 : decode cX4_used 53 = .ok (.iload 4, 2) := by decide +kernel
theorem dX4_used_55 : decode cX4_used 55 = .ok (.if_icmp .ge 47, 3) := by decide +kernel
theorem dX4_used_58 : decode cX4_used 58 = .ok (.aload_n 0, 1) := by decide +kernel
theorem dX4_used_59 : decode cX4_used 59 = .ok (.getfield 32, 3) := by decide +kernel
theorem dX4_used_62 : decode cX4_used 62 = .ok (.iload 6, 2) := by decide +kernel
theorem dX4_used_64 : decode cX4_used 64 = .ok (.sipush 1000, 3) := by decide +kernel
theorem dX4_used_67 : decode cX4_used 67 = .ok (.irem, 1) := by decide +kernel
theorem dX4_used_68 : decode cX4_used 68 = .ok (.baload, 1) := by decide +kernel
theorem dX4_used_69 : decode cX4_used 69 = .ok (.istore 7, 2) := by decide +kernel
theorem dX4_used_71 : decode cX4_used 71 = .ok (.iload 7, 2) := by decide +kernel
theorem dX4_used_73 : decode cX4_used 73 = .ok (.bipush 20, 2) := by decide +kernel
theorem dX4_used_75 : decode cX4_used 75 = .ok (.iload_n 1, 1) := by decide +kernel
theorem dX4_used_76 : decode cX4_used 76 = .ok (.iadd, 1) := by decide +kernel
theorem dX4_used_77 : decode cX4_used 77 = .ok (.if_icmp .eq 16, 3) := by decide +kernel
theorem dX4_used_80 : decode cX4_used 80 = .ok (.iload_n 2, 1) := by decide +kernel
theorem dX4_used_81 : decode cX4_used 81 = .ok (.ifCond .eq 15, 3) := by decide +kernel
theorem dX4_used_84 : decode cX4_used 84 = .ok (.iload 7, 2) := by decide +kernel
theorem dX4_used_86 : decode cX4_used 86 = .ok (.bipush 10, 2) := by decide +kernel
theorem dX4_used_88 : decode cX4_used 88 = .ok (.iload_n 1, 1) := by decide +kernel
theorem dX4_used_89 : decode cX4_used 89 = .ok (.iadd, 1) := by decide +kernel
theorem dX4_used_90 : decode cX4_used 90 = .ok (.if_icmp .ne 6, 3) := by decide +kernel
theorem dX4_used_93 : decode cX4_used 93 = .ok (.iinc 5 1, 3) := by decide +kernel
theorem dX4_used_96 : decode cX4_used 96 = .ok (.iinc 6 1, 3) := by decide +kernel
theorem dX4_used_99 : decode cX4_used 99 = .ok (.goto (-48), 3) := by decide +kernel
theorem dX4_used_102 : decode cX4_used 102 = .ok (.iload 5, 2) := by decide +kernel
theorem dX4_used_104 : decode cX4_used 104 = .ok (.ireturn, 1) := by decide +kernel
theorem dX4_floor_0 : decode cX4_floor 0 = .ok (.iload_n 1, 1) := by decide +kernel
theorem dX4_floor_1 : decode cX4_floor 1 = .ok (.iconst 0, 1) := by decide +kernel
theorem dX4_floor_2 : decode cX4_floor 2 = .ok (.ldc 180, 2) := by decide +kernel
theorem dX4_floor_4 : decode cX4_floor 4 = .ok (.invokestatic 43, 3) := by decide +kernel
theorem dX4_floor_7 : decode cX4_floor 7 = .ok (.ifCond .ne 11, 3) := by decide +kernel
theorem dX4_floor_10 : decode cX4_floor 10 = .ok (.new 50, 3) := by decide +kernel
theorem dX4_floor_13 : decode cX4_floor 13 = .ok (.dup, 1) := by decide +kernel
theorem dX4_floor_14 : decode cX4_floor 14 = .ok (.invokespecial 52, 3) := by decide +kernel
theorem dX4_floor_17 : decode cX4_floor 17 = .ok (.athrow, 1) := by decide +kernel
theorem dX4_floor_18 : decode cX4_floor 18 = .ok (.iconst 0, 1) := by decide +kernel
theorem dX4_floor_19 : decode cX4_floor 19 = .ok (.iload_n 1, 1) := by decide +kernel
theorem dX4_floor_20 : decode cX4_floor 20 = .ok (.aload_n 0, 1) := by decide +kernel
theorem dX4_floor_21 : decode cX4_floor 21 = .ok (.iconst (-1), 1) := by decide +kernel
theorem dX4_floor_22 : decode cX4_floor 22 = .ok (.iload_n 1, 1) := by decide +kernel
theorem dX4_floor_23 : decode cX4_floor 23 = .ok (.invokevirtual 181, 3) := by decide +kernel
theorem dX4_floor_26 : decode cX4_floor 26 = .ok (.isub, 1) := by decide +kernel
theorem dX4_floor_27 : decode cX4_floor 27 = .ok (.aload_n 0, 1) := by decide +kernel
theorem dX4_floor_28 : decode cX4_floor 28 = .ok (.iload_n 1, 1) := by decide +kernel
theorem dX4_floor_29 : decode cX4_floor 29 = .ok (.invokevirtual 184, 3) := by decide +kernel
theorem dX4_floor_32 : decode cX4_floor 32 = .ok (.isub, 1) := by decide +kernel
theorem dX4_floor_33 : decode cX4_floor 33 = .ok (.invokestatic 188, 3) := by decide +kernel
theorem dX4_floor_36 : decode cX4_floor 36 = .ok (.ireturn, 1) := by decide +kernel
theorem dX4_time_0 : decode cX4_time 0 = .ok (.aload_n 0, 1) := by decide +kernel
theorem dX4_time_1 : decode cX4_time 1 = .ok (.getfield 40, 3) := by decide +kernel
theorem dX4_time_4 : decode cX4_time 4 = .ok (.ireturn, 1) := by decide +kernel
theorem dX4_within_0 : decode cX4_within 0 = .ok (.iload_n 1, 1) := by decide +kernel
theorem dX4_within_1 : decode cX4_within 1 = .ok (.iload_n 0, 1) := by decide +kernel
theorem dX4_within_2 : decode cX4_within 2 = .ok (.if_icmp .gt 12, 3) := by decide +kernel
theorem dX4_within_5 : decode cX4_within 5 = .ok (.iload_n 0, 1) := by decide +kernel
theorem dX4_within_6 : decode cX4_within 6 = .ok (.iload_n 2, 1) := by decide +kernel
theorem dX4_within_7 : decode cX4_within 7 = .ok (.if_icmp .gt 7, 3) := by decide +kernel
theorem dX4_within_10 : decode cX4_within 10 = .ok (.iconst 1, 1) := by decide +kernel
theorem dX4_within_11 : decode cX4_within 11 = .ok (.goto 4, 3) := by decide +kernel
theorem dX4_within_14 : decode cX4_within 14 = .ok (.iconst 0, 1) := by decide +kernel
theorem dX4_within_15 : decode cX4_within 15 = .ok (.ireturn, 1) := by decide +kernel
theorem dX4_toldSource_0 : decode cX4_toldSource 0 = .ok (.iload_n 1, 1) := by decide +kernel
theorem dX4_toldSource_1 : decode cX4_toldSource 1 = .ok (.iconst 0, 1) := by decide +kernel
theorem dX4_toldSource_2 : decode cX4_toldSource 2 = .ok (.iconst 5, 1) := by decide +kernel
theorem dX4_toldSource_3 : decode cX4_toldSource 3 = .ok (.invokestatic 43, 3) := by decide +kernel
theorem dX4_toldSource_6 : decode cX4_toldSource 6 = .ok (.ifCond .eq 15, 3) := by decide +kernel
theorem dX4_toldSource_9 : decode cX4_toldSource 9 = .ok (.aload_n 0, 1) := by decide +kernel
theorem dX4_toldSource_10 : decode cX4_toldSource 10 = .ok (.getfield 11, 3) := by decide +kernel
theorem dX4_toldSource_13 : decode cX4_toldSource 13 = .ok (.iload_n 1, 1) := by decide +kernel
theorem dX4_toldSource_14 : decode cX4_toldSource 14 = .ok (.aaload, 1) := by decide +kernel
theorem dX4_toldSource_15 : decode cX4_toldSource 15 = .ok (.getfield 53, 3) := by decide +kernel
theorem dX4_toldSource_18 : decode cX4_toldSource 18 = .ok (.ifCond .ne 11, 3) := by decide +kernel
theorem dX4_toldSource_21 : decode cX4_toldSource 21 = .ok (.new 47, 3) := by decide +kernel
theorem dX4_toldSource_24 : decode cX4_toldSource 24 = .ok (.dup, 1) := by decide +kernel
theorem dX4_toldSource_25 : decode cX4_toldSource 25 = .ok (.invokespecial 49, 3) := by decide +kernel
theorem dX4_toldSource_28 : decode cX4_toldSource 28 = .ok (.athrow, 1) := by decide +kernel
theorem dX4_toldSource_29 : decode cX4_toldSource 29 = .ok (.aload_n 0, 1) := by decide +kernel
theorem dX4_toldSource_30 : decode cX4_toldSource 30 = .ok (.getfield 11, 3) := by decide +kernel
theorem dX4_toldSource_33 : decode cX4_toldSource 33 = .ok (.iload_n 1, 1) := by decide +kernel
theorem dX4_toldSource_34 : decode cX4_toldSource 34 = .ok (.aaload, 1) := by decide +kernel
theorem dX4_toldSource_35 : decode cX4_toldSource 35 = .ok (.areturn, 1) := by decide +kernel
theorem dX4_sourceHasPriority_0 : decode cX4_sourceHasPriority 0 = .ok (.iconst 0, 1) := by decide +kernel
theorem dX4_sourceHasPriority_1 : decode cX4_sourceHasPriority 1 = .ok (.istore_n 2, 1) := by decide +kernel
theorem dX4_sourceHasPriority_2 : decode cX4_sourceHasPriority 2 = .ok (.iload_n 2, 1) := by decide +kernel
theorem dX4_sourceHasPriority_3 : decode cX4_sourceHasPriority 3 = .ok (.bipush 6, 2) := by decide +kernel
theorem dX4_sourceHasPriority_5 : decode cX4_sourceHasPriority 5 = .ok (.if_icmp .ge 36, 3) := by decide +kernel
theorem dX4_sourceHasPriority_8 : decode cX4_sourceHasPriority 8 = .ok (.aload_n 0, 1) := by decide +kernel
theorem dX4_sourceHasPriority_9 : decode cX4_sourceHasPriority 9 = .ok (.getfield 11, 3) := by decide +kernel
theorem dX4_sourceHasPriority_12 : decode cX4_sourceHasPriority 12 = .ok (.iload_n 2, 1) := by decide +kernel
theorem dX4_sourceHasPriority_13 : decode cX4_sourceHasPriority 13 = .ok (.aaload, 1) := by decide +kernel
theorem dX4_sourceHasPriority_14 : decode cX4_sourceHasPriority 14 = .ok (.getfield 53, 3) := by decide +kernel
theorem dX4_sourceHasPriority_17 : decode cX4_sourceHasPriority 17 = .ok (.ifCond .eq 18, 3) := by decide +kernel
theorem dX4_sourceHasPriority_20 : decode cX4_sourceHasPriority 20 = .ok (.aload_n 0, 1) := by decide +kernel
theorem dX4_sourceHasPriority_21 : decode cX4_sourceHasPriority 21 = .ok (.getfield 11, 3) := by decide +kernel
theorem dX4_sourceHasPriority_24 : decode cX4_sourceHasPriority 24 = .ok (.iload_n 2, 1) := by decide +kernel
theorem dX4_sourceHasPriority_25 : decode cX4_sourceHasPriority 25 = .ok (.aaload, 1) := by decide +kernel
theorem dX4_sourceHasPriority_26 : decode cX4_sourceHasPriority 26 = .ok (.getfield 191, 3) := by decide +kernel
theorem dX4_sourceHasPriority_29 : decode cX4_sourceHasPriority 29 = .ok (.iload_n 1, 1) := by decide +kernel
theorem dX4_sourceHasPriority_30 : decode cX4_sourceHasPriority 30 = .ok (.if_icmp .ne 5, 3) := by decide +kernel
theorem dX4_sourceHasPriority_33 : decode cX4_sourceHasPriority 33 = .ok (.iconst 1, 1) := by decide +kernel
theorem dX4_sourceHasPriority_34 : decode cX4_sourceHasPriority 34 = .ok (.ireturn, 1) := by decide +kernel
theorem dX4_sourceHasPriority_35 : decode cX4_sourceHasPriority 35 = .ok (.iinc 2 1, 3) := by decide +kernel
theorem dX4_sourceHasPriority_38 : decode cX4_sourceHasPriority 38 = .ok (.goto (-36), 3) := by decide +kernel
theorem dX4_sourceHasPriority_41 : decode cX4_sourceHasPriority 41 = .ok (.iconst 0, 1) := by decide +kernel
theorem dX4_sourceHasPriority_42 : decode cX4_sourceHasPriority 42 = .ok (.ireturn, 1) := by decide +kernel
theorem dX4_taskHasPriority_0 : decode cX4_taskHasPriority 0 = .ok (.iconst 0, 1) := by decide +kernel
theorem dX4_taskHasPriority_1 : decode cX4_taskHasPriority 1 = .ok (.istore_n 2, 1) := by decide +kernel
theorem dX4_taskHasPriority_2 : decode cX4_taskHasPriority 2 = .ok (.iload_n 2, 1) := by decide +kernel
theorem dX4_taskHasPriority_3 : decode cX4_taskHasPriority 3 = .ok (.bipush 6, 2) := by decide +kernel
theorem dX4_taskHasPriority_5 : decode cX4_taskHasPriority 5 = .ok (.if_icmp .ge 36, 3) := by decide +kernel
theorem dX4_taskHasPriority_8 : decode cX4_taskHasPriority 8 = .ok (.aload_n 0, 1) := by decide +kernel
theorem dX4_taskHasPriority_9 : decode cX4_taskHasPriority 9 = .ok (.getfield 18, 3) := by decide +kernel
theorem dX4_taskHasPriority_12 : decode cX4_taskHasPriority 12 = .ok (.iload_n 2, 1) := by decide +kernel
theorem dX4_taskHasPriority_13 : decode cX4_taskHasPriority 13 = .ok (.aaload, 1) := by decide +kernel
theorem dX4_taskHasPriority_14 : decode cX4_taskHasPriority 14 = .ok (.getfield 75, 3) := by decide +kernel
theorem dX4_taskHasPriority_17 : decode cX4_taskHasPriority 17 = .ok (.ifCond .eq 18, 3) := by decide +kernel
theorem dX4_taskHasPriority_20 : decode cX4_taskHasPriority 20 = .ok (.aload_n 0, 1) := by decide +kernel
theorem dX4_taskHasPriority_21 : decode cX4_taskHasPriority 21 = .ok (.getfield 18, 3) := by decide +kernel
theorem dX4_taskHasPriority_24 : decode cX4_taskHasPriority 24 = .ok (.iload_n 2, 1) := by decide +kernel
theorem dX4_taskHasPriority_25 : decode cX4_taskHasPriority 25 = .ok (.aaload, 1) := by decide +kernel
theorem dX4_taskHasPriority_26 : decode cX4_taskHasPriority 26 = .ok (.getfield 194, 3) := by decide +kernel
theorem dX4_taskHasPriority_29 : decode cX4_taskHasPriority 29 = .ok (.iload_n 1, 1) := by decide +kernel
theorem dX4_taskHasPriority_30 : decode cX4_taskHasPriority 30 = .ok (.if_icmp .ne 5, 3) := by decide +kernel
theorem dX4_taskHasPriority_33 : decode cX4_taskHasPriority 33 = .ok (.iconst 1, 1) := by decide +kernel
theorem dX4_taskHasPriority_34 : decode cX4_taskHasPriority 34 = .ok (.ireturn, 1) := by decide +kernel
theorem dX4_taskHasPriority_35 : decode cX4_taskHasPriority 35 = .ok (.iinc 2 1, 3) := by decide +kernel
theorem dX4_taskHasPriority_38 : decode cX4_taskHasPriority 38 = .ok (.goto (-36), 3) := by decide +kernel
theorem dX4_taskHasPriority_41 : decode cX4_taskHasPriority 41 = .ok (.iconst 0, 1) := by decide +kernel
theorem dX4_taskHasPriority_42 : decode cX4_taskHasPriority 42 = .ok (.ireturn, 1) := by decide +kernel
theorem dX4_beginPeriods_0 : decode cX4_beginPeriods 0 = .ok (.iconst 0, 1) := by decide +kernel
theorem dX4_beginPeriods_1 : decode cX4_beginPeriods 1 = .ok (.istore_n 1, 1) := by decide +kernel
theorem dX4_beginPeriods_2 : decode cX4_beginPeriods 2 = .ok (.iload_n 1, 1) := by decide +kernel
theorem dX4_beginPeriods_3 : decode cX4_beginPeriods 3 = .ok (.bipush 6, 2) := by decide +kernel
theorem dX4_beginPeriods_5 : decode cX4_beginPeriods 5 = .ok (.if_icmp .ge 34, 3) := by decide +kernel
theorem dX4_beginPeriods_8 : decode cX4_beginPeriods 8 = .ok (.aload_n 0, 1) := by decide +kernel
theorem dX4_beginPeriods_9 : decode cX4_beginPeriods 9 = .ok (.getfield 18, 3) := by decide +kernel
theorem dX4_beginPeriods_12 : decode cX4_beginPeriods 12 = .ok (.iload_n 1, 1) := by decide +kernel
theorem dX4_beginPeriods_13 : decode cX4_beginPeriods 13 = .ok (.aaload, 1) := by decide +kernel
theorem dX4_beginPeriods_14 : decode cX4_beginPeriods 14 = .ok (.getfield 75, 3) := by decide +kernel
theorem dX4_beginPeriods_17 : decode cX4_beginPeriods 17 = .ok (.ifCond .eq 16, 3) := by decide +kernel
theorem dX4_beginPeriods_20 : decode cX4_beginPeriods 20 = .ok (.aload_n 0, 1) := by decide +kernel
theorem dX4_beginPeriods_21 : decode cX4_beginPeriods 21 = .ok (.getfield 18, 3) := by decide +kernel
theorem dX4_beginPeriods_24 : decode cX4_beginPeriods 24 = .ok (.iload_n 1, 1) := by decide +kernel
theorem dX4_beginPeriods_25 : decode cX4_beginPeriods 25 = .ok (.aaload, 1) := by decide +kernel
theorem dX4_beginPeriods_26 : decode cX4_beginPeriods 26 = .ok (.aload_n 0, 1) := by decide +kernel
theorem dX4_beginPeriods_27 : decode cX4_beginPeriods 27 = .ok (.getfield 40, 3) := by decide +kernel
theorem dX4_beginPeriods_30 : decode cX4_beginPeriods 30 = .ok (.invokevirtual 195, 3) := by decide +kernel
theorem dX4_beginPeriods_33 : decode cX4_beginPeriods 33 = .ok (.iinc 1 1, 3) := by decide +kernel
theorem dX4_beginPeriods_36 : decode cX4_beginPeriods 36 = .ok (.goto (-34), 3) := by decide +kernel
theorem dX4_beginPeriods_39 : decode cX4_beginPeriods 39 = .ok (.return_, 1) := by decide +kernel
theorem dX4_giveBack_0 : decode cX4_giveBack 0 = .ok (.iconst 0, 1) := by decide +kernel
theorem dX4_giveBack_1 : decode cX4_giveBack 1 = .ok (.istore_n 1, 1) := by decide +kernel
theorem dX4_giveBack_2 : decode cX4_giveBack 2 = .ok (.iload_n 1, 1) := by decide +kernel
theorem dX4_giveBack_3 : decode cX4_giveBack 3 = .ok (.bipush 6, 2) := by decide +kernel
theorem dX4_giveBack_5 : decode cX4_giveBack 5 = .ok (.if_icmp .ge 34, 3) := by decide +kernel
theorem dX4_giveBack_8 : decode cX4_giveBack 8 = .ok (.aload_n 0, 1) := by decide +kernel
theorem dX4_giveBack_9 : decode cX4_giveBack 9 = .ok (.getfield 11, 3) := by decide +kernel
theorem dX4_giveBack_12 : decode cX4_giveBack 12 = .ok (.iload_n 1, 1) := by decide +kernel
theorem dX4_giveBack_13 : decode cX4_giveBack 13 = .ok (.aaload, 1) := by decide +kernel
theorem dX4_giveBack_14 : decode cX4_giveBack 14 = .ok (.getfield 53, 3) := by decide +kernel
theorem dX4_giveBack_17 : decode cX4_giveBack 17 = .ok (.ifCond .eq 16, 3) := by decide +kernel
theorem dX4_giveBack_20 : decode cX4_giveBack 20 = .ok (.aload_n 0, 1) := by decide +kernel
theorem dX4_giveBack_21 : decode cX4_giveBack 21 = .ok (.getfield 11, 3) := by decide +kernel
theorem dX4_giveBack_24 : decode cX4_giveBack 24 = .ok (.iload_n 1, 1) := by decide +kernel
theorem dX4_giveBack_25 : decode cX4_giveBack 25 = .ok (.aaload, 1) := by decide +kernel
theorem dX4_giveBack_26 : decode cX4_giveBack 26 = .ok (.aload_n 0, 1) := by decide +kernel
theorem dX4_giveBack_27 : decode cX4_giveBack 27 = .ok (.getfield 40, 3) := by decide +kernel
theorem dX4_giveBack_30 : decode cX4_giveBack 30 = .ok (.invokevirtual 198, 3) := by decide +kernel
theorem dX4_giveBack_33 : decode cX4_giveBack 33 = .ok (.iinc 1 1, 3) := by decide +kernel
theorem dX4_giveBack_36 : decode cX4_giveBack 36 = .ok (.goto (-34), 3) := by decide +kernel
theorem dX4_giveBack_39 : decode cX4_giveBack 39 = .ok (.return_, 1) := by decide +kernel
theorem dX4_runOne_0 : decode cX4_runOne 0 = .ok (.aload_n 0, 1) := by decide +kernel
theorem dX4_runOne_1 : decode cX4_runOne 1 = .ok (.getfield 28, 3) := by decide +kernel
theorem dX4_runOne_4 : decode cX4_runOne 4 = .ok (.getfield 126, 3) := by decide +kernel
theorem dX4_runOne_7 : decode cX4_runOne 7 = .ok (.ifCond .le 11, 3) := by decide +kernel
theorem dX4_runOne_10 : decode cX4_runOne 10 = .ok (.bipush 10, 2) := by decide +kernel
theorem dX4_runOne_12 : decode cX4_runOne 12 = .ok (.aload_n 0, 1) := by decide +kernel
theorem dX4_runOne_13 : decode cX4_runOne 13 = .ok (.invokevirtual 200, 3) := by decide +kernel
theorem dX4_runOne_16 : decode cX4_runOne 16 = .ok (.iadd, 1) := by decide +kernel
theorem dX4_runOne_17 : decode cX4_runOne 17 = .ok (.ireturn, 1) := by decide +kernel
theorem dX4_runOne_18 : decode cX4_runOne 18 = .ok (.aload_n 0, 1) := by decide +kernel
theorem dX4_runOne_19 : decode cX4_runOne 19 = .ok (.invokevirtual 203, 3) := by decide +kernel
theorem dX4_runOne_22 : decode cX4_runOne 22 = .ok (.istore_n 1, 1) := by decide +kernel
theorem dX4_runOne_23 : decode cX4_runOne 23 = .ok (.iload_n 1, 1) := by decide +kernel
theorem dX4_runOne_24 : decode cX4_runOne 24 = .ok (.iconst (-1), 1) := by decide +kernel
theorem dX4_runOne_25 : decode cX4_runOne 25 = .ok (.if_icmp .eq 21, 3) := by decide +kernel
theorem dX4_runOne_28 : decode cX4_runOne 28 = .ok (.aload_n 0, 1) := by decide +kernel
theorem dX4_runOne_29 : decode cX4_runOne 29 = .ok (.getfield 11, 3) := by decide +kernel
theorem dX4_runOne_32 : decode cX4_runOne 32 = .ok (.iload_n 1, 1) := by decide +kernel
theorem dX4_runOne_33 : decode cX4_runOne 33 = .ok (.aaload, 1) := by decide +kernel
theorem dX4_runOne_34 : decode cX4_runOne 34 = .ok (.aload_n 0, 1) := by decide +kernel
theorem dX4_runOne_35 : decode cX4_runOne 35 = .ok (.getfield 40, 3) := by decide +kernel
theorem dX4_runOne_38 : decode cX4_runOne 38 = .ok (.invokevirtual 206, 3) := by decide +kernel
theorem dX4_runOne_41 : decode cX4_runOne 41 = .ok (.bipush 20, 2) := by decide +kernel
theorem dX4_runOne_43 : decode cX4_runOne 43 = .ok (.iload_n 1, 1) := by decide +kernel
theorem dX4_runOne_44 : decode cX4_runOne 44 = .ok (.iadd, 1) := by decide +kernel
theorem dX4_runOne_45 : decode cX4_runOne 45 = .ok (.ireturn, 1) := by decide +kernel
theorem dX4_runOne_46 : decode cX4_runOne 46 = .ok (.aload_n 0, 1) := by decide +kernel
theorem dX4_runOne_47 : decode cX4_runOne 47 = .ok (.invokevirtual 209, 3) := by decide +kernel
theorem dX4_runOne_50 : decode cX4_runOne 50 = .ok (.istore_n 2, 1) := by decide +kernel
theorem dX4_runOne_51 : decode cX4_runOne 51 = .ok (.iload_n 2, 1) := by decide +kernel
theorem dX4_runOne_52 : decode cX4_runOne 52 = .ok (.iconst (-1), 1) := by decide +kernel
theorem dX4_runOne_53 : decode cX4_runOne 53 = .ok (.if_icmp .eq 17, 3) := by decide +kernel
theorem dX4_runOne_56 : decode cX4_runOne 56 = .ok (.aload_n 0, 1) := by decide +kernel
theorem dX4_runOne_57 : decode cX4_runOne 57 = .ok (.getfield 18, 3) := by decide +kernel
theorem dX4_runOne_60 : decode cX4_runOne 60 = .ok (.iload_n 2, 1) := by decide +kernel
theorem dX4_runOne_61 : decode cX4_runOne 61 = .ok (.aaload, 1) := by decide +kernel
theorem dX4_runOne_62 : decode cX4_runOne 62 = .ok (.invokevirtual 212, 3) := by decide +kernel
theorem dX4_runOne_65 : decode cX4_runOne 65 = .ok (.bipush 30, 2) := by decide +kernel
theorem dX4_runOne_67 : decode cX4_runOne 67 = .ok (.iload_n 2, 1) := by decide +kernel
theorem dX4_runOne_68 : decode cX4_runOne 68 = .ok (.iadd, 1) := by decide +kernel
theorem dX4_runOne_69 : decode cX4_runOne 69 = .ok (.ireturn, 1) := by decide +kernel
theorem dX4_runOne_70 : decode cX4_runOne 70 = .ok (.iconst 0, 1) := by decide +kernel
theorem dX4_runOne_71 : decode cX4_runOne 71 = .ok (.ireturn, 1) := by decide +kernel
theorem dX4_runTop_0 : decode cX4_runTop 0 = .ok (.aload_n 0, 1) := by decide +kernel
theorem dX4_runTop_1 : decode cX4_runTop 1 = .ok (.getfield 28, 3) := by decide +kernel
theorem dX4_runTop_4 : decode cX4_runTop 4 = .ok (.invokevirtual 215, 3) := by decide +kernel
theorem dX4_runTop_7 : decode cX4_runTop 7 = .ok (.istore_n 1, 1) := by decide +kernel
theorem dX4_runTop_8 : decode cX4_runTop 8 = .ok (.aload_n 0, 1) := by decide +kernel
theorem dX4_runTop_9 : decode cX4_runTop 9 = .ok (.dup, 1) := by decide +kernel
theorem dX4_runTop_10 : decode cX4_runTop 10 = .ok (.getfield 36, 3) := by decide +kernel
theorem dX4_runTop_13 : decode cX4_runTop 13 = .ok (.iconst 1, 1) := by decide +kernel
theorem dX4_runTop_14 : decode cX4_runTop 14 = .ok (.iadd, 1) := by decide +kernel
theorem dX4_runTop_15 : decode cX4_runTop 15 = .ok (.putfield 36, 3) := by decide +kernel
theorem dX4_runTop_18 : decode cX4_runTop 18 = .ok (.aload_n 0, 1) := by decide +kernel
theorem dX4_runTop_19 : decode cX4_runTop 19 = .ok (.getfield 36, 3) := by decide +kernel
theorem dX4_runTop_22 : decode cX4_runTop 22 = .ok (.aload_n 0, 1) := by decide +kernel
theorem dX4_runTop_23 : decode cX4_runTop 23 = .ok (.getfield 11, 3) := by decide +kernel
theorem dX4_runTop_26 : decode cX4_runTop 26 = .ok (.iload_n 1, 1) := by decide +kernel
theorem dX4_runTop_27 : decode cX4_runTop 27 = .ok (.aaload, 1) := by decide +kernel
theorem dX4_runTop_28 : decode cX4_runTop 28 = .ok (.getfield 89, 3) := by decide +kernel
theorem dX4_runTop_31 : decode cX4_runTop 31 = .ok (.if_icmp .lt 15, 3) := by decide +kernel
theorem dX4_runTop_34 : decode cX4_runTop 34 = .ok (.aload_n 0, 1) := by decide +kernel
theorem dX4_runTop_35 : decode cX4_runTop 35 = .ok (.getfield 28, 3) := by decide +kernel
theorem dX4_runTop_38 : decode cX4_runTop 38 = .ok (.invokevirtual 218, 3) := by decide +kernel
theorem dX4_runTop_41 : decode cX4_runTop 41 = .ok (.aload_n 0, 1) := by decide +kernel
theorem dX4_runTop_42 : decode cX4_runTop 42 = .ok (.iconst 0, 1) := by decide +kernel
theorem dX4_runTop_43 : decode cX4_runTop 43 = .ok (.putfield 36, 3) := by decide +kernel
theorem dX4_runTop_46 : decode cX4_runTop 46 = .ok (.iload_n 1, 1) := by decide +kernel
theorem dX4_runTop_47 : decode cX4_runTop 47 = .ok (.ireturn, 1) := by decide +kernel
theorem dX4_highestReadySource_0 : decode cX4_highestReadySource 0 = .ok (.iconst (-1), 1) := by decide +kernel
theorem dX4_highestReadySource_1 : decode cX4_highestReadySource 1 = .ok (.istore_n 1, 1) := by decide +kernel
theorem dX4_highestReadySource_2 : decode cX4_highestReadySource 2 = .ok (.iconst (-1), 1) := by decide +kernel
theorem dX4_highestReadySource_3 : decode cX4_highestReadySource 3 = .ok (.istore_n 2, 1) := by decide +kernel
theorem dX4_highestReadySource_4 : decode cX4_highestReadySource 4 = .ok (.iconst 0, 1) := by decide +kernel
theorem dX4_highestReadySource_5 : decode cX4_highestReadySource 5 = .ok (.istore_n 3, 1) := by decide +kernel
theorem dX4_highestReadySource_6 : decode cX4_highestReadySource 6 = .ok (.iload_n 3, 1) := by decide +kernel
theorem dX4_highestReadySource_7 : decode cX4_highestReadySource 7 = .ok (.bipush 6, 2) := by decide +kernel
theorem dX4_highestReadySource_9 : decode cX4_highestReadySource 9 = .ok (.if_icmp .ge 58, 3) := by decide +kernel
theorem dX4_highestReadySource_12 : decode cX4_highestReadySource 12 = .ok (.aload_n 0, 1) := by decide +kernel
theorem dX4_highestReadySource_13 : decode cX4_highestReadySource 13 = .ok (.getfield 11, 3) := by decide +kernel
theorem dX4_highestReadySource_16 : decode cX4_highestReadySource 16 = .ok (.iload_n 3, 1) := by decide +kernel
theorem dX4_highestReadySource_17 : decode cX4_highestReadySource 17 = .ok (.aaload, 1) := by decide +kernel
theorem dX4_highestReadySource_18 : decode cX4_highestReadySource 18 = .ok (.getfield 53, 3) := by decide +kernel
theorem dX4_highestReadySource_21 : decode cX4_highestReadySource 21 = .ok (.ifCond .eq 40, 3) := by decide +kernel
theorem dX4_highestReadySource_24 : decode cX4_highestReadySource 24 = .ok (.aload_n 0, 1) := by decide +kernel
theorem dX4_highestReadySource_25 : decode cX4_highestReadySource 25 = .ok (.getfield 11, 3) := by decide +kernel
theorem dX4_highestReadySource_28 : decode cX4_highestReadySource 28 = .ok (.iload_n 3, 1) := by decide +kernel
theorem dX4_highestReadySource_29 : decode cX4_highestReadySource 29 = .ok (.aaload, 1) := by decide +kernel
theorem dX4_highestReadySource_30 : decode cX4_highestReadySource 30 = .ok (.invokevirtual 221, 3) := by decide +kernel
theorem dX4_highestReadySource_33 : decode cX4_highestReadySource 33 = .ok (.ifCond .eq 28, 3) := by decide +kernel
theorem dX4_highestReadySource_36 : decode cX4_highestReadySource 36 = .ok (.aload_n 0, 1) := by decide +kernel
theorem dX4_highestReadySource_37 : decode cX4_highestReadySource 37 = .ok (.getfield 11, 3) := by decide +kernel
theorem dX4_highestReadySource_40 : decode cX4_highestReadySource 40 = .ok (.iload_n 3, 1) := by decide +kernel
theorem dX4_highestReadySource_41 : decode cX4_highestReadySource 41 = .ok (.aaload, 1) := by decide +kernel
theorem dX4_highestReadySource_42 : decode cX4_highestReadySource 42 = .ok (.getfield 191, 3) := by decide +kernel
theorem dX4_highestReadySource_45 : decode cX4_highestReadySource 45 = .ok (.iload_n 2, 1) := by decide +kernel
theorem dX4_highestReadySource_46 : decode cX4_highestReadySource 46 = .ok (.if_icmp .le 15, 3) := by decide +kernel
theorem dX4_highestReadySource_49 : decode cX4_highestReadySource 49 = .ok (.iload_n 3, 1) := by decide +kernel
theorem dX4_highestReadySource_50 : decode cX4_highestReadySource 50 = .ok (.istore_n 1, 1) := by decide +kernel
theorem dX4_highestReadySource_51 : decode cX4_highestReadySource 51 = .ok (.aload_n 0, 1) := by decide +kernel
theorem dX4_highestReadySource_52 : decode cX4_highestReadySource 52 = .ok (.getfield 11, 3) := by decide +kernel
theorem dX4_highestReadySource_55 : decode cX4_highestReadySource 55 = .ok (.iload_n 3, 1) := by decide +kernel
theorem dX4_highestReadySource_56 : decode cX4_highestReadySource 56 = .ok (.aaload, 1) := by decide +kernel
theorem dX4_highestReadySource_57 : decode cX4_highestReadySource 57 = .ok (.getfield 191, 3) := by decide +kernel
theorem dX4_highestReadySource_60 : decode cX4_highestReadySource 60 = .ok (.istore_n 2, 1) := by decide +kernel
theorem dX4_highestReadySource_61 : decode cX4_highestReadySource 61 = .ok (.iinc 3 1, 3) := by decide +kernel
theorem dX4_highestReadySource_64 : decode cX4_highestReadySource 64 = .ok (.goto (-58), 3) := by decide +kernel
theorem dX4_highestReadySource_67 : decode cX4_highestReadySource 67 = .ok (.iload_n 1, 1) := by decide +kernel
theorem dX4_highestReadySource_68 : decode cX4_highestReadySource 68 = .ok (.ireturn, 1) := by decide +kernel
theorem dX4_highestTaskWithWork_0 : decode cX4_highestTaskWithWork 0 = .ok (.iconst (-1), 1) := by decide +kernel
theorem dX4_highestTaskWithWork_1 : decode cX4_highestTaskWithWork 1 = .ok (.istore_n 1, 1) := by decide +kernel
theorem dX4_highestTaskWithWork_2 : decode cX4_highestTaskWithWork 2 = .ok (.iconst (-1), 1) := by decide +kernel
theorem dX4_highestTaskWithWork_3 : decode cX4_highestTaskWithWork 3 = .ok (.istore_n 2, 1) := by decide +kernel
theorem dX4_highestTaskWithWork_4 : decode cX4_highestTaskWithWork 4 = .ok (.iconst 0, 1) := by decide +kernel
theorem dX4_highestTaskWithWork_5 : decode cX4_highestTaskWithWork 5 = .ok (.istore_n 3, 1) := by decide +kernel
theorem dX4_highestTaskWithWork_6 : decode cX4_highestTaskWithWork 6 = .ok (.iload_n 3, 1) := by decide +kernel
theorem dX4_highestTaskWithWork_7 : decode cX4_highestTaskWithWork 7 = .ok (.bipush 6, 2) := by decide +kernel
theorem dX4_highestTaskWithWork_9 : decode cX4_highestTaskWithWork 9 = .ok (.if_icmp .ge 58, 3) := by decide +kernel
theorem dX4_highestTaskWithWork_12 : decode cX4_highestTaskWithWork 12 = .ok (.aload_n 0, 1) := by decide +kernel
theorem dX4_highestTaskWithWork_13 : decode cX4_highestTaskWithWork 13 = .ok (.getfield 18, 3) := by decide +kernel
theorem dX4_highestTaskWithWork_16 : decode cX4_highestTaskWithWork 16 = .ok (.iload_n 3, 1) := by decide +kernel
theorem dX4_highestTaskWithWork_17 : decode cX4_highestTaskWithWork 17 = .ok (.aaload, 1) := by decide +kernel
theorem dX4_highestTaskWithWork_18 : decode cX4_highestTaskWithWork 18 = .ok (.getfield 75, 3) := by decide +kernel
theorem dX4_highestTaskWithWork_21 : decode cX4_highestTaskWithWork 21 = .ok (.ifCond .eq 40, 3) := by decide +kernel
theorem dX4_highestTaskWithWork_24 : decode cX4_highestTaskWithWork 24 = .ok (.aload_n 0, 1) := by decide +kernel
theorem dX4_highestTaskWithWork_25 : decode cX4_highestTaskWithWork 25 = .ok (.getfield 18, 3) := by decide +kernel
theorem dX4_highestTaskWithWork_28 : decode cX4_highestTaskWithWork 28 = .ok (.iload_n 3, 1) := by decide +kernel
theorem dX4_highestTaskWithWork_29 : decode cX4_highestTaskWithWork 29 = .ok (.aaload, 1) := by decide +kernel
theorem dX4_highestTaskWithWork_30 : decode cX4_highestTaskWithWork 30 = .ok (.getfield 163, 3) := by decide +kernel
theorem dX4_highestTaskWithWork_33 : decode cX4_highestTaskWithWork 33 = .ok (.ifCond .le 28, 3) := by decide +kernel
theorem dX4_highestTaskWithWork_36 : decode cX4_highestTaskWithWork 36 = .ok (.aload_n 0, 1) := by decide +kernel
theorem dX4_highestTaskWithWork_37 : decode cX4_highestTaskWithWork 37 = .ok (.getfield 18, 3) := by decide +kernel
theorem dX4_highestTaskWithWork_40 : decode cX4_highestTaskWithWork 40 = .ok (.iload_n 3, 1) := by decide +kernel
theorem dX4_highestTaskWithWork_41 : decode cX4_highestTaskWithWork 41 = .ok (.aaload, 1) := by decide +kernel
theorem dX4_highestTaskWithWork_42 : decode cX4_highestTaskWithWork 42 = .ok (.getfield 194, 3) := by decide +kernel
theorem dX4_highestTaskWithWork_45 : decode cX4_highestTaskWithWork 45 = .ok (.iload_n 2, 1) := by decide +kernel
theorem dX4_highestTaskWithWork_46 : decode cX4_highestTaskWithWork 46 = .ok (.if_icmp .le 15, 3) := by decide +kernel
theorem dX4_highestTaskWithWork_49 : decode cX4_highestTaskWithWork 49 = .ok (.iload_n 3, 1) := by decide +kernel
theorem dX4_highestTaskWithWork_50 : decode cX4_highestTaskWithWork 50 = .ok (.istore_n 1, 1) := by decide +kernel
theorem dX4_highestTaskWithWork_51 : decode cX4_highestTaskWithWork 51 = .ok (.aload_n 0, 1) := by decide +kernel
theorem dX4_highestTaskWithWork_52 : decode cX4_highestTaskWithWork 52 = .ok (.getfield 18, 3) := by decide +kernel
theorem dX4_highestTaskWithWork_55 : decode cX4_highestTaskWithWork 55 = .ok (.iload_n 3, 1) := by decide +kernel
theorem dX4_highestTaskWithWork_56 : decode cX4_highestTaskWithWork 56 = .ok (.aaload, 1) := by decide +kernel
theorem dX4_highestTaskWithWork_57 : decode cX4_highestTaskWithWork 57 = .ok (.getfield 194, 3) := by decide +kernel
theorem dX4_highestTaskWithWork_60 : decode cX4_highestTaskWithWork 60 = .ok (.istore_n 2, 1) := by decide +kernel
theorem dX4_highestTaskWithWork_61 : decode cX4_highestTaskWithWork 61 = .ok (.iinc 3 1, 3) := by decide +kernel
theorem dX4_highestTaskWithWork_64 : decode cX4_highestTaskWithWork 64 = .ok (.goto (-58), 3) := by decide +kernel
theorem dX4_highestTaskWithWork_67 : decode cX4_highestTaskWithWork 67 = .ok (.iload_n 1, 1) := by decide +kernel
theorem dX4_highestTaskWithWork_68 : decode cX4_highestTaskWithWork 68 = .ok (.ireturn, 1) := by decide +kernel
theorem dX4_tasksAdmitted_0 : decode cX4_tasksAdmitted 0 = .ok (.iconst 0, 1) := by decide +kernel
theorem dX4_tasksAdmitted_1 : decode cX4_tasksAdmitted 1 = .ok (.istore_n 1, 1) := by decide +kernel
theorem dX4_tasksAdmitted_2 : decode cX4_tasksAdmitted 2 = .ok (.iload_n 1, 1) := by decide +kernel
theorem dX4_tasksAdmitted_3 : decode cX4_tasksAdmitted 3 = .ok (.bipush 6, 2) := by decide +kernel
theorem dX4_tasksAdmitted_5 : decode cX4_tasksAdmitted 5 = .ok (.if_icmp .ge 37, 3) := by decide +kernel
theorem dX4_tasksAdmitted_8 : decode cX4_tasksAdmitted 8 = .ok (.aload_n 0, 1) := by decide +kernel
theorem dX4_tasksAdmitted_9 : decode cX4_tasksAdmitted 9 = .ok (.getfield 18, 3) := by decide +kernel
theorem dX4_tasksAdmitted_12 : decode cX4_tasksAdmitted 12 = .ok (.iload_n 1, 1) := by decide +kernel
theorem dX4_tasksAdmitted_13 : decode cX4_tasksAdmitted 13 = .ok (.aaload, 1) := by decide +kernel
theorem dX4_tasksAdmitted_14 : decode cX4_tasksAdmitted 14 = .ok (.getfield 75, 3) := by decide +kernel
theorem dX4_tasksAdmitted_17 : decode cX4_tasksAdmitted 17 = .ok (.ifCond .eq 19, 3) := by decide +kernel
theorem dX4_tasksAdmitted_20 : decode cX4_tasksAdmitted 20 = .ok (.aload_n 0, 1) := by decide +kernel
theorem dX4_tasksAdmitted_21 : decode cX4_tasksAdmitted 21 = .ok (.aload_n 0, 1) := by decide +kernel
theorem dX4_tasksAdmitted_22 : decode cX4_tasksAdmitted 22 = .ok (.getfield 18, 3) := by decide +kernel
theorem dX4_tasksAdmitted_25 : decode cX4_tasksAdmitted 25 = .ok (.iload_n 1, 1) := by decide +kernel
theorem dX4_tasksAdmitted_26 : decode cX4_tasksAdmitted 26 = .ok (.aaload, 1) := by decide +kernel
theorem dX4_tasksAdmitted_27 : decode cX4_tasksAdmitted 27 = .ok (.invokevirtual 172, 3) := by decide +kernel
theorem dX4_tasksAdmitted_30 : decode cX4_tasksAdmitted 30 = .ok (.iconst (-1), 1) := by decide +kernel
theorem dX4_tasksAdmitted_31 : decode cX4_tasksAdmitted 31 = .ok (.if_icmp .ne 5, 3) := by decide +kernel
theorem dX4_tasksAdmitted_34 : decode cX4_tasksAdmitted 34 = .ok (.iconst 0, 1) := by decide +kernel
theorem dX4_tasksAdmitted_35 : decode cX4_tasksAdmitted 35 = .ok (.ireturn, 1) := by decide +kernel
theorem dX4_tasksAdmitted_36 : decode cX4_tasksAdmitted 36 = .ok (.iinc 1 1, 3) := by decide +kernel
theorem dX4_tasksAdmitted_39 : decode cX4_tasksAdmitted 39 = .ok (.goto (-37), 3) := by decide +kernel
theorem dX4_tasksAdmitted_42 : decode cX4_tasksAdmitted 42 = .ok (.iconst 1, 1) := by decide +kernel
theorem dX4_tasksAdmitted_43 : decode cX4_tasksAdmitted 43 = .ok (.ireturn, 1) := by decide +kernel
theorem dX4_taskBound_0 : decode cX4_taskBound 0 = .ok (.aload_n 0, 1) := by decide +kernel
theorem dX4_taskBound_1 : decode cX4_taskBound 1 = .ok (.aload_n 1, 1) := by decide +kernel
theorem dX4_taskBound_2 : decode cX4_taskBound 2 = .ok (.getfield 224, 3) := by decide +kernel
theorem dX4_taskBound_5 : decode cX4_taskBound 5 = .ok (.aload_n 1, 1) := by decide +kernel
theorem dX4_taskBound_6 : decode cX4_taskBound 6 = .ok (.getfield 227, 3) := by decide +kernel
theorem dX4_taskBound_9 : decode cX4_taskBound 9 = .ok (.iconst (-1), 1) := by decide +kernel
theorem dX4_taskBound_10 : decode cX4_taskBound 10 = .ok (.aload_n 1, 1) := by decide +kernel
theorem dX4_taskBound_11 : decode cX4_taskBound 11 = .ok (.getfield 194, 3) := by decide +kernel
theorem dX4_taskBound_14 : decode cX4_taskBound 14 = .ok (.invokevirtual 230, 3) := by decide +kernel
theorem dX4_taskBound_17 : decode cX4_taskBound 17 = .ok (.ireturn, 1) := by decide +kernel
theorem dX4_sourceBound_0 : decode cX4_sourceBound 0 = .ok (.aload_n 1, 1) := by decide +kernel
theorem dX4_sourceBound_1 : decode cX4_sourceBound 1 = .ok (.getfield 234, 3) := by decide +kernel
theorem dX4_sourceBound_4 : decode cX4_sourceBound 4 = .ok (.aload_n 1, 1) := by decide +kernel
theorem dX4_sourceBound_5 : decode cX4_sourceBound 5 = .ok (.getfield 235, 3) := by decide +kernel
theorem dX4_sourceBound_8 : decode cX4_sourceBound 8 = .ok (.if_icmp .gt 14, 3) := by decide +kernel
theorem dX4_sourceBound_11 : decode cX4_sourceBound 11 = .ok (.aload_n 1, 1) := by decide +kernel
theorem dX4_sourceBound_12 : decode cX4_sourceBound 12 = .ok (.getfield 238, 3) := by decide +kernel
theorem dX4_sourceBound_15 : decode cX4_sourceBound 15 = .ok (.aload_n 1, 1) := by decide +kernel
theorem dX4_sourceBound_16 : decode cX4_sourceBound 16 = .ok (.getfield 241, 3) := by decide +kernel
theorem dX4_sourceBound_19 : decode cX4_sourceBound 19 = .ok (.if_icmp .ge 5, 3) := by decide +kernel
theorem dX4_sourceBound_22 : decode cX4_sourceBound 22 = .ok (.iconst (-1), 1) := by decide +kernel
theorem dX4_sourceBound_23 : decode cX4_sourceBound 23 = .ok (.ireturn, 1) := by decide +kernel
theorem dX4_sourceBound_24 : decode cX4_sourceBound 24 = .ok (.aload_n 0, 1) := by decide +kernel
theorem dX4_sourceBound_25 : decode cX4_sourceBound 25 = .ok (.aload_n 1, 1) := by decide +kernel
theorem dX4_sourceBound_26 : decode cX4_sourceBound 26 = .ok (.getfield 234, 3) := by decide +kernel
theorem dX4_sourceBound_29 : decode cX4_sourceBound 29 = .ok (.aload_n 1, 1) := by decide +kernel
theorem dX4_sourceBound_30 : decode cX4_sourceBound 30 = .ok (.getfield 241, 3) := by decide +kernel
theorem dX4_sourceBound_33 : decode cX4_sourceBound 33 = .ok (.aload_n 1, 1) := by decide +kernel
theorem dX4_sourceBound_34 : decode cX4_sourceBound 34 = .ok (.getfield 191, 3) := by decide +kernel
theorem dX4_sourceBound_37 : decode cX4_sourceBound 37 = .ok (.bipush 31, 2) := by decide +kernel
theorem dX4_sourceBound_39 : decode cX4_sourceBound 39 = .ok (.invokevirtual 230, 3) := by decide +kernel
theorem dX4_sourceBound_42 : decode cX4_sourceBound 42 = .ok (.ireturn, 1) := by decide +kernel
theorem dX4_leastBound_0 : decode cX4_leastBound 0 = .ok (.iconst 1, 1) := by decide +kernel
theorem dX4_leastBound_1 : decode cX4_leastBound 1 = .ok (.istore 5, 2) := by decide +kernel
theorem dX4_leastBound_3 : decode cX4_leastBound 3 = .ok (.iconst 0, 1) := by decide +kernel
theorem dX4_leastBound_4 : decode cX4_leastBound 4 = .ok (.istore 6, 2) := by decide +kernel
theorem dX4_leastBound_6 : decode cX4_leastBound 6 = .ok (.iload 6, 2) := by decide +kernel
theorem dX4_leastBound_8 : decode cX4_leastBound 8 = .ok (.iload_n 2, 1) := by decide +kernel
theorem dX4_leastBound_9 : decode cX4_leastBound 9 = .ok (.if_icmp .gt 58, 3) := by decide +kernel
theorem dX4_leastBound_12 : decode cX4_leastBound 12 = .ok (.iload_n 1, 1) := by decide +kernel
theorem dX4_leastBound_13 : decode cX4_leastBound 13 = .ok (.aload_n 0, 1) := by decide +kernel
theorem dX4_leastBound_14 : decode cX4_leastBound 14 = .ok (.iload_n 3, 1) := by decide +kernel
theorem dX4_leastBound_15 : decode cX4_leastBound 15 = .ok (.iload 5, 2) := by decide +kernel
theorem dX4_leastBound_17 : decode cX4_leastBound 17 = .ok (.invokevirtual 181, 3) := by decide +kernel
theorem dX4_leastBound_20 : decode cX4_leastBound 20 = .ok (.iadd, 1) := by decide +kernel
theorem dX4_leastBound_21 : decode cX4_leastBound 21 = .ok (.aload_n 0, 1) := by decide +kernel
theorem dX4_leastBound_22 : decode cX4_leastBound 22 = .ok (.iload 5, 2) := by decide +kernel
theorem dX4_leastBound_24 : decode cX4_leastBound 24 = .ok (.invokevirtual 184, 3) := by decide +kernel
theorem dX4_leastBound_27 : decode cX4_leastBound 27 = .ok (.iadd, 1) := by decide +kernel
theorem dX4_leastBound_28 : decode cX4_leastBound 28 = .ok (.aload_n 0, 1) := by decide +kernel
theorem dX4_leastBound_29 : decode cX4_leastBound 29 = .ok (.iload 4, 2) := by decide +kernel
theorem dX4_leastBound_31 : decode cX4_leastBound 31 = .ok (.iload 5, 2) := by decide +kernel
theorem dX4_leastBound_33 : decode cX4_leastBound 33 = .ok (.invokevirtual 242, 3) := by decide +kernel
theorem dX4_leastBound_36 : decode cX4_leastBound 36 = .ok (.iadd, 1) := by decide +kernel
theorem dX4_leastBound_37 : decode cX4_leastBound 37 = .ok (.istore 7, 2) := by decide +kernel
theorem dX4_leastBound_39 : decode cX4_leastBound 39 = .ok (.iload 7, 2) := by decide +kernel
theorem dX4_leastBound_41 : decode cX4_leastBound 41 = .ok (.iload_n 2, 1) := by decide +kernel
theorem dX4_leastBound_42 : decode cX4_leastBound 42 = .ok (.if_icmp .le 5, 3) := by decide +kernel
theorem dX4_leastBound_45 : decode cX4_leastBound 45 = .ok (.iconst (-1), 1) := by decide +kernel
theorem dX4_leastBound_46 : decode cX4_leastBound 46 = .ok (.ireturn, 1) := by decide +kernel
theorem dX4_leastBound_47 : decode cX4_leastBound 47 = .ok (.iload 7, 2) := by decide +kernel
theorem dX4_leastBound_49 : decode cX4_leastBound 49 = .ok (.iload 5, 2) := by decide +kernel
theorem dX4_leastBound_51 : decode cX4_leastBound 51 = .ok (.if_icmp .ne 6, 3) := by decide +kernel
theorem dX4_leastBound_54 : decode cX4_leastBound 54 = .ok (.iload 5, 2) := by decide +kernel
theorem dX4_leastBound_56 : decode cX4_leastBound 56 = .ok (.ireturn, 1) := by decide +kernel
theorem dX4_leastBound_57 : decode cX4_leastBound 57 = .ok (.iload 7, 2) := by decide +kernel
theorem dX4_leastBound_59 : decode cX4_leastBound 59 = .ok (.istore 5, 2) := by decide +kernel
theorem dX4_leastBound_61 : decode cX4_leastBound 61 = .ok (.iinc 6 1, 3) := by decide +kernel
theorem dX4_leastBound_64 : decode cX4_leastBound 64 = .ok (.goto (-58), 3) := by decide +kernel
theorem dX4_leastBound_67 : decode cX4_leastBound 67 = .ok (.iconst (-1), 1) := by decide +kernel
theorem dX4_leastBound_68 : decode cX4_leastBound 68 = .ok (.ireturn, 1) := by decide +kernel
theorem dX4_handlersTake_0 : decode cX4_handlersTake 0 = .ok (.iconst 0, 1) := by decide +kernel
theorem dX4_handlersTake_1 : decode cX4_handlersTake 1 = .ok (.istore_n 3, 1) := by decide +kernel
theorem dX4_handlersTake_2 : decode cX4_handlersTake 2 = .ok (.iconst 0, 1) := by decide +kernel
theorem dX4_handlersTake_3 : decode cX4_handlersTake 3 = .ok (.istore 4, 2) := by decide +kernel
theorem dX4_handlersTake_5 : decode cX4_handlersTake 5 = .ok (.iload 4, 2) := by decide +kernel
theorem dX4_handlersTake_7 : decode cX4_handlersTake 7 = .ok (.bipush 6, 2) := by decide +kernel
theorem dX4_handlersTake_9 : decode cX4_handlersTake 9 = .ok (.if_icmp .ge 66, 3) := by decide +kernel
theorem dX4_handlersTake_12 : decode cX4_handlersTake 12 = .ok (.aload_n 0, 1) := by decide +kernel
theorem dX4_handlersTake_13 : decode cX4_handlersTake 13 = .ok (.getfield 11, 3) := by decide +kernel
theorem dX4_handlersTake_16 : decode cX4_handlersTake 16 = .ok (.iload 4, 2) := by decide +kernel
theorem dX4_handlersTake_18 : decode cX4_handlersTake 18 = .ok (.aaload, 1) := by decide +kernel
theorem dX4_handlersTake_19 : decode cX4_handlersTake 19 = .ok (.getfield 53, 3) := by decide +kernel
theorem dX4_handlersTake_22 : decode cX4_handlersTake 22 = .ok (.ifCond .eq 47, 3) := by decide +kernel
theorem dX4_handlersTake_25 : decode cX4_handlersTake 25 = .ok (.aload_n 0, 1) := by decide +kernel
theorem dX4_handlersTake_26 : decode cX4_handlersTake 26 = .ok (.getfield 11, 3) := by decide +kernel
theorem dX4_handlersTake_29 : decode cX4_handlersTake 29 = .ok (.iload 4, 2) := by decide +kernel
theorem dX4_handlersTake_31 : decode cX4_handlersTake 31 = .ok (.aaload, 1) := by decide +kernel
theorem dX4_handlersTake_32 : decode cX4_handlersTake 32 = .ok (.getfield 191, 3) := by decide +kernel
theorem dX4_handlersTake_35 : decode cX4_handlersTake 35 = .ok (.iload_n 1, 1) := by decide +kernel
theorem dX4_handlersTake_36 : decode cX4_handlersTake 36 = .ok (.if_icmp .le 33, 3) := by decide +kernel
theorem dX4_handlersTake_39 : decode cX4_handlersTake 39 = .ok (.iload_n 3, 1) := by decide +kernel
theorem dX4_handlersTake_40 : decode cX4_handlersTake 40 = .ok (.iload_n 2, 1) := by decide +kernel
theorem dX4_handlersTake_41 : decode cX4_handlersTake 41 = .ok (.aload_n 0, 1) := by decide +kernel
theorem dX4_handlersTake_42 : decode cX4_handlersTake 42 = .ok (.getfield 11, 3) := by decide +kernel
theorem dX4_handlersTake_45 : decode cX4_handlersTake 45 = .ok (.iload 4, 2) := by decide +kernel
theorem dX4_handlersTake_47 : decode cX4_handlersTake 47 = .ok (.aaload, 1) := by decide +kernel
theorem dX4_handlersTake_48 : decode cX4_handlersTake 48 = .ok (.getfield 241, 3) := by decide +kernel
theorem dX4_handlersTake_51 : decode cX4_handlersTake 51 = .ok (.invokestatic 245, 3) := by decide +kernel
theorem dX4_handlersTake_54 : decode cX4_handlersTake 54 = .ok (.iconst 1, 1) := by decide +kernel
theorem dX4_handlersTake_55 : decode cX4_handlersTake 55 = .ok (.iadd, 1) := by decide +kernel
theorem dX4_handlersTake_56 : decode cX4_handlersTake 56 = .ok (.aload_n 0, 1) := by decide +kernel
theorem dX4_handlersTake_57 : decode cX4_handlersTake 57 = .ok (.getfield 11, 3) := by decide +kernel
theorem dX4_handlersTake_60 : decode cX4_handlersTake 60 = .ok (.iload 4, 2) := by decide +kernel
theorem dX4_handlersTake_62 : decode cX4_handlersTake 62 = .ok (.aaload, 1) := by decide +kernel
theorem dX4_handlersTake_63 : decode cX4_handlersTake 63 = .ok (.getfield 235, 3) := by decide +kernel
theorem dX4_handlersTake_66 : decode cX4_handlersTake 66 = .ok (.imul, 1) := by decide +kernel
theorem dX4_handlersTake_67 : decode cX4_handlersTake 67 = .ok (.iadd, 1) := by decide +kernel
theorem dX4_handlersTake_68 : decode cX4_handlersTake 68 = .ok (.istore_n 3, 1) := by decide +kernel
theorem dX4_handlersTake_69 : decode cX4_handlersTake 69 = .ok (.iinc 4 1, 3) := by decide +kernel
theorem dX4_handlersTake_72 : decode cX4_handlersTake 72 = .ok (.goto (-67), 3) := by decide +kernel
theorem dX4_handlersTake_75 : decode cX4_handlersTake 75 = .ok (.iload_n 3, 1) := by decide +kernel
theorem dX4_handlersTake_76 : decode cX4_handlersTake 76 = .ok (.ireturn, 1) := by decide +kernel
theorem dX4_topsTake_0 : decode cX4_topsTake 0 = .ok (.iconst 0, 1) := by decide +kernel
theorem dX4_topsTake_1 : decode cX4_topsTake 1 = .ok (.istore_n 2, 1) := by decide +kernel
theorem dX4_topsTake_2 : decode cX4_topsTake 2 = .ok (.iconst 0, 1) := by decide +kernel
theorem dX4_topsTake_3 : decode cX4_topsTake 3 = .ok (.istore_n 3, 1) := by decide +kernel
theorem dX4_topsTake_4 : decode cX4_topsTake 4 = .ok (.iload_n 3, 1) := by decide +kernel
theorem dX4_topsTake_5 : decode cX4_topsTake 5 = .ok (.bipush 6, 2) := by decide +kernel
theorem dX4_topsTake_7 : decode cX4_topsTake 7 = .ok (.if_icmp .ge 49, 3) := by decide +kernel
theorem dX4_topsTake_10 : decode cX4_topsTake 10 = .ok (.aload_n 0, 1) := by decide +kernel
theorem dX4_topsTake_11 : decode cX4_topsTake 11 = .ok (.getfield 11, 3) := by decide +kernel
theorem dX4_topsTake_14 : decode cX4_topsTake 14 = .ok (.iload_n 3, 1) := by decide +kernel
theorem dX4_topsTake_15 : decode cX4_topsTake 15 = .ok (.aaload, 1) := by decide +kernel
theorem dX4_topsTake_16 : decode cX4_topsTake 16 = .ok (.getfield 53, 3) := by decide +kernel
theorem dX4_topsTake_19 : decode cX4_topsTake 19 = .ok (.ifCond .eq 31, 3) := by decide +kernel
theorem dX4_topsTake_22 : decode cX4_topsTake 22 = .ok (.iload_n 2, 1) := by decide +kernel
theorem dX4_topsTake_23 : decode cX4_topsTake 23 = .ok (.iload_n 1, 1) := by decide +kernel
theorem dX4_topsTake_24 : decode cX4_topsTake 24 = .ok (.aload_n 0, 1) := by decide +kernel
theorem dX4_topsTake_25 : decode cX4_topsTake 25 = .ok (.getfield 11, 3) := by decide +kernel
theorem dX4_topsTake_28 : decode cX4_topsTake 28 = .ok (.iload_n 3, 1) := by decide +kernel
theorem dX4_topsTake_29 : decode cX4_topsTake 29 = .ok (.aaload, 1) := by decide +kernel
theorem dX4_topsTake_30 : decode cX4_topsTake 30 = .ok (.getfield 238, 3) := by decide +kernel
theorem dX4_topsTake_33 : decode cX4_topsTake 33 = .ok (.invokestatic 245, 3) := by decide +kernel
theorem dX4_topsTake_36 : decode cX4_topsTake 36 = .ok (.iconst 1, 1) := by decide +kernel
theorem dX4_topsTake_37 : decode cX4_topsTake 37 = .ok (.iadd, 1) := by decide +kernel
theorem dX4_topsTake_38 : decode cX4_topsTake 38 = .ok (.aload_n 0, 1) := by decide +kernel
theorem dX4_topsTake_39 : decode cX4_topsTake 39 = .ok (.getfield 11, 3) := by decide +kernel
theorem dX4_topsTake_42 : decode cX4_topsTake 42 = .ok (.iload_n 3, 1) := by decide +kernel
theorem dX4_topsTake_43 : decode cX4_topsTake 43 = .ok (.aaload, 1) := by decide +kernel
theorem dX4_topsTake_44 : decode cX4_topsTake 44 = .ok (.getfield 89, 3) := by decide +kernel
theorem dX4_topsTake_47 : decode cX4_topsTake 47 = .ok (.imul, 1) := by decide +kernel
theorem dX4_topsTake_48 : decode cX4_topsTake 48 = .ok (.iadd, 1) := by decide +kernel
theorem dX4_topsTake_49 : decode cX4_topsTake 49 = .ok (.istore_n 2, 1) := by decide +kernel
theorem dX4_topsTake_50 : decode cX4_topsTake 50 = .ok (.iinc 3 1, 3) := by decide +kernel
theorem dX4_topsTake_53 : decode cX4_topsTake 53 = .ok (.goto (-49), 3) := by decide +kernel
theorem dX4_topsTake_56 : decode cX4_topsTake 56 = .ok (.iload_n 2, 1) := by decide +kernel
theorem dX4_topsTake_57 : decode cX4_topsTake 57 = .ok (.ireturn, 1) := by decide +kernel
theorem dX4_tasksTake_0 : decode cX4_tasksTake 0 = .ok (.iconst 0, 1) := by decide +kernel
theorem dX4_tasksTake_1 : decode cX4_tasksTake 1 = .ok (.istore_n 3, 1) := by decide +kernel
theorem dX4_tasksTake_2 : decode cX4_tasksTake 2 = .ok (.iconst 0, 1) := by decide +kernel
theorem dX4_tasksTake_3 : decode cX4_tasksTake 3 = .ok (.istore 4, 2) := by decide +kernel
theorem dX4_tasksTake_5 : decode cX4_tasksTake 5 = .ok (.iload 4, 2) := by decide +kernel
theorem dX4_tasksTake_7 : decode cX4_tasksTake 7 = .ok (.bipush 6, 2) := by decide +kernel
theorem dX4_tasksTake_9 : decode cX4_tasksTake 9 = .ok (.if_icmp .ge 64, 3) := by decide +kernel
theorem dX4_tasksTake_12 : decode cX4_tasksTake 12 = .ok (.aload_n 0, 1) := by decide +kernel
theorem dX4_tasksTake_13 : decode cX4_tasksTake 13 = .ok (.getfield 18, 3) := by decide +kernel
theorem dX4_tasksTake_16 : decode cX4_tasksTake 16 = .ok (.iload 4, 2) := by decide +kernel
theorem dX4_tasksTake_18 : decode cX4_tasksTake 18 = .ok (.aaload, 1) := by decide +kernel
theorem dX4_tasksTake_19 : decode cX4_tasksTake 19 = .ok (.getfield 75, 3) := by decide +kernel
theorem dX4_tasksTake_22 : decode cX4_tasksTake 22 = .ok (.ifCond .eq 45, 3) := by decide +kernel
theorem dX4_tasksTake_25 : decode cX4_tasksTake 25 = .ok (.aload_n 0, 1) := by decide +kernel
theorem dX4_tasksTake_26 : decode cX4_tasksTake 26 = .ok (.getfield 18, 3) := by decide +kernel
theorem dX4_tasksTake_29 : decode cX4_tasksTake 29 = .ok (.iload 4, 2) := by decide +kernel
theorem dX4_tasksTake_31 : decode cX4_tasksTake 31 = .ok (.aaload, 1) := by decide +kernel
theorem dX4_tasksTake_32 : decode cX4_tasksTake 32 = .ok (.getfield 194, 3) := by decide +kernel
theorem dX4_tasksTake_35 : decode cX4_tasksTake 35 = .ok (.iload_n 1, 1) := by decide +kernel
theorem dX4_tasksTake_36 : decode cX4_tasksTake 36 = .ok (.if_icmp .le 31, 3) := by decide +kernel
theorem dX4_tasksTake_39 : decode cX4_tasksTake 39 = .ok (.iload_n 3, 1) := by decide +kernel
theorem dX4_tasksTake_40 : decode cX4_tasksTake 40 = .ok (.iload_n 2, 1) := by decide +kernel
theorem dX4_tasksTake_41 : decode cX4_tasksTake 41 = .ok (.aload_n 0, 1) := by decide +kernel
theorem dX4_tasksTake_42 : decode cX4_tasksTake 42 = .ok (.getfield 18, 3) := by decide +kernel
theorem dX4_tasksTake_45 : decode cX4_tasksTake 45 = .ok (.iload 4, 2) := by decide +kernel
theorem dX4_tasksTake_47 : decode cX4_tasksTake 47 = .ok (.aaload, 1) := by decide +kernel
theorem dX4_tasksTake_48 : decode cX4_tasksTake 48 = .ok (.getfield 227, 3) := by decide +kernel
theorem dX4_tasksTake_51 : decode cX4_tasksTake 51 = .ok (.invokestatic 245, 3) := by decide +kernel
theorem dX4_tasksTake_54 : decode cX4_tasksTake 54 = .ok (.aload_n 0, 1) := by decide +kernel
theorem dX4_tasksTake_55 : decode cX4_tasksTake 55 = .ok (.getfield 18, 3) := by decide +kernel
theorem dX4_tasksTake_58 : decode cX4_tasksTake 58 = .ok (.iload 4, 2) := by decide +kernel
theorem dX4_tasksTake_60 : decode cX4_tasksTake 60 = .ok (.aaload, 1) := by decide +kernel
theorem dX4_tasksTake_61 : decode cX4_tasksTake 61 = .ok (.getfield 224, 3) := by decide +kernel
theorem dX4_tasksTake_64 : decode cX4_tasksTake 64 = .ok (.imul, 1) := by decide +kernel
theorem dX4_tasksTake_65 : decode cX4_tasksTake 65 = .ok (.iadd, 1) := by decide +kernel
theorem dX4_tasksTake_66 : decode cX4_tasksTake 66 = .ok (.istore_n 3, 1) := by decide +kernel
theorem dX4_tasksTake_67 : decode cX4_tasksTake 67 = .ok (.iinc 4 1, 3) := by decide +kernel
theorem dX4_tasksTake_70 : decode cX4_tasksTake 70 = .ok (.goto (-65), 3) := by decide +kernel
theorem dX4_tasksTake_73 : decode cX4_tasksTake 73 = .ok (.iload_n 3, 1) := by decide +kernel
theorem dX4_tasksTake_74 : decode cX4_tasksTake 74 = .ok (.ireturn, 1) := by decide +kernel
theorem dX4_ceil_0 : decode cX4_ceil 0 = .ok (.iload_n 0, 1) := by decide +kernel
theorem dX4_ceil_1 : decode cX4_ceil 1 = .ok (.iload_n 1, 1) := by decide +kernel
theorem dX4_ceil_2 : decode cX4_ceil 2 = .ok (.iadd, 1) := by decide +kernel
theorem dX4_ceil_3 : decode cX4_ceil 3 = .ok (.iconst 1, 1) := by decide +kernel
theorem dX4_ceil_4 : decode cX4_ceil 4 = .ok (.isub, 1) := by decide +kernel
theorem dX4_ceil_5 : decode cX4_ceil 5 = .ok (.iload_n 1, 1) := by decide +kernel
theorem dX4_ceil_6 : decode cX4_ceil 6 = .ok (.idiv, 1) := by decide +kernel
theorem dX4_ceil_7 : decode cX4_ceil 7 = .ok (.ireturn, 1) := by decide +kernel
end
section
theorem dX5_init_0 : decode cX5_init 0 = .ok (.aload_n 0, 1) := by decide +kernel
theorem dX5_init_1 : decode cX5_init 1 = .ok (.invokespecial 1, 3) := by decide +kernel
theorem dX5_init_4 : decode cX5_init 4 = .ok (.aload_n 0, 1) := by decide +kernel
theorem dX5_init_5 : decode cX5_init 5 = .ok (.bipush 6, 2) := by decide +kernel
theorem dX5_init_7 : decode cX5_init 7 = .ok (.newarray .boolean, 2) := by decide +kernel
theorem dX5_init_9 : decode cX5_init 9 = .ok (.putfield 7, 3) := by decide +kernel
theorem dX5_init_12 : decode cX5_init 12 = .ok (.aload_n 0, 1) := by decide +kernel
theorem dX5_init_13 : decode cX5_init 13 = .ok (.bipush 6, 2) := by decide +kernel
theorem dX5_init_15 : decode cX5_init 15 = .ok (.newarray .int, 2) := by decide +kernel
theorem dX5_init_17 : decode cX5_init 17 = .ok (.putfield 13, 3) := by decide +kernel
theorem dX5_init_20 : decode cX5_init 20 = .ok (.aload_n 0, 1) := by decide +kernel
theorem dX5_init_21 : decode cX5_init 21 = .ok (.bipush 6, 2) := by decide +kernel
theorem dX5_init_23 : decode cX5_init 23 = .ok (.newarray .int, 2) := by decide +kernel
theorem dX5_init_25 : decode cX5_init 25 = .ok (.putfield 17, 3) := by decide +kernel
theorem dX5_init_28 : decode cX5_init 28 = .ok (.aload_n 0, 1) := by decide +kernel
theorem dX5_init_29 : decode cX5_init 29 = .ok (.bipush 6, 2) := by decide +kernel
theorem dX5_init_31 : decode cX5_init 31 = .ok (.newarray .int, 2) := by decide +kernel
theorem dX5_init_33 : decode cX5_init 33 = .ok (.putfield 20, 3) := by decide +kernel
theorem dX5_init_36 : decode cX5_init 36 = .ok (.aload_n 0, 1) := by decide +kernel
theorem dX5_init_37 : decode cX5_init 37 = .ok (.bipush 6, 2) := by decide +kernel
theorem dX5_init_39 : decode cX5_init 39 = .ok (.newarray .int, 2) := by decide +kernel
theorem dX5_init_41 : decode cX5_init 41 = .ok (.putfield 23, 3) := by decide +kernel
theorem dX5_init_44 : decode cX5_init 44 = .ok (.aload_n 0, 1) := by decide +kernel
theorem dX5_init_45 : decode cX5_init 45 = .ok (.bipush 6, 2) := by decide +kernel
theorem dX5_init_47 : decode cX5_init 47 = .ok (.newarray .int, 2) := by decide +kernel
theorem dX5_init_49 : decode cX5_init 49 = .ok (.putfield 26, 3) := by decide +kernel
theorem dX5_init_52 : decode cX5_init 52 = .ok (.aload_n 0, 1) := by decide +kernel
theorem dX5_init_53 : decode cX5_init 53 = .ok (.bipush 6, 2) := by decide +kernel
theorem dX5_init_55 : decode cX5_init 55 = .ok (.newarray .int, 2) := by decide +kernel
theorem dX5_init_57 : decode cX5_init 57 = .ok (.putfield 29, 3) := by decide +kernel
theorem dX5_init_60 : decode cX5_init 60 = .ok (.aload_n 0, 1) := by decide +kernel
theorem dX5_init_61 : decode cX5_init 61 = .ok (.bipush 6, 2) := by decide +kernel
theorem dX5_init_63 : decode cX5_init 63 = .ok (.newarray .int, 2) := by decide +kernel
theorem dX5_init_65 : decode cX5_init 65 = .ok (.putfield 32, 3) := by decide +kernel
theorem dX5_init_68 : decode cX5_init 68 = .ok (.aload_n 0, 1) := by decide +kernel
theorem dX5_init_69 : decode cX5_init 69 = .ok (.sipush 192, 3) := by decide +kernel
theorem dX5_init_72 : decode cX5_init 72 = .ok (.newarray .int, 2) := by decide +kernel
theorem dX5_init_74 : decode cX5_init 74 = .ok (.putfield 35, 3) := by decide +kernel
theorem dX5_init_77 : decode cX5_init 77 = .ok (.aload_n 0, 1) := by decide +kernel
theorem dX5_init_78 : decode cX5_init 78 = .ok (.bipush 6, 2) := by decide +kernel
theorem dX5_init_80 : decode cX5_init 80 = .ok (.newarray .int, 2) := by decide +kernel
theorem dX5_init_82 : decode cX5_init 82 = .ok (.putfield 38, 3) := by decide +kernel
theorem dX5_init_85 : decode cX5_init 85 = .ok (.aload_n 0, 1) := by decide +kernel
theorem dX5_init_86 : decode cX5_init 86 = .ok (.bipush 6, 2) := by decide +kernel
theorem dX5_init_88 : decode cX5_init 88 = .ok (.newarray .int, 2) := by decide +kernel
theorem dX5_init_90 : decode cX5_init 90 = .ok (.putfield 41, 3) := by decide +kernel
theorem dX5_init_93 : decode cX5_init 93 = .ok (.aload_n 0, 1) := by decide +kernel
theorem dX5_init_94 : decode cX5_init 94 = .ok (.sipush 180, 3) := by decide +kernel
theorem dX5_init_97 : decode cX5_init 97 = .ok (.newarray .int, 2) := by decide +kernel
theorem dX5_init_99 : decode cX5_init 99 = .ok (.putfield 44, 3) := by decide +kernel
theorem dX5_init_102 : decode cX5_init 102 = .ok (.aload_n 0, 1) := by decide +kernel
theorem dX5_init_103 : decode cX5_init 103 = .ok (.bipush 6, 2) := by decide +kernel
theorem dX5_init_105 : decode cX5_init 105 = .ok (.newarray .int, 2) := by decide +kernel
theorem dX5_init_107 : decode cX5_init 107 = .ok (.putfield 47, 3) := by decide +kernel
theorem dX5_init_110 : decode cX5_init 110 = .ok (.aload_n 0, 1) := by decide +kernel
theorem dX5_init_111 : decode cX5_init 111 = .ok (.bipush 96, 2) := by decide +kernel
theorem dX5_init_113 : decode cX5_init 113 = .ok (.newarray .int, 2) := by decide +kernel
theorem dX5_init_115 : decode cX5_init 115 = .ok (.putfield 50, 3) := by decide +kernel
theorem dX5_init_118 : decode cX5_init 118 = .ok (.aload_n 0, 1) := by decide +kernel
theorem dX5_init_119 : decode cX5_init 119 = .ok (.bipush 96, 2) := by decide +kernel
theorem dX5_init_121 : decode cX5_init 121 = .ok (.newarray .int, 2) := by decide +kernel
theorem dX5_init_123 : decode cX5_init 123 = .ok (.putfield 53, 3) := by decide +kernel
theorem dX5_init_126 : decode cX5_init 126 = .ok (.aload_n 0, 1) := by decide +kernel
theorem dX5_init_127 : decode cX5_init 127 = .ok (.bipush 6, 2) := by decide +kernel
theorem dX5_init_129 : decode cX5_init 129 = .ok (.newarray .boolean, 2) := by decide +kernel
theorem dX5_init_131 : decode cX5_init 131 = .ok (.putfield 56, 3) := by decide +kernel
theorem dX5_init_134 : decode cX5_init 134 = .ok (.aload_n 0, 1) := by decide +kernel
theorem dX5_init_135 : decode cX5_init 135 = .ok (.bipush 6, 2) := by decide +kernel
theorem dX5_init_137 : decode cX5_init 137 = .ok (.newarray .int, 2) := by decide +kernel
theorem dX5_init_139 : decode cX5_init 139 = .ok (.putfield 59, 3) := by decide +kernel
theorem dX5_init_142 : decode cX5_init 142 = .ok (.aload_n 0, 1) := by decide +kernel
theorem dX5_init_143 : decode cX5_init 143 = .ok (.bipush 6, 2) := by decide +kernel
theorem dX5_init_145 : decode cX5_init 145 = .ok (.newarray .int, 2) := by decide +kernel
theorem dX5_init_147 : decode cX5_init 147 = .ok (.putfield 62, 3) := by decide +kernel
theorem dX5_init_150 : decode cX5_init 150 = .ok (.aload_n 0, 1) := by decide +kernel
theorem dX5_init_151 : decode cX5_init 151 = .ok (.bipush 6, 2) := by decide +kernel
theorem dX5_init_153 : decode cX5_init 153 = .ok (.newarray .int, 2) := by decide +kernel
theorem dX5_init_155 : decode cX5_init 155 = .ok (.putfield 65, 3) := by decide +kernel
theorem dX5_init_158 : decode cX5_init 158 = .ok (.aload_n 0, 1) := by decide +kernel
theorem dX5_init_159 : decode cX5_init 159 = .ok (.bipush 6, 2) := by decide +kernel
theorem dX5_init_161 : decode cX5_init 161 = .ok (.newarray .int, 2) := by decide +kernel
theorem dX5_init_163 : decode cX5_init 163 = .ok (.putfield 68, 3) := by decide +kernel
theorem dX5_init_166 : decode cX5_init 166 = .ok (.aload_n 0, 1) := by decide +kernel
theorem dX5_init_167 : decode cX5_init 167 = .ok (.bipush 6, 2) := by decide +kernel
theorem dX5_init_169 : decode cX5_init 169 = .ok (.newarray .int, 2) := by decide +kernel
theorem dX5_init_171 : decode cX5_init 171 = .ok (.putfield 71, 3) := by decide +kernel
theorem dX5_init_174 : decode cX5_init 174 = .ok (.aload_n 0, 1) := by decide +kernel
theorem dX5_init_175 : decode cX5_init 175 = .ok (.bipush 6, 2) := by decide +kernel
theorem dX5_init_177 : decode cX5_init 177 = .ok (.newarray .boolean, 2) := by decide +kernel
theorem dX5_init_179 : decode cX5_init 179 = .ok (.putfield 74, 3) := by decide +kernel
theorem dX5_init_182 : decode cX5_init 182 = .ok (.aload_n 0, 1) := by decide +kernel
theorem dX5_init_183 : decode cX5_init 183 = .ok (.bipush 6, 2) := by decide +kernel
theorem dX5_init_185 : decode cX5_init 185 = .ok (.newarray .int, 2) := by decide +kernel
theorem dX5_init_187 : decode cX5_init 187 = .ok (.putfield 77, 3) := by decide +kernel
theorem dX5_init_190 : decode cX5_init 190 = .ok (.aload_n 0, 1) := by decide +kernel
theorem dX5_init_191 : decode cX5_init 191 = .ok (.bipush 6, 2) := by decide +kernel
theorem dX5_init_193 : decode cX5_init 193 = .ok (.newarray .int, 2) := by decide +kernel
theorem dX5_init_195 : decode cX5_init 195 = .ok (.putfield 80, 3) := by decide +kernel
theorem dX5_init_198 : decode cX5_init 198 = .ok (.aload_n 0, 1) := by decide +kernel
theorem dX5_init_199 : decode cX5_init 199 = .ok (.bipush 6, 2) := by decide +kernel
theorem dX5_init_201 : decode cX5_init 201 = .ok (.newarray .int, 2) := by decide +kernel
theorem dX5_init_203 : decode cX5_init 203 = .ok (.putfield 83, 3) := by decide +kernel
theorem dX5_init_206 : decode cX5_init 206 = .ok (.aload_n 0, 1) := by decide +kernel
theorem dX5_init_207 : decode cX5_init 207 = .ok (.bipush 6, 2) := by decide +kernel
theorem dX5_init_209 : decode cX5_init 209 = .ok (.newarray .int, 2) := by decide +kernel
theorem dX5_init_211 : decode cX5_init 211 = .ok (.putfield 86, 3) := by decide +kernel
theorem dX5_init_214 : decode cX5_init 214 = .ok (.aload_n 0, 1) := by decide +kernel
theorem dX5_init_215 : decode cX5_init 215 = .ok (.bipush 6, 2) := by decide +kernel
theorem dX5_init_217 : decode cX5_init 217 = .ok (.newarray .int, 2) := by decide +kernel
theorem dX5_init_219 : decode cX5_init 219 = .ok (.putfield 89, 3) := by decide +kernel
theorem dX5_init_222 : decode cX5_init 222 = .ok (.aload_n 0, 1) := by decide +kernel
theorem dX5_init_223 : decode cX5_init 223 = .ok (.bipush 6, 2) := by decide +kernel
theorem dX5_init_225 : decode cX5_init 225 = .ok (.newarray .int, 2) := by decide +kernel
theorem dX5_init_227 : decode cX5_init 227 = .ok (.putfield 92, 3) := by decide +kernel
theorem dX5_init_230 : decode cX5_init 230 = .ok (.aload_n 0, 1) := by decide +kernel
theorem dX5_init_231 : decode cX5_init 231 = .ok (.bipush 6, 2) := by decide +kernel
theorem dX5_init_233 : decode cX5_init 233 = .ok (.newarray .int, 2) := by decide +kernel
theorem dX5_init_235 : decode cX5_init 235 = .ok (.putfield 95, 3) := by decide +kernel
theorem dX5_init_238 : decode cX5_init 238 = .ok (.aload_n 0, 1) := by decide +kernel
theorem dX5_init_239 : decode cX5_init 239 = .ok (.sipush 600, 3) := by decide +kernel
theorem dX5_init_242 : decode cX5_init 242 = .ok (.newarray .int, 2) := by decide +kernel
theorem dX5_init_244 : decode cX5_init 244 = .ok (.putfield 98, 3) := by decide +kernel
theorem dX5_init_247 : decode cX5_init 247 = .ok (.aload_n 0, 1) := by decide +kernel
theorem dX5_init_248 : decode cX5_init 248 = .ok (.sipush 600, 3) := by decide +kernel
theorem dX5_init_251 : decode cX5_init 251 = .ok (.newarray .int, 2) := by decide +kernel
theorem dX5_init_253 : decode cX5_init 253 = .ok (.putfield 101, 3) := by decide +kernel
theorem dX5_init_256 : decode cX5_init 256 = .ok (.aload_n 0, 1) := by decide +kernel
theorem dX5_init_257 : decode cX5_init 257 = .ok (.sipush 1024, 3) := by decide +kernel
theorem dX5_init_260 : decode cX5_init 260 = .ok (.newarray .int, 2) := by decide +kernel
theorem dX5_init_262 : decode cX5_init 262 = .ok (.putfield 104, 3) := by decide +kernel
theorem dX5_init_265 : decode cX5_init 265 = .ok (.iconst 0, 1) := by decide +kernel
theorem dX5_init_266 : decode cX5_init 266 = .ok (.istore_n 1, 1) := by decide +kernel
theorem dX5_init_267 : decode cX5_init 267 = .ok (.iload_n 1, 1) := by decide +kernel
theorem dX5_init_268 : decode cX5_init 268 = .ok (.bipush 6, 2) := by decide +kernel
theorem dX5_init_270 : decode cX5_init 270 = .ok (.if_icmp .ge 16, 3) := by decide +kernel
theorem dX5_init_273 : decode cX5_init 273 = .ok (.aload_n 0, 1) := by decide +kernel
theorem dX5_init_274 : decode cX5_init 274 = .ok (.getfield 41, 3) := by decide +kernel
theorem dX5_init_277 : decode cX5_init 277 = .ok (.iload_n 1, 1) := by decide +kernel
theorem dX5_init_278 : decode cX5_init 278 = .ok (.iconst (-1), 1) := by decide +kernel
theorem dX5_init_279 : decode cX5_init 279 = .ok (.iastore, 1) := by decide +kernel
theorem dX5_init_280 : decode cX5_init 280 = .ok (.iinc 1 1, 3) := by decide +kernel
theorem dX5_init_283 : decode cX5_init 283 = .ok (.goto (-16), 3) := by decide +kernel
theorem dX5_init_286 : decode cX5_init 286 = .ok (.return_, 1) := by decide +kernel
theorem dX5_thrown_0 : decode cX5_thrown 0 = .ok (.aload_n 0, 1) := by decide +kernel
theorem dX5_thrown_1 : decode cX5_thrown 1 = .ok (.getfield 107, 3) := by decide +kernel
theorem dX5_thrown_4 : decode cX5_thrown 4 = .ok (.ireturn, 1) := by decide +kernel
theorem dX5_within_0 : decode cX5_within 0 = .ok (.iload_n 0, 1) := by decide +kernel
theorem dX5_within_1 : decode cX5_within 1 = .ok (.iload_n 1, 1) := by decide +kernel
theorem dX5_within_2 : decode cX5_within 2 = .ok (.if_icmp .lt 12, 3) := by decide +kernel
theorem dX5_within_5 : decode cX5_within 5 = .ok (.iload_n 0, 1) := by decide +kernel
theorem dX5_within_6 : decode cX5_within 6 = .ok (.iload_n 2, 1) := by decide +kernel
theorem dX5_within_7 : decode cX5_within 7 = .ok (.if_icmp .gt 7, 3) := by decide +kernel
theorem dX5_within_10 : decode cX5_within 10 = .ok (.iconst 1, 1) := by decide +kernel
theorem dX5_within_11 : decode cX5_within 11 = .ok (.goto 4, 3) := by decide +kernel
theorem dX5_within_14 : decode cX5_within 14 = .ok (.iconst 0, 1) := by decide +kernel
theorem dX5_within_15 : decode cX5_within 15 = .ok (.ireturn, 1) := by decide +kernel
theorem dX5_budgetLeft_0 : decode cX5_budgetLeft 0 = .ok (.aload_n 0, 1) := by decide +kernel
theorem dX5_budgetLeft_1 : decode cX5_budgetLeft 1 = .ok (.getfield 23, 3) := by decide +kernel
theorem dX5_budgetLeft_4 : decode cX5_budgetLeft 4 = .ok (.iload_n 1, 1) := by decide +kernel
theorem dX5_budgetLeft_5 : decode cX5_budgetLeft 5 = .ok (.iaload, 1) := by decide +kernel
theorem dX5_budgetLeft_6 : decode cX5_budgetLeft 6 = .ok (.istore_n 2, 1) := by decide +kernel
theorem dX5_budgetLeft_7 : decode cX5_budgetLeft 7 = .ok (.iconst 0, 1) := by decide +kernel
theorem dX5_budgetLeft_8 : decode cX5_budgetLeft 8 = .ok (.istore_n 3, 1) := by decide +kernel
theorem dX5_budgetLeft_9 : decode cX5_budgetLeft 9 = .ok (.iload_n 3, 1) := by decide +kernel
theorem dX5_budgetLeft_10 : decode cX5_budgetLeft 10 = .ok (.aload_n 0, 1) := by decide +kernel
theorem dX5_budgetLeft_11 : decode cX5_budgetLeft 11 = .ok (.getfield 47, 3) := by decide +kernel
theorem dX5_budgetLeft_14 : decode cX5_budgetLeft 14 = .ok (.iload_n 1, 1) := by decide +kernel
theorem dX5_budgetLeft_15 : decode cX5_budgetLeft 15 = .ok (.iaload, 1) := by decide +kernel
theorem dX5_budgetLeft_16 : decode cX5_budgetLeft 16 = .ok (.if_icmp .ge 23, 3) := by decide +kernel
theorem dX5_budgetLeft_19 : decode cX5_budgetLeft 19 = .ok (.iload_n 2, 1) := by decide +kernel
theorem dX5_budgetLeft_20 : decode cX5_budgetLeft 20 = .ok (.aload_n 0, 1) := by decide +kernel
theorem dX5_budgetLeft_21 : decode cX5_budgetLeft 21 = .ok (.getfield 53, 3) := by decide +kernel
theorem dX5_budgetLeft_24 : decode cX5_budgetLeft 24 = .ok (.bipush 16, 2) := by decide +kernel
theorem dX5_budgetLeft_26 : decode cX5_budgetLeft 26 = .ok (.iload_n 1, 1) := by decide +kernel
theorem dX5_budgetLeft_27 : decode cX5_budgetLeft 27 = .ok (.imul, 1) := by decide +kernel
theorem dX5_budgetLeft_28 : decode cX5_budgetLeft 28 = .ok (.iload_n 3, 1) := by decide +kernel
theorem dX5_budgetLeft_29 : decode cX5_budgetLeft 29 = .ok (.iadd, 1) := by decide +kernel
theorem dX5_budgetLeft_30 : decode cX5_budgetLeft 30 = .ok (.iaload, 1) := by decide +kernel
theorem dX5_budgetLeft_31 : decode cX5_budgetLeft 31 = .ok (.isub, 1) := by decide +kernel
theorem dX5_budgetLeft_32 : decode cX5_budgetLeft 32 = .ok (.istore_n 2, 1) := by decide +kernel
theorem dX5_budgetLeft_33 : decode cX5_budgetLeft 33 = .ok (.iinc 3 1, 3) := by decide +kernel
theorem dX5_budgetLeft_36 : decode cX5_budgetLeft 36 = .ok (.goto (-27), 3) := by decide +kernel
theorem dX5_budgetLeft_39 : decode cX5_budgetLeft 39 = .ok (.iload_n 2, 1) := by decide +kernel
theorem dX5_budgetLeft_40 : decode cX5_budgetLeft 40 = .ok (.ireturn, 1) := by decide +kernel
theorem dX5_isReady_0 : decode cX5_isReady 0 = .ok (.aload_n 0, 1) := by decide +kernel
theorem dX5_isReady_1 : decode cX5_isReady 1 = .ok (.getfield 7, 3) := by decide +kernel
theorem dX5_isReady_4 : decode cX5_isReady 4 = .ok (.iload_n 1, 1) := by decide +kernel
theorem dX5_isReady_5 : decode cX5_isReady 5 = .ok (.baload, 1) := by decide +kernel
theorem dX5_isReady_6 : decode cX5_isReady 6 = .ok (.ifCond .eq 24, 3) := by decide +kernel
theorem dX5_isReady_9 : decode cX5_isReady 9 = .ok (.aload_n 0, 1) := by decide +kernel
theorem dX5_isReady_10 : decode cX5_isReady 10 = .ok (.getfield 32, 3) := by decide +kernel
theorem dX5_isReady_13 : decode cX5_isReady 13 = .ok (.iload_n 1, 1) := by decide +kernel
theorem dX5_isReady_14 : decode cX5_isReady 14 = .ok (.iaload, 1) := by decide +kernel
theorem dX5_isReady_15 : decode cX5_isReady 15 = .ok (.ifCond .le 15, 3) := by decide +kernel
theorem dX5_isReady_18 : decode cX5_isReady 18 = .ok (.aload_n 0, 1) := by decide +kernel
theorem dX5_isReady_19 : decode cX5_isReady 19 = .ok (.iload_n 1, 1) := by decide +kernel
theorem dX5_isReady_20 : decode cX5_isReady 20 = .ok (.invokevirtual 111, 3) := by decide +kernel
theorem dX5_isReady_23 : decode cX5_isReady 23 = .ok (.ifCond .le 7, 3) := by decide +kernel
theorem dX5_isReady_26 : decode cX5_isReady 26 = .ok (.iconst 1, 1) := by decide +kernel
theorem dX5_isReady_27 : decode cX5_isReady 27 = .ok (.goto 4, 3) := by decide +kernel
theorem dX5_isReady_30 : decode cX5_isReady 30 = .ok (.iconst 0, 1) := by decide +kernel
theorem dX5_isReady_31 : decode cX5_isReady 31 = .ok (.ireturn, 1) := by decide +kernel
theorem dX5_giveBack_0 : decode cX5_giveBack 0 = .ok (.iconst 0, 1) := by decide +kernel
theorem dX5_giveBack_1 : decode cX5_giveBack 1 = .ok (.istore_n 1, 1) := by decide +kernel
theorem dX5_giveBack_2 : decode cX5_giveBack 2 = .ok (.iload_n 1, 1) := by decide +kernel
theorem dX5_giveBack_3 : decode cX5_giveBack 3 = .ok (.bipush 6, 2) := by decide +kernel
theorem dX5_giveBack_5 : decode cX5_giveBack 5 = .ok (.if_icmp .ge 183, 3) := by decide +kernel
theorem dX5_giveBack_8 : decode cX5_giveBack 8 = .ok (.iconst 0, 1) := by decide +kernel
theorem dX5_giveBack_9 : decode cX5_giveBack 9 = .ok (.istore_n 2, 1) := by decide +kernel
theorem dX5_giveBack_10 : decode cX5_giveBack 10 = .ok (.aload_n 0, 1) := by decide +kernel
theorem dX5_giveBack_11 : decode cX5_giveBack 11 = .ok (.iload_n 1, 1) := by decide +kernel
theorem dX5_giveBack_12 : decode cX5_giveBack 12 = .ok (.invokevirtual 111, 3) := by decide +kernel
theorem dX5_giveBack_15 : decode cX5_giveBack 15 = .ok (.istore_n 3, 1) := by decide +kernel
theorem dX5_giveBack_16 : decode cX5_giveBack 16 = .ok (.iconst 0, 1) := by decide +kernel
theorem dX5_giveBack_17 : decode cX5_giveBack 17 = .ok (.istore 4, 2) := by decide +kernel
theorem dX5_giveBack_19 : decode cX5_giveBack 19 = .ok (.iload 4, 2) := by decide +kernel
theorem dX5_giveBack_21 : decode cX5_giveBack 21 = .ok (.aload_n 0, 1) := by decide +kernel
theorem dX5_giveBack_22 : decode cX5_giveBack 22 = .ok (.getfield 47, 3) := by decide +kernel
theorem dX5_giveBack_25 : decode cX5_giveBack 25 = .ok (.iload_n 1, 1) := by decide +kernel
theorem dX5_giveBack_26 : decode cX5_giveBack 26 = .ok (.iaload, 1) := by decide +kernel
theorem dX5_giveBack_27 : decode cX5_giveBack 27 = .ok (.if_icmp .ge 148, 3) := by decide +kernel
theorem dX5_giveBack_30 : decode cX5_giveBack 30 = .ok (.iconst 0, 1) := by decide +kernel
theorem dX5_giveBack_31 : decode cX5_giveBack 31 = .ok (.istore 5, 2) := by decide +kernel
theorem dX5_giveBack_33 : decode cX5_giveBack 33 = .ok (.iload 5, 2) := by decide +kernel
theorem dX5_giveBack_35 : decode cX5_giveBack 35 = .ok (.aload_n 0, 1) := by decide +kernel
theorem dX5_giveBack_36 : decode cX5_giveBack 36 = .ok (.getfield 53, 3) := by decide +kernel
theorem dX5_giveBack_39 : decode cX5_giveBack 39 = .ok (.bipush 16, 2) := by decide +kernel
theorem dX5_giveBack_41 : decode cX5_giveBack 41 = .ok (.iload_n 1, 1) := by decide +kernel
theorem dX5_giveBack_42 : decode cX5_giveBack 42 = .ok (.imul, 1) := by decide +kernel
theorem dX5_giveBack_43 : decode cX5_giveBack 43 = .ok (.iload 4, 2) := by decide +kernel
theorem dX5_giveBack_45 : decode cX5_giveBack 45 = .ok (.iadd, 1) := by decide +kernel
theorem dX5_giveBack_46 : decode cX5_giveBack 46 = .ok (.iaload, 1) := by decide +kernel
theorem dX5_giveBack_47 : decode cX5_giveBack 47 = .ok (.if_icmp .ge 54, 3) := by decide +kernel
theorem dX5_giveBack_50 : decode cX5_giveBack 50 = .ok (.aload_n 0, 1) := by decide +kernel
theorem dX5_giveBack_51 : decode cX5_giveBack 51 = .ok (.getfield 50, 3) := by decide +kernel
theorem dX5_giveBack_54 : decode cX5_giveBack 54 = .ok (.bipush 16, 2) := by decide +kernel
theorem dX5_giveBack_56 : decode cX5_giveBack 56 = .ok (.iload_n 1, 1) := by decide +kernel
theorem dX5_giveBack_57 : decode cX5_giveBack 57 = .ok (.imul, 1) := by decide +kernel
theorem dX5_giveBack_58 : decode cX5_giveBack 58 = .ok (.iload 4, 2) := by decide +kernel
theorem dX5_giveBack_60 : decode cX5_giveBack 60 = .ok (.iadd, 1) := by decide +kernel
theorem dX5_giveBack_61 : decode cX5_giveBack 61 = .ok (.iaload, 1) := by decide +kernel
theorem dX5_giveBack_62 : decode cX5_giveBack 62 = .ok (.aload_n 0, 1) := by decide +kernel
theorem dX5_giveBack_63 : decode cX5_giveBack 63 = .ok (.getfield 115, 3) := by decide +kernel
theorem dX5_giveBack_66 : decode cX5_giveBack 66 = .ok (.if_icmp .gt 35, 3) := by decide +kernel
theorem dX5_giveBack_69 : decode cX5_giveBack 69 = .ok (.aload_n 0, 1) := by decide +kernel
theorem dX5_giveBack_70 : decode cX5_giveBack 70 = .ok (.getfield 44, 3) := by decide +kernel
theorem dX5_giveBack_73 : decode cX5_giveBack 73 = .ok (.bipush 30, 2) := by decide +kernel
theorem dX5_giveBack_75 : decode cX5_giveBack 75 = .ok (.iload_n 1, 1) := by decide +kernel
theorem dX5_giveBack_76 : decode cX5_giveBack 76 = .ok (.imul, 1) := by decide +kernel
theorem dX5_giveBack_77 : decode cX5_giveBack 77 = .ok (.iload_n 3, 1) := by decide +kernel
theorem dX5_giveBack_78 : decode cX5_giveBack 78 = .ok (.iadd, 1) := by decide +kernel
theorem dX5_giveBack_79 : decode cX5_giveBack 79 = .ok (.aload_n 0, 1) := by decide +kernel
theorem dX5_giveBack_80 : decode cX5_giveBack 80 = .ok (.getfield 50, 3) := by decide +kernel
theorem dX5_giveBack_83 : decode cX5_giveBack 83 = .ok (.bipush 16, 2) := by decide +kernel
theorem dX5_giveBack_85 : decode cX5_giveBack 85 = .ok (.iload_n 1, 1) := by decide +kernel
theorem dX5_giveBack_86 : decode cX5_giveBack 86 = .ok (.imul, 1) := by decide +kernel
theorem dX5_giveBack_87 : decode cX5_giveBack 87 = .ok (.iload 4, 2) := by decide +kernel
theorem dX5_giveBack_89 : decode cX5_giveBack 89 = .ok (.iadd, 1) := by decide +kernel
theorem dX5_giveBack_90 : decode cX5_giveBack 90 = .ok (.iaload, 1) := by decide +kernel
theorem dX5_giveBack_91 : decode cX5_giveBack 91 = .ok (.iastore, 1) := by decide +kernel
theorem dX5_giveBack_92 : decode cX5_giveBack 92 = .ok (.iinc 3 1, 3) := by decide +kernel
theorem dX5_giveBack_95 : decode cX5_giveBack 95 = .ok (.iinc 5 1, 3) := by decide +kernel
theorem dX5_giveBack_98 : decode cX5_giveBack 98 = .ok (.goto (-65), 3) := by decide +kernel
theorem dX5_giveBack_101 : decode cX5_giveBack 101 = .ok (.aload_n 0, 1) := by decide +kernel
theorem dX5_giveBack_102 : decode cX5_giveBack 102 = .ok (.getfield 50, 3) := by decide +kernel
theorem dX5_giveBack_105 : decode cX5_giveBack 105 = .ok (.bipush 16, 2) := by decide +kernel
theorem dX5_giveBack_107 : decode cX5_giveBack 107 = .ok (.iload_n 1, 1) := by decide +kernel
theorem dX5_giveBack_108 : decode cX5_giveBack 108 = .ok (.imul, 1) := by decide +kernel
theorem dX5_giveBack_109 : decode cX5_giveBack 109 = .ok (.iload 4, 2) := by decide +kernel
theorem dX5_giveBack_111 : decode cX5_giveBack 111 = .ok (.iadd, 1) := by decide +kernel
theorem dX5_giveBack_112 : decode cX5_giveBack 112 = .ok (.iaload, 1) := by decide +kernel
theorem dX5_giveBack_113 : decode cX5_giveBack 113 = .ok (.aload_n 0, 1) := by decide +kernel
theorem dX5_giveBack_114 : decode cX5_giveBack 114 = .ok (.getfield 115, 3) := by decide +kernel
theorem dX5_giveBack_117 : decode cX5_giveBack 117 = .ok (.if_icmp .le 52, 3) := by decide +kernel
theorem dX5_giveBack_120 : decode cX5_giveBack 120 = .ok (.aload_n 0, 1) := by decide +kernel
theorem dX5_giveBack_121 : decode cX5_giveBack 121 = .ok (.getfield 50, 3) := by decide +kernel
theorem dX5_giveBack_124 : decode cX5_giveBack 124 = .ok (.bipush 16, 2) := by decide +kernel
theorem dX5_giveBack_126 : decode cX5_giveBack 126 = .ok (.iload_n 1, 1) := by decide +kernel
theorem dX5_giveBack_127 : decode cX5_giveBack 127 = .ok (.imul, 1) := by decide +kernel
theorem dX5_giveBack_128 : decode cX5_giveBack 128 = .ok (.iload_n 2, 1) := by decide +kernel
theorem dX5_giveBack_129 : decode cX5_giveBack 129 = .ok (.iadd, 1) := by decide +kernel
theorem dX5_giveBack_130 : decode cX5_giveBack 130 = .ok (.aload_n 0, 1) := by decide +kernel
theorem dX5_giveBack_131 : decode cX5_giveBack 131 = .ok (.getfield 50, 3) := by decide +kernel
theorem dX5_giveBack_134 : decode cX5_giveBack 134 = .ok (.bipush 16, 2) := by decide +kernel
theorem dX5_giveBack_136 : decode cX5_giveBack 136 = .ok (.iload_n 1, 1) := by decide +kernel
theorem dX5_giveBack_137 : decode cX5_giveBack 137 = .ok (.imul, 1) := by decide +kernel
theorem dX5_giveBack_138 : decode cX5_giveBack 138 = .ok (.iload 4, 2) := by decide +kernel
theorem dX5_giveBack_140 : decode cX5_giveBack 140 = .ok (.iadd, 1) := by decide +kernel
theorem dX5_giveBack_141 : decode cX5_giveBack 141 = .ok (.iaload, 1) := by decide +kernel
theorem dX5_giveBack_142 : decode cX5_giveBack 142 = .ok (.iastore, 1) := by decide +kernel
theorem dX5_giveBack_143 : decode cX5_giveBack 143 = .ok (.aload_n 0, 1) := by decide +kernel
theorem dX5_giveBack_144 : decode cX5_giveBack 144 = .ok (.getfield 53, 3) := by decide +kernel
theorem dX5_giveBack_147 : decode cX5_giveBack 147 = .ok (.bipush 16, 2) := by decide +kernel
theorem dX5_giveBack_149 : decode cX5_giveBack 149 = .ok (.iload_n 1, 1) := by decide +kernel
theorem dX5_giveBack_150 : decode cX5_giveBack 150 = .ok (.imul, 1) := by decide +kernel
theorem dX5_giveBack_151 : decode cX5_giveBack 151 = .ok (.iload_n 2, 1) := by decide +kernel
theorem dX5_giveBack_152 : decode cX5_giveBack 152 = .ok (.iadd, 1) := by decide +kernel
theorem dX5_giveBack_153 : decode cX5_giveBack 153 = .ok (.aload_n 0, 1) := by decide +kernel
theorem dX5_giveBack_154 : decode cX5_giveBack 154 = .ok (.getfield 53, 3) := by decide +kernel
theorem dX5_giveBack_157 : decode cX5_giveBack 157 = .ok (.bipush 16, 2) := by decide +kernel
theorem dX5_giveBack_159 : decode cX5_giveBack 159 = .ok (.iload_n 1, 1) := by decide +kernel
theorem dX5_giveBack_160 : decode cX5_giveBack 160 = .ok (.imul, 1) := by decide +kernel
theorem dX5_giveBack_161 : decode cX5_giveBack 161 = .ok (.iload 4, 2) := by decide +kernel
theorem dX5_giveBack_163 : decode cX5_giveBack 163 = .ok (.iadd, 1) := by decide +kernel
theorem dX5_giveBack_164 : decode cX5_giveBack 164 = .ok (.iaload, 1) := by decide +kernel
theorem dX5_giveBack_165 : decode cX5_giveBack 165 = .ok (.iastore, 1) := by decide +kernel
theorem dX5_giveBack_166 : decode cX5_giveBack 166 = .ok (.iinc 2 1, 3) := by decide +kernel
theorem dX5_giveBack_169 : decode cX5_giveBack 169 = .ok (.iinc 4 1, 3) := by decide +kernel
theorem dX5_giveBack_172 : decode cX5_giveBack 172 = .ok (.goto (-153), 3) := by decide +kernel
theorem dX5_giveBack_175 : decode cX5_giveBack 175 = .ok (.aload_n 0, 1) := by decide +kernel
theorem dX5_giveBack_176 : decode cX5_giveBack 176 = .ok (.getfield 47, 3) := by decide +kernel
theorem dX5_giveBack_179 : decode cX5_giveBack 179 = .ok (.iload_n 1, 1) := by decide +kernel
theorem dX5_giveBack_180 : decode cX5_giveBack 180 = .ok (.iload_n 2, 1) := by decide +kernel
theorem dX5_giveBack_181 : decode cX5_giveBack 181 = .ok (.iastore, 1) := by decide +kernel
theorem dX5_giveBack_182 : decode cX5_giveBack 182 = .ok (.iinc 1 1, 3) := by decide +kernel
theorem dX5_giveBack_185 : decode cX5_giveBack 185 = .ok (.goto (-183), 3) := by decide +kernel
theorem dX5_giveBack_188 : decode cX5_giveBack 188 = .ok (.return_, 1) := by decide +kernel
theorem dX5_spend_0 : decode cX5_spend 0 = .ok (.bipush 16, 2) := by decide +kernel
theorem dX5_spend_2 : decode cX5_spend 2 = .ok (.iload_n 1, 1) := by decide +kernel
theorem dX5_spend_3 : decode cX5_spend 3 = .ok (.imul, 1) := by decide +kernel
theorem dX5_spend_4 : decode cX5_spend 4 = .ok (.aload_n 0, 1) := by decide +kernel
theorem dX5_spend_5 : decode cX5_spend 5 = .ok (.getfield 47, 3) := by decide +kernel
theorem dX5_spend_8 : decode cX5_spend 8 = .ok (.iload_n 1, 1) := by decide +kernel
theorem dX5_spend_9 : decode cX5_spend 9 = .ok (.iaload, 1) := by decide +kernel
theorem dX5_spend_10 : decode cX5_spend 10 = .ok (.iadd, 1) := by decide +kernel
theorem dX5_spend_11 : decode cX5_spend 11 = .ok (.iconst 1, 1) := by decide +kernel
theorem dX5_spend_12 : decode cX5_spend 12 = .ok (.isub, 1) := by decide +kernel
theorem dX5_spend_13 : decode cX5_spend 13 = .ok (.istore_n 3, 1) := by decide +kernel
theorem dX5_spend_14 : decode cX5_spend 14 = .ok (.aload_n 0, 1) := by decide +kernel
theorem dX5_spend_15 : decode cX5_spend 15 = .ok (.getfield 47, 3) := by decide +kernel
theorem dX5_spend_18 : decode cX5_spend 18 = .ok (.iload_n 1, 1) := by decide +kernel
theorem dX5_spend_19 : decode cX5_spend 19 = .ok (.iaload, 1) := by decide +kernel
theorem dX5_spend_20 : decode cX5_spend 20 = .ok (.ifCond .le 61, 3) := by decide +kernel
theorem dX5_spend_23 : decode cX5_spend 23 = .ok (.aload_n 0, 1) := by decide +kernel
theorem dX5_spend_24 : decode cX5_spend 24 = .ok (.getfield 50, 3) := by decide +kernel
theorem dX5_spend_27 : decode cX5_spend 27 = .ok (.iload_n 3, 1) := by decide +kernel
theorem dX5_spend_28 : decode cX5_spend 28 = .ok (.iaload, 1) := by decide +kernel
theorem dX5_spend_29 : decode cX5_spend 29 = .ok (.iload_n 2, 1) := by decide +kernel
theorem dX5_spend_30 : decode cX5_spend 30 = .ok (.if_icmp .eq 14, 3) := by decide +kernel
theorem dX5_spend_33 : decode cX5_spend 33 = .ok (.aload_n 0, 1) := by decide +kernel
theorem dX5_spend_34 : decode cX5_spend 34 = .ok (.getfield 47, 3) := by decide +kernel
theorem dX5_spend_37 : decode cX5_spend 37 = .ok (.iload_n 1, 1) := by decide +kernel
theorem dX5_spend_38 : decode cX5_spend 38 = .ok (.iaload, 1) := by decide +kernel
theorem dX5_spend_39 : decode cX5_spend 39 = .ok (.bipush 16, 2) := by decide +kernel
theorem dX5_spend_41 : decode cX5_spend 41 = .ok (.if_icmp .ne 40, 3) := by decide +kernel
theorem dX5_spend_44 : decode cX5_spend 44 = .ok (.aload_n 0, 1) := by decide +kernel
theorem dX5_spend_45 : decode cX5_spend 45 = .ok (.getfield 53, 3) := by decide +kernel
theorem dX5_spend_48 : decode cX5_spend 48 = .ok (.iload_n 3, 1) := by decide +kernel
theorem dX5_spend_49 : decode cX5_spend 49 = .ok (.dup2, 1) := by decide +kernel
theorem dX5_spend_50 : decode cX5_spend 50 = .ok (.iaload, 1) := by decide +kernel
theorem dX5_spend_51 : decode cX5_spend 51 = .ok (.iconst 1, 1) := by decide +kernel
theorem dX5_spend_52 : decode cX5_spend 52 = .ok (.iadd, 1) := by decide +kernel
theorem dX5_spend_53 : decode cX5_spend 53 = .ok (.iastore, 1) := by decide +kernel
theorem dX5_spend_54 : decode cX5_spend 54 = .ok (.aload_n 0, 1) := by decide +kernel
theorem dX5_spend_55 : decode cX5_spend 55 = .ok (.getfield 50, 3) := by decide +kernel
theorem dX5_spend_58 : decode cX5_spend 58 = .ok (.iload_n 3, 1) := by decide +kernel
theorem dX5_spend_59 : decode cX5_spend 59 = .ok (.iload_n 2, 1) := by decide +kernel
theorem dX5_spend_60 : decode cX5_spend 60 = .ok (.aload_n 0, 1) := by decide +kernel
theorem dX5_spend_61 : decode cX5_spend 61 = .ok (.getfield 50, 3) := by decide +kernel
theorem dX5_spend_64 : decode cX5_spend 64 = .ok (.iload_n 3, 1) := by decide +kernel
theorem dX5_spend_65 : decode cX5_spend 65 = .ok (.iaload, 1) := by decide +kernel
theorem dX5_spend_66 : decode cX5_spend 66 = .ok (.if_icmp .le 7, 3) := by decide +kernel
theorem dX5_spend_69 : decode cX5_spend 69 = .ok (.iload_n 2, 1) := by decide +kernel
theorem dX5_spend_70 : decode cX5_spend 70 = .ok (.goto 9, 3) := by decide +kernel
theorem dX5_spend_73 : decode cX5_spend 73 = .ok (.aload_n 0, 1) := by decide +kernel
theorem dX5_spend_74 : decode cX5_spend 74 = .ok (.getfield 50, 3) := by decide +kernel
theorem dX5_spend_77 : decode cX5_spend 77 = .ok (.iload_n 3, 1) := by decide +kernel
theorem dX5_spend_78 : decode cX5_spend 78 = .ok (.iaload, 1) := by decide +kernel
theorem dX5_spend_79 : decode cX5_spend 79 = .ok (.iastore, 1) := by decide +kernel
theorem dX5_spend_80 : decode cX5_spend 80 = .ok (.return_, 1) := by decide +kernel
theorem dX5_spend_81 : decode cX5_spend 81 = .ok (.aload_n 0, 1) := by decide +kernel
theorem dX5_spend_82 : decode cX5_spend 82 = .ok (.getfield 50, 3) := by decide +kernel
theorem dX5_spend_85 : decode cX5_spend 85 = .ok (.iload_n 3, 1) := by decide +kernel
theorem dX5_spend_86 : decode cX5_spend 86 = .ok (.iconst 1, 1) := by decide +kernel
theorem dX5_spend_87 : decode cX5_spend 87 = .ok (.iadd, 1) := by decide +kernel
theorem dX5_spend_88 : decode cX5_spend 88 = .ok (.iload_n 2, 1) := by decide +kernel
theorem dX5_spend_89 : decode cX5_spend 89 = .ok (.iastore, 1) := by decide +kernel
theorem dX5_spend_90 : decode cX5_spend 90 = .ok (.aload_n 0, 1) := by decide +kernel
theorem dX5_spend_91 : decode cX5_spend 91 = .ok (.getfield 53, 3) := by decide +kernel
theorem dX5_spend_94 : decode cX5_spend 94 = .ok (.iload_n 3, 1) := by decide +kernel
theorem dX5_spend_95 : decode cX5_spend 95 = .ok (.iconst 1, 1) := by decide +kernel
theorem dX5_spend_96 : decode cX5_spend 96 = .ok (.iadd, 1) := by decide +kernel
theorem dX5_spend_97 : decode cX5_spend 97 = .ok (.iconst 1, 1) := by decide +kernel
theorem dX5_spend_98 : decode cX5_spend 98 = .ok (.iastore, 1) := by decide +kernel
theorem dX5_spend_99 : decode cX5_spend 99 = .ok (.aload_n 0, 1) := by decide +kernel
theorem dX5_spend_100 : decode cX5_spend 100 = .ok (.getfield 47, 3) := by decide +kernel
theorem dX5_spend_103 : decode cX5_spend 103 = .ok (.iload_n 1, 1) := by decide +kernel
theorem dX5_spend_104 : decode cX5_spend 104 = .ok (.dup2, 1) := by decide +kernel
theorem dX5_spend_105 : decode cX5_spend 105 = .ok (.iaload, 1) := by decide +kernel
theorem dX5_spend_106 : decode cX5_spend 106 = .ok (.iconst 1, 1) := by decide +kernel
theorem dX5_spend_107 : decode cX5_spend 107 = .ok (.iadd, 1) := by decide +kernel
theorem dX5_spend_108 : decode cX5_spend 108 = .ok (.iastore, 1) := by decide +kernel
theorem dX5_spend_109 : decode cX5_spend 109 = .ok (.return_, 1) := by decide +kernel
theorem dX5_firstPiece_0 : decode cX5_firstPiece 0 = .ok (.iconst (-1), 1) := by decide +kernel
theorem dX5_firstPiece_1 : decode cX5_firstPiece 1 = .ok (.istore_n 2, 1) := by decide +kernel
theorem dX5_firstPiece_2 : decode cX5_firstPiece 2 = .ok (.iconst 0, 1) := by decide +kernel
theorem dX5_firstPiece_3 : decode cX5_firstPiece 3 = .ok (.istore_n 3, 1) := by decide +kernel
theorem dX5_firstPiece_4 : decode cX5_firstPiece 4 = .ok (.iload_n 3, 1) := by decide +kernel
theorem dX5_firstPiece_5 : decode cX5_firstPiece 5 = .ok (.aload_n 0, 1) := by decide +kernel
theorem dX5_firstPiece_6 : decode cX5_firstPiece 6 = .ok (.getfield 47, 3) := by decide +kernel
theorem dX5_firstPiece_9 : decode cX5_firstPiece 9 = .ok (.iload_n 1, 1) := by decide +kernel
theorem dX5_firstPiece_10 : decode cX5_firstPiece 10 = .ok (.iaload, 1) := by decide +kernel
theorem dX5_firstPiece_11 : decode cX5_firstPiece 11 = .ok (.if_icmp .ge 44, 3) := by decide +kernel
theorem dX5_firstPiece_14 : decode cX5_firstPiece 14 = .ok (.iload_n 2, 1) := by decide +kernel
theorem dX5_firstPiece_15 : decode cX5_firstPiece 15 = .ok (.ifCond .lt 28, 3) := by decide +kernel
theorem dX5_firstPiece_18 : decode cX5_firstPiece 18 = .ok (.aload_n 0, 1) := by decide +kernel
theorem dX5_firstPiece_19 : decode cX5_firstPiece 19 = .ok (.getfield 50, 3) := by decide +kernel
theorem dX5_firstPiece_22 : decode cX5_firstPiece 22 = .ok (.bipush 16, 2) := by decide +kernel
theorem dX5_firstPiece_24 : decode cX5_firstPiece 24 = .ok (.iload_n 1, 1) := by decide +kernel
theorem dX5_firstPiece_25 : decode cX5_firstPiece 25 = .ok (.imul, 1) := by decide +kernel
theorem dX5_firstPiece_26 : decode cX5_firstPiece 26 = .ok (.iload_n 3, 1) := by decide +kernel
theorem dX5_firstPiece_27 : decode cX5_firstPiece 27 = .ok (.iadd, 1) := by decide +kernel
theorem dX5_firstPiece_28 : decode cX5_firstPiece 28 = .ok (.iaload, 1) := by decide +kernel
theorem dX5_firstPiece_29 : decode cX5_firstPiece 29 = .ok (.aload_n 0, 1) := by decide +kernel
theorem dX5_firstPiece_30 : decode cX5_firstPiece 30 = .ok (.getfield 50, 3) := by decide +kernel
theorem dX5_firstPiece_33 : decode cX5_firstPiece 33 = .ok (.bipush 16, 2) := by decide +kernel
theorem dX5_firstPiece_35 : decode cX5_firstPiece 35 = .ok (.iload_n 1, 1) := by decide +kernel
theorem dX5_firstPiece_36 : decode cX5_firstPiece 36 = .ok (.imul, 1) := by decide +kernel
theorem dX5_firstPiece_37 : decode cX5_firstPiece 37 = .ok (.iload_n 2, 1) := by decide +kernel
theorem dX5_firstPiece_38 : decode cX5_firstPiece 38 = .ok (.iadd, 1) := by decide +kernel
theorem dX5_firstPiece_39 : decode cX5_firstPiece 39 = .ok (.iaload, 1) := by decide +kernel
theorem dX5_firstPiece_40 : decode cX5_firstPiece 40 = .ok (.if_icmp .ge 7, 3) := by decide +kernel
theorem dX5_firstPiece_43 : decode cX5_firstPiece 43 = .ok (.iload_n 3, 1) := by decide +kernel
theorem dX5_firstPiece_44 : decode cX5_firstPiece 44 = .ok (.goto 4, 3) := by decide +kernel
theorem dX5_firstPiece_47 : decode cX5_firstPiece 47 = .ok (.iload_n 2, 1) := by decide +kernel
theorem dX5_firstPiece_48 : decode cX5_firstPiece 48 = .ok (.istore_n 2, 1) := by decide +kernel
theorem dX5_firstPiece_49 : decode cX5_firstPiece 49 = .ok (.iinc 3 1, 3) := by decide +kernel
theorem dX5_firstPiece_52 : decode cX5_firstPiece 52 = .ok (.goto (-48), 3) := by decide +kernel
theorem dX5_firstPiece_55 : decode cX5_firstPiece 55 = .ok (.iload_n 2, 1) := by decide +kernel
theorem dX5_firstPiece_56 : decode cX5_firstPiece 56 = .ok (.ireturn, 1) := by decide +kernel
theorem dX5_ceil_0 : decode cX5_ceil 0 = .ok (.iload_n 0, 1) := by decide +kernel
theorem dX5_ceil_1 : decode cX5_ceil 1 = .ok (.iload_n 1, 1) := by decide +kernel
theorem dX5_ceil_2 : decode cX5_ceil 2 = .ok (.irem, 1) := by decide +kernel
theorem dX5_ceil_3 : decode cX5_ceil 3 = .ok (.ifCond .ne 9, 3) := by decide +kernel
theorem dX5_ceil_6 : decode cX5_ceil 6 = .ok (.iload_n 0, 1) := by decide +kernel
theorem dX5_ceil_7 : decode cX5_ceil 7 = .ok (.iload_n 1, 1) := by decide +kernel
theorem dX5_ceil_8 : decode cX5_ceil 8 = .ok (.idiv, 1) := by decide +kernel
theorem dX5_ceil_9 : decode cX5_ceil 9 = .ok (.goto 8, 3) := by decide +kernel
theorem dX5_ceil_12 : decode cX5_ceil 12 = .ok (.iload_n 0, 1) := by decide +kernel
theorem dX5_ceil_13 : decode cX5_ceil 13 = .ok (.iload_n 1, 1) := by decide +kernel
theorem dX5_ceil_14 : decode cX5_ceil 14 = .ok (.idiv, 1) := by decide +kernel
theorem dX5_ceil_15 : decode cX5_ceil 15 = .ok (.iconst 1, 1) := by decide +kernel
theorem dX5_ceil_16 : decode cX5_ceil 16 = .ok (.iadd, 1) := by decide +kernel
theorem dX5_ceil_17 : decode cX5_ceil 17 = .ok (.ireturn, 1) := by decide +kernel
theorem dX5_handlers_0 : decode cX5_handlers 0 = .ok (.aload_n 0, 1) := by decide +kernel
theorem dX5_handlers_1 : decode cX5_handlers 1 = .ok (.getfield 7, 3) := by decide +kernel
theorem dX5_handlers_4 : decode cX5_handlers 4 = .ok (.iload_n 1, 1) := by decide +kernel
theorem dX5_handlers_5 : decode cX5_handlers 5 = .ok (.baload, 1) := by decide +kernel
theorem dX5_handlers_6 : decode cX5_handlers 6 = .ok (.ifCond .eq 25, 3) := by decide +kernel
theorem dX5_handlers_9 : decode cX5_handlers 9 = .ok (.iload_n 2, 1) := by decide +kernel
theorem dX5_handlers_10 : decode cX5_handlers 10 = .ok (.aload_n 0, 1) := by decide +kernel
theorem dX5_handlers_11 : decode cX5_handlers 11 = .ok (.getfield 26, 3) := by decide +kernel
theorem dX5_handlers_14 : decode cX5_handlers 14 = .ok (.iload_n 1, 1) := by decide +kernel
theorem dX5_handlers_15 : decode cX5_handlers 15 = .ok (.iaload, 1) := by decide +kernel
theorem dX5_handlers_16 : decode cX5_handlers 16 = .ok (.invokestatic 118, 3) := by decide +kernel
theorem dX5_handlers_19 : decode cX5_handlers 19 = .ok (.iconst 1, 1) := by decide +kernel
theorem dX5_handlers_20 : decode cX5_handlers 20 = .ok (.iadd, 1) := by decide +kernel
theorem dX5_handlers_21 : decode cX5_handlers 21 = .ok (.aload_n 0, 1) := by decide +kernel
theorem dX5_handlers_22 : decode cX5_handlers 22 = .ok (.getfield 23, 3) := by decide +kernel
theorem dX5_handlers_25 : decode cX5_handlers 25 = .ok (.iload_n 1, 1) := by decide +kernel
theorem dX5_handlers_26 : decode cX5_handlers 26 = .ok (.iaload, 1) := by decide +kernel
theorem dX5_handlers_27 : decode cX5_handlers 27 = .ok (.imul, 1) := by decide +kernel
theorem dX5_handlers_28 : decode cX5_handlers 28 = .ok (.goto 4, 3) := by decide +kernel
theorem dX5_handlers_31 : decode cX5_handlers 31 = .ok (.iconst 0, 1) := by decide +kernel
theorem dX5_handlers_32 : decode cX5_handlers 32 = .ok (.ireturn, 1) := by decide +kernel
theorem dX5_topHalves_0 : decode cX5_topHalves 0 = .ok (.aload_n 0, 1) := by decide +kernel
theorem dX5_topHalves_1 : decode cX5_topHalves 1 = .ok (.getfield 7, 3) := by decide +kernel
theorem dX5_topHalves_4 : decode cX5_topHalves 4 = .ok (.iload_n 1, 1) := by decide +kernel
theorem dX5_topHalves_5 : decode cX5_topHalves 5 = .ok (.baload, 1) := by decide +kernel
theorem dX5_topHalves_6 : decode cX5_topHalves 6 = .ok (.ifCond .eq 25, 3) := by decide +kernel
theorem dX5_topHalves_9 : decode cX5_topHalves 9 = .ok (.iload_n 2, 1) := by decide +kernel
theorem dX5_topHalves_10 : decode cX5_topHalves 10 = .ok (.aload_n 0, 1) := by decide +kernel
theorem dX5_topHalves_11 : decode cX5_topHalves 11 = .ok (.getfield 20, 3) := by decide +kernel
theorem dX5_topHalves_14 : decode cX5_topHalves 14 = .ok (.iload_n 1, 1) := by decide +kernel
theorem dX5_topHalves_15 : decode cX5_topHalves 15 = .ok (.iaload, 1) := by decide +kernel
theorem dX5_topHalves_16 : decode cX5_topHalves 16 = .ok (.invokestatic 118, 3) := by decide +kernel
theorem dX5_topHalves_19 : decode cX5_topHalves 19 = .ok (.iconst 1, 1) := by decide +kernel
theorem dX5_topHalves_20 : decode cX5_topHalves 20 = .ok (.iadd, 1) := by decide +kernel
theorem dX5_topHalves_21 : decode cX5_topHalves 21 = .ok (.aload_n 0, 1) := by decide +kernel
theorem dX5_topHalves_22 : decode cX5_topHalves 22 = .ok (.getfield 13, 3) := by decide +kernel
theorem dX5_topHalves_25 : decode cX5_topHalves 25 = .ok (.iload_n 1, 1) := by decide +kernel
theorem dX5_topHalves_26 : decode cX5_topHalves 26 = .ok (.iaload, 1) := by decide +kernel
theorem dX5_topHalves_27 : decode cX5_topHalves 27 = .ok (.imul, 1) := by decide +kernel
theorem dX5_topHalves_28 : decode cX5_topHalves 28 = .ok (.goto 4, 3) := by decide +kernel
theorem dX5_topHalves_31 : decode cX5_topHalves 31 = .ok (.iconst 0, 1) := by decide +kernel
theorem dX5_topHalves_32 : decode cX5_topHalves 32 = .ok (.ireturn, 1) := by decide +kernel
theorem dX5_sourcesIn_0 : decode cX5_sourcesIn 0 = .ok (.iconst 0, 1) := by decide +kernel
theorem dX5_sourcesIn_1 : decode cX5_sourcesIn 1 = .ok (.istore_n 2, 1) := by decide +kernel
theorem dX5_sourcesIn_2 : decode cX5_sourcesIn 2 = .ok (.iconst 0, 1) := by decide +kernel
theorem dX5_sourcesIn_3 : decode cX5_sourcesIn 3 = .ok (.istore_n 3, 1) := by decide +kernel
theorem dX5_sourcesIn_4 : decode cX5_sourcesIn 4 = .ok (.iload_n 3, 1) := by decide +kernel
theorem dX5_sourcesIn_5 : decode cX5_sourcesIn 5 = .ok (.bipush 6, 2) := by decide +kernel
theorem dX5_sourcesIn_7 : decode cX5_sourcesIn 7 = .ok (.if_icmp .ge 25, 3) := by decide +kernel
theorem dX5_sourcesIn_10 : decode cX5_sourcesIn 10 = .ok (.iload_n 2, 1) := by decide +kernel
theorem dX5_sourcesIn_11 : decode cX5_sourcesIn 11 = .ok (.aload_n 0, 1) := by decide +kernel
theorem dX5_sourcesIn_12 : decode cX5_sourcesIn 12 = .ok (.iload_n 3, 1) := by decide +kernel
theorem dX5_sourcesIn_13 : decode cX5_sourcesIn 13 = .ok (.iload_n 1, 1) := by decide +kernel
theorem dX5_sourcesIn_14 : decode cX5_sourcesIn 14 = .ok (.invokevirtual 122, 3) := by decide +kernel
theorem dX5_sourcesIn_17 : decode cX5_sourcesIn 17 = .ok (.iadd, 1) := by decide +kernel
theorem dX5_sourcesIn_18 : decode cX5_sourcesIn 18 = .ok (.aload_n 0, 1) := by decide +kernel
theorem dX5_sourcesIn_19 : decode cX5_sourcesIn 19 = .ok (.iload_n 3, 1) := by decide +kernel
theorem dX5_sourcesIn_20 : decode cX5_sourcesIn 20 = .ok (.iload_n 1, 1) := by decide +kernel
theorem dX5_sourcesIn_21 : decode cX5_sourcesIn 21 = .ok (.invokevirtual 125, 3) := by decide +kernel
theorem dX5_sourcesIn_24 : decode cX5_sourcesIn 24 = .ok (.iadd, 1) := by decide +kernel
theorem dX5_sourcesIn_25 : decode cX5_sourcesIn 25 = .ok (.istore_n 2, 1) := by decide +kernel
theorem dX5_sourcesIn_26 : decode cX5_sourcesIn 26 = .ok (.iinc 3 1, 3) := by decide +kernel
theorem dX5_sourcesIn_29 : decode cX5_sourcesIn 29 = .ok (.goto (-25), 3) := by decide +kernel
theorem dX5_sourcesIn_32 : decode cX5_sourcesIn 32 = .ok (.iload_n 2, 1) := by decide +kernel
theorem dX5_sourcesIn_33 : decode cX5_sourcesIn 33 = .ok (.ireturn, 1) := by decide +kernel
theorem dX5_taskNeeds_0 : decode cX5_taskNeeds 0 = .ok (.aload_n 0, 1) := by decide +kernel
theorem dX5_taskNeeds_1 : decode cX5_taskNeeds 1 = .ok (.getfield 80, 3) := by decide +kernel
theorem dX5_taskNeeds_4 : decode cX5_taskNeeds 4 = .ok (.iload_n 1, 1) := by decide +kernel
theorem dX5_taskNeeds_5 : decode cX5_taskNeeds 5 = .ok (.iaload, 1) := by decide +kernel
theorem dX5_taskNeeds_6 : decode cX5_taskNeeds 6 = .ok (.aload_n 0, 1) := by decide +kernel
theorem dX5_taskNeeds_7 : decode cX5_taskNeeds 7 = .ok (.iload_n 2, 1) := by decide +kernel
theorem dX5_taskNeeds_8 : decode cX5_taskNeeds 8 = .ok (.invokevirtual 128, 3) := by decide +kernel
theorem dX5_taskNeeds_11 : decode cX5_taskNeeds 11 = .ok (.iadd, 1) := by decide +kernel
theorem dX5_taskNeeds_12 : decode cX5_taskNeeds 12 = .ok (.istore_n 3, 1) := by decide +kernel
theorem dX5_taskNeeds_13 : decode cX5_taskNeeds 13 = .ok (.iconst 0, 1) := by decide +kernel
theorem dX5_taskNeeds_14 : decode cX5_taskNeeds 14 = .ok (.istore 4, 2) := by decide +kernel
theorem dX5_taskNeeds_16 : decode cX5_taskNeeds 16 = .ok (.iload 4, 2) := by decide +kernel
theorem dX5_taskNeeds_18 : decode cX5_taskNeeds 18 = .ok (.bipush 6, 2) := by decide +kernel
theorem dX5_taskNeeds_20 : decode cX5_taskNeeds 20 = .ok (.if_icmp .ge 61, 3) := by decide +kernel
theorem dX5_taskNeeds_23 : decode cX5_taskNeeds 23 = .ok (.aload_n 0, 1) := by decide +kernel
theorem dX5_taskNeeds_24 : decode cX5_taskNeeds 24 = .ok (.getfield 74, 3) := by decide +kernel
theorem dX5_taskNeeds_27 : decode cX5_taskNeeds 27 = .ok (.iload 4, 2) := by decide +kernel
theorem dX5_taskNeeds_29 : decode cX5_taskNeeds 29 = .ok (.baload, 1) := by decide +kernel
theorem dX5_taskNeeds_30 : decode cX5_taskNeeds 30 = .ok (.ifCond .eq 43, 3) := by decide +kernel
theorem dX5_taskNeeds_33 : decode cX5_taskNeeds 33 = .ok (.aload_n 0, 1) := by decide +kernel
theorem dX5_taskNeeds_34 : decode cX5_taskNeeds 34 = .ok (.getfield 83, 3) := by decide +kernel
theorem dX5_taskNeeds_37 : decode cX5_taskNeeds 37 = .ok (.iload 4, 2) := by decide +kernel
theorem dX5_taskNeeds_39 : decode cX5_taskNeeds 39 = .ok (.iaload, 1) := by decide +kernel
theorem dX5_taskNeeds_40 : decode cX5_taskNeeds 40 = .ok (.aload_n 0, 1) := by decide +kernel
theorem dX5_taskNeeds_41 : decode cX5_taskNeeds 41 = .ok (.getfield 83, 3) := by decide +kernel
theorem dX5_taskNeeds_44 : decode cX5_taskNeeds 44 = .ok (.iload_n 1, 1) := by decide +kernel
theorem dX5_taskNeeds_45 : decode cX5_taskNeeds 45 = .ok (.iaload, 1) := by decide +kernel
theorem dX5_taskNeeds_46 : decode cX5_taskNeeds 46 = .ok (.if_icmp .le 27, 3) := by decide +kernel
theorem dX5_taskNeeds_49 : decode cX5_taskNeeds 49 = .ok (.iload_n 3, 1) := by decide +kernel
theorem dX5_taskNeeds_50 : decode cX5_taskNeeds 50 = .ok (.iload_n 2, 1) := by decide +kernel
theorem dX5_taskNeeds_51 : decode cX5_taskNeeds 51 = .ok (.aload_n 0, 1) := by decide +kernel
theorem dX5_taskNeeds_52 : decode cX5_taskNeeds 52 = .ok (.getfield 77, 3) := by decide +kernel
theorem dX5_taskNeeds_55 : decode cX5_taskNeeds 55 = .ok (.iload 4, 2) := by decide +kernel
theorem dX5_taskNeeds_57 : decode cX5_taskNeeds 57 = .ok (.iaload, 1) := by decide +kernel
theorem dX5_taskNeeds_58 : decode cX5_taskNeeds 58 = .ok (.invokestatic 118, 3) := by decide +kernel
theorem dX5_taskNeeds_61 : decode cX5_taskNeeds 61 = .ok (.aload_n 0, 1) := by decide +kernel
theorem dX5_taskNeeds_62 : decode cX5_taskNeeds 62 = .ok (.getfield 80, 3) := by decide +kernel
theorem dX5_taskNeeds_65 : decode cX5_taskNeeds 65 = .ok (.iload 4, 2) := by decide +kernel
theorem dX5_taskNeeds_67 : decode cX5_taskNeeds 67 = .ok (.iaload, 1) := by decide +kernel
theorem dX5_taskNeeds_68 : decode cX5_taskNeeds 68 = .ok (.imul, 1) := by decide +kernel
theorem dX5_taskNeeds_69 : decode cX5_taskNeeds 69 = .ok (.iadd, 1) := by decide +kernel
theorem dX5_taskNeeds_70 : decode cX5_taskNeeds 70 = .ok (.goto 4, 3) := by decide +kernel
theorem dX5_taskNeeds_73 : decode cX5_taskNeeds 73 = .ok (.iload_n 3, 1) := by decide +kernel
theorem dX5_taskNeeds_74 : decode cX5_taskNeeds 74 = .ok (.istore_n 3, 1) := by decide +kernel
theorem dX5_taskNeeds_75 : decode cX5_taskNeeds 75 = .ok (.iinc 4 1, 3) := by decide +kernel
theorem dX5_taskNeeds_78 : decode cX5_taskNeeds 78 = .ok (.goto (-62), 3) := by decide +kernel
theorem dX5_taskNeeds_81 : decode cX5_taskNeeds 81 = .ok (.iload_n 3, 1) := by decide +kernel
theorem dX5_taskNeeds_82 : decode cX5_taskNeeds 82 = .ok (.ireturn, 1) := by decide +kernel
theorem dX5_sourceNeeds_0 : decode cX5_sourceNeeds 0 = .ok (.aload_n 0, 1) := by decide +kernel
theorem dX5_sourceNeeds_1 : decode cX5_sourceNeeds 1 = .ok (.getfield 17, 3) := by decide +kernel
theorem dX5_sourceNeeds_4 : decode cX5_sourceNeeds 4 = .ok (.iload_n 1, 1) := by decide +kernel
theorem dX5_sourceNeeds_5 : decode cX5_sourceNeeds 5 = .ok (.iaload, 1) := by decide +kernel
theorem dX5_sourceNeeds_6 : decode cX5_sourceNeeds 6 = .ok (.istore_n 3, 1) := by decide +kernel
theorem dX5_sourceNeeds_7 : decode cX5_sourceNeeds 7 = .ok (.iconst 0, 1) := by decide +kernel
theorem dX5_sourceNeeds_8 : decode cX5_sourceNeeds 8 = .ok (.istore 4, 2) := by decide +kernel
theorem dX5_sourceNeeds_10 : decode cX5_sourceNeeds 10 = .ok (.iload 4, 2) := by decide +kernel
theorem dX5_sourceNeeds_12 : decode cX5_sourceNeeds 12 = .ok (.bipush 6, 2) := by decide +kernel
theorem dX5_sourceNeeds_14 : decode cX5_sourceNeeds 14 = .ok (.if_icmp .ge 59, 3) := by decide +kernel
theorem dX5_sourceNeeds_17 : decode cX5_sourceNeeds 17 = .ok (.iload_n 3, 1) := by decide +kernel
theorem dX5_sourceNeeds_18 : decode cX5_sourceNeeds 18 = .ok (.aload_n 0, 1) := by decide +kernel
theorem dX5_sourceNeeds_19 : decode cX5_sourceNeeds 19 = .ok (.iload 4, 2) := by decide +kernel
theorem dX5_sourceNeeds_21 : decode cX5_sourceNeeds 21 = .ok (.iload_n 2, 1) := by decide +kernel
theorem dX5_sourceNeeds_22 : decode cX5_sourceNeeds 22 = .ok (.invokevirtual 125, 3) := by decide +kernel
theorem dX5_sourceNeeds_25 : decode cX5_sourceNeeds 25 = .ok (.iadd, 1) := by decide +kernel
theorem dX5_sourceNeeds_26 : decode cX5_sourceNeeds 26 = .ok (.istore_n 3, 1) := by decide +kernel
theorem dX5_sourceNeeds_27 : decode cX5_sourceNeeds 27 = .ok (.aload_n 0, 1) := by decide +kernel
theorem dX5_sourceNeeds_28 : decode cX5_sourceNeeds 28 = .ok (.getfield 7, 3) := by decide +kernel
theorem dX5_sourceNeeds_31 : decode cX5_sourceNeeds 31 = .ok (.iload 4, 2) := by decide +kernel
theorem dX5_sourceNeeds_33 : decode cX5_sourceNeeds 33 = .ok (.baload, 1) := by decide +kernel
theorem dX5_sourceNeeds_34 : decode cX5_sourceNeeds 34 = .ok (.ifCond .eq 31, 3) := by decide +kernel
theorem dX5_sourceNeeds_37 : decode cX5_sourceNeeds 37 = .ok (.aload_n 0, 1) := by decide +kernel
theorem dX5_sourceNeeds_38 : decode cX5_sourceNeeds 38 = .ok (.getfield 29, 3) := by decide +kernel
theorem dX5_sourceNeeds_41 : decode cX5_sourceNeeds 41 = .ok (.iload 4, 2) := by decide +kernel
theorem dX5_sourceNeeds_43 : decode cX5_sourceNeeds 43 = .ok (.iaload, 1) := by decide +kernel
theorem dX5_sourceNeeds_44 : decode cX5_sourceNeeds 44 = .ok (.aload_n 0, 1) := by decide +kernel
theorem dX5_sourceNeeds_45 : decode cX5_sourceNeeds 45 = .ok (.getfield 29, 3) := by decide +kernel
theorem dX5_sourceNeeds_48 : decode cX5_sourceNeeds 48 = .ok (.iload_n 1, 1) := by decide +kernel
theorem dX5_sourceNeeds_49 : decode cX5_sourceNeeds 49 = .ok (.iaload, 1) := by decide +kernel
theorem dX5_sourceNeeds_50 : decode cX5_sourceNeeds 50 = .ok (.if_icmp .le 15, 3) := by decide +kernel
theorem dX5_sourceNeeds_53 : decode cX5_sourceNeeds 53 = .ok (.iload_n 3, 1) := by decide +kernel
theorem dX5_sourceNeeds_54 : decode cX5_sourceNeeds 54 = .ok (.aload_n 0, 1) := by decide +kernel
theorem dX5_sourceNeeds_55 : decode cX5_sourceNeeds 55 = .ok (.iload 4, 2) := by decide +kernel
theorem dX5_sourceNeeds_57 : decode cX5_sourceNeeds 57 = .ok (.iload_n 2, 1) := by decide +kernel
theorem dX5_sourceNeeds_58 : decode cX5_sourceNeeds 58 = .ok (.invokevirtual 122, 3) := by decide +kernel
theorem dX5_sourceNeeds_61 : decode cX5_sourceNeeds 61 = .ok (.iadd, 1) := by decide +kernel
theorem dX5_sourceNeeds_62 : decode cX5_sourceNeeds 62 = .ok (.goto 4, 3) := by decide +kernel
theorem dX5_sourceNeeds_65 : decode cX5_sourceNeeds 65 = .ok (.iload_n 3, 1) := by decide +kernel
theorem dX5_sourceNeeds_66 : decode cX5_sourceNeeds 66 = .ok (.istore_n 3, 1) := by decide +kernel
theorem dX5_sourceNeeds_67 : decode cX5_sourceNeeds 67 = .ok (.iinc 4 1, 3) := by decide +kernel
theorem dX5_sourceNeeds_70 : decode cX5_sourceNeeds 70 = .ok (.goto (-60), 3) := by decide +kernel
theorem dX5_sourceNeeds_73 : decode cX5_sourceNeeds 73 = .ok (.iload_n 3, 1) := by decide +kernel
theorem dX5_sourceNeeds_74 : decode cX5_sourceNeeds 74 = .ok (.ireturn, 1) := by decide +kernel
theorem dX5_taskBound_0 : decode cX5_taskBound 0 = .ok (.iconst 1, 1) := by decide +kernel
theorem dX5_taskBound_1 : decode cX5_taskBound 1 = .ok (.istore_n 2, 1) := by decide +kernel
theorem dX5_taskBound_2 : decode cX5_taskBound 2 = .ok (.iload_n 2, 1) := by decide +kernel
theorem dX5_taskBound_3 : decode cX5_taskBound 3 = .ok (.aload_n 0, 1) := by decide +kernel
theorem dX5_taskBound_4 : decode cX5_taskBound 4 = .ok (.getfield 77, 3) := by decide +kernel
theorem dX5_taskBound_7 : decode cX5_taskBound 7 = .ok (.iload_n 1, 1) := by decide +kernel
theorem dX5_taskBound_8 : decode cX5_taskBound 8 = .ok (.iaload, 1) := by decide +kernel
theorem dX5_taskBound_9 : decode cX5_taskBound 9 = .ok (.if_icmp .gt 22, 3) := by decide +kernel
theorem dX5_taskBound_12 : decode cX5_taskBound 12 = .ok (.aload_n 0, 1) := by decide +kernel
theorem dX5_taskBound_13 : decode cX5_taskBound 13 = .ok (.iload_n 1, 1) := by decide +kernel
theorem dX5_taskBound_14 : decode cX5_taskBound 14 = .ok (.iload_n 2, 1) := by decide +kernel
theorem dX5_taskBound_15 : decode cX5_taskBound 15 = .ok (.invokevirtual 131, 3) := by decide +kernel
theorem dX5_taskBound_18 : decode cX5_taskBound 18 = .ok (.istore_n 3, 1) := by decide +kernel
theorem dX5_taskBound_19 : decode cX5_taskBound 19 = .ok (.iload_n 3, 1) := by decide +kernel
theorem dX5_taskBound_20 : decode cX5_taskBound 20 = .ok (.iload_n 2, 1) := by decide +kernel
theorem dX5_taskBound_21 : decode cX5_taskBound 21 = .ok (.if_icmp .ne 5, 3) := by decide +kernel
theorem dX5_taskBound_24 : decode cX5_taskBound 24 = .ok (.iload_n 2, 1) := by decide +kernel
theorem dX5_taskBound_25 : decode cX5_taskBound 25 = .ok (.ireturn, 1) := by decide +kernel
theorem dX5_taskBound_26 : decode cX5_taskBound 26 = .ok (.iload_n 3, 1) := by decide +kernel
theorem dX5_taskBound_27 : decode cX5_taskBound 27 = .ok (.istore_n 2, 1) := by decide +kernel
theorem dX5_taskBound_28 : decode cX5_taskBound 28 = .ok (.goto (-26), 3) := by decide +kernel
theorem dX5_taskBound_31 : decode cX5_taskBound 31 = .ok (.iconst (-1), 1) := by decide +kernel
theorem dX5_taskBound_32 : decode cX5_taskBound 32 = .ok (.ireturn, 1) := by decide +kernel
theorem dX5_sourceBound_0 : decode cX5_sourceBound 0 = .ok (.aload_n 0, 1) := by decide +kernel
theorem dX5_sourceBound_1 : decode cX5_sourceBound 1 = .ok (.getfield 17, 3) := by decide +kernel
theorem dX5_sourceBound_4 : decode cX5_sourceBound 4 = .ok (.iload_n 1, 1) := by decide +kernel
theorem dX5_sourceBound_5 : decode cX5_sourceBound 5 = .ok (.iaload, 1) := by decide +kernel
theorem dX5_sourceBound_6 : decode cX5_sourceBound 6 = .ok (.aload_n 0, 1) := by decide +kernel
theorem dX5_sourceBound_7 : decode cX5_sourceBound 7 = .ok (.getfield 23, 3) := by decide +kernel
theorem dX5_sourceBound_10 : decode cX5_sourceBound 10 = .ok (.iload_n 1, 1) := by decide +kernel
theorem dX5_sourceBound_11 : decode cX5_sourceBound 11 = .ok (.iaload, 1) := by decide +kernel
theorem dX5_sourceBound_12 : decode cX5_sourceBound 12 = .ok (.if_icmp .gt 18, 3) := by decide +kernel
theorem dX5_sourceBound_15 : decode cX5_sourceBound 15 = .ok (.aload_n 0, 1) := by decide +kernel
theorem dX5_sourceBound_16 : decode cX5_sourceBound 16 = .ok (.getfield 20, 3) := by decide +kernel
theorem dX5_sourceBound_19 : decode cX5_sourceBound 19 = .ok (.iload_n 1, 1) := by decide +kernel
theorem dX5_sourceBound_20 : decode cX5_sourceBound 20 = .ok (.iaload, 1) := by decide +kernel
theorem dX5_sourceBound_21 : decode cX5_sourceBound 21 = .ok (.aload_n 0, 1) := by decide +kernel
theorem dX5_sourceBound_22 : decode cX5_sourceBound 22 = .ok (.getfield 26, 3) := by decide +kernel
theorem dX5_sourceBound_25 : decode cX5_sourceBound 25 = .ok (.iload_n 1, 1) := by decide +kernel
theorem dX5_sourceBound_26 : decode cX5_sourceBound 26 = .ok (.iaload, 1) := by decide +kernel
theorem dX5_sourceBound_27 : decode cX5_sourceBound 27 = .ok (.if_icmp .ge 14, 3) := by decide +kernel
theorem dX5_sourceBound_30 : decode cX5_sourceBound 30 = .ok (.aload_n 0, 1) := by decide +kernel
theorem dX5_sourceBound_31 : decode cX5_sourceBound 31 = .ok (.getfield 26, 3) := by decide +kernel
theorem dX5_sourceBound_34 : decode cX5_sourceBound 34 = .ok (.iload_n 1, 1) := by decide +kernel
theorem dX5_sourceBound_35 : decode cX5_sourceBound 35 = .ok (.iaload, 1) := by decide +kernel
theorem dX5_sourceBound_36 : decode cX5_sourceBound 36 = .ok (.iconst 1, 1) := by decide +kernel
theorem dX5_sourceBound_37 : decode cX5_sourceBound 37 = .ok (.iadd, 1) := by decide +kernel
theorem dX5_sourceBound_38 : decode cX5_sourceBound 38 = .ok (.goto 4, 3) := by decide +kernel
theorem dX5_sourceBound_41 : decode cX5_sourceBound 41 = .ok (.iconst 1, 1) := by decide +kernel
theorem dX5_sourceBound_42 : decode cX5_sourceBound 42 = .ok (.istore_n 2, 1) := by decide +kernel
theorem dX5_sourceBound_43 : decode cX5_sourceBound 43 = .ok (.iload_n 2, 1) := by decide +kernel
theorem dX5_sourceBound_44 : decode cX5_sourceBound 44 = .ok (.aload_n 0, 1) := by decide +kernel
theorem dX5_sourceBound_45 : decode cX5_sourceBound 45 = .ok (.getfield 26, 3) := by decide +kernel
theorem dX5_sourceBound_48 : decode cX5_sourceBound 48 = .ok (.iload_n 1, 1) := by decide +kernel
theorem dX5_sourceBound_49 : decode cX5_sourceBound 49 = .ok (.iaload, 1) := by decide +kernel
theorem dX5_sourceBound_50 : decode cX5_sourceBound 50 = .ok (.if_icmp .gt 22, 3) := by decide +kernel
theorem dX5_sourceBound_53 : decode cX5_sourceBound 53 = .ok (.aload_n 0, 1) := by decide +kernel
theorem dX5_sourceBound_54 : decode cX5_sourceBound 54 = .ok (.iload_n 1, 1) := by decide +kernel
theorem dX5_sourceBound_55 : decode cX5_sourceBound 55 = .ok (.iload_n 2, 1) := by decide +kernel
theorem dX5_sourceBound_56 : decode cX5_sourceBound 56 = .ok (.invokevirtual 134, 3) := by decide +kernel
theorem dX5_sourceBound_59 : decode cX5_sourceBound 59 = .ok (.istore_n 3, 1) := by decide +kernel
theorem dX5_sourceBound_60 : decode cX5_sourceBound 60 = .ok (.iload_n 3, 1) := by decide +kernel
theorem dX5_sourceBound_61 : decode cX5_sourceBound 61 = .ok (.iload_n 2, 1) := by decide +kernel
theorem dX5_sourceBound_62 : decode cX5_sourceBound 62 = .ok (.if_icmp .ne 5, 3) := by decide +kernel
theorem dX5_sourceBound_65 : decode cX5_sourceBound 65 = .ok (.iload_n 2, 1) := by decide +kernel
theorem dX5_sourceBound_66 : decode cX5_sourceBound 66 = .ok (.ireturn, 1) := by decide +kernel
theorem dX5_sourceBound_67 : decode cX5_sourceBound 67 = .ok (.iload_n 3, 1) := by decide +kernel
theorem dX5_sourceBound_68 : decode cX5_sourceBound 68 = .ok (.istore_n 2, 1) := by decide +kernel
theorem dX5_sourceBound_69 : decode cX5_sourceBound 69 = .ok (.goto (-26), 3) := by decide +kernel
theorem dX5_sourceBound_72 : decode cX5_sourceBound 72 = .ok (.iconst (-1), 1) := by decide +kernel
theorem dX5_sourceBound_73 : decode cX5_sourceBound 73 = .ok (.ireturn, 1) := by decide +kernel
theorem dX5_areAdmitted_0 : decode cX5_areAdmitted 0 = .ok (.iconst 1, 1) := by decide +kernel
theorem dX5_areAdmitted_1 : decode cX5_areAdmitted 1 = .ok (.istore_n 1, 1) := by decide +kernel
theorem dX5_areAdmitted_2 : decode cX5_areAdmitted 2 = .ok (.iconst 0, 1) := by decide +kernel
theorem dX5_areAdmitted_3 : decode cX5_areAdmitted 3 = .ok (.istore_n 2, 1) := by decide +kernel
theorem dX5_areAdmitted_4 : decode cX5_areAdmitted 4 = .ok (.iload_n 2, 1) := by decide +kernel
theorem dX5_areAdmitted_5 : decode cX5_areAdmitted 5 = .ok (.bipush 6, 2) := by decide +kernel
theorem dX5_areAdmitted_7 : decode cX5_areAdmitted 7 = .ok (.if_icmp .ge 36, 3) := by decide +kernel
theorem dX5_areAdmitted_10 : decode cX5_areAdmitted 10 = .ok (.iload_n 1, 1) := by decide +kernel
theorem dX5_areAdmitted_11 : decode cX5_areAdmitted 11 = .ok (.ifCond .eq 24, 3) := by decide +kernel
theorem dX5_areAdmitted_14 : decode cX5_areAdmitted 14 = .ok (.aload_n 0, 1) := by decide +kernel
theorem dX5_areAdmitted_15 : decode cX5_areAdmitted 15 = .ok (.getfield 74, 3) := by decide +kernel
theorem dX5_areAdmitted_18 : decode cX5_areAdmitted 18 = .ok (.iload_n 2, 1) := by decide +kernel
theorem dX5_areAdmitted_19 : decode cX5_areAdmitted 19 = .ok (.baload, 1) := by decide +kernel
theorem dX5_areAdmitted_20 : decode cX5_areAdmitted 20 = .ok (.ifCond .eq 11, 3) := by decide +kernel
theorem dX5_areAdmitted_23 : decode cX5_areAdmitted 23 = .ok (.aload_n 0, 1) := by decide +kernel
theorem dX5_areAdmitted_24 : decode cX5_areAdmitted 24 = .ok (.iload_n 2, 1) := by decide +kernel
theorem dX5_areAdmitted_25 : decode cX5_areAdmitted 25 = .ok (.invokevirtual 137, 3) := by decide +kernel
theorem dX5_areAdmitted_28 : decode cX5_areAdmitted 28 = .ok (.ifCond .lt 7, 3) := by decide +kernel
theorem dX5_areAdmitted_31 : decode cX5_areAdmitted 31 = .ok (.iconst 1, 1) := by decide +kernel
theorem dX5_areAdmitted_32 : decode cX5_areAdmitted 32 = .ok (.goto 4, 3) := by decide +kernel
theorem dX5_areAdmitted_35 : decode cX5_areAdmitted 35 = .ok (.iconst 0, 1) := by decide +kernel
theorem dX5_areAdmitted_36 : decode cX5_areAdmitted 36 = .ok (.istore_n 1, 1) := by decide +kernel
theorem dX5_areAdmitted_37 : decode cX5_areAdmitted 37 = .ok (.iinc 2 1, 3) := by decide +kernel
theorem dX5_areAdmitted_40 : decode cX5_areAdmitted 40 = .ok (.goto (-36), 3) := by decide +kernel
theorem dX5_areAdmitted_43 : decode cX5_areAdmitted 43 = .ok (.iload_n 1, 1) := by decide +kernel
theorem dX5_areAdmitted_44 : decode cX5_areAdmitted 44 = .ok (.ireturn, 1) := by decide +kernel
theorem dX5_source_0 : decode cX5_source 0 = .ok (.iload_n 2, 1) := by decide +kernel
theorem dX5_source_1 : decode cX5_source 1 = .ok (.iconst 0, 1) := by decide +kernel
theorem dX5_source_2 : decode cX5_source 2 = .ok (.iconst 3, 1) := by decide +kernel
theorem dX5_source_3 : decode cX5_source 3 = .ok (.invokestatic 140, 3) := by decide +kernel
theorem dX5_source_6 : decode cX5_source 6 = .ok (.ifCond .eq 63, 3) := by decide +kernel
theorem dX5_source_9 : decode cX5_source 9 = .ok (.iload_n 3, 1) := by decide +kernel
theorem dX5_source_10 : decode cX5_source 10 = .ok (.iconst 1, 1) := by decide +kernel
theorem dX5_source_11 : decode cX5_source 11 = .ok (.bipush 30, 2) := by decide +kernel
theorem dX5_source_13 : decode cX5_source 13 = .ok (.invokestatic 140, 3) := by decide +kernel
theorem dX5_source_16 : decode cX5_source 16 = .ok (.ifCond .eq 53, 3) := by decide +kernel
theorem dX5_source_19 : decode cX5_source 19 = .ok (.iload 4, 2) := by decide +kernel
theorem dX5_source_21 : decode cX5_source 21 = .ok (.iconst 1, 1) := by decide +kernel
theorem dX5_source_22 : decode cX5_source 22 = .ok (.sipush 2000, 3) := by decide +kernel
theorem dX5_source_25 : decode cX5_source 25 = .ok (.invokestatic 140, 3) := by decide +kernel
theorem dX5_source_28 : decode cX5_source 28 = .ok (.ifCond .eq 41, 3) := by decide +kernel
theorem dX5_source_31 : decode cX5_source 31 = .ok (.iload 5, 2) := by decide +kernel
theorem dX5_source_33 : decode cX5_source 33 = .ok (.iconst 1, 1) := by decide +kernel
theorem dX5_source_34 : decode cX5_source 34 = .ok (.bipush 30, 2) := by decide +kernel
theorem dX5_source_36 : decode cX5_source 36 = .ok (.invokestatic 140, 3) := by decide +kernel
theorem dX5_source_39 : decode cX5_source 39 = .ok (.ifCond .eq 30, 3) := by decide +kernel
theorem dX5_source_42 : decode cX5_source 42 = .ok (.iload 6, 2) := by decide +kernel
theorem dX5_source_44 : decode cX5_source 44 = .ok (.iconst 1, 1) := by decide +kernel
theorem dX5_source_45 : decode cX5_source 45 = .ok (.sipush 500, 3) := by decide +kernel
theorem dX5_source_48 : decode cX5_source 48 = .ok (.invokestatic 140, 3) := by decide +kernel
theorem dX5_source_51 : decode cX5_source 51 = .ok (.ifCond .eq 18, 3) := by decide +kernel
theorem dX5_source_54 : decode cX5_source 54 = .ok (.iload 7, 2) := by decide +kernel
theorem dX5_source_56 : decode cX5_source 56 = .ok (.iconst 0, 1) := by decide +kernel
theorem dX5_source_57 : decode cX5_source 57 = .ok (.bipush 31, 2) := by decide +kernel
theorem dX5_source_59 : decode cX5_source 59 = .ok (.invokestatic 140, 3) := by decide +kernel
theorem dX5_source_62 : decode cX5_source 62 = .ok (.ifCond .eq 7, 3) := by decide +kernel
theorem dX5_source_65 : decode cX5_source 65 = .ok (.iconst 1, 1) := by decide +kernel
theorem dX5_source_66 : decode cX5_source 66 = .ok (.goto 4, 3) := by decide +kernel
theorem dX5_source_69 : decode cX5_source 69 = .ok (.iconst 0, 1) := by decide +kernel
theorem dX5_source_70 : decode cX5_source 70 = .ok (.istore 8, 2) := by decide +kernel
theorem dX5_source_72 : decode cX5_source 72 = .ok (.aload_n 0, 1) := by decide +kernel
theorem dX5_source_73 : decode cX5_source 73 = .ok (.iload_n 1, 1) := by decide +kernel
theorem dX5_source_74 : decode cX5_source 74 = .ok (.iconst 0, 1) := by decide +kernel
theorem dX5_source_75 : decode cX5_source 75 = .ok (.iconst 5, 1) := by decide +kernel
theorem dX5_source_76 : decode cX5_source 76 = .ok (.invokestatic 140, 3) := by decide +kernel
theorem dX5_source_79 : decode cX5_source 79 = .ok (.ifCond .ne 7, 3) := by decide +kernel
theorem dX5_source_82 : decode cX5_source 82 = .ok (.iconst 1, 1) := by decide +kernel
theorem dX5_source_83 : decode cX5_source 83 = .ok (.goto 26, 3) := by decide +kernel
theorem dX5_source_86 : decode cX5_source 86 = .ok (.iload 8, 2) := by decide +kernel
theorem dX5_source_88 : decode cX5_source 88 = .ok (.ifCond .ne 7, 3) := by decide +kernel
theorem dX5_source_91 : decode cX5_source 91 = .ok (.iconst 2, 1) := by decide +kernel
theorem dX5_source_92 : decode cX5_source 92 = .ok (.goto 17, 3) := by decide +kernel
theorem dX5_source_95 : decode cX5_source 95 = .ok (.aload_n 0, 1) := by decide +kernel
theorem dX5_source_96 : decode cX5_source 96 = .ok (.getfield 7, 3) := by decide +kernel
theorem dX5_source_99 : decode cX5_source 99 = .ok (.iload_n 1, 1) := by decide +kernel
theorem dX5_source_100 : decode cX5_source 100 = .ok (.baload, 1) := by decide +kernel
theorem dX5_source_101 : decode cX5_source 101 = .ok (.ifCond .eq 7, 3) := by decide +kernel
theorem dX5_source_104 : decode cX5_source 104 = .ok (.iconst 3, 1) := by decide +kernel
theorem dX5_source_105 : decode cX5_source 105 = .ok (.goto 4, 3) := by decide +kernel
theorem dX5_source_108 : decode cX5_source 108 = .ok (.iconst 0, 1) := by decide +kernel
theorem dX5_source_109 : decode cX5_source 109 = .ok (.putfield 107, 3) := by decide +kernel
theorem dX5_source_112 : decode cX5_source 112 = .ok (.iconst 0, 1) := by decide +kernel
theorem dX5_source_113 : decode cX5_source 113 = .ok (.istore 9, 2) := by decide +kernel
theorem dX5_source_115 : decode cX5_source 115 = .ok (.iload 9, 2) := by decide +kernel
theorem dX5_source_117 : decode cX5_source 117 = .ok (.bipush 6, 2) := by decide +kernel
theorem dX5_source_119 : decode cX5_source 119 = .ok (.if_icmp .ge 47, 3) := by decide +kernel
theorem dX5_source_122 : decode cX5_source 122 = .ok (.aload_n 0, 1) := by decide +kernel
theorem dX5_source_123 : decode cX5_source 123 = .ok (.getfield 107, 3) := by decide +kernel
theorem dX5_source_126 : decode cX5_source 126 = .ok (.ifCond .ne 40, 3) := by decide +kernel
theorem dX5_source_129 : decode cX5_source 129 = .ok (.aload_n 0, 1) := by decide +kernel
theorem dX5_source_130 : decode cX5_source 130 = .ok (.aload_n 0, 1) := by decide +kernel
theorem dX5_source_131 : decode cX5_source 131 = .ok (.getfield 7, 3) := by decide +kernel
theorem dX5_source_134 : decode cX5_source 134 = .ok (.iload 9, 2) := by decide +kernel
theorem dX5_source_136 : decode cX5_source 136 = .ok (.baload, 1) := by decide +kernel
theorem dX5_source_137 : decode cX5_source 137 = .ok (.ifCond .eq 19, 3) := by decide +kernel
theorem dX5_source_140 : decode cX5_source 140 = .ok (.aload_n 0, 1) := by decide +kernel
theorem dX5_source_141 : decode cX5_source 141 = .ok (.getfield 29, 3) := by decide +kernel
theorem dX5_source_144 : decode cX5_source 144 = .ok (.iload 9, 2) := by decide +kernel
theorem dX5_source_146 : decode cX5_source 146 = .ok (.iaload, 1) := by decide +kernel
theorem dX5_source_147 : decode cX5_source 147 = .ok (.iload 7, 2) := by decide +kernel
theorem dX5_source_149 : decode cX5_source 149 = .ok (.if_icmp .ne 7, 3) := by decide +kernel
theorem dX5_source_152 : decode cX5_source 152 = .ok (.iconst 3, 1) := by decide +kernel
theorem dX5_source_153 : decode cX5_source 153 = .ok (.goto 4, 3) := by decide +kernel
theorem dX5_source_156 : decode cX5_source 156 = .ok (.iconst 0, 1) := by decide +kernel
theorem dX5_source_157 : decode cX5_source 157 = .ok (.putfield 107, 3) := by decide +kernel
theorem dX5_source_160 : decode cX5_source 160 = .ok (.iinc 9 1, 3) := by decide +kernel
theorem dX5_source_163 : decode cX5_source 163 = .ok (.goto (-48), 3) := by decide +kernel
theorem dX5_source_166 : decode cX5_source 166 = .ok (.aload_n 0, 1) := by decide +kernel
theorem dX5_source_167 : decode cX5_source 167 = .ok (.getfield 107, 3) := by decide +kernel
theorem dX5_source_170 : decode cX5_source 170 = .ok (.ifCond .le 4, 3) := by decide +kernel
theorem dX5_source_173 : decode cX5_source 173 = .ok (.return_, 1) := by decide +kernel
theorem dX5_source_174 : decode cX5_source 174 = .ok (.aload_n 0, 1) := by decide +kernel
theorem dX5_source_175 : decode cX5_source 175 = .ok (.getfield 7, 3) := by decide +kernel
theorem dX5_source_178 : decode cX5_source 178 = .ok (.iload_n 1, 1) := by decide +kernel
theorem dX5_source_179 : decode cX5_source 179 = .ok (.iconst 1, 1) := by decide +kernel
theorem dX5_source_180 : decode cX5_source 180 = .ok (.bastore, 1) := by decide +kernel
theorem dX5_source_181 : decode cX5_source 181 = .ok (.aload_n 0, 1) := by decide +kernel
theorem dX5_source_182 : decode cX5_source 182 = .ok (.getfield 13, 3) := by decide +kernel
theorem dX5_source_185 : decode cX5_source 185 = .ok (.iload_n 1, 1) := by decide +kernel
theorem dX5_source_186 : decode cX5_source 186 = .ok (.iload_n 2, 1) := by decide +kernel
theorem dX5_source_187 : decode cX5_source 187 = .ok (.iastore, 1) := by decide +kernel
theorem dX5_source_188 : decode cX5_source 188 = .ok (.aload_n 0, 1) := by decide +kernel
theorem dX5_source_189 : decode cX5_source 189 = .ok (.getfield 17, 3) := by decide +kernel
theorem dX5_source_192 : decode cX5_source 192 = .ok (.iload_n 1, 1) := by decide +kernel
theorem dX5_source_193 : decode cX5_source 193 = .ok (.iload_n 3, 1) := by decide +kernel
theorem dX5_source_194 : decode cX5_source 194 = .ok (.iastore, 1) := by decide +kernel
theorem dX5_source_195 : decode cX5_source 195 = .ok (.aload_n 0, 1) := by decide +kernel
theorem dX5_source_196 : decode cX5_source 196 = .ok (.getfield 20, 3) := by decide +kernel
theorem dX5_source_199 : decode cX5_source 199 = .ok (.iload_n 1, 1) := by decide +kernel
theorem dX5_source_200 : decode cX5_source 200 = .ok (.iload 4, 2) := by decide +kernel
theorem dX5_source_202 : decode cX5_source 202 = .ok (.iastore, 1) := by decide +kernel
theorem dX5_source_203 : decode cX5_source 203 = .ok (.aload_n 0, 1) := by decide +kernel
theorem dX5_source_204 : decode cX5_source 204 = .ok (.getfield 23, 3) := by decide +kernel
theorem dX5_source_207 : decode cX5_source 207 = .ok (.iload_n 1, 1) := by decide +kernel
theorem dX5_source_208 : decode cX5_source 208 = .ok (.iload 5, 2) := by decide +kernel
theorem dX5_source_210 : decode cX5_source 210 = .ok (.iastore, 1) := by decide +kernel
theorem dX5_source_211 : decode cX5_source 211 = .ok (.aload_n 0, 1) := by decide +kernel
theorem dX5_source_212 : decode cX5_source 212 = .ok (.getfield 26, 3) := by decide +kernel
theorem dX5_source_215 : decode cX5_source 215 = .ok (.iload_n 1, 1) := by decide +kernel
theorem dX5_source_216 : decode cX5_source 216 = .ok (.iload 6, 2) := by decide +kernel
theorem dX5_source_218 : decode cX5_source 218 = .ok (.iastore, 1) := by decide +kernel
theorem dX5_source_219 : decode cX5_source 219 = .ok (.aload_n 0, 1) := by decide +kernel
theorem dX5_source_220 : decode cX5_source 220 = .ok (.getfield 29, 3) := by decide +kernel
theorem dX5_source_223 : decode cX5_source 223 = .ok (.iload_n 1, 1) := by decide +kernel
theorem dX5_source_224 : decode cX5_source 224 = .ok (.iload 7, 2) := by decide +kernel
theorem dX5_source_226 : decode cX5_source 226 = .ok (.iastore, 1) := by decide +kernel
theorem dX5_source_227 : decode cX5_source 227 = .ok (.iconst 0, 1) := by decide +kernel
theorem dX5_source_228 : decode cX5_source 228 = .ok (.istore 9, 2) := by decide +kernel
theorem dX5_source_230 : decode cX5_source 230 = .ok (.iload 9, 2) := by decide +kernel
theorem dX5_source_232 : decode cX5_source 232 = .ok (.bipush 30, 2) := by decide +kernel
theorem dX5_source_234 : decode cX5_source 234 = .ok (.if_icmp .ge 22, 3) := by decide +kernel
theorem dX5_source_237 : decode cX5_source 237 = .ok (.aload_n 0, 1) := by decide +kernel
theorem dX5_source_238 : decode cX5_source 238 = .ok (.getfield 44, 3) := by decide +kernel
theorem dX5_source_241 : decode cX5_source 241 = .ok (.bipush 30, 2) := by decide +kernel
theorem dX5_source_243 : decode cX5_source 243 = .ok (.iload_n 1, 1) := by decide +kernel
theorem dX5_source_244 : decode cX5_source 244 = .ok (.imul, 1) := by decide +kernel
theorem dX5_source_245 : decode cX5_source 245 = .ok (.iload 9, 2) := by decide +kernel
theorem dX5_source_247 : decode cX5_source 247 = .ok (.iadd, 1) := by decide +kernel
theorem dX5_source_248 : decode cX5_source 248 = .ok (.iconst 0, 1) := by decide +kernel
theorem dX5_source_249 : decode cX5_source 249 = .ok (.iastore, 1) := by decide +kernel
theorem dX5_source_250 : decode cX5_source 250 = .ok (.iinc 9 1, 3) := by decide +kernel
theorem dX5_source_253 : decode cX5_source 253 = .ok (.goto (-23), 3) := by decide +kernel
theorem dX5_source_256 : decode cX5_source 256 = .ok (.aload_n 0, 1) := by decide +kernel
theorem dX5_source_257 : decode cX5_source 257 = .ok (.getfield 7, 3) := by decide +kernel
theorem dX5_source_260 : decode cX5_source 260 = .ok (.iload_n 1, 1) := by decide +kernel
theorem dX5_source_261 : decode cX5_source 261 = .ok (.aload_n 0, 1) := by decide +kernel
theorem dX5_source_262 : decode cX5_source 262 = .ok (.invokevirtual 144, 3) := by decide +kernel
theorem dX5_source_265 : decode cX5_source 265 = .ok (.bastore, 1) := by decide +kernel
theorem dX5_source_266 : decode cX5_source 266 = .ok (.aload_n 0, 1) := by decide +kernel
theorem dX5_source_267 : decode cX5_source 267 = .ok (.aload_n 0, 1) := by decide +kernel
theorem dX5_source_268 : decode cX5_source 268 = .ok (.getfield 7, 3) := by decide +kernel
theorem dX5_source_271 : decode cX5_source 271 = .ok (.iload_n 1, 1) := by decide +kernel
theorem dX5_source_272 : decode cX5_source 272 = .ok (.baload, 1) := by decide +kernel
theorem dX5_source_273 : decode cX5_source 273 = .ok (.ifCond .eq 7, 3) := by decide +kernel
theorem dX5_source_276 : decode cX5_source 276 = .ok (.iconst 0, 1) := by decide +kernel
theorem dX5_source_277 : decode cX5_source 277 = .ok (.goto 4, 3) := by decide +kernel
theorem dX5_source_280 : decode cX5_source 280 = .ok (.iconst 3, 1) := by decide +kernel
theorem dX5_source_281 : decode cX5_source 281 = .ok (.putfield 107, 3) := by decide +kernel
theorem dX5_source_284 : decode cX5_source 284 = .ok (.return_, 1) := by decide +kernel
theorem dX5_base_0 : decode cX5_base 0 = .ok (.aload_n 0, 1) := by decide +kernel
theorem dX5_base_1 : decode cX5_base 1 = .ok (.iload_n 1, 1) := by decide +kernel
theorem dX5_base_2 : decode cX5_base 2 = .ok (.iconst 0, 1) := by decide +kernel
theorem dX5_base_3 : decode cX5_base 3 = .ok (.iconst 5, 1) := by decide +kernel
theorem dX5_base_4 : decode cX5_base 4 = .ok (.invokestatic 140, 3) := by decide +kernel
theorem dX5_base_7 : decode cX5_base 7 = .ok (.ifCond .ne 7, 3) := by decide +kernel
theorem dX5_base_10 : decode cX5_base 10 = .ok (.iconst 1, 1) := by decide +kernel
theorem dX5_base_11 : decode cX5_base 11 = .ok (.goto 54, 3) := by decide +kernel
theorem dX5_base_14 : decode cX5_base 14 = .ok (.iload_n 2, 1) := by decide +kernel
theorem dX5_base_15 : decode cX5_base 15 = .ok (.iconst 1, 1) := by decide +kernel
theorem dX5_base_16 : decode cX5_base 16 = .ok (.sipush 2000, 3) := by decide +kernel
theorem dX5_base_19 : decode cX5_base 19 = .ok (.invokestatic 140, 3) := by decide +kernel
theorem dX5_base_22 : decode cX5_base 22 = .ok (.ifCond .eq 25, 3) := by decide +kernel
theorem dX5_base_25 : decode cX5_base 25 = .ok (.iload_n 3, 1) := by decide +kernel
theorem dX5_base_26 : decode cX5_base 26 = .ok (.iconst 1, 1) := by decide +kernel
theorem dX5_base_27 : decode cX5_base 27 = .ok (.sipush 500, 3) := by decide +kernel
theorem dX5_base_30 : decode cX5_base 30 = .ok (.invokestatic 140, 3) := by decide +kernel
theorem dX5_base_33 : decode cX5_base 33 = .ok (.ifCond .eq 14, 3) := by decide +kernel
theorem dX5_base_36 : decode cX5_base 36 = .ok (.iload 4, 2) := by decide +kernel
theorem dX5_base_38 : decode cX5_base 38 = .ok (.iconst 0, 1) := by decide +kernel
theorem dX5_base_39 : decode cX5_base 39 = .ok (.bipush 31, 2) := by decide +kernel
theorem dX5_base_41 : decode cX5_base 41 = .ok (.invokestatic 140, 3) := by decide +kernel
theorem dX5_base_44 : decode cX5_base 44 = .ok (.ifCond .ne 7, 3) := by decide +kernel
theorem dX5_base_47 : decode cX5_base 47 = .ok (.iconst 2, 1) := by decide +kernel
theorem dX5_base_48 : decode cX5_base 48 = .ok (.goto 17, 3) := by decide +kernel
theorem dX5_base_51 : decode cX5_base 51 = .ok (.aload_n 0, 1) := by decide +kernel
theorem dX5_base_52 : decode cX5_base 52 = .ok (.getfield 74, 3) := by decide +kernel
theorem dX5_base_55 : decode cX5_base 55 = .ok (.iload_n 1, 1) := by decide +kernel
theorem dX5_base_56 : decode cX5_base 56 = .ok (.baload, 1) := by decide +kernel
theorem dX5_base_57 : decode cX5_base 57 = .ok (.ifCond .eq 7, 3) := by decide +kernel
theorem dX5_base_60 : decode cX5_base 60 = .ok (.iconst 3, 1) := by decide +kernel
theorem dX5_base_61 : decode cX5_base 61 = .ok (.goto 4, 3) := by decide +kernel
theorem dX5_base_64 : decode cX5_base 64 = .ok (.iconst 0, 1) := by decide +kernel
theorem dX5_base_65 : decode cX5_base 65 = .ok (.putfield 107, 3) := by decide +kernel
theorem dX5_base_68 : decode cX5_base 68 = .ok (.iconst 0, 1) := by decide +kernel
theorem dX5_base_69 : decode cX5_base 69 = .ok (.istore 5, 2) := by decide +kernel
theorem dX5_base_71 : decode cX5_base 71 = .ok (.iload 5, 2) := by decide +kernel
theorem dX5_base_73 : decode cX5_base 73 = .ok (.bipush 6, 2) := by decide +kernel
theorem dX5_base_75 : decode cX5_base 75 = .ok (.if_icmp .ge 47, 3) := by decide +kernel
theorem dX5_base_78 : decode cX5_base 78 = .ok (.aload_n 0, 1) := by decide +kernel
theorem dX5_base_79 : decode cX5_base 79 = .ok (.getfield 107, 3) := by decide +kernel
theorem dX5_base_82 : decode cX5_base 82 = .ok (.ifCond .ne 40, 3) := by decide +kernel
theorem dX5_base_85 : decode cX5_base 85 = .ok (.aload_n 0, 1) := by decide +kernel
theorem dX5_base_86 : decode cX5_base 86 = .ok (.aload_n 0, 1) := by decide +kernel
theorem dX5_base_87 : decode cX5_base 87 = .ok (.getfield 74, 3) := by decide +kernel
theorem dX5_base_90 : decode cX5_base 90 = .ok (.iload 5, 2) := by decide +kernel
theorem dX5_base_92 : decode cX5_base 92 = .ok (.baload, 1) := by decide +kernel
theorem dX5_base_93 : decode cX5_base 93 = .ok (.ifCond .eq 19, 3) := by decide +kernel
theorem dX5_base_96 : decode cX5_base 96 = .ok (.aload_n 0, 1) := by decide +kernel
theorem dX5_base_97 : decode cX5_base 97 = .ok (.getfield 83, 3) := by decide +kernel
theorem dX5_base_100 : decode cX5_base 100 = .ok (.iload 5, 2) := by decide +kernel
theorem dX5_base_102 : decode cX5_base 102 = .ok (.iaload, 1) := by decide +kernel
theorem dX5_base_103 : decode cX5_base 103 = .ok (.iload 4, 2) := by decide +kernel
theorem dX5_base_105 : decode cX5_base 105 = .ok (.if_icmp .ne 7, 3) := by decide +kernel
theorem dX5_base_108 : decode cX5_base 108 = .ok (.iconst 3, 1) := by decide +kernel
theorem dX5_base_109 : decode cX5_base 109 = .ok (.goto 4, 3) := by decide +kernel
theorem dX5_base_112 : decode cX5_base 112 = .ok (.iconst 0, 1) := by decide +kernel
theorem dX5_base_113 : decode cX5_base 113 = .ok (.putfield 107, 3) := by decide +kernel
theorem dX5_base_116 : decode cX5_base 116 = .ok (.iinc 5 1, 3) := by decide +kernel
theorem dX5_base_119 : decode cX5_base 119 = .ok (.goto (-48), 3) := by decide +kernel
theorem dX5_base_122 : decode cX5_base 122 = .ok (.aload_n 0, 1) := by decide +kernel
theorem dX5_base_123 : decode cX5_base 123 = .ok (.getfield 107, 3) := by decide +kernel
theorem dX5_base_126 : decode cX5_base 126 = .ok (.ifCond .le 5, 3) := by decide +kernel
theorem dX5_base_129 : decode cX5_base 129 = .ok (.iconst 0, 1) := by decide +kernel
theorem dX5_base_130 : decode cX5_base 130 = .ok (.ireturn, 1) := by decide +kernel
theorem dX5_base_131 : decode cX5_base 131 = .ok (.aload_n 0, 1) := by decide +kernel
theorem dX5_base_132 : decode cX5_base 132 = .ok (.getfield 74, 3) := by decide +kernel
theorem dX5_base_135 : decode cX5_base 135 = .ok (.iload_n 1, 1) := by decide +kernel
theorem dX5_base_136 : decode cX5_base 136 = .ok (.iconst 1, 1) := by decide +kernel
theorem dX5_base_137 : decode cX5_base 137 = .ok (.bastore, 1) := by decide +kernel
theorem dX5_base_138 : decode cX5_base 138 = .ok (.aload_n 0, 1) := by decide +kernel
theorem dX5_base_139 : decode cX5_base 139 = .ok (.getfield 77, 3) := by decide +kernel
theorem dX5_base_142 : decode cX5_base 142 = .ok (.iload_n 1, 1) := by decide +kernel
theorem dX5_base_143 : decode cX5_base 143 = .ok (.iload_n 2, 1) := by decide +kernel
theorem dX5_base_144 : decode cX5_base 144 = .ok (.iastore, 1) := by decide +kernel
theorem dX5_base_145 : decode cX5_base 145 = .ok (.aload_n 0, 1) := by decide +kernel
theorem dX5_base_146 : decode cX5_base 146 = .ok (.getfield 80, 3) := by decide +kernel
theorem dX5_base_149 : decode cX5_base 149 = .ok (.iload_n 1, 1) := by decide +kernel
theorem dX5_base_150 : decode cX5_base 150 = .ok (.iload_n 3, 1) := by decide +kernel
theorem dX5_base_151 : decode cX5_base 151 = .ok (.iastore, 1) := by decide +kernel
theorem dX5_base_152 : decode cX5_base 152 = .ok (.aload_n 0, 1) := by decide +kernel
theorem dX5_base_153 : decode cX5_base 153 = .ok (.getfield 83, 3) := by decide +kernel
theorem dX5_base_156 : decode cX5_base 156 = .ok (.iload_n 1, 1) := by decide +kernel
theorem dX5_base_157 : decode cX5_base 157 = .ok (.iload 4, 2) := by decide +kernel
theorem dX5_base_159 : decode cX5_base 159 = .ok (.iastore, 1) := by decide +kernel
theorem dX5_base_160 : decode cX5_base 160 = .ok (.aload_n 0, 1) := by decide +kernel
theorem dX5_base_161 : decode cX5_base 161 = .ok (.getfield 86, 3) := by decide +kernel
theorem dX5_base_164 : decode cX5_base 164 = .ok (.iload_n 1, 1) := by decide +kernel
theorem dX5_base_165 : decode cX5_base 165 = .ok (.aload_n 0, 1) := by decide +kernel
theorem dX5_base_166 : decode cX5_base 166 = .ok (.getfield 115, 3) := by decide +kernel
theorem dX5_base_169 : decode cX5_base 169 = .ok (.iastore, 1) := by decide +kernel
theorem dX5_base_170 : decode cX5_base 170 = .ok (.aload_n 0, 1) := by decide +kernel
theorem dX5_base_171 : decode cX5_base 171 = .ok (.getfield 74, 3) := by decide +kernel
theorem dX5_base_174 : decode cX5_base 174 = .ok (.iload_n 1, 1) := by decide +kernel
theorem dX5_base_175 : decode cX5_base 175 = .ok (.aload_n 0, 1) := by decide +kernel
theorem dX5_base_176 : decode cX5_base 176 = .ok (.invokevirtual 144, 3) := by decide +kernel
theorem dX5_base_179 : decode cX5_base 179 = .ok (.bastore, 1) := by decide +kernel
theorem dX5_base_180 : decode cX5_base 180 = .ok (.aload_n 0, 1) := by decide +kernel
theorem dX5_base_181 : decode cX5_base 181 = .ok (.getfield 74, 3) := by decide +kernel
end
section
theorem dX5_base_184 : decode cX5_base 184 = .ok (.iload_n 1, 1) := by decide +kernel
theorem dX5_base_185 : decode cX5_base 185 = .ok (.baload, 1) := by decide +kernel
theorem dX5_base_186 : decode cX5_base 186 = .ok (.ireturn, 1) := by decide +kernel
theorem dX5_isSource_0 : decode cX5_isSource 0 = .ok (.iload_n 1, 1) := by decide +kernel
theorem dX5_isSource_1 : decode cX5_isSource 1 = .ok (.iconst 0, 1) := by decide +kernel
theorem dX5_isSource_2 : decode cX5_isSource 2 = .ok (.iconst 5, 1) := by decide +kernel
theorem dX5_isSource_3 : decode cX5_isSource 3 = .ok (.invokestatic 140, 3) := by decide +kernel
theorem dX5_isSource_6 : decode cX5_isSource 6 = .ok (.ifCond .eq 16, 3) := by decide +kernel
theorem dX5_isSource_9 : decode cX5_isSource 9 = .ok (.aload_n 0, 1) := by decide +kernel
theorem dX5_isSource_10 : decode cX5_isSource 10 = .ok (.getfield 7, 3) := by decide +kernel
theorem dX5_isSource_13 : decode cX5_isSource 13 = .ok (.iload_n 1, 1) := by decide +kernel
theorem dX5_isSource_14 : decode cX5_isSource 14 = .ok (.baload, 1) := by decide +kernel
theorem dX5_isSource_15 : decode cX5_isSource 15 = .ok (.ifCond .eq 7, 3) := by decide +kernel
theorem dX5_isSource_18 : decode cX5_isSource 18 = .ok (.iconst 1, 1) := by decide +kernel
theorem dX5_isSource_19 : decode cX5_isSource 19 = .ok (.goto 4, 3) := by decide +kernel
theorem dX5_isSource_22 : decode cX5_isSource 22 = .ok (.iconst 0, 1) := by decide +kernel
theorem dX5_isSource_23 : decode cX5_isSource 23 = .ok (.ireturn, 1) := by decide +kernel
theorem dX5_event_0 : decode cX5_event 0 = .ok (.aload_n 0, 1) := by decide +kernel
theorem dX5_event_1 : decode cX5_event 1 = .ok (.aload_n 0, 1) := by decide +kernel
theorem dX5_event_2 : decode cX5_event 2 = .ok (.iload_n 1, 1) := by decide +kernel
theorem dX5_event_3 : decode cX5_event 3 = .ok (.invokevirtual 148, 3) := by decide +kernel
theorem dX5_event_6 : decode cX5_event 6 = .ok (.ifCond .eq 7, 3) := by decide +kernel
theorem dX5_event_9 : decode cX5_event 9 = .ok (.iconst 0, 1) := by decide +kernel
theorem dX5_event_10 : decode cX5_event 10 = .ok (.goto 4, 3) := by decide +kernel
theorem dX5_event_13 : decode cX5_event 13 = .ok (.iconst 1, 1) := by decide +kernel
theorem dX5_event_14 : decode cX5_event 14 = .ok (.putfield 107, 3) := by decide +kernel
theorem dX5_event_17 : decode cX5_event 17 = .ok (.aload_n 0, 1) := by decide +kernel
theorem dX5_event_18 : decode cX5_event 18 = .ok (.getfield 107, 3) := by decide +kernel
theorem dX5_event_21 : decode cX5_event 21 = .ok (.ifCond .le 5, 3) := by decide +kernel
theorem dX5_event_24 : decode cX5_event 24 = .ok (.iconst 0, 1) := by decide +kernel
theorem dX5_event_25 : decode cX5_event 25 = .ok (.ireturn, 1) := by decide +kernel
theorem dX5_event_26 : decode cX5_event 26 = .ok (.aload_n 0, 1) := by decide +kernel
theorem dX5_event_27 : decode cX5_event 27 = .ok (.getfield 56, 3) := by decide +kernel
theorem dX5_event_30 : decode cX5_event 30 = .ok (.iload_n 1, 1) := by decide +kernel
theorem dX5_event_31 : decode cX5_event 31 = .ok (.baload, 1) := by decide +kernel
theorem dX5_event_32 : decode cX5_event 32 = .ok (.ifCond .ne 14, 3) := by decide +kernel
theorem dX5_event_35 : decode cX5_event 35 = .ok (.aload_n 0, 1) := by decide +kernel
theorem dX5_event_36 : decode cX5_event 36 = .ok (.getfield 32, 3) := by decide +kernel
theorem dX5_event_39 : decode cX5_event 39 = .ok (.iload_n 1, 1) := by decide +kernel
theorem dX5_event_40 : decode cX5_event 40 = .ok (.iaload, 1) := by decide +kernel
theorem dX5_event_41 : decode cX5_event 41 = .ok (.bipush 32, 2) := by decide +kernel
theorem dX5_event_43 : decode cX5_event 43 = .ok (.if_icmp .ne 15, 3) := by decide +kernel
theorem dX5_event_46 : decode cX5_event 46 = .ok (.aload_n 0, 1) := by decide +kernel
theorem dX5_event_47 : decode cX5_event 47 = .ok (.getfield 68, 3) := by decide +kernel
theorem dX5_event_50 : decode cX5_event 50 = .ok (.iload_n 1, 1) := by decide +kernel
theorem dX5_event_51 : decode cX5_event 51 = .ok (.dup2, 1) := by decide +kernel
theorem dX5_event_52 : decode cX5_event 52 = .ok (.iaload, 1) := by decide +kernel
theorem dX5_event_53 : decode cX5_event 53 = .ok (.iconst 1, 1) := by decide +kernel
theorem dX5_event_54 : decode cX5_event 54 = .ok (.iadd, 1) := by decide +kernel
theorem dX5_event_55 : decode cX5_event 55 = .ok (.iastore, 1) := by decide +kernel
theorem dX5_event_56 : decode cX5_event 56 = .ok (.iconst 0, 1) := by decide +kernel
theorem dX5_event_57 : decode cX5_event 57 = .ok (.ireturn, 1) := by decide +kernel
theorem dX5_event_58 : decode cX5_event 58 = .ok (.aload_n 0, 1) := by decide +kernel
theorem dX5_event_59 : decode cX5_event 59 = .ok (.getfield 41, 3) := by decide +kernel
theorem dX5_event_62 : decode cX5_event 62 = .ok (.iload_n 1, 1) := by decide +kernel
theorem dX5_event_63 : decode cX5_event 63 = .ok (.aload_n 0, 1) := by decide +kernel
theorem dX5_event_64 : decode cX5_event 64 = .ok (.getfield 32, 3) := by decide +kernel
theorem dX5_event_67 : decode cX5_event 67 = .ok (.iload_n 1, 1) := by decide +kernel
theorem dX5_event_68 : decode cX5_event 68 = .ok (.iaload, 1) := by decide +kernel
theorem dX5_event_69 : decode cX5_event 69 = .ok (.ifCond .ne 10, 3) := by decide +kernel
theorem dX5_event_72 : decode cX5_event 72 = .ok (.aload_n 0, 1) := by decide +kernel
theorem dX5_event_73 : decode cX5_event 73 = .ok (.getfield 115, 3) := by decide +kernel
theorem dX5_event_76 : decode cX5_event 76 = .ok (.goto 9, 3) := by decide +kernel
theorem dX5_event_79 : decode cX5_event 79 = .ok (.aload_n 0, 1) := by decide +kernel
theorem dX5_event_80 : decode cX5_event 80 = .ok (.getfield 41, 3) := by decide +kernel
theorem dX5_event_83 : decode cX5_event 83 = .ok (.iload_n 1, 1) := by decide +kernel
theorem dX5_event_84 : decode cX5_event 84 = .ok (.iaload, 1) := by decide +kernel
theorem dX5_event_85 : decode cX5_event 85 = .ok (.iastore, 1) := by decide +kernel
theorem dX5_event_86 : decode cX5_event 86 = .ok (.aload_n 0, 1) := by decide +kernel
theorem dX5_event_87 : decode cX5_event 87 = .ok (.getfield 35, 3) := by decide +kernel
theorem dX5_event_90 : decode cX5_event 90 = .ok (.bipush 32, 2) := by decide +kernel
theorem dX5_event_92 : decode cX5_event 92 = .ok (.iload_n 1, 1) := by decide +kernel
theorem dX5_event_93 : decode cX5_event 93 = .ok (.imul, 1) := by decide +kernel
theorem dX5_event_94 : decode cX5_event 94 = .ok (.aload_n 0, 1) := by decide +kernel
theorem dX5_event_95 : decode cX5_event 95 = .ok (.getfield 32, 3) := by decide +kernel
theorem dX5_event_98 : decode cX5_event 98 = .ok (.iload_n 1, 1) := by decide +kernel
theorem dX5_event_99 : decode cX5_event 99 = .ok (.iaload, 1) := by decide +kernel
theorem dX5_event_100 : decode cX5_event 100 = .ok (.iadd, 1) := by decide +kernel
theorem dX5_event_101 : decode cX5_event 101 = .ok (.aload_n 0, 1) := by decide +kernel
theorem dX5_event_102 : decode cX5_event 102 = .ok (.getfield 115, 3) := by decide +kernel
theorem dX5_event_105 : decode cX5_event 105 = .ok (.iastore, 1) := by decide +kernel
theorem dX5_event_106 : decode cX5_event 106 = .ok (.aload_n 0, 1) := by decide +kernel
theorem dX5_event_107 : decode cX5_event 107 = .ok (.getfield 32, 3) := by decide +kernel
theorem dX5_event_110 : decode cX5_event 110 = .ok (.iload_n 1, 1) := by decide +kernel
theorem dX5_event_111 : decode cX5_event 111 = .ok (.dup2, 1) := by decide +kernel
theorem dX5_event_112 : decode cX5_event 112 = .ok (.iaload, 1) := by decide +kernel
theorem dX5_event_113 : decode cX5_event 113 = .ok (.iconst 1, 1) := by decide +kernel
theorem dX5_event_114 : decode cX5_event 114 = .ok (.iadd, 1) := by decide +kernel
theorem dX5_event_115 : decode cX5_event 115 = .ok (.iastore, 1) := by decide +kernel
theorem dX5_event_116 : decode cX5_event 116 = .ok (.aload_n 0, 1) := by decide +kernel
theorem dX5_event_117 : decode cX5_event 117 = .ok (.getfield 62, 3) := by decide +kernel
theorem dX5_event_120 : decode cX5_event 120 = .ok (.iload_n 1, 1) := by decide +kernel
theorem dX5_event_121 : decode cX5_event 121 = .ok (.dup2, 1) := by decide +kernel
theorem dX5_event_122 : decode cX5_event 122 = .ok (.iaload, 1) := by decide +kernel
theorem dX5_event_123 : decode cX5_event 123 = .ok (.iconst 1, 1) := by decide +kernel
theorem dX5_event_124 : decode cX5_event 124 = .ok (.iadd, 1) := by decide +kernel
theorem dX5_event_125 : decode cX5_event 125 = .ok (.iastore, 1) := by decide +kernel
theorem dX5_event_126 : decode cX5_event 126 = .ok (.aload_n 0, 1) := by decide +kernel
theorem dX5_event_127 : decode cX5_event 127 = .ok (.getfield 32, 3) := by decide +kernel
theorem dX5_event_130 : decode cX5_event 130 = .ok (.iload_n 1, 1) := by decide +kernel
theorem dX5_event_131 : decode cX5_event 131 = .ok (.iaload, 1) := by decide +kernel
theorem dX5_event_132 : decode cX5_event 132 = .ok (.bipush 24, 2) := by decide +kernel
theorem dX5_event_134 : decode cX5_event 134 = .ok (.if_icmp .le 20, 3) := by decide +kernel
theorem dX5_event_137 : decode cX5_event 137 = .ok (.aload_n 0, 1) := by decide +kernel
theorem dX5_event_138 : decode cX5_event 138 = .ok (.getfield 56, 3) := by decide +kernel
theorem dX5_event_141 : decode cX5_event 141 = .ok (.iload_n 1, 1) := by decide +kernel
theorem dX5_event_142 : decode cX5_event 142 = .ok (.iconst 1, 1) := by decide +kernel
theorem dX5_event_143 : decode cX5_event 143 = .ok (.bastore, 1) := by decide +kernel
theorem dX5_event_144 : decode cX5_event 144 = .ok (.aload_n 0, 1) := by decide +kernel
theorem dX5_event_145 : decode cX5_event 145 = .ok (.getfield 59, 3) := by decide +kernel
theorem dX5_event_148 : decode cX5_event 148 = .ok (.iload_n 1, 1) := by decide +kernel
theorem dX5_event_149 : decode cX5_event 149 = .ok (.dup2, 1) := by decide +kernel
theorem dX5_event_150 : decode cX5_event 150 = .ok (.iaload, 1) := by decide +kernel
theorem dX5_event_151 : decode cX5_event 151 = .ok (.iconst 1, 1) := by decide +kernel
theorem dX5_event_152 : decode cX5_event 152 = .ok (.iadd, 1) := by decide +kernel
theorem dX5_event_153 : decode cX5_event 153 = .ok (.iastore, 1) := by decide +kernel
theorem dX5_event_154 : decode cX5_event 154 = .ok (.aload_n 0, 1) := by decide +kernel
theorem dX5_event_155 : decode cX5_event 155 = .ok (.getfield 13, 3) := by decide +kernel
theorem dX5_event_158 : decode cX5_event 158 = .ok (.iload_n 1, 1) := by decide +kernel
theorem dX5_event_159 : decode cX5_event 159 = .ok (.iaload, 1) := by decide +kernel
theorem dX5_event_160 : decode cX5_event 160 = .ok (.ifCond .le 38, 3) := by decide +kernel
theorem dX5_event_163 : decode cX5_event 163 = .ok (.aload_n 0, 1) := by decide +kernel
theorem dX5_event_164 : decode cX5_event 164 = .ok (.getfield 98, 3) := by decide +kernel
theorem dX5_event_167 : decode cX5_event 167 = .ok (.aload_n 0, 1) := by decide +kernel
theorem dX5_event_168 : decode cX5_event 168 = .ok (.getfield 152, 3) := by decide +kernel
theorem dX5_event_171 : decode cX5_event 171 = .ok (.iload_n 1, 1) := by decide +kernel
theorem dX5_event_172 : decode cX5_event 172 = .ok (.iastore, 1) := by decide +kernel
theorem dX5_event_173 : decode cX5_event 173 = .ok (.aload_n 0, 1) := by decide +kernel
theorem dX5_event_174 : decode cX5_event 174 = .ok (.getfield 101, 3) := by decide +kernel
theorem dX5_event_177 : decode cX5_event 177 = .ok (.aload_n 0, 1) := by decide +kernel
theorem dX5_event_178 : decode cX5_event 178 = .ok (.getfield 152, 3) := by decide +kernel
theorem dX5_event_181 : decode cX5_event 181 = .ok (.aload_n 0, 1) := by decide +kernel
theorem dX5_event_182 : decode cX5_event 182 = .ok (.getfield 13, 3) := by decide +kernel
theorem dX5_event_185 : decode cX5_event 185 = .ok (.iload_n 1, 1) := by decide +kernel
theorem dX5_event_186 : decode cX5_event 186 = .ok (.iaload, 1) := by decide +kernel
theorem dX5_event_187 : decode cX5_event 187 = .ok (.iastore, 1) := by decide +kernel
theorem dX5_event_188 : decode cX5_event 188 = .ok (.aload_n 0, 1) := by decide +kernel
theorem dX5_event_189 : decode cX5_event 189 = .ok (.dup, 1) := by decide +kernel
theorem dX5_event_190 : decode cX5_event 190 = .ok (.getfield 152, 3) := by decide +kernel
theorem dX5_event_193 : decode cX5_event 193 = .ok (.iconst 1, 1) := by decide +kernel
theorem dX5_event_194 : decode cX5_event 194 = .ok (.iadd, 1) := by decide +kernel
theorem dX5_event_195 : decode cX5_event 195 = .ok (.putfield 152, 3) := by decide +kernel
theorem dX5_event_198 : decode cX5_event 198 = .ok (.iconst 1, 1) := by decide +kernel
theorem dX5_event_199 : decode cX5_event 199 = .ok (.ireturn, 1) := by decide +kernel
theorem dX5_runTop_0 : decode cX5_runTop 0 = .ok (.aload_n 0, 1) := by decide +kernel
theorem dX5_runTop_1 : decode cX5_runTop 1 = .ok (.getfield 98, 3) := by decide +kernel
theorem dX5_runTop_4 : decode cX5_runTop 4 = .ok (.iconst 0, 1) := by decide +kernel
theorem dX5_runTop_5 : decode cX5_runTop 5 = .ok (.iaload, 1) := by decide +kernel
theorem dX5_runTop_6 : decode cX5_runTop 6 = .ok (.istore_n 1, 1) := by decide +kernel
theorem dX5_runTop_7 : decode cX5_runTop 7 = .ok (.aload_n 0, 1) := by decide +kernel
theorem dX5_runTop_8 : decode cX5_runTop 8 = .ok (.getfield 101, 3) := by decide +kernel
theorem dX5_runTop_11 : decode cX5_runTop 11 = .ok (.iconst 0, 1) := by decide +kernel
theorem dX5_runTop_12 : decode cX5_runTop 12 = .ok (.dup2, 1) := by decide +kernel
theorem dX5_runTop_13 : decode cX5_runTop 13 = .ok (.iaload, 1) := by decide +kernel
theorem dX5_runTop_14 : decode cX5_runTop 14 = .ok (.iconst 1, 1) := by decide +kernel
theorem dX5_runTop_15 : decode cX5_runTop 15 = .ok (.isub, 1) := by decide +kernel
theorem dX5_runTop_16 : decode cX5_runTop 16 = .ok (.iastore, 1) := by decide +kernel
theorem dX5_runTop_17 : decode cX5_runTop 17 = .ok (.aload_n 0, 1) := by decide +kernel
theorem dX5_runTop_18 : decode cX5_runTop 18 = .ok (.getfield 101, 3) := by decide +kernel
theorem dX5_runTop_21 : decode cX5_runTop 21 = .ok (.iconst 0, 1) := by decide +kernel
theorem dX5_runTop_22 : decode cX5_runTop 22 = .ok (.iaload, 1) := by decide +kernel
theorem dX5_runTop_23 : decode cX5_runTop 23 = .ok (.ifCond .ne 57, 3) := by decide +kernel
theorem dX5_runTop_26 : decode cX5_runTop 26 = .ok (.aload_n 0, 1) := by decide +kernel
theorem dX5_runTop_27 : decode cX5_runTop 27 = .ok (.dup, 1) := by decide +kernel
theorem dX5_runTop_28 : decode cX5_runTop 28 = .ok (.getfield 152, 3) := by decide +kernel
theorem dX5_runTop_31 : decode cX5_runTop 31 = .ok (.iconst 1, 1) := by decide +kernel
theorem dX5_runTop_32 : decode cX5_runTop 32 = .ok (.isub, 1) := by decide +kernel
theorem dX5_runTop_33 : decode cX5_runTop 33 = .ok (.putfield 152, 3) := by decide +kernel
theorem dX5_runTop_36 : decode cX5_runTop 36 = .ok (.iconst 0, 1) := by decide +kernel
theorem dX5_runTop_37 : decode cX5_runTop 37 = .ok (.istore_n 2, 1) := by decide +kernel
theorem dX5_runTop_38 : decode cX5_runTop 38 = .ok (.iload_n 2, 1) := by decide +kernel
theorem dX5_runTop_39 : decode cX5_runTop 39 = .ok (.aload_n 0, 1) := by decide +kernel
theorem dX5_runTop_40 : decode cX5_runTop 40 = .ok (.getfield 152, 3) := by decide +kernel
theorem dX5_runTop_43 : decode cX5_runTop 43 = .ok (.if_icmp .ge 37, 3) := by decide +kernel
theorem dX5_runTop_46 : decode cX5_runTop 46 = .ok (.aload_n 0, 1) := by decide +kernel
theorem dX5_runTop_47 : decode cX5_runTop 47 = .ok (.getfield 98, 3) := by decide +kernel
theorem dX5_runTop_50 : decode cX5_runTop 50 = .ok (.iload_n 2, 1) := by decide +kernel
theorem dX5_runTop_51 : decode cX5_runTop 51 = .ok (.aload_n 0, 1) := by decide +kernel
theorem dX5_runTop_52 : decode cX5_runTop 52 = .ok (.getfield 98, 3) := by decide +kernel
theorem dX5_runTop_55 : decode cX5_runTop 55 = .ok (.iload_n 2, 1) := by decide +kernel
theorem dX5_runTop_56 : decode cX5_runTop 56 = .ok (.iconst 1, 1) := by decide +kernel
theorem dX5_runTop_57 : decode cX5_runTop 57 = .ok (.iadd, 1) := by decide +kernel
theorem dX5_runTop_58 : decode cX5_runTop 58 = .ok (.iaload, 1) := by decide +kernel
theorem dX5_runTop_59 : decode cX5_runTop 59 = .ok (.iastore, 1) := by decide +kernel
theorem dX5_runTop_60 : decode cX5_runTop 60 = .ok (.aload_n 0, 1) := by decide +kernel
theorem dX5_runTop_61 : decode cX5_runTop 61 = .ok (.getfield 101, 3) := by decide +kernel
theorem dX5_runTop_64 : decode cX5_runTop 64 = .ok (.iload_n 2, 1) := by decide +kernel
theorem dX5_runTop_65 : decode cX5_runTop 65 = .ok (.aload_n 0, 1) := by decide +kernel
theorem dX5_runTop_66 : decode cX5_runTop 66 = .ok (.getfield 101, 3) := by decide +kernel
theorem dX5_runTop_69 : decode cX5_runTop 69 = .ok (.iload_n 2, 1) := by decide +kernel
theorem dX5_runTop_70 : decode cX5_runTop 70 = .ok (.iconst 1, 1) := by decide +kernel
theorem dX5_runTop_71 : decode cX5_runTop 71 = .ok (.iadd, 1) := by decide +kernel
theorem dX5_runTop_72 : decode cX5_runTop 72 = .ok (.iaload, 1) := by decide +kernel
theorem dX5_runTop_73 : decode cX5_runTop 73 = .ok (.iastore, 1) := by decide +kernel
theorem dX5_runTop_74 : decode cX5_runTop 74 = .ok (.iinc 2 1, 3) := by decide +kernel
theorem dX5_runTop_77 : decode cX5_runTop 77 = .ok (.goto (-39), 3) := by decide +kernel
theorem dX5_runTop_80 : decode cX5_runTop 80 = .ok (.bipush 10, 2) := by decide +kernel
theorem dX5_runTop_82 : decode cX5_runTop 82 = .ok (.iload_n 1, 1) := by decide +kernel
theorem dX5_runTop_83 : decode cX5_runTop 83 = .ok (.iadd, 1) := by decide +kernel
theorem dX5_runTop_84 : decode cX5_runTop 84 = .ok (.ireturn, 1) := by decide +kernel
theorem dX5_runHandler_0 : decode cX5_runHandler 0 = .ok (.aload_n 0, 1) := by decide +kernel
theorem dX5_runHandler_1 : decode cX5_runHandler 1 = .ok (.iload_n 1, 1) := by decide +kernel
theorem dX5_runHandler_2 : decode cX5_runHandler 2 = .ok (.invokevirtual 111, 3) := by decide +kernel
theorem dX5_runHandler_5 : decode cX5_runHandler 5 = .ok (.istore_n 2, 1) := by decide +kernel
theorem dX5_runHandler_6 : decode cX5_runHandler 6 = .ok (.aload_n 0, 1) := by decide +kernel
theorem dX5_runHandler_7 : decode cX5_runHandler 7 = .ok (.getfield 44, 3) := by decide +kernel
theorem dX5_runHandler_10 : decode cX5_runHandler 10 = .ok (.bipush 30, 2) := by decide +kernel
theorem dX5_runHandler_12 : decode cX5_runHandler 12 = .ok (.iload_n 1, 1) := by decide +kernel
theorem dX5_runHandler_13 : decode cX5_runHandler 13 = .ok (.imul, 1) := by decide +kernel
theorem dX5_runHandler_14 : decode cX5_runHandler 14 = .ok (.iaload, 1) := by decide +kernel
theorem dX5_runHandler_15 : decode cX5_runHandler 15 = .ok (.aload_n 0, 1) := by decide +kernel
theorem dX5_runHandler_16 : decode cX5_runHandler 16 = .ok (.getfield 41, 3) := by decide +kernel
theorem dX5_runHandler_19 : decode cX5_runHandler 19 = .ok (.iload_n 1, 1) := by decide +kernel
theorem dX5_runHandler_20 : decode cX5_runHandler 20 = .ok (.iaload, 1) := by decide +kernel
theorem dX5_runHandler_21 : decode cX5_runHandler 21 = .ok (.if_icmp .le 15, 3) := by decide +kernel
theorem dX5_runHandler_24 : decode cX5_runHandler 24 = .ok (.aload_n 0, 1) := by decide +kernel
theorem dX5_runHandler_25 : decode cX5_runHandler 25 = .ok (.getfield 44, 3) := by decide +kernel
theorem dX5_runHandler_28 : decode cX5_runHandler 28 = .ok (.bipush 30, 2) := by decide +kernel
theorem dX5_runHandler_30 : decode cX5_runHandler 30 = .ok (.iload_n 1, 1) := by decide +kernel
theorem dX5_runHandler_31 : decode cX5_runHandler 31 = .ok (.imul, 1) := by decide +kernel
theorem dX5_runHandler_32 : decode cX5_runHandler 32 = .ok (.iaload, 1) := by decide +kernel
theorem dX5_runHandler_33 : decode cX5_runHandler 33 = .ok (.goto 9, 3) := by decide +kernel
theorem dX5_runHandler_36 : decode cX5_runHandler 36 = .ok (.aload_n 0, 1) := by decide +kernel
theorem dX5_runHandler_37 : decode cX5_runHandler 37 = .ok (.getfield 41, 3) := by decide +kernel
theorem dX5_runHandler_40 : decode cX5_runHandler 40 = .ok (.iload_n 1, 1) := by decide +kernel
theorem dX5_runHandler_41 : decode cX5_runHandler 41 = .ok (.iaload, 1) := by decide +kernel
theorem dX5_runHandler_42 : decode cX5_runHandler 42 = .ok (.istore_n 3, 1) := by decide +kernel
theorem dX5_runHandler_43 : decode cX5_runHandler 43 = .ok (.bipush 30, 2) := by decide +kernel
theorem dX5_runHandler_45 : decode cX5_runHandler 45 = .ok (.iload_n 1, 1) := by decide +kernel
theorem dX5_runHandler_46 : decode cX5_runHandler 46 = .ok (.imul, 1) := by decide +kernel
theorem dX5_runHandler_47 : decode cX5_runHandler 47 = .ok (.iconst 1, 1) := by decide +kernel
theorem dX5_runHandler_48 : decode cX5_runHandler 48 = .ok (.iadd, 1) := by decide +kernel
theorem dX5_runHandler_49 : decode cX5_runHandler 49 = .ok (.istore 4, 2) := by decide +kernel
theorem dX5_runHandler_51 : decode cX5_runHandler 51 = .ok (.iload 4, 2) := by decide +kernel
theorem dX5_runHandler_53 : decode cX5_runHandler 53 = .ok (.bipush 30, 2) := by decide +kernel
theorem dX5_runHandler_55 : decode cX5_runHandler 55 = .ok (.iload_n 1, 1) := by decide +kernel
theorem dX5_runHandler_56 : decode cX5_runHandler 56 = .ok (.imul, 1) := by decide +kernel
theorem dX5_runHandler_57 : decode cX5_runHandler 57 = .ok (.iload_n 2, 1) := by decide +kernel
theorem dX5_runHandler_58 : decode cX5_runHandler 58 = .ok (.iadd, 1) := by decide +kernel
theorem dX5_runHandler_59 : decode cX5_runHandler 59 = .ok (.if_icmp .ge 25, 3) := by decide +kernel
theorem dX5_runHandler_62 : decode cX5_runHandler 62 = .ok (.aload_n 0, 1) := by decide +kernel
theorem dX5_runHandler_63 : decode cX5_runHandler 63 = .ok (.getfield 44, 3) := by decide +kernel
theorem dX5_runHandler_66 : decode cX5_runHandler 66 = .ok (.iload 4, 2) := by decide +kernel
theorem dX5_runHandler_68 : decode cX5_runHandler 68 = .ok (.iconst 1, 1) := by decide +kernel
theorem dX5_runHandler_69 : decode cX5_runHandler 69 = .ok (.isub, 1) := by decide +kernel
theorem dX5_runHandler_70 : decode cX5_runHandler 70 = .ok (.aload_n 0, 1) := by decide +kernel
theorem dX5_runHandler_71 : decode cX5_runHandler 71 = .ok (.getfield 44, 3) := by decide +kernel
theorem dX5_runHandler_74 : decode cX5_runHandler 74 = .ok (.iload 4, 2) := by decide +kernel
theorem dX5_runHandler_76 : decode cX5_runHandler 76 = .ok (.iaload, 1) := by decide +kernel
theorem dX5_runHandler_77 : decode cX5_runHandler 77 = .ok (.iastore, 1) := by decide +kernel
theorem dX5_runHandler_78 : decode cX5_runHandler 78 = .ok (.iinc 4 1, 3) := by decide +kernel
theorem dX5_runHandler_81 : decode cX5_runHandler 81 = .ok (.goto (-30), 3) := by decide +kernel
theorem dX5_runHandler_84 : decode cX5_runHandler 84 = .ok (.aload_n 0, 1) := by decide +kernel
theorem dX5_runHandler_85 : decode cX5_runHandler 85 = .ok (.getfield 115, 3) := by decide +kernel
theorem dX5_runHandler_88 : decode cX5_runHandler 88 = .ok (.iload_n 3, 1) := by decide +kernel
theorem dX5_runHandler_89 : decode cX5_runHandler 89 = .ok (.isub, 1) := by decide +kernel
theorem dX5_runHandler_90 : decode cX5_runHandler 90 = .ok (.aload_n 0, 1) := by decide +kernel
theorem dX5_runHandler_91 : decode cX5_runHandler 91 = .ok (.getfield 26, 3) := by decide +kernel
theorem dX5_runHandler_94 : decode cX5_runHandler 94 = .ok (.iload_n 1, 1) := by decide +kernel
theorem dX5_runHandler_95 : decode cX5_runHandler 95 = .ok (.iaload, 1) := by decide +kernel
theorem dX5_runHandler_96 : decode cX5_runHandler 96 = .ok (.if_icmp .lt 10, 3) := by decide +kernel
theorem dX5_runHandler_99 : decode cX5_runHandler 99 = .ok (.aload_n 0, 1) := by decide +kernel
theorem dX5_runHandler_100 : decode cX5_runHandler 100 = .ok (.getfield 115, 3) := by decide +kernel
theorem dX5_runHandler_103 : decode cX5_runHandler 103 = .ok (.goto 4, 3) := by decide +kernel
theorem dX5_runHandler_106 : decode cX5_runHandler 106 = .ok (.iload_n 3, 1) := by decide +kernel
theorem dX5_runHandler_107 : decode cX5_runHandler 107 = .ok (.istore_n 3, 1) := by decide +kernel
theorem dX5_runHandler_108 : decode cX5_runHandler 108 = .ok (.aload_n 0, 1) := by decide +kernel
theorem dX5_runHandler_109 : decode cX5_runHandler 109 = .ok (.iload_n 1, 1) := by decide +kernel
theorem dX5_runHandler_110 : decode cX5_runHandler 110 = .ok (.iload_n 3, 1) := by decide +kernel
theorem dX5_runHandler_111 : decode cX5_runHandler 111 = .ok (.aload_n 0, 1) := by decide +kernel
theorem dX5_runHandler_112 : decode cX5_runHandler 112 = .ok (.getfield 26, 3) := by decide +kernel
theorem dX5_runHandler_115 : decode cX5_runHandler 115 = .ok (.iload_n 1, 1) := by decide +kernel
theorem dX5_runHandler_116 : decode cX5_runHandler 116 = .ok (.iaload, 1) := by decide +kernel
theorem dX5_runHandler_117 : decode cX5_runHandler 117 = .ok (.iadd, 1) := by decide +kernel
theorem dX5_runHandler_118 : decode cX5_runHandler 118 = .ok (.invokevirtual 155, 3) := by decide +kernel
theorem dX5_runHandler_121 : decode cX5_runHandler 121 = .ok (.aload_n 0, 1) := by decide +kernel
theorem dX5_runHandler_122 : decode cX5_runHandler 122 = .ok (.getfield 38, 3) := by decide +kernel
theorem dX5_runHandler_125 : decode cX5_runHandler 125 = .ok (.iload_n 1, 1) := by decide +kernel
theorem dX5_runHandler_126 : decode cX5_runHandler 126 = .ok (.dup2, 1) := by decide +kernel
theorem dX5_runHandler_127 : decode cX5_runHandler 127 = .ok (.iaload, 1) := by decide +kernel
theorem dX5_runHandler_128 : decode cX5_runHandler 128 = .ok (.iconst 1, 1) := by decide +kernel
theorem dX5_runHandler_129 : decode cX5_runHandler 129 = .ok (.iadd, 1) := by decide +kernel
theorem dX5_runHandler_130 : decode cX5_runHandler 130 = .ok (.iastore, 1) := by decide +kernel
theorem dX5_runHandler_131 : decode cX5_runHandler 131 = .ok (.aload_n 0, 1) := by decide +kernel
theorem dX5_runHandler_132 : decode cX5_runHandler 132 = .ok (.getfield 38, 3) := by decide +kernel
theorem dX5_runHandler_135 : decode cX5_runHandler 135 = .ok (.iload_n 1, 1) := by decide +kernel
theorem dX5_runHandler_136 : decode cX5_runHandler 136 = .ok (.iaload, 1) := by decide +kernel
theorem dX5_runHandler_137 : decode cX5_runHandler 137 = .ok (.aload_n 0, 1) := by decide +kernel
theorem dX5_runHandler_138 : decode cX5_runHandler 138 = .ok (.getfield 17, 3) := by decide +kernel
theorem dX5_runHandler_141 : decode cX5_runHandler 141 = .ok (.iload_n 1, 1) := by decide +kernel
theorem dX5_runHandler_142 : decode cX5_runHandler 142 = .ok (.iaload, 1) := by decide +kernel
theorem dX5_runHandler_143 : decode cX5_runHandler 143 = .ok (.if_icmp .ne 176, 3) := by decide +kernel
theorem dX5_runHandler_146 : decode cX5_runHandler 146 = .ok (.aload_n 0, 1) := by decide +kernel
theorem dX5_runHandler_147 : decode cX5_runHandler 147 = .ok (.getfield 38, 3) := by decide +kernel
theorem dX5_runHandler_150 : decode cX5_runHandler 150 = .ok (.iload_n 1, 1) := by decide +kernel
theorem dX5_runHandler_151 : decode cX5_runHandler 151 = .ok (.iconst 0, 1) := by decide +kernel
theorem dX5_runHandler_152 : decode cX5_runHandler 152 = .ok (.iastore, 1) := by decide +kernel
theorem dX5_runHandler_153 : decode cX5_runHandler 153 = .ok (.aload_n 0, 1) := by decide +kernel
theorem dX5_runHandler_154 : decode cX5_runHandler 154 = .ok (.getfield 115, 3) := by decide +kernel
theorem dX5_runHandler_157 : decode cX5_runHandler 157 = .ok (.iconst 1, 1) := by decide +kernel
theorem dX5_runHandler_158 : decode cX5_runHandler 158 = .ok (.iadd, 1) := by decide +kernel
theorem dX5_runHandler_159 : decode cX5_runHandler 159 = .ok (.aload_n 0, 1) := by decide +kernel
theorem dX5_runHandler_160 : decode cX5_runHandler 160 = .ok (.getfield 35, 3) := by decide +kernel
theorem dX5_runHandler_163 : decode cX5_runHandler 163 = .ok (.bipush 32, 2) := by decide +kernel
theorem dX5_runHandler_165 : decode cX5_runHandler 165 = .ok (.iload_n 1, 1) := by decide +kernel
theorem dX5_runHandler_166 : decode cX5_runHandler 166 = .ok (.imul, 1) := by decide +kernel
theorem dX5_runHandler_167 : decode cX5_runHandler 167 = .ok (.iaload, 1) := by decide +kernel
theorem dX5_runHandler_168 : decode cX5_runHandler 168 = .ok (.isub, 1) := by decide +kernel
theorem dX5_runHandler_169 : decode cX5_runHandler 169 = .ok (.istore 4, 2) := by decide +kernel
theorem dX5_runHandler_171 : decode cX5_runHandler 171 = .ok (.aload_n 0, 1) := by decide +kernel
theorem dX5_runHandler_172 : decode cX5_runHandler 172 = .ok (.getfield 71, 3) := by decide +kernel
theorem dX5_runHandler_175 : decode cX5_runHandler 175 = .ok (.iload_n 1, 1) := by decide +kernel
theorem dX5_runHandler_176 : decode cX5_runHandler 176 = .ok (.iload 4, 2) := by decide +kernel
theorem dX5_runHandler_178 : decode cX5_runHandler 178 = .ok (.aload_n 0, 1) := by decide +kernel
theorem dX5_runHandler_179 : decode cX5_runHandler 179 = .ok (.getfield 71, 3) := by decide +kernel
theorem dX5_runHandler_182 : decode cX5_runHandler 182 = .ok (.iload_n 1, 1) := by decide +kernel
theorem dX5_runHandler_183 : decode cX5_runHandler 183 = .ok (.iaload, 1) := by decide +kernel
theorem dX5_runHandler_184 : decode cX5_runHandler 184 = .ok (.if_icmp .le 8, 3) := by decide +kernel
theorem dX5_runHandler_187 : decode cX5_runHandler 187 = .ok (.iload 4, 2) := by decide +kernel
theorem dX5_runHandler_189 : decode cX5_runHandler 189 = .ok (.goto 9, 3) := by decide +kernel
theorem dX5_runHandler_192 : decode cX5_runHandler 192 = .ok (.aload_n 0, 1) := by decide +kernel
theorem dX5_runHandler_193 : decode cX5_runHandler 193 = .ok (.getfield 71, 3) := by decide +kernel
theorem dX5_runHandler_196 : decode cX5_runHandler 196 = .ok (.iload_n 1, 1) := by decide +kernel
theorem dX5_runHandler_197 : decode cX5_runHandler 197 = .ok (.iaload, 1) := by decide +kernel
theorem dX5_runHandler_198 : decode cX5_runHandler 198 = .ok (.iastore, 1) := by decide +kernel
theorem dX5_runHandler_199 : decode cX5_runHandler 199 = .ok (.aload_n 0, 1) := by decide +kernel
theorem dX5_runHandler_200 : decode cX5_runHandler 200 = .ok (.getfield 32, 3) := by decide +kernel
theorem dX5_runHandler_203 : decode cX5_runHandler 203 = .ok (.iload_n 1, 1) := by decide +kernel
theorem dX5_runHandler_204 : decode cX5_runHandler 204 = .ok (.dup2, 1) := by decide +kernel
theorem dX5_runHandler_205 : decode cX5_runHandler 205 = .ok (.iaload, 1) := by decide +kernel
theorem dX5_runHandler_206 : decode cX5_runHandler 206 = .ok (.iconst 1, 1) := by decide +kernel
theorem dX5_runHandler_207 : decode cX5_runHandler 207 = .ok (.isub, 1) := by decide +kernel
theorem dX5_runHandler_208 : decode cX5_runHandler 208 = .ok (.iastore, 1) := by decide +kernel
theorem dX5_runHandler_209 : decode cX5_runHandler 209 = .ok (.bipush 32, 2) := by decide +kernel
theorem dX5_runHandler_211 : decode cX5_runHandler 211 = .ok (.iload_n 1, 1) := by decide +kernel
theorem dX5_runHandler_212 : decode cX5_runHandler 212 = .ok (.imul, 1) := by decide +kernel
theorem dX5_runHandler_213 : decode cX5_runHandler 213 = .ok (.istore 5, 2) := by decide +kernel
theorem dX5_runHandler_215 : decode cX5_runHandler 215 = .ok (.iload 5, 2) := by decide +kernel
theorem dX5_runHandler_217 : decode cX5_runHandler 217 = .ok (.bipush 32, 2) := by decide +kernel
theorem dX5_runHandler_219 : decode cX5_runHandler 219 = .ok (.iload_n 1, 1) := by decide +kernel
theorem dX5_runHandler_220 : decode cX5_runHandler 220 = .ok (.imul, 1) := by decide +kernel
theorem dX5_runHandler_221 : decode cX5_runHandler 221 = .ok (.aload_n 0, 1) := by decide +kernel
theorem dX5_runHandler_222 : decode cX5_runHandler 222 = .ok (.getfield 32, 3) := by decide +kernel
theorem dX5_runHandler_225 : decode cX5_runHandler 225 = .ok (.iload_n 1, 1) := by decide +kernel
theorem dX5_runHandler_226 : decode cX5_runHandler 226 = .ok (.iaload, 1) := by decide +kernel
theorem dX5_runHandler_227 : decode cX5_runHandler 227 = .ok (.iadd, 1) := by decide +kernel
theorem dX5_runHandler_228 : decode cX5_runHandler 228 = .ok (.if_icmp .ge 25, 3) := by decide +kernel
theorem dX5_runHandler_231 : decode cX5_runHandler 231 = .ok (.aload_n 0, 1) := by decide +kernel
theorem dX5_runHandler_232 : decode cX5_runHandler 232 = .ok (.getfield 35, 3) := by decide +kernel
theorem dX5_runHandler_235 : decode cX5_runHandler 235 = .ok (.iload 5, 2) := by decide +kernel
theorem dX5_runHandler_237 : decode cX5_runHandler 237 = .ok (.aload_n 0, 1) := by decide +kernel
theorem dX5_runHandler_238 : decode cX5_runHandler 238 = .ok (.getfield 35, 3) := by decide +kernel
theorem dX5_runHandler_241 : decode cX5_runHandler 241 = .ok (.iload 5, 2) := by decide +kernel
theorem dX5_runHandler_243 : decode cX5_runHandler 243 = .ok (.iconst 1, 1) := by decide +kernel
theorem dX5_runHandler_244 : decode cX5_runHandler 244 = .ok (.iadd, 1) := by decide +kernel
theorem dX5_runHandler_245 : decode cX5_runHandler 245 = .ok (.iaload, 1) := by decide +kernel
theorem dX5_runHandler_246 : decode cX5_runHandler 246 = .ok (.iastore, 1) := by decide +kernel
theorem dX5_runHandler_247 : decode cX5_runHandler 247 = .ok (.iinc 5 1, 3) := by decide +kernel
theorem dX5_runHandler_250 : decode cX5_runHandler 250 = .ok (.goto (-35), 3) := by decide +kernel
theorem dX5_runHandler_253 : decode cX5_runHandler 253 = .ok (.aload_n 0, 1) := by decide +kernel
theorem dX5_runHandler_254 : decode cX5_runHandler 254 = .ok (.getfield 65, 3) := by decide +kernel
theorem dX5_runHandler_257 : decode cX5_runHandler 257 = .ok (.iload_n 1, 1) := by decide +kernel
theorem dX5_runHandler_258 : decode cX5_runHandler 258 = .ok (.dup2, 1) := by decide +kernel
theorem dX5_runHandler_259 : decode cX5_runHandler 259 = .ok (.iaload, 1) := by decide +kernel
theorem dX5_runHandler_260 : decode cX5_runHandler 260 = .ok (.iconst 1, 1) := by decide +kernel
theorem dX5_runHandler_261 : decode cX5_runHandler 261 = .ok (.iadd, 1) := by decide +kernel
theorem dX5_runHandler_262 : decode cX5_runHandler 262 = .ok (.iastore, 1) := by decide +kernel
theorem dX5_runHandler_263 : decode cX5_runHandler 263 = .ok (.aload_n 0, 1) := by decide +kernel
theorem dX5_runHandler_264 : decode cX5_runHandler 264 = .ok (.getfield 56, 3) := by decide +kernel
theorem dX5_runHandler_267 : decode cX5_runHandler 267 = .ok (.iload_n 1, 1) := by decide +kernel
theorem dX5_runHandler_268 : decode cX5_runHandler 268 = .ok (.aload_n 0, 1) := by decide +kernel
theorem dX5_runHandler_269 : decode cX5_runHandler 269 = .ok (.getfield 56, 3) := by decide +kernel
theorem dX5_runHandler_272 : decode cX5_runHandler 272 = .ok (.iload_n 1, 1) := by decide +kernel
theorem dX5_runHandler_273 : decode cX5_runHandler 273 = .ok (.baload, 1) := by decide +kernel
theorem dX5_runHandler_274 : decode cX5_runHandler 274 = .ok (.ifCond .eq 18, 3) := by decide +kernel
theorem dX5_runHandler_277 : decode cX5_runHandler 277 = .ok (.aload_n 0, 1) := by decide +kernel
theorem dX5_runHandler_278 : decode cX5_runHandler 278 = .ok (.getfield 32, 3) := by decide +kernel
theorem dX5_runHandler_281 : decode cX5_runHandler 281 = .ok (.iload_n 1, 1) := by decide +kernel
theorem dX5_runHandler_282 : decode cX5_runHandler 282 = .ok (.iaload, 1) := by decide +kernel
theorem dX5_runHandler_283 : decode cX5_runHandler 283 = .ok (.bipush 8, 2) := by decide +kernel
theorem dX5_runHandler_285 : decode cX5_runHandler 285 = .ok (.if_icmp .le 7, 3) := by decide +kernel
theorem dX5_runHandler_288 : decode cX5_runHandler 288 = .ok (.iconst 1, 1) := by decide +kernel
theorem dX5_runHandler_289 : decode cX5_runHandler 289 = .ok (.goto 4, 3) := by decide +kernel
theorem dX5_runHandler_292 : decode cX5_runHandler 292 = .ok (.iconst 0, 1) := by decide +kernel
theorem dX5_runHandler_293 : decode cX5_runHandler 293 = .ok (.bastore, 1) := by decide +kernel
theorem dX5_runHandler_294 : decode cX5_runHandler 294 = .ok (.aload_n 0, 1) := by decide +kernel
theorem dX5_runHandler_295 : decode cX5_runHandler 295 = .ok (.getfield 41, 3) := by decide +kernel
theorem dX5_runHandler_298 : decode cX5_runHandler 298 = .ok (.iload_n 1, 1) := by decide +kernel
theorem dX5_runHandler_299 : decode cX5_runHandler 299 = .ok (.aload_n 0, 1) := by decide +kernel
theorem dX5_runHandler_300 : decode cX5_runHandler 300 = .ok (.getfield 32, 3) := by decide +kernel
theorem dX5_runHandler_303 : decode cX5_runHandler 303 = .ok (.iload_n 1, 1) := by decide +kernel
theorem dX5_runHandler_304 : decode cX5_runHandler 304 = .ok (.iaload, 1) := by decide +kernel
theorem dX5_runHandler_305 : decode cX5_runHandler 305 = .ok (.ifCond .ne 7, 3) := by decide +kernel
theorem dX5_runHandler_308 : decode cX5_runHandler 308 = .ok (.iconst (-1), 1) := by decide +kernel
theorem dX5_runHandler_309 : decode cX5_runHandler 309 = .ok (.goto 9, 3) := by decide +kernel
theorem dX5_runHandler_312 : decode cX5_runHandler 312 = .ok (.aload_n 0, 1) := by decide +kernel
theorem dX5_runHandler_313 : decode cX5_runHandler 313 = .ok (.getfield 41, 3) := by decide +kernel
theorem dX5_runHandler_316 : decode cX5_runHandler 316 = .ok (.iload_n 1, 1) := by decide +kernel
theorem dX5_runHandler_317 : decode cX5_runHandler 317 = .ok (.iaload, 1) := by decide +kernel
theorem dX5_runHandler_318 : decode cX5_runHandler 318 = .ok (.iastore, 1) := by decide +kernel
theorem dX5_runHandler_319 : decode cX5_runHandler 319 = .ok (.return_, 1) := by decide +kernel
theorem dX5_runOne_0 : decode cX5_runOne 0 = .ok (.aload_n 0, 1) := by decide +kernel
theorem dX5_runOne_1 : decode cX5_runOne 1 = .ok (.getfield 152, 3) := by decide +kernel
theorem dX5_runOne_4 : decode cX5_runOne 4 = .ok (.ifCond .le 8, 3) := by decide +kernel
theorem dX5_runOne_7 : decode cX5_runOne 7 = .ok (.aload_n 0, 1) := by decide +kernel
theorem dX5_runOne_8 : decode cX5_runOne 8 = .ok (.invokevirtual 159, 3) := by decide +kernel
theorem dX5_runOne_11 : decode cX5_runOne 11 = .ok (.ireturn, 1) := by decide +kernel
theorem dX5_runOne_12 : decode cX5_runOne 12 = .ok (.iconst (-1), 1) := by decide +kernel
theorem dX5_runOne_13 : decode cX5_runOne 13 = .ok (.istore_n 1, 1) := by decide +kernel
theorem dX5_runOne_14 : decode cX5_runOne 14 = .ok (.iconst 0, 1) := by decide +kernel
theorem dX5_runOne_15 : decode cX5_runOne 15 = .ok (.istore_n 2, 1) := by decide +kernel
theorem dX5_runOne_16 : decode cX5_runOne 16 = .ok (.iload_n 2, 1) := by decide +kernel
theorem dX5_runOne_17 : decode cX5_runOne 17 = .ok (.bipush 6, 2) := by decide +kernel
theorem dX5_runOne_19 : decode cX5_runOne 19 = .ok (.if_icmp .ge 42, 3) := by decide +kernel
theorem dX5_runOne_22 : decode cX5_runOne 22 = .ok (.aload_n 0, 1) := by decide +kernel
theorem dX5_runOne_23 : decode cX5_runOne 23 = .ok (.iload_n 2, 1) := by decide +kernel
theorem dX5_runOne_24 : decode cX5_runOne 24 = .ok (.invokevirtual 163, 3) := by decide +kernel
theorem dX5_runOne_27 : decode cX5_runOne 27 = .ok (.ifCond .eq 26, 3) := by decide +kernel
theorem dX5_runOne_30 : decode cX5_runOne 30 = .ok (.iload_n 1, 1) := by decide +kernel
theorem dX5_runOne_31 : decode cX5_runOne 31 = .ok (.ifCond .lt 18, 3) := by decide +kernel
theorem dX5_runOne_34 : decode cX5_runOne 34 = .ok (.aload_n 0, 1) := by decide +kernel
theorem dX5_runOne_35 : decode cX5_runOne 35 = .ok (.getfield 29, 3) := by decide +kernel
theorem dX5_runOne_38 : decode cX5_runOne 38 = .ok (.iload_n 2, 1) := by decide +kernel
theorem dX5_runOne_39 : decode cX5_runOne 39 = .ok (.iaload, 1) := by decide +kernel
theorem dX5_runOne_40 : decode cX5_runOne 40 = .ok (.aload_n 0, 1) := by decide +kernel
theorem dX5_runOne_41 : decode cX5_runOne 41 = .ok (.getfield 29, 3) := by decide +kernel
theorem dX5_runOne_44 : decode cX5_runOne 44 = .ok (.iload_n 1, 1) := by decide +kernel
theorem dX5_runOne_45 : decode cX5_runOne 45 = .ok (.iaload, 1) := by decide +kernel
theorem dX5_runOne_46 : decode cX5_runOne 46 = .ok (.if_icmp .le 7, 3) := by decide +kernel
theorem dX5_runOne_49 : decode cX5_runOne 49 = .ok (.iload_n 2, 1) := by decide +kernel
theorem dX5_runOne_50 : decode cX5_runOne 50 = .ok (.goto 4, 3) := by decide +kernel
theorem dX5_runOne_53 : decode cX5_runOne 53 = .ok (.iload_n 1, 1) := by decide +kernel
theorem dX5_runOne_54 : decode cX5_runOne 54 = .ok (.istore_n 1, 1) := by decide +kernel
theorem dX5_runOne_55 : decode cX5_runOne 55 = .ok (.iinc 2 1, 3) := by decide +kernel
theorem dX5_runOne_58 : decode cX5_runOne 58 = .ok (.goto (-42), 3) := by decide +kernel
theorem dX5_runOne_61 : decode cX5_runOne 61 = .ok (.iload_n 1, 1) := by decide +kernel
theorem dX5_runOne_62 : decode cX5_runOne 62 = .ok (.ifCond .lt 13, 3) := by decide +kernel
theorem dX5_runOne_65 : decode cX5_runOne 65 = .ok (.aload_n 0, 1) := by decide +kernel
theorem dX5_runOne_66 : decode cX5_runOne 66 = .ok (.iload_n 1, 1) := by decide +kernel
theorem dX5_runOne_67 : decode cX5_runOne 67 = .ok (.invokevirtual 166, 3) := by decide +kernel
theorem dX5_runOne_70 : decode cX5_runOne 70 = .ok (.bipush 20, 2) := by decide +kernel
theorem dX5_runOne_72 : decode cX5_runOne 72 = .ok (.iload_n 1, 1) := by decide +kernel
theorem dX5_runOne_73 : decode cX5_runOne 73 = .ok (.iadd, 1) := by decide +kernel
theorem dX5_runOne_74 : decode cX5_runOne 74 = .ok (.ireturn, 1) := by decide +kernel
theorem dX5_runOne_75 : decode cX5_runOne 75 = .ok (.iconst 0, 1) := by decide +kernel
theorem dX5_runOne_76 : decode cX5_runOne 76 = .ok (.istore_n 2, 1) := by decide +kernel
theorem dX5_runOne_77 : decode cX5_runOne 77 = .ok (.iload_n 2, 1) := by decide +kernel
theorem dX5_runOne_78 : decode cX5_runOne 78 = .ok (.bipush 6, 2) := by decide +kernel
theorem dX5_runOne_80 : decode cX5_runOne 80 = .ok (.if_icmp .ge 52, 3) := by decide +kernel
theorem dX5_runOne_83 : decode cX5_runOne 83 = .ok (.aload_n 0, 1) := by decide +kernel
theorem dX5_runOne_84 : decode cX5_runOne 84 = .ok (.getfield 74, 3) := by decide +kernel
theorem dX5_runOne_87 : decode cX5_runOne 87 = .ok (.iload_n 2, 1) := by decide +kernel
theorem dX5_runOne_88 : decode cX5_runOne 88 = .ok (.baload, 1) := by decide +kernel
theorem dX5_runOne_89 : decode cX5_runOne 89 = .ok (.ifCond .eq 35, 3) := by decide +kernel
theorem dX5_runOne_92 : decode cX5_runOne 92 = .ok (.aload_n 0, 1) := by decide +kernel
theorem dX5_runOne_93 : decode cX5_runOne 93 = .ok (.getfield 89, 3) := by decide +kernel
theorem dX5_runOne_96 : decode cX5_runOne 96 = .ok (.iload_n 2, 1) := by decide +kernel
theorem dX5_runOne_97 : decode cX5_runOne 97 = .ok (.iaload, 1) := by decide +kernel
theorem dX5_runOne_98 : decode cX5_runOne 98 = .ok (.ifCond .le 26, 3) := by decide +kernel
theorem dX5_runOne_101 : decode cX5_runOne 101 = .ok (.iload_n 1, 1) := by decide +kernel
theorem dX5_runOne_102 : decode cX5_runOne 102 = .ok (.ifCond .lt 18, 3) := by decide +kernel
theorem dX5_runOne_105 : decode cX5_runOne 105 = .ok (.aload_n 0, 1) := by decide +kernel
theorem dX5_runOne_106 : decode cX5_runOne 106 = .ok (.getfield 83, 3) := by decide +kernel
theorem dX5_runOne_109 : decode cX5_runOne 109 = .ok (.iload_n 2, 1) := by decide +kernel
theorem dX5_runOne_110 : decode cX5_runOne 110 = .ok (.iaload, 1) := by decide +kernel
theorem dX5_runOne_111 : decode cX5_runOne 111 = .ok (.aload_n 0, 1) := by decide +kernel
theorem dX5_runOne_112 : decode cX5_runOne 112 = .ok (.getfield 83, 3) := by decide +kernel
theorem dX5_runOne_115 : decode cX5_runOne 115 = .ok (.iload_n 1, 1) := by decide +kernel
theorem dX5_runOne_116 : decode cX5_runOne 116 = .ok (.iaload, 1) := by decide +kernel
theorem dX5_runOne_117 : decode cX5_runOne 117 = .ok (.if_icmp .le 7, 3) := by decide +kernel
theorem dX5_runOne_120 : decode cX5_runOne 120 = .ok (.iload_n 2, 1) := by decide +kernel
theorem dX5_runOne_121 : decode cX5_runOne 121 = .ok (.goto 4, 3) := by decide +kernel
theorem dX5_runOne_124 : decode cX5_runOne 124 = .ok (.iload_n 1, 1) := by decide +kernel
theorem dX5_runOne_125 : decode cX5_runOne 125 = .ok (.istore_n 1, 1) := by decide +kernel
theorem dX5_runOne_126 : decode cX5_runOne 126 = .ok (.iinc 2 1, 3) := by decide +kernel
theorem dX5_runOne_129 : decode cX5_runOne 129 = .ok (.goto (-52), 3) := by decide +kernel
theorem dX5_runOne_132 : decode cX5_runOne 132 = .ok (.iload_n 1, 1) := by decide +kernel
theorem dX5_runOne_133 : decode cX5_runOne 133 = .ok (.ifCond .ge 5, 3) := by decide +kernel
theorem dX5_runOne_136 : decode cX5_runOne 136 = .ok (.iconst 0, 1) := by decide +kernel
theorem dX5_runOne_137 : decode cX5_runOne 137 = .ok (.ireturn, 1) := by decide +kernel
theorem dX5_runOne_138 : decode cX5_runOne 138 = .ok (.aload_n 0, 1) := by decide +kernel
theorem dX5_runOne_139 : decode cX5_runOne 139 = .ok (.getfield 89, 3) := by decide +kernel
theorem dX5_runOne_142 : decode cX5_runOne 142 = .ok (.iload_n 1, 1) := by decide +kernel
theorem dX5_runOne_143 : decode cX5_runOne 143 = .ok (.dup2, 1) := by decide +kernel
theorem dX5_runOne_144 : decode cX5_runOne 144 = .ok (.iaload, 1) := by decide +kernel
theorem dX5_runOne_145 : decode cX5_runOne 145 = .ok (.iconst 1, 1) := by decide +kernel
theorem dX5_runOne_146 : decode cX5_runOne 146 = .ok (.isub, 1) := by decide +kernel
theorem dX5_runOne_147 : decode cX5_runOne 147 = .ok (.iastore, 1) := by decide +kernel
theorem dX5_runOne_148 : decode cX5_runOne 148 = .ok (.aload_n 0, 1) := by decide +kernel
theorem dX5_runOne_149 : decode cX5_runOne 149 = .ok (.getfield 95, 3) := by decide +kernel
theorem dX5_runOne_152 : decode cX5_runOne 152 = .ok (.iload_n 1, 1) := by decide +kernel
theorem dX5_runOne_153 : decode cX5_runOne 153 = .ok (.aload_n 0, 1) := by decide +kernel
theorem dX5_runOne_154 : decode cX5_runOne 154 = .ok (.getfield 89, 3) := by decide +kernel
theorem dX5_runOne_157 : decode cX5_runOne 157 = .ok (.iload_n 1, 1) := by decide +kernel
theorem dX5_runOne_158 : decode cX5_runOne 158 = .ok (.iaload, 1) := by decide +kernel
theorem dX5_runOne_159 : decode cX5_runOne 159 = .ok (.ifCond .ne 14, 3) := by decide +kernel
theorem dX5_runOne_162 : decode cX5_runOne 162 = .ok (.aload_n 0, 1) := by decide +kernel
theorem dX5_runOne_163 : decode cX5_runOne 163 = .ok (.getfield 95, 3) := by decide +kernel
theorem dX5_runOne_166 : decode cX5_runOne 166 = .ok (.iload_n 1, 1) := by decide +kernel
theorem dX5_runOne_167 : decode cX5_runOne 167 = .ok (.iaload, 1) := by decide +kernel
theorem dX5_runOne_168 : decode cX5_runOne 168 = .ok (.iconst 1, 1) := by decide +kernel
theorem dX5_runOne_169 : decode cX5_runOne 169 = .ok (.iadd, 1) := by decide +kernel
theorem dX5_runOne_170 : decode cX5_runOne 170 = .ok (.goto 9, 3) := by decide +kernel
theorem dX5_runOne_173 : decode cX5_runOne 173 = .ok (.aload_n 0, 1) := by decide +kernel
theorem dX5_runOne_174 : decode cX5_runOne 174 = .ok (.getfield 95, 3) := by decide +kernel
theorem dX5_runOne_177 : decode cX5_runOne 177 = .ok (.iload_n 1, 1) := by decide +kernel
theorem dX5_runOne_178 : decode cX5_runOne 178 = .ok (.iaload, 1) := by decide +kernel
theorem dX5_runOne_179 : decode cX5_runOne 179 = .ok (.iastore, 1) := by decide +kernel
theorem dX5_runOne_180 : decode cX5_runOne 180 = .ok (.bipush 30, 2) := by decide +kernel
theorem dX5_runOne_182 : decode cX5_runOne 182 = .ok (.iload_n 1, 1) := by decide +kernel
theorem dX5_runOne_183 : decode cX5_runOne 183 = .ok (.iadd, 1) := by decide +kernel
theorem dX5_runOne_184 : decode cX5_runOne 184 = .ok (.ireturn, 1) := by decide +kernel
theorem dX5_pass_0 : decode cX5_pass 0 = .ok (.aload_n 0, 1) := by decide +kernel
theorem dX5_pass_1 : decode cX5_pass 1 = .ok (.invokevirtual 170, 3) := by decide +kernel
theorem dX5_pass_4 : decode cX5_pass 4 = .ok (.iconst 0, 1) := by decide +kernel
theorem dX5_pass_5 : decode cX5_pass 5 = .ok (.istore_n 1, 1) := by decide +kernel
theorem dX5_pass_6 : decode cX5_pass 6 = .ok (.iload_n 1, 1) := by decide +kernel
theorem dX5_pass_7 : decode cX5_pass 7 = .ok (.bipush 6, 2) := by decide +kernel
theorem dX5_pass_9 : decode cX5_pass 9 = .ok (.if_icmp .ge 83, 3) := by decide +kernel
theorem dX5_pass_12 : decode cX5_pass 12 = .ok (.aload_n 0, 1) := by decide +kernel
theorem dX5_pass_13 : decode cX5_pass 13 = .ok (.getfield 74, 3) := by decide +kernel
theorem dX5_pass_16 : decode cX5_pass 16 = .ok (.iload_n 1, 1) := by decide +kernel
theorem dX5_pass_17 : decode cX5_pass 17 = .ok (.baload, 1) := by decide +kernel
theorem dX5_pass_18 : decode cX5_pass 18 = .ok (.ifCond .eq 68, 3) := by decide +kernel
theorem dX5_pass_21 : decode cX5_pass 21 = .ok (.aload_n 0, 1) := by decide +kernel
theorem dX5_pass_22 : decode cX5_pass 22 = .ok (.getfield 115, 3) := by decide +kernel
theorem dX5_pass_25 : decode cX5_pass 25 = .ok (.aload_n 0, 1) := by decide +kernel
theorem dX5_pass_26 : decode cX5_pass 26 = .ok (.getfield 86, 3) := by decide +kernel
theorem dX5_pass_29 : decode cX5_pass 29 = .ok (.iload_n 1, 1) := by decide +kernel
theorem dX5_pass_30 : decode cX5_pass 30 = .ok (.iaload, 1) := by decide +kernel
theorem dX5_pass_31 : decode cX5_pass 31 = .ok (.isub, 1) := by decide +kernel
theorem dX5_pass_32 : decode cX5_pass 32 = .ok (.aload_n 0, 1) := by decide +kernel
theorem dX5_pass_33 : decode cX5_pass 33 = .ok (.getfield 77, 3) := by decide +kernel
theorem dX5_pass_36 : decode cX5_pass 36 = .ok (.iload_n 1, 1) := by decide +kernel
theorem dX5_pass_37 : decode cX5_pass 37 = .ok (.iaload, 1) := by decide +kernel
theorem dX5_pass_38 : decode cX5_pass 38 = .ok (.irem, 1) := by decide +kernel
theorem dX5_pass_39 : decode cX5_pass 39 = .ok (.ifCond .ne 47, 3) := by decide +kernel
theorem dX5_pass_42 : decode cX5_pass 42 = .ok (.aload_n 0, 1) := by decide +kernel
theorem dX5_pass_43 : decode cX5_pass 43 = .ok (.getfield 92, 3) := by decide +kernel
theorem dX5_pass_46 : decode cX5_pass 46 = .ok (.iload_n 1, 1) := by decide +kernel
theorem dX5_pass_47 : decode cX5_pass 47 = .ok (.aload_n 0, 1) := by decide +kernel
theorem dX5_pass_48 : decode cX5_pass 48 = .ok (.getfield 89, 3) := by decide +kernel
theorem dX5_pass_51 : decode cX5_pass 51 = .ok (.iload_n 1, 1) := by decide +kernel
theorem dX5_pass_52 : decode cX5_pass 52 = .ok (.iaload, 1) := by decide +kernel
theorem dX5_pass_53 : decode cX5_pass 53 = .ok (.ifCond .le 14, 3) := by decide +kernel
theorem dX5_pass_56 : decode cX5_pass 56 = .ok (.aload_n 0, 1) := by decide +kernel
theorem dX5_pass_57 : decode cX5_pass 57 = .ok (.getfield 92, 3) := by decide +kernel
theorem dX5_pass_60 : decode cX5_pass 60 = .ok (.iload_n 1, 1) := by decide +kernel
theorem dX5_pass_61 : decode cX5_pass 61 = .ok (.iaload, 1) := by decide +kernel
theorem dX5_pass_62 : decode cX5_pass 62 = .ok (.iconst 1, 1) := by decide +kernel
theorem dX5_pass_63 : decode cX5_pass 63 = .ok (.iadd, 1) := by decide +kernel
theorem dX5_pass_64 : decode cX5_pass 64 = .ok (.goto 9, 3) := by decide +kernel
theorem dX5_pass_67 : decode cX5_pass 67 = .ok (.aload_n 0, 1) := by decide +kernel
theorem dX5_pass_68 : decode cX5_pass 68 = .ok (.getfield 92, 3) := by decide +kernel
theorem dX5_pass_71 : decode cX5_pass 71 = .ok (.iload_n 1, 1) := by decide +kernel
theorem dX5_pass_72 : decode cX5_pass 72 = .ok (.iaload, 1) := by decide +kernel
theorem dX5_pass_73 : decode cX5_pass 73 = .ok (.iastore, 1) := by decide +kernel
theorem dX5_pass_74 : decode cX5_pass 74 = .ok (.aload_n 0, 1) := by decide +kernel
theorem dX5_pass_75 : decode cX5_pass 75 = .ok (.getfield 89, 3) := by decide +kernel
theorem dX5_pass_78 : decode cX5_pass 78 = .ok (.iload_n 1, 1) := by decide +kernel
theorem dX5_pass_79 : decode cX5_pass 79 = .ok (.aload_n 0, 1) := by decide +kernel
theorem dX5_pass_80 : decode cX5_pass 80 = .ok (.getfield 80, 3) := by decide +kernel
theorem dX5_pass_83 : decode cX5_pass 83 = .ok (.iload_n 1, 1) := by decide +kernel
theorem dX5_pass_84 : decode cX5_pass 84 = .ok (.iaload, 1) := by decide +kernel
theorem dX5_pass_85 : decode cX5_pass 85 = .ok (.iastore, 1) := by decide +kernel
theorem dX5_pass_86 : decode cX5_pass 86 = .ok (.iinc 1 1, 3) := by decide +kernel
theorem dX5_pass_89 : decode cX5_pass 89 = .ok (.goto (-83), 3) := by decide +kernel
theorem dX5_pass_92 : decode cX5_pass 92 = .ok (.aload_n 0, 1) := by decide +kernel
theorem dX5_pass_93 : decode cX5_pass 93 = .ok (.invokevirtual 173, 3) := by decide +kernel
theorem dX5_pass_96 : decode cX5_pass 96 = .ok (.istore_n 1, 1) := by decide +kernel
theorem dX5_pass_97 : decode cX5_pass 97 = .ok (.aload_n 0, 1) := by decide +kernel
theorem dX5_pass_98 : decode cX5_pass 98 = .ok (.getfield 104, 3) := by decide +kernel
theorem dX5_pass_101 : decode cX5_pass 101 = .ok (.aload_n 0, 1) := by decide +kernel
theorem dX5_pass_102 : decode cX5_pass 102 = .ok (.getfield 115, 3) := by decide +kernel
theorem dX5_pass_105 : decode cX5_pass 105 = .ok (.sipush 1024, 3) := by decide +kernel
theorem dX5_pass_108 : decode cX5_pass 108 = .ok (.irem, 1) := by decide +kernel
theorem dX5_pass_109 : decode cX5_pass 109 = .ok (.iload_n 1, 1) := by decide +kernel
theorem dX5_pass_110 : decode cX5_pass 110 = .ok (.iastore, 1) := by decide +kernel
theorem dX5_pass_111 : decode cX5_pass 111 = .ok (.aload_n 0, 1) := by decide +kernel
theorem dX5_pass_112 : decode cX5_pass 112 = .ok (.dup, 1) := by decide +kernel
theorem dX5_pass_113 : decode cX5_pass 113 = .ok (.getfield 115, 3) := by decide +kernel
theorem dX5_pass_116 : decode cX5_pass 116 = .ok (.iconst 1, 1) := by decide +kernel
theorem dX5_pass_117 : decode cX5_pass 117 = .ok (.iadd, 1) := by decide +kernel
theorem dX5_pass_118 : decode cX5_pass 118 = .ok (.putfield 115, 3) := by decide +kernel
theorem dX5_pass_121 : decode cX5_pass 121 = .ok (.aload_n 0, 1) := by decide +kernel
theorem dX5_pass_122 : decode cX5_pass 122 = .ok (.invokevirtual 170, 3) := by decide +kernel
theorem dX5_pass_125 : decode cX5_pass 125 = .ok (.iload_n 1, 1) := by decide +kernel
theorem dX5_pass_126 : decode cX5_pass 126 = .ok (.ireturn, 1) := by decide +kernel
theorem dX5_tick_0 : decode cX5_tick 0 = .ok (.aload_n 0, 1) := by decide +kernel
theorem dX5_tick_1 : decode cX5_tick 1 = .ok (.iconst 0, 1) := by decide +kernel
theorem dX5_tick_2 : decode cX5_tick 2 = .ok (.putfield 107, 3) := by decide +kernel
theorem dX5_tick_5 : decode cX5_tick 5 = .ok (.aload_n 0, 1) := by decide +kernel
theorem dX5_tick_6 : decode cX5_tick 6 = .ok (.invokevirtual 176, 3) := by decide +kernel
theorem dX5_tick_9 : decode cX5_tick 9 = .ok (.ireturn, 1) := by decide +kernel
theorem dX5_ticks_0 : decode cX5_ticks 0 = .ok (.aload_n 0, 1) := by decide +kernel
theorem dX5_ticks_1 : decode cX5_ticks 1 = .ok (.iload_n 1, 1) := by decide +kernel
theorem dX5_ticks_2 : decode cX5_ticks 2 = .ok (.iconst 0, 1) := by decide +kernel
theorem dX5_ticks_3 : decode cX5_ticks 3 = .ok (.sipush 500, 3) := by decide +kernel
theorem dX5_ticks_6 : decode cX5_ticks 6 = .ok (.invokestatic 140, 3) := by decide +kernel
theorem dX5_ticks_9 : decode cX5_ticks 9 = .ok (.ifCond .eq 7, 3) := by decide +kernel
theorem dX5_ticks_12 : decode cX5_ticks 12 = .ok (.iconst 0, 1) := by decide +kernel
theorem dX5_ticks_13 : decode cX5_ticks 13 = .ok (.goto 4, 3) := by decide +kernel
theorem dX5_ticks_16 : decode cX5_ticks 16 = .ok (.iconst 1, 1) := by decide +kernel
theorem dX5_ticks_17 : decode cX5_ticks 17 = .ok (.putfield 107, 3) := by decide +kernel
theorem dX5_ticks_20 : decode cX5_ticks 20 = .ok (.iconst 0, 1) := by decide +kernel
theorem dX5_ticks_21 : decode cX5_ticks 21 = .ok (.istore_n 2, 1) := by decide +kernel
theorem dX5_ticks_22 : decode cX5_ticks 22 = .ok (.iconst 0, 1) := by decide +kernel
theorem dX5_ticks_23 : decode cX5_ticks 23 = .ok (.istore_n 3, 1) := by decide +kernel
theorem dX5_ticks_24 : decode cX5_ticks 24 = .ok (.iload_n 3, 1) := by decide +kernel
theorem dX5_ticks_25 : decode cX5_ticks 25 = .ok (.iload_n 1, 1) := by decide +kernel
theorem dX5_ticks_26 : decode cX5_ticks 26 = .ok (.if_icmp .ge 31, 3) := by decide +kernel
theorem dX5_ticks_29 : decode cX5_ticks 29 = .ok (.aload_n 0, 1) := by decide +kernel
theorem dX5_ticks_30 : decode cX5_ticks 30 = .ok (.getfield 107, 3) := by decide +kernel
theorem dX5_ticks_33 : decode cX5_ticks 33 = .ok (.ifCond .ne 24, 3) := by decide +kernel
theorem dX5_ticks_36 : decode cX5_ticks 36 = .ok (.aload_n 0, 1) := by decide +kernel
theorem dX5_ticks_37 : decode cX5_ticks 37 = .ok (.invokevirtual 176, 3) := by decide +kernel
theorem dX5_ticks_40 : decode cX5_ticks 40 = .ok (.ifCond .le 9, 3) := by decide +kernel
theorem dX5_ticks_43 : decode cX5_ticks 43 = .ok (.iload_n 2, 1) := by decide +kernel
theorem dX5_ticks_44 : decode cX5_ticks 44 = .ok (.iconst 1, 1) := by decide +kernel
theorem dX5_ticks_45 : decode cX5_ticks 45 = .ok (.iadd, 1) := by decide +kernel
theorem dX5_ticks_46 : decode cX5_ticks 46 = .ok (.goto 4, 3) := by decide +kernel
theorem dX5_ticks_49 : decode cX5_ticks 49 = .ok (.iload_n 2, 1) := by decide +kernel
theorem dX5_ticks_50 : decode cX5_ticks 50 = .ok (.istore_n 2, 1) := by decide +kernel
theorem dX5_ticks_51 : decode cX5_ticks 51 = .ok (.iinc 3 1, 3) := by decide +kernel
theorem dX5_ticks_54 : decode cX5_ticks 54 = .ok (.goto (-30), 3) := by decide +kernel
theorem dX5_ticks_57 : decode cX5_ticks 57 = .ok (.iload_n 2, 1) := by decide +kernel
theorem dX5_ticks_58 : decode cX5_ticks 58 = .ok (.ireturn, 1) := by decide +kernel
theorem dX5_about_0 : decode cX5_about 0 = .ok (.aload_n 0, 1) := by decide +kernel
theorem dX5_about_1 : decode cX5_about 1 = .ok (.aload_n 0, 1) := by decide +kernel
theorem dX5_about_2 : decode cX5_about 2 = .ok (.iload_n 1, 1) := by decide +kernel
theorem dX5_about_3 : decode cX5_about 3 = .ok (.invokevirtual 148, 3) := by decide +kernel
theorem dX5_about_6 : decode cX5_about 6 = .ok (.ifCond .ne 7, 3) := by decide +kernel
theorem dX5_about_9 : decode cX5_about 9 = .ok (.iconst 1, 1) := by decide +kernel
theorem dX5_about_10 : decode cX5_about 10 = .ok (.goto 18, 3) := by decide +kernel
theorem dX5_about_13 : decode cX5_about 13 = .ok (.iload_n 2, 1) := by decide +kernel
theorem dX5_about_14 : decode cX5_about 14 = .ok (.iconst 0, 1) := by decide +kernel
theorem dX5_about_15 : decode cX5_about 15 = .ok (.bipush 12, 2) := by decide +kernel
theorem dX5_about_17 : decode cX5_about 17 = .ok (.invokestatic 140, 3) := by decide +kernel
theorem dX5_about_20 : decode cX5_about 20 = .ok (.ifCond .ne 7, 3) := by decide +kernel
theorem dX5_about_23 : decode cX5_about 23 = .ok (.iconst 2, 1) := by decide +kernel
theorem dX5_about_24 : decode cX5_about 24 = .ok (.goto 4, 3) := by decide +kernel
theorem dX5_about_27 : decode cX5_about 27 = .ok (.iconst 0, 1) := by decide +kernel
theorem dX5_about_28 : decode cX5_about 28 = .ok (.putfield 107, 3) := by decide +kernel
theorem dX5_about_31 : decode cX5_about 31 = .ok (.aload_n 0, 1) := by decide +kernel
theorem dX5_about_32 : decode cX5_about 32 = .ok (.getfield 107, 3) := by decide +kernel
theorem dX5_about_35 : decode cX5_about 35 = .ok (.ifCond .le 5, 3) := by decide +kernel
theorem dX5_about_38 : decode cX5_about 38 = .ok (.iconst 0, 1) := by decide +kernel
theorem dX5_about_39 : decode cX5_about 39 = .ok (.ireturn, 1) := by decide +kernel
theorem dX5_about_40 : decode cX5_about 40 = .ok (.aload_n 0, 1) := by decide +kernel
theorem dX5_about_41 : decode cX5_about 41 = .ok (.iload_n 1, 1) := by decide +kernel
theorem dX5_about_42 : decode cX5_about 42 = .ok (.invokevirtual 179, 3) := by decide +kernel
theorem dX5_about_45 : decode cX5_about 45 = .ok (.istore_n 3, 1) := by decide +kernel
theorem dX5_about_46 : decode cX5_about 46 = .ok (.iload_n 2, 1) := by decide +kernel
theorem dX5_about_47 : decode cX5_about 47 = .ok (.tableswitch 178 0 11 #[61, 68, 75, 82, 89, 104, 111, 117, 124, 144, 164, 171], 61) := by decide +kernel
theorem dX5_about_108 : decode cX5_about 108 = .ok (.aload_n 0, 1) := by decide +kernel
theorem dX5_about_109 : decode cX5_about 109 = .ok (.getfield 62, 3) := by decide +kernel
theorem dX5_about_112 : decode cX5_about 112 = .ok (.iload_n 1, 1) := by decide +kernel
theorem dX5_about_113 : decode cX5_about 113 = .ok (.iaload, 1) := by decide +kernel
theorem dX5_about_114 : decode cX5_about 114 = .ok (.ireturn, 1) := by decide +kernel
theorem dX5_about_115 : decode cX5_about 115 = .ok (.aload_n 0, 1) := by decide +kernel
theorem dX5_about_116 : decode cX5_about 116 = .ok (.getfield 65, 3) := by decide +kernel
theorem dX5_about_119 : decode cX5_about 119 = .ok (.iload_n 1, 1) := by decide +kernel
theorem dX5_about_120 : decode cX5_about 120 = .ok (.iaload, 1) := by decide +kernel
theorem dX5_about_121 : decode cX5_about 121 = .ok (.ireturn, 1) := by decide +kernel
theorem dX5_about_122 : decode cX5_about 122 = .ok (.aload_n 0, 1) := by decide +kernel
theorem dX5_about_123 : decode cX5_about 123 = .ok (.getfield 68, 3) := by decide +kernel
theorem dX5_about_126 : decode cX5_about 126 = .ok (.iload_n 1, 1) := by decide +kernel
theorem dX5_about_127 : decode cX5_about 127 = .ok (.iaload, 1) := by decide +kernel
theorem dX5_about_128 : decode cX5_about 128 = .ok (.ireturn, 1) := by decide +kernel
theorem dX5_about_129 : decode cX5_about 129 = .ok (.aload_n 0, 1) := by decide +kernel
theorem dX5_about_130 : decode cX5_about 130 = .ok (.getfield 32, 3) := by decide +kernel
theorem dX5_about_133 : decode cX5_about 133 = .ok (.iload_n 1, 1) := by decide +kernel
theorem dX5_about_134 : decode cX5_about 134 = .ok (.iaload, 1) := by decide +kernel
theorem dX5_about_135 : decode cX5_about 135 = .ok (.ireturn, 1) := by decide +kernel
theorem dX5_about_136 : decode cX5_about 136 = .ok (.aload_n 0, 1) := by decide +kernel
theorem dX5_about_137 : decode cX5_about 137 = .ok (.getfield 56, 3) := by decide +kernel
theorem dX5_about_140 : decode cX5_about 140 = .ok (.iload_n 1, 1) := by decide +kernel
theorem dX5_about_141 : decode cX5_about 141 = .ok (.baload, 1) := by decide +kernel
theorem dX5_about_142 : decode cX5_about 142 = .ok (.ifCond .eq 7, 3) := by decide +kernel
theorem dX5_about_145 : decode cX5_about 145 = .ok (.iconst 1, 1) := by decide +kernel
theorem dX5_about_146 : decode cX5_about 146 = .ok (.goto 4, 3) := by decide +kernel
theorem dX5_about_149 : decode cX5_about 149 = .ok (.iconst 0, 1) := by decide +kernel
theorem dX5_about_150 : decode cX5_about 150 = .ok (.ireturn, 1) := by decide +kernel
theorem dX5_about_151 : decode cX5_about 151 = .ok (.aload_n 0, 1) := by decide +kernel
theorem dX5_about_152 : decode cX5_about 152 = .ok (.getfield 59, 3) := by decide +kernel
theorem dX5_about_155 : decode cX5_about 155 = .ok (.iload_n 1, 1) := by decide +kernel
theorem dX5_about_156 : decode cX5_about 156 = .ok (.iaload, 1) := by decide +kernel
theorem dX5_about_157 : decode cX5_about 157 = .ok (.ireturn, 1) := by decide +kernel
theorem dX5_about_158 : decode cX5_about 158 = .ok (.aload_n 0, 1) := by decide +kernel
theorem dX5_about_159 : decode cX5_about 159 = .ok (.iload_n 1, 1) := by decide +kernel
theorem dX5_about_160 : decode cX5_about 160 = .ok (.invokevirtual 111, 3) := by decide +kernel
theorem dX5_about_163 : decode cX5_about 163 = .ok (.ireturn, 1) := by decide +kernel
theorem dX5_about_164 : decode cX5_about 164 = .ok (.aload_n 0, 1) := by decide +kernel
theorem dX5_about_165 : decode cX5_about 165 = .ok (.getfield 47, 3) := by decide +kernel
theorem dX5_about_168 : decode cX5_about 168 = .ok (.iload_n 1, 1) := by decide +kernel
theorem dX5_about_169 : decode cX5_about 169 = .ok (.iaload, 1) := by decide +kernel
theorem dX5_about_170 : decode cX5_about 170 = .ok (.ireturn, 1) := by decide +kernel
theorem dX5_about_171 : decode cX5_about 171 = .ok (.iload_n 3, 1) := by decide +kernel
theorem dX5_about_172 : decode cX5_about 172 = .ok (.ifCond .ge 7, 3) := by decide +kernel
theorem dX5_about_175 : decode cX5_about 175 = .ok (.iconst (-1), 1) := by decide +kernel
theorem dX5_about_176 : decode cX5_about 176 = .ok (.goto 14, 3) := by decide +kernel
theorem dX5_about_179 : decode cX5_about 179 = .ok (.aload_n 0, 1) := by decide +kernel
theorem dX5_about_180 : decode cX5_about 180 = .ok (.getfield 50, 3) := by decide +kernel
theorem dX5_about_183 : decode cX5_about 183 = .ok (.bipush 16, 2) := by decide +kernel
theorem dX5_about_185 : decode cX5_about 185 = .ok (.iload_n 1, 1) := by decide +kernel
theorem dX5_about_186 : decode cX5_about 186 = .ok (.imul, 1) := by decide +kernel
theorem dX5_about_187 : decode cX5_about 187 = .ok (.iload_n 3, 1) := by decide +kernel
theorem dX5_about_188 : decode cX5_about 188 = .ok (.iadd, 1) := by decide +kernel
theorem dX5_about_189 : decode cX5_about 189 = .ok (.iaload, 1) := by decide +kernel
theorem dX5_about_190 : decode cX5_about 190 = .ok (.ireturn, 1) := by decide +kernel
theorem dX5_about_191 : decode cX5_about 191 = .ok (.iload_n 3, 1) := by decide +kernel
theorem dX5_about_192 : decode cX5_about 192 = .ok (.ifCond .ge 7, 3) := by decide +kernel
theorem dX5_about_195 : decode cX5_about 195 = .ok (.iconst 0, 1) := by decide +kernel
theorem dX5_about_196 : decode cX5_about 196 = .ok (.goto 14, 3) := by decide +kernel
theorem dX5_about_199 : decode cX5_about 199 = .ok (.aload_n 0, 1) := by decide +kernel
theorem dX5_about_200 : decode cX5_about 200 = .ok (.getfield 53, 3) := by decide +kernel
theorem dX5_about_203 : decode cX5_about 203 = .ok (.bipush 16, 2) := by decide +kernel
theorem dX5_about_205 : decode cX5_about 205 = .ok (.iload_n 1, 1) := by decide +kernel
theorem dX5_about_206 : decode cX5_about 206 = .ok (.imul, 1) := by decide +kernel
theorem dX5_about_207 : decode cX5_about 207 = .ok (.iload_n 3, 1) := by decide +kernel
theorem dX5_about_208 : decode cX5_about 208 = .ok (.iadd, 1) := by decide +kernel
theorem dX5_about_209 : decode cX5_about 209 = .ok (.iaload, 1) := by decide +kernel
theorem dX5_about_210 : decode cX5_about 210 = .ok (.ireturn, 1) := by decide +kernel
theorem dX5_about_211 : decode cX5_about 211 = .ok (.aload_n 0, 1) := by decide +kernel
theorem dX5_about_212 : decode cX5_about 212 = .ok (.getfield 71, 3) := by decide +kernel
theorem dX5_about_215 : decode cX5_about 215 = .ok (.iload_n 1, 1) := by decide +kernel
theorem dX5_about_216 : decode cX5_about 216 = .ok (.iaload, 1) := by decide +kernel
theorem dX5_about_217 : decode cX5_about 217 = .ok (.ireturn, 1) := by decide +kernel
theorem dX5_about_218 : decode cX5_about 218 = .ok (.aload_n 0, 1) := by decide +kernel
theorem dX5_about_219 : decode cX5_about 219 = .ok (.getfield 38, 3) := by decide +kernel
theorem dX5_about_222 : decode cX5_about 222 = .ok (.iload_n 1, 1) := by decide +kernel
theorem dX5_about_223 : decode cX5_about 223 = .ok (.iaload, 1) := by decide +kernel
theorem dX5_about_224 : decode cX5_about 224 = .ok (.ireturn, 1) := by decide +kernel
theorem dX5_about_225 : decode cX5_about 225 = .ok (.aload_n 0, 1) := by decide +kernel
theorem dX5_about_226 : decode cX5_about 226 = .ok (.getfield 41, 3) := by decide +kernel
theorem dX5_about_229 : decode cX5_about 229 = .ok (.iload_n 1, 1) := by decide +kernel
theorem dX5_about_230 : decode cX5_about 230 = .ok (.iaload, 1) := by decide +kernel
theorem dX5_about_231 : decode cX5_about 231 = .ok (.ireturn, 1) := by decide +kernel
theorem dX5_task_0 : decode cX5_task 0 = .ok (.aload_n 0, 1) := by decide +kernel
theorem dX5_task_1 : decode cX5_task 1 = .ok (.iload_n 1, 1) := by decide +kernel
theorem dX5_task_2 : decode cX5_task 2 = .ok (.iconst 0, 1) := by decide +kernel
theorem dX5_task_3 : decode cX5_task 3 = .ok (.iconst 5, 1) := by decide +kernel
theorem dX5_task_4 : decode cX5_task 4 = .ok (.invokestatic 140, 3) := by decide +kernel
theorem dX5_task_7 : decode cX5_task 7 = .ok (.ifCond .eq 12, 3) := by decide +kernel
theorem dX5_task_10 : decode cX5_task 10 = .ok (.aload_n 0, 1) := by decide +kernel
theorem dX5_task_11 : decode cX5_task 11 = .ok (.getfield 74, 3) := by decide +kernel
theorem dX5_task_14 : decode cX5_task 14 = .ok (.iload_n 1, 1) := by decide +kernel
theorem dX5_task_15 : decode cX5_task 15 = .ok (.baload, 1) := by decide +kernel
theorem dX5_task_16 : decode cX5_task 16 = .ok (.ifCond .ne 7, 3) := by decide +kernel
theorem dX5_task_19 : decode cX5_task 19 = .ok (.iconst 1, 1) := by decide +kernel
theorem dX5_task_20 : decode cX5_task 20 = .ok (.goto 17, 3) := by decide +kernel
theorem dX5_task_23 : decode cX5_task 23 = .ok (.iload_n 2, 1) := by decide +kernel
theorem dX5_task_24 : decode cX5_task 24 = .ok (.iconst 0, 1) := by decide +kernel
theorem dX5_task_25 : decode cX5_task 25 = .ok (.iconst 3, 1) := by decide +kernel
theorem dX5_task_26 : decode cX5_task 26 = .ok (.invokestatic 140, 3) := by decide +kernel
theorem dX5_task_29 : decode cX5_task 29 = .ok (.ifCond .ne 7, 3) := by decide +kernel
theorem dX5_task_32 : decode cX5_task 32 = .ok (.iconst 2, 1) := by decide +kernel
theorem dX5_task_33 : decode cX5_task 33 = .ok (.goto 4, 3) := by decide +kernel
theorem dX5_task_36 : decode cX5_task 36 = .ok (.iconst 0, 1) := by decide +kernel
theorem dX5_task_37 : decode cX5_task 37 = .ok (.putfield 107, 3) := by decide +kernel
theorem dX5_task_40 : decode cX5_task 40 = .ok (.aload_n 0, 1) := by decide +kernel
theorem dX5_task_41 : decode cX5_task 41 = .ok (.getfield 107, 3) := by decide +kernel
theorem dX5_task_44 : decode cX5_task 44 = .ok (.ifCond .le 5, 3) := by decide +kernel
theorem dX5_task_47 : decode cX5_task 47 = .ok (.iconst 0, 1) := by decide +kernel
theorem dX5_task_48 : decode cX5_task 48 = .ok (.ireturn, 1) := by decide +kernel
theorem dX5_task_49 : decode cX5_task 49 = .ok (.iload_n 2, 1) := by decide +kernel
theorem dX5_task_50 : decode cX5_task 50 = .ok (.ifCond .ne 12, 3) := by decide +kernel
theorem dX5_task_53 : decode cX5_task 53 = .ok (.aload_n 0, 1) := by decide +kernel
theorem dX5_task_54 : decode cX5_task 54 = .ok (.getfield 89, 3) := by decide +kernel
theorem dX5_task_57 : decode cX5_task 57 = .ok (.iload_n 1, 1) := by decide +kernel
theorem dX5_task_58 : decode cX5_task 58 = .ok (.iaload, 1) := by decide +kernel
theorem dX5_task_59 : decode cX5_task 59 = .ok (.goto 36, 3) := by decide +kernel
theorem dX5_task_62 : decode cX5_task 62 = .ok (.iload_n 2, 1) := by decide +kernel
theorem dX5_task_63 : decode cX5_task 63 = .ok (.iconst 1, 1) := by decide +kernel
theorem dX5_task_64 : decode cX5_task 64 = .ok (.if_icmp .ne 12, 3) := by decide +kernel
theorem dX5_task_67 : decode cX5_task 67 = .ok (.aload_n 0, 1) := by decide +kernel
theorem dX5_task_68 : decode cX5_task 68 = .ok (.getfield 92, 3) := by decide +kernel
theorem dX5_task_71 : decode cX5_task 71 = .ok (.iload_n 1, 1) := by decide +kernel
theorem dX5_task_72 : decode cX5_task 72 = .ok (.iaload, 1) := by decide +kernel
theorem dX5_task_73 : decode cX5_task 73 = .ok (.goto 22, 3) := by decide +kernel
theorem dX5_task_76 : decode cX5_task 76 = .ok (.iload_n 2, 1) := by decide +kernel
theorem dX5_task_77 : decode cX5_task 77 = .ok (.iconst 2, 1) := by decide +kernel
theorem dX5_task_78 : decode cX5_task 78 = .ok (.if_icmp .ne 12, 3) := by decide +kernel
theorem dX5_task_81 : decode cX5_task 81 = .ok (.aload_n 0, 1) := by decide +kernel
theorem dX5_task_82 : decode cX5_task 82 = .ok (.getfield 95, 3) := by decide +kernel
theorem dX5_task_85 : decode cX5_task 85 = .ok (.iload_n 1, 1) := by decide +kernel
theorem dX5_task_86 : decode cX5_task 86 = .ok (.iaload, 1) := by decide +kernel
theorem dX5_task_87 : decode cX5_task 87 = .ok (.goto 8, 3) := by decide +kernel
theorem dX5_task_90 : decode cX5_task 90 = .ok (.aload_n 0, 1) := by decide +kernel
theorem dX5_task_91 : decode cX5_task 91 = .ok (.iload_n 1, 1) := by decide +kernel
theorem dX5_task_92 : decode cX5_task 92 = .ok (.invokevirtual 137, 3) := by decide +kernel
theorem dX5_task_95 : decode cX5_task 95 = .ok (.ireturn, 1) := by decide +kernel
theorem dX5_bound_0 : decode cX5_bound 0 = .ok (.aload_n 0, 1) := by decide +kernel
theorem dX5_bound_1 : decode cX5_bound 1 = .ok (.aload_n 0, 1) := by decide +kernel
theorem dX5_bound_2 : decode cX5_bound 2 = .ok (.iload_n 1, 1) := by decide +kernel
theorem dX5_bound_3 : decode cX5_bound 3 = .ok (.invokevirtual 148, 3) := by decide +kernel
theorem dX5_bound_6 : decode cX5_bound 6 = .ok (.ifCond .eq 7, 3) := by decide +kernel
theorem dX5_bound_9 : decode cX5_bound 9 = .ok (.iconst 0, 1) := by decide +kernel
theorem dX5_bound_10 : decode cX5_bound 10 = .ok (.goto 4, 3) := by decide +kernel
theorem dX5_bound_13 : decode cX5_bound 13 = .ok (.iconst 1, 1) := by decide +kernel
theorem dX5_bound_14 : decode cX5_bound 14 = .ok (.putfield 107, 3) := by decide +kernel
theorem dX5_bound_17 : decode cX5_bound 17 = .ok (.aload_n 0, 1) := by decide +kernel
theorem dX5_bound_18 : decode cX5_bound 18 = .ok (.getfield 107, 3) := by decide +kernel
theorem dX5_bound_21 : decode cX5_bound 21 = .ok (.ifCond .le 7, 3) := by decide +kernel
theorem dX5_bound_24 : decode cX5_bound 24 = .ok (.iconst 0, 1) := by decide +kernel
theorem dX5_bound_25 : decode cX5_bound 25 = .ok (.goto 8, 3) := by decide +kernel
theorem dX5_bound_28 : decode cX5_bound 28 = .ok (.aload_n 0, 1) := by decide +kernel
theorem dX5_bound_29 : decode cX5_bound 29 = .ok (.iload_n 1, 1) := by decide +kernel
theorem dX5_bound_30 : decode cX5_bound 30 = .ok (.invokevirtual 182, 3) := by decide +kernel
theorem dX5_bound_33 : decode cX5_bound 33 = .ok (.ireturn, 1) := by decide +kernel
theorem dX5_used_0 : decode cX5_used 0 = .ok (.iload_n 3, 1) := by decide +kernel
theorem dX5_used_1 : decode cX5_used 1 = .ok (.ifCond .lt 34, 3) := by decide +kernel
theorem dX5_used_4 : decode cX5_used 4 = .ok (.iload_n 3, 1) := by decide +kernel
theorem dX5_used_5 : decode cX5_used 5 = .ok (.iload 4, 2) := by decide +kernel
theorem dX5_used_7 : decode cX5_used 7 = .ok (.if_icmp .gt 28, 3) := by decide +kernel
theorem dX5_used_10 : decode cX5_used 10 = .ok (.iload 4, 2) := by decide +kernel
theorem dX5_used_12 : decode cX5_used 12 = .ok (.aload_n 0, 1) := by decide +kernel
theorem dX5_used_13 : decode cX5_used 13 = .ok (.getfield 115, 3) := by decide +kernel
theorem dX5_used_16 : decode cX5_used 16 = .ok (.if_icmp .gt 19, 3) := by decide +kernel
theorem dX5_used_19 : decode cX5_used 19 = .ok (.aload_n 0, 1) := by decide +kernel
theorem dX5_used_20 : decode cX5_used 20 = .ok (.getfield 115, 3) := by decide +kernel
theorem dX5_used_23 : decode cX5_used 23 = .ok (.iload_n 3, 1) := by decide +kernel
theorem dX5_used_24 : decode cX5_used 24 = .ok (.isub, 1) := by decide +kernel
theorem dX5_used_25 : decode cX5_used 25 = .ok (.sipush 1000, 3) := by decide +kernel
theorem dX5_used_28 : decode cX5_used 28 = .ok (.if_icmp .gt 7, 3) := by decide +kernel
theorem dX5_used_31 : decode cX5_used 31 = .ok (.iconst 1, 1) := by decide +kernel
theorem dX5_used_32 : decode cX5_used 32 = .ok (.goto 4, 3) := by decide +kernel
theorem dX5_used_35 : decode cX5_used 35 = .ok (.iconst 0, 1) := by decide +kernel
theorem dX5_used_36 : decode cX5_used 36 = .ok (.istore 5, 2) := by decide +kernel
theorem dX5_used_38 : decode cX5_used 38 = .ok (.aload_n 0, 1) := by decide +kernel
theorem dX5_used_39 : decode cX5_used 39 = .ok (.aload_n 0, 1) := by decide +kernel
theorem dX5_used_40 : decode cX5_used 40 = .ok (.iload_n 1, 1) := by decide +kernel
theorem dX5_used_41 : decode cX5_used 41 = .ok (.invokevirtual 148, 3) := by decide +kernel
theorem dX5_used_44 : decode cX5_used 44 = .ok (.ifCond .ne 7, 3) := by decide +kernel
theorem dX5_used_47 : decode cX5_used 47 = .ok (.iconst 1, 1) := by decide +kernel
theorem dX5_used_48 : decode cX5_used 48 = .ok (.goto 13, 3) := by decide +kernel
theorem dX5_used_51 : decode cX5_used 51 = .ok (.iload 5, 2) := by decide +kernel
theorem dX5_used_53 : decode cX5_used 53 = .ok (.ifCond .ne 7, 3) := by decide +kernel
theorem dX5_used_56 : decode cX5_used 56 = .ok (.iconst 2, 1) := by decide +kernel
theorem dX5_used_57 : decode cX5_used 57 = .ok (.goto 4, 3) := by decide +kernel
theorem dX5_used_60 : decode cX5_used 60 = .ok (.iconst 0, 1) := by decide +kernel
theorem dX5_used_61 : decode cX5_used 61 = .ok (.putfield 107, 3) := by decide +kernel
theorem dX5_used_64 : decode cX5_used 64 = .ok (.iconst 0, 1) := by decide +kernel
theorem dX5_used_65 : decode cX5_used 65 = .ok (.istore 6, 2) := by decide +kernel
theorem dX5_used_67 : decode cX5_used 67 = .ok (.iload_n 3, 1) := by decide +kernel
theorem dX5_used_68 : decode cX5_used 68 = .ok (.istore 7, 2) := by decide +kernel
theorem dX5_used_70 : decode cX5_used 70 = .ok (.iload 7, 2) := by decide +kernel
theorem dX5_used_72 : decode cX5_used 72 = .ok (.iload 4, 2) := by decide +kernel
theorem dX5_used_74 : decode cX5_used 74 = .ok (.if_icmp .ge 62, 3) := by decide +kernel
theorem dX5_used_77 : decode cX5_used 77 = .ok (.aload_n 0, 1) := by decide +kernel
theorem dX5_used_78 : decode cX5_used 78 = .ok (.getfield 107, 3) := by decide +kernel
theorem dX5_used_81 : decode cX5_used 81 = .ok (.ifCond .ne 55, 3) := by decide +kernel
theorem dX5_used_84 : decode cX5_used 84 = .ok (.aload_n 0, 1) := by decide +kernel
theorem dX5_used_85 : decode cX5_used 85 = .ok (.getfield 104, 3) := by decide +kernel
theorem dX5_used_88 : decode cX5_used 88 = .ok (.iload 7, 2) := by decide +kernel
theorem dX5_used_90 : decode cX5_used 90 = .ok (.sipush 1024, 3) := by decide +kernel
theorem dX5_used_93 : decode cX5_used 93 = .ok (.irem, 1) := by decide +kernel
theorem dX5_used_94 : decode cX5_used 94 = .ok (.iaload, 1) := by decide +kernel
theorem dX5_used_95 : decode cX5_used 95 = .ok (.istore 8, 2) := by decide +kernel
theorem dX5_used_97 : decode cX5_used 97 = .ok (.iload 8, 2) := by decide +kernel
theorem dX5_used_99 : decode cX5_used 99 = .ok (.bipush 20, 2) := by decide +kernel
theorem dX5_used_101 : decode cX5_used 101 = .ok (.iload_n 1, 1) := by decide +kernel
theorem dX5_used_102 : decode cX5_used 102 = .ok (.iadd, 1) := by decide +kernel
theorem dX5_used_103 : decode cX5_used 103 = .ok (.if_icmp .eq 16, 3) := by decide +kernel
theorem dX5_used_106 : decode cX5_used 106 = .ok (.iload_n 2, 1) := by decide +kernel
theorem dX5_used_107 : decode cX5_used 107 = .ok (.ifCond .eq 19, 3) := by decide +kernel
theorem dX5_used_110 : decode cX5_used 110 = .ok (.iload 8, 2) := by decide +kernel
theorem dX5_used_112 : decode cX5_used 112 = .ok (.bipush 10, 2) := by decide +kernel
theorem dX5_used_114 : decode cX5_used 114 = .ok (.iload_n 1, 1) := by decide +kernel
theorem dX5_used_115 : decode cX5_used 115 = .ok (.iadd, 1) := by decide +kernel
theorem dX5_used_116 : decode cX5_used 116 = .ok (.if_icmp .ne 10, 3) := by decide +kernel
theorem dX5_used_119 : decode cX5_used 119 = .ok (.iload 6, 2) := by decide +kernel
theorem dX5_used_121 : decode cX5_used 121 = .ok (.iconst 1, 1) := by decide +kernel
theorem dX5_used_122 : decode cX5_used 122 = .ok (.iadd, 1) := by decide +kernel
theorem dX5_used_123 : decode cX5_used 123 = .ok (.goto 5, 3) := by decide +kernel
theorem dX5_used_126 : decode cX5_used 126 = .ok (.iload 6, 2) := by decide +kernel
theorem dX5_used_128 : decode cX5_used 128 = .ok (.istore 6, 2) := by decide +kernel
theorem dX5_used_130 : decode cX5_used 130 = .ok (.iinc 7 1, 3) := by decide +kernel
theorem dX5_used_133 : decode cX5_used 133 = .ok (.goto (-63), 3) := by decide +kernel
theorem dX5_used_136 : decode cX5_used 136 = .ok (.iload 6, 2) := by decide +kernel
theorem dX5_used_138 : decode cX5_used 138 = .ok (.ireturn, 1) := by decide +kernel
theorem dX5_floor_0 : decode cX5_floor 0 = .ok (.aload_n 0, 1) := by decide +kernel
theorem dX5_floor_1 : decode cX5_floor 1 = .ok (.iload_n 1, 1) := by decide +kernel
theorem dX5_floor_2 : decode cX5_floor 2 = .ok (.iconst 0, 1) := by decide +kernel
theorem dX5_floor_3 : decode cX5_floor 3 = .ok (.ldc 185, 2) := by decide +kernel
theorem dX5_floor_5 : decode cX5_floor 5 = .ok (.invokestatic 140, 3) := by decide +kernel
theorem dX5_floor_8 : decode cX5_floor 8 = .ok (.ifCond .eq 7, 3) := by decide +kernel
theorem dX5_floor_11 : decode cX5_floor 11 = .ok (.iconst 0, 1) := by decide +kernel
theorem dX5_floor_12 : decode cX5_floor 12 = .ok (.goto 4, 3) := by decide +kernel
theorem dX5_floor_15 : decode cX5_floor 15 = .ok (.iconst 1, 1) := by decide +kernel
theorem dX5_floor_16 : decode cX5_floor 16 = .ok (.putfield 107, 3) := by decide +kernel
theorem dX5_floor_19 : decode cX5_floor 19 = .ok (.aload_n 0, 1) := by decide +kernel
theorem dX5_floor_20 : decode cX5_floor 20 = .ok (.getfield 107, 3) := by decide +kernel
theorem dX5_floor_23 : decode cX5_floor 23 = .ok (.ifCond .le 5, 3) := by decide +kernel
theorem dX5_floor_26 : decode cX5_floor 26 = .ok (.iconst 0, 1) := by decide +kernel
theorem dX5_floor_27 : decode cX5_floor 27 = .ok (.ireturn, 1) := by decide +kernel
theorem dX5_floor_28 : decode cX5_floor 28 = .ok (.iload_n 1, 1) := by decide +kernel
theorem dX5_floor_29 : decode cX5_floor 29 = .ok (.aload_n 0, 1) := by decide +kernel
theorem dX5_floor_30 : decode cX5_floor 30 = .ok (.iload_n 1, 1) := by decide +kernel
theorem dX5_floor_31 : decode cX5_floor 31 = .ok (.invokevirtual 128, 3) := by decide +kernel
theorem dX5_floor_34 : decode cX5_floor 34 = .ok (.isub, 1) := by decide +kernel
theorem dX5_floor_35 : decode cX5_floor 35 = .ok (.istore_n 2, 1) := by decide +kernel
theorem dX5_floor_36 : decode cX5_floor 36 = .ok (.iload_n 2, 1) := by decide +kernel
theorem dX5_floor_37 : decode cX5_floor 37 = .ok (.ifCond .ge 7, 3) := by decide +kernel
theorem dX5_floor_40 : decode cX5_floor 40 = .ok (.iconst 0, 1) := by decide +kernel
theorem dX5_floor_41 : decode cX5_floor 41 = .ok (.goto 4, 3) := by decide +kernel
theorem dX5_floor_44 : decode cX5_floor 44 = .ok (.iload_n 2, 1) := by decide +kernel
theorem dX5_floor_45 : decode cX5_floor 45 = .ok (.ireturn, 1) := by decide +kernel
theorem dX5_time_0 : decode cX5_time 0 = .ok (.aload_n 0, 1) := by decide +kernel
theorem dX5_time_1 : decode cX5_time 1 = .ok (.iconst 0, 1) := by decide +kernel
theorem dX5_time_2 : decode cX5_time 2 = .ok (.putfield 107, 3) := by decide +kernel
theorem dX5_time_5 : decode cX5_time 5 = .ok (.aload_n 0, 1) := by decide +kernel
theorem dX5_time_6 : decode cX5_time 6 = .ok (.getfield 115, 3) := by decide +kernel
theorem dX5_time_9 : decode cX5_time 9 = .ok (.ireturn, 1) := by decide +kernel
end
section
theorem dL_source_0 : decode cL_source 0 = .ok (.aload_n 0, 1) := by decide +kernel
theorem dL_source_1 : decode cL_source 1 = .ok (.iload_n 1, 1) := by decide +kernel
theorem dL_source_2 : decode cL_source 2 = .ok (.iload_n 2, 1) := by decide +kernel
theorem dL_source_3 : decode cL_source 3 = .ok (.iload_n 3, 1) := by decide +kernel
theorem dL_source_4 : decode cL_source 4 = .ok (.iload 4, 2) := by decide +kernel
theorem dL_source_6 : decode cL_source 6 = .ok (.iload 5, 2) := by decide +kernel
theorem dL_source_8 : decode cL_source 8 = .ok (.iload 6, 2) := by decide +kernel
theorem dL_source_10 : decode cL_source 10 = .ok (.iload 7, 2) := by decide +kernel
theorem dL_source_12 : decode cL_source 12 = .ok (.invokevirtual 7, 3) := by decide +kernel
theorem dL_source_15 : decode cL_source 15 = .ok (.goto 15, 3) := by decide +kernel
theorem dL_source_18 : decode cL_source 18 = .ok (.astore 8, 2) := by decide +kernel
theorem dL_source_20 : decode cL_source 20 = .ok (.iconst 1, 1) := by decide +kernel
theorem dL_source_21 : decode cL_source 21 = .ok (.ireturn, 1) := by decide +kernel
theorem dL_source_22 : decode cL_source 22 = .ok (.astore 8, 2) := by decide +kernel
theorem dL_source_24 : decode cL_source 24 = .ok (.iconst 2, 1) := by decide +kernel
theorem dL_source_25 : decode cL_source 25 = .ok (.ireturn, 1) := by decide +kernel
theorem dL_source_26 : decode cL_source 26 = .ok (.astore 8, 2) := by decide +kernel
theorem dL_source_28 : decode cL_source 28 = .ok (.iconst 3, 1) := by decide +kernel
theorem dL_source_29 : decode cL_source 29 = .ok (.ireturn, 1) := by decide +kernel
theorem dL_source_30 : decode cL_source 30 = .ok (.iconst 0, 1) := by decide +kernel
theorem dL_source_31 : decode cL_source 31 = .ok (.ireturn, 1) := by decide +kernel
theorem dL_base_0 : decode cL_base 0 = .ok (.aload 5, 2) := by decide +kernel
theorem dL_base_2 : decode cL_base 2 = .ok (.iconst 0, 1) := by decide +kernel
theorem dL_base_3 : decode cL_base 3 = .ok (.aload_n 0, 1) := by decide +kernel
theorem dL_base_4 : decode cL_base 4 = .ok (.iload_n 1, 1) := by decide +kernel
theorem dL_base_5 : decode cL_base 5 = .ok (.iload_n 2, 1) := by decide +kernel
theorem dL_base_6 : decode cL_base 6 = .ok (.iload_n 3, 1) := by decide +kernel
theorem dL_base_7 : decode cL_base 7 = .ok (.iload 4, 2) := by decide +kernel
theorem dL_base_9 : decode cL_base 9 = .ok (.invokevirtual 19, 3) := by decide +kernel
theorem dL_base_12 : decode cL_base 12 = .ok (.ifCond .eq 7, 3) := by decide +kernel
theorem dL_base_15 : decode cL_base 15 = .ok (.lconst 1, 1) := by decide +kernel
theorem dL_base_16 : decode cL_base 16 = .ok (.goto 4, 3) := by decide +kernel
theorem dL_base_19 : decode cL_base 19 = .ok (.lconst 0, 1) := by decide +kernel
theorem dL_base_20 : decode cL_base 20 = .ok (.lastore, 1) := by decide +kernel
theorem dL_base_21 : decode cL_base 21 = .ok (.goto 15, 3) := by decide +kernel
theorem dL_base_24 : decode cL_base 24 = .ok (.astore 6, 2) := by decide +kernel
theorem dL_base_26 : decode cL_base 26 = .ok (.iconst 1, 1) := by decide +kernel
theorem dL_base_27 : decode cL_base 27 = .ok (.ireturn, 1) := by decide +kernel
theorem dL_base_28 : decode cL_base 28 = .ok (.astore 6, 2) := by decide +kernel
theorem dL_base_30 : decode cL_base 30 = .ok (.iconst 2, 1) := by decide +kernel
theorem dL_base_31 : decode cL_base 31 = .ok (.ireturn, 1) := by decide +kernel
theorem dL_base_32 : decode cL_base 32 = .ok (.astore 6, 2) := by decide +kernel
theorem dL_base_34 : decode cL_base 34 = .ok (.iconst 3, 1) := by decide +kernel
theorem dL_base_35 : decode cL_base 35 = .ok (.ireturn, 1) := by decide +kernel
theorem dL_base_36 : decode cL_base 36 = .ok (.iconst 0, 1) := by decide +kernel
theorem dL_base_37 : decode cL_base 37 = .ok (.ireturn, 1) := by decide +kernel
theorem dL_event_0 : decode cL_event 0 = .ok (.aload_n 2, 1) := by decide +kernel
theorem dL_event_1 : decode cL_event 1 = .ok (.iconst 0, 1) := by decide +kernel
theorem dL_event_2 : decode cL_event 2 = .ok (.aload_n 0, 1) := by decide +kernel
theorem dL_event_3 : decode cL_event 3 = .ok (.iload_n 1, 1) := by decide +kernel
theorem dL_event_4 : decode cL_event 4 = .ok (.invokevirtual 23, 3) := by decide +kernel
theorem dL_event_7 : decode cL_event 7 = .ok (.i2l, 1) := by decide +kernel
theorem dL_event_8 : decode cL_event 8 = .ok (.lastore, 1) := by decide +kernel
theorem dL_event_9 : decode cL_event 9 = .ok (.goto 6, 3) := by decide +kernel
theorem dL_event_12 : decode cL_event 12 = .ok (.astore_n 3, 1) := by decide +kernel
theorem dL_event_13 : decode cL_event 13 = .ok (.iconst 1, 1) := by decide +kernel
theorem dL_event_14 : decode cL_event 14 = .ok (.ireturn, 1) := by decide +kernel
theorem dL_event_15 : decode cL_event 15 = .ok (.iconst 0, 1) := by decide +kernel
theorem dL_event_16 : decode cL_event 16 = .ok (.ireturn, 1) := by decide +kernel
theorem dL_ticks_0 : decode cL_ticks 0 = .ok (.aload_n 2, 1) := by decide +kernel
theorem dL_ticks_1 : decode cL_ticks 1 = .ok (.iconst 0, 1) := by decide +kernel
theorem dL_ticks_2 : decode cL_ticks 2 = .ok (.aload_n 0, 1) := by decide +kernel
theorem dL_ticks_3 : decode cL_ticks 3 = .ok (.iload_n 1, 1) := by decide +kernel
theorem dL_ticks_4 : decode cL_ticks 4 = .ok (.invokevirtual 27, 3) := by decide +kernel
theorem dL_ticks_7 : decode cL_ticks 7 = .ok (.i2l, 1) := by decide +kernel
theorem dL_ticks_8 : decode cL_ticks 8 = .ok (.lastore, 1) := by decide +kernel
theorem dL_ticks_9 : decode cL_ticks 9 = .ok (.goto 6, 3) := by decide +kernel
theorem dL_ticks_12 : decode cL_ticks 12 = .ok (.astore_n 3, 1) := by decide +kernel
theorem dL_ticks_13 : decode cL_ticks 13 = .ok (.iconst 1, 1) := by decide +kernel
theorem dL_ticks_14 : decode cL_ticks 14 = .ok (.ireturn, 1) := by decide +kernel
theorem dL_ticks_15 : decode cL_ticks 15 = .ok (.iconst 0, 1) := by decide +kernel
theorem dL_ticks_16 : decode cL_ticks 16 = .ok (.ireturn, 1) := by decide +kernel
theorem dL_about_0 : decode cL_about 0 = .ok (.aload_n 3, 1) := by decide +kernel
theorem dL_about_1 : decode cL_about 1 = .ok (.iconst 0, 1) := by decide +kernel
theorem dL_about_2 : decode cL_about 2 = .ok (.aload_n 0, 1) := by decide +kernel
theorem dL_about_3 : decode cL_about 3 = .ok (.iload_n 1, 1) := by decide +kernel
theorem dL_about_4 : decode cL_about 4 = .ok (.iload_n 2, 1) := by decide +kernel
theorem dL_about_5 : decode cL_about 5 = .ok (.invokevirtual 30, 3) := by decide +kernel
theorem dL_about_8 : decode cL_about 8 = .ok (.i2l, 1) := by decide +kernel
theorem dL_about_9 : decode cL_about 9 = .ok (.lastore, 1) := by decide +kernel
theorem dL_about_10 : decode cL_about 10 = .ok (.goto 11, 3) := by decide +kernel
theorem dL_about_13 : decode cL_about 13 = .ok (.astore 4, 2) := by decide +kernel
theorem dL_about_15 : decode cL_about 15 = .ok (.iconst 1, 1) := by decide +kernel
theorem dL_about_16 : decode cL_about 16 = .ok (.ireturn, 1) := by decide +kernel
theorem dL_about_17 : decode cL_about 17 = .ok (.astore 4, 2) := by decide +kernel
theorem dL_about_19 : decode cL_about 19 = .ok (.iconst 2, 1) := by decide +kernel
theorem dL_about_20 : decode cL_about 20 = .ok (.ireturn, 1) := by decide +kernel
theorem dL_about_21 : decode cL_about 21 = .ok (.iconst 0, 1) := by decide +kernel
theorem dL_about_22 : decode cL_about 22 = .ok (.ireturn, 1) := by decide +kernel
theorem dL_task_0 : decode cL_task 0 = .ok (.aload_n 3, 1) := by decide +kernel
theorem dL_task_1 : decode cL_task 1 = .ok (.iconst 0, 1) := by decide +kernel
theorem dL_task_2 : decode cL_task 2 = .ok (.aload_n 0, 1) := by decide +kernel
theorem dL_task_3 : decode cL_task 3 = .ok (.iload_n 1, 1) := by decide +kernel
theorem dL_task_4 : decode cL_task 4 = .ok (.iload_n 2, 1) := by decide +kernel
theorem dL_task_5 : decode cL_task 5 = .ok (.invokevirtual 36, 3) := by decide +kernel
theorem dL_task_8 : decode cL_task 8 = .ok (.i2l, 1) := by decide +kernel
theorem dL_task_9 : decode cL_task 9 = .ok (.lastore, 1) := by decide +kernel
theorem dL_task_10 : decode cL_task 10 = .ok (.goto 11, 3) := by decide +kernel
theorem dL_task_13 : decode cL_task 13 = .ok (.astore 4, 2) := by decide +kernel
theorem dL_task_15 : decode cL_task 15 = .ok (.iconst 1, 1) := by decide +kernel
theorem dL_task_16 : decode cL_task 16 = .ok (.ireturn, 1) := by decide +kernel
theorem dL_task_17 : decode cL_task 17 = .ok (.astore 4, 2) := by decide +kernel
theorem dL_task_19 : decode cL_task 19 = .ok (.iconst 2, 1) := by decide +kernel
theorem dL_task_20 : decode cL_task 20 = .ok (.ireturn, 1) := by decide +kernel
theorem dL_task_21 : decode cL_task 21 = .ok (.iconst 0, 1) := by decide +kernel
theorem dL_task_22 : decode cL_task 22 = .ok (.ireturn, 1) := by decide +kernel
theorem dL_bound_0 : decode cL_bound 0 = .ok (.aload_n 2, 1) := by decide +kernel
theorem dL_bound_1 : decode cL_bound 1 = .ok (.iconst 0, 1) := by decide +kernel
theorem dL_bound_2 : decode cL_bound 2 = .ok (.aload_n 0, 1) := by decide +kernel
theorem dL_bound_3 : decode cL_bound 3 = .ok (.iload_n 1, 1) := by decide +kernel
theorem dL_bound_4 : decode cL_bound 4 = .ok (.invokevirtual 39, 3) := by decide +kernel
theorem dL_bound_7 : decode cL_bound 7 = .ok (.i2l, 1) := by decide +kernel
theorem dL_bound_8 : decode cL_bound 8 = .ok (.lastore, 1) := by decide +kernel
theorem dL_bound_9 : decode cL_bound 9 = .ok (.goto 6, 3) := by decide +kernel
theorem dL_bound_12 : decode cL_bound 12 = .ok (.astore_n 3, 1) := by decide +kernel
theorem dL_bound_13 : decode cL_bound 13 = .ok (.iconst 1, 1) := by decide +kernel
theorem dL_bound_14 : decode cL_bound 14 = .ok (.ireturn, 1) := by decide +kernel
theorem dL_bound_15 : decode cL_bound 15 = .ok (.iconst 0, 1) := by decide +kernel
theorem dL_bound_16 : decode cL_bound 16 = .ok (.ireturn, 1) := by decide +kernel
theorem dL_used_0 : decode cL_used 0 = .ok (.aload 5, 2) := by decide +kernel
theorem dL_used_2 : decode cL_used 2 = .ok (.iconst 0, 1) := by decide +kernel
theorem dL_used_3 : decode cL_used 3 = .ok (.aload_n 0, 1) := by decide +kernel
theorem dL_used_4 : decode cL_used 4 = .ok (.iload_n 1, 1) := by decide +kernel
theorem dL_used_5 : decode cL_used 5 = .ok (.iload_n 2, 1) := by decide +kernel
theorem dL_used_6 : decode cL_used 6 = .ok (.iload_n 3, 1) := by decide +kernel
theorem dL_used_7 : decode cL_used 7 = .ok (.iload 4, 2) := by decide +kernel
theorem dL_used_9 : decode cL_used 9 = .ok (.invokevirtual 42, 3) := by decide +kernel
theorem dL_used_12 : decode cL_used 12 = .ok (.i2l, 1) := by decide +kernel
theorem dL_used_13 : decode cL_used 13 = .ok (.lastore, 1) := by decide +kernel
theorem dL_used_14 : decode cL_used 14 = .ok (.goto 11, 3) := by decide +kernel
theorem dL_used_17 : decode cL_used 17 = .ok (.astore 6, 2) := by decide +kernel
theorem dL_used_19 : decode cL_used 19 = .ok (.iconst 1, 1) := by decide +kernel
theorem dL_used_20 : decode cL_used 20 = .ok (.ireturn, 1) := by decide +kernel
theorem dL_used_21 : decode cL_used 21 = .ok (.astore 6, 2) := by decide +kernel
theorem dL_used_23 : decode cL_used 23 = .ok (.iconst 2, 1) := by decide +kernel
theorem dL_used_24 : decode cL_used 24 = .ok (.ireturn, 1) := by decide +kernel
theorem dL_used_25 : decode cL_used 25 = .ok (.iconst 0, 1) := by decide +kernel
theorem dL_used_26 : decode cL_used 26 = .ok (.ireturn, 1) := by decide +kernel
theorem dL_floor_0 : decode cL_floor 0 = .ok (.aload_n 2, 1) := by decide +kernel
theorem dL_floor_1 : decode cL_floor 1 = .ok (.iconst 0, 1) := by decide +kernel
theorem dL_floor_2 : decode cL_floor 2 = .ok (.aload_n 0, 1) := by decide +kernel
theorem dL_floor_3 : decode cL_floor 3 = .ok (.iload_n 1, 1) := by decide +kernel
theorem dL_floor_4 : decode cL_floor 4 = .ok (.invokevirtual 46, 3) := by decide +kernel
theorem dL_floor_7 : decode cL_floor 7 = .ok (.i2l, 1) := by decide +kernel
theorem dL_floor_8 : decode cL_floor 8 = .ok (.lastore, 1) := by decide +kernel
theorem dL_floor_9 : decode cL_floor 9 = .ok (.goto 6, 3) := by decide +kernel
theorem dL_floor_12 : decode cL_floor 12 = .ok (.astore_n 3, 1) := by decide +kernel
theorem dL_floor_13 : decode cL_floor 13 = .ok (.iconst 1, 1) := by decide +kernel
theorem dL_floor_14 : decode cL_floor 14 = .ok (.ireturn, 1) := by decide +kernel
theorem dL_floor_15 : decode cL_floor 15 = .ok (.iconst 0, 1) := by decide +kernel
theorem dL_floor_16 : decode cL_floor 16 = .ok (.ireturn, 1) := by decide +kernel
theorem dL_law_0 : decode cL_law 0 = .ok (.new 8, 3) := by decide +kernel
theorem dL_law_3 : decode cL_law 3 = .ok (.dup, 1) := by decide +kernel
theorem dL_law_4 : decode cL_law 4 = .ok (.invokespecial 49, 3) := by decide +kernel
theorem dL_law_7 : decode cL_law 7 = .ok (.astore_n 1, 1) := by decide +kernel
theorem dL_law_8 : decode cL_law 8 = .ok (.new 50, 3) := by decide +kernel
theorem dL_law_11 : decode cL_law 11 = .ok (.dup, 1) := by decide +kernel
theorem dL_law_12 : decode cL_law 12 = .ok (.invokespecial 52, 3) := by decide +kernel
theorem dL_law_15 : decode cL_law 15 = .ok (.astore_n 2, 1) := by decide +kernel
theorem dL_law_16 : decode cL_law 16 = .ok (.iconst 1, 1) := by decide +kernel
theorem dL_law_17 : decode cL_law 17 = .ok (.newarray .long, 2) := by decide +kernel
theorem dL_law_19 : decode cL_law 19 = .ok (.astore_n 3, 1) := by decide +kernel
theorem dL_law_20 : decode cL_law 20 = .ok (.iconst 0, 1) := by decide +kernel
theorem dL_law_21 : decode cL_law 21 = .ok (.istore 4, 2) := by decide +kernel
theorem dL_law_23 : decode cL_law 23 = .ok (.iload 4, 2) := by decide +kernel
theorem dL_law_25 : decode cL_law 25 = .ok (.aload_n 0, 1) := by decide +kernel
theorem dL_law_26 : decode cL_law 26 = .ok (.arraylength, 1) := by decide +kernel
theorem dL_law_27 : decode cL_law 27 = .ok (.bipush 8, 2) := by decide +kernel
theorem dL_law_29 : decode cL_law 29 = .ok (.isub, 1) := by decide +kernel
theorem dL_law_30 : decode cL_law 30 = .ok (.if_icmp .gt 781, 3) := by decide +kernel
theorem dL_law_33 : decode cL_law 33 = .ok (.aload_n 0, 1) := by decide +kernel
theorem dL_law_34 : decode cL_law 34 = .ok (.iload 4, 2) := by decide +kernel
theorem dL_law_36 : decode cL_law 36 = .ok (.iaload, 1) := by decide +kernel
theorem dL_law_37 : decode cL_law 37 = .ok (.bipush 15, 2) := by decide +kernel
theorem dL_law_39 : decode cL_law 39 = .ok (.iand, 1) := by decide +kernel
theorem dL_law_40 : decode cL_law 40 = .ok (.tableswitch 765 0 10 #[60, 172, 271, 327, 340, 396, 464, 532, 588, 696, 752], 60) := by decide +kernel
theorem dL_law_100 : decode cL_law 100 = .ok (.aload_n 1, 1) := by decide +kernel
theorem dL_law_101 : decode cL_law 101 = .ok (.aload_n 0, 1) := by decide +kernel
theorem dL_law_102 : decode cL_law 102 = .ok (.iload 4, 2) := by decide +kernel
theorem dL_law_104 : decode cL_law 104 = .ok (.iconst 1, 1) := by decide +kernel
theorem dL_law_105 : decode cL_law 105 = .ok (.iadd, 1) := by decide +kernel
theorem dL_law_106 : decode cL_law 106 = .ok (.iaload, 1) := by decide +kernel
theorem dL_law_107 : decode cL_law 107 = .ok (.aload_n 0, 1) := by decide +kernel
theorem dL_law_108 : decode cL_law 108 = .ok (.iload 4, 2) := by decide +kernel
theorem dL_law_110 : decode cL_law 110 = .ok (.iconst 2, 1) := by decide +kernel
theorem dL_law_111 : decode cL_law 111 = .ok (.iadd, 1) := by decide +kernel
theorem dL_law_112 : decode cL_law 112 = .ok (.iaload, 1) := by decide +kernel
theorem dL_law_113 : decode cL_law 113 = .ok (.aload_n 0, 1) := by decide +kernel
theorem dL_law_114 : decode cL_law 114 = .ok (.iload 4, 2) := by decide +kernel
theorem dL_law_116 : decode cL_law 116 = .ok (.iconst 3, 1) := by decide +kernel
theorem dL_law_117 : decode cL_law 117 = .ok (.iadd, 1) := by decide +kernel
theorem dL_law_118 : decode cL_law 118 = .ok (.iaload, 1) := by decide +kernel
theorem dL_law_119 : decode cL_law 119 = .ok (.aload_n 0, 1) := by decide +kernel
theorem dL_law_120 : decode cL_law 120 = .ok (.iload 4, 2) := by decide +kernel
theorem dL_law_122 : decode cL_law 122 = .ok (.iconst 4, 1) := by decide +kernel
theorem dL_law_123 : decode cL_law 123 = .ok (.iadd, 1) := by decide +kernel
theorem dL_law_124 : decode cL_law 124 = .ok (.iaload, 1) := by decide +kernel
theorem dL_law_125 : decode cL_law 125 = .ok (.aload_n 0, 1) := by decide +kernel
theorem dL_law_126 : decode cL_law 126 = .ok (.iload 4, 2) := by decide +kernel
theorem dL_law_128 : decode cL_law 128 = .ok (.iconst 5, 1) := by decide +kernel
theorem dL_law_129 : decode cL_law 129 = .ok (.iadd, 1) := by decide +kernel
theorem dL_law_130 : decode cL_law 130 = .ok (.iaload, 1) := by decide +kernel
theorem dL_law_131 : decode cL_law 131 = .ok (.aload_n 0, 1) := by decide +kernel
theorem dL_law_132 : decode cL_law 132 = .ok (.iload 4, 2) := by decide +kernel
theorem dL_law_134 : decode cL_law 134 = .ok (.bipush 6, 2) := by decide +kernel
theorem dL_law_136 : decode cL_law 136 = .ok (.iadd, 1) := by decide +kernel
theorem dL_law_137 : decode cL_law 137 = .ok (.iaload, 1) := by decide +kernel
theorem dL_law_138 : decode cL_law 138 = .ok (.aload_n 0, 1) := by decide +kernel
theorem dL_law_139 : decode cL_law 139 = .ok (.iload 4, 2) := by decide +kernel
theorem dL_law_141 : decode cL_law 141 = .ok (.bipush 7, 2) := by decide +kernel
theorem dL_law_143 : decode cL_law 143 = .ok (.iadd, 1) := by decide +kernel
theorem dL_law_144 : decode cL_law 144 = .ok (.iaload, 1) := by decide +kernel
theorem dL_law_145 : decode cL_law 145 = .ok (.invokestatic 53, 3) := by decide +kernel
theorem dL_law_148 : decode cL_law 148 = .ok (.istore 5, 2) := by decide +kernel
theorem dL_law_150 : decode cL_law 150 = .ok (.aload_n 2, 1) := by decide +kernel
theorem dL_law_151 : decode cL_law 151 = .ok (.aload_n 0, 1) := by decide +kernel
theorem dL_law_152 : decode cL_law 152 = .ok (.iload 4, 2) := by decide +kernel
theorem dL_law_154 : decode cL_law 154 = .ok (.iconst 1, 1) := by decide +kernel
theorem dL_law_155 : decode cL_law 155 = .ok (.iadd, 1) := by decide +kernel
theorem dL_law_156 : decode cL_law 156 = .ok (.iaload, 1) := by decide +kernel
theorem dL_law_157 : decode cL_law 157 = .ok (.aload_n 0, 1) := by decide +kernel
theorem dL_law_158 : decode cL_law 158 = .ok (.iload 4, 2) := by decide +kernel
theorem dL_law_160 : decode cL_law 160 = .ok (.iconst 2, 1) := by decide +kernel
theorem dL_law_161 : decode cL_law 161 = .ok (.iadd, 1) := by decide +kernel
theorem dL_law_162 : decode cL_law 162 = .ok (.iaload, 1) := by decide +kernel
theorem dL_law_163 : decode cL_law 163 = .ok (.aload_n 0, 1) := by decide +kernel
theorem dL_law_164 : decode cL_law 164 = .ok (.iload 4, 2) := by decide +kernel
theorem dL_law_166 : decode cL_law 166 = .ok (.iconst 3, 1) := by decide +kernel
theorem dL_law_167 : decode cL_law 167 = .ok (.iadd, 1) := by decide +kernel
theorem dL_law_168 : decode cL_law 168 = .ok (.iaload, 1) := by decide +kernel
theorem dL_law_169 : decode cL_law 169 = .ok (.aload_n 0, 1) := by decide +kernel
theorem dL_law_170 : decode cL_law 170 = .ok (.iload 4, 2) := by decide +kernel
theorem dL_law_172 : decode cL_law 172 = .ok (.iconst 4, 1) := by decide +kernel
theorem dL_law_173 : decode cL_law 173 = .ok (.iadd, 1) := by decide +kernel
theorem dL_law_174 : decode cL_law 174 = .ok (.iaload, 1) := by decide +kernel
theorem dL_law_175 : decode cL_law 175 = .ok (.aload_n 0, 1) := by decide +kernel
theorem dL_law_176 : decode cL_law 176 = .ok (.iload 4, 2) := by decide +kernel
theorem dL_law_178 : decode cL_law 178 = .ok (.iconst 5, 1) := by decide +kernel
theorem dL_law_179 : decode cL_law 179 = .ok (.iadd, 1) := by decide +kernel
theorem dL_law_180 : decode cL_law 180 = .ok (.iaload, 1) := by decide +kernel
theorem dL_law_181 : decode cL_law 181 = .ok (.aload_n 0, 1) := by decide +kernel
theorem dL_law_182 : decode cL_law 182 = .ok (.iload 4, 2) := by decide +kernel
theorem dL_law_184 : decode cL_law 184 = .ok (.bipush 6, 2) := by decide +kernel
theorem dL_law_186 : decode cL_law 186 = .ok (.iadd, 1) := by decide +kernel
theorem dL_law_187 : decode cL_law 187 = .ok (.iaload, 1) := by decide +kernel
theorem dL_law_188 : decode cL_law 188 = .ok (.aload_n 0, 1) := by decide +kernel
theorem dL_law_189 : decode cL_law 189 = .ok (.iload 4, 2) := by decide +kernel
theorem dL_law_191 : decode cL_law 191 = .ok (.bipush 7, 2) := by decide +kernel
theorem dL_law_193 : decode cL_law 193 = .ok (.iadd, 1) := by decide +kernel
theorem dL_law_194 : decode cL_law 194 = .ok (.iaload, 1) := by decide +kernel
theorem dL_law_195 : decode cL_law 195 = .ok (.invokevirtual 58, 3) := by decide +kernel
theorem dL_law_198 : decode cL_law 198 = .ok (.aload_n 2, 1) := by decide +kernel
theorem dL_law_199 : decode cL_law 199 = .ok (.invokevirtual 59, 3) := by decide +kernel
theorem dL_law_202 : decode cL_law 202 = .ok (.iload 5, 2) := by decide +kernel
theorem dL_law_204 : decode cL_law 204 = .ok (.if_icmp .eq 5, 3) := by decide +kernel
theorem dL_law_207 : decode cL_law 207 = .ok (.iconst 0, 1) := by decide +kernel
theorem dL_law_208 : decode cL_law 208 = .ok (.ireturn, 1) := by decide +kernel
theorem dL_law_209 : decode cL_law 209 = .ok (.goto 596, 3) := by decide +kernel
theorem dL_law_212 : decode cL_law 212 = .ok (.aload_n 1, 1) := by decide +kernel
theorem dL_law_213 : decode cL_law 213 = .ok (.aload_n 0, 1) := by decide +kernel
theorem dL_law_214 : decode cL_law 214 = .ok (.iload 4, 2) := by decide +kernel
theorem dL_law_216 : decode cL_law 216 = .ok (.iconst 1, 1) := by decide +kernel
theorem dL_law_217 : decode cL_law 217 = .ok (.iadd, 1) := by decide +kernel
theorem dL_law_218 : decode cL_law 218 = .ok (.iaload, 1) := by decide +kernel
theorem dL_law_219 : decode cL_law 219 = .ok (.aload_n 0, 1) := by decide +kernel
theorem dL_law_220 : decode cL_law 220 = .ok (.iload 4, 2) := by decide +kernel
theorem dL_law_222 : decode cL_law 222 = .ok (.iconst 2, 1) := by decide +kernel
theorem dL_law_223 : decode cL_law 223 = .ok (.iadd, 1) := by decide +kernel
theorem dL_law_224 : decode cL_law 224 = .ok (.iaload, 1) := by decide +kernel
theorem dL_law_225 : decode cL_law 225 = .ok (.aload_n 0, 1) := by decide +kernel
theorem dL_law_226 : decode cL_law 226 = .ok (.iload 4, 2) := by decide +kernel
theorem dL_law_228 : decode cL_law 228 = .ok (.iconst 3, 1) := by decide +kernel
theorem dL_law_229 : decode cL_law 229 = .ok (.iadd, 1) := by decide +kernel
theorem dL_law_230 : decode cL_law 230 = .ok (.iaload, 1) := by decide +kernel
theorem dL_law_231 : decode cL_law 231 = .ok (.aload_n 0, 1) := by decide +kernel
theorem dL_law_232 : decode cL_law 232 = .ok (.iload 4, 2) := by decide +kernel
theorem dL_law_234 : decode cL_law 234 = .ok (.iconst 4, 1) := by decide +kernel
theorem dL_law_235 : decode cL_law 235 = .ok (.iadd, 1) := by decide +kernel
theorem dL_law_236 : decode cL_law 236 = .ok (.iaload, 1) := by decide +kernel
theorem dL_law_237 : decode cL_law 237 = .ok (.aload_n 3, 1) := by decide +kernel
theorem dL_law_238 : decode cL_law 238 = .ok (.invokestatic 63, 3) := by decide +kernel
theorem dL_law_241 : decode cL_law 241 = .ok (.istore 5, 2) := by decide +kernel
theorem dL_law_243 : decode cL_law 243 = .ok (.aload_n 2, 1) := by decide +kernel
theorem dL_law_244 : decode cL_law 244 = .ok (.aload_n 0, 1) := by decide +kernel
theorem dL_law_245 : decode cL_law 245 = .ok (.iload 4, 2) := by decide +kernel
theorem dL_law_247 : decode cL_law 247 = .ok (.iconst 1, 1) := by decide +kernel
theorem dL_law_248 : decode cL_law 248 = .ok (.iadd, 1) := by decide +kernel
theorem dL_law_249 : decode cL_law 249 = .ok (.iaload, 1) := by decide +kernel
theorem dL_law_250 : decode cL_law 250 = .ok (.aload_n 0, 1) := by decide +kernel
theorem dL_law_251 : decode cL_law 251 = .ok (.iload 4, 2) := by decide +kernel
theorem dL_law_253 : decode cL_law 253 = .ok (.iconst 2, 1) := by decide +kernel
theorem dL_law_254 : decode cL_law 254 = .ok (.iadd, 1) := by decide +kernel
theorem dL_law_255 : decode cL_law 255 = .ok (.iaload, 1) := by decide +kernel
theorem dL_law_256 : decode cL_law 256 = .ok (.aload_n 0, 1) := by decide +kernel
theorem dL_law_257 : decode cL_law 257 = .ok (.iload 4, 2) := by decide +kernel
theorem dL_law_259 : decode cL_law 259 = .ok (.iconst 3, 1) := by decide +kernel
theorem dL_law_260 : decode cL_law 260 = .ok (.iadd, 1) := by decide +kernel
theorem dL_law_261 : decode cL_law 261 = .ok (.iaload, 1) := by decide +kernel
theorem dL_law_262 : decode cL_law 262 = .ok (.aload_n 0, 1) := by decide +kernel
theorem dL_law_263 : decode cL_law 263 = .ok (.iload 4, 2) := by decide +kernel
theorem dL_law_265 : decode cL_law 265 = .ok (.iconst 4, 1) := by decide +kernel
theorem dL_law_266 : decode cL_law 266 = .ok (.iadd, 1) := by decide +kernel
theorem dL_law_267 : decode cL_law 267 = .ok (.iaload, 1) := by decide +kernel
theorem dL_law_268 : decode cL_law 268 = .ok (.invokevirtual 66, 3) := by decide +kernel
theorem dL_law_271 : decode cL_law 271 = .ok (.istore 6, 2) := by decide +kernel
theorem dL_law_273 : decode cL_law 273 = .ok (.aload_n 2, 1) := by decide +kernel
theorem dL_law_274 : decode cL_law 274 = .ok (.invokevirtual 59, 3) := by decide +kernel
theorem dL_law_277 : decode cL_law 277 = .ok (.iload 5, 2) := by decide +kernel
theorem dL_law_279 : decode cL_law 279 = .ok (.if_icmp .eq 5, 3) := by decide +kernel
theorem dL_law_282 : decode cL_law 282 = .ok (.iconst 0, 1) := by decide +kernel
theorem dL_law_283 : decode cL_law 283 = .ok (.ireturn, 1) := by decide +kernel
theorem dL_law_284 : decode cL_law 284 = .ok (.iload 5, 2) := by decide +kernel
theorem dL_law_286 : decode cL_law 286 = .ok (.ifCond .ne 22, 3) := by decide +kernel
theorem dL_law_289 : decode cL_law 289 = .ok (.aload_n 3, 1) := by decide +kernel
theorem dL_law_290 : decode cL_law 290 = .ok (.iconst 0, 1) := by decide +kernel
theorem dL_law_291 : decode cL_law 291 = .ok (.laload, 1) := by decide +kernel
theorem dL_law_292 : decode cL_law 292 = .ok (.iload 6, 2) := by decide +kernel
theorem dL_law_294 : decode cL_law 294 = .ok (.ifCond .eq 7, 3) := by decide +kernel
theorem dL_law_297 : decode cL_law 297 = .ok (.lconst 1, 1) := by decide +kernel
theorem dL_law_298 : decode cL_law 298 = .ok (.goto 4, 3) := by decide +kernel
theorem dL_law_301 : decode cL_law 301 = .ok (.lconst 0, 1) := by decide +kernel
theorem dL_law_302 : decode cL_law 302 = .ok (.lcmp, 1) := by decide +kernel
theorem dL_law_303 : decode cL_law 303 = .ok (.ifCond .eq 5, 3) := by decide +kernel
theorem dL_law_306 : decode cL_law 306 = .ok (.iconst 0, 1) := by decide +kernel
theorem dL_law_307 : decode cL_law 307 = .ok (.ireturn, 1) := by decide +kernel
theorem dL_law_308 : decode cL_law 308 = .ok (.goto 497, 3) := by decide +kernel
theorem dL_law_311 : decode cL_law 311 = .ok (.aload_n 1, 1) := by decide +kernel
theorem dL_law_312 : decode cL_law 312 = .ok (.aload_n 0, 1) := by decide +kernel
theorem dL_law_313 : decode cL_law 313 = .ok (.iload 4, 2) := by decide +kernel
theorem dL_law_315 : decode cL_law 315 = .ok (.iconst 1, 1) := by decide +kernel
theorem dL_law_316 : decode cL_law 316 = .ok (.iadd, 1) := by decide +kernel
theorem dL_law_317 : decode cL_law 317 = .ok (.iaload, 1) := by decide +kernel
theorem dL_law_318 : decode cL_law 318 = .ok (.aload_n 3, 1) := by decide +kernel
theorem dL_law_319 : decode cL_law 319 = .ok (.invokestatic 67, 3) := by decide +kernel
theorem dL_law_322 : decode cL_law 322 = .ok (.istore 5, 2) := by decide +kernel
theorem dL_law_324 : decode cL_law 324 = .ok (.aload_n 2, 1) := by decide +kernel
theorem dL_law_325 : decode cL_law 325 = .ok (.aload_n 0, 1) := by decide +kernel
theorem dL_law_326 : decode cL_law 326 = .ok (.iload 4, 2) := by decide +kernel
theorem dL_law_328 : decode cL_law 328 = .ok (.iconst 1, 1) := by decide +kernel
theorem dL_law_329 : decode cL_law 329 = .ok (.iadd, 1) := by decide +kernel
theorem dL_law_330 : decode cL_law 330 = .ok (.iaload, 1) := by decide +kernel
theorem dL_law_331 : decode cL_law 331 = .ok (.invokevirtual 70, 3) := by decide +kernel
theorem dL_law_334 : decode cL_law 334 = .ok (.istore 6, 2) := by decide +kernel
theorem dL_law_336 : decode cL_law 336 = .ok (.aload_n 2, 1) := by decide +kernel
theorem dL_law_337 : decode cL_law 337 = .ok (.invokevirtual 59, 3) := by decide +kernel
theorem dL_law_340 : decode cL_law 340 = .ok (.iload 5, 2) := by decide +kernel
theorem dL_law_342 : decode cL_law 342 = .ok (.if_icmp .eq 5, 3) := by decide +kernel
theorem dL_law_345 : decode cL_law 345 = .ok (.iconst 0, 1) := by decide +kernel
theorem dL_law_346 : decode cL_law 346 = .ok (.ireturn, 1) := by decide +kernel
theorem dL_law_347 : decode cL_law 347 = .ok (.iload 5, 2) := by decide +kernel
theorem dL_law_349 : decode cL_law 349 = .ok (.ifCond .ne 15, 3) := by decide +kernel
theorem dL_law_352 : decode cL_law 352 = .ok (.aload_n 3, 1) := by decide +kernel
theorem dL_law_353 : decode cL_law 353 = .ok (.iconst 0, 1) := by decide +kernel
theorem dL_law_354 : decode cL_law 354 = .ok (.laload, 1) := by decide +kernel
theorem dL_law_355 : decode cL_law 355 = .ok (.iload 6, 2) := by decide +kernel
theorem dL_law_357 : decode cL_law 357 = .ok (.i2l, 1) := by decide +kernel
theorem dL_law_358 : decode cL_law 358 = .ok (.lcmp, 1) := by decide +kernel
theorem dL_law_359 : decode cL_law 359 = .ok (.ifCond .eq 5, 3) := by decide +kernel
theorem dL_law_362 : decode cL_law 362 = .ok (.iconst 0, 1) := by decide +kernel
theorem dL_law_363 : decode cL_law 363 = .ok (.ireturn, 1) := by decide +kernel
theorem dL_law_364 : decode cL_law 364 = .ok (.goto 441, 3) := by decide +kernel
theorem dL_law_367 : decode cL_law 367 = .ok (.aload_n 1, 1) := by decide +kernel
theorem dL_law_368 : decode cL_law 368 = .ok (.invokevirtual 71, 3) := by decide +kernel
theorem dL_law_371 : decode cL_law 371 = .ok (.aload_n 2, 1) := by decide +kernel
theorem dL_law_372 : decode cL_law 372 = .ok (.invokevirtual 74, 3) := by decide +kernel
theorem dL_law_375 : decode cL_law 375 = .ok (.if_icmp .eq 430, 3) := by decide +kernel
theorem dL_law_378 : decode cL_law 378 = .ok (.iconst 0, 1) := by decide +kernel
theorem dL_law_379 : decode cL_law 379 = .ok (.ireturn, 1) := by decide +kernel
theorem dL_law_380 : decode cL_law 380 = .ok (.aload_n 1, 1) := by decide +kernel
theorem dL_law_381 : decode cL_law 381 = .ok (.aload_n 0, 1) := by decide +kernel
theorem dL_law_382 : decode cL_law 382 = .ok (.iload 4, 2) := by decide +kernel
theorem dL_law_384 : decode cL_law 384 = .ok (.iconst 1, 1) := by decide +kernel
theorem dL_law_385 : decode cL_law 385 = .ok (.iadd, 1) := by decide +kernel
theorem dL_law_386 : decode cL_law 386 = .ok (.iaload, 1) := by decide +kernel
theorem dL_law_387 : decode cL_law 387 = .ok (.aload_n 3, 1) := by decide +kernel
theorem dL_law_388 : decode cL_law 388 = .ok (.invokestatic 75, 3) := by decide +kernel
theorem dL_law_391 : decode cL_law 391 = .ok (.istore 5, 2) := by decide +kernel
theorem dL_law_393 : decode cL_law 393 = .ok (.aload_n 2, 1) := by decide +kernel
theorem dL_law_394 : decode cL_law 394 = .ok (.aload_n 0, 1) := by decide +kernel
theorem dL_law_395 : decode cL_law 395 = .ok (.iload 4, 2) := by decide +kernel
theorem dL_law_397 : decode cL_law 397 = .ok (.iconst 1, 1) := by decide +kernel
theorem dL_law_398 : decode cL_law 398 = .ok (.iadd, 1) := by decide +kernel
theorem dL_law_399 : decode cL_law 399 = .ok (.iaload, 1) := by decide +kernel
theorem dL_law_400 : decode cL_law 400 = .ok (.invokevirtual 77, 3) := by decide +kernel
theorem dL_law_403 : decode cL_law 403 = .ok (.istore 6, 2) := by decide +kernel
theorem dL_law_405 : decode cL_law 405 = .ok (.aload_n 2, 1) := by decide +kernel
theorem dL_law_406 : decode cL_law 406 = .ok (.invokevirtual 59, 3) := by decide +kernel
theorem dL_law_409 : decode cL_law 409 = .ok (.iload 5, 2) := by decide +kernel
theorem dL_law_411 : decode cL_law 411 = .ok (.if_icmp .eq 5, 3) := by decide +kernel
theorem dL_law_414 : decode cL_law 414 = .ok (.iconst 0, 1) := by decide +kernel
theorem dL_law_415 : decode cL_law 415 = .ok (.ireturn, 1) := by decide +kernel
theorem dL_law_416 : decode cL_law 416 = .ok (.iload 5, 2) := by decide +kernel
theorem dL_law_418 : decode cL_law 418 = .ok (.ifCond .ne 15, 3) := by decide +kernel
theorem dL_law_421 : decode cL_law 421 = .ok (.aload_n 3, 1) := by decide +kernel
theorem dL_law_422 : decode cL_law 422 = .ok (.iconst 0, 1) := by decide +kernel
theorem dL_law_423 : decode cL_law 423 = .ok (.laload, 1) := by decide +kernel
theorem dL_law_424 : decode cL_law 424 = .ok (.iload 6, 2) := by decide +kernel
theorem dL_law_426 : decode cL_law 426 = .ok (.i2l, 1) := by decide +kernel
theorem dL_law_427 : decode cL_law 427 = .ok (.lcmp, 1) := by decide +kernel
theorem dL_law_428 : decode cL_law 428 = .ok (.ifCond .eq 5, 3) := by decide +kernel
theorem dL_law_431 : decode cL_law 431 = .ok (.iconst 0, 1) := by decide +kernel
theorem dL_law_432 : decode cL_law 432 = .ok (.ireturn, 1) := by decide +kernel
theorem dL_law_433 : decode cL_law 433 = .ok (.goto 372, 3) := by decide +kernel
theorem dL_law_436 : decode cL_law 436 = .ok (.aload_n 1, 1) := by decide +kernel
theorem dL_law_437 : decode cL_law 437 = .ok (.aload_n 0, 1) := by decide +kernel
theorem dL_law_438 : decode cL_law 438 = .ok (.iload 4, 2) := by decide +kernel
theorem dL_law_440 : decode cL_law 440 = .ok (.iconst 1, 1) := by decide +kernel
theorem dL_law_441 : decode cL_law 441 = .ok (.iadd, 1) := by decide +kernel
theorem dL_law_442 : decode cL_law 442 = .ok (.iaload, 1) := by decide +kernel
theorem dL_law_443 : decode cL_law 443 = .ok (.aload_n 0, 1) := by decide +kernel
theorem dL_law_444 : decode cL_law 444 = .ok (.iload 4, 2) := by decide +kernel
theorem dL_law_446 : decode cL_law 446 = .ok (.iconst 2, 1) := by decide +kernel
theorem dL_law_447 : decode cL_law 447 = .ok (.iadd, 1) := by decide +kernel
theorem dL_law_448 : decode cL_law 448 = .ok (.iaload, 1) := by decide +kernel
theorem dL_law_449 : decode cL_law 449 = .ok (.aload_n 3, 1) := by decide +kernel
theorem dL_law_450 : decode cL_law 450 = .ok (.invokestatic 78, 3) := by decide +kernel
theorem dL_law_453 : decode cL_law 453 = .ok (.istore 5, 2) := by decide +kernel
theorem dL_law_455 : decode cL_law 455 = .ok (.aload_n 2, 1) := by decide +kernel
theorem dL_law_456 : decode cL_law 456 = .ok (.aload_n 0, 1) := by decide +kernel
theorem dL_law_457 : decode cL_law 457 = .ok (.iload 4, 2) := by decide +kernel
theorem dL_law_459 : decode cL_law 459 = .ok (.iconst 1, 1) := by decide +kernel
theorem dL_law_460 : decode cL_law 460 = .ok (.iadd, 1) := by decide +kernel
theorem dL_law_461 : decode cL_law 461 = .ok (.iaload, 1) := by decide +kernel
theorem dL_law_462 : decode cL_law 462 = .ok (.aload_n 0, 1) := by decide +kernel
theorem dL_law_463 : decode cL_law 463 = .ok (.iload 4, 2) := by decide +kernel
theorem dL_law_465 : decode cL_law 465 = .ok (.iconst 2, 1) := by decide +kernel
theorem dL_law_466 : decode cL_law 466 = .ok (.iadd, 1) := by decide +kernel
theorem dL_law_467 : decode cL_law 467 = .ok (.iaload, 1) := by decide +kernel
theorem dL_law_468 : decode cL_law 468 = .ok (.invokevirtual 81, 3) := by decide +kernel
theorem dL_law_471 : decode cL_law 471 = .ok (.istore 6, 2) := by decide +kernel
theorem dL_law_473 : decode cL_law 473 = .ok (.aload_n 2, 1) := by decide +kernel
theorem dL_law_474 : decode cL_law 474 = .ok (.invokevirtual 59, 3) := by decide +kernel
theorem dL_law_477 : decode cL_law 477 = .ok (.iload 5, 2) := by decide +kernel
theorem dL_law_479 : decode cL_law 479 = .ok (.if_icmp .eq 5, 3) := by decide +kernel
theorem dL_law_482 : decode cL_law 482 = .ok (.iconst 0, 1) := by decide +kernel
theorem dL_law_483 : decode cL_law 483 = .ok (.ireturn, 1) := by decide +kernel
theorem dL_law_484 : decode cL_law 484 = .ok (.iload 5, 2) := by decide +kernel
theorem dL_law_486 : decode cL_law 486 = .ok (.ifCond .ne 15, 3) := by decide +kernel
theorem dL_law_489 : decode cL_law 489 = .ok (.aload_n 3, 1) := by decide +kernel
theorem dL_law_490 : decode cL_law 490 = .ok (.iconst 0, 1) := by decide +kernel
theorem dL_law_491 : decode cL_law 491 = .ok (.laload, 1) := by decide +kernel
theorem dL_law_492 : decode cL_law 492 = .ok (.iload 6, 2) := by decide +kernel
theorem dL_law_494 : decode cL_law 494 = .ok (.i2l, 1) := by decide +kernel
theorem dL_law_495 : decode cL_law 495 = .ok (.lcmp, 1) := by decide +kernel
theorem dL_law_496 : decode cL_law 496 = .ok (.ifCond .eq 5, 3) := by decide +kernel
theorem dL_law_499 : decode cL_law 499 = .ok (.iconst 0, 1) := by decide +kernel
theorem dL_law_500 : decode cL_law 500 = .ok (.ireturn, 1) := by decide +kernel
theorem dL_law_501 : decode cL_law 501 = .ok (.goto 304, 3) := by decide +kernel
theorem dL_law_504 : decode cL_law 504 = .ok (.aload_n 1, 1) := by decide +kernel
theorem dL_law_505 : decode cL_law 505 = .ok (.aload_n 0, 1) := by decide +kernel
theorem dL_law_506 : decode cL_law 506 = .ok (.iload 4, 2) := by decide +kernel
theorem dL_law_508 : decode cL_law 508 = .ok (.iconst 1, 1) := by decide +kernel
theorem dL_law_509 : decode cL_law 509 = .ok (.iadd, 1) := by decide +kernel
theorem dL_law_510 : decode cL_law 510 = .ok (.iaload, 1) := by decide +kernel
theorem dL_law_511 : decode cL_law 511 = .ok (.aload_n 0, 1) := by decide +kernel
theorem dL_law_512 : decode cL_law 512 = .ok (.iload 4, 2) := by decide +kernel
theorem dL_law_514 : decode cL_law 514 = .ok (.iconst 2, 1) := by decide +kernel
theorem dL_law_515 : decode cL_law 515 = .ok (.iadd, 1) := by decide +kernel
theorem dL_law_516 : decode cL_law 516 = .ok (.iaload, 1) := by decide +kernel
theorem dL_law_517 : decode cL_law 517 = .ok (.aload_n 3, 1) := by decide +kernel
theorem dL_law_518 : decode cL_law 518 = .ok (.invokestatic 82, 3) := by decide +kernel
theorem dL_law_521 : decode cL_law 521 = .ok (.istore 5, 2) := by decide +kernel
theorem dL_law_523 : decode cL_law 523 = .ok (.aload_n 2, 1) := by decide +kernel
theorem dL_law_524 : decode cL_law 524 = .ok (.aload_n 0, 1) := by decide +kernel
theorem dL_law_525 : decode cL_law 525 = .ok (.iload 4, 2) := by decide +kernel
theorem dL_law_527 : decode cL_law 527 = .ok (.iconst 1, 1) := by decide +kernel
theorem dL_law_528 : decode cL_law 528 = .ok (.iadd, 1) := by decide +kernel
theorem dL_law_529 : decode cL_law 529 = .ok (.iaload, 1) := by decide +kernel
theorem dL_law_530 : decode cL_law 530 = .ok (.aload_n 0, 1) := by decide +kernel
theorem dL_law_531 : decode cL_law 531 = .ok (.iload 4, 2) := by decide +kernel
theorem dL_law_533 : decode cL_law 533 = .ok (.iconst 2, 1) := by decide +kernel
theorem dL_law_534 : decode cL_law 534 = .ok (.iadd, 1) := by decide +kernel
theorem dL_law_535 : decode cL_law 535 = .ok (.iaload, 1) := by decide +kernel
theorem dL_law_536 : decode cL_law 536 = .ok (.invokevirtual 84, 3) := by decide +kernel
theorem dL_law_539 : decode cL_law 539 = .ok (.istore 6, 2) := by decide +kernel
theorem dL_law_541 : decode cL_law 541 = .ok (.aload_n 2, 1) := by decide +kernel
theorem dL_law_542 : decode cL_law 542 = .ok (.invokevirtual 59, 3) := by decide +kernel
theorem dL_law_545 : decode cL_law 545 = .ok (.iload 5, 2) := by decide +kernel
theorem dL_law_547 : decode cL_law 547 = .ok (.if_icmp .eq 5, 3) := by decide +kernel
theorem dL_law_550 : decode cL_law 550 = .ok (.iconst 0, 1) := by decide +kernel
theorem dL_law_551 : decode cL_law 551 = .ok (.ireturn, 1) := by decide +kernel
theorem dL_law_552 : decode cL_law 552 = .ok (.iload 5, 2) := by decide +kernel
theorem dL_law_554 : decode cL_law 554 = .ok (.ifCond .ne 15, 3) := by decide +kernel
theorem dL_law_557 : decode cL_law 557 = .ok (.aload_n 3, 1) := by decide +kernel
theorem dL_law_558 : decode cL_law 558 = .ok (.iconst 0, 1) := by decide +kernel
theorem dL_law_559 : decode cL_law 559 = .ok (.laload, 1) := by decide +kernel
theorem dL_law_560 : decode cL_law 560 = .ok (.iload 6, 2) := by decide +kernel
theorem dL_law_562 : decode cL_law 562 = .ok (.i2l, 1) := by decide +kernel
theorem dL_law_563 : decode cL_law 563 = .ok (.lcmp, 1) := by decide +kernel
theorem dL_law_564 : decode cL_law 564 = .ok (.ifCond .eq 5, 3) := by decide +kernel
theorem dL_law_567 : decode cL_law 567 = .ok (.iconst 0, 1) := by decide +kernel
theorem dL_law_568 : decode cL_law 568 = .ok (.ireturn, 1) := by decide +kernel
theorem dL_law_569 : decode cL_law 569 = .ok (.goto 236, 3) := by decide +kernel
theorem dL_law_572 : decode cL_law 572 = .ok (.aload_n 1, 1) := by decide +kernel
theorem dL_law_573 : decode cL_law 573 = .ok (.aload_n 0, 1) := by decide +kernel
theorem dL_law_574 : decode cL_law 574 = .ok (.iload 4, 2) := by decide +kernel
theorem dL_law_576 : decode cL_law 576 = .ok (.iconst 1, 1) := by decide +kernel
theorem dL_law_577 : decode cL_law 577 = .ok (.iadd, 1) := by decide +kernel
theorem dL_law_578 : decode cL_law 578 = .ok (.iaload, 1) := by decide +kernel
theorem dL_law_579 : decode cL_law 579 = .ok (.aload_n 3, 1) := by decide +kernel
theorem dL_law_580 : decode cL_law 580 = .ok (.invokestatic 85, 3) := by decide +kernel
theorem dL_law_583 : decode cL_law 583 = .ok (.istore 5, 2) := by decide +kernel
theorem dL_law_585 : decode cL_law 585 = .ok (.aload_n 2, 1) := by decide +kernel
theorem dL_law_586 : decode cL_law 586 = .ok (.aload_n 0, 1) := by decide +kernel
theorem dL_law_587 : decode cL_law 587 = .ok (.iload 4, 2) := by decide +kernel
theorem dL_law_589 : decode cL_law 589 = .ok (.iconst 1, 1) := by decide +kernel
theorem dL_law_590 : decode cL_law 590 = .ok (.iadd, 1) := by decide +kernel
theorem dL_law_591 : decode cL_law 591 = .ok (.iaload, 1) := by decide +kernel
theorem dL_law_592 : decode cL_law 592 = .ok (.invokevirtual 87, 3) := by decide +kernel
theorem dL_law_595 : decode cL_law 595 = .ok (.istore 6, 2) := by decide +kernel
theorem dL_law_597 : decode cL_law 597 = .ok (.aload_n 2, 1) := by decide +kernel
theorem dL_law_598 : decode cL_law 598 = .ok (.invokevirtual 59, 3) := by decide +kernel
theorem dL_law_601 : decode cL_law 601 = .ok (.iload 5, 2) := by decide +kernel
theorem dL_law_603 : decode cL_law 603 = .ok (.if_icmp .eq 5, 3) := by decide +kernel
theorem dL_law_606 : decode cL_law 606 = .ok (.iconst 0, 1) := by decide +kernel
theorem dL_law_607 : decode cL_law 607 = .ok (.ireturn, 1) := by decide +kernel
theorem dL_law_608 : decode cL_law 608 = .ok (.iload 5, 2) := by decide +kernel
theorem dL_law_610 : decode cL_law 610 = .ok (.ifCond .ne 15, 3) := by decide +kernel
theorem dL_law_613 : decode cL_law 613 = .ok (.aload_n 3, 1) := by decide +kernel
theorem dL_law_614 : decode cL_law 614 = .ok (.iconst 0, 1) := by decide +kernel
theorem dL_law_615 : decode cL_law 615 = .ok (.laload, 1) := by decide +kernel
theorem dL_law_616 : decode cL_law 616 = .ok (.iload 6, 2) := by decide +kernel
theorem dL_law_618 : decode cL_law 618 = .ok (.i2l, 1) := by decide +kernel
theorem dL_law_619 : decode cL_law 619 = .ok (.lcmp, 1) := by decide +kernel
theorem dL_law_620 : decode cL_law 620 = .ok (.ifCond .eq 5, 3) := by decide +kernel
theorem dL_law_623 : decode cL_law 623 = .ok (.iconst 0, 1) := by decide +kernel
theorem dL_law_624 : decode cL_law 624 = .ok (.ireturn, 1) := by decide +kernel
theorem dL_law_625 : decode cL_law 625 = .ok (.goto 180, 3) := by decide +kernel
theorem dL_law_628 : decode cL_law 628 = .ok (.aload_n 1, 1) := by decide +kernel
theorem dL_law_629 : decode cL_law 629 = .ok (.aload_n 0, 1) := by decide +kernel
theorem dL_law_630 : decode cL_law 630 = .ok (.iload 4, 2) := by decide +kernel
theorem dL_law_632 : decode cL_law 632 = .ok (.iconst 1, 1) := by decide +kernel
theorem dL_law_633 : decode cL_law 633 = .ok (.iadd, 1) := by decide +kernel
theorem dL_law_634 : decode cL_law 634 = .ok (.iaload, 1) := by decide +kernel
theorem dL_law_635 : decode cL_law 635 = .ok (.aload_n 0, 1) := by decide +kernel
theorem dL_law_636 : decode cL_law 636 = .ok (.iload 4, 2) := by decide +kernel
theorem dL_law_638 : decode cL_law 638 = .ok (.iconst 2, 1) := by decide +kernel
theorem dL_law_639 : decode cL_law 639 = .ok (.iadd, 1) := by decide +kernel
theorem dL_law_640 : decode cL_law 640 = .ok (.iaload, 1) := by decide +kernel
theorem dL_law_641 : decode cL_law 641 = .ok (.ifCond .eq 7, 3) := by decide +kernel
theorem dL_law_644 : decode cL_law 644 = .ok (.iconst 1, 1) := by decide +kernel
theorem dL_law_645 : decode cL_law 645 = .ok (.goto 4, 3) := by decide +kernel
theorem dL_law_648 : decode cL_law 648 = .ok (.iconst 0, 1) := by decide +kernel
theorem dL_law_649 : decode cL_law 649 = .ok (.aload_n 0, 1) := by decide +kernel
theorem dL_law_650 : decode cL_law 650 = .ok (.iload 4, 2) := by decide +kernel
theorem dL_law_652 : decode cL_law 652 = .ok (.iconst 3, 1) := by decide +kernel
theorem dL_law_653 : decode cL_law 653 = .ok (.iadd, 1) := by decide +kernel
theorem dL_law_654 : decode cL_law 654 = .ok (.iaload, 1) := by decide +kernel
theorem dL_law_655 : decode cL_law 655 = .ok (.aload_n 0, 1) := by decide +kernel
theorem dL_law_656 : decode cL_law 656 = .ok (.iload 4, 2) := by decide +kernel
theorem dL_law_658 : decode cL_law 658 = .ok (.iconst 4, 1) := by decide +kernel
theorem dL_law_659 : decode cL_law 659 = .ok (.iadd, 1) := by decide +kernel
theorem dL_law_660 : decode cL_law 660 = .ok (.iaload, 1) := by decide +kernel
theorem dL_law_661 : decode cL_law 661 = .ok (.aload_n 3, 1) := by decide +kernel
theorem dL_law_662 : decode cL_law 662 = .ok (.invokestatic 88, 3) := by decide +kernel
theorem dL_law_665 : decode cL_law 665 = .ok (.istore 5, 2) := by decide +kernel
theorem dL_law_667 : decode cL_law 667 = .ok (.aload_n 2, 1) := by decide +kernel
theorem dL_law_668 : decode cL_law 668 = .ok (.aload_n 0, 1) := by decide +kernel
theorem dL_law_669 : decode cL_law 669 = .ok (.iload 4, 2) := by decide +kernel
theorem dL_law_671 : decode cL_law 671 = .ok (.iconst 1, 1) := by decide +kernel
theorem dL_law_672 : decode cL_law 672 = .ok (.iadd, 1) := by decide +kernel
theorem dL_law_673 : decode cL_law 673 = .ok (.iaload, 1) := by decide +kernel
theorem dL_law_674 : decode cL_law 674 = .ok (.aload_n 0, 1) := by decide +kernel
theorem dL_law_675 : decode cL_law 675 = .ok (.iload 4, 2) := by decide +kernel
theorem dL_law_677 : decode cL_law 677 = .ok (.iconst 2, 1) := by decide +kernel
theorem dL_law_678 : decode cL_law 678 = .ok (.iadd, 1) := by decide +kernel
theorem dL_law_679 : decode cL_law 679 = .ok (.iaload, 1) := by decide +kernel
theorem dL_law_680 : decode cL_law 680 = .ok (.ifCond .eq 7, 3) := by decide +kernel
theorem dL_law_683 : decode cL_law 683 = .ok (.iconst 1, 1) := by decide +kernel
theorem dL_law_684 : decode cL_law 684 = .ok (.goto 4, 3) := by decide +kernel
theorem dL_law_687 : decode cL_law 687 = .ok (.iconst 0, 1) := by decide +kernel
theorem dL_law_688 : decode cL_law 688 = .ok (.aload_n 0, 1) := by decide +kernel
theorem dL_law_689 : decode cL_law 689 = .ok (.iload 4, 2) := by decide +kernel
theorem dL_law_691 : decode cL_law 691 = .ok (.iconst 3, 1) := by decide +kernel
theorem dL_law_692 : decode cL_law 692 = .ok (.iadd, 1) := by decide +kernel
theorem dL_law_693 : decode cL_law 693 = .ok (.iaload, 1) := by decide +kernel
theorem dL_law_694 : decode cL_law 694 = .ok (.aload_n 0, 1) := by decide +kernel
theorem dL_law_695 : decode cL_law 695 = .ok (.iload 4, 2) := by decide +kernel
theorem dL_law_697 : decode cL_law 697 = .ok (.iconst 4, 1) := by decide +kernel
theorem dL_law_698 : decode cL_law 698 = .ok (.iadd, 1) := by decide +kernel
theorem dL_law_699 : decode cL_law 699 = .ok (.iaload, 1) := by decide +kernel
theorem dL_law_700 : decode cL_law 700 = .ok (.invokevirtual 91, 3) := by decide +kernel
theorem dL_law_703 : decode cL_law 703 = .ok (.istore 6, 2) := by decide +kernel
theorem dL_law_705 : decode cL_law 705 = .ok (.aload_n 2, 1) := by decide +kernel
theorem dL_law_706 : decode cL_law 706 = .ok (.invokevirtual 59, 3) := by decide +kernel
theorem dL_law_709 : decode cL_law 709 = .ok (.iload 5, 2) := by decide +kernel
theorem dL_law_711 : decode cL_law 711 = .ok (.if_icmp .eq 5, 3) := by decide +kernel
theorem dL_law_714 : decode cL_law 714 = .ok (.iconst 0, 1) := by decide +kernel
theorem dL_law_715 : decode cL_law 715 = .ok (.ireturn, 1) := by decide +kernel
theorem dL_law_716 : decode cL_law 716 = .ok (.iload 5, 2) := by decide +kernel
theorem dL_law_718 : decode cL_law 718 = .ok (.ifCond .ne 15, 3) := by decide +kernel
theorem dL_law_721 : decode cL_law 721 = .ok (.aload_n 3, 1) := by decide +kernel
theorem dL_law_722 : decode cL_law 722 = .ok (.iconst 0, 1) := by decide +kernel
theorem dL_law_723 : decode cL_law 723 = .ok (.laload, 1) := by decide +kernel
theorem dL_law_724 : decode cL_law 724 = .ok (.iload 6, 2) := by decide +kernel
theorem dL_law_726 : decode cL_law 726 = .ok (.i2l, 1) := by decide +kernel
theorem dL_law_727 : decode cL_law 727 = .ok (.lcmp, 1) := by decide +kernel
theorem dL_law_728 : decode cL_law 728 = .ok (.ifCond .eq 5, 3) := by decide +kernel
theorem dL_law_731 : decode cL_law 731 = .ok (.iconst 0, 1) := by decide +kernel
theorem dL_law_732 : decode cL_law 732 = .ok (.ireturn, 1) := by decide +kernel
theorem dL_law_733 : decode cL_law 733 = .ok (.goto 72, 3) := by decide +kernel
theorem dL_law_736 : decode cL_law 736 = .ok (.aload_n 1, 1) := by decide +kernel
theorem dL_law_737 : decode cL_law 737 = .ok (.aload_n 0, 1) := by decide +kernel
theorem dL_law_738 : decode cL_law 738 = .ok (.iload 4, 2) := by decide +kernel
theorem dL_law_740 : decode cL_law 740 = .ok (.iconst 1, 1) := by decide +kernel
theorem dL_law_741 : decode cL_law 741 = .ok (.iadd, 1) := by decide +kernel
theorem dL_law_742 : decode cL_law 742 = .ok (.iaload, 1) := by decide +kernel
theorem dL_law_743 : decode cL_law 743 = .ok (.aload_n 3, 1) := by decide +kernel
theorem dL_law_744 : decode cL_law 744 = .ok (.invokestatic 92, 3) := by decide +kernel
theorem dL_law_747 : decode cL_law 747 = .ok (.istore 5, 2) := by decide +kernel
theorem dL_law_749 : decode cL_law 749 = .ok (.aload_n 2, 1) := by decide +kernel
theorem dL_law_750 : decode cL_law 750 = .ok (.aload_n 0, 1) := by decide +kernel
theorem dL_law_751 : decode cL_law 751 = .ok (.iload 4, 2) := by decide +kernel
theorem dL_law_753 : decode cL_law 753 = .ok (.iconst 1, 1) := by decide +kernel
theorem dL_law_754 : decode cL_law 754 = .ok (.iadd, 1) := by decide +kernel
theorem dL_law_755 : decode cL_law 755 = .ok (.iaload, 1) := by decide +kernel
theorem dL_law_756 : decode cL_law 756 = .ok (.invokevirtual 94, 3) := by decide +kernel
theorem dL_law_759 : decode cL_law 759 = .ok (.istore 6, 2) := by decide +kernel
theorem dL_law_761 : decode cL_law 761 = .ok (.aload_n 2, 1) := by decide +kernel
theorem dL_law_762 : decode cL_law 762 = .ok (.invokevirtual 59, 3) := by decide +kernel
theorem dL_law_765 : decode cL_law 765 = .ok (.iload 5, 2) := by decide +kernel
theorem dL_law_767 : decode cL_law 767 = .ok (.if_icmp .eq 5, 3) := by decide +kernel
theorem dL_law_770 : decode cL_law 770 = .ok (.iconst 0, 1) := by decide +kernel
theorem dL_law_771 : decode cL_law 771 = .ok (.ireturn, 1) := by decide +kernel
theorem dL_law_772 : decode cL_law 772 = .ok (.iload 5, 2) := by decide +kernel
theorem dL_law_774 : decode cL_law 774 = .ok (.ifCond .ne 15, 3) := by decide +kernel
theorem dL_law_777 : decode cL_law 777 = .ok (.aload_n 3, 1) := by decide +kernel
theorem dL_law_778 : decode cL_law 778 = .ok (.iconst 0, 1) := by decide +kernel
theorem dL_law_779 : decode cL_law 779 = .ok (.laload, 1) := by decide +kernel
theorem dL_law_780 : decode cL_law 780 = .ok (.iload 6, 2) := by decide +kernel
theorem dL_law_782 : decode cL_law 782 = .ok (.i2l, 1) := by decide +kernel
theorem dL_law_783 : decode cL_law 783 = .ok (.lcmp, 1) := by decide +kernel
theorem dL_law_784 : decode cL_law 784 = .ok (.ifCond .eq 5, 3) := by decide +kernel
theorem dL_law_787 : decode cL_law 787 = .ok (.iconst 0, 1) := by decide +kernel
theorem dL_law_788 : decode cL_law 788 = .ok (.ireturn, 1) := by decide +kernel
theorem dL_law_789 : decode cL_law 789 = .ok (.goto 16, 3) := by decide +kernel
theorem dL_law_792 : decode cL_law 792 = .ok (.aload_n 1, 1) := by decide +kernel
theorem dL_law_793 : decode cL_law 793 = .ok (.invokevirtual 95, 3) := by decide +kernel
theorem dL_law_796 : decode cL_law 796 = .ok (.aload_n 2, 1) := by decide +kernel
theorem dL_law_797 : decode cL_law 797 = .ok (.invokevirtual 98, 3) := by decide +kernel
theorem dL_law_800 : decode cL_law 800 = .ok (.if_icmp .eq 5, 3) := by decide +kernel
theorem dL_law_803 : decode cL_law 803 = .ok (.iconst 0, 1) := by decide +kernel
theorem dL_law_804 : decode cL_law 804 = .ok (.ireturn, 1) := by decide +kernel
theorem dL_law_805 : decode cL_law 805 = .ok (.iinc 4 8, 3) := by decide +kernel
theorem dL_law_808 : decode cL_law 808 = .ok (.goto (-785), 3) := by decide +kernel
theorem dL_law_811 : decode cL_law 811 = .ok (.iconst 1, 1) := by decide +kernel
theorem dL_law_812 : decode cL_law 812 = .ok (.ireturn, 1) := by decide +kernel
end
section
/-! ===== the state: cells 0 .. 93, each a row of ints (V j k); where the references go is fixed by the layout ly ===== -/
abbrev St : Type := Nat → Nat → Int32
def up2 (V : St) (j k : Nat) (x : Int32) : St := fun a => if a = j then upd (V a) k x else V a
abbrev Ly : Type := (Nat × List (Option Nat)) ⊕ ((Nat × Nat) ⊕ (Nat × Nat × Nat × Nat))
def sv (ad : Nat → Nat) (f : Nat → Int32) : Nat → List (Option Nat) → List Value
  | _, [] => []
  | k, none :: t => .int (f k) :: sv ad f (k + 1) t
  | k, some q :: t => .ref (ad q) :: sv ad f (k + 1) t
theorem sv_len (ad : Nat → Nat) (f : Nat → Int32) : ∀ (sl : List (Option Nat)) (k : Nat), (sv ad f k sl).length = sl.length
  | [], _ => rfl
  | none :: t, k => by simp [sv, sv_len ad f t (k + 1)]
  | some q :: t, k => by simp [sv, sv_len ad f t (k + 1)]
theorem sv_int (ad : Nat → Nat) (f : Nat → Int32) : ∀ (sl : List (Option Nat)) (k i : Nat), sl[i]? = some none → (sv ad f k sl)[i]? = some (.int (f (k + i)))
  | [], _, i, h => by simp at h
  | none :: t, k, 0, _ => by simp [sv]
  | none :: t, k, i + 1, h => by
    have := sv_int ad f t (k + 1) i (by simpa using h)
    simp only [sv, List.getElem?_cons_succ, this]
    rw [show k + 1 + i = k + (i + 1) by omega]
  | some q :: t, k, 0, h => by simp at h
  | some q :: t, k, i + 1, h => by
    have := sv_int ad f t (k + 1) i (by simpa using h)
    simp only [sv, List.getElem?_cons_succ, this]
    rw [show k + 1 + i = k + (i + 1) by omega]
theorem sv_ref (ad : Nat → Nat) (f : Nat → Int32) {q : Nat} : ∀ (sl : List (Option Nat)) (k i : Nat), sl[i]? = some (some q) → (sv ad f k sl)[i]? = some (.ref (ad q))
  | [], _, i, h => by simp at h
  | none :: t, k, 0, h => by simp at h
  | none :: t, k, i + 1, h => by simpa [sv] using sv_ref ad f t (k + 1) i (by simpa using h)
  | some q' :: t, k, 0, h => by simp at h; simp [sv, h]
  | some q' :: t, k, i + 1, h => by simpa [sv] using sv_ref ad f t (k + 1) i (by simpa using h)
theorem sv_cong (ad : Nat → Nat) {f g : Nat → Int32} : ∀ (sl : List (Option Nat)) (k : Nat), (∀ j, k ≤ j → f j = g j) → sv ad f k sl = sv ad g k sl
  | [], _, _ => rfl
  | none :: t, k, h => by simp only [sv]; rw [h k (Nat.le_refl k), sv_cong ad t (k + 1) (fun j hj => h j (by omega))]
  | some q :: t, k, h => by simp only [sv]; rw [sv_cong ad t (k + 1) (fun j hj => h j (by omega))]
theorem sv_set (ad : Nat → Nat) (f : Nat → Int32) (x : Int32) : ∀ (sl : List (Option Nat)) (k i : Nat), sl[i]? = some none → (sv ad f k sl).set i (.int x) = sv ad (upd f (k + i) x) k sl
  | [], _, i, h => by simp at h
  | none :: t, k, 0, _ => by
    simp only [sv, List.set_cons_zero, Nat.add_zero]
    rw [sv_cong ad (f := upd f k x) (g := f) t (k + 1) (fun j hj => by simp [upd]; intro h; omega)]
    simp [upd]
  | none :: t, k, i + 1, h => by
    have := sv_set ad f x t (k + 1) i (by simpa using h)
    simp only [sv, List.set_cons_succ, this]
    rw [show k + 1 + i = k + (i + 1) by omega]
    simp [upd]
  | some q :: t, k, 0, h => by simp at h
  | some q :: t, k, i + 1, h => by
    have := sv_set ad f x t (k + 1) i (by simpa using h)
    simp only [sv, List.set_cons_succ, this]
    rw [show k + 1 + i = k + (i + 1) by omega]
def ce (ad : Nat → Nat) (cy : Nat → ClassId) (f : Nat → Int32) (y : Ly) : va_E := match y with
  | .inl o => .inr (o.1, sv ad f 0 o.2)
  | .inr (.inl a) => .inl (cy a.1, a.2, if a.1 = 3 then .inr (.inl (fun k => (f k).toInt64)) else .inl f)
  | .inr (.inr r) => .inl (cy r.1, r.2.1, .inr (.inr (.inr (.inr (fun k => if k < r.2.1 then some (ad (r.2.2.1 + r.2.2.2 * k)) else none)))))
def ly1 (j : Nat) : Ly := match j with
  | 0 => .inl (4, [some 1, some 2, some 3, some 5, none, none])
  | 1 => .inr (.inr (4, 6, 12, 8))
  | 2 => .inr (.inr (5, 6, 6, 1))
  | 3 => .inl (2, [some 4, none, none])
  | 4 => .inr (.inl (0, 192))
  | 5 => .inr (.inl (1, 1000))
  | _ => .inl (0, [none, none, none, none, none, none, none, none])
def lyS (b r : Nat) : Ly := match r with
  | 0 => .inl (3, [some (b + 1), some (b + 3), some (b + 5), none, none, none, none, none, none, none, none, none, none, none, none, none, none, none])
  | 1 => .inl (2, [some (b + 1 + 1), none, none])
  | 2 => .inr (.inl (0, 32))
  | 3 => .inl (2, [some (b + 3 + 1), none, none])
  | 4 => .inr (.inl (0, 30))
  | 5 => .inl (1, [some (b + 5 + 1), some (b + 5 + 2), none])
  | _ => .inr (.inl (0, 16))
def ly2 (j : Nat) : Ly := match j with
  | 60 => .inl (5, [none, none, some 61, some 62, some 63, some 64, some 65, some 66, some 67, some 68, some 69, some 70, some 71, some 72, some 73, some 74, some 75, some 76, some 77, some 78, some 79, some 80, some 81, some 82, some 83, some 84, some 85, some 86, some 87, some 88, some 89, none, some 90, some 91, some 92])
  | 61 => .inr (.inl (2, 6))
  | 76 => .inr (.inl (2, 6))
  | 82 => .inr (.inl (2, 6))
  | 69 => .inr (.inl (0, 192))
  | 72 => .inr (.inl (0, 180))
  | 74 => .inr (.inl (0, 96))
  | 75 => .inr (.inl (0, 96))
  | 90 => .inr (.inl (0, 600))
  | 91 => .inr (.inl (0, 600))
  | 92 => .inr (.inl (0, 1024))
  | 93 => .inr (.inl (3, 1))
  | _ => .inr (.inl (0, 6))
def ly (j : Nat) : Ly := if j < 12 then ly1 j else if j < 60 then lyS (j - (j - 12) % 8) ((j - 12) % 8) else ly2 j
def RowAt (r n : Nat) : Prop := r + 1 < 94 ∧ ly r = .inl (2, [some (r + 1), none, none]) ∧ ly (r + 1) = .inr (.inl (0, n))
def PcsAt (q : Nat) : Prop := q + 2 < 94 ∧ ly q = .inl (1, [some (q + 1), some (q + 2), none]) ∧ ly (q + 1) = .inr (.inl (0, 16)) ∧ ly (q + 2) = .inr (.inl (0, 16))
def SrcAt (b : Nat) : Prop := b + 7 < 94 ∧ ly b = .inl (3, [some (b + 1), some (b + 3), some (b + 5), none, none, none, none, none, none, none, none, none, none, none, none, none, none, none]) ∧ RowAt (b + 1) 32 ∧ RowAt (b + 3) 30 ∧ PcsAt (b + 5)
def TskAt (t : Nat) : Prop := t < 94 ∧ ly t = .inl (0, [none, none, none, none, none, none, none, none])
theorem ly_src {k r : Nat} (hk : k < 6) (hr : r < 8) : ly (12 + 8 * k + r) = lyS (12 + 8 * k) r := by
  unfold ly
  rw [if_neg (by omega), if_pos (by omega)]
  rw [show (12 + 8 * k + r - 12) % 8 = r by omega, show 12 + 8 * k + r - r = 12 + 8 * k by omega]
theorem srcAt {k : Nat} (hk : k < 6) : SrcAt (12 + 8 * k) := by
  refine ⟨by omega, ly_src (r := 0) hk (by omega), ⟨by omega, ly_src (r := 1) hk (by omega), ly_src (r := 2) hk (by omega)⟩, ⟨by omega, ly_src (r := 3) hk (by omega), ly_src (r := 4) hk (by omega)⟩, by omega, ly_src (r := 5) hk (by omega), ly_src (r := 6) hk (by omega), ly_src (r := 7) hk (by omega)⟩
theorem tskAt {k : Nat} (hk : k < 6) : TskAt (6 + 1 * k) := by
  refine ⟨by omega, ?_⟩
  rcases (show k = 0 ∨ k = 1 ∨ k = 2 ∨ k = 3 ∨ k = 4 ∨ k = 5 by omega) with rfl | rfl | rfl | rfl | rfl | rfl <;> rfl
theorem topAt : RowAt 3 192 := ⟨by omega, rfl, rfl⟩
def wA (ad : Nat → Nat) (cy : Nat → ClassId) (V : St) : va_W := (List.range 94).map (fun j => (ad j, ce ad cy (V j) (ly j)))
theorem wA_get (ad : Nat → Nat) (cy : Nat → ClassId) (V : St) {j : Nat} (hj : j < 94) : (wA ad cy V)[j]? = some (ad j, ce ad cy (V j) (ly j)) := by
  simp [wA, hj]
theorem wA_at {ad : Nat → Nat} {cy : Nat → ClassId} {V : St} {k : Nat} {q : Nat × va_E} (h : (wA ad cy V)[k]? = some q) : k < 94 ∧ q = (ad k, ce ad cy (V k) (ly k)) := by
  have hk : k < 94 := by
    have := (List.getElem?_eq_some_iff.mp h).1
    simpa [wA] using this
  exact ⟨hk, by rw [wA_get ad cy V hk] at h; exact (Option.some.inj h).symm⟩
theorem wA_set (ad : Nat → Nat) (cy : Nat → ClassId) (V : St) {j : Nat} (hj : j < 94) (k : Nat) (x : Int32) {y : va_E} (hy : y = ce ad cy (upd (V j) k x) (ly j)) : (wA ad cy V).set j (ad j, y) = wA ad cy (up2 V j k x) := by
  subst hy
  apply List.ext_getElem?
  intro i
  by_cases hi : i < 94
  · rw [wA_get ad cy (up2 V j k x) hi, List.getElem?_set]
    by_cases hij : j = i
    · subst hij
      simp [wA, hj, up2]
    · rw [if_neg hij, wA_get ad cy V hi]
      simp [up2, Ne.symm hij]
  · rw [List.getElem?_eq_none (by simp [wA]; omega), List.getElem?_eq_none (by simp [wA]; omega)]
/-! ===== words: one list for all methods ===== -/
def isNest : Cond → Bool
  | .fieldLinkNest .. => true
  | .methodLinkNest .. => true
  | _ => false
def WA : List Cond := lw_tbl.filter goodWord
def NW : List Cond := lw_tbl.filter isNest
theorem wa {w : Cond} (i : Nat) (h : lw_tbl[i]? = some w) (g : goodWord w = true) : w ∈ WA := List.mem_filter.mpr ⟨List.mem_of_getElem? h, g⟩
theorem nw {w : Cond} (i : Nat) (h : lw_tbl[i]? = some w) (g : isNest w = true) : w ∈ NW := List.mem_filter.mpr ⟨List.mem_of_getElem? h, g⟩
theorem goodWA {x : Cond} {w : Cond} (h : w ∈ WA) : w ∈ x :: WA ∧ ((w.onTables && w.keeps) = true ∨ ∃ ty, w = .arrayClass ty) := ⟨List.mem_cons_of_mem _ h, good_of_word (List.mem_filter.mp h).2⟩
theorem goodCode {x : Cond} {y : MethodName} {b : ByteArray} {n : Nat} {r : Option FieldType} (h : Cond.code y b n r ∈ WA) : GoodIn (x :: WA) (Cond.code y b n r :: WA) := fun w hw => (List.mem_cons.mp hw).elim (fun e => e ▸ goodWA h) (fun h => goodWA h)
theorem nw_warm {w : Cond} (h : w ∈ NW) {s U : State} (hW : s.WarmedH U.vm) (hz : va_Nw w s) : va_Nw w U := by
  have h2 := (List.mem_filter.mp h).2
  match w, h2, hz with
  | .fieldLinkNest a i b n d g, _, hz => exact va_Nw.warmF hW hz
  | .methodLinkNest a i x g, _, hz => exact va_Nw.warmM hW hz
theorem nw_calling {w : Cond} (h : w ∈ NW) {U : State} {g : JFrame} {mk : MethodId} {a : Array Value} (hz : va_Nw w U) : va_Nw w (U.calling g mk a) := by
  have h2 := (List.mem_filter.mp h).2
  refine va_Nw.same (u := U) (U := U.calling g mk a) ?_ rfl hz
  match w, h2 with
  | .fieldLinkNest a i b n d g, _ => rfl
  | .methodLinkNest a i x g, _ => rfl
theorem nw_use {w : Cond} (h : w ∈ NW) {s : State} {args : Array Value} (hz : va_Nw w s) : w.before args s = true := by
  have h2 := (List.mem_filter.mp h).2
  refine va_Nw.use ?_ hz
  match w, h2 with
  | .fieldLinkNest a i b n d g, _ => rfl
  | .methodLinkNest a i x g, _ => rfl
end
section
/-! ===== G: where w holds, the machine goes from (V, pc, locals L, stack st) to Q ===== -/
def tyl (cy : Nat → ClassId) : List (ClassId × FieldType) := [(cy 0, .int), (cy 1, .byte), (cy 2, .boolean), (cy 3, .long), (cy 4, .object "BudgetKernel$Source"), (cy 5, .object "BudgetKernel$BaseTask")]
def inj (ad : Nat → Nat) : Prop := ∀ i j, i < 94 → j < 94 → ad i = ad j → i = j
def fr (ad : Nat → Nat) (sz : Nat) : Nat → Prop := fun q => (∃ j, j < 94 ∧ q = ad j) ∨ sz ≤ q
theorem wA_D {ad : Nat → Nat} {cy : Nat → ClassId} {A : Nat → Prop} (V : St) (h : inj ad) (hA : ∀ j, j < 94 → A (ad j)) : va_D A (wA ad cy V) := by
  refine ⟨fun i j x y hx hy e => ?_, fun k q hk => ?_⟩
  · obtain ⟨hi, rfl⟩ := wA_at hx
    obtain ⟨hj, rfl⟩ := wA_at hy
    exact h i j hi hj e
  · obtain ⟨hi, rfl⟩ := wA_at hk
    exact hA k hi
def lh (ls : Array Slot) (nL : Nat) (L : List (Option Value)) : Prop := ls.size = nL ∧ lv_wf ls ∧ ∀ (k : Nat) (v : Value), L[k]? = some (some v) → v.category = 1 ∧ ls[k]? = some (.val v)
def pr (L : List (Option Value)) : List (Nat × Value) := (List.range L.length).filterMap (fun k => match L[k]? with | some (some v) => some (k, v) | _ => none)
theorem pr_mem {L : List (Option Value)} {q : Nat × Value} : q ∈ pr L ↔ L[q.1]? = some (some q.2) := by
  unfold pr
  rw [List.mem_filterMap]
  constructor
  · rintro ⟨k, -, h⟩
    split at h
    · next v hv => cases h; exact hv
    · cases h
  · intro h
    refine ⟨q.1, List.mem_range.mpr (List.getElem?_eq_some_iff.mp h).1, ?_⟩
    rw [h]
theorem lh_has {ls : Array Slot} {nL : Nat} {L : List (Option Value)} (h : lh ls nL L) : lv_has ls nL (pr L) := ⟨h.1, h.2.1, fun q hq => (h.2.2 q.1 q.2 (pr_mem.mp hq)).2⟩
theorem lh_set {ls ls' : Array Slot} {nL i : Nat} {v : Value} {L : List (Option Value)} (h : lh ls nL L) (hv : v.category = 1) (h2 : lv_has ls' nL ((i, v) :: (pr L).filter (fun q => !(q.1 == i) && !(q.1 + 1 == i && q.2.category == 2)))) : lh ls' nL (L.set i (some v)) := by
  refine ⟨h2.1, h2.2.1, fun k w hk => ?_⟩
  rw [List.getElem?_set] at hk
  by_cases e : i = k
  · subst e
    rw [if_pos rfl] at hk
    split at hk
    · have e2 : v = w := Option.some.inj (Option.some.inj hk)
      subst e2
      exact ⟨hv, h2.2.2 (i, v) List.mem_cons_self⟩
    · cases hk
  · rw [if_neg e] at hk
    have hc := (h.2.2 k w hk).1
    refine ⟨hc, h2.2.2 (k, w) (List.mem_cons_of_mem _ (List.mem_filter.mpr ⟨pr_mem.mpr hk, ?_⟩))⟩
    simp only [hc]
    simp
    exact fun e2 => e e2.symm
def msk : List Bool → List (Option Value) → List (Option Value)
  | b :: bs, o :: os => (if b then o else none) :: msk bs os
  | _, _ => []
theorem msk_at : ∀ (bs : List Bool) (L : List (Option Value)) (k : Nat) (v : Value), (msk bs L)[k]? = some (some v) → L[k]? = some (some v)
  | [], L, k, v, h => by cases L <;> simp [msk] at h
  | b :: bs, [], k, v, h => by simp [msk] at h
  | b :: bs, o :: os, 0, v, h => by
    simp [msk] at h
    simp [h.2]
  | b :: bs, o :: os, k + 1, v, h => by
    simp [msk] at h
    simpa using msk_at bs os k v h
theorem lh_msk {ls : Array Slot} {nL : Nat} {L : List (Option Value)} (bs : List Bool) (h : lh ls nL L) : lh ls nL (msk bs L) := ⟨h.1, h.2.1, fun k v hk => h.2.2 k v (msk_at bs L k v hk)⟩
def L0 (av : List Value) (n : Nat) : List (Option Value) := av.map some ++ List.replicate (n - av.length) none
theorem args_mem : ∀ (av : List Value) (i k : Nat) (v : Value), (∀ x ∈ av, x.category = 1) → av[k]? = some v → (i + k, v) ∈ lv_args i av
  | [], i, k, v, _, h => by simp at h
  | x :: xs, i, 0, v, _, h => by
    simp at h
    subst h
    simp [lv_args]
  | x :: xs, i, k + 1, v, hc, h => by
    have hx : x.category = 1 := hc x List.mem_cons_self
    have := args_mem xs (i + 1) k v (fun y hy => hc y (List.mem_cons_of_mem _ hy)) (by simpa using h)
    simp only [lv_args, hx]
    refine List.mem_cons_of_mem _ ?_
    rw [show i + (k + 1) = i + 1 + k by omega]
    simpa using this
theorem lh_entry (av : List Value) {n : Nat} (hl : (lg_sl av).length ≤ n) (hc : ∀ x ∈ av, x.category = 1) : lh ((lg_sl av ++ List.replicate (n - (lg_sl av).length) Slot.unset).toArray) n (L0 av n) := by
  have h := lv_entry av (n := n) hl
  refine ⟨h.1, h.2.1, fun k v hk => ?_⟩
  have hk2 : av[k]? = some v := by
    unfold L0 at hk
    by_cases hlt : k < av.length
    · rw [List.getElem?_append_left (by simpa using hlt)] at hk
      simpa using hk
    · rw [List.getElem?_append_right (by simp; omega)] at hk
      rw [List.getElem?_replicate] at hk
      split at hk <;> cases hk
  have := h.2.2 (0 + k, v) (args_mem av 0 k v hc hk2)
  exact ⟨hc v (List.mem_of_getElem? hk2), by simpa using this⟩
/-- a field's link, its class in the list, its place there -/
def FL (own : String) (index ci k : Nat) : Prop := ∃ (C : String) (T : u_T) (N : Nat), vwCl[ci]? = some (C, T, N) ∧ k < N ∧ (∀ w ∈ u_ws C T N, w ∈ WA) ∧ ((Cond.fieldLink own index (T k).1 (T k).2.1 (T k).2.2.1 ∈ WA) ∨ ∃ host : String, Cond.fieldLinkNest own index (T k).1 (T k).2.1 (T k).2.2.1 host ∈ NW)
def FP (own : String) (index ci k : Nat) (ty : FieldType) : Prop := ∃ (C : String) (T : u_T) (N : Nat) (ty0 : Nat → FieldType), vwCl[ci]? = some (C, T, N) ∧ k < N ∧ (∀ w ∈ u_ws C T N, w ∈ WA) ∧ ((Cond.fieldLink own index (T k).1 (T k).2.1 (T k).2.2.1 ∈ WA) ∨ ∃ host : String, Cond.fieldLinkNest own index (T k).1 (T k).2.1 (T k).2.2.1 host ∈ NW) ∧ (T k).2.2.2 = false ∧ parseFieldDescriptor (T k).2.2.1 = some ty ∧ (∀ k, k < N → parseFieldDescriptor (T k).2.2.1 = some (ty0 k)) ∧ (∀ a, a < N → ∀ b, b < N → a ≠ b → (T a).2.1 ≠ (T b).2.1)
def Cx (p : Program) (s : State) (m : MethodId) (args : Array Value) (c : Code) (cc : ByteArray) (nL : Nat) (x : Cond) (own : String) (D : va_G) (ad : Nat → Nat) (cy : Nat → ClassId) (A : Nat → Prop) : Prop :=
  CallFix p m c cc nL s args (x :: WA) own ∧ (∀ w ∈ NW, va_Nw w s) ∧ va_K D vwCl (tyl cy) s ∧ inj ad ∧ (∀ j, j < 94 → A (ad j)) ∧ (∀ q, s.heap.size ≤ q → A q)
def G (p : Program) (l : Launch) (e : Env) (R : Room) (s : State) (m : MethodId) (args : Array Value) (below : List Frame) (meth : Method) (c : Code) (cells slots : Nat) (Q : State → Prop) (nL : Nat) (D : va_G) (ad : Nat → Nat) (cy : Nat → ClassId) (A : Nat → Prop) (w : Prop) (V : St) (pc : Nat) (L : List (Option Value)) (st : List Value) : Prop :=
  w → ∀ (ls : Array Slot) (H : Heap) (locs : List Loc), lh ls nL L → va_P D vwCl (wA ad cy V) H → va_S A s.heap H locs → W p l e R s m args below meth c H locs cells slots Q (F0 m pc ls st)
section RW
variable {p : Program} {l : Launch} {e : Env} {R : Room} {s : State} {m : MethodId} {args : Array Value} {below : List Frame} {meth : Method} {c : Code} {cells slots : Nat} {Q : State → Prop} {cc : ByteArray} {nL : Nat} {x0 : Cond} {own : String} {D : va_G} {ad : Nat → Nat} {cy : Nat → ClassId} {A : Nat → Prop}
variable {w : Prop} {V : St} {pc : Nat} {L : List (Option Value)} {st : List Value}
theorem g_ex {α : Sort _} {f : α → Prop} (k : ∀ x, G p l e R s m args below meth c cells slots Q nL D ad cy A (f x) V pc L st) : G p l e R s m args below meth c cells slots Q nL D ad cy A (∃ x, f x) V pc L st := fun ⟨x, hw⟩ ls H locs h1 h2 h3 => k x hw ls H locs h1 h2 h3
theorem g_nm {x : Int32} {f : Int32 → Prop} (k : ∀ y, G p l e R s m args below meth c cells slots Q nL D ad cy A (f y) V pc L (.int y :: st)) : G p l e R s m args below meth c cells slots Q nL D ad cy A (∀ y : Int32, y = x → f y) V pc L (.int x :: st) := fun hw ls H locs h1 h2 h3 => k x (hw x rfl) ls H locs h1 h2 h3
theorem g_ms (bs : List Bool) (k : G p l e R s m args below meth c cells slots Q nL D ad cy A w V pc (msk bs L) st) : G p l e R s m args below meth c cells slots Q nL D ad cy A w V pc L st := fun hw ls H locs h1 h2 h3 => k hw ls H locs (lh_msk bs h1) h2 h3
theorem g_if {P : Prop} [Decidable P] {w2 : Prop} (k1 : P → G p l e R s m args below meth c cells slots Q nL D ad cy A w V pc L st) (k2 : ¬ P → G p l e R s m args below meth c cells slots Q nL D ad cy A w2 V pc L st) : G p l e R s m args below meth c cells slots Q nL D ad cy A (if P then w else w2) V pc L st := by
  intro hw ls H locs h1 h2 h3
  by_cases h : P
  · rw [if_pos h] at hw
    exact k1 h hw ls H locs h1 h2 h3
  · rw [if_neg h] at hw
    exact k2 h hw ls H locs h1 h2 h3
theorem g_iconst (hC : Cx p s m args c cc nL x0 own D ad cy A) {n : Int} (v : Int32) (d : decode cc pc = .ok (.iconst n, 1)) (hv : Int32.ofInt n = v) (k : G p l e R s m args below meth c cells slots Q nL D ad cy A w V (pc + 1) L (.int v :: st)) : G p l e R s m args below meth c cells slots Q nL D ad cy A w V pc L st := fun hw ls H locs h1 h2 h3 => lv_iconst hC.1.1 hC.1.2.1 d hv (k hw ls H locs h1 h2 h3)
theorem g_bipush (hC : Cx p s m args c cc nL x0 own D ad cy A) {n : Int} (v : Int32) (d : decode cc pc = .ok (.bipush n, 2)) (hv : (Int8.ofInt n).toInt32 = v) (k : G p l e R s m args below meth c cells slots Q nL D ad cy A w V (pc + 2) L (.int v :: st)) : G p l e R s m args below meth c cells slots Q nL D ad cy A w V pc L st := fun hw ls H locs h1 h2 h3 => lv_bipush hC.1.1 hC.1.2.1 d hv (k hw ls H locs h1 h2 h3)
theorem g_sipush (hC : Cx p s m args c cc nL x0 own D ad cy A) {n : Int} (v : Int32) (d : decode cc pc = .ok (.sipush n, 3)) (hv : (Int16.ofInt n).toInt32 = v) (k : G p l e R s m args below meth c cells slots Q nL D ad cy A w V (pc + 3) L (.int v :: st)) : G p l e R s m args below meth c cells slots Q nL D ad cy A w V pc L st := fun hw ls H locs h1 h2 h3 => lv_sipush hC.1.1 hC.1.2.1 d hv (k hw ls H locs h1 h2 h3)
theorem g_ldc (hC : Cx p s m args c cc nL x0 own D ad cy A) {index : Nat} (v : Int32) (d : decode cc pc = .ok (.ldc index, 2)) (hv : Cond.constant own index v ∈ WA) (k : G p l e R s m args below meth c cells slots Q nL D ad cy A w V (pc + 2) L (.int v :: st)) : G p l e R s m args below meth c cells slots Q nL D ad cy A w V pc L st := fun hw ls H locs h1 h2 h3 => lv_ldc hC.1.1 hC.1.2.1 hC.1.2.2.2.1 (hC.1.2.2.2.2 _ (List.mem_cons_of_mem _ hv)) d (k hw ls H locs h1 h2 h3)
theorem g_lconst (hC : Cx p s m args c cc nL x0 own D ad cy A) {n : Fin 2} (v : Int32) (d : decode cc pc = .ok (.lconst n, 1)) (hv : Int64.ofNat (n : Nat) = v.toInt64) (k : G p l e R s m args below meth c cells slots Q nL D ad cy A w V (pc + 1) L (.long v.toInt64 :: st)) : G p l e R s m args below meth c cells slots Q nL D ad cy A w V pc L st := fun hw ls H locs h1 h2 h3 => lv_lconst hC.1.1 hC.1.2.1 d hv (k hw ls H locs h1 h2 h3)
theorem g_iload_n (hC : Cx p s m args c cc nL x0 own D ad cy A) {k : Fin 4} {x : Int32} (d : decode cc pc = .ok (.iload_n k, 1)) (h : L[(k : Nat)]? = some (some (.int x))) (k : G p l e R s m args below meth c cells slots Q nL D ad cy A w V (pc + 1) L (.int x :: st)) : G p l e R s m args below meth c cells slots Q nL D ad cy A w V pc L st := fun hw ls H locs h1 h2 h3 => lv_iload_n hC.1.1 hC.1.2.1 d rfl (h1.2.2 _ _ h).2 (k hw ls H locs h1 h2 h3)
theorem g_iload (hC : Cx p s m args c cc nL x0 own D ad cy A) {i : Nat} {x : Int32} (d : decode cc pc = .ok (.iload i, 2)) (h : L[i]? = some (some (.int x))) (k : G p l e R s m args below meth c cells slots Q nL D ad cy A w V (pc + 2) L (.int x :: st)) : G p l e R s m args below meth c cells slots Q nL D ad cy A w V pc L st := fun hw ls H locs h1 h2 h3 => lv_iload hC.1.1 hC.1.2.1 d (h1.2.2 _ _ h).2 (k hw ls H locs h1 h2 h3)
theorem g_aload_n (hC : Cx p s m args c cc nL x0 own D ad cy A) {k : Fin 4} {x : Nat} (d : decode cc pc = .ok (.aload_n k, 1)) (h : L[(k : Nat)]? = some (some (.ref x))) (k : G p l e R s m args below meth c cells slots Q nL D ad cy A w V (pc + 1) L (.ref x :: st)) : G p l e R s m args below meth c cells slots Q nL D ad cy A w V pc L st := fun hw ls H locs h1 h2 h3 => lv_aload_n hC.1.1 hC.1.2.1 d rfl (h1.2.2 _ _ h).2 (k hw ls H locs h1 h2 h3)
theorem g_aload (hC : Cx p s m args c cc nL x0 own D ad cy A) {i : Nat} {x : Nat} (d : decode cc pc = .ok (.aload i, 2)) (h : L[i]? = some (some (.ref x))) (k : G p l e R s m args below meth c cells slots Q nL D ad cy A w V (pc + 2) L (.ref x :: st)) : G p l e R s m args below meth c cells slots Q nL D ad cy A w V pc L st := fun hw ls H locs h1 h2 h3 => lv_aload hC.1.1 hC.1.2.1 d (h1.2.2 _ _ h).2 (k hw ls H locs h1 h2 h3)
theorem g_istore_n (hC : Cx p s m args c cc nL x0 own D ad cy A) {k : Fin 4} {x : Int32} {L2 : List (Option Value)} (d : decode cc pc = .ok (.istore_n k, 1)) (hn : (k : Nat) < nL) (hL : L.set k (some (.int x)) = L2) (kk : G p l e R s m args below meth c cells slots Q nL D ad cy A w V (pc + 1) L2 st) : G p l e R s m args below meth c cells slots Q nL D ad cy A w V pc L (.int x :: st) := by
  subst hL
  exact fun hw ls H locs h1 h2 h3 => lv_istore_n hC.1.1 hC.1.2.1 d rfl (lh_has h1) hn rfl (fun ls2 h4 => kk hw ls2 H locs (lh_set h1 rfl h4) h2 h3)
theorem g_istore (hC : Cx p s m args c cc nL x0 own D ad cy A) {i : Nat} {x : Int32} {L2 : List (Option Value)} (d : decode cc pc = .ok (.istore i, 2)) (hn : i < nL) (hL : L.set i (some (.int x)) = L2) (kk : G p l e R s m args below meth c cells slots Q nL D ad cy A w V (pc + 2) L2 st) : G p l e R s m args below meth c cells slots Q nL D ad cy A w V pc L (.int x :: st) := by
  subst hL
  exact fun hw ls H locs h1 h2 h3 => lv_istore hC.1.1 hC.1.2.1 d (lh_has h1) hn rfl (fun ls2 h4 => kk hw ls2 H locs (lh_set h1 rfl h4) h2 h3)
theorem g_astore_n (hC : Cx p s m args c cc nL x0 own D ad cy A) {k : Fin 4} {x : Nat} {L2 : List (Option Value)} (d : decode cc pc = .ok (.astore_n k, 1)) (hn : (k : Nat) < nL) (hL : L.set k (some (.ref x)) = L2) (kk : G p l e R s m args below meth c cells slots Q nL D ad cy A w V (pc + 1) L2 st) : G p l e R s m args below meth c cells slots Q nL D ad cy A w V pc L (.ref x :: st) := by
  subst hL
  exact fun hw ls H locs h1 h2 h3 => lv_astore_n hC.1.1 hC.1.2.1 d rfl (lh_has h1) hn rfl (fun ls2 h4 => kk hw ls2 H locs (lh_set h1 rfl h4) h2 h3)
theorem g_astore (hC : Cx p s m args c cc nL x0 own D ad cy A) {i : Nat} {x : Nat} {L2 : List (Option Value)} (d : decode cc pc = .ok (.astore i, 2)) (hn : i < nL) (hL : L.set i (some (.ref x)) = L2) (kk : G p l e R s m args below meth c cells slots Q nL D ad cy A w V (pc + 2) L2 st) : G p l e R s m args below meth c cells slots Q nL D ad cy A w V pc L (.ref x :: st) := by
  subst hL
  exact fun hw ls H locs h1 h2 h3 => lv_astore hC.1.1 hC.1.2.1 d (lh_has h1) hn rfl (fun ls2 h4 => kk hw ls2 H locs (lh_set h1 rfl h4) h2 h3)
theorem g_iinc (hC : Cx p s m args c cc nL x0 own D ad cy A) {i : Nat} {n : Int} {x : Int32} (v : Int32) {L2 : List (Option Value)} (d : decode cc pc = .ok (.iinc i n, 3)) (h : L[i]? = some (some (.int x))) (hv : x + Int32.ofInt n = v) (hn : i < nL) (hL : L.set i (some (.int v)) = L2) (kk : G p l e R s m args below meth c cells slots Q nL D ad cy A w V (pc + 3) L2 st) : G p l e R s m args below meth c cells slots Q nL D ad cy A w V pc L st := by
  subst hL
  intro hw ls H locs h1 h2 h3
  obtain ⟨k, hk⟩ := List.getElem?_of_mem (pr_mem.mpr h : (i, Value.int x) ∈ pr L)
  exact lv_iinc hC.1.1 hC.1.2.1 d (lh_has h1) hk hv hn rfl (fun ls2 h4 => kk hw ls2 H locs (lh_set h1 rfl h4) h2 h3)
theorem g_iadd (hC : Cx p s m args c cc nL x0 own D ad cy A) {x y : Int32} (d : decode cc pc = .ok (.iadd, 1)) (k : G p l e R s m args below meth c cells slots Q nL D ad cy A w V (pc + 1) L (.int (x + y) :: st)) : G p l e R s m args below meth c cells slots Q nL D ad cy A w V pc L (.int y :: .int x :: st) := fun hw ls H locs h1 h2 h3 => lv_iadd hC.1.1 hC.1.2.1 d (k hw ls H locs h1 h2 h3)
theorem g_isub (hC : Cx p s m args c cc nL x0 own D ad cy A) {x y : Int32} (d : decode cc pc = .ok (.isub, 1)) (k : G p l e R s m args below meth c cells slots Q nL D ad cy A w V (pc + 1) L (.int (x - y) :: st)) : G p l e R s m args below meth c cells slots Q nL D ad cy A w V pc L (.int y :: .int x :: st) := fun hw ls H locs h1 h2 h3 => lv_isub hC.1.1 hC.1.2.1 d (k hw ls H locs h1 h2 h3)
theorem g_imul (hC : Cx p s m args c cc nL x0 own D ad cy A) {x y : Int32} (d : decode cc pc = .ok (.imul, 1)) (k : G p l e R s m args below meth c cells slots Q nL D ad cy A w V (pc + 1) L (.int (x * y) :: st)) : G p l e R s m args below meth c cells slots Q nL D ad cy A w V pc L (.int y :: .int x :: st) := fun hw ls H locs h1 h2 h3 => lv_imul hC.1.1 hC.1.2.1 d (k hw ls H locs h1 h2 h3)
theorem g_iand (hC : Cx p s m args c cc nL x0 own D ad cy A) {x y : Int32} (d : decode cc pc = .ok (.iand, 1)) (k : G p l e R s m args below meth c cells slots Q nL D ad cy A w V (pc + 1) L (.int (x &&& y) :: st)) : G p l e R s m args below meth c cells slots Q nL D ad cy A w V pc L (.int y :: .int x :: st) := fun hw ls H locs h1 h2 h3 => lv_iand hC.1.1 hC.1.2.1 d (k hw ls H locs h1 h2 h3)
theorem g_idiv (hC : Cx p s m args c cc nL x0 own D ad cy A) {x y : Int32} (d : decode cc pc = .ok (.idiv, 1)) (k : G p l e R s m args below meth c cells slots Q nL D ad cy A w V (pc + 1) L (.int (x / y) :: st)) : G p l e R s m args below meth c cells slots Q nL D ad cy A (¬ y = 0 ∧ w) V pc L (.int y :: .int x :: st) := fun hw ls H locs h1 h2 h3 => lv_idiv hC.1.1 hC.1.2.1 d hw.1 (k hw.2 ls H locs h1 h2 h3)
theorem g_irem (hC : Cx p s m args c cc nL x0 own D ad cy A) {x y : Int32} (d : decode cc pc = .ok (.irem, 1)) (k : G p l e R s m args below meth c cells slots Q nL D ad cy A w V (pc + 1) L (.int (x - x / y * y) :: st)) : G p l e R s m args below meth c cells slots Q nL D ad cy A (¬ y = 0 ∧ w) V pc L (.int y :: .int x :: st) := fun hw ls H locs h1 h2 h3 => lv_irem hC.1.1 hC.1.2.1 d hw.1 (k hw.2 ls H locs h1 h2 h3)
theorem g_dup (hC : Cx p s m args c cc nL x0 own D ad cy A) {v : Value} (d : decode cc pc = .ok (.dup, 1)) (hv : v.category = 1) (k : G p l e R s m args below meth c cells slots Q nL D ad cy A w V (pc + 1) L (v :: v :: st)) : G p l e R s m args below meth c cells slots Q nL D ad cy A w V pc L (v :: st) := fun hw ls H locs h1 h2 h3 => lv_dup hC.1.1 hC.1.2.1 d hv (k hw ls H locs h1 h2 h3)
theorem g_pop (hC : Cx p s m args c cc nL x0 own D ad cy A) {v : Value} (d : decode cc pc = .ok (.pop, 1)) (hv : v.category = 1) (k : G p l e R s m args below meth c cells slots Q nL D ad cy A w V (pc + 1) L st) : G p l e R s m args below meth c cells slots Q nL D ad cy A w V pc L (v :: st) := fun hw ls H locs h1 h2 h3 => lv_pop hC.1.1 hC.1.2.1 d hv (k hw ls H locs h1 h2 h3)
theorem g_dup2 (hC : Cx p s m args c cc nL x0 own D ad cy A) {v u : Value} (d : decode cc pc = .ok (.dup2, 1)) (hv : v.category = 1) (hu : u.category = 1) (k : G p l e R s m args below meth c cells slots Q nL D ad cy A w V (pc + 1) L (v :: u :: v :: u :: st)) : G p l e R s m args below meth c cells slots Q nL D ad cy A w V pc L (v :: u :: st) := fun hw ls H locs h1 h2 h3 => lv_dup2_11 hC.1.1 hC.1.2.1 d hv hu (k hw ls H locs h1 h2 h3)
theorem g_i2b (hC : Cx p s m args c cc nL x0 own D ad cy A) {x : Int32} (d : decode cc pc = .ok (.i2b, 1)) (k : G p l e R s m args below meth c cells slots Q nL D ad cy A w V (pc + 1) L (.int x.toInt8.toInt32 :: st)) : G p l e R s m args below meth c cells slots Q nL D ad cy A w V pc L (.int x :: st) := fun hw ls H locs h1 h2 h3 => lv_i2b hC.1.1 hC.1.2.1 d rfl (k hw ls H locs h1 h2 h3)
theorem g_i2l (hC : Cx p s m args c cc nL x0 own D ad cy A) {x : Int32} (d : decode cc pc = .ok (.i2l, 1)) (k : G p l e R s m args below meth c cells slots Q nL D ad cy A w V (pc + 1) L (.long x.toInt64 :: st)) : G p l e R s m args below meth c cells slots Q nL D ad cy A w V pc L (.int x :: st) := fun hw ls H locs h1 h2 h3 => lv_i2l hC.1.1 hC.1.2.1 d rfl (k hw ls H locs h1 h2 h3)
theorem g_lcmp (hC : Cx p s m args c cc nL x0 own D ad cy A) {x y : Int64} (d : decode cc pc = .ok (.lcmp, 1)) (k : G p l e R s m args below meth c cells slots Q nL D ad cy A w V (pc + 1) L (.int (lg_cmp x y) :: st)) : G p l e R s m args below meth c cells slots Q nL D ad cy A w V pc L (.long y :: .long x :: st) := fun hw ls H locs h1 h2 h3 => W.lcmp hC.1.1 hC.1.2.1 d (k hw ls H locs h1 h2 h3)
theorem g_goto (hC : Cx p s m args c cc nL x0 own D ad cy A) {off : Int} {tgt : Nat} (d : decode cc pc = .ok (.goto off, 3)) (ht : (pc : Int) + off = (tgt : Int)) (k : G p l e R s m args below meth c cells slots Q nL D ad cy A w V tgt L st) : G p l e R s m args below meth c cells slots Q nL D ad cy A w V pc L st := fun hw ls H locs h1 h2 h3 => lv_goto hC.1.1 hC.1.2.1 d ht (k hw ls H locs h1 h2 h3)
theorem g_if_eq (hC : Cx p s m args c cc nL x0 own D ad cy A) {x : Int32} {off : Int} {tgt : Nat} {w2 : Prop} (d : decode cc pc = .ok (.ifCond .eq off, 3)) (ht : (pc : Int) + off = (tgt : Int)) (kt : G p l e R s m args below meth c cells slots Q nL D ad cy A w V tgt L st) (kf : G p l e R s m args below meth c cells slots Q nL D ad cy A w2 V (pc + 3) L st) : G p l e R s m args below meth c cells slots Q nL D ad cy A (if x = 0 then w else w2) V pc L (.int x :: st) := fun hw ls H locs h1 h2 h3 => lv_if_eq hC.1.1 hC.1.2.1 d ht (fun h => kt (by rw [if_pos h] at hw; exact hw) ls H locs h1 h2 h3) (fun h => kf (by rw [if_neg h] at hw; exact hw) ls H locs h1 h2 h3)
theorem g_if_ne (hC : Cx p s m args c cc nL x0 own D ad cy A) {x : Int32} {off : Int} {tgt : Nat} {w2 : Prop} (d : decode cc pc = .ok (.ifCond .ne off, 3)) (ht : (pc : Int) + off = (tgt : Int)) (kt : G p l e R s m args below meth c cells slots Q nL D ad cy A w V tgt L st) (kf : G p l e R s m args below meth c cells slots Q nL D ad cy A w2 V (pc + 3) L st) : G p l e R s m args below meth c cells slots Q nL D ad cy A (if x = 0 then w2 else w) V pc L (.int x :: st) := fun hw ls H locs h1 h2 h3 => lv_if_ne hC.1.1 hC.1.2.1 d ht (fun h => kt (by rw [if_neg h] at hw; exact hw) ls H locs h1 h2 h3) (fun h => kf (by rw [if_pos h] at hw; exact hw) ls H locs h1 h2 h3)
theorem g_if_lt (hC : Cx p s m args c cc nL x0 own D ad cy A) {x : Int32} {off : Int} {tgt : Nat} {w2 : Prop} (d : decode cc pc = .ok (.ifCond .lt off, 3)) (ht : (pc : Int) + off = (tgt : Int)) (kt : G p l e R s m args below meth c cells slots Q nL D ad cy A w V tgt L st) (kf : G p l e R s m args below meth c cells slots Q nL D ad cy A w2 V (pc + 3) L st) : G p l e R s m args below meth c cells slots Q nL D ad cy A (if x < 0 then w else w2) V pc L (.int x :: st) := fun hw ls H locs h1 h2 h3 => lv_if_lt hC.1.1 hC.1.2.1 d ht (fun h => kt (by rw [if_pos h] at hw; exact hw) ls H locs h1 h2 h3) (fun h => kf (by rw [if_neg h] at hw; exact hw) ls H locs h1 h2 h3)
theorem g_if_ge (hC : Cx p s m args c cc nL x0 own D ad cy A) {x : Int32} {off : Int} {tgt : Nat} {w2 : Prop} (d : decode cc pc = .ok (.ifCond .ge off, 3)) (ht : (pc : Int) + off = (tgt : Int)) (kt : G p l e R s m args below meth c cells slots Q nL D ad cy A w V tgt L st) (kf : G p l e R s m args below meth c cells slots Q nL D ad cy A w2 V (pc + 3) L st) : G p l e R s m args below meth c cells slots Q nL D ad cy A (if 0 ≤ x then w else w2) V pc L (.int x :: st) := fun hw ls H locs h1 h2 h3 => lv_if_ge hC.1.1 hC.1.2.1 d ht (fun h => kt (by rw [if_pos h] at hw; exact hw) ls H locs h1 h2 h3) (fun h => kf (by rw [if_neg h] at hw; exact hw) ls H locs h1 h2 h3)
theorem g_if_gt (hC : Cx p s m args c cc nL x0 own D ad cy A) {x : Int32} {off : Int} {tgt : Nat} {w2 : Prop} (d : decode cc pc = .ok (.ifCond .gt off, 3)) (ht : (pc : Int) + off = (tgt : Int)) (kt : G p l e R s m args below meth c cells slots Q nL D ad cy A w V tgt L st) (kf : G p l e R s m args below meth c cells slots Q nL D ad cy A w2 V (pc + 3) L st) : G p l e R s m args below meth c cells slots Q nL D ad cy A (if 0 < x then w else w2) V pc L (.int x :: st) := fun hw ls H locs h1 h2 h3 => lv_if_gt hC.1.1 hC.1.2.1 d ht (fun h => kt (by rw [if_pos h] at hw; exact hw) ls H locs h1 h2 h3) (fun h => kf (by rw [if_neg h] at hw; exact hw) ls H locs h1 h2 h3)
theorem g_if_le (hC : Cx p s m args c cc nL x0 own D ad cy A) {x : Int32} {off : Int} {tgt : Nat} {w2 : Prop} (d : decode cc pc = .ok (.ifCond .le off, 3)) (ht : (pc : Int) + off = (tgt : Int)) (kt : G p l e R s m args below meth c cells slots Q nL D ad cy A w V tgt L st) (kf : G p l e R s m args below meth c cells slots Q nL D ad cy A w2 V (pc + 3) L st) : G p l e R s m args below meth c cells slots Q nL D ad cy A (if x ≤ 0 then w else w2) V pc L (.int x :: st) := fun hw ls H locs h1 h2 h3 => lv_if_le hC.1.1 hC.1.2.1 d ht (fun h => kt (by rw [if_pos h] at hw; exact hw) ls H locs h1 h2 h3) (fun h => kf (by rw [if_neg h] at hw; exact hw) ls H locs h1 h2 h3)
theorem g_icmp_eq (hC : Cx p s m args c cc nL x0 own D ad cy A) {x y : Int32} {off : Int} {tgt : Nat} {w2 : Prop} (d : decode cc pc = .ok (.if_icmp .eq off, 3)) (ht : (pc : Int) + off = (tgt : Int)) (kt : G p l e R s m args below meth c cells slots Q nL D ad cy A w V tgt L st) (kf : G p l e R s m args below meth c cells slots Q nL D ad cy A w2 V (pc + 3) L st) : G p l e R s m args below meth c cells slots Q nL D ad cy A (if x = y then w else w2) V pc L (.int y :: .int x :: st) := fun hw ls H locs h1 h2 h3 => lv_icmp_eq hC.1.1 hC.1.2.1 d ht (fun h => kt (by rw [if_pos h] at hw; exact hw) ls H locs h1 h2 h3) (fun h => kf (by rw [if_neg h] at hw; exact hw) ls H locs h1 h2 h3)
theorem g_icmp_ne (hC : Cx p s m args c cc nL x0 own D ad cy A) {x y : Int32} {off : Int} {tgt : Nat} {w2 : Prop} (d : decode cc pc = .ok (.if_icmp .ne off, 3)) (ht : (pc : Int) + off = (tgt : Int)) (kt : G p l e R s m args below meth c cells slots Q nL D ad cy A w V tgt L st) (kf : G p l e R s m args below meth c cells slots Q nL D ad cy A w2 V (pc + 3) L st) : G p l e R s m args below meth c cells slots Q nL D ad cy A (if x = y then w2 else w) V pc L (.int y :: .int x :: st) := fun hw ls H locs h1 h2 h3 => lv_icmp_ne hC.1.1 hC.1.2.1 d ht (fun h => kt (by rw [if_neg h] at hw; exact hw) ls H locs h1 h2 h3) (fun h => kf (by rw [if_pos h] at hw; exact hw) ls H locs h1 h2 h3)
theorem g_icmp_lt (hC : Cx p s m args c cc nL x0 own D ad cy A) {x y : Int32} {off : Int} {tgt : Nat} {w2 : Prop} (d : decode cc pc = .ok (.if_icmp .lt off, 3)) (ht : (pc : Int) + off = (tgt : Int)) (kt : G p l e R s m args below meth c cells slots Q nL D ad cy A w V tgt L st) (kf : G p l e R s m args below meth c cells slots Q nL D ad cy A w2 V (pc + 3) L st) : G p l e R s m args below meth c cells slots Q nL D ad cy A (if x < y then w else w2) V pc L (.int y :: .int x :: st) := fun hw ls H locs h1 h2 h3 => lv_icmp_lt hC.1.1 hC.1.2.1 d ht (fun h => kt (by rw [if_pos h] at hw; exact hw) ls H locs h1 h2 h3) (fun h => kf (by rw [if_neg h] at hw; exact hw) ls H locs h1 h2 h3)
theorem g_icmp_ge (hC : Cx p s m args c cc nL x0 own D ad cy A) {x y : Int32} {off : Int} {tgt : Nat} {w2 : Prop} (d : decode cc pc = .ok (.if_icmp .ge off, 3)) (ht : (pc : Int) + off = (tgt : Int)) (kt : G p l e R s m args below meth c cells slots Q nL D ad cy A w V tgt L st) (kf : G p l e R s m args below meth c cells slots Q nL D ad cy A w2 V (pc + 3) L st) : G p l e R s m args below meth c cells slots Q nL D ad cy A (if y ≤ x then w else w2) V pc L (.int y :: .int x :: st) := fun hw ls H locs h1 h2 h3 => lv_icmp_ge hC.1.1 hC.1.2.1 d ht (fun h => kt (by rw [if_pos h] at hw; exact hw) ls H locs h1 h2 h3) (fun h => kf (by rw [if_neg h] at hw; exact hw) ls H locs h1 h2 h3)
theorem g_icmp_gt (hC : Cx p s m args c cc nL x0 own D ad cy A) {x y : Int32} {off : Int} {tgt : Nat} {w2 : Prop} (d : decode cc pc = .ok (.if_icmp .gt off, 3)) (ht : (pc : Int) + off = (tgt : Int)) (kt : G p l e R s m args below meth c cells slots Q nL D ad cy A w V tgt L st) (kf : G p l e R s m args below meth c cells slots Q nL D ad cy A w2 V (pc + 3) L st) : G p l e R s m args below meth c cells slots Q nL D ad cy A (if y < x then w else w2) V pc L (.int y :: .int x :: st) := fun hw ls H locs h1 h2 h3 => lv_icmp_gt hC.1.1 hC.1.2.1 d ht (fun h => kt (by rw [if_pos h] at hw; exact hw) ls H locs h1 h2 h3) (fun h => kf (by rw [if_neg h] at hw; exact hw) ls H locs h1 h2 h3)
theorem g_icmp_le (hC : Cx p s m args c cc nL x0 own D ad cy A) {x y : Int32} {off : Int} {tgt : Nat} {w2 : Prop} (d : decode cc pc = .ok (.if_icmp .le off, 3)) (ht : (pc : Int) + off = (tgt : Int)) (kt : G p l e R s m args below meth c cells slots Q nL D ad cy A w V tgt L st) (kf : G p l e R s m args below meth c cells slots Q nL D ad cy A w2 V (pc + 3) L st) : G p l e R s m args below meth c cells slots Q nL D ad cy A (if x ≤ y then w else w2) V pc L (.int y :: .int x :: st) := fun hw ls H locs h1 h2 h3 => lv_icmp_le hC.1.1 hC.1.2.1 d ht (fun h => kt (by rw [if_pos h] at hw; exact hw) ls H locs h1 h2 h3) (fun h => kf (by rw [if_neg h] at hw; exact hw) ls H locs h1 h2 h3)
theorem g_swIn (hC : Cx p s m args c cc nL x0 own D ad cy A) {dflt lo hi : Int} {offs : Array Int} {len : Nat} {x : Int32} {off : Int} {tgt : Nat} (d : decode cc pc = .ok (.tableswitch dflt lo hi offs, len)) (h1 : ¬ x.toInt < lo) (h2 : ¬ hi < x.toInt) (ho : offs[(x.toInt - lo).toNat]? = some off) (ht : (pc : Int) + off = (tgt : Int)) (k : G p l e R s m args below meth c cells slots Q nL D ad cy A w V tgt L st) : G p l e R s m args below meth c cells slots Q nL D ad cy A w V pc L (.int x :: st) := fun hw ls H locs g1 g2 g3 => lv_tableIn hC.1.1 hC.1.2.1 d h1 h2 ho ht (k hw ls H locs g1 g2 g3)
theorem g_swOut (hC : Cx p s m args c cc nL x0 own D ad cy A) {dflt lo hi : Int} {offs : Array Int} {len : Nat} {x : Int32} {tgt : Nat} (d : decode cc pc = .ok (.tableswitch dflt lo hi offs, len)) (h : x.toInt < lo ∨ hi < x.toInt) (ht : (pc : Int) + dflt = (tgt : Int)) (k : G p l e R s m args below meth c cells slots Q nL D ad cy A w V tgt L st) : G p l e R s m args below meth c cells slots Q nL D ad cy A w V pc L (.int x :: st) := fun hw ls H locs g1 g2 g3 => lv_tableOut hC.1.1 hC.1.2.1 d h ht (k hw ls H locs g1 g2 g3)
theorem Cx.mem (hC : Cx p s m args c cc nL x0 own D ad cy A) {z : Cond} (h : z ∈ WA) : z.before args s = true := hC.1.2.2.2.2 _ (List.mem_cons_of_mem _ h)
theorem wA_obj (ad : Nat → Nat) (cy : Nat → ClassId) (V : St) {j ci : Nat} {sl : List (Option Nat)} (hj : j < 94) (hl : ly j = .inl (ci, sl)) : (wA ad cy V)[j]? = some (ad j, .inr (ci, sv ad (V j) 0 sl)) := by rw [wA_get ad cy V hj, hl]; rfl
theorem g_get (hC : Cx p s m args c cc nL x0 own D ad cy A) {index ci k j : Nat} {sl : List (Option Nat)} {v : Value} (hf : FL own index ci k) (hj : j < 94) (hl : ly j = .inl (ci, sl)) (hv : (sv ad (V j) 0 sl)[k]? = some v) (d : decode cc pc = .ok (.getfield index, 3)) (kk : G p l e R s m args below meth c cells slots Q nL D ad cy A w V (pc + 3) L (v :: st)) : G p l e R s m args below meth c cells slots Q nL D ad cy A w V pc L (.ref (ad j) :: st) := by
  intro hw ls H locs h1 h2 h3
  obtain ⟨C, T, N, hc, hk, hin, hlk⟩ := hf
  rcases hlk with hlk | ⟨host, hlk⟩
  · exact va_get hC.1.1 hC.1.2.1 hC.1.2.2.2.2 (fun z hz => List.mem_cons_of_mem _ (hin z hz)) hC.1.2.2.2.1 hC.2.2.1 h2 j (wA_obj ad cy V hj hl) hc k hk (hC.mem hlk) (fun _ h9 => h9) hv d (kk hw ls H locs h1 h2 h3)
  · exact va_getN hC.1.1 hC.1.2.1 hC.1.2.2.2.2 (fun z hz => List.mem_cons_of_mem _ (hin z hz)) hC.1.2.2.2.1 hC.2.2.1 h2 j (wA_obj ad cy V hj hl) hc k hk (nw_use hlk (hC.2.1 _ hlk)) (fun _ h9 => h9) hv d (kk hw ls H locs h1 h2 h3)
theorem g_getI (hC : Cx p s m args c cc nL x0 own D ad cy A) {index ci k j : Nat} {sl : List (Option Nat)} (hf : FL own index ci k) (hj : j < 94) (hl : ly j = .inl (ci, sl)) (hs : sl[k]? = some none) (d : decode cc pc = .ok (.getfield index, 3)) (kk : G p l e R s m args below meth c cells slots Q nL D ad cy A w V (pc + 3) L (.int (V j k) :: st)) : G p l e R s m args below meth c cells slots Q nL D ad cy A w V pc L (.ref (ad j) :: st) := g_get hC hf hj hl (by have := sv_int ad (V j) sl 0 k hs; rwa [Nat.zero_add] at this) d kk
theorem g_getR (hC : Cx p s m args c cc nL x0 own D ad cy A) {index ci k j q : Nat} {sl : List (Option Nat)} (hf : FL own index ci k) (hj : j < 94) (hl : ly j = .inl (ci, sl)) (hs : sl[k]? = some (some q)) (d : decode cc pc = .ok (.getfield index, 3)) (kk : G p l e R s m args below meth c cells slots Q nL D ad cy A w V (pc + 3) L (.ref (ad q) :: st)) : G p l e R s m args below meth c cells slots Q nL D ad cy A w V pc L (.ref (ad j) :: st) := g_get hC hf hj hl (sv_ref ad (V j) sl 0 k hs) d kk
theorem g_put (hC : Cx p s m args c cc nL x0 own D ad cy A) {index ci k j : Nat} {sl : List (Option Nat)} {ty : FieldType} {x : Int32} {f : St → Prop} (hf : FP own index ci k ty) (hj : j < 94) (hl : ly j = .inl (ci, sl)) (hs : sl[k]? = some none) (hn : narrow ty (.int x) = .int x) (hfit : fits ty (.int x) = true) (d : decode cc pc = .ok (.putfield index, 3)) (hw : f (up2 V j k x)) (kk : ∀ V2, G p l e R s m args below meth c cells slots Q nL D ad cy A (f V2) V2 (pc + 3) L st) (ls : Array Slot) (H : Heap) (locs : List Loc) (h1 : lh ls nL L) (h2 : va_P D vwCl (wA ad cy V) H) (h3 : va_S A s.heap H locs) : W p l e R s m args below meth c H locs cells slots Q (F0 m pc ls (.int x :: .ref (ad j) :: st)) := by
  obtain ⟨C, T, N, ty0, hc, hk, hin, hlk, hfin, hd, hty, hnm⟩ := hf
  have hD := wA_D (cy := cy) V hC.2.2.2.1 hC.2.2.2.2.1
  have hset : (wA ad cy V).set j (ad j, .inr (ci, (sv ad (V j) 0 sl).set k (.int x))) = wA ad cy (up2 V j k x) := by
    refine wA_set ad cy V hj k x ?_
    rw [sv_set ad (V j) x sl 0 k hs, hl, Nat.zero_add]
    rfl
  have hlen : k < (sv ad (V j) 0 sl).length := by rw [sv_len]; exact (List.getElem?_eq_some_iff.mp hs).1
  rcases hlk with hlk | ⟨host, hlk⟩
  · refine va_put hC.1.1 hC.1.2.1 hC.1.2.2.2.2 (fun z hz => List.mem_cons_of_mem _ (hin z hz)) ty0 hty hnm hC.1.2.2.2.1 hC.2.2.1 h2 hD h3 j (wA_obj ad cy V hj hl) hc k hk (hC.mem hlk) (fun _ h9 => h9) hfin hd hn hfit hlen d (fun H1 locs1 q1 _ q3 => ?_)
    rw [hset] at q1
    exact kk _ hw ls H1 locs1 h1 q1 q3
  · refine va_putN hC.1.1 hC.1.2.1 hC.1.2.2.2.2 (fun z hz => List.mem_cons_of_mem _ (hin z hz)) ty0 hty hnm hC.1.2.2.2.1 hC.2.2.1 h2 hD h3 j (wA_obj ad cy V hj hl) hc k hk (nw_use hlk (hC.2.1 _ hlk)) (fun _ h9 => h9) hfin hd hn hfit hlen d (fun H1 locs1 q1 _ q3 => ?_)
    rw [hset] at q1
    exact kk _ hw ls H1 locs1 h1 q1 q3
theorem g_putI (hC : Cx p s m args c cc nL x0 own D ad cy A) {index ci k j : Nat} {sl : List (Option Nat)} {x : Int32} {f : St → Prop} (hf : FP own index ci k .int) (hj : j < 94) (hl : ly j = .inl (ci, sl)) (hs : sl[k]? = some none) (d : decode cc pc = .ok (.putfield index, 3)) (kk : ∀ V2, G p l e R s m args below meth c cells slots Q nL D ad cy A (f V2) V2 (pc + 3) L st) : G p l e R s m args below meth c cells slots Q nL D ad cy A (∀ V2 : St, V2 = up2 V j k x → f V2) V pc L (.int x :: .ref (ad j) :: st) := fun hw => g_put hC hf hj hl hs rfl rfl d (hw _ rfl) kk
theorem g_putZ (hC : Cx p s m args c cc nL x0 own D ad cy A) {index ci k j : Nat} {sl : List (Option Nat)} {x : Int32} {f : St → Prop} (hf : FP own index ci k .boolean) (hj : j < 94) (hl : ly j = .inl (ci, sl)) (hs : sl[k]? = some none) (d : decode cc pc = .ok (.putfield index, 3)) (kk : ∀ V2, G p l e R s m args below meth c cells slots Q nL D ad cy A (f V2) V2 (pc + 3) L st) : G p l e R s m args below meth c cells slots Q nL D ad cy A ((x = 0 ∨ x = 1) ∧ ∀ V2 : St, V2 = up2 V j k x → f V2) V pc L (.int x :: .ref (ad j) :: st) := fun hw => g_put hC hf hj hl hs (by rcases hw.1 with h | h <;> rw [h] <;> decide) (by rcases hw.1 with h | h <;> rw [h] <;> decide) d (hw.2 _ rfl) kk
theorem wA_arr (ad : Nat → Nat) (cy : Nat → ClassId) (V : St) {j t n : Nat} (hj : j < 94) (hl : ly j = .inr (.inl (t, n))) (h3 : t ≠ 3) : (wA ad cy V)[j]? = some (ad j, .inl (cy t, n, .inl (V j))) := by
  rw [wA_get ad cy V hj, hl]
  show some (ad j, ce ad cy (V j) (.inr (.inl (t, n)))) = _
  simp only [ce, if_neg h3]
theorem wA_long (ad : Nat → Nat) (cy : Nat → ClassId) (V : St) {j n : Nat} (hj : j < 94) (hl : ly j = .inr (.inl (3, n))) : (wA ad cy V)[j]? = some (ad j, .inl (cy 3, n, .inr (.inl (fun k => (V j k).toInt64)))) := by
  rw [wA_get ad cy V hj, hl]
  rfl
theorem wA_arrset (ad : Nat → Nat) (cy : Nat → ClassId) (V : St) {j t n : Nat} (hj : j < 94) (hl : ly j = .inr (.inl (t, n))) (h3 : t ≠ 3) (k : Nat) (x : Int32) : (wA ad cy V).set j (ad j, .inl (cy t, n, .inl (upd (V j) k x))) = wA ad cy (up2 V j k x) := by
  refine wA_set ad cy V hj k x ?_
  rw [hl]
  simp only [ce, if_neg h3]
theorem g_iald (hC : Cx p s m args c cc nL x0 own D ad cy A) {j n : Nat} {i : Int32} (hj : j < 94) (hl : ly j = .inr (.inl (0, n))) (d : decode cc pc = .ok (.iaload, 1)) (kk : G p l e R s m args below meth c cells slots Q nL D ad cy A w V (pc + 1) L (.int (V j i.toNatClampNeg) :: st)) : G p l e R s m args below meth c cells slots Q nL D ad cy A (vp_in i n ∧ w) V pc L (.int i :: .ref (ad j) :: st) := fun hw ls H locs h1 h2 h3 => va_iald hC.1.1 hC.1.2.1 hC.2.2.1 h2 j 0 (wA_arr ad cy V hj hl (by decide)) rfl hw.1 d (kk hw.2 ls H locs h1 h2 h3)
theorem g_bald (hC : Cx p s m args c cc nL x0 own D ad cy A) {j n : Nat} {i : Int32} (hj : j < 94) (hl : ly j = .inr (.inl (1, n))) (d : decode cc pc = .ok (.baload, 1)) (kk : G p l e R s m args below meth c cells slots Q nL D ad cy A w V (pc + 1) L (.int (V j i.toNatClampNeg) :: st)) : G p l e R s m args below meth c cells slots Q nL D ad cy A (vp_in i n ∧ w) V pc L (.int i :: .ref (ad j) :: st) := fun hw ls H locs h1 h2 h3 => va_bald hC.1.1 hC.1.2.1 hC.2.2.1 h2 j 1 (wA_arr ad cy V hj hl (by decide)) rfl hw.1 d (kk hw.2 ls H locs h1 h2 h3)
theorem g_zald (hC : Cx p s m args c cc nL x0 own D ad cy A) {j n : Nat} {i : Int32} (hj : j < 94) (hl : ly j = .inr (.inl (2, n))) (d : decode cc pc = .ok (.baload, 1)) (kk : G p l e R s m args below meth c cells slots Q nL D ad cy A w V (pc + 1) L (.int (V j i.toNatClampNeg) :: st)) : G p l e R s m args below meth c cells slots Q nL D ad cy A (vp_in i n ∧ w) V pc L (.int i :: .ref (ad j) :: st) := fun hw ls H locs h1 h2 h3 => va_zald hC.1.1 hC.1.2.1 hC.2.2.1 h2 j 2 (wA_arr ad cy V hj hl (by decide)) rfl hw.1 d (kk hw.2 ls H locs h1 h2 h3)
theorem g_lald (hC : Cx p s m args c cc nL x0 own D ad cy A) {j n : Nat} {i : Int32} (hj : j < 94) (hl : ly j = .inr (.inl (3, n))) (d : decode cc pc = .ok (.laload, 1)) (kk : G p l e R s m args below meth c cells slots Q nL D ad cy A w V (pc + 1) L (.long (V j i.toNatClampNeg).toInt64 :: st)) : G p l e R s m args below meth c cells slots Q nL D ad cy A (vp_in i n ∧ w) V pc L (.int i :: .ref (ad j) :: st) := fun hw ls H locs h1 h2 h3 => va_lald hC.1.1 hC.1.2.1 hC.2.2.1 h2 j 3 (wA_long ad cy V hj hl) rfl hw.1 d (kk hw.2 ls H locs h1 h2 h3)
theorem g_alen (hC : Cx p s m args c cc nL x0 own D ad cy A) {j n : Nat} (hj : j < 94) (hl : ly j = .inr (.inl (0, n))) (d : decode cc pc = .ok (.arraylength, 1)) (kk : G p l e R s m args below meth c cells slots Q nL D ad cy A w V (pc + 1) L (.int (nI n) :: st)) : G p l e R s m args below meth c cells slots Q nL D ad cy A w V pc L (.ref (ad j) :: st) := fun hw ls H locs h1 h2 h3 => va_alen hC.1.1 hC.1.2.1 hC.2.2.1 h2 j 0 (wA_arr ad cy V hj hl (by decide)) rfl rfl d (kk hw ls H locs h1 h2 h3)
theorem g_iast (hC : Cx p s m args c cc nL x0 own D ad cy A) {j n : Nat} {i x : Int32} {f : St → Prop} (hj : j < 94) (hl : ly j = .inr (.inl (0, n))) (d : decode cc pc = .ok (.iastore, 1)) (kk : ∀ V2, G p l e R s m args below meth c cells slots Q nL D ad cy A (f V2) V2 (pc + 1) L st) : G p l e R s m args below meth c cells slots Q nL D ad cy A (vp_in i n ∧ ∀ V2 : St, V2 = up2 V j i.toNatClampNeg x → f V2) V pc L (.int x :: .int i :: .ref (ad j) :: st) := fun hw ls H locs h1 h2 h3 => va_iast hC.1.1 hC.1.2.1 hC.2.2.1 h2 (wA_D (cy := cy) V hC.2.2.2.1 hC.2.2.2.2.1) h3 j 0 (wA_arr ad cy V hj hl (by decide)) rfl hw.1 d (fun H1 locs1 q1 _ q3 => kk _ (hw.2 _ rfl) ls H1 locs1 h1 (by rw [← wA_arrset ad cy V hj hl (by decide)]; exact q1) q3)
theorem nar_z {x : Int32} (h : x = 0 ∨ x = 1) : vp_nar .boolean x = x := by rcases h with h | h <;> rw [h] <;> decide
theorem g_zast (hC : Cx p s m args c cc nL x0 own D ad cy A) {j n : Nat} {i x : Int32} {f : St → Prop} (hj : j < 94) (hl : ly j = .inr (.inl (2, n))) (d : decode cc pc = .ok (.bastore, 1)) (kk : ∀ V2, G p l e R s m args below meth c cells slots Q nL D ad cy A (f V2) V2 (pc + 1) L st) : G p l e R s m args below meth c cells slots Q nL D ad cy A (vp_in i n ∧ (x = 0 ∨ x = 1) ∧ ∀ V2 : St, V2 = up2 V j i.toNatClampNeg x → f V2) V pc L (.int x :: .int i :: .ref (ad j) :: st) := fun hw ls H locs h1 h2 h3 => va_zast hC.1.1 hC.1.2.1 hC.2.2.1 h2 (wA_D (cy := cy) V hC.2.2.2.1 hC.2.2.2.2.1) h3 j 2 (wA_arr ad cy V hj hl (by decide)) rfl hw.1 d (fun H1 locs1 q1 _ q3 => kk _ (hw.2.2 _ rfl) ls H1 locs1 h1 (by rw [nar_z hw.2.1] at q1; rw [← wA_arrset ad cy V hj hl (by decide)]; exact q1) q3)
theorem g_bast (hC : Cx p s m args c cc nL x0 own D ad cy A) {j n : Nat} {i x : Int32} {f : St → Prop} (hj : j < 94) (hl : ly j = .inr (.inl (1, n))) (d : decode cc pc = .ok (.bastore, 1)) (kk : ∀ V2, G p l e R s m args below meth c cells slots Q nL D ad cy A (f V2) V2 (pc + 1) L st) : G p l e R s m args below meth c cells slots Q nL D ad cy A (vp_in i n ∧ ∀ V2 : St, V2 = up2 V j i.toNatClampNeg x.toInt8.toInt32 → f V2) V pc L (.int x :: .int i :: .ref (ad j) :: st) := fun hw ls H locs h1 h2 h3 => va_bast hC.1.1 hC.1.2.1 hC.2.2.1 h2 (wA_D (cy := cy) V hC.2.2.2.1 hC.2.2.2.2.1) h3 j 1 (wA_arr ad cy V hj hl (by decide)) rfl hw.1 d (fun H1 locs1 q1 _ q3 => kk _ (hw.2 _ rfl) ls H1 locs1 h1 (by rw [vp_nar_byte] at q1; rw [← wA_arrset ad cy V hj hl (by decide)]; exact q1) q3)
theorem g_last (hC : Cx p s m args c cc nL x0 own D ad cy A) {j n : Nat} {i x : Int32} {f : St → Prop} (hj : j < 94) (hl : ly j = .inr (.inl (3, n))) (d : decode cc pc = .ok (.lastore, 1)) (kk : ∀ V2, G p l e R s m args below meth c cells slots Q nL D ad cy A (f V2) V2 (pc + 1) L st) : G p l e R s m args below meth c cells slots Q nL D ad cy A (vp_in i n ∧ ∀ V2 : St, V2 = up2 V j i.toNatClampNeg x → f V2) V pc L (.long x.toInt64 :: .int i :: .ref (ad j) :: st) := fun hw ls H locs h1 h2 h3 => va_last hC.1.1 hC.1.2.1 hC.2.2.1 h2 (wA_D (cy := cy) V hC.2.2.2.1 hC.2.2.2.2.1) h3 j 3 (wA_long ad cy V hj hl) rfl hw.1 d (fun H1 locs1 q1 _ q3 => kk _ (hw.2 _ rfl) ls H1 locs1 h1 (by
    have e : vp_updL (fun k => (V j k).toInt64) i.toNatClampNeg x.toInt64 = (fun k => (upd (V j) i.toNatClampNeg x k).toInt64) := by
      funext k
      simp only [vp_updL, upd]
      split <;> rfl
    rw [e] at q1
    rw [← wA_set ad cy V hj i.toNatClampNeg x (y := .inl (cy 3, n, .inr (.inl (fun k => (upd (V j) i.toNatClampNeg x k).toInt64)))) (by rw [hl]; rfl)]
    exact q1) q3)
theorem g_aald (hC : Cx p s m args c cc nL x0 own D ad cy A) {j t n b sd : Nat} {i : Int32} {C : String} {f : Nat → Prop} (hj : j < 94) (hl : ly j = .inr (.inr (t, n, b, sd))) (ht : (tyl cy)[t]? = some (cy t, .object C)) (hn : n < 2 ^ 31) (d : decode cc pc = .ok (.aaload, 1)) (kk : ∀ k, k < n → G p l e R s m args below meth c cells slots Q nL D ad cy A (f k) V (pc + 1) L (.ref (ad (b + sd * k)) :: st)) : G p l e R s m args below meth c cells slots Q nL D ad cy A (∃ k, k < n ∧ i = nI k ∧ f k) V pc L (.int i :: .ref (ad j) :: st) := by
  rintro ⟨k, hk, rfl, hw⟩ ls H locs h1 h2 h3
  refine va_aldq hC.1.1 hC.1.2.1 hC.2.2.1 h2 j t (by rw [wA_get ad cy V hj, hl]; rfl) ht (vp_in_nI hk hn) d ?_
  rw [nI_clamp (by omega), if_pos hk]
  exact kk k hk hw ls H locs h1 h2 h3
theorem g_max (hC : Cx p s m args c cc nL x0 own D ad cy A) {index : Nat} {x y : Int32} (hlk : Cond.methodLink own index Lib.Math.max.name ∈ WA) (hst : Cond.static Lib.Math.max.name ∈ WA) (hini : Cond.initialized "java/lang/Math" ∈ WA) (hcd : Cond.code Lib.Math.max.name Lib.Math.max.code 2 (some .int) ∈ WA) (hfr : 1 ≤ R.frames) (hlo : (st.map fun v => v.category).sum + 13 ≤ R.locals) (hce : cells ≤ R.cells) (hsl : slots ≤ R.slots) (d : decode cc pc = .ok (.invokestatic index, 3)) (kk : G p l e R s m args below meth c cells slots Q nL D ad cy A w V (pc + 3) L (.int (if x < y then y else x) :: st)) : G p l e R s m args below meth c cells slots Q nL D ad cy A w V pc L (.int y :: .int x :: st) := fun hw ls H locs h1 h2 h3 => va_mmax hC.1.1 hC.1.2.1 (hC.1.2.2.1.trans h1.1.symm) hC.1.2.2.2.1 (hC.mem hlk) (hC.mem hst) (hC.mem hini) (hC.mem hcd) hfr hlo hce hsl d (kk hw ls H locs h1 h2 h3)
end RW
end
section
/-! ===== contracts: a method with the weakest precondition w comes to K ===== -/
def Bs (D : va_G) (ad : Nat → Nat) (cy : Nat → ClassId) (V : St) (U : State) : Prop := va_P D vwCl (wA ad cy V) U.heap ∧ va_K D vwCl (tyl cy) U ∧ ∀ w ∈ NW, va_Nw w U
def Bq (D : va_G) (ad : Nat → Nat) (cy : Nat → ClassId) (V : St) (t : State) : Prop := va_P D vwCl (wA ad cy V) t.heap
def Hi (l : Launch) (D : va_G) (ad : Nat → Nat) (cy : Nat → ClassId) (y : MethodName) (ws : List Cond) (rm : Room) (av : List Value) (V : St) (K : Int32 → St → Prop) : Prop := ∀ sz : Nat, Met l y ws rm (va_Pc av (fun U => U.heap.size = sz ∧ Bs D ad cy V U)) (va_Qi K (Bq D ad cy) (fr ad sz)) 0 0 (fr ad sz)
def Hv (l : Launch) (D : va_G) (ad : Nat → Nat) (cy : Nat → ClassId) (y : MethodName) (ws : List Cond) (rm : Room) (av : List Value) (V : St) (K : St → Prop) : Prop := ∀ sz : Nat, Met l y ws rm (va_Pc av (fun U => U.heap.size = sz ∧ Bs D ad cy V U)) (va_Qv K (Bq D ad cy) (fr ad sz)) 0 0 (fr ad sz)
/-- an instance method's words; a static one's -/
def MI (y : MethodName) (b : ByteArray) (mL : Nat) (ret : Option FieldType) (n : Nat) : Prop := Cond.code y b mL ret ∈ WA ∧ Cond.instanceMethod y ∈ WA ∧ Cond.selects y.cls y y ∈ WA ∧ Cond.initialized y.cls ∈ WA ∧ y.cls ≠ "java/lang/invoke/MethodHandle" ∧ y.cls ≠ "java/lang/invoke/VarHandle" ∧ (parseMethodDescriptor y.desc).map (fun d => d.parameters.length) = some n
def MS (y : MethodName) (b : ByteArray) (mL : Nat) (ret : Option FieldType) (n : Nat) : Prop := Cond.code y b mL ret ∈ WA ∧ Cond.static y ∈ WA ∧ Cond.initialized y.cls ∈ WA ∧ y.cls ≠ "java/lang/invoke/MethodHandle" ∧ y.cls ≠ "java/lang/invoke/VarHandle" ∧ (parseMethodDescriptor y.desc).map (fun d => d.parameters.length) = some n
section CT
variable {p : Program} {l : Launch} {e : Env} {R : Room} {s : State} {m : MethodId} {args : Array Value} {below : List Frame} {meth : Method} {c : Code} {cells slots : Nat} {Q : State → Prop} {cc : ByteArray} {nL : Nat} {x0 : Cond} {own : String} {D : va_G} {ad : Nat → Nat} {cy : Nat → ClassId} {A : Nat → Prop}
variable {w : Prop} {V : St} {pc : Nat} {L : List (Option Value)} {st : List Value}
theorem H_i {y : MethodName} {rm : Room} {av : List Value} {K : Int32 → St → Prop} {ret : FieldType} (hy : plainName y.cls = true) (hsl : (lg_sl av).length ≤ nL) (hcat : ∀ x ∈ av, x.category = 1) (hi : inj ad) (body : ∀ (p : Program) (e : Env) (s : State) (m : MethodId) (args : Array Value) (below : List Frame) (meth : Method) (c : Code) (A : Nat → Prop), Cx p s m args c cc nL (Cond.code y cc nL (some ret)) y.cls D ad cy A → meth.sig.returnType = some ret → meth.locks = false → G p l e rm s m args below meth c 0 0 (MQ below (va_Qi K (Bq D ad cy) A) args s 0 0 A) nL D ad cy A w V 0 (L0 av nL) []) (hw : w) : Hi l D ad cy y (Cond.code y cc nL (some ret) :: WA) rm av V K := by
  intro sz
  refine Met.ofW (cc := cc) (maxL := nL) (ret := some ret) hy rfl ?_
  intro p e s m args below meth c s₁ B hml hv
  obtain ⟨rfl, rfl, hP, hK, hN⟩ := hv
  have hts := atoms_spec (ws := Cond.code y cc nL (some ret) :: WA) B.pre
  have hown : s.vm.findClass y.cls = some m.cls := findClass_of_methodNamed B.named
  rw [lg_entry_eq]
  exact body p e s m _ below meth c (fr ad s.heap.size) ⟨⟨B.exec, B.bytes, hml, hown, hts⟩, hN, hK, hi, fun j hj => Or.inl ⟨j, hj, rfl⟩, fun q h => Or.inr h⟩ B.returns B.notSynchronized hw _ _ _ (lh_entry av hsl hcat) hP va_S.rf
theorem H_v {y : MethodName} {rm : Room} {av : List Value} {K : St → Prop} (hy : plainName y.cls = true) (hsl : (lg_sl av).length ≤ nL) (hcat : ∀ x ∈ av, x.category = 1) (hi : inj ad) (body : ∀ (p : Program) (e : Env) (s : State) (m : MethodId) (args : Array Value) (below : List Frame) (meth : Method) (c : Code) (A : Nat → Prop), Cx p s m args c cc nL (Cond.code y cc nL none) y.cls D ad cy A → meth.sig.returnType = none → meth.locks = false → G p l e rm s m args below meth c 0 0 (MQ below (va_Qv K (Bq D ad cy) A) args s 0 0 A) nL D ad cy A w V 0 (L0 av nL) []) (hw : w) : Hv l D ad cy y (Cond.code y cc nL none :: WA) rm av V K := by
  intro sz
  refine Met.ofW (cc := cc) (maxL := nL) (ret := none) hy rfl ?_
  intro p e s m args below meth c s₁ B hml hv
  obtain ⟨rfl, rfl, hP, hK, hN⟩ := hv
  have hts := atoms_spec (ws := Cond.code y cc nL none :: WA) B.pre
  have hown : s.vm.findClass y.cls = some m.cls := findClass_of_methodNamed B.named
  rw [lg_entry_eq]
  exact body p e s m _ below meth c (fr ad s.heap.size) ⟨⟨B.exec, B.bytes, hml, hown, hts⟩, hN, hK, hi, fun j hj => Or.inl ⟨j, hj, rfl⟩, fun q h => Or.inr h⟩ B.returns B.notSynchronized hw _ _ _ (lh_entry av hsl hcat) hP va_S.rf
theorem g_iret (hC : Cx p s m args c cc nL x0 own D ad cy A) (hr : meth.sig.returnType = some .int) (hlk : meth.locks = false) {K : Int32 → St → Prop} {x : Int32} (d : decode cc pc = .ok (.ireturn, 1)) : G p l e R s m args below meth c cells slots (MQ below (va_Qi K (Bq D ad cy) A) args s cells slots A) nL D ad cy A (K x V) V pc L [.int x] := fun hw ls H locs h1 h2 h3 => W.iret hC.1.1 hC.1.2.1 hr (fun t ht hW => ⟨⟨x, V, rfl, hw, by unfold Bq; rw [ht]; exact h2⟩, h3.F ht⟩) h3.2.2 d hlk
theorem g_zret0 (hC : Cx p s m args c cc nL x0 own D ad cy A) (hr : meth.sig.returnType = some .boolean) (hlk : meth.locks = false) {K : Int32 → St → Prop} {x : Int32} (d : decode cc pc = .ok (.ireturn, 1)) (hx : x = 0 ∨ x = 1) : G p l e R s m args below meth c cells slots (MQ below (va_Qi K (Bq D ad cy) A) args s cells slots A) nL D ad cy A (K x V) V pc L [.int x] := fun hw ls H locs h1 h2 h3 => W.zret hC.1.1 hC.1.2.1 hr (by rcases hx with h | h <;> rw [h] <;> decide) (fun t ht hW => ⟨⟨x, V, rfl, hw, by unfold Bq; rw [ht]; exact h2⟩, h3.F ht⟩) h3.2.2 d hlk
theorem g_zret (hC : Cx p s m args c cc nL x0 own D ad cy A) (hr : meth.sig.returnType = some .boolean) (hlk : meth.locks = false) {K : Int32 → St → Prop} {x : Int32} (d : decode cc pc = .ok (.ireturn, 1)) : G p l e R s m args below meth c cells slots (MQ below (va_Qi K (Bq D ad cy) A) args s cells slots A) nL D ad cy A ((x = 0 ∨ x = 1) ∧ K x V) V pc L [.int x] := fun hw => g_zret0 hC hr hlk d hw.1 hw.2
theorem g_vret (hC : Cx p s m args c cc nL x0 own D ad cy A) (hr : meth.sig.returnType = none) (hlk : meth.locks = false) {K : St → Prop} (d : decode cc pc = .ok (.return_, 1)) : G p l e R s m args below meth c cells slots (MQ below (va_Qv K (Bq D ad cy) A) args s cells slots A) nL D ad cy A (K V) V pc L [] := fun hw ls H locs h1 h2 h3 => W.vret hC.1.1 hC.1.2.1 hr (fun t ht hW => ⟨⟨V, rfl, hw, by unfold Bq; rw [ht]; exact h2⟩, h3.F ht⟩) h3.2.2 d hlk
theorem Bs.blind {av : List Value} {sz : Nat} : FrameBlind (va_Pc av (fun U => U.heap.size = sz ∧ Bs D ad cy V U)) := by
  intro a U g mk q
  obtain ⟨q0, q1, qP, qK, qN⟩ := q
  exact ⟨q0, q1, qP, va_K.moved (u := U) (U := U.calling g mk a) (Vm.Alike.refl U.vm) qK, fun z hz => nw_calling hz (qN z hz)⟩
theorem Cx.callee (hC : Cx p s m args c cc nL x0 own D ad cy A) {H : Heap} (h2 : va_P D vwCl (wA ad cy V) H) {U : State} (hU : U.heap = H) (hW : s.WarmedH U.vm) : U.heap.size = H.size ∧ Bs D ad cy V U := ⟨by rw [hU], by rw [hU]; exact h2, va_K.moved hW.alike hC.2.2.1, fun z hz => nw_warm hz hW (hC.2.1 z hz)⟩
theorem Cx.fr (hC : Cx p s m args c cc nL x0 own D ad cy A) {H : Heap} {locs : List Loc} (h3 : va_S A s.heap H locs) {q : Nat} (h : fr ad H.size q) : A q := by
  rcases h with ⟨j, hj, rfl⟩ | h
  · exact hC.2.2.2.2.1 j hj
  · exact hC.2.2.2.2.2 q (Nat.le_trans h3.1 h)
theorem Cx.wV (hC : Cx p s m args c cc nL x0 own D ad cy A) {y : MethodName} {b : ByteArray} {mL n index : Nat} {ret : Option FieldType} {rm : Room} (hm : MI y b mL ret n) (hl : Cond.methodLink own index y ∈ WA) {mc ms : Nat} (hrc : rm.cells = mc) (hrs : rm.slots = ms) (hR : rm.frames + 1 ≤ R.frames ∧ 8 + (mL + 11) + rm.locals ≤ R.locals) : CallW R s args own y.cls index y b mL ret (Cond.code y b mL ret :: WA) rm mc ms n := by
  obtain ⟨h1, h2, h3, h4, h5, h6, h7⟩ := hm
  refine cwV n hC.1.2.2.2.2 (fun z hz => ?_) rfl hrc hrs ⟨rfl, h5, h6, h7⟩ hR
  rcases List.mem_append.mp hz with h | h
  · simp only [List.mem_cons, List.not_mem_nil, or_false] at h
    rcases h with rfl | rfl | rfl | rfl
    · exact goodWA hl
    · exact goodWA h2
    · exact goodWA h3
    · exact goodWA h4
  · exact goodCode h1 z h
theorem Cx.wS (hC : Cx p s m args c cc nL x0 own D ad cy A) {y : MethodName} {b : ByteArray} {mL n index : Nat} {ret : Option FieldType} {rm : Room} (hm : MS y b mL ret n) (hl : Cond.methodLink own index y ∈ WA) {mc ms : Nat} (hrc : rm.cells = mc) (hrs : rm.slots = ms) (hR : rm.frames + 1 ≤ R.frames ∧ 8 + (mL + 11) + rm.locals ≤ R.locals) : CallB R s args own index y b mL ret (Cond.code y b mL ret :: WA) rm mc ms n ∧ (Cond.static y).before args s = true := by
  obtain ⟨h1, h2, h3, h5, h6, h7⟩ := hm
  refine va_cwS n hC.1.2.2.2.2 (fun z hz => ?_) rfl hrc hrs ⟨h5, h6, h7⟩ hR
  rcases List.mem_append.mp hz with h | h
  · simp only [List.mem_cons, List.not_mem_nil, or_false] at h
    rcases h with rfl | rfl | rfl
    · exact goodWA hl
    · exact goodWA h2
    · exact goodWA h3
  · exact goodCode h1 z h
theorem g_cvi (hC : Cx p s m args c cc nL x0 own D ad cy A) {y : MethodName} {b : ByteArray} {mL n index j ci N : Nat} {ret : Option FieldType} {rm : Room} {As rest : List Value} {sl : List (Option Nat)} {T : u_T} {K : Int32 → St → Prop} (hM : w → Hi l D ad cy y (Cond.code y b mL ret :: WA) rm (.ref (ad j) :: As) V K) (hm : MI y b mL ret n) (hlk : Cond.methodLink own index y ∈ WA) (hrm : rm.cells = 0 ∧ rm.slots = 0) (hR : rm.frames + 1 ≤ R.frames ∧ 8 + (mL + 11) + rm.locals ≤ R.locals) (hj : j < 94) (hl : ly j = .inl (ci, sl)) (hc : vwCl[ci]? = some (y.cls, T, N)) (hn : As.length = n) (hst : st = As.reverse ++ .ref (ad j) :: rest) (hW : (rest.map fun v => v.category).sum ≤ 8) (hcs : cells + 0 ≤ R.cells ∧ slots + 0 ≤ R.slots) (d : decode cc pc = .ok (.invokevirtual index, 3)) (kk : ∀ r V2, G p l e R s m args below meth c cells slots Q nL D ad cy A (K r V2) V2 (pc + 3) L (.int r :: rest)) : G p l e R s m args below meth c cells slots Q nL D ad cy A w V pc L st := by
  subst hst
  intro hw ls H locs h1 h2 h3
  exact va_calli (va_runV (As := As) (rest := rest) hC.1 (hM hw H.size) (hC.wV hm hlk hrm.1 hrm.2 hR) ⟨Bs.blind, va_recv hC.2.2.1 h2 hc (wA_obj ad cy V hj hl), fun U hU hW => ⟨rfl, hC.callee h2 hU hW⟩⟩ rfl hn h1.1 rfl (lv_room hW) d hcs) h3 (fun q _ h => hC.fr h3 h) (fun q h => hC.fr h3 h) (fun r V2 t H1 locs1 ht _ hp hb _ _ hS => kk r V2 hp ls H1 locs1 h1 (by rw [← ht]; exact hb) hS)
theorem g_cvv (hC : Cx p s m args c cc nL x0 own D ad cy A) {y : MethodName} {b : ByteArray} {mL n index j ci N : Nat} {ret : Option FieldType} {rm : Room} {As rest : List Value} {sl : List (Option Nat)} {T : u_T} {K : St → Prop} (hM : w → Hv l D ad cy y (Cond.code y b mL ret :: WA) rm (.ref (ad j) :: As) V K) (hm : MI y b mL ret n) (hlk : Cond.methodLink own index y ∈ WA) (hrm : rm.cells = 0 ∧ rm.slots = 0) (hR : rm.frames + 1 ≤ R.frames ∧ 8 + (mL + 11) + rm.locals ≤ R.locals) (hj : j < 94) (hl : ly j = .inl (ci, sl)) (hc : vwCl[ci]? = some (y.cls, T, N)) (hn : As.length = n) (hst : st = As.reverse ++ .ref (ad j) :: rest) (hW : (rest.map fun v => v.category).sum ≤ 8) (hcs : cells + 0 ≤ R.cells ∧ slots + 0 ≤ R.slots) (d : decode cc pc = .ok (.invokevirtual index, 3)) (kk : ∀ V2, G p l e R s m args below meth c cells slots Q nL D ad cy A (K V2) V2 (pc + 3) L rest) : G p l e R s m args below meth c cells slots Q nL D ad cy A w V pc L st := by
  subst hst
  intro hw ls H locs h1 h2 h3
  exact va_callv (va_runV (As := As) (rest := rest) hC.1 (hM hw H.size) (hC.wV hm hlk hrm.1 hrm.2 hR) ⟨Bs.blind, va_recv hC.2.2.1 h2 hc (wA_obj ad cy V hj hl), fun U hU hW => ⟨rfl, hC.callee h2 hU hW⟩⟩ rfl hn h1.1 rfl (lv_room hW) d hcs) h3 (fun q _ h => hC.fr h3 h) (fun q h => hC.fr h3 h) (fun V2 t H1 locs1 ht _ hp hb _ _ hS => kk V2 hp ls H1 locs1 h1 (by rw [← ht]; exact hb) hS)
theorem g_csi (hC : Cx p s m args c cc nL x0 own D ad cy A) {y : MethodName} {b : ByteArray} {mL n index : Nat} {ret : Option FieldType} {rm : Room} {As rest : List Value} {K : Int32 → St → Prop} (hM : w → Hi l D ad cy y (Cond.code y b mL ret :: WA) rm As V K) (hm : MS y b mL ret n) (hlk : Cond.methodLink own index y ∈ WA) (hrm : rm.cells = 0 ∧ rm.slots = 0) (hR : rm.frames + 1 ≤ R.frames ∧ 8 + (mL + 11) + rm.locals ≤ R.locals) (hn : As.length = n) (hst : st = As.reverse ++ rest) (hW : (rest.map fun v => v.category).sum ≤ 8) (hcs : cells + 0 ≤ R.cells ∧ slots + 0 ≤ R.slots) (d : decode cc pc = .ok (.invokestatic index, 3)) (kk : ∀ r V2, G p l e R s m args below meth c cells slots Q nL D ad cy A (K r V2) V2 (pc + 3) L (.int r :: rest)) : G p l e R s m args below meth c cells slots Q nL D ad cy A w V pc L st := by
  subst hst
  intro hw ls H locs h1 h2 h3
  exact va_calli (va_runS (As := As) (rest := rest) hC.1 (hM hw H.size) (hC.wS hm hlk hrm.1 hrm.2 hR) ⟨Bs.blind, fun U hU hW => ⟨rfl, hC.callee h2 hU hW⟩⟩ rfl hn h1.1 rfl (lv_room hW) d hcs) h3 (fun q _ h => hC.fr h3 h) (fun q h => hC.fr h3 h) (fun r V2 t H1 locs1 ht _ hp hb _ _ hS => kk r V2 hp ls H1 locs1 h1 (by rw [← ht]; exact hb) hS)
end CT
def lp {β : Type} (z : β) (b : β → β) : Nat → β
  | 0 => z
  | n + 1 => b (lp z b n)
end
section
/-! ===== small facts: places, classes, the switch ===== -/
theorem RowAt.l0 {r n : Nat} (h : RowAt r n) : r < 94 := Nat.lt_of_succ_lt h.1
theorem RowAt.l1 {r n : Nat} (h : RowAt r n) : r + 1 < 94 := h.1
theorem PcsAt.l0 {q : Nat} (h : PcsAt q) : q < 94 := by have := h.1; omega
theorem PcsAt.l1 {q : Nat} (h : PcsAt q) : q + 1 < 94 := by have := h.1; omega
theorem PcsAt.l2 {q : Nat} (h : PcsAt q) : q + 2 < 94 := h.1
theorem SrcAt.l0 {b : Nat} (h : SrcAt b) : b < 94 := by have := h.1; omega
theorem inX0 : ∀ w ∈ u_ws RX0 TX0 8, w ∈ WA := by decide +kernel
theorem inX1 : ∀ w ∈ u_ws RX1 TX1 3, w ∈ WA := by decide +kernel
theorem inX2 : ∀ w ∈ u_ws RX2 TX2 3, w ∈ WA := by decide +kernel
theorem inX3 : ∀ w ∈ u_ws RX3 TX3 18, w ∈ WA := by decide +kernel
theorem inX4 : ∀ w ∈ u_ws RX4 TX4 6, w ∈ WA := by decide +kernel
theorem inX5 : ∀ w ∈ u_ws RX5 TX5 35, w ∈ WA := by decide +kernel
section
variable {p : Program} {l : Launch} {e : Env} {R : Room} {s : State} {m : MethodId} {args : Array Value} {below : List Frame} {meth : Method} {c : Code} {cells slots : Nat} {Q : State → Prop} {cc : ByteArray} {nL : Nat} {x0 : Cond} {own : String} {D : va_G} {ad : Nat → Nat} {cy : Nat → ClassId} {A : Nat → Prop}
variable {w : Prop} {V : St} {pc : Nat} {L : List (Option Value)} {st : List Value}
theorem g_ixor (hC : Cx p s m args c cc nL x0 own D ad cy A) {x y : Int32} (d : decode cc pc = .ok (.ixor, 1)) (k : G p l e R s m args below meth c cells slots Q nL D ad cy A w V (pc + 1) L (.int (x ^^^ y) :: st)) : G p l e R s m args below meth c cells slots Q nL D ad cy A w V pc L (.int y :: .int x :: st) := fun hw ls H locs h1 h2 h3 => lv_ixor hC.1.1 hC.1.2.1 d (k hw ls H locs h1 h2 h3)
end
theorem ne_ti {x k : Int32} (h : ¬ x = k) : x.toInt ≠ k.toInt := fun e => h (Int32.toInt_inj.mp e)
theorem sw_out_4 {x : Int32} (h0 : ¬ x = 0) (h1 : ¬ x = 1) (h2 : ¬ x = 2) (h3 : ¬ x = 3) : x.toInt < 0 ∨ 3 < x.toInt := by
  have e0 : x.toInt ≠ 0 := ne_ti h0
  have e1 : x.toInt ≠ 1 := ne_ti h1
  have e2 : x.toInt ≠ 2 := ne_ti h2
  have e3 : x.toInt ≠ 3 := ne_ti h3
  omega
theorem sw_out_11 {x : Int32} (h0 : ¬ x = 0) (h1 : ¬ x = 1) (h2 : ¬ x = 2) (h3 : ¬ x = 3) (h4 : ¬ x = 4) (h5 : ¬ x = 5) (h6 : ¬ x = 6) (h7 : ¬ x = 7) (h8 : ¬ x = 8) (h9 : ¬ x = 9) (h10 : ¬ x = 10) : x.toInt < 0 ∨ 10 < x.toInt := by
  have e0 : x.toInt ≠ 0 := ne_ti h0
  have e1 : x.toInt ≠ 1 := ne_ti h1
  have e2 : x.toInt ≠ 2 := ne_ti h2
  have e3 : x.toInt ≠ 3 := ne_ti h3
  have e4 : x.toInt ≠ 4 := ne_ti h4
  have e5 : x.toInt ≠ 5 := ne_ti h5
  have e6 : x.toInt ≠ 6 := ne_ti h6
  have e7 : x.toInt ≠ 7 := ne_ti h7
  have e8 : x.toInt ≠ 8 := ne_ti h8
  have e9 : x.toInt ≠ 9 := ne_ti h9
  have e10 : x.toInt ≠ 10 := ne_ti h10
  omega
theorem sw_out_12 {x : Int32} (h0 : ¬ x = 0) (h1 : ¬ x = 1) (h2 : ¬ x = 2) (h3 : ¬ x = 3) (h4 : ¬ x = 4) (h5 : ¬ x = 5) (h6 : ¬ x = 6) (h7 : ¬ x = 7) (h8 : ¬ x = 8) (h9 : ¬ x = 9) (h10 : ¬ x = 10) (h11 : ¬ x = 11) : x.toInt < 0 ∨ 11 < x.toInt := by
  have := sw_out_11 h0 h1 h2 h3 h4 h5 h6 h7 h8 h9 h10
  have e11 : x.toInt ≠ 11 := ne_ti h11
  omega
theorem sw_out_13 {x : Int32} (h0 : ¬ x = 0) (h1 : ¬ x = 1) (h2 : ¬ x = 2) (h3 : ¬ x = 3) (h4 : ¬ x = 4) (h5 : ¬ x = 5) (h6 : ¬ x = 6) (h7 : ¬ x = 7) (h8 : ¬ x = 8) (h9 : ¬ x = 9) (h10 : ¬ x = 10) (h11 : ¬ x = 11) (h12 : ¬ x = 12) : x.toInt < 0 ∨ 12 < x.toInt := by
  have := sw_out_12 h0 h1 h2 h3 h4 h5 h6 h7 h8 h9 h10 h11
  have e12 : x.toInt ≠ 12 := ne_ti h12
  omega
end
section
theorem fp_X0_7 : FP RX0 7 0 0 .boolean := ⟨RX0, TX0, 8, tyX0, rfl, by decide, inX0, Or.inl (wa 184 (by decide +kernel) (by decide +kernel)), rfl, by decide +kernel, tyX0_ok, nmX0⟩
theorem fp_X0_13 : FP RX0 13 0 1 .int := ⟨RX0, TX0, 8, tyX0, rfl, by decide, inX0, Or.inl (wa 186 (by decide +kernel) (by decide +kernel)), rfl, by decide +kernel, tyX0_ok, nmX0⟩
theorem fp_X0_17 : FP RX0 17 0 2 .int := ⟨RX0, TX0, 8, tyX0, rfl, by decide, inX0, Or.inl (wa 188 (by decide +kernel) (by decide +kernel)), rfl, by decide +kernel, tyX0_ok, nmX0⟩
theorem fp_X0_20 : FP RX0 20 0 3 .int := ⟨RX0, TX0, 8, tyX0, rfl, by decide, inX0, Or.inl (wa 190 (by decide +kernel) (by decide +kernel)), rfl, by decide +kernel, tyX0_ok, nmX0⟩
theorem fp_X0_23 : FP RX0 23 0 4 .int := ⟨RX0, TX0, 8, tyX0, rfl, by decide, inX0, Or.inl (wa 192 (by decide +kernel) (by decide +kernel)), rfl, by decide +kernel, tyX0_ok, nmX0⟩
theorem fl_X0_23 : FL RX0 23 0 4 := ⟨RX0, TX0, 8, rfl, by decide, inX0, Or.inl (wa 192 (by decide +kernel) (by decide +kernel))⟩
theorem fl_X0_13 : FL RX0 13 0 1 := ⟨RX0, TX0, 8, rfl, by decide, inX0, Or.inl (wa 186 (by decide +kernel) (by decide +kernel))⟩
theorem fl_X0_26 : FL RX0 26 0 5 := ⟨RX0, TX0, 8, rfl, by decide, inX0, Or.inl (wa 193 (by decide +kernel) (by decide +kernel))⟩
theorem fl_X0_17 : FL RX0 17 0 2 := ⟨RX0, TX0, 8, rfl, by decide, inX0, Or.inl (wa 188 (by decide +kernel) (by decide +kernel))⟩
theorem fp_X0_26 : FP RX0 26 0 5 .int := ⟨RX0, TX0, 8, tyX0, rfl, by decide, inX0, Or.inl (wa 193 (by decide +kernel) (by decide +kernel)), rfl, by decide +kernel, tyX0_ok, nmX0⟩
theorem fl_X0_29 : FL RX0 29 0 6 := ⟨RX0, TX0, 8, rfl, by decide, inX0, Or.inl (wa 195 (by decide +kernel) (by decide +kernel))⟩
theorem fp_X0_29 : FP RX0 29 0 6 .int := ⟨RX0, TX0, 8, tyX0, rfl, by decide, inX0, Or.inl (wa 195 (by decide +kernel) (by decide +kernel)), rfl, by decide +kernel, tyX0_ok, nmX0⟩
theorem fl_X0_32 : FL RX0 32 0 7 := ⟨RX0, TX0, 8, rfl, by decide, inX0, Or.inl (wa 197 (by decide +kernel) (by decide +kernel))⟩
theorem fp_X0_32 : FP RX0 32 0 7 .int := ⟨RX0, TX0, 8, tyX0, rfl, by decide, inX0, Or.inl (wa 197 (by decide +kernel) (by decide +kernel)), rfl, by decide +kernel, tyX0_ok, nmX0⟩
theorem fl_X1_18 : FL RX1 18 1 2 := ⟨RX1, TX1, 3, rfl, by decide, inX1, Or.inl (wa 95 (by decide +kernel) (by decide +kernel))⟩
theorem fl_X1_9 : FL RX1 9 1 0 := ⟨RX1, TX1, 3, rfl, by decide, inX1, Or.inl (wa 93 (by decide +kernel) (by decide +kernel))⟩
theorem fl_X1_15 : FL RX1 15 1 1 := ⟨RX1, TX1, 3, rfl, by decide, inX1, Or.inl (wa 94 (by decide +kernel) (by decide +kernel))⟩
theorem fp_X1_18 : FP RX1 18 1 2 .int := ⟨RX1, TX1, 3, tyX1, rfl, by decide, inX1, Or.inl (wa 95 (by decide +kernel) (by decide +kernel)), rfl, by decide +kernel, tyX1_ok, nmX1⟩
theorem ww_291 : Cond.methodLink RX1 22 Lib.Math.max.name ∈ WA := wa 291 (by decide +kernel) (by decide +kernel)
theorem ww_284 : Cond.static Lib.Math.max.name ∈ WA := wa 284 (by decide +kernel) (by decide +kernel)
theorem ww_51 : Cond.initialized "java/lang/Math" ∈ WA := wa 51 (by decide +kernel) (by decide +kernel)
theorem ww_285 : Cond.code Lib.Math.max.name Lib.Math.max.code 2 (some .int) ∈ WA := wa 285 (by decide +kernel) (by decide +kernel)
theorem ww_524 : Cond.methodLink RX1 28 yX1_next ∈ WA := wa 524 (by decide +kernel) (by decide +kernel)
theorem ww_527 : Cond.code yX1_next cX1_next 3 (some .int) ∈ WA := wa 527 (by decide +kernel) (by decide +kernel)
theorem ww_42 : Cond.initialized "BudgetKernel$Pieces" ∈ WA := wa 42 (by decide +kernel) (by decide +kernel)
theorem ww_526 : Cond.instanceMethod yX1_next ∈ WA := wa 526 (by decide +kernel) (by decide +kernel)
theorem ww_18 : Cond.selects RX1 yX1_next yX1_next ∈ WA := wa 18 (by decide +kernel) (by decide +kernel)
theorem mi_X1_next : MI yX1_next cX1_next 3 (some .int) 0 := ⟨ww_527, ww_526, ww_18, ww_42, by decide +kernel, by decide +kernel, by decide +kernel⟩
theorem fl_X2_13 : FL RX2 13 2 2 := ⟨RX2, TX2, 3, rfl, by decide, inX2, Or.inl (wa 76 (by decide +kernel) (by decide +kernel))⟩
theorem fl_X2_7 : FL RX2 7 2 0 := ⟨RX2, TX2, 3, rfl, by decide, inX2, Or.inl (wa 74 (by decide +kernel) (by decide +kernel))⟩
theorem fl_X2_17 : FL RX2 17 2 1 := ⟨RX2, TX2, 3, rfl, by decide, inX2, Or.inl (wa 75 (by decide +kernel) (by decide +kernel))⟩
theorem fp_X2_13 : FP RX2 13 2 2 .int := ⟨RX2, TX2, 3, tyX2, rfl, by decide, inX2, Or.inl (wa 76 (by decide +kernel) (by decide +kernel)), rfl, by decide +kernel, tyX2_ok, nmX2⟩
theorem fp_X2_17 : FP RX2 17 2 1 .int := ⟨RX2, TX2, 3, tyX2, rfl, by decide, inX2, Or.inl (wa 75 (by decide +kernel) (by decide +kernel)), rfl, by decide +kernel, tyX2_ok, nmX2⟩
theorem fp_X3_30 : FP RX3 30 3 3 .boolean := ⟨RX3, TX3, 18, tyX3, rfl, by decide, inX3, Or.inl (wa 110 (by decide +kernel) (by decide +kernel)), rfl, by decide +kernel, tyX3_ok, nmX3⟩
theorem fp_X3_34 : FP RX3 34 3 4 .int := ⟨RX3, TX3, 18, tyX3, rfl, by decide, inX3, Or.inl (wa 112 (by decide +kernel) (by decide +kernel)), rfl, by decide +kernel, tyX3_ok, nmX3⟩
theorem fp_X3_38 : FP RX3 38 3 5 .int := ⟨RX3, TX3, 18, tyX3, rfl, by decide, inX3, Or.inl (wa 114 (by decide +kernel) (by decide +kernel)), rfl, by decide +kernel, tyX3_ok, nmX3⟩
theorem fp_X3_41 : FP RX3 41 3 6 .int := ⟨RX3, TX3, 18, tyX3, rfl, by decide, inX3, Or.inl (wa 116 (by decide +kernel) (by decide +kernel)), rfl, by decide +kernel, tyX3_ok, nmX3⟩
theorem fp_X3_44 : FP RX3 44 3 7 .int := ⟨RX3, TX3, 18, tyX3, rfl, by decide, inX3, Or.inl (wa 118 (by decide +kernel) (by decide +kernel)), rfl, by decide +kernel, tyX3_ok, nmX3⟩
theorem fp_X3_47 : FP RX3 47 3 8 .int := ⟨RX3, TX3, 18, tyX3, rfl, by decide, inX3, Or.inl (wa 120 (by decide +kernel) (by decide +kernel)), rfl, by decide +kernel, tyX3_ok, nmX3⟩
theorem fp_X3_50 : FP RX3 50 3 9 .int := ⟨RX3, TX3, 18, tyX3, rfl, by decide, inX3, Or.inl (wa 122 (by decide +kernel) (by decide +kernel)), rfl, by decide +kernel, tyX3_ok, nmX3⟩
theorem fl_X3_44 : FL RX3 44 3 7 := ⟨RX3, TX3, 18, rfl, by decide, inX3, Or.inl (wa 118 (by decide +kernel) (by decide +kernel))⟩
theorem fl_X3_20 : FL RX3 20 3 1 := ⟨RX3, TX3, 18, rfl, by decide, inX3, Or.inl (wa 106 (by decide +kernel) (by decide +kernel))⟩
theorem ww_319 : Cond.methodLink RX3 53 yX2_add ∈ WA := wa 319 (by decide +kernel) (by decide +kernel)
theorem ww_322 : Cond.code yX2_add cX2_add 2 none ∈ WA := wa 322 (by decide +kernel) (by decide +kernel)
theorem ww_41 : Cond.initialized "BudgetKernel$Row" ∈ WA := wa 41 (by decide +kernel) (by decide +kernel)
theorem ww_320 : Cond.instanceMethod yX2_add ∈ WA := wa 320 (by decide +kernel) (by decide +kernel)
theorem ww_321 : Cond.selects RX2 yX2_add yX2_add ∈ WA := wa 321 (by decide +kernel) (by decide +kernel)
theorem mi_X2_add : MI yX2_add cX2_add 2 none 1 := ⟨ww_322, ww_320, ww_321, ww_41, by decide +kernel, by decide +kernel, by decide +kernel⟩
theorem fl_X3_56 : FL RX3 56 3 10 := ⟨RX3, TX3, 18, rfl, by decide, inX3, Or.inl (wa 124 (by decide +kernel) (by decide +kernel))⟩
theorem fl_X3_62 : FL RX3 62 3 13 := ⟨RX3, TX3, 18, rfl, by decide, inX3, Or.inl (wa 130 (by decide +kernel) (by decide +kernel))⟩
theorem fp_X3_62 : FP RX3 62 3 13 .int := ⟨RX3, TX3, 18, tyX3, rfl, by decide, inX3, Or.inl (wa 130 (by decide +kernel) (by decide +kernel)), rfl, by decide +kernel, tyX3_ok, nmX3⟩
theorem fl_X3_14 : FL RX3 14 3 0 := ⟨RX3, TX3, 18, rfl, by decide, inX3, Or.inl (wa 104 (by decide +kernel) (by decide +kernel))⟩
theorem fl_X3_59 : FL RX3 59 2 2 := ⟨RX2, TX2, 3, rfl, by decide, inX2, Or.inr ⟨"BudgetKernel", nw 77 (by decide +kernel) (by decide +kernel)⟩⟩
theorem fl_X3_68 : FL RX3 68 3 11 := ⟨RX3, TX3, 18, rfl, by decide, inX3, Or.inl (wa 126 (by decide +kernel) (by decide +kernel))⟩
theorem fp_X3_68 : FP RX3 68 3 11 .int := ⟨RX3, TX3, 18, tyX3, rfl, by decide, inX3, Or.inl (wa 126 (by decide +kernel) (by decide +kernel)), rfl, by decide +kernel, tyX3_ok, nmX3⟩
theorem fp_X3_56 : FP RX3 56 3 10 .boolean := ⟨RX3, TX3, 18, tyX3, rfl, by decide, inX3, Or.inl (wa 124 (by decide +kernel) (by decide +kernel)), rfl, by decide +kernel, tyX3_ok, nmX3⟩
theorem fl_X3_71 : FL RX3 71 3 14 := ⟨RX3, TX3, 18, rfl, by decide, inX3, Or.inl (wa 132 (by decide +kernel) (by decide +kernel))⟩
theorem fp_X3_71 : FP RX3 71 3 14 .int := ⟨RX3, TX3, 18, tyX3, rfl, by decide, inX3, Or.inl (wa 132 (by decide +kernel) (by decide +kernel)), rfl, by decide +kernel, tyX3_ok, nmX3⟩
theorem fp_X3_65 : FP RX3 65 3 17 .int := ⟨RX3, TX3, 18, tyX3, rfl, by decide, inX3, Or.inl (wa 138 (by decide +kernel) (by decide +kernel)), rfl, by decide +kernel, tyX3_ok, nmX3⟩
theorem ww_282 : Cond.methodLink RX3 83 yX2_first ∈ WA := wa 282 (by decide +kernel) (by decide +kernel)
theorem ww_261 : Cond.code yX2_first cX2_first 1 (some .int) ∈ WA := wa 261 (by decide +kernel) (by decide +kernel)
theorem ww_259 : Cond.instanceMethod yX2_first ∈ WA := wa 259 (by decide +kernel) (by decide +kernel)
theorem ww_260 : Cond.selects RX2 yX2_first yX2_first ∈ WA := wa 260 (by decide +kernel) (by decide +kernel)
theorem mi_X2_first : MI yX2_first cX2_first 1 (some .int) 0 := ⟨ww_261, ww_259, ww_260, ww_41, by decide +kernel, by decide +kernel, by decide +kernel⟩
theorem fl_X3_65 : FL RX3 65 3 17 := ⟨RX3, TX3, 18, rfl, by decide, inX3, Or.inl (wa 138 (by decide +kernel) (by decide +kernel))⟩
theorem ww_283 : Cond.methodLink RX3 87 Lib.Math.max.name ∈ WA := wa 283 (by decide +kernel) (by decide +kernel)
theorem fl_X3_47 : FL RX3 47 3 8 := ⟨RX3, TX3, 18, rfl, by decide, inX3, Or.inl (wa 120 (by decide +kernel) (by decide +kernel))⟩
theorem ww_286 : Cond.methodLink RX3 93 yX2_removeFirst ∈ WA := wa 286 (by decide +kernel) (by decide +kernel)
theorem ww_265 : Cond.code yX2_removeFirst cX2_removeFirst 1 none ∈ WA := wa 265 (by decide +kernel) (by decide +kernel)
theorem ww_263 : Cond.instanceMethod yX2_removeFirst ∈ WA := wa 263 (by decide +kernel) (by decide +kernel)
theorem ww_264 : Cond.selects RX2 yX2_removeFirst yX2_removeFirst ∈ WA := wa 264 (by decide +kernel) (by decide +kernel)
theorem mi_X2_removeFirst : MI yX2_removeFirst cX2_removeFirst 1 none 0 := ⟨ww_265, ww_263, ww_264, ww_41, by decide +kernel, by decide +kernel, by decide +kernel⟩
theorem fl_X3_26 : FL RX3 26 3 2 := ⟨RX3, TX3, 18, rfl, by decide, inX3, Or.inl (wa 108 (by decide +kernel) (by decide +kernel))⟩
theorem ww_287 : Cond.methodLink RX3 96 yX1_add ∈ WA := wa 287 (by decide +kernel) (by decide +kernel)
theorem ww_290 : Cond.code yX1_add cX1_add 3 none ∈ WA := wa 290 (by decide +kernel) (by decide +kernel)
theorem ww_288 : Cond.instanceMethod yX1_add ∈ WA := wa 288 (by decide +kernel) (by decide +kernel)
theorem ww_289 : Cond.selects RX1 yX1_add yX1_add ∈ WA := wa 289 (by decide +kernel) (by decide +kernel)
theorem mi_X1_add : MI yX1_add cX1_add 3 none 1 := ⟨ww_290, ww_288, ww_289, ww_42, by decide +kernel, by decide +kernel, by decide +kernel⟩
theorem fl_X3_97 : FL RX3 97 3 15 := ⟨RX3, TX3, 18, rfl, by decide, inX3, Or.inl (wa 135 (by decide +kernel) (by decide +kernel))⟩
theorem fp_X3_97 : FP RX3 97 3 15 .int := ⟨RX3, TX3, 18, tyX3, rfl, by decide, inX3, Or.inl (wa 135 (by decide +kernel) (by decide +kernel)), rfl, by decide +kernel, tyX3_ok, nmX3⟩
theorem fp_X3_77 : FP RX3 77 3 16 .int := ⟨RX3, TX3, 18, tyX3, rfl, by decide, inX3, Or.inl (wa 136 (by decide +kernel) (by decide +kernel)), rfl, by decide +kernel, tyX3_ok, nmX3⟩
theorem fl_X3_100 : FL RX3 100 3 12 := ⟨RX3, TX3, 18, rfl, by decide, inX3, Or.inl (wa 129 (by decide +kernel) (by decide +kernel))⟩
theorem fp_X3_100 : FP RX3 100 3 12 .int := ⟨RX3, TX3, 18, tyX3, rfl, by decide, inX3, Or.inl (wa 129 (by decide +kernel) (by decide +kernel)), rfl, by decide +kernel, tyX3_ok, nmX3⟩
theorem ww_278 : Cond.methodLink RX3 74 yX3_spendUnit ∈ WA := wa 278 (by decide +kernel) (by decide +kernel)
theorem ww_281 : Cond.code yX3_spendUnit cX3_spendUnit 3 none ∈ WA := wa 281 (by decide +kernel) (by decide +kernel)
theorem ww_40 : Cond.initialized "BudgetKernel$Source" ∈ WA := wa 40 (by decide +kernel) (by decide +kernel)
theorem ww_280 : Cond.instanceMethod yX3_spendUnit ∈ WA := wa 280 (by decide +kernel) (by decide +kernel)
theorem ww_4 : Cond.selects RX3 yX3_spendUnit yX3_spendUnit ∈ WA := wa 4 (by decide +kernel) (by decide +kernel)
theorem mi_X3_spendUnit : MI yX3_spendUnit cX3_spendUnit 3 none 1 := ⟨ww_281, ww_280, ww_4, ww_40, by decide +kernel, by decide +kernel, by decide +kernel⟩
theorem fl_X3_77 : FL RX3 77 3 16 := ⟨RX3, TX3, 18, rfl, by decide, inX3, Or.inl (wa 136 (by decide +kernel) (by decide +kernel))⟩
theorem fl_X3_38 : FL RX3 38 3 5 := ⟨RX3, TX3, 18, rfl, by decide, inX3, Or.inl (wa 114 (by decide +kernel) (by decide +kernel))⟩
theorem ww_292 : Cond.methodLink RX3 80 yX3_finishFirst ∈ WA := wa 292 (by decide +kernel) (by decide +kernel)
theorem ww_295 : Cond.code yX3_finishFirst cX3_finishFirst 2 none ∈ WA := wa 295 (by decide +kernel) (by decide +kernel)
theorem ww_294 : Cond.instanceMethod yX3_finishFirst ∈ WA := wa 294 (by decide +kernel) (by decide +kernel)
theorem ww_5 : Cond.selects RX3 yX3_finishFirst yX3_finishFirst ∈ WA := wa 5 (by decide +kernel) (by decide +kernel)
theorem mi_X3_finishFirst : MI yX3_finishFirst cX3_finishFirst 2 none 1 := ⟨ww_295, ww_294, ww_5, ww_40, by decide +kernel, by decide +kernel, by decide +kernel⟩
theorem ww_315 : Cond.methodLink RX3 103 yX1_removeUpTo ∈ WA := wa 315 (by decide +kernel) (by decide +kernel)
theorem ww_318 : Cond.code yX1_removeUpTo cX1_removeUpTo 5 (some .int) ∈ WA := wa 318 (by decide +kernel) (by decide +kernel)
theorem ww_316 : Cond.instanceMethod yX1_removeUpTo ∈ WA := wa 316 (by decide +kernel) (by decide +kernel)
theorem ww_317 : Cond.selects RX1 yX1_removeUpTo yX1_removeUpTo ∈ WA := wa 317 (by decide +kernel) (by decide +kernel)
theorem mi_X1_removeUpTo : MI yX1_removeUpTo cX1_removeUpTo 5 (some .int) 1 := ⟨ww_318, ww_316, ww_317, ww_42, by decide +kernel, by decide +kernel, by decide +kernel⟩
theorem fl_X4_18 : FL RX4 18 4 1 := ⟨RX4, TX4, 6, rfl, by decide, inX4, Or.inl (wa 219 (by decide +kernel) (by decide +kernel))⟩
theorem fl_X4_75 : FL RX4 75 0 0 := ⟨RX0, TX0, 8, rfl, by decide, inX0, Or.inr ⟨"BudgetKernel", nw 185 (by decide +kernel) (by decide +kernel)⟩⟩
theorem fl_X4_40 : FL RX4 40 4 5 := ⟨RX4, TX4, 6, rfl, by decide, inX4, Or.inl (wa 223 (by decide +kernel) (by decide +kernel))⟩
theorem ww_246 : Cond.methodLink RX4 195 yX0_beginIfDue ∈ WA := wa 246 (by decide +kernel) (by decide +kernel)
theorem ww_249 : Cond.code yX0_beginIfDue cX0_beginIfDue 2 none ∈ WA := wa 249 (by decide +kernel) (by decide +kernel)
theorem ww_43 : Cond.initialized "BudgetKernel$BaseTask" ∈ WA := wa 43 (by decide +kernel) (by decide +kernel)
theorem ww_247 : Cond.instanceMethod yX0_beginIfDue ∈ WA := wa 247 (by decide +kernel) (by decide +kernel)
theorem ww_248 : Cond.selects RX0 yX0_beginIfDue yX0_beginIfDue ∈ WA := wa 248 (by decide +kernel) (by decide +kernel)
theorem mi_X0_beginIfDue : MI yX0_beginIfDue cX0_beginIfDue 2 none 1 := ⟨ww_249, ww_247, ww_248, ww_43, by decide +kernel, by decide +kernel, by decide +kernel⟩
theorem fl_X4_28 : FL RX4 28 4 2 := ⟨RX4, TX4, 6, rfl, by decide, inX4, Or.inl (wa 220 (by decide +kernel) (by decide +kernel))⟩
theorem ww_258 : Cond.methodLink RX4 215 yX2_first ∈ WA := wa 258 (by decide +kernel) (by decide +kernel)
theorem fl_X4_36 : FL RX4 36 4 4 := ⟨RX4, TX4, 6, rfl, by decide, inX4, Or.inl (wa 222 (by decide +kernel) (by decide +kernel))⟩
theorem fp_X4_36 : FP RX4 36 4 4 .int := ⟨RX4, TX4, 6, tyX4, rfl, by decide, inX4, Or.inl (wa 222 (by decide +kernel) (by decide +kernel)), rfl, by decide +kernel, tyX4_ok, nmX4⟩
theorem fl_X4_11 : FL RX4 11 4 0 := ⟨RX4, TX4, 6, rfl, by decide, inX4, Or.inl (wa 218 (by decide +kernel) (by decide +kernel))⟩
theorem fl_X4_89 : FL RX4 89 3 4 := ⟨RX3, TX3, 18, rfl, by decide, inX3, Or.inr ⟨"BudgetKernel", nw 113 (by decide +kernel) (by decide +kernel)⟩⟩
theorem ww_262 : Cond.methodLink RX4 218 yX2_removeFirst ∈ WA := wa 262 (by decide +kernel) (by decide +kernel)
theorem fl_X4_53 : FL RX4 53 3 3 := ⟨RX3, TX3, 18, rfl, by decide, inX3, Or.inr ⟨"BudgetKernel", nw 111 (by decide +kernel) (by decide +kernel)⟩⟩
theorem ww_270 : Cond.methodLink RX4 221 yX3_ready ∈ WA := wa 270 (by decide +kernel) (by decide +kernel)
theorem ww_273 : Cond.code yX3_ready cX3_ready 1 (some .boolean) ∈ WA := wa 273 (by decide +kernel) (by decide +kernel)
theorem ww_271 : Cond.instanceMethod yX3_ready ∈ WA := wa 271 (by decide +kernel) (by decide +kernel)
theorem ww_272 : Cond.selects RX3 yX3_ready yX3_ready ∈ WA := wa 272 (by decide +kernel) (by decide +kernel)
theorem mi_X3_ready : MI yX3_ready cX3_ready 1 (some .boolean) 0 := ⟨ww_273, ww_271, ww_272, ww_40, by decide +kernel, by decide +kernel, by decide +kernel⟩
theorem fl_X4_191 : FL RX4 191 3 9 := ⟨RX3, TX3, 18, rfl, by decide, inX3, Or.inr ⟨"BudgetKernel", nw 123 (by decide +kernel) (by decide +kernel)⟩⟩
theorem fl_X4_163 : FL RX4 163 0 5 := ⟨RX0, TX0, 8, rfl, by decide, inX0, Or.inr ⟨"BudgetKernel", nw 194 (by decide +kernel) (by decide +kernel)⟩⟩
theorem fl_X4_194 : FL RX4 194 0 3 := ⟨RX0, TX0, 8, rfl, by decide, inX0, Or.inr ⟨"BudgetKernel", nw 191 (by decide +kernel) (by decide +kernel)⟩⟩
theorem fl_X4_126 : FL RX4 126 2 2 := ⟨RX2, TX2, 3, rfl, by decide, inX2, Or.inr ⟨"BudgetKernel", nw 78 (by decide +kernel) (by decide +kernel)⟩⟩
theorem ww_266 : Cond.methodLink RX4 203 yX4_highestReadySource ∈ WA := wa 266 (by decide +kernel) (by decide +kernel)
theorem ww_269 : Cond.code yX4_highestReadySource cX4_highestReadySource 4 (some .int) ∈ WA := wa 269 (by decide +kernel) (by decide +kernel)
theorem ww_39 : Cond.initialized "BudgetKernel" ∈ WA := wa 39 (by decide +kernel) (by decide +kernel)
theorem ww_268 : Cond.instanceMethod yX4_highestReadySource ∈ WA := wa 268 (by decide +kernel) (by decide +kernel)
theorem ww_3 : Cond.selects RX4 yX4_highestReadySource yX4_highestReadySource ∈ WA := wa 3 (by decide +kernel) (by decide +kernel)
theorem mi_X4_highestReadySource : MI yX4_highestReadySource cX4_highestReadySource 4 (some .int) 0 := ⟨ww_269, ww_268, ww_3, ww_39, by decide +kernel, by decide +kernel, by decide +kernel⟩
theorem ww_296 : Cond.methodLink RX4 209 yX4_highestTaskWithWork ∈ WA := wa 296 (by decide +kernel) (by decide +kernel)
theorem ww_299 : Cond.code yX4_highestTaskWithWork cX4_highestTaskWithWork 4 (some .int) ∈ WA := wa 299 (by decide +kernel) (by decide +kernel)
theorem ww_298 : Cond.instanceMethod yX4_highestTaskWithWork ∈ WA := wa 298 (by decide +kernel) (by decide +kernel)
theorem ww_6 : Cond.selects RX4 yX4_highestTaskWithWork yX4_highestTaskWithWork ∈ WA := wa 6 (by decide +kernel) (by decide +kernel)
theorem mi_X4_highestTaskWithWork : MI yX4_highestTaskWithWork cX4_highestTaskWithWork 4 (some .int) 0 := ⟨ww_299, ww_298, ww_6, ww_39, by decide +kernel, by decide +kernel, by decide +kernel⟩
theorem ww_300 : Cond.methodLink RX4 212 yX0_work ∈ WA := wa 300 (by decide +kernel) (by decide +kernel)
theorem ww_303 : Cond.code yX0_work cX0_work 1 none ∈ WA := wa 303 (by decide +kernel) (by decide +kernel)
theorem ww_301 : Cond.instanceMethod yX0_work ∈ WA := wa 301 (by decide +kernel) (by decide +kernel)
theorem ww_302 : Cond.selects RX0 yX0_work yX0_work ∈ WA := wa 302 (by decide +kernel) (by decide +kernel)
theorem mi_X0_work : MI yX0_work cX0_work 1 none 0 := ⟨ww_303, ww_301, ww_302, ww_43, by decide +kernel, by decide +kernel, by decide +kernel⟩
theorem ww_274 : Cond.methodLink RX4 206 yX3_runHandler ∈ WA := wa 274 (by decide +kernel) (by decide +kernel)
theorem ww_277 : Cond.code yX3_runHandler cX3_runHandler 2 none ∈ WA := wa 277 (by decide +kernel) (by decide +kernel)
theorem ww_275 : Cond.instanceMethod yX3_runHandler ∈ WA := wa 275 (by decide +kernel) (by decide +kernel)
theorem ww_276 : Cond.selects RX3 yX3_runHandler yX3_runHandler ∈ WA := wa 276 (by decide +kernel) (by decide +kernel)
theorem mi_X3_runHandler : MI yX3_runHandler cX3_runHandler 2 none 1 := ⟨ww_277, ww_275, ww_276, ww_40, by decide +kernel, by decide +kernel, by decide +kernel⟩
theorem ww_254 : Cond.methodLink RX4 200 yX4_runTop ∈ WA := wa 254 (by decide +kernel) (by decide +kernel)
theorem ww_257 : Cond.code yX4_runTop cX4_runTop 2 (some .int) ∈ WA := wa 257 (by decide +kernel) (by decide +kernel)
theorem ww_256 : Cond.instanceMethod yX4_runTop ∈ WA := wa 256 (by decide +kernel) (by decide +kernel)
theorem ww_2 : Cond.selects RX4 yX4_runTop yX4_runTop ∈ WA := wa 2 (by decide +kernel) (by decide +kernel)
theorem mi_X4_runTop : MI yX4_runTop cX4_runTop 2 (some .int) 0 := ⟨ww_257, ww_256, ww_2, ww_39, by decide +kernel, by decide +kernel, by decide +kernel⟩
theorem ww_311 : Cond.methodLink RX4 198 yX3_giveBack ∈ WA := wa 311 (by decide +kernel) (by decide +kernel)
theorem ww_314 : Cond.code yX3_giveBack cX3_giveBack 4 none ∈ WA := wa 314 (by decide +kernel) (by decide +kernel)
theorem ww_312 : Cond.instanceMethod yX3_giveBack ∈ WA := wa 312 (by decide +kernel) (by decide +kernel)
theorem ww_313 : Cond.selects RX3 yX3_giveBack yX3_giveBack ∈ WA := wa 313 (by decide +kernel) (by decide +kernel)
theorem mi_X3_giveBack : MI yX3_giveBack cX3_giveBack 4 none 1 := ⟨ww_314, ww_312, ww_313, ww_40, by decide +kernel, by decide +kernel, by decide +kernel⟩
theorem ww_242 : Cond.methodLink RX4 95 yX4_beginPeriods ∈ WA := wa 242 (by decide +kernel) (by decide +kernel)
theorem ww_245 : Cond.code yX4_beginPeriods cX4_beginPeriods 2 none ∈ WA := wa 245 (by decide +kernel) (by decide +kernel)
theorem ww_244 : Cond.instanceMethod yX4_beginPeriods ∈ WA := wa 244 (by decide +kernel) (by decide +kernel)
theorem ww_0 : Cond.selects RX4 yX4_beginPeriods yX4_beginPeriods ∈ WA := wa 0 (by decide +kernel) (by decide +kernel)
theorem mi_X4_beginPeriods : MI yX4_beginPeriods cX4_beginPeriods 2 none 0 := ⟨ww_245, ww_244, ww_0, ww_39, by decide +kernel, by decide +kernel, by decide +kernel⟩
theorem ww_250 : Cond.methodLink RX4 98 yX4_runOne ∈ WA := wa 250 (by decide +kernel) (by decide +kernel)
theorem ww_253 : Cond.code yX4_runOne cX4_runOne 3 (some .int) ∈ WA := wa 253 (by decide +kernel) (by decide +kernel)
theorem ww_252 : Cond.instanceMethod yX4_runOne ∈ WA := wa 252 (by decide +kernel) (by decide +kernel)
theorem ww_1 : Cond.selects RX4 yX4_runOne yX4_runOne ∈ WA := wa 1 (by decide +kernel) (by decide +kernel)
theorem mi_X4_runOne : MI yX4_runOne cX4_runOne 3 (some .int) 0 := ⟨ww_253, ww_252, ww_1, ww_39, by decide +kernel, by decide +kernel, by decide +kernel⟩
theorem fl_X4_32 : FL RX4 32 4 3 := ⟨RX4, TX4, 6, rfl, by decide, inX4, Or.inl (wa 221 (by decide +kernel) (by decide +kernel))⟩
theorem ww_304 : Cond.methodLink RX4 102 yJ9_floorMod_7cf53 ∈ WA := wa 304 (by decide +kernel) (by decide +kernel)
theorem ww_306 : Cond.code yJ9_floorMod_7cf53 cJ9_floorMod_7cf53 3 (some .int) ∈ WA := wa 306 (by decide +kernel) (by decide +kernel)
theorem ww_305 : Cond.static yJ9_floorMod_7cf53 ∈ WA := wa 305 (by decide +kernel) (by decide +kernel)
theorem mi_J9_floorMod_7cf53 : MS yJ9_floorMod_7cf53 cJ9_floorMod_7cf53 3 (some .int) 2 := ⟨ww_306, ww_305, ww_51, by decide +kernel, by decide +kernel, by decide +kernel⟩
theorem fp_X4_40 : FP RX4 40 4 5 .int := ⟨RX4, TX4, 6, tyX4, rfl, by decide, inX4, Or.inl (wa 223 (by decide +kernel) (by decide +kernel)), rfl, by decide +kernel, tyX4_ok, nmX4⟩
theorem ww_307 : Cond.methodLink RX4 108 yX4_giveBack ∈ WA := wa 307 (by decide +kernel) (by decide +kernel)
theorem ww_310 : Cond.code yX4_giveBack cX4_giveBack 2 none ∈ WA := wa 310 (by decide +kernel) (by decide +kernel)
theorem ww_309 : Cond.instanceMethod yX4_giveBack ∈ WA := wa 309 (by decide +kernel) (by decide +kernel)
theorem ww_7 : Cond.selects RX4 yX4_giveBack yX4_giveBack ∈ WA := wa 7 (by decide +kernel) (by decide +kernel)
theorem mi_X4_giveBack : MI yX4_giveBack cX4_giveBack 2 none 0 := ⟨ww_310, ww_309, ww_7, ww_39, by decide +kernel, by decide +kernel, by decide +kernel⟩
theorem fl_X4_241 : FL RX4 241 3 8 := ⟨RX3, TX3, 18, rfl, by decide, inX3, Or.inr ⟨"BudgetKernel", nw 121 (by decide +kernel) (by decide +kernel)⟩⟩
theorem ww_458 : Cond.methodLink RX4 245 yX4_ceil ∈ WA := wa 458 (by decide +kernel) (by decide +kernel)
theorem ww_460 : Cond.code yX4_ceil cX4_ceil 2 (some .int) ∈ WA := wa 460 (by decide +kernel) (by decide +kernel)
theorem ww_459 : Cond.static yX4_ceil ∈ WA := wa 459 (by decide +kernel) (by decide +kernel)
theorem mi_X4_ceil : MS yX4_ceil cX4_ceil 2 (some .int) 2 := ⟨ww_460, ww_459, ww_39, by decide +kernel, by decide +kernel, by decide +kernel⟩
theorem fl_X4_235 : FL RX4 235 3 7 := ⟨RX3, TX3, 18, rfl, by decide, inX3, Or.inr ⟨"BudgetKernel", nw 119 (by decide +kernel) (by decide +kernel)⟩⟩
theorem fl_X4_238 : FL RX4 238 3 6 := ⟨RX3, TX3, 18, rfl, by decide, inX3, Or.inr ⟨"BudgetKernel", nw 117 (by decide +kernel) (by decide +kernel)⟩⟩
theorem fl_X4_227 : FL RX4 227 0 1 := ⟨RX0, TX0, 8, rfl, by decide, inX0, Or.inr ⟨"BudgetKernel", nw 187 (by decide +kernel) (by decide +kernel)⟩⟩
theorem fl_X4_224 : FL RX4 224 0 2 := ⟨RX0, TX0, 8, rfl, by decide, inX0, Or.inr ⟨"BudgetKernel", nw 189 (by decide +kernel) (by decide +kernel)⟩⟩
theorem ww_454 : Cond.methodLink RX4 181 yX4_handlersTake ∈ WA := wa 454 (by decide +kernel) (by decide +kernel)
theorem ww_457 : Cond.code yX4_handlersTake cX4_handlersTake 5 (some .int) ∈ WA := wa 457 (by decide +kernel) (by decide +kernel)
theorem ww_456 : Cond.instanceMethod yX4_handlersTake ∈ WA := wa 456 (by decide +kernel) (by decide +kernel)
theorem ww_13 : Cond.selects RX4 yX4_handlersTake yX4_handlersTake ∈ WA := wa 13 (by decide +kernel) (by decide +kernel)
theorem mi_X4_handlersTake : MI yX4_handlersTake cX4_handlersTake 5 (some .int) 2 := ⟨ww_457, ww_456, ww_13, ww_39, by decide +kernel, by decide +kernel, by decide +kernel⟩
theorem ww_461 : Cond.methodLink RX4 184 yX4_topsTake ∈ WA := wa 461 (by decide +kernel) (by decide +kernel)
theorem ww_464 : Cond.code yX4_topsTake cX4_topsTake 4 (some .int) ∈ WA := wa 464 (by decide +kernel) (by decide +kernel)
theorem ww_463 : Cond.instanceMethod yX4_topsTake ∈ WA := wa 463 (by decide +kernel) (by decide +kernel)
theorem ww_14 : Cond.selects RX4 yX4_topsTake yX4_topsTake ∈ WA := wa 14 (by decide +kernel) (by decide +kernel)
theorem mi_X4_topsTake : MI yX4_topsTake cX4_topsTake 4 (some .int) 1 := ⟨ww_464, ww_463, ww_14, ww_39, by decide +kernel, by decide +kernel, by decide +kernel⟩
theorem ww_465 : Cond.methodLink RX4 242 yX4_tasksTake ∈ WA := wa 465 (by decide +kernel) (by decide +kernel)
theorem ww_468 : Cond.code yX4_tasksTake cX4_tasksTake 5 (some .int) ∈ WA := wa 468 (by decide +kernel) (by decide +kernel)
theorem ww_467 : Cond.instanceMethod yX4_tasksTake ∈ WA := wa 467 (by decide +kernel) (by decide +kernel)
theorem ww_15 : Cond.selects RX4 yX4_tasksTake yX4_tasksTake ∈ WA := wa 15 (by decide +kernel) (by decide +kernel)
theorem mi_X4_tasksTake : MI yX4_tasksTake cX4_tasksTake 5 (some .int) 2 := ⟨ww_468, ww_467, ww_15, ww_39, by decide +kernel, by decide +kernel, by decide +kernel⟩
theorem ww_450 : Cond.methodLink RX4 230 yX4_leastBound ∈ WA := wa 450 (by decide +kernel) (by decide +kernel)
theorem ww_453 : Cond.code yX4_leastBound cX4_leastBound 8 (some .int) ∈ WA := wa 453 (by decide +kernel) (by decide +kernel)
theorem ww_452 : Cond.instanceMethod yX4_leastBound ∈ WA := wa 452 (by decide +kernel) (by decide +kernel)
theorem ww_12 : Cond.selects RX4 yX4_leastBound yX4_leastBound ∈ WA := wa 12 (by decide +kernel) (by decide +kernel)
theorem mi_X4_leastBound : MI yX4_leastBound cX4_leastBound 8 (some .int) 4 := ⟨ww_453, ww_452, ww_12, ww_39, by decide +kernel, by decide +kernel, by decide +kernel⟩
theorem ww_446 : Cond.methodLink RX4 172 yX4_taskBound ∈ WA := wa 446 (by decide +kernel) (by decide +kernel)
theorem ww_449 : Cond.code yX4_taskBound cX4_taskBound 2 (some .int) ∈ WA := wa 449 (by decide +kernel) (by decide +kernel)
theorem ww_448 : Cond.instanceMethod yX4_taskBound ∈ WA := wa 448 (by decide +kernel) (by decide +kernel)
theorem ww_11 : Cond.selects RX4 yX4_taskBound yX4_taskBound ∈ WA := wa 11 (by decide +kernel) (by decide +kernel)
theorem mi_X4_taskBound : MI yX4_taskBound cX4_taskBound 2 (some .int) 1 := ⟨ww_449, ww_448, ww_11, ww_39, by decide +kernel, by decide +kernel, by decide +kernel⟩
theorem fl_X4_234 : FL RX4 234 3 5 := ⟨RX3, TX3, 18, rfl, by decide, inX3, Or.inr ⟨"BudgetKernel", nw 115 (by decide +kernel) (by decide +kernel)⟩⟩
theorem fl_X5_107 : FL RX5 107 5 0 := ⟨RX5, TX5, 35, rfl, by decide, inX5, Or.inl (wa 587 (by decide +kernel) (by decide +kernel))⟩
theorem fl_X5_23 : FL RX5 23 5 6 := ⟨RX5, TX5, 35, rfl, by decide, inX5, Or.inl (wa 593 (by decide +kernel) (by decide +kernel))⟩
theorem fl_X5_47 : FL RX5 47 5 14 := ⟨RX5, TX5, 35, rfl, by decide, inX5, Or.inl (wa 601 (by decide +kernel) (by decide +kernel))⟩
theorem fl_X5_53 : FL RX5 53 5 16 := ⟨RX5, TX5, 35, rfl, by decide, inX5, Or.inl (wa 603 (by decide +kernel) (by decide +kernel))⟩
theorem fl_X5_7 : FL RX5 7 5 2 := ⟨RX5, TX5, 35, rfl, by decide, inX5, Or.inl (wa 589 (by decide +kernel) (by decide +kernel))⟩
theorem fl_X5_32 : FL RX5 32 5 9 := ⟨RX5, TX5, 35, rfl, by decide, inX5, Or.inl (wa 596 (by decide +kernel) (by decide +kernel))⟩
theorem ww_756 : Cond.methodLink RX5 111 yX5_budgetLeft ∈ WA := wa 756 (by decide +kernel) (by decide +kernel)
theorem ww_759 : Cond.code yX5_budgetLeft cX5_budgetLeft 4 (some .int) ∈ WA := wa 759 (by decide +kernel) (by decide +kernel)
theorem ww_44 : Cond.initialized "BudgetKernelModel" ∈ WA := wa 44 (by decide +kernel) (by decide +kernel)
theorem ww_758 : Cond.instanceMethod yX5_budgetLeft ∈ WA := wa 758 (by decide +kernel) (by decide +kernel)
theorem ww_29 : Cond.selects RX5 yX5_budgetLeft yX5_budgetLeft ∈ WA := wa 29 (by decide +kernel) (by decide +kernel)
theorem mi_X5_budgetLeft : MI yX5_budgetLeft cX5_budgetLeft 4 (some .int) 1 := ⟨ww_759, ww_758, ww_29, ww_44, by decide +kernel, by decide +kernel, by decide +kernel⟩
theorem fl_X5_50 : FL RX5 50 5 15 := ⟨RX5, TX5, 35, rfl, by decide, inX5, Or.inl (wa 602 (by decide +kernel) (by decide +kernel))⟩
theorem fl_X5_115 : FL RX5 115 5 1 := ⟨RX5, TX5, 35, rfl, by decide, inX5, Or.inl (wa 588 (by decide +kernel) (by decide +kernel))⟩
theorem fl_X5_44 : FL RX5 44 5 13 := ⟨RX5, TX5, 35, rfl, by decide, inX5, Or.inl (wa 600 (by decide +kernel) (by decide +kernel))⟩
theorem fl_X5_26 : FL RX5 26 5 7 := ⟨RX5, TX5, 35, rfl, by decide, inX5, Or.inl (wa 594 (by decide +kernel) (by decide +kernel))⟩
theorem ww_725 : Cond.methodLink RX5 118 yX5_ceil ∈ WA := wa 725 (by decide +kernel) (by decide +kernel)
theorem ww_727 : Cond.code yX5_ceil cX5_ceil 2 (some .int) ∈ WA := wa 727 (by decide +kernel) (by decide +kernel)
theorem ww_726 : Cond.static yX5_ceil ∈ WA := wa 726 (by decide +kernel) (by decide +kernel)
theorem mi_X5_ceil : MS yX5_ceil cX5_ceil 2 (some .int) 2 := ⟨ww_727, ww_726, ww_44, by decide +kernel, by decide +kernel, by decide +kernel⟩
theorem fl_X5_20 : FL RX5 20 5 5 := ⟨RX5, TX5, 35, rfl, by decide, inX5, Or.inl (wa 592 (by decide +kernel) (by decide +kernel))⟩
theorem fl_X5_13 : FL RX5 13 5 3 := ⟨RX5, TX5, 35, rfl, by decide, inX5, Or.inl (wa 590 (by decide +kernel) (by decide +kernel))⟩
theorem ww_721 : Cond.methodLink RX5 122 yX5_handlers ∈ WA := wa 721 (by decide +kernel) (by decide +kernel)
theorem ww_724 : Cond.code yX5_handlers cX5_handlers 3 (some .int) ∈ WA := wa 724 (by decide +kernel) (by decide +kernel)
theorem ww_723 : Cond.instanceMethod yX5_handlers ∈ WA := wa 723 (by decide +kernel) (by decide +kernel)
theorem ww_24 : Cond.selects RX5 yX5_handlers yX5_handlers ∈ WA := wa 24 (by decide +kernel) (by decide +kernel)
theorem mi_X5_handlers : MI yX5_handlers cX5_handlers 3 (some .int) 2 := ⟨ww_724, ww_723, ww_24, ww_44, by decide +kernel, by decide +kernel, by decide +kernel⟩
theorem ww_728 : Cond.methodLink RX5 125 yX5_topHalves ∈ WA := wa 728 (by decide +kernel) (by decide +kernel)
theorem ww_731 : Cond.code yX5_topHalves cX5_topHalves 3 (some .int) ∈ WA := wa 731 (by decide +kernel) (by decide +kernel)
theorem ww_730 : Cond.instanceMethod yX5_topHalves ∈ WA := wa 730 (by decide +kernel) (by decide +kernel)
theorem ww_25 : Cond.selects RX5 yX5_topHalves yX5_topHalves ∈ WA := wa 25 (by decide +kernel) (by decide +kernel)
theorem mi_X5_topHalves : MI yX5_topHalves cX5_topHalves 3 (some .int) 2 := ⟨ww_731, ww_730, ww_25, ww_44, by decide +kernel, by decide +kernel, by decide +kernel⟩
theorem fl_X5_80 : FL RX5 80 5 25 := ⟨RX5, TX5, 35, rfl, by decide, inX5, Or.inl (wa 612 (by decide +kernel) (by decide +kernel))⟩
theorem ww_717 : Cond.methodLink RX5 128 yX5_sourcesIn ∈ WA := wa 717 (by decide +kernel) (by decide +kernel)
theorem ww_720 : Cond.code yX5_sourcesIn cX5_sourcesIn 4 (some .int) ∈ WA := wa 720 (by decide +kernel) (by decide +kernel)
theorem ww_719 : Cond.instanceMethod yX5_sourcesIn ∈ WA := wa 719 (by decide +kernel) (by decide +kernel)
theorem ww_23 : Cond.selects RX5 yX5_sourcesIn yX5_sourcesIn ∈ WA := wa 23 (by decide +kernel) (by decide +kernel)
theorem mi_X5_sourcesIn : MI yX5_sourcesIn cX5_sourcesIn 4 (some .int) 1 := ⟨ww_720, ww_719, ww_23, ww_44, by decide +kernel, by decide +kernel, by decide +kernel⟩
theorem fl_X5_74 : FL RX5 74 5 23 := ⟨RX5, TX5, 35, rfl, by decide, inX5, Or.inl (wa 610 (by decide +kernel) (by decide +kernel))⟩
theorem fl_X5_83 : FL RX5 83 5 26 := ⟨RX5, TX5, 35, rfl, by decide, inX5, Or.inl (wa 613 (by decide +kernel) (by decide +kernel))⟩
theorem fl_X5_77 : FL RX5 77 5 24 := ⟨RX5, TX5, 35, rfl, by decide, inX5, Or.inl (wa 611 (by decide +kernel) (by decide +kernel))⟩
theorem fl_X5_17 : FL RX5 17 5 4 := ⟨RX5, TX5, 35, rfl, by decide, inX5, Or.inl (wa 591 (by decide +kernel) (by decide +kernel))⟩
theorem fl_X5_29 : FL RX5 29 5 8 := ⟨RX5, TX5, 35, rfl, by decide, inX5, Or.inl (wa 595 (by decide +kernel) (by decide +kernel))⟩
theorem ww_713 : Cond.methodLink RX5 131 yX5_taskNeeds ∈ WA := wa 713 (by decide +kernel) (by decide +kernel)
theorem ww_716 : Cond.code yX5_taskNeeds cX5_taskNeeds 5 (some .int) ∈ WA := wa 716 (by decide +kernel) (by decide +kernel)
theorem ww_715 : Cond.instanceMethod yX5_taskNeeds ∈ WA := wa 715 (by decide +kernel) (by decide +kernel)
theorem ww_22 : Cond.selects RX5 yX5_taskNeeds yX5_taskNeeds ∈ WA := wa 22 (by decide +kernel) (by decide +kernel)
theorem mi_X5_taskNeeds : MI yX5_taskNeeds cX5_taskNeeds 5 (some .int) 2 := ⟨ww_716, ww_715, ww_22, ww_44, by decide +kernel, by decide +kernel, by decide +kernel⟩
theorem ww_804 : Cond.methodLink RX5 134 yX5_sourceNeeds ∈ WA := wa 804 (by decide +kernel) (by decide +kernel)
theorem ww_807 : Cond.code yX5_sourceNeeds cX5_sourceNeeds 5 (some .int) ∈ WA := wa 807 (by decide +kernel) (by decide +kernel)
theorem ww_806 : Cond.instanceMethod yX5_sourceNeeds ∈ WA := wa 806 (by decide +kernel) (by decide +kernel)
theorem ww_37 : Cond.selects RX5 yX5_sourceNeeds yX5_sourceNeeds ∈ WA := wa 37 (by decide +kernel) (by decide +kernel)
theorem mi_X5_sourceNeeds : MI yX5_sourceNeeds cX5_sourceNeeds 5 (some .int) 2 := ⟨ww_807, ww_806, ww_37, ww_44, by decide +kernel, by decide +kernel, by decide +kernel⟩
theorem ww_709 : Cond.methodLink RX5 137 yX5_taskBound ∈ WA := wa 709 (by decide +kernel) (by decide +kernel)
theorem ww_712 : Cond.code yX5_taskBound cX5_taskBound 4 (some .int) ∈ WA := wa 712 (by decide +kernel) (by decide +kernel)
theorem ww_711 : Cond.instanceMethod yX5_taskBound ∈ WA := wa 711 (by decide +kernel) (by decide +kernel)
theorem ww_21 : Cond.selects RX5 yX5_taskBound yX5_taskBound ∈ WA := wa 21 (by decide +kernel) (by decide +kernel)
theorem mi_X5_taskBound : MI yX5_taskBound cX5_taskBound 4 (some .int) 1 := ⟨ww_712, ww_711, ww_21, ww_44, by decide +kernel, by decide +kernel, by decide +kernel⟩
theorem ww_702 : Cond.methodLink RX5 140 yX5_within ∈ WA := wa 702 (by decide +kernel) (by decide +kernel)
theorem ww_704 : Cond.code yX5_within cX5_within 3 (some .boolean) ∈ WA := wa 704 (by decide +kernel) (by decide +kernel)
theorem ww_703 : Cond.static yX5_within ∈ WA := wa 703 (by decide +kernel) (by decide +kernel)
theorem mi_X5_within : MS yX5_within cX5_within 3 (some .boolean) 3 := ⟨ww_704, ww_703, ww_44, by decide +kernel, by decide +kernel, by decide +kernel⟩
theorem fp_X5_107 : FP RX5 107 5 0 .int := ⟨RX5, TX5, 35, tyX5, rfl, by decide, inX5, Or.inl (wa 587 (by decide +kernel) (by decide +kernel)), rfl, by decide +kernel, tyX5_ok, nmX5⟩
theorem ww_705 : Cond.methodLink RX5 144 yX5_areAdmitted ∈ WA := wa 705 (by decide +kernel) (by decide +kernel)
theorem ww_708 : Cond.code yX5_areAdmitted cX5_areAdmitted 3 (some .boolean) ∈ WA := wa 708 (by decide +kernel) (by decide +kernel)
theorem ww_707 : Cond.instanceMethod yX5_areAdmitted ∈ WA := wa 707 (by decide +kernel) (by decide +kernel)
theorem ww_20 : Cond.selects RX5 yX5_areAdmitted yX5_areAdmitted ∈ WA := wa 20 (by decide +kernel) (by decide +kernel)
theorem mi_X5_areAdmitted : MI yX5_areAdmitted cX5_areAdmitted 3 (some .boolean) 0 := ⟨ww_708, ww_707, ww_20, ww_44, by decide +kernel, by decide +kernel, by decide +kernel⟩
theorem fl_X5_86 : FL RX5 86 5 27 := ⟨RX5, TX5, 35, rfl, by decide, inX5, Or.inl (wa 614 (by decide +kernel) (by decide +kernel))⟩
theorem ww_740 : Cond.methodLink RX5 148 yX5_isSource ∈ WA := wa 740 (by decide +kernel) (by decide +kernel)
theorem ww_743 : Cond.code yX5_isSource cX5_isSource 2 (some .boolean) ∈ WA := wa 743 (by decide +kernel) (by decide +kernel)
theorem ww_742 : Cond.instanceMethod yX5_isSource ∈ WA := wa 742 (by decide +kernel) (by decide +kernel)
theorem ww_26 : Cond.selects RX5 yX5_isSource yX5_isSource ∈ WA := wa 26 (by decide +kernel) (by decide +kernel)
theorem mi_X5_isSource : MI yX5_isSource cX5_isSource 2 (some .boolean) 1 := ⟨ww_743, ww_742, ww_26, ww_44, by decide +kernel, by decide +kernel, by decide +kernel⟩
theorem fl_X5_56 : FL RX5 56 5 17 := ⟨RX5, TX5, 35, rfl, by decide, inX5, Or.inl (wa 604 (by decide +kernel) (by decide +kernel))⟩
theorem fl_X5_68 : FL RX5 68 5 21 := ⟨RX5, TX5, 35, rfl, by decide, inX5, Or.inl (wa 608 (by decide +kernel) (by decide +kernel))⟩
theorem fl_X5_41 : FL RX5 41 5 12 := ⟨RX5, TX5, 35, rfl, by decide, inX5, Or.inl (wa 599 (by decide +kernel) (by decide +kernel))⟩
theorem fl_X5_35 : FL RX5 35 5 10 := ⟨RX5, TX5, 35, rfl, by decide, inX5, Or.inl (wa 597 (by decide +kernel) (by decide +kernel))⟩
theorem fl_X5_62 : FL RX5 62 5 19 := ⟨RX5, TX5, 35, rfl, by decide, inX5, Or.inl (wa 606 (by decide +kernel) (by decide +kernel))⟩
theorem fl_X5_98 : FL RX5 98 5 32 := ⟨RX5, TX5, 35, rfl, by decide, inX5, Or.inl (wa 619 (by decide +kernel) (by decide +kernel))⟩
theorem fl_X5_152 : FL RX5 152 5 31 := ⟨RX5, TX5, 35, rfl, by decide, inX5, Or.inl (wa 618 (by decide +kernel) (by decide +kernel))⟩
theorem fl_X5_101 : FL RX5 101 5 33 := ⟨RX5, TX5, 35, rfl, by decide, inX5, Or.inl (wa 620 (by decide +kernel) (by decide +kernel))⟩
theorem fp_X5_152 : FP RX5 152 5 31 .int := ⟨RX5, TX5, 35, tyX5, rfl, by decide, inX5, Or.inl (wa 618 (by decide +kernel) (by decide +kernel)), rfl, by decide +kernel, tyX5_ok, nmX5⟩
theorem fl_X5_59 : FL RX5 59 5 18 := ⟨RX5, TX5, 35, rfl, by decide, inX5, Or.inl (wa 605 (by decide +kernel) (by decide +kernel))⟩
theorem ww_776 : Cond.methodLink RX5 155 yX5_spend ∈ WA := wa 776 (by decide +kernel) (by decide +kernel)
theorem ww_779 : Cond.code yX5_spend cX5_spend 4 none ∈ WA := wa 779 (by decide +kernel) (by decide +kernel)
theorem ww_778 : Cond.instanceMethod yX5_spend ∈ WA := wa 778 (by decide +kernel) (by decide +kernel)
theorem ww_34 : Cond.selects RX5 yX5_spend yX5_spend ∈ WA := wa 34 (by decide +kernel) (by decide +kernel)
theorem mi_X5_spend : MI yX5_spend cX5_spend 4 none 2 := ⟨ww_779, ww_778, ww_34, ww_44, by decide +kernel, by decide +kernel, by decide +kernel⟩
theorem fl_X5_38 : FL RX5 38 5 11 := ⟨RX5, TX5, 35, rfl, by decide, inX5, Or.inl (wa 598 (by decide +kernel) (by decide +kernel))⟩
theorem fl_X5_71 : FL RX5 71 5 22 := ⟨RX5, TX5, 35, rfl, by decide, inX5, Or.inl (wa 609 (by decide +kernel) (by decide +kernel))⟩
theorem fl_X5_65 : FL RX5 65 5 20 := ⟨RX5, TX5, 35, rfl, by decide, inX5, Or.inl (wa 607 (by decide +kernel) (by decide +kernel))⟩
theorem fl_X5_89 : FL RX5 89 5 28 := ⟨RX5, TX5, 35, rfl, by decide, inX5, Or.inl (wa 615 (by decide +kernel) (by decide +kernel))⟩
theorem fl_X5_95 : FL RX5 95 5 30 := ⟨RX5, TX5, 35, rfl, by decide, inX5, Or.inl (wa 617 (by decide +kernel) (by decide +kernel))⟩
theorem ww_772 : Cond.methodLink RX5 166 yX5_runHandler ∈ WA := wa 772 (by decide +kernel) (by decide +kernel)
theorem ww_775 : Cond.code yX5_runHandler cX5_runHandler 6 none ∈ WA := wa 775 (by decide +kernel) (by decide +kernel)
theorem ww_774 : Cond.instanceMethod yX5_runHandler ∈ WA := wa 774 (by decide +kernel) (by decide +kernel)
theorem ww_33 : Cond.selects RX5 yX5_runHandler yX5_runHandler ∈ WA := wa 33 (by decide +kernel) (by decide +kernel)
theorem mi_X5_runHandler : MI yX5_runHandler cX5_runHandler 6 none 1 := ⟨ww_775, ww_774, ww_33, ww_44, by decide +kernel, by decide +kernel, by decide +kernel⟩
theorem ww_768 : Cond.methodLink RX5 163 yX5_isReady ∈ WA := wa 768 (by decide +kernel) (by decide +kernel)
theorem ww_771 : Cond.code yX5_isReady cX5_isReady 2 (some .boolean) ∈ WA := wa 771 (by decide +kernel) (by decide +kernel)
theorem ww_770 : Cond.instanceMethod yX5_isReady ∈ WA := wa 770 (by decide +kernel) (by decide +kernel)
theorem ww_32 : Cond.selects RX5 yX5_isReady yX5_isReady ∈ WA := wa 32 (by decide +kernel) (by decide +kernel)
theorem mi_X5_isReady : MI yX5_isReady cX5_isReady 2 (some .boolean) 1 := ⟨ww_771, ww_770, ww_32, ww_44, by decide +kernel, by decide +kernel, by decide +kernel⟩
theorem ww_764 : Cond.methodLink RX5 159 yX5_runTop ∈ WA := wa 764 (by decide +kernel) (by decide +kernel)
theorem ww_767 : Cond.code yX5_runTop cX5_runTop 3 (some .int) ∈ WA := wa 767 (by decide +kernel) (by decide +kernel)
theorem ww_766 : Cond.instanceMethod yX5_runTop ∈ WA := wa 766 (by decide +kernel) (by decide +kernel)
theorem ww_31 : Cond.selects RX5 yX5_runTop yX5_runTop ∈ WA := wa 31 (by decide +kernel) (by decide +kernel)
theorem mi_X5_runTop : MI yX5_runTop cX5_runTop 3 (some .int) 0 := ⟨ww_767, ww_766, ww_31, ww_44, by decide +kernel, by decide +kernel, by decide +kernel⟩
theorem ww_752 : Cond.methodLink RX5 170 yX5_giveBack ∈ WA := wa 752 (by decide +kernel) (by decide +kernel)
theorem ww_755 : Cond.code yX5_giveBack cX5_giveBack 6 none ∈ WA := wa 755 (by decide +kernel) (by decide +kernel)
theorem ww_754 : Cond.instanceMethod yX5_giveBack ∈ WA := wa 754 (by decide +kernel) (by decide +kernel)
theorem ww_28 : Cond.selects RX5 yX5_giveBack yX5_giveBack ∈ WA := wa 28 (by decide +kernel) (by decide +kernel)
theorem mi_X5_giveBack : MI yX5_giveBack cX5_giveBack 6 none 0 := ⟨ww_755, ww_754, ww_28, ww_44, by decide +kernel, by decide +kernel, by decide +kernel⟩
theorem ww_760 : Cond.methodLink RX5 173 yX5_runOne ∈ WA := wa 760 (by decide +kernel) (by decide +kernel)
theorem ww_763 : Cond.code yX5_runOne cX5_runOne 3 (some .int) ∈ WA := wa 763 (by decide +kernel) (by decide +kernel)
theorem ww_762 : Cond.instanceMethod yX5_runOne ∈ WA := wa 762 (by decide +kernel) (by decide +kernel)
theorem ww_30 : Cond.selects RX5 yX5_runOne yX5_runOne ∈ WA := wa 30 (by decide +kernel) (by decide +kernel)
theorem mi_X5_runOne : MI yX5_runOne cX5_runOne 3 (some .int) 0 := ⟨ww_763, ww_762, ww_30, ww_44, by decide +kernel, by decide +kernel, by decide +kernel⟩
theorem fl_X5_104 : FL RX5 104 5 34 := ⟨RX5, TX5, 35, rfl, by decide, inX5, Or.inl (wa 621 (by decide +kernel) (by decide +kernel))⟩
theorem fp_X5_115 : FP RX5 115 5 1 .int := ⟨RX5, TX5, 35, tyX5, rfl, by decide, inX5, Or.inl (wa 588 (by decide +kernel) (by decide +kernel)), rfl, by decide +kernel, tyX5_ok, nmX5⟩
theorem fl_X5_92 : FL RX5 92 5 29 := ⟨RX5, TX5, 35, rfl, by decide, inX5, Or.inl (wa 616 (by decide +kernel) (by decide +kernel))⟩
theorem ww_748 : Cond.methodLink RX5 176 yX5_pass ∈ WA := wa 748 (by decide +kernel) (by decide +kernel)
theorem ww_751 : Cond.code yX5_pass cX5_pass 2 (some .int) ∈ WA := wa 751 (by decide +kernel) (by decide +kernel)
theorem ww_750 : Cond.instanceMethod yX5_pass ∈ WA := wa 750 (by decide +kernel) (by decide +kernel)
theorem ww_27 : Cond.selects RX5 yX5_pass yX5_pass ∈ WA := wa 27 (by decide +kernel) (by decide +kernel)
theorem mi_X5_pass : MI yX5_pass cX5_pass 2 (some .int) 0 := ⟨ww_751, ww_750, ww_27, ww_44, by decide +kernel, by decide +kernel, by decide +kernel⟩
theorem ww_788 : Cond.methodLink RX5 179 yX5_firstPiece ∈ WA := wa 788 (by decide +kernel) (by decide +kernel)
theorem ww_791 : Cond.code yX5_firstPiece cX5_firstPiece 4 (some .int) ∈ WA := wa 791 (by decide +kernel) (by decide +kernel)
theorem ww_790 : Cond.instanceMethod yX5_firstPiece ∈ WA := wa 790 (by decide +kernel) (by decide +kernel)
theorem ww_35 : Cond.selects RX5 yX5_firstPiece yX5_firstPiece ∈ WA := wa 35 (by decide +kernel) (by decide +kernel)
theorem mi_X5_firstPiece : MI yX5_firstPiece cX5_firstPiece 4 (some .int) 1 := ⟨ww_791, ww_790, ww_35, ww_44, by decide +kernel, by decide +kernel, by decide +kernel⟩
theorem ww_800 : Cond.methodLink RX5 182 yX5_sourceBound ∈ WA := wa 800 (by decide +kernel) (by decide +kernel)
theorem ww_803 : Cond.code yX5_sourceBound cX5_sourceBound 4 (some .int) ∈ WA := wa 803 (by decide +kernel) (by decide +kernel)
theorem ww_802 : Cond.instanceMethod yX5_sourceBound ∈ WA := wa 802 (by decide +kernel) (by decide +kernel)
theorem ww_36 : Cond.selects RX5 yX5_sourceBound yX5_sourceBound ∈ WA := wa 36 (by decide +kernel) (by decide +kernel)
theorem mi_X5_sourceBound : MI yX5_sourceBound cX5_sourceBound 4 (some .int) 1 := ⟨ww_803, ww_802, ww_36, ww_44, by decide +kernel, by decide +kernel, by decide +kernel⟩
theorem ww_816 : Cond.constant RX5 185 100000 ∈ WA := wa 816 (by decide +kernel) (by decide +kernel)
end
section
def rm_X0_tell : Room := ({ frames := 0, cells := 0, slots := 0, locals := 0 } : Room)
def wp_X0_tell (V : St) (K : St → Prop) (t : Nat) (a1 : Int32) (a2 : Int32) (a3 : Int32) (a4 : Int32) : Prop := ((1 : Int32) = 0 ∨ (1 : Int32) = 1) ∧ ∀ V1 : St, V1 = up2 V t 0 (1 : Int32) → ∀ V2 : St, V2 = up2 V1 t 1 a1 → ∀ V3 : St, V3 = up2 V2 t 2 a2 → ∀ V4 : St, V4 = up2 V3 t 3 a3 → ∀ V5 : St, V5 = up2 V4 t 4 a4 → K V5
set_option maxRecDepth 100000 in
set_option maxHeartbeats 4000000 in
theorem c_X0_tell {l : Launch} {D : va_G} {ad : Nat → Nat} {cy : Nat → ClassId} (hi : inj ad) {V : St} {K : St → Prop} {t : Nat} {a1 : Int32} {a2 : Int32} {a3 : Int32} {a4 : Int32} (ht : TskAt t) : wp_X0_tell V K t a1 a2 a3 a4 → Hv l D ad cy yX0_tell (Cond.code yX0_tell cX0_tell 5 none :: WA) rm_X0_tell [.ref (ad t), .int a1, .int a2, .int a3, .int a4] V K := by
  refine H_v (w := wp_X0_tell V K t a1 a2 a3 a4) (by decide) (Nat.le_of_ble_eq_true rfl) (List.forall_mem_cons.mpr ⟨rfl, (List.forall_mem_cons.mpr ⟨rfl, (List.forall_mem_cons.mpr ⟨rfl, (List.forall_mem_cons.mpr ⟨rfl, (List.forall_mem_cons.mpr ⟨rfl, (fun _ h => absurd h List.not_mem_nil)⟩)⟩)⟩)⟩)⟩) hi ?_
  intro p e s m args below meth c A hC hrt hlk
  show G p l e rm_X0_tell s m args below meth c 0 0 (MQ below (va_Qv K (Bq D ad cy) A) args s 0 0 A) 5 D ad cy A (wp_X0_tell V K t a1 a2 a3 a4) V 0 [some (.ref (ad t)), some (.int a1), some (.int a2), some (.int a3), some (.int a4)] []
  refine g_aload_n (pc := 0) hC dX0_tell_0 rfl ?_
  refine g_iconst (pc := 1) hC (1 : Int32) dX0_tell_1 (by decide) ?_
  refine g_putZ (pc := 2) hC fp_X0_7 ht.1 ht.2 rfl dX0_tell_2 (fun V1 => ?_)
  refine g_aload_n (pc := 5) hC dX0_tell_5 rfl ?_
  refine g_iload_n (pc := 6) hC dX0_tell_6 rfl ?_
  refine g_putI (pc := 7) hC fp_X0_13 ht.1 ht.2 rfl dX0_tell_7 (fun V2 => ?_)
  refine g_aload_n (pc := 10) hC dX0_tell_10 rfl ?_
  refine g_iload_n (pc := 11) hC dX0_tell_11 rfl ?_
  refine g_putI (pc := 12) hC fp_X0_17 ht.1 ht.2 rfl dX0_tell_12 (fun V3 => ?_)
  refine g_aload_n (pc := 15) hC dX0_tell_15 rfl ?_
  refine g_iload_n (pc := 16) hC dX0_tell_16 rfl ?_
  refine g_putI (pc := 17) hC fp_X0_20 ht.1 ht.2 rfl dX0_tell_17 (fun V4 => ?_)
  refine g_aload_n (pc := 20) hC dX0_tell_20 rfl ?_
  refine g_iload (pc := 21) hC dX0_tell_21 rfl ?_
  refine g_putI (pc := 23) hC fp_X0_23 ht.1 ht.2 rfl dX0_tell_23 (fun V5 => ?_)
  exact g_vret (pc := 26) hC hrt hlk dX0_tell_26
def rm_X0_beginIfDue : Room := ({ frames := 0, cells := 0, slots := 0, locals := 0 } : Room)
def b_X0_beginIfDue_32 (K : St → Prop) (t : Nat) (a1 : Int32) (V : St) : Prop := ∀ V1 : St, V1 = up2 V t 5 (V t 2) → K V1
def wp_X0_beginIfDue (V : St) (K : St → Prop) (t : Nat) (a1 : Int32) : Prop := ¬ (V t 1) = 0 ∧ if ((a1 - (V t 4)) - (a1 - (V t 4)) / (V t 1) * (V t 1)) = 0 then (if (V t 5) ≤ 0 then (b_X0_beginIfDue_32 K t a1 V) else (∀ V1 : St, V1 = up2 V t 6 ((V t 6) + (1 : Int32)) → b_X0_beginIfDue_32 K t a1 V1)) else (K V)
set_option maxRecDepth 100000 in
set_option maxHeartbeats 4000000 in
theorem c_X0_beginIfDue {l : Launch} {D : va_G} {ad : Nat → Nat} {cy : Nat → ClassId} (hi : inj ad) {V : St} {K : St → Prop} {t : Nat} {a1 : Int32} (ht : TskAt t) : wp_X0_beginIfDue V K t a1 → Hv l D ad cy yX0_beginIfDue (Cond.code yX0_beginIfDue cX0_beginIfDue 2 none :: WA) rm_X0_beginIfDue [.ref (ad t), .int a1] V K := by
  refine H_v (w := wp_X0_beginIfDue V K t a1) (by decide) (Nat.le_of_ble_eq_true rfl) (List.forall_mem_cons.mpr ⟨rfl, (List.forall_mem_cons.mpr ⟨rfl, (fun _ h => absurd h List.not_mem_nil)⟩)⟩) hi ?_
  intro p e s m args below meth c A hC hrt hlk
  have J_32 : ∀ (V : St), G p l e rm_X0_beginIfDue s m args below meth c 0 0 (MQ below (va_Qv K (Bq D ad cy) A) args s 0 0 A) 2 D ad cy A (b_X0_beginIfDue_32 K t a1 V) V 32 [some (.ref (ad t)), none] [] := by
    intro  V 
    refine g_aload_n (pc := 32) hC dX0_beginIfDue_32 rfl ?_
    refine g_aload_n (pc := 33) hC dX0_beginIfDue_33 rfl ?_
    refine g_getI (pc := 34) hC fl_X0_17 ht.1 ht.2 rfl dX0_beginIfDue_34 ?_
    refine g_putI (pc := 37) hC fp_X0_26 ht.1 ht.2 rfl dX0_beginIfDue_37 (fun V1 => ?_)
    exact g_vret (pc := 40) hC hrt hlk dX0_beginIfDue_40
  show G p l e rm_X0_beginIfDue s m args below meth c 0 0 (MQ below (va_Qv K (Bq D ad cy) A) args s 0 0 A) 2 D ad cy A (wp_X0_beginIfDue V K t a1) V 0 [some (.ref (ad t)), some (.int a1)] []
  refine g_iload_n (pc := 0) hC dX0_beginIfDue_0 rfl ?_
  refine g_aload_n (pc := 1) hC dX0_beginIfDue_1 rfl ?_
  refine g_getI (pc := 2) hC fl_X0_23 ht.1 ht.2 rfl dX0_beginIfDue_2 ?_
  refine g_isub (pc := 5) hC dX0_beginIfDue_5 ?_
  refine g_aload_n (pc := 6) hC dX0_beginIfDue_6 rfl ?_
  refine g_getI (pc := 7) hC fl_X0_13 ht.1 ht.2 rfl dX0_beginIfDue_7 ?_
  refine g_irem (pc := 10) hC dX0_beginIfDue_10 ?_
  refine g_if_eq (pc := 11) (tgt := 15) hC dX0_beginIfDue_11 (by decide) ?_ ?_
  · refine g_aload_n (pc := 15) hC dX0_beginIfDue_15 rfl ?_
    refine g_getI (pc := 16) hC fl_X0_26 ht.1 ht.2 rfl dX0_beginIfDue_16 ?_
    refine g_if_le (pc := 19) (tgt := 32) hC dX0_beginIfDue_19 (by decide) ?_ ?_
    · exact g_ms [true, false] (J_32  V)
    · refine g_aload_n (pc := 22) hC dX0_beginIfDue_22 rfl ?_
      refine g_dup (pc := 23) hC dX0_beginIfDue_23 rfl ?_
      refine g_getI (pc := 24) hC fl_X0_29 ht.1 ht.2 rfl dX0_beginIfDue_24 ?_
      refine g_iconst (pc := 27) hC (1 : Int32) dX0_beginIfDue_27 (by decide) ?_
      refine g_iadd (pc := 28) hC dX0_beginIfDue_28 ?_
      refine g_putI (pc := 29) hC fp_X0_29 ht.1 ht.2 rfl dX0_beginIfDue_29 (fun V1 => ?_)
      exact g_ms [true, false] (J_32  V1)
  · exact g_vret (pc := 14) hC hrt hlk dX0_beginIfDue_14
def rm_X0_work : Room := ({ frames := 0, cells := 0, slots := 0, locals := 0 } : Room)
def wp_X0_work (V : St) (K : St → Prop) (t : Nat) : Prop := ∀ V1 : St, V1 = up2 V t 5 ((V t 5) - (1 : Int32)) → if (V1 t 5) = 0 then (∀ V2 : St, V2 = up2 V1 t 7 ((V1 t 7) + (1 : Int32)) → K V2) else (K V1)
set_option maxRecDepth 100000 in
set_option maxHeartbeats 4000000 in
theorem c_X0_work {l : Launch} {D : va_G} {ad : Nat → Nat} {cy : Nat → ClassId} (hi : inj ad) {V : St} {K : St → Prop} {t : Nat} (ht : TskAt t) : wp_X0_work V K t → Hv l D ad cy yX0_work (Cond.code yX0_work cX0_work 1 none :: WA) rm_X0_work [.ref (ad t)] V K := by
  refine H_v (w := wp_X0_work V K t) (by decide) (Nat.le_of_ble_eq_true rfl) (List.forall_mem_cons.mpr ⟨rfl, (fun _ h => absurd h List.not_mem_nil)⟩) hi ?_
  intro p e s m args below meth c A hC hrt hlk
  show G p l e rm_X0_work s m args below meth c 0 0 (MQ below (va_Qv K (Bq D ad cy) A) args s 0 0 A) 1 D ad cy A (wp_X0_work V K t) V 0 [some (.ref (ad t))] []
  refine g_aload_n (pc := 0) hC dX0_work_0 rfl ?_
  refine g_dup (pc := 1) hC dX0_work_1 rfl ?_
  refine g_getI (pc := 2) hC fl_X0_26 ht.1 ht.2 rfl dX0_work_2 ?_
  refine g_iconst (pc := 5) hC (1 : Int32) dX0_work_5 (by decide) ?_
  refine g_isub (pc := 6) hC dX0_work_6 ?_
  refine g_putI (pc := 7) hC fp_X0_26 ht.1 ht.2 rfl dX0_work_7 (fun V1 => ?_)
  refine g_aload_n (pc := 10) hC dX0_work_10 rfl ?_
  refine g_getI (pc := 11) hC fl_X0_26 ht.1 ht.2 rfl dX0_work_11 ?_
  refine g_if_ne (pc := 14) (tgt := 27) hC dX0_work_14 (by decide) ?_ ?_
  · exact g_vret (pc := 27) hC hrt hlk dX0_work_27
  · refine g_aload_n (pc := 17) hC dX0_work_17 rfl ?_
    refine g_dup (pc := 18) hC dX0_work_18 rfl ?_
    refine g_getI (pc := 19) hC fl_X0_32 ht.1 ht.2 rfl dX0_work_19 ?_
    refine g_iconst (pc := 22) hC (1 : Int32) dX0_work_22 (by decide) ?_
    refine g_iadd (pc := 23) hC dX0_work_23 ?_
    refine g_putI (pc := 24) hC fp_X0_32 ht.1 ht.2 rfl dX0_work_24 (fun V2 => ?_)
    exact g_vret (pc := 27) hC hrt hlk dX0_work_27
def rm_X1_add : Room := ({ frames := 1, cells := 0, slots := 0, locals := 21 } : Room)
def b_X1_add_57 (K : St → Prop) (q : Nat) (a1 : Int32) (V : St) : Prop := vp_in (V q 2) 16 ∧ ∀ V1 : St, V1 = up2 V (q + 1) (V q 2).toNatClampNeg a1 → vp_in (V1 q 2) 16 ∧ ∀ V2 : St, V2 = up2 V1 (q + 2) (V1 q 2).toNatClampNeg (1 : Int32) → ∀ V3 : St, V3 = up2 V2 q 2 ((V2 q 2) + (1 : Int32)) → K V3
def b_X1_add_30 (K : St → Prop) (q : Nat) (a1 : Int32) (V : St) (l2 : Int32) : Prop := vp_in l2 16 ∧ vp_in l2 16 ∧ ∀ V1 : St, V1 = up2 V (q + 2) l2.toNatClampNeg ((V (q + 2) l2.toNatClampNeg) + (1 : Int32)) → vp_in l2 16 ∧ vp_in l2 16 ∧ ∀ V2 : St, V2 = up2 V1 (q + 1) l2.toNatClampNeg (if (V1 (q + 1) l2.toNatClampNeg) < a1 then a1 else (V1 (q + 1) l2.toNatClampNeg)) → K V2
def wp_X1_add (V : St) (K : St → Prop) (q : Nat) (a1 : Int32) : Prop := ∀ x1 : Int32, x1 = ((V q 2) - (1 : Int32)) → if x1 < 0 then (b_X1_add_57 K q a1 V) else (vp_in x1 16 ∧ if (V (q + 1) x1.toNatClampNeg) = a1 then (b_X1_add_30 K q a1 V x1) else (if (V q 2) < (16 : Int32) then (b_X1_add_57 K q a1 V) else (b_X1_add_30 K q a1 V x1)))
set_option maxRecDepth 100000 in
set_option maxHeartbeats 4000000 in
theorem c_X1_add {l : Launch} {D : va_G} {ad : Nat → Nat} {cy : Nat → ClassId} (hi : inj ad) {V : St} {K : St → Prop} {q : Nat} {a1 : Int32} (hq : PcsAt q) : wp_X1_add V K q a1 → Hv l D ad cy yX1_add (Cond.code yX1_add cX1_add 3 none :: WA) rm_X1_add [.ref (ad q), .int a1] V K := by
  refine H_v (w := wp_X1_add V K q a1) (by decide) (Nat.le_of_ble_eq_true rfl) (List.forall_mem_cons.mpr ⟨rfl, (List.forall_mem_cons.mpr ⟨rfl, (fun _ h => absurd h List.not_mem_nil)⟩)⟩) hi ?_
  intro p e s m args below meth c A hC hrt hlk
  have J_57 : ∀ (V : St), G p l e rm_X1_add s m args below meth c 0 0 (MQ below (va_Qv K (Bq D ad cy) A) args s 0 0 A) 3 D ad cy A (b_X1_add_57 K q a1 V) V 57 [some (.ref (ad q)), some (.int a1), none] [] := by
    intro  V 
    refine g_aload_n (pc := 57) hC dX1_add_57 rfl ?_
    refine g_getR (pc := 58) hC fl_X1_9 (PcsAt.l0 hq) hq.2.1 rfl dX1_add_58 ?_
    refine g_aload_n (pc := 61) hC dX1_add_61 rfl ?_
    refine g_getI (pc := 62) hC fl_X1_18 (PcsAt.l0 hq) hq.2.1 rfl dX1_add_62 ?_
    refine g_iload_n (pc := 65) hC dX1_add_65 rfl ?_
    refine g_iast (pc := 66) hC (PcsAt.l1 hq) hq.2.2.1 dX1_add_66 (fun V1 => ?_)
    refine g_aload_n (pc := 67) hC dX1_add_67 rfl ?_
    refine g_getR (pc := 68) hC fl_X1_15 (PcsAt.l0 hq) hq.2.1 rfl dX1_add_68 ?_
    refine g_aload_n (pc := 71) hC dX1_add_71 rfl ?_
    refine g_getI (pc := 72) hC fl_X1_18 (PcsAt.l0 hq) hq.2.1 rfl dX1_add_72 ?_
    refine g_iconst (pc := 75) hC (1 : Int32) dX1_add_75 (by decide) ?_
    refine g_iast (pc := 76) hC (PcsAt.l2 hq) hq.2.2.2 dX1_add_76 (fun V2 => ?_)
    refine g_aload_n (pc := 77) hC dX1_add_77 rfl ?_
    refine g_dup (pc := 78) hC dX1_add_78 rfl ?_
    refine g_getI (pc := 79) hC fl_X1_18 (PcsAt.l0 hq) hq.2.1 rfl dX1_add_79 ?_
    refine g_iconst (pc := 82) hC (1 : Int32) dX1_add_82 (by decide) ?_
    refine g_iadd (pc := 83) hC dX1_add_83 ?_
    refine g_putI (pc := 84) hC fp_X1_18 (PcsAt.l0 hq) hq.2.1 rfl dX1_add_84 (fun V3 => ?_)
    exact g_vret (pc := 87) hC hrt hlk dX1_add_87
  have J_30 : ∀ (V : St) (l2 : Int32), G p l e rm_X1_add s m args below meth c 0 0 (MQ below (va_Qv K (Bq D ad cy) A) args s 0 0 A) 3 D ad cy A (b_X1_add_30 K q a1 V l2) V 30 [some (.ref (ad q)), some (.int a1), some (.int l2)] [] := by
    intro  V l2 
    refine g_aload_n (pc := 30) hC dX1_add_30 rfl ?_
    refine g_getR (pc := 31) hC fl_X1_15 (PcsAt.l0 hq) hq.2.1 rfl dX1_add_31 ?_
    refine g_iload_n (pc := 34) hC dX1_add_34 rfl ?_
    refine g_dup2 (pc := 35) hC dX1_add_35 rfl rfl ?_
    refine g_iald (pc := 36) hC (PcsAt.l2 hq) hq.2.2.2 dX1_add_36 ?_
    refine g_iconst (pc := 37) hC (1 : Int32) dX1_add_37 (by decide) ?_
    refine g_iadd (pc := 38) hC dX1_add_38 ?_
    refine g_iast (pc := 39) hC (PcsAt.l2 hq) hq.2.2.2 dX1_add_39 (fun V1 => ?_)
    refine g_aload_n (pc := 40) hC dX1_add_40 rfl ?_
    refine g_getR (pc := 41) hC fl_X1_9 (PcsAt.l0 hq) hq.2.1 rfl dX1_add_41 ?_
    refine g_iload_n (pc := 44) hC dX1_add_44 rfl ?_
    refine g_aload_n (pc := 45) hC dX1_add_45 rfl ?_
    refine g_getR (pc := 46) hC fl_X1_9 (PcsAt.l0 hq) hq.2.1 rfl dX1_add_46 ?_
    refine g_iload_n (pc := 49) hC dX1_add_49 rfl ?_
    refine g_iald (pc := 50) hC (PcsAt.l1 hq) hq.2.2.1 dX1_add_50 ?_
    refine g_iload_n (pc := 51) hC dX1_add_51 rfl ?_
    refine g_max (pc := 52) hC ww_291 ww_284 ww_51 ww_285 (by decide) (Nat.le_of_ble_eq_true rfl) (by decide) (by decide) dX1_add_52 ?_
    refine g_iast (pc := 55) hC (PcsAt.l1 hq) hq.2.2.1 dX1_add_55 (fun V2 => ?_)
    exact g_vret (pc := 56) hC hrt hlk dX1_add_56
  show G p l e rm_X1_add s m args below meth c 0 0 (MQ below (va_Qv K (Bq D ad cy) A) args s 0 0 A) 3 D ad cy A (wp_X1_add V K q a1) V 0 [some (.ref (ad q)), some (.int a1), none] []
  refine g_aload_n (pc := 0) hC dX1_add_0 rfl ?_
  refine g_getI (pc := 1) hC fl_X1_18 (PcsAt.l0 hq) hq.2.1 rfl dX1_add_1 ?_
  refine g_iconst (pc := 4) hC (1 : Int32) dX1_add_4 (by decide) ?_
  refine g_isub (pc := 5) hC dX1_add_5 ?_
  refine g_nm (fun x1 => ?_)
  refine g_istore_n (pc := 6) (L2 := [some (.ref (ad q)), some (.int a1), some (.int x1)]) hC dX1_add_6 (by decide) rfl ?_
  refine g_iload_n (pc := 7) hC dX1_add_7 rfl ?_
  refine g_if_lt (pc := 8) (tgt := 57) hC dX1_add_8 (by decide) ?_ ?_
  · exact g_ms [true, true, false] (J_57  V)
  · refine g_aload_n (pc := 11) hC dX1_add_11 rfl ?_
    refine g_getR (pc := 12) hC fl_X1_9 (PcsAt.l0 hq) hq.2.1 rfl dX1_add_12 ?_
    refine g_iload_n (pc := 15) hC dX1_add_15 rfl ?_
    refine g_iald (pc := 16) hC (PcsAt.l1 hq) hq.2.2.1 dX1_add_16 ?_
    refine g_iload_n (pc := 17) hC dX1_add_17 rfl ?_
    refine g_icmp_eq (pc := 18) (tgt := 30) hC dX1_add_18 (by decide) ?_ ?_
    · exact J_30  V x1
    · refine g_aload_n (pc := 21) hC dX1_add_21 rfl ?_
      refine g_getI (pc := 22) hC fl_X1_18 (PcsAt.l0 hq) hq.2.1 rfl dX1_add_22 ?_
      refine g_bipush (pc := 25) hC (16 : Int32) dX1_add_25 (by decide) ?_
      refine g_icmp_lt (pc := 27) (tgt := 57) hC dX1_add_27 (by decide) ?_ ?_
      · exact g_ms [true, true, false] (J_57  V)
      · exact J_30  V x1
def rm_X1_removeUpTo : Room := ({ frames := 0, cells := 0, slots := 0, locals := 0 } : Room)
def h_X1_removeUpTo_7 (K : Int32 → St → Prop) (q : Nat) (a1 : Int32) (rec_7 : St → Int32 → Int32 → Int32 → Prop) (V : St) (l2 : Int32) (l3 : Int32) (l4 : Int32) : Prop := if (V q 2) ≤ l4 then (∀ V1 : St, V1 = up2 V q 2 l3 → K l2 V1) else (vp_in l4 16 ∧ if a1 < (V (q + 1) l4.toNatClampNeg) then (vp_in l4 16 ∧ vp_in l3 16 ∧ ∀ V2 : St, V2 = up2 V (q + 1) l3.toNatClampNeg (V (q + 1) l4.toNatClampNeg) → vp_in l4 16 ∧ vp_in l3 16 ∧ ∀ V3 : St, V3 = up2 V2 (q + 2) l3.toNatClampNeg (V2 (q + 2) l4.toNatClampNeg) → rec_7 V3 l2 (l3 + 1) (l4 + 1)) else (vp_in l4 16 ∧ ∀ x4 : Int32, x4 = (l2 + (V (q + 2) l4.toNatClampNeg)) → rec_7 V x4 l3 (l4 + 1)))
def wp_X1_removeUpTo (V : St) (K : Int32 → St → Prop) (q : Nat) (a1 : Int32) : Prop := ∃ n, lp (fun _ _ _ _ => False) (h_X1_removeUpTo_7 K q a1) n V (0 : Int32) (0 : Int32) (0 : Int32)
set_option maxRecDepth 100000 in
set_option maxHeartbeats 4000000 in
theorem c_X1_removeUpTo {l : Launch} {D : va_G} {ad : Nat → Nat} {cy : Nat → ClassId} (hi : inj ad) {V : St} {K : Int32 → St → Prop} {q : Nat} {a1 : Int32} (hq : PcsAt q) : wp_X1_removeUpTo V K q a1 → Hi l D ad cy yX1_removeUpTo (Cond.code yX1_removeUpTo cX1_removeUpTo 5 (some .int) :: WA) rm_X1_removeUpTo [.ref (ad q), .int a1] V K := by
  refine H_i (w := wp_X1_removeUpTo V K q a1) (by decide) (Nat.le_of_ble_eq_true rfl) (List.forall_mem_cons.mpr ⟨rfl, (List.forall_mem_cons.mpr ⟨rfl, (fun _ h => absurd h List.not_mem_nil)⟩)⟩) hi ?_
  intro p e s m args below meth c A hC hrt hlk
  have J_7 : ∀ (n : Nat), ∀ (V : St) (l2 : Int32) (l3 : Int32) (l4 : Int32), G p l e rm_X1_removeUpTo s m args below meth c 0 0 (MQ below (va_Qi K (Bq D ad cy) A) args s 0 0 A) 5 D ad cy A (lp (fun _ _ _ _ => False) (h_X1_removeUpTo_7 K q a1) n V l2 l3 l4) V 7 [some (.ref (ad q)), some (.int a1), some (.int l2), some (.int l3), some (.int l4)] [] := by
    intro n
    induction n with
    | zero => exact fun _ _ _ _ h => False.elim h
    | succ n IH =>
      generalize hrec : lp (fun _ _ _ _ => False) (h_X1_removeUpTo_7 K q a1) n = rec_7 at IH
      have ih_7 := IH
      intro V l2 l3 l4 
      show G p l e rm_X1_removeUpTo s m args below meth c 0 0 (MQ below (va_Qi K (Bq D ad cy) A) args s 0 0 A) 5 D ad cy A (h_X1_removeUpTo_7 K q a1 (lp (fun _ _ _ _ => False) (h_X1_removeUpTo_7 K q a1) n) V l2 l3 l4) V 7 [some (.ref (ad q)), some (.int a1), some (.int l2), some (.int l3), some (.int l4)] []
      rw [hrec]
      refine g_iload (pc := 7) hC dX1_removeUpTo_7 rfl ?_
      refine g_aload_n (pc := 9) hC dX1_removeUpTo_9 rfl ?_
      refine g_getI (pc := 10) hC fl_X1_18 (PcsAt.l0 hq) hq.2.1 rfl dX1_removeUpTo_10 ?_
      refine g_icmp_ge (pc := 13) (tgt := 75) hC dX1_removeUpTo_13 (by decide) ?_ ?_
      · refine g_aload_n (pc := 75) hC dX1_removeUpTo_75 rfl ?_
        refine g_iload_n (pc := 76) hC dX1_removeUpTo_76 rfl ?_
        refine g_putI (pc := 77) hC fp_X1_18 (PcsAt.l0 hq) hq.2.1 rfl dX1_removeUpTo_77 (fun V1 => ?_)
        refine g_iload_n (pc := 80) hC dX1_removeUpTo_80 rfl ?_
        exact g_iret (pc := 81) hC hrt hlk dX1_removeUpTo_81
      · refine g_aload_n (pc := 16) hC dX1_removeUpTo_16 rfl ?_
        refine g_getR (pc := 17) hC fl_X1_9 (PcsAt.l0 hq) hq.2.1 rfl dX1_removeUpTo_17 ?_
        refine g_iload (pc := 20) hC dX1_removeUpTo_20 rfl ?_
        refine g_iald (pc := 22) hC (PcsAt.l1 hq) hq.2.2.1 dX1_removeUpTo_22 ?_
        refine g_iload_n (pc := 23) hC dX1_removeUpTo_23 rfl ?_
        refine g_icmp_gt (pc := 24) (tgt := 40) hC dX1_removeUpTo_24 (by decide) ?_ ?_
        · refine g_aload_n (pc := 40) hC dX1_removeUpTo_40 rfl ?_
          refine g_getR (pc := 41) hC fl_X1_9 (PcsAt.l0 hq) hq.2.1 rfl dX1_removeUpTo_41 ?_
          refine g_iload_n (pc := 44) hC dX1_removeUpTo_44 rfl ?_
          refine g_aload_n (pc := 45) hC dX1_removeUpTo_45 rfl ?_
          refine g_getR (pc := 46) hC fl_X1_9 (PcsAt.l0 hq) hq.2.1 rfl dX1_removeUpTo_46 ?_
          refine g_iload (pc := 49) hC dX1_removeUpTo_49 rfl ?_
          refine g_iald (pc := 51) hC (PcsAt.l1 hq) hq.2.2.1 dX1_removeUpTo_51 ?_
          refine g_iast (pc := 52) hC (PcsAt.l1 hq) hq.2.2.1 dX1_removeUpTo_52 (fun V2 => ?_)
          refine g_aload_n (pc := 53) hC dX1_removeUpTo_53 rfl ?_
          refine g_getR (pc := 54) hC fl_X1_15 (PcsAt.l0 hq) hq.2.1 rfl dX1_removeUpTo_54 ?_
          refine g_iload_n (pc := 57) hC dX1_removeUpTo_57 rfl ?_
          refine g_aload_n (pc := 58) hC dX1_removeUpTo_58 rfl ?_
          refine g_getR (pc := 59) hC fl_X1_15 (PcsAt.l0 hq) hq.2.1 rfl dX1_removeUpTo_59 ?_
          refine g_iload (pc := 62) hC dX1_removeUpTo_62 rfl ?_
          refine g_iald (pc := 64) hC (PcsAt.l2 hq) hq.2.2.2 dX1_removeUpTo_64 ?_
          refine g_iast (pc := 65) hC (PcsAt.l2 hq) hq.2.2.2 dX1_removeUpTo_65 (fun V3 => ?_)
          refine g_iinc (pc := 66) (L2 := [some (.ref (ad q)), some (.int a1), some (.int l2), some (.int (l3 + 1)), some (.int l4)]) hC (l3 + 1) dX1_removeUpTo_66 rfl rfl (by decide) rfl ?_
          refine g_iinc (pc := 69) (L2 := [some (.ref (ad q)), some (.int a1), some (.int l2), some (.int (l3 + 1)), some (.int (l4 + 1))]) hC (l4 + 1) dX1_removeUpTo_69 rfl rfl (by decide) rfl ?_
          refine g_goto (pc := 72) (tgt := 7) hC dX1_removeUpTo_72 (by decide) ?_
          exact ih_7 V3 l2 (l3 + 1) (l4 + 1)
        · refine g_iload_n (pc := 27) hC dX1_removeUpTo_27 rfl ?_
          refine g_aload_n (pc := 28) hC dX1_removeUpTo_28 rfl ?_
          refine g_getR (pc := 29) hC fl_X1_15 (PcsAt.l0 hq) hq.2.1 rfl dX1_removeUpTo_29 ?_
          refine g_iload (pc := 32) hC dX1_removeUpTo_32 rfl ?_
          refine g_iald (pc := 34) hC (PcsAt.l2 hq) hq.2.2.2 dX1_removeUpTo_34 ?_
          refine g_iadd (pc := 35) hC dX1_removeUpTo_35 ?_
          refine g_nm (fun x4 => ?_)
          refine g_istore_n (pc := 36) (L2 := [some (.ref (ad q)), some (.int a1), some (.int x4), some (.int l3), some (.int l4)]) hC dX1_removeUpTo_36 (by decide) rfl ?_
          refine g_goto (pc := 37) (tgt := 69) hC dX1_removeUpTo_37 (by decide) ?_
          refine g_iinc (pc := 69) (L2 := [some (.ref (ad q)), some (.int a1), some (.int x4), some (.int l3), some (.int (l4 + 1))]) hC (l4 + 1) dX1_removeUpTo_69 rfl rfl (by decide) rfl ?_
          refine g_goto (pc := 72) (tgt := 7) hC dX1_removeUpTo_72 (by decide) ?_
          exact ih_7 V x4 l3 (l4 + 1)
  show G p l e rm_X1_removeUpTo s m args below meth c 0 0 (MQ below (va_Qi K (Bq D ad cy) A) args s 0 0 A) 5 D ad cy A (wp_X1_removeUpTo V K q a1) V 0 [some (.ref (ad q)), some (.int a1), none, none, none] []
  refine g_iconst (pc := 0) hC (0 : Int32) dX1_removeUpTo_0 (by decide) ?_
  refine g_istore_n (pc := 1) (L2 := [some (.ref (ad q)), some (.int a1), some (.int (0 : Int32)), none, none]) hC dX1_removeUpTo_1 (by decide) rfl ?_
  refine g_iconst (pc := 2) hC (0 : Int32) dX1_removeUpTo_2 (by decide) ?_
  refine g_istore_n (pc := 3) (L2 := [some (.ref (ad q)), some (.int a1), some (.int (0 : Int32)), some (.int (0 : Int32)), none]) hC dX1_removeUpTo_3 (by decide) rfl ?_
  refine g_iconst (pc := 4) hC (0 : Int32) dX1_removeUpTo_4 (by decide) ?_
  refine g_istore (pc := 5) (L2 := [some (.ref (ad q)), some (.int a1), some (.int (0 : Int32)), some (.int (0 : Int32)), some (.int (0 : Int32))]) hC dX1_removeUpTo_5 (by decide) rfl ?_
  exact g_ex (fun n => J_7  n V (0 : Int32) (0 : Int32) (0 : Int32))
def rm_X1_next : Room := ({ frames := 0, cells := 0, slots := 0, locals := 0 } : Room)
def h_X1_next_4 (K : Int32 → St → Prop) (q : Nat) (rec_4 : St → Int32 → Int32 → Prop) (V : St) (l1 : Int32) (l2 : Int32) : Prop := if (V q 2) ≤ l2 then (K l1 V) else (vp_in l2 16 ∧ vp_in l1 16 ∧ if (V (q + 1) l1.toNatClampNeg) ≤ (V (q + 1) l2.toNatClampNeg) then (rec_4 V l1 (l2 + 1)) else (rec_4 V l2 (l2 + 1)))
def wp_X1_next (V : St) (K : Int32 → St → Prop) (q : Nat) : Prop := ∃ n, lp (fun _ _ _ => False) (h_X1_next_4 K q) n V (0 : Int32) (1 : Int32)
set_option maxRecDepth 100000 in
set_option maxHeartbeats 4000000 in
theorem c_X1_next {l : Launch} {D : va_G} {ad : Nat → Nat} {cy : Nat → ClassId} (hi : inj ad) {V : St} {K : Int32 → St → Prop} {q : Nat} (hq : PcsAt q) : wp_X1_next V K q → Hi l D ad cy yX1_next (Cond.code yX1_next cX1_next 3 (some .int) :: WA) rm_X1_next [.ref (ad q)] V K := by
  refine H_i (w := wp_X1_next V K q) (by decide) (Nat.le_of_ble_eq_true rfl) (List.forall_mem_cons.mpr ⟨rfl, (fun _ h => absurd h List.not_mem_nil)⟩) hi ?_
  intro p e s m args below meth c A hC hrt hlk
  have J_4 : ∀ (n : Nat), ∀ (V : St) (l1 : Int32) (l2 : Int32), G p l e rm_X1_next s m args below meth c 0 0 (MQ below (va_Qi K (Bq D ad cy) A) args s 0 0 A) 3 D ad cy A (lp (fun _ _ _ => False) (h_X1_next_4 K q) n V l1 l2) V 4 [some (.ref (ad q)), some (.int l1), some (.int l2)] [] := by
    intro n
    induction n with
    | zero => exact fun _ _ _ h => False.elim h
    | succ n IH =>
      generalize hrec : lp (fun _ _ _ => False) (h_X1_next_4 K q) n = rec_4 at IH
      have ih_4 := IH
      intro V l1 l2 
      show G p l e rm_X1_next s m args below meth c 0 0 (MQ below (va_Qi K (Bq D ad cy) A) args s 0 0 A) 3 D ad cy A (h_X1_next_4 K q (lp (fun _ _ _ => False) (h_X1_next_4 K q) n) V l1 l2) V 4 [some (.ref (ad q)), some (.int l1), some (.int l2)] []
      rw [hrec]
      refine g_iload_n (pc := 4) hC dX1_next_4 rfl ?_
      refine g_aload_n (pc := 5) hC dX1_next_5 rfl ?_
      refine g_getI (pc := 6) hC fl_X1_18 (PcsAt.l0 hq) hq.2.1 rfl dX1_next_6 ?_
      refine g_icmp_ge (pc := 9) (tgt := 35) hC dX1_next_9 (by decide) ?_ ?_
      · refine g_iload_n (pc := 35) hC dX1_next_35 rfl ?_
        exact g_iret (pc := 36) hC hrt hlk dX1_next_36
      · refine g_aload_n (pc := 12) hC dX1_next_12 rfl ?_
        refine g_getR (pc := 13) hC fl_X1_9 (PcsAt.l0 hq) hq.2.1 rfl dX1_next_13 ?_
        refine g_iload_n (pc := 16) hC dX1_next_16 rfl ?_
        refine g_iald (pc := 17) hC (PcsAt.l1 hq) hq.2.2.1 dX1_next_17 ?_
        refine g_aload_n (pc := 18) hC dX1_next_18 rfl ?_
        refine g_getR (pc := 19) hC fl_X1_9 (PcsAt.l0 hq) hq.2.1 rfl dX1_next_19 ?_
        refine g_iload_n (pc := 22) hC dX1_next_22 rfl ?_
        refine g_iald (pc := 23) hC (PcsAt.l1 hq) hq.2.2.1 dX1_next_23 ?_
        refine g_icmp_ge (pc := 24) (tgt := 29) hC dX1_next_24 (by decide) ?_ ?_
        · refine g_iinc (pc := 29) (L2 := [some (.ref (ad q)), some (.int l1), some (.int (l2 + 1))]) hC (l2 + 1) dX1_next_29 rfl rfl (by decide) rfl ?_
          refine g_goto (pc := 32) (tgt := 4) hC dX1_next_32 (by decide) ?_
          exact ih_4 V l1 (l2 + 1)
        · refine g_iload_n (pc := 27) hC dX1_next_27 rfl ?_
          refine g_istore_n (pc := 28) (L2 := [some (.ref (ad q)), some (.int l2), some (.int l2)]) hC dX1_next_28 (by decide) rfl ?_
          refine g_iinc (pc := 29) (L2 := [some (.ref (ad q)), some (.int l2), some (.int (l2 + 1))]) hC (l2 + 1) dX1_next_29 rfl rfl (by decide) rfl ?_
          refine g_goto (pc := 32) (tgt := 4) hC dX1_next_32 (by decide) ?_
          exact ih_4 V l2 (l2 + 1)
  show G p l e rm_X1_next s m args below meth c 0 0 (MQ below (va_Qi K (Bq D ad cy) A) args s 0 0 A) 3 D ad cy A (wp_X1_next V K q) V 0 [some (.ref (ad q)), none, none] []
  refine g_iconst (pc := 0) hC (0 : Int32) dX1_next_0 (by decide) ?_
  refine g_istore_n (pc := 1) (L2 := [some (.ref (ad q)), some (.int (0 : Int32)), none]) hC dX1_next_1 (by decide) rfl ?_
  refine g_iconst (pc := 2) hC (1 : Int32) dX1_next_2 (by decide) ?_
  refine g_istore_n (pc := 3) (L2 := [some (.ref (ad q)), some (.int (0 : Int32)), some (.int (1 : Int32))]) hC dX1_next_3 (by decide) rfl ?_
  exact g_ex (fun n => J_4  n V (0 : Int32) (1 : Int32))
def rm_X1_nextTime : Room := ({ frames := 1, cells := 0, slots := 0, locals := 22 } : Room)
def wp_X1_nextTime (V : St) (K : Int32 → St → Prop) (q : Nat) : Prop := if (V q 2) ≤ 0 then (K (-1 : Int32) V) else (wp_X1_next V (fun (r1 : Int32) (V2 : St) => vp_in r1 16 ∧ K (V2 (q + 1) r1.toNatClampNeg) V2) q)
set_option maxRecDepth 100000 in
set_option maxHeartbeats 4000000 in
theorem c_X1_nextTime {l : Launch} {D : va_G} {ad : Nat → Nat} {cy : Nat → ClassId} (hi : inj ad) {V : St} {K : Int32 → St → Prop} {q : Nat} (hq : PcsAt q) : wp_X1_nextTime V K q → Hi l D ad cy yX1_nextTime (Cond.code yX1_nextTime cX1_nextTime 1 (some .int) :: WA) rm_X1_nextTime [.ref (ad q)] V K := by
  refine H_i (w := wp_X1_nextTime V K q) (by decide) (Nat.le_of_ble_eq_true rfl) (List.forall_mem_cons.mpr ⟨rfl, (fun _ h => absurd h List.not_mem_nil)⟩) hi ?_
  intro p e s m args below meth c A hC hrt hlk
  show G p l e rm_X1_nextTime s m args below meth c 0 0 (MQ below (va_Qi K (Bq D ad cy) A) args s 0 0 A) 1 D ad cy A (wp_X1_nextTime V K q) V 0 [some (.ref (ad q))] []
  refine g_aload_n (pc := 0) hC dX1_nextTime_0 rfl ?_
  refine g_getI (pc := 1) hC fl_X1_18 (PcsAt.l0 hq) hq.2.1 rfl dX1_nextTime_1 ?_
  refine g_if_le (pc := 4) (tgt := 19) hC dX1_nextTime_4 (by decide) ?_ ?_
  · refine g_iconst (pc := 19) hC (-1 : Int32) dX1_nextTime_19 (by decide) ?_
    exact g_iret (pc := 20) hC hrt hlk dX1_nextTime_20
  · refine g_aload_n (pc := 7) hC dX1_nextTime_7 rfl ?_
    refine g_getR (pc := 8) hC fl_X1_9 (PcsAt.l0 hq) hq.2.1 rfl dX1_nextTime_8 ?_
    refine g_aload_n (pc := 11) hC dX1_nextTime_11 rfl ?_
    refine g_cvi (pc := 12) hC (c_X1_next hC.2.2.2.1 hq) mi_X1_next ww_524 ⟨rfl, rfl⟩ ⟨by decide, by decide⟩ (PcsAt.l0 hq) hq.2.1 rfl rfl rfl (Nat.le_of_ble_eq_true rfl) ⟨Nat.le_of_ble_eq_true rfl, Nat.le_of_ble_eq_true rfl⟩ dX1_nextTime_12 (fun r1 V2 => ?_)
    refine g_iald (pc := 15) hC (PcsAt.l1 hq) hq.2.2.1 dX1_nextTime_15 ?_
    refine g_goto (pc := 16) (tgt := 20) hC dX1_nextTime_16 (by decide) ?_
    exact g_iret (pc := 20) hC hrt hlk dX1_nextTime_20
def rm_X1_nextAmount : Room := ({ frames := 1, cells := 0, slots := 0, locals := 22 } : Room)
def wp_X1_nextAmount (V : St) (K : Int32 → St → Prop) (q : Nat) : Prop := if (V q 2) ≤ 0 then (K (0 : Int32) V) else (wp_X1_next V (fun (r1 : Int32) (V2 : St) => vp_in r1 16 ∧ K (V2 (q + 2) r1.toNatClampNeg) V2) q)
set_option maxRecDepth 100000 in
set_option maxHeartbeats 4000000 in
theorem c_X1_nextAmount {l : Launch} {D : va_G} {ad : Nat → Nat} {cy : Nat → ClassId} (hi : inj ad) {V : St} {K : Int32 → St → Prop} {q : Nat} (hq : PcsAt q) : wp_X1_nextAmount V K q → Hi l D ad cy yX1_nextAmount (Cond.code yX1_nextAmount cX1_nextAmount 1 (some .int) :: WA) rm_X1_nextAmount [.ref (ad q)] V K := by
  refine H_i (w := wp_X1_nextAmount V K q) (by decide) (Nat.le_of_ble_eq_true rfl) (List.forall_mem_cons.mpr ⟨rfl, (fun _ h => absurd h List.not_mem_nil)⟩) hi ?_
  intro p e s m args below meth c A hC hrt hlk
  show G p l e rm_X1_nextAmount s m args below meth c 0 0 (MQ below (va_Qi K (Bq D ad cy) A) args s 0 0 A) 1 D ad cy A (wp_X1_nextAmount V K q) V 0 [some (.ref (ad q))] []
  refine g_aload_n (pc := 0) hC dX1_nextAmount_0 rfl ?_
  refine g_getI (pc := 1) hC fl_X1_18 (PcsAt.l0 hq) hq.2.1 rfl dX1_nextAmount_1 ?_
  refine g_if_le (pc := 4) (tgt := 19) hC dX1_nextAmount_4 (by decide) ?_ ?_
  · refine g_iconst (pc := 19) hC (0 : Int32) dX1_nextAmount_19 (by decide) ?_
    exact g_iret (pc := 20) hC hrt hlk dX1_nextAmount_20
  · refine g_aload_n (pc := 7) hC dX1_nextAmount_7 rfl ?_
    refine g_getR (pc := 8) hC fl_X1_15 (PcsAt.l0 hq) hq.2.1 rfl dX1_nextAmount_8 ?_
    refine g_aload_n (pc := 11) hC dX1_nextAmount_11 rfl ?_
    refine g_cvi (pc := 12) hC (c_X1_next hC.2.2.2.1 hq) mi_X1_next ww_524 ⟨rfl, rfl⟩ ⟨by decide, by decide⟩ (PcsAt.l0 hq) hq.2.1 rfl rfl rfl (Nat.le_of_ble_eq_true rfl) ⟨Nat.le_of_ble_eq_true rfl, Nat.le_of_ble_eq_true rfl⟩ dX1_nextAmount_12 (fun r1 V2 => ?_)
    refine g_iald (pc := 15) hC (PcsAt.l2 hq) hq.2.2.2 dX1_nextAmount_15 ?_
    refine g_goto (pc := 16) (tgt := 20) hC dX1_nextAmount_16 (by decide) ?_
    exact g_iret (pc := 20) hC hrt hlk dX1_nextAmount_20
def rm_X2_add : Room := ({ frames := 0, cells := 0, slots := 0, locals := 0 } : Room)
def wp_X2_add (V : St) (K : St → Prop) (r : Nat) (n : Nat) (a1 : Int32) : Prop := if (nI n) ≤ (V r 2) then (K V) else (¬ (nI n) = 0 ∧ vp_in (((V r 1) + (V r 2)) - ((V r 1) + (V r 2)) / (nI n) * (nI n)) n ∧ ∀ V1 : St, V1 = up2 V (r + 1) (((V r 1) + (V r 2)) - ((V r 1) + (V r 2)) / (nI n) * (nI n)).toNatClampNeg a1 → ∀ V2 : St, V2 = up2 V1 r 2 ((V1 r 2) + (1 : Int32)) → K V2)
set_option maxRecDepth 100000 in
set_option maxHeartbeats 4000000 in
theorem c_X2_add {l : Launch} {D : va_G} {ad : Nat → Nat} {cy : Nat → ClassId} (hi : inj ad) {V : St} {K : St → Prop} {r : Nat} {n : Nat} {a1 : Int32} (hr : RowAt r n) : wp_X2_add V K r n a1 → Hv l D ad cy yX2_add (Cond.code yX2_add cX2_add 2 none :: WA) rm_X2_add [.ref (ad r), .int a1] V K := by
  refine H_v (w := wp_X2_add V K r n a1) (by decide) (Nat.le_of_ble_eq_true rfl) (List.forall_mem_cons.mpr ⟨rfl, (List.forall_mem_cons.mpr ⟨rfl, (fun _ h => absurd h List.not_mem_nil)⟩)⟩) hi ?_
  intro p e s m args below meth c A hC hrt hlk
  show G p l e rm_X2_add s m args below meth c 0 0 (MQ below (va_Qv K (Bq D ad cy) A) args s 0 0 A) 2 D ad cy A (wp_X2_add V K r n a1) V 0 [some (.ref (ad r)), some (.int a1)] []
  refine g_aload_n (pc := 0) hC dX2_add_0 rfl ?_
  refine g_getI (pc := 1) hC fl_X2_13 (RowAt.l0 hr) hr.2.1 rfl dX2_add_1 ?_
  refine g_aload_n (pc := 4) hC dX2_add_4 rfl ?_
  refine g_getR (pc := 5) hC fl_X2_7 (RowAt.l0 hr) hr.2.1 rfl dX2_add_5 ?_
  refine g_alen (pc := 8) hC (RowAt.l1 hr) hr.2.2 dX2_add_8 ?_
  refine g_icmp_ge (pc := 9) (tgt := 43) hC dX2_add_9 (by decide) ?_ ?_
  · exact g_vret (pc := 43) hC hrt hlk dX2_add_43
  · refine g_aload_n (pc := 12) hC dX2_add_12 rfl ?_
    refine g_getR (pc := 13) hC fl_X2_7 (RowAt.l0 hr) hr.2.1 rfl dX2_add_13 ?_
    refine g_aload_n (pc := 16) hC dX2_add_16 rfl ?_
    refine g_getI (pc := 17) hC fl_X2_17 (RowAt.l0 hr) hr.2.1 rfl dX2_add_17 ?_
    refine g_aload_n (pc := 20) hC dX2_add_20 rfl ?_
    refine g_getI (pc := 21) hC fl_X2_13 (RowAt.l0 hr) hr.2.1 rfl dX2_add_21 ?_
    refine g_iadd (pc := 24) hC dX2_add_24 ?_
    refine g_aload_n (pc := 25) hC dX2_add_25 rfl ?_
    refine g_getR (pc := 26) hC fl_X2_7 (RowAt.l0 hr) hr.2.1 rfl dX2_add_26 ?_
    refine g_alen (pc := 29) hC (RowAt.l1 hr) hr.2.2 dX2_add_29 ?_
    refine g_irem (pc := 30) hC dX2_add_30 ?_
    refine g_iload_n (pc := 31) hC dX2_add_31 rfl ?_
    refine g_iast (pc := 32) hC (RowAt.l1 hr) hr.2.2 dX2_add_32 (fun V1 => ?_)
    refine g_aload_n (pc := 33) hC dX2_add_33 rfl ?_
    refine g_dup (pc := 34) hC dX2_add_34 rfl ?_
    refine g_getI (pc := 35) hC fl_X2_13 (RowAt.l0 hr) hr.2.1 rfl dX2_add_35 ?_
    refine g_iconst (pc := 38) hC (1 : Int32) dX2_add_38 (by decide) ?_
    refine g_iadd (pc := 39) hC dX2_add_39 ?_
    refine g_putI (pc := 40) hC fp_X2_13 (RowAt.l0 hr) hr.2.1 rfl dX2_add_40 (fun V2 => ?_)
    exact g_vret (pc := 43) hC hrt hlk dX2_add_43
def rm_X2_first : Room := ({ frames := 0, cells := 0, slots := 0, locals := 0 } : Room)
def wp_X2_first (V : St) (K : Int32 → St → Prop) (r : Nat) (n : Nat) : Prop := vp_in (V r 1) n ∧ K (V (r + 1) (V r 1).toNatClampNeg) V
set_option maxRecDepth 100000 in
set_option maxHeartbeats 4000000 in
theorem c_X2_first {l : Launch} {D : va_G} {ad : Nat → Nat} {cy : Nat → ClassId} (hi : inj ad) {V : St} {K : Int32 → St → Prop} {r : Nat} {n : Nat} (hr : RowAt r n) : wp_X2_first V K r n → Hi l D ad cy yX2_first (Cond.code yX2_first cX2_first 1 (some .int) :: WA) rm_X2_first [.ref (ad r)] V K := by
  refine H_i (w := wp_X2_first V K r n) (by decide) (Nat.le_of_ble_eq_true rfl) (List.forall_mem_cons.mpr ⟨rfl, (fun _ h => absurd h List.not_mem_nil)⟩) hi ?_
  intro p e s m args below meth c A hC hrt hlk
  show G p l e rm_X2_first s m args below meth c 0 0 (MQ below (va_Qi K (Bq D ad cy) A) args s 0 0 A) 1 D ad cy A (wp_X2_first V K r n) V 0 [some (.ref (ad r))] []
  refine g_aload_n (pc := 0) hC dX2_first_0 rfl ?_
  refine g_getR (pc := 1) hC fl_X2_7 (RowAt.l0 hr) hr.2.1 rfl dX2_first_1 ?_
  refine g_aload_n (pc := 4) hC dX2_first_4 rfl ?_
  refine g_getI (pc := 5) hC fl_X2_17 (RowAt.l0 hr) hr.2.1 rfl dX2_first_5 ?_
  refine g_iald (pc := 8) hC (RowAt.l1 hr) hr.2.2 dX2_first_8 ?_
  exact g_iret (pc := 9) hC hrt hlk dX2_first_9
def rm_X2_removeFirst : Room := ({ frames := 0, cells := 0, slots := 0, locals := 0 } : Room)
def wp_X2_removeFirst (V : St) (K : St → Prop) (r : Nat) (n : Nat) : Prop := if (V r 2) ≤ 0 then (K V) else (¬ (nI n) = 0 ∧ ∀ V1 : St, V1 = up2 V r 1 (((V r 1) + (1 : Int32)) - ((V r 1) + (1 : Int32)) / (nI n) * (nI n)) → ∀ V2 : St, V2 = up2 V1 r 2 ((V1 r 2) - (1 : Int32)) → K V2)
set_option maxRecDepth 100000 in
set_option maxHeartbeats 4000000 in
theorem c_X2_removeFirst {l : Launch} {D : va_G} {ad : Nat → Nat} {cy : Nat → ClassId} (hi : inj ad) {V : St} {K : St → Prop} {r : Nat} {n : Nat} (hr : RowAt r n) : wp_X2_removeFirst V K r n → Hv l D ad cy yX2_removeFirst (Cond.code yX2_removeFirst cX2_removeFirst 1 none :: WA) rm_X2_removeFirst [.ref (ad r)] V K := by
  refine H_v (w := wp_X2_removeFirst V K r n) (by decide) (Nat.le_of_ble_eq_true rfl) (List.forall_mem_cons.mpr ⟨rfl, (fun _ h => absurd h List.not_mem_nil)⟩) hi ?_
  intro p e s m args below meth c A hC hrt hlk
  show G p l e rm_X2_removeFirst s m args below meth c 0 0 (MQ below (va_Qv K (Bq D ad cy) A) args s 0 0 A) 1 D ad cy A (wp_X2_removeFirst V K r n) V 0 [some (.ref (ad r))] []
  refine g_aload_n (pc := 0) hC dX2_removeFirst_0 rfl ?_
  refine g_getI (pc := 1) hC fl_X2_13 (RowAt.l0 hr) hr.2.1 rfl dX2_removeFirst_1 ?_
  refine g_if_le (pc := 4) (tgt := 33) hC dX2_removeFirst_4 (by decide) ?_ ?_
  · exact g_vret (pc := 33) hC hrt hlk dX2_removeFirst_33
  · refine g_aload_n (pc := 7) hC dX2_removeFirst_7 rfl ?_
    refine g_aload_n (pc := 8) hC dX2_removeFirst_8 rfl ?_
    refine g_getI (pc := 9) hC fl_X2_17 (RowAt.l0 hr) hr.2.1 rfl dX2_removeFirst_9 ?_
    refine g_iconst (pc := 12) hC (1 : Int32) dX2_removeFirst_12 (by decide) ?_
    refine g_iadd (pc := 13) hC dX2_removeFirst_13 ?_
    refine g_aload_n (pc := 14) hC dX2_removeFirst_14 rfl ?_
    refine g_getR (pc := 15) hC fl_X2_7 (RowAt.l0 hr) hr.2.1 rfl dX2_removeFirst_15 ?_
    refine g_alen (pc := 18) hC (RowAt.l1 hr) hr.2.2 dX2_removeFirst_18 ?_
    refine g_irem (pc := 19) hC dX2_removeFirst_19 ?_
    refine g_putI (pc := 20) hC fp_X2_17 (RowAt.l0 hr) hr.2.1 rfl dX2_removeFirst_20 (fun V1 => ?_)
    refine g_aload_n (pc := 23) hC dX2_removeFirst_23 rfl ?_
    refine g_dup (pc := 24) hC dX2_removeFirst_24 rfl ?_
    refine g_getI (pc := 25) hC fl_X2_13 (RowAt.l0 hr) hr.2.1 rfl dX2_removeFirst_25 ?_
    refine g_iconst (pc := 28) hC (1 : Int32) dX2_removeFirst_28 (by decide) ?_
    refine g_isub (pc := 29) hC dX2_removeFirst_29 ?_
    refine g_putI (pc := 30) hC fp_X2_13 (RowAt.l0 hr) hr.2.1 rfl dX2_removeFirst_30 (fun V2 => ?_)
    exact g_vret (pc := 33) hC hrt hlk dX2_removeFirst_33
def rm_X3_tell : Room := ({ frames := 0, cells := 0, slots := 0, locals := 0 } : Room)
def wp_X3_tell (V : St) (K : St → Prop) (b : Nat) (a1 : Int32) (a2 : Int32) (a3 : Int32) (a4 : Int32) (a5 : Int32) (a6 : Int32) : Prop := ((1 : Int32) = 0 ∨ (1 : Int32) = 1) ∧ ∀ V1 : St, V1 = up2 V b 3 (1 : Int32) → ∀ V2 : St, V2 = up2 V1 b 4 a1 → ∀ V3 : St, V3 = up2 V2 b 5 a2 → ∀ V4 : St, V4 = up2 V3 b 6 a3 → ∀ V5 : St, V5 = up2 V4 b 7 a4 → ∀ V6 : St, V6 = up2 V5 b 8 a5 → ∀ V7 : St, V7 = up2 V6 b 9 a6 → K V7
set_option maxRecDepth 100000 in
set_option maxHeartbeats 4000000 in
theorem c_X3_tell {l : Launch} {D : va_G} {ad : Nat → Nat} {cy : Nat → ClassId} (hi : inj ad) {V : St} {K : St → Prop} {b : Nat} {a1 : Int32} {a2 : Int32} {a3 : Int32} {a4 : Int32} {a5 : Int32} {a6 : Int32} (hb : SrcAt b) : wp_X3_tell V K b a1 a2 a3 a4 a5 a6 → Hv l D ad cy yX3_tell (Cond.code yX3_tell cX3_tell 7 none :: WA) rm_X3_tell [.ref (ad b), .int a1, .int a2, .int a3, .int a4, .int a5, .int a6] V K := by
  refine H_v (w := wp_X3_tell V K b a1 a2 a3 a4 a5 a6) (by decide) (Nat.le_of_ble_eq_true rfl) (List.forall_mem_cons.mpr ⟨rfl, (List.forall_mem_cons.mpr ⟨rfl, (List.forall_mem_cons.mpr ⟨rfl, (List.forall_mem_cons.mpr ⟨rfl, (List.forall_mem_cons.mpr ⟨rfl, (List.forall_mem_cons.mpr ⟨rfl, (List.forall_mem_cons.mpr ⟨rfl, (fun _ h => absurd h List.not_mem_nil)⟩)⟩)⟩)⟩)⟩)⟩)⟩) hi ?_
  intro p e s m args below meth c A hC hrt hlk
  show G p l e rm_X3_tell s m args below meth c 0 0 (MQ below (va_Qv K (Bq D ad cy) A) args s 0 0 A) 7 D ad cy A (wp_X3_tell V K b a1 a2 a3 a4 a5 a6) V 0 [some (.ref (ad b)), some (.int a1), some (.int a2), some (.int a3), some (.int a4), some (.int a5), some (.int a6)] []
  refine g_aload_n (pc := 0) hC dX3_tell_0 rfl ?_
  refine g_iconst (pc := 1) hC (1 : Int32) dX3_tell_1 (by decide) ?_
  refine g_putZ (pc := 2) hC fp_X3_30 (SrcAt.l0 hb) hb.2.1 rfl dX3_tell_2 (fun V1 => ?_)
  refine g_aload_n (pc := 5) hC dX3_tell_5 rfl ?_
  refine g_iload_n (pc := 6) hC dX3_tell_6 rfl ?_
  refine g_putI (pc := 7) hC fp_X3_34 (SrcAt.l0 hb) hb.2.1 rfl dX3_tell_7 (fun V2 => ?_)
  refine g_aload_n (pc := 10) hC dX3_tell_10 rfl ?_
  refine g_iload_n (pc := 11) hC dX3_tell_11 rfl ?_
  refine g_putI (pc := 12) hC fp_X3_38 (SrcAt.l0 hb) hb.2.1 rfl dX3_tell_12 (fun V3 => ?_)
  refine g_aload_n (pc := 15) hC dX3_tell_15 rfl ?_
  refine g_iload_n (pc := 16) hC dX3_tell_16 rfl ?_
  refine g_putI (pc := 17) hC fp_X3_41 (SrcAt.l0 hb) hb.2.1 rfl dX3_tell_17 (fun V4 => ?_)
  refine g_aload_n (pc := 20) hC dX3_tell_20 rfl ?_
  refine g_iload (pc := 21) hC dX3_tell_21 rfl ?_
  refine g_putI (pc := 23) hC fp_X3_44 (SrcAt.l0 hb) hb.2.1 rfl dX3_tell_23 (fun V5 => ?_)
  refine g_aload_n (pc := 26) hC dX3_tell_26 rfl ?_
  refine g_iload (pc := 27) hC dX3_tell_27 rfl ?_
  refine g_putI (pc := 29) hC fp_X3_47 (SrcAt.l0 hb) hb.2.1 rfl dX3_tell_29 (fun V6 => ?_)
  refine g_aload_n (pc := 32) hC dX3_tell_32 rfl ?_
  refine g_iload (pc := 33) hC dX3_tell_33 rfl ?_
  refine g_putI (pc := 35) hC fp_X3_50 (SrcAt.l0 hb) hb.2.1 rfl dX3_tell_35 (fun V7 => ?_)
  exact g_vret (pc := 38) hC hrt hlk dX3_tell_38
def rm_X3_fillBudget : Room := ({ frames := 1, cells := 0, slots := 0, locals := 21 } : Room)
def h_X3_fillBudget_2 (K : St → Prop) (b : Nat) (rec_2 : St → Int32 → Prop) (V : St) (l1 : Int32) : Prop := if (V b 7) ≤ l1 then (K V) else (wp_X2_add V (fun (V1 : St) => rec_2 V1 (l1 + 1)) (b + 3) 30 (0 : Int32))
def wp_X3_fillBudget (V : St) (K : St → Prop) (b : Nat) : Prop := ∃ n, lp (fun _ _ => False) (h_X3_fillBudget_2 K b) n V (0 : Int32)
set_option maxRecDepth 100000 in
set_option maxHeartbeats 4000000 in
theorem c_X3_fillBudget {l : Launch} {D : va_G} {ad : Nat → Nat} {cy : Nat → ClassId} (hi : inj ad) {V : St} {K : St → Prop} {b : Nat} (hb : SrcAt b) : wp_X3_fillBudget V K b → Hv l D ad cy yX3_fillBudget (Cond.code yX3_fillBudget cX3_fillBudget 2 none :: WA) rm_X3_fillBudget [.ref (ad b)] V K := by
  refine H_v (w := wp_X3_fillBudget V K b) (by decide) (Nat.le_of_ble_eq_true rfl) (List.forall_mem_cons.mpr ⟨rfl, (fun _ h => absurd h List.not_mem_nil)⟩) hi ?_
  intro p e s m args below meth c A hC hrt hlk
  have J_2 : ∀ (n : Nat), ∀ (V : St) (l1 : Int32), G p l e rm_X3_fillBudget s m args below meth c 0 0 (MQ below (va_Qv K (Bq D ad cy) A) args s 0 0 A) 2 D ad cy A (lp (fun _ _ => False) (h_X3_fillBudget_2 K b) n V l1) V 2 [some (.ref (ad b)), some (.int l1)] [] := by
    intro n
    induction n with
    | zero => exact fun _ _ h => False.elim h
    | succ n IH =>
      generalize hrec : lp (fun _ _ => False) (h_X3_fillBudget_2 K b) n = rec_2 at IH
      have ih_2 := IH
      intro V l1 
      show G p l e rm_X3_fillBudget s m args below meth c 0 0 (MQ below (va_Qv K (Bq D ad cy) A) args s 0 0 A) 2 D ad cy A (h_X3_fillBudget_2 K b (lp (fun _ _ => False) (h_X3_fillBudget_2 K b) n) V l1) V 2 [some (.ref (ad b)), some (.int l1)] []
      rw [hrec]
      refine g_iload_n (pc := 2) hC dX3_fillBudget_2 rfl ?_
      refine g_aload_n (pc := 3) hC dX3_fillBudget_3 rfl ?_
      refine g_getI (pc := 4) hC fl_X3_44 (SrcAt.l0 hb) hb.2.1 rfl dX3_fillBudget_4 ?_
      refine g_icmp_ge (pc := 7) (tgt := 24) hC dX3_fillBudget_7 (by decide) ?_ ?_
      · exact g_vret (pc := 24) hC hrt hlk dX3_fillBudget_24
      · refine g_aload_n (pc := 10) hC dX3_fillBudget_10 rfl ?_
        refine g_getR (pc := 11) hC fl_X3_20 (SrcAt.l0 hb) hb.2.1 rfl dX3_fillBudget_11 ?_
        refine g_iconst (pc := 14) hC (0 : Int32) dX3_fillBudget_14 (by decide) ?_
        refine g_cvv (pc := 15) hC (c_X2_add hC.2.2.2.1 hb.2.2.2.1) mi_X2_add ww_319 ⟨rfl, rfl⟩ ⟨by decide, by decide⟩ (RowAt.l0 hb.2.2.2.1) hb.2.2.2.1.2.1 rfl rfl rfl (Nat.le_of_ble_eq_true rfl) ⟨Nat.le_of_ble_eq_true rfl, Nat.le_of_ble_eq_true rfl⟩ dX3_fillBudget_15 (fun V1 => ?_)
        refine g_iinc (pc := 18) (L2 := [some (.ref (ad b)), some (.int (l1 + 1))]) hC (l1 + 1) dX3_fillBudget_18 rfl rfl (by decide) rfl ?_
        refine g_goto (pc := 21) (tgt := 2) hC dX3_fillBudget_21 (by decide) ?_
        exact ih_2 V1 (l1 + 1)
  show G p l e rm_X3_fillBudget s m args below meth c 0 0 (MQ below (va_Qv K (Bq D ad cy) A) args s 0 0 A) 2 D ad cy A (wp_X3_fillBudget V K b) V 0 [some (.ref (ad b)), none] []
  refine g_iconst (pc := 0) hC (0 : Int32) dX3_fillBudget_0 (by decide) ?_
  refine g_istore_n (pc := 1) (L2 := [some (.ref (ad b)), some (.int (0 : Int32))]) hC dX3_fillBudget_1 (by decide) rfl ?_
  exact g_ex (fun n => J_2  n V (0 : Int32))
def rm_X3_take : Room := ({ frames := 1, cells := 0, slots := 0, locals := 21 } : Room)
def b_X3_take_19 (K : Int32 → St → Prop) (b : Nat) (a1 : Int32) (V : St) : Prop := ∀ V1 : St, V1 = up2 V b 13 ((V b 13) + (1 : Int32)) → K (0 : Int32) V1
def b_X3_take_46 (K : Int32 → St → Prop) (b : Nat) (a1 : Int32) (V : St) : Prop := wp_X2_add V (fun (V1 : St) => ∀ V2 : St, V2 = up2 V1 b 11 ((V1 b 11) + (1 : Int32)) → if (V2 (b + 1) 2) ≤ (24 : Int32) then (K (1 : Int32) V2) else (((1 : Int32) = 0 ∨ (1 : Int32) = 1) ∧ ∀ V3 : St, V3 = up2 V2 b 10 (1 : Int32) → ∀ V4 : St, V4 = up2 V3 b 14 ((V3 b 14) + (1 : Int32)) → K (1 : Int32) V4)) (b + 1) 32 a1
def wp_X3_take (V : St) (K : Int32 → St → Prop) (b : Nat) (a1 : Int32) : Prop := if (V b 10) = 0 then (if (V (b + 1) 2) < (32 : Int32) then (if (V (b + 1) 2) = 0 then (∀ V1 : St, V1 = up2 V b 17 a1 → b_X3_take_46 K b a1 V1) else (b_X3_take_46 K b a1 V)) else (b_X3_take_19 K b a1 V)) else (b_X3_take_19 K b a1 V)
set_option maxRecDepth 100000 in
set_option maxHeartbeats 4000000 in
theorem c_X3_take {l : Launch} {D : va_G} {ad : Nat → Nat} {cy : Nat → ClassId} (hi : inj ad) {V : St} {K : Int32 → St → Prop} {b : Nat} {a1 : Int32} (hb : SrcAt b) : wp_X3_take V K b a1 → Hi l D ad cy yX3_take (Cond.code yX3_take cX3_take 2 (some .boolean) :: WA) rm_X3_take [.ref (ad b), .int a1] V K := by
  refine H_i (w := wp_X3_take V K b a1) (by decide) (Nat.le_of_ble_eq_true rfl) (List.forall_mem_cons.mpr ⟨rfl, (List.forall_mem_cons.mpr ⟨rfl, (fun _ h => absurd h List.not_mem_nil)⟩)⟩) hi ?_
  intro p e s m args below meth c A hC hrt hlk
  have J_19 : ∀ (V : St), G p l e rm_X3_take s m args below meth c 0 0 (MQ below (va_Qi K (Bq D ad cy) A) args s 0 0 A) 2 D ad cy A (b_X3_take_19 K b a1 V) V 19 [some (.ref (ad b)), none] [] := by
    intro  V 
    refine g_aload_n (pc := 19) hC dX3_take_19 rfl ?_
    refine g_dup (pc := 20) hC dX3_take_20 rfl ?_
    refine g_getI (pc := 21) hC fl_X3_62 (SrcAt.l0 hb) hb.2.1 rfl dX3_take_21 ?_
    refine g_iconst (pc := 24) hC (1 : Int32) dX3_take_24 (by decide) ?_
    refine g_iadd (pc := 25) hC dX3_take_25 ?_
    refine g_putI (pc := 26) hC fp_X3_62 (SrcAt.l0 hb) hb.2.1 rfl dX3_take_26 (fun V1 => ?_)
    refine g_iconst (pc := 29) hC (0 : Int32) dX3_take_29 (by decide) ?_
    exact g_zret0 (pc := 30) hC hrt hlk dX3_take_30 (by decide)
  have J_46 : ∀ (V : St), G p l e rm_X3_take s m args below meth c 0 0 (MQ below (va_Qi K (Bq D ad cy) A) args s 0 0 A) 2 D ad cy A (b_X3_take_46 K b a1 V) V 46 [some (.ref (ad b)), some (.int a1)] [] := by
    intro  V 
    refine g_aload_n (pc := 46) hC dX3_take_46 rfl ?_
    refine g_getR (pc := 47) hC fl_X3_14 (SrcAt.l0 hb) hb.2.1 rfl dX3_take_47 ?_
    refine g_iload_n (pc := 50) hC dX3_take_50 rfl ?_
    refine g_cvv (pc := 51) hC (c_X2_add hC.2.2.2.1 hb.2.2.1) mi_X2_add ww_319 ⟨rfl, rfl⟩ ⟨by decide, by decide⟩ (RowAt.l0 hb.2.2.1) hb.2.2.1.2.1 rfl rfl rfl (Nat.le_of_ble_eq_true rfl) ⟨Nat.le_of_ble_eq_true rfl, Nat.le_of_ble_eq_true rfl⟩ dX3_take_51 (fun V1 => ?_)
    refine g_aload_n (pc := 54) hC dX3_take_54 rfl ?_
    refine g_dup (pc := 55) hC dX3_take_55 rfl ?_
    refine g_getI (pc := 56) hC fl_X3_68 (SrcAt.l0 hb) hb.2.1 rfl dX3_take_56 ?_
    refine g_iconst (pc := 59) hC (1 : Int32) dX3_take_59 (by decide) ?_
    refine g_iadd (pc := 60) hC dX3_take_60 ?_
    refine g_putI (pc := 61) hC fp_X3_68 (SrcAt.l0 hb) hb.2.1 rfl dX3_take_61 (fun V2 => ?_)
    refine g_aload_n (pc := 64) hC dX3_take_64 rfl ?_
    refine g_getR (pc := 65) hC fl_X3_14 (SrcAt.l0 hb) hb.2.1 rfl dX3_take_65 ?_
    refine g_getI (pc := 68) hC fl_X3_59 (RowAt.l0 hb.2.2.1) hb.2.2.1.2.1 rfl dX3_take_68 ?_
    refine g_bipush (pc := 71) hC (24 : Int32) dX3_take_71 (by decide) ?_
    refine g_icmp_le (pc := 73) (tgt := 91) hC dX3_take_73 (by decide) ?_ ?_
    · refine g_iconst (pc := 91) hC (1 : Int32) dX3_take_91 (by decide) ?_
      exact g_zret0 (pc := 92) hC hrt hlk dX3_take_92 (by decide)
    · refine g_aload_n (pc := 76) hC dX3_take_76 rfl ?_
      refine g_iconst (pc := 77) hC (1 : Int32) dX3_take_77 (by decide) ?_
      refine g_putZ (pc := 78) hC fp_X3_56 (SrcAt.l0 hb) hb.2.1 rfl dX3_take_78 (fun V3 => ?_)
      refine g_aload_n (pc := 81) hC dX3_take_81 rfl ?_
      refine g_dup (pc := 82) hC dX3_take_82 rfl ?_
      refine g_getI (pc := 83) hC fl_X3_71 (SrcAt.l0 hb) hb.2.1 rfl dX3_take_83 ?_
      refine g_iconst (pc := 86) hC (1 : Int32) dX3_take_86 (by decide) ?_
      refine g_iadd (pc := 87) hC dX3_take_87 ?_
      refine g_putI (pc := 88) hC fp_X3_71 (SrcAt.l0 hb) hb.2.1 rfl dX3_take_88 (fun V4 => ?_)
      refine g_iconst (pc := 91) hC (1 : Int32) dX3_take_91 (by decide) ?_
      exact g_zret0 (pc := 92) hC hrt hlk dX3_take_92 (by decide)
  show G p l e rm_X3_take s m args below meth c 0 0 (MQ below (va_Qi K (Bq D ad cy) A) args s 0 0 A) 2 D ad cy A (wp_X3_take V K b a1) V 0 [some (.ref (ad b)), some (.int a1)] []
  refine g_aload_n (pc := 0) hC dX3_take_0 rfl ?_
  refine g_getI (pc := 1) hC fl_X3_56 (SrcAt.l0 hb) hb.2.1 rfl dX3_take_1 ?_
  refine g_if_ne (pc := 4) (tgt := 19) hC dX3_take_4 (by decide) ?_ ?_
  · exact g_ms [true, false] (J_19  V)
  · refine g_aload_n (pc := 7) hC dX3_take_7 rfl ?_
    refine g_getR (pc := 8) hC fl_X3_14 (SrcAt.l0 hb) hb.2.1 rfl dX3_take_8 ?_
    refine g_getI (pc := 11) hC fl_X3_59 (RowAt.l0 hb.2.2.1) hb.2.2.1.2.1 rfl dX3_take_11 ?_
    refine g_bipush (pc := 14) hC (32 : Int32) dX3_take_14 (by decide) ?_
    refine g_icmp_lt (pc := 16) (tgt := 31) hC dX3_take_16 (by decide) ?_ ?_
    · refine g_aload_n (pc := 31) hC dX3_take_31 rfl ?_
      refine g_getR (pc := 32) hC fl_X3_14 (SrcAt.l0 hb) hb.2.1 rfl dX3_take_32 ?_
      refine g_getI (pc := 35) hC fl_X3_59 (RowAt.l0 hb.2.2.1) hb.2.2.1.2.1 rfl dX3_take_35 ?_
      refine g_if_ne (pc := 38) (tgt := 46) hC dX3_take_38 (by decide) ?_ ?_
      · exact J_46  V
      · refine g_aload_n (pc := 41) hC dX3_take_41 rfl ?_
        refine g_iload_n (pc := 42) hC dX3_take_42 rfl ?_
        refine g_putI (pc := 43) hC fp_X3_65 (SrcAt.l0 hb) hb.2.1 rfl dX3_take_43 (fun V1 => ?_)
        exact J_46  V1
    · exact g_ms [true, false] (J_19  V)
def rm_X3_ready : Room := ({ frames := 0, cells := 0, slots := 0, locals := 0 } : Room)
def wp_X3_ready (V : St) (K : Int32 → St → Prop) (b : Nat) : Prop := if (V (b + 1) 2) ≤ 0 then (K (0 : Int32) V) else (if (V (b + 3) 2) ≤ 0 then (K (0 : Int32) V) else (K (1 : Int32) V))
set_option maxRecDepth 100000 in
set_option maxHeartbeats 4000000 in
theorem c_X3_ready {l : Launch} {D : va_G} {ad : Nat → Nat} {cy : Nat → ClassId} (hi : inj ad) {V : St} {K : Int32 → St → Prop} {b : Nat} (hb : SrcAt b) : wp_X3_ready V K b → Hi l D ad cy yX3_ready (Cond.code yX3_ready cX3_ready 1 (some .boolean) :: WA) rm_X3_ready [.ref (ad b)] V K := by
  refine H_i (w := wp_X3_ready V K b) (by decide) (Nat.le_of_ble_eq_true rfl) (List.forall_mem_cons.mpr ⟨rfl, (fun _ h => absurd h List.not_mem_nil)⟩) hi ?_
  intro p e s m args below meth c A hC hrt hlk
  show G p l e rm_X3_ready s m args below meth c 0 0 (MQ below (va_Qi K (Bq D ad cy) A) args s 0 0 A) 1 D ad cy A (wp_X3_ready V K b) V 0 [some (.ref (ad b))] []
  refine g_aload_n (pc := 0) hC dX3_ready_0 rfl ?_
  refine g_getR (pc := 1) hC fl_X3_14 (SrcAt.l0 hb) hb.2.1 rfl dX3_ready_1 ?_
  refine g_getI (pc := 4) hC fl_X3_59 (RowAt.l0 hb.2.2.1) hb.2.2.1.2.1 rfl dX3_ready_4 ?_
  refine g_if_le (pc := 7) (tgt := 24) hC dX3_ready_7 (by decide) ?_ ?_
  · refine g_iconst (pc := 24) hC (0 : Int32) dX3_ready_24 (by decide) ?_
    exact g_zret0 (pc := 25) hC hrt hlk dX3_ready_25 (by decide)
  · refine g_aload_n (pc := 10) hC dX3_ready_10 rfl ?_
    refine g_getR (pc := 11) hC fl_X3_20 (SrcAt.l0 hb) hb.2.1 rfl dX3_ready_11 ?_
    refine g_getI (pc := 14) hC fl_X3_59 (RowAt.l0 hb.2.2.2.1) hb.2.2.2.1.2.1 rfl dX3_ready_14 ?_
    refine g_if_le (pc := 17) (tgt := 24) hC dX3_ready_17 (by decide) ?_ ?_
    · refine g_iconst (pc := 24) hC (0 : Int32) dX3_ready_24 (by decide) ?_
      exact g_zret0 (pc := 25) hC hrt hlk dX3_ready_25 (by decide)
    · refine g_iconst (pc := 20) hC (1 : Int32) dX3_ready_20 (by decide) ?_
      refine g_goto (pc := 21) (tgt := 25) hC dX3_ready_21 (by decide) ?_
      exact g_zret0 (pc := 25) hC hrt hlk dX3_ready_25 (by decide)
def rm_X3_spendUnit : Room := ({ frames := 2, cells := 0, slots := 0, locals := 43 } : Room)
def b_X3_spendUnit_27 (K : St → Prop) (b : Nat) (a1 : Int32) (V : St) (l2 : Int32) : Prop := wp_X2_removeFirst V (fun (V1 : St) => wp_X1_add V1 (fun (V2 : St) => K V2) (b + 5) (l2 + (V1 b 8))) (b + 3) 30
def wp_X3_spendUnit (V : St) (K : St → Prop) (b : Nat) (a1 : Int32) : Prop := wp_X2_first V (fun (r1 : Int32) (V2 : St) => ∀ x3 : Int32, x3 = (if r1 < (V2 b 17) then (V2 b 17) else r1) → if (a1 - x3) < (V2 b 8) then (b_X3_spendUnit_27 K b a1 V2 x3) else (b_X3_spendUnit_27 K b a1 V2 a1)) (b + 3) 30
set_option maxRecDepth 100000 in
set_option maxHeartbeats 4000000 in
theorem c_X3_spendUnit {l : Launch} {D : va_G} {ad : Nat → Nat} {cy : Nat → ClassId} (hi : inj ad) {V : St} {K : St → Prop} {b : Nat} {a1 : Int32} (hb : SrcAt b) : wp_X3_spendUnit V K b a1 → Hv l D ad cy yX3_spendUnit (Cond.code yX3_spendUnit cX3_spendUnit 3 none :: WA) rm_X3_spendUnit [.ref (ad b), .int a1] V K := by
  refine H_v (w := wp_X3_spendUnit V K b a1) (by decide) (Nat.le_of_ble_eq_true rfl) (List.forall_mem_cons.mpr ⟨rfl, (List.forall_mem_cons.mpr ⟨rfl, (fun _ h => absurd h List.not_mem_nil)⟩)⟩) hi ?_
  intro p e s m args below meth c A hC hrt hlk
  have J_27 : ∀ (V : St) (l2 : Int32), G p l e rm_X3_spendUnit s m args below meth c 0 0 (MQ below (va_Qv K (Bq D ad cy) A) args s 0 0 A) 3 D ad cy A (b_X3_spendUnit_27 K b a1 V l2) V 27 [some (.ref (ad b)), none, some (.int l2)] [] := by
    intro  V l2 
    refine g_aload_n (pc := 27) hC dX3_spendUnit_27 rfl ?_
    refine g_getR (pc := 28) hC fl_X3_20 (SrcAt.l0 hb) hb.2.1 rfl dX3_spendUnit_28 ?_
    refine g_cvv (pc := 31) hC (c_X2_removeFirst hC.2.2.2.1 hb.2.2.2.1) mi_X2_removeFirst ww_286 ⟨rfl, rfl⟩ ⟨by decide, by decide⟩ (RowAt.l0 hb.2.2.2.1) hb.2.2.2.1.2.1 rfl rfl rfl (Nat.le_of_ble_eq_true rfl) ⟨Nat.le_of_ble_eq_true rfl, Nat.le_of_ble_eq_true rfl⟩ dX3_spendUnit_31 (fun V1 => ?_)
    refine g_aload_n (pc := 34) hC dX3_spendUnit_34 rfl ?_
    refine g_getR (pc := 35) hC fl_X3_26 (SrcAt.l0 hb) hb.2.1 rfl dX3_spendUnit_35 ?_
    refine g_iload_n (pc := 38) hC dX3_spendUnit_38 rfl ?_
    refine g_aload_n (pc := 39) hC dX3_spendUnit_39 rfl ?_
    refine g_getI (pc := 40) hC fl_X3_47 (SrcAt.l0 hb) hb.2.1 rfl dX3_spendUnit_40 ?_
    refine g_iadd (pc := 43) hC dX3_spendUnit_43 ?_
    refine g_cvv (pc := 44) hC (c_X1_add hC.2.2.2.1 hb.2.2.2.2) mi_X1_add ww_287 ⟨rfl, rfl⟩ ⟨by decide, by decide⟩ (PcsAt.l0 hb.2.2.2.2) hb.2.2.2.2.2.1 rfl rfl rfl (Nat.le_of_ble_eq_true rfl) ⟨Nat.le_of_ble_eq_true rfl, Nat.le_of_ble_eq_true rfl⟩ dX3_spendUnit_44 (fun V2 => ?_)
    exact g_vret (pc := 47) hC hrt hlk dX3_spendUnit_47
  show G p l e rm_X3_spendUnit s m args below meth c 0 0 (MQ below (va_Qv K (Bq D ad cy) A) args s 0 0 A) 3 D ad cy A (wp_X3_spendUnit V K b a1) V 0 [some (.ref (ad b)), some (.int a1), none] []
  refine g_aload_n (pc := 0) hC dX3_spendUnit_0 rfl ?_
  refine g_getR (pc := 1) hC fl_X3_20 (SrcAt.l0 hb) hb.2.1 rfl dX3_spendUnit_1 ?_
  refine g_cvi (pc := 4) hC (c_X2_first hC.2.2.2.1 hb.2.2.2.1) mi_X2_first ww_282 ⟨rfl, rfl⟩ ⟨by decide, by decide⟩ (RowAt.l0 hb.2.2.2.1) hb.2.2.2.1.2.1 rfl rfl rfl (Nat.le_of_ble_eq_true rfl) ⟨Nat.le_of_ble_eq_true rfl, Nat.le_of_ble_eq_true rfl⟩ dX3_spendUnit_4 (fun r1 V2 => ?_)
  refine g_aload_n (pc := 7) hC dX3_spendUnit_7 rfl ?_
  refine g_getI (pc := 8) hC fl_X3_65 (SrcAt.l0 hb) hb.2.1 rfl dX3_spendUnit_8 ?_
  refine g_max (pc := 11) hC ww_283 ww_284 ww_51 ww_285 (by decide) (Nat.le_of_ble_eq_true rfl) (by decide) (by decide) dX3_spendUnit_11 ?_
  refine g_nm (fun x3 => ?_)
  refine g_istore_n (pc := 14) (L2 := [some (.ref (ad b)), some (.int a1), some (.int x3)]) hC dX3_spendUnit_14 (by decide) rfl ?_
  refine g_iload_n (pc := 15) hC dX3_spendUnit_15 rfl ?_
  refine g_iload_n (pc := 16) hC dX3_spendUnit_16 rfl ?_
  refine g_isub (pc := 17) hC dX3_spendUnit_17 ?_
  refine g_aload_n (pc := 18) hC dX3_spendUnit_18 rfl ?_
  refine g_getI (pc := 19) hC fl_X3_47 (SrcAt.l0 hb) hb.2.1 rfl dX3_spendUnit_19 ?_
  refine g_icmp_lt (pc := 22) (tgt := 27) hC dX3_spendUnit_22 (by decide) ?_ ?_
  · exact g_ms [true, false, true] (J_27  V2 x3)
  · refine g_iload_n (pc := 25) hC dX3_spendUnit_25 rfl ?_
    refine g_istore_n (pc := 26) (L2 := [some (.ref (ad b)), some (.int a1), some (.int a1)]) hC dX3_spendUnit_26 (by decide) rfl ?_
    exact g_ms [true, false, true] (J_27  V2 a1)
def rm_X3_finishFirst : Room := ({ frames := 1, cells := 0, slots := 0, locals := 21 } : Room)
def wp_X3_finishFirst (V : St) (K : St → Prop) (b : Nat) (a1 : Int32) : Prop := wp_X2_first V (fun (r1 : Int32) (V2 : St) => ∀ V3 : St, V3 = up2 V2 b 15 (if (V b 15) < (a1 - r1) then (a1 - r1) else (V b 15)) → wp_X2_removeFirst V3 (fun (V4 : St) => ∀ V5 : St, V5 = up2 V4 b 16 (0 : Int32) → ∀ V6 : St, V6 = up2 V5 b 12 ((V5 b 12) + (1 : Int32)) → if (8 : Int32) < (V6 (b + 1) 2) then (K V6) else (((0 : Int32) = 0 ∨ (0 : Int32) = 1) ∧ ∀ V7 : St, V7 = up2 V6 b 10 (0 : Int32) → K V7)) (b + 1) 32) (b + 1) 32
set_option maxRecDepth 100000 in
set_option maxHeartbeats 4000000 in
theorem c_X3_finishFirst {l : Launch} {D : va_G} {ad : Nat → Nat} {cy : Nat → ClassId} (hi : inj ad) {V : St} {K : St → Prop} {b : Nat} {a1 : Int32} (hb : SrcAt b) : wp_X3_finishFirst V K b a1 → Hv l D ad cy yX3_finishFirst (Cond.code yX3_finishFirst cX3_finishFirst 2 none :: WA) rm_X3_finishFirst [.ref (ad b), .int a1] V K := by
  refine H_v (w := wp_X3_finishFirst V K b a1) (by decide) (Nat.le_of_ble_eq_true rfl) (List.forall_mem_cons.mpr ⟨rfl, (List.forall_mem_cons.mpr ⟨rfl, (fun _ h => absurd h List.not_mem_nil)⟩)⟩) hi ?_
  intro p e s m args below meth c A hC hrt hlk
  show G p l e rm_X3_finishFirst s m args below meth c 0 0 (MQ below (va_Qv K (Bq D ad cy) A) args s 0 0 A) 2 D ad cy A (wp_X3_finishFirst V K b a1) V 0 [some (.ref (ad b)), some (.int a1)] []
  refine g_aload_n (pc := 0) hC dX3_finishFirst_0 rfl ?_
  refine g_aload_n (pc := 1) hC dX3_finishFirst_1 rfl ?_
  refine g_getI (pc := 2) hC fl_X3_97 (SrcAt.l0 hb) hb.2.1 rfl dX3_finishFirst_2 ?_
  refine g_iload_n (pc := 5) hC dX3_finishFirst_5 rfl ?_
  refine g_aload_n (pc := 6) hC dX3_finishFirst_6 rfl ?_
  refine g_getR (pc := 7) hC fl_X3_14 (SrcAt.l0 hb) hb.2.1 rfl dX3_finishFirst_7 ?_
  refine g_cvi (pc := 10) hC (c_X2_first hC.2.2.2.1 hb.2.2.1) mi_X2_first ww_282 ⟨rfl, rfl⟩ ⟨by decide, by decide⟩ (RowAt.l0 hb.2.2.1) hb.2.2.1.2.1 rfl rfl rfl (Nat.le_of_ble_eq_true rfl) ⟨Nat.le_of_ble_eq_true rfl, Nat.le_of_ble_eq_true rfl⟩ dX3_finishFirst_10 (fun r1 V2 => ?_)
  refine g_isub (pc := 13) hC dX3_finishFirst_13 ?_
  refine g_max (pc := 14) hC ww_283 ww_284 ww_51 ww_285 (by decide) (Nat.le_of_ble_eq_true rfl) (by decide) (by decide) dX3_finishFirst_14 ?_
  refine g_putI (pc := 17) hC fp_X3_97 (SrcAt.l0 hb) hb.2.1 rfl dX3_finishFirst_17 (fun V3 => ?_)
  refine g_aload_n (pc := 20) hC dX3_finishFirst_20 rfl ?_
  refine g_getR (pc := 21) hC fl_X3_14 (SrcAt.l0 hb) hb.2.1 rfl dX3_finishFirst_21 ?_
  refine g_cvv (pc := 24) hC (c_X2_removeFirst hC.2.2.2.1 hb.2.2.1) mi_X2_removeFirst ww_286 ⟨rfl, rfl⟩ ⟨by decide, by decide⟩ (RowAt.l0 hb.2.2.1) hb.2.2.1.2.1 rfl rfl rfl (Nat.le_of_ble_eq_true rfl) ⟨Nat.le_of_ble_eq_true rfl, Nat.le_of_ble_eq_true rfl⟩ dX3_finishFirst_24 (fun V4 => ?_)
  refine g_aload_n (pc := 27) hC dX3_finishFirst_27 rfl ?_
  refine g_iconst (pc := 28) hC (0 : Int32) dX3_finishFirst_28 (by decide) ?_
  refine g_putI (pc := 29) hC fp_X3_77 (SrcAt.l0 hb) hb.2.1 rfl dX3_finishFirst_29 (fun V5 => ?_)
  refine g_aload_n (pc := 32) hC dX3_finishFirst_32 rfl ?_
  refine g_dup (pc := 33) hC dX3_finishFirst_33 rfl ?_
  refine g_getI (pc := 34) hC fl_X3_100 (SrcAt.l0 hb) hb.2.1 rfl dX3_finishFirst_34 ?_
  refine g_iconst (pc := 37) hC (1 : Int32) dX3_finishFirst_37 (by decide) ?_
  refine g_iadd (pc := 38) hC dX3_finishFirst_38 ?_
  refine g_putI (pc := 39) hC fp_X3_100 (SrcAt.l0 hb) hb.2.1 rfl dX3_finishFirst_39 (fun V6 => ?_)
  refine g_aload_n (pc := 42) hC dX3_finishFirst_42 rfl ?_
  refine g_getR (pc := 43) hC fl_X3_14 (SrcAt.l0 hb) hb.2.1 rfl dX3_finishFirst_43 ?_
  refine g_getI (pc := 46) hC fl_X3_59 (RowAt.l0 hb.2.2.1) hb.2.2.1.2.1 rfl dX3_finishFirst_46 ?_
  refine g_bipush (pc := 49) hC (8 : Int32) dX3_finishFirst_49 (by decide) ?_
  refine g_icmp_gt (pc := 51) (tgt := 59) hC dX3_finishFirst_51 (by decide) ?_ ?_
  · exact g_vret (pc := 59) hC hrt hlk dX3_finishFirst_59
  · refine g_aload_n (pc := 54) hC dX3_finishFirst_54 rfl ?_
    refine g_iconst (pc := 55) hC (0 : Int32) dX3_finishFirst_55 (by decide) ?_
    refine g_putZ (pc := 56) hC fp_X3_56 (SrcAt.l0 hb) hb.2.1 rfl dX3_finishFirst_56 (fun V7 => ?_)
    exact g_vret (pc := 59) hC hrt hlk dX3_finishFirst_59
def rm_X3_runHandler : Room := ({ frames := 3, cells := 0, slots := 0, locals := 65 } : Room)
def wp_X3_runHandler (V : St) (K : St → Prop) (b : Nat) (a1 : Int32) : Prop := wp_X3_spendUnit V (fun (V1 : St) => ∀ V2 : St, V2 = up2 V1 b 16 ((V1 b 16) + (1 : Int32)) → if (V2 b 16) < (V2 b 5) then (K V2) else (wp_X3_finishFirst V2 (fun (V3 : St) => K V3) b (a1 + (1 : Int32)))) b a1
set_option maxRecDepth 100000 in
set_option maxHeartbeats 4000000 in
theorem c_X3_runHandler {l : Launch} {D : va_G} {ad : Nat → Nat} {cy : Nat → ClassId} (hi : inj ad) {V : St} {K : St → Prop} {b : Nat} {a1 : Int32} (hb : SrcAt b) : wp_X3_runHandler V K b a1 → Hv l D ad cy yX3_runHandler (Cond.code yX3_runHandler cX3_runHandler 2 none :: WA) rm_X3_runHandler [.ref (ad b), .int a1] V K := by
  refine H_v (w := wp_X3_runHandler V K b a1) (by decide) (Nat.le_of_ble_eq_true rfl) (List.forall_mem_cons.mpr ⟨rfl, (List.forall_mem_cons.mpr ⟨rfl, (fun _ h => absurd h List.not_mem_nil)⟩)⟩) hi ?_
  intro p e s m args below meth c A hC hrt hlk
  show G p l e rm_X3_runHandler s m args below meth c 0 0 (MQ below (va_Qv K (Bq D ad cy) A) args s 0 0 A) 2 D ad cy A (wp_X3_runHandler V K b a1) V 0 [some (.ref (ad b)), some (.int a1)] []
  refine g_aload_n (pc := 0) hC dX3_runHandler_0 rfl ?_
  refine g_iload_n (pc := 1) hC dX3_runHandler_1 rfl ?_
  refine g_cvv (pc := 2) hC (c_X3_spendUnit hC.2.2.2.1 hb) mi_X3_spendUnit ww_278 ⟨rfl, rfl⟩ ⟨by decide, by decide⟩ (SrcAt.l0 hb) hb.2.1 rfl rfl rfl (Nat.le_of_ble_eq_true rfl) ⟨Nat.le_of_ble_eq_true rfl, Nat.le_of_ble_eq_true rfl⟩ dX3_runHandler_2 (fun V1 => ?_)
  refine g_aload_n (pc := 5) hC dX3_runHandler_5 rfl ?_
  refine g_dup (pc := 6) hC dX3_runHandler_6 rfl ?_
  refine g_getI (pc := 7) hC fl_X3_77 (SrcAt.l0 hb) hb.2.1 rfl dX3_runHandler_7 ?_
  refine g_iconst (pc := 10) hC (1 : Int32) dX3_runHandler_10 (by decide) ?_
  refine g_iadd (pc := 11) hC dX3_runHandler_11 ?_
  refine g_putI (pc := 12) hC fp_X3_77 (SrcAt.l0 hb) hb.2.1 rfl dX3_runHandler_12 (fun V2 => ?_)
  refine g_aload_n (pc := 15) hC dX3_runHandler_15 rfl ?_
  refine g_getI (pc := 16) hC fl_X3_77 (SrcAt.l0 hb) hb.2.1 rfl dX3_runHandler_16 ?_
  refine g_aload_n (pc := 19) hC dX3_runHandler_19 rfl ?_
  refine g_getI (pc := 20) hC fl_X3_38 (SrcAt.l0 hb) hb.2.1 rfl dX3_runHandler_20 ?_
  refine g_icmp_lt (pc := 23) (tgt := 33) hC dX3_runHandler_23 (by decide) ?_ ?_
  · exact g_vret (pc := 33) hC hrt hlk dX3_runHandler_33
  · refine g_aload_n (pc := 26) hC dX3_runHandler_26 rfl ?_
    refine g_iload_n (pc := 27) hC dX3_runHandler_27 rfl ?_
    refine g_iconst (pc := 28) hC (1 : Int32) dX3_runHandler_28 (by decide) ?_
    refine g_iadd (pc := 29) hC dX3_runHandler_29 ?_
    refine g_cvv (pc := 30) hC (c_X3_finishFirst hC.2.2.2.1 hb) mi_X3_finishFirst ww_292 ⟨rfl, rfl⟩ ⟨by decide, by decide⟩ (SrcAt.l0 hb) hb.2.1 rfl rfl rfl (Nat.le_of_ble_eq_true rfl) ⟨Nat.le_of_ble_eq_true rfl, Nat.le_of_ble_eq_true rfl⟩ dX3_runHandler_30 (fun V3 => ?_)
    exact g_vret (pc := 33) hC hrt hlk dX3_runHandler_33
def rm_X3_giveBack : Room := ({ frames := 1, cells := 0, slots := 0, locals := 24 } : Room)
def h_X3_giveBack_11 (K : St → Prop) (b : Nat) (a1 : Int32) (rec_11 : St → Int32 → Int32 → Prop) (V : St) (l2 : Int32) (l3 : Int32) : Prop := if l2 ≤ l3 then (K V) else (wp_X2_add V (fun (V1 : St) => rec_11 V1 l2 (l3 + 1)) (b + 3) 30 a1)
def wp_X3_giveBack (V : St) (K : St → Prop) (b : Nat) (a1 : Int32) : Prop := wp_X1_removeUpTo V (fun (r1 : Int32) (V2 : St) => ∃ n, lp (fun _ _ _ => False) (h_X3_giveBack_11 K b a1) n V2 r1 (0 : Int32)) (b + 5) a1
set_option maxRecDepth 100000 in
set_option maxHeartbeats 4000000 in
theorem c_X3_giveBack {l : Launch} {D : va_G} {ad : Nat → Nat} {cy : Nat → ClassId} (hi : inj ad) {V : St} {K : St → Prop} {b : Nat} {a1 : Int32} (hb : SrcAt b) : wp_X3_giveBack V K b a1 → Hv l D ad cy yX3_giveBack (Cond.code yX3_giveBack cX3_giveBack 4 none :: WA) rm_X3_giveBack [.ref (ad b), .int a1] V K := by
  refine H_v (w := wp_X3_giveBack V K b a1) (by decide) (Nat.le_of_ble_eq_true rfl) (List.forall_mem_cons.mpr ⟨rfl, (List.forall_mem_cons.mpr ⟨rfl, (fun _ h => absurd h List.not_mem_nil)⟩)⟩) hi ?_
  intro p e s m args below meth c A hC hrt hlk
  have J_11 : ∀ (n : Nat), ∀ (V : St) (l2 : Int32) (l3 : Int32), G p l e rm_X3_giveBack s m args below meth c 0 0 (MQ below (va_Qv K (Bq D ad cy) A) args s 0 0 A) 4 D ad cy A (lp (fun _ _ _ => False) (h_X3_giveBack_11 K b a1) n V l2 l3) V 11 [some (.ref (ad b)), some (.int a1), some (.int l2), some (.int l3)] [] := by
    intro n
    induction n with
    | zero => exact fun _ _ _ h => False.elim h
    | succ n IH =>
      generalize hrec : lp (fun _ _ _ => False) (h_X3_giveBack_11 K b a1) n = rec_11 at IH
      have ih_11 := IH
      intro V l2 l3 
      show G p l e rm_X3_giveBack s m args below meth c 0 0 (MQ below (va_Qv K (Bq D ad cy) A) args s 0 0 A) 4 D ad cy A (h_X3_giveBack_11 K b a1 (lp (fun _ _ _ => False) (h_X3_giveBack_11 K b a1) n) V l2 l3) V 11 [some (.ref (ad b)), some (.int a1), some (.int l2), some (.int l3)] []
      rw [hrec]
      refine g_iload_n (pc := 11) hC dX3_giveBack_11 rfl ?_
      refine g_iload_n (pc := 12) hC dX3_giveBack_12 rfl ?_
      refine g_icmp_ge (pc := 13) (tgt := 30) hC dX3_giveBack_13 (by decide) ?_ ?_
      · exact g_vret (pc := 30) hC hrt hlk dX3_giveBack_30
      · refine g_aload_n (pc := 16) hC dX3_giveBack_16 rfl ?_
        refine g_getR (pc := 17) hC fl_X3_20 (SrcAt.l0 hb) hb.2.1 rfl dX3_giveBack_17 ?_
        refine g_iload_n (pc := 20) hC dX3_giveBack_20 rfl ?_
        refine g_cvv (pc := 21) hC (c_X2_add hC.2.2.2.1 hb.2.2.2.1) mi_X2_add ww_319 ⟨rfl, rfl⟩ ⟨by decide, by decide⟩ (RowAt.l0 hb.2.2.2.1) hb.2.2.2.1.2.1 rfl rfl rfl (Nat.le_of_ble_eq_true rfl) ⟨Nat.le_of_ble_eq_true rfl, Nat.le_of_ble_eq_true rfl⟩ dX3_giveBack_21 (fun V1 => ?_)
        refine g_iinc (pc := 24) (L2 := [some (.ref (ad b)), some (.int a1), some (.int l2), some (.int (l3 + 1))]) hC (l3 + 1) dX3_giveBack_24 rfl rfl (by decide) rfl ?_
        refine g_goto (pc := 27) (tgt := 11) hC dX3_giveBack_27 (by decide) ?_
        exact ih_11 V1 l2 (l3 + 1)
  show G p l e rm_X3_giveBack s m args below meth c 0 0 (MQ below (va_Qv K (Bq D ad cy) A) args s 0 0 A) 4 D ad cy A (wp_X3_giveBack V K b a1) V 0 [some (.ref (ad b)), some (.int a1), none, none] []
  refine g_aload_n (pc := 0) hC dX3_giveBack_0 rfl ?_
  refine g_getR (pc := 1) hC fl_X3_26 (SrcAt.l0 hb) hb.2.1 rfl dX3_giveBack_1 ?_
  refine g_iload_n (pc := 4) hC dX3_giveBack_4 rfl ?_
  refine g_cvi (pc := 5) hC (c_X1_removeUpTo hC.2.2.2.1 hb.2.2.2.2) mi_X1_removeUpTo ww_315 ⟨rfl, rfl⟩ ⟨by decide, by decide⟩ (PcsAt.l0 hb.2.2.2.2) hb.2.2.2.2.2.1 rfl rfl rfl (Nat.le_of_ble_eq_true rfl) ⟨Nat.le_of_ble_eq_true rfl, Nat.le_of_ble_eq_true rfl⟩ dX3_giveBack_5 (fun r1 V2 => ?_)
  refine g_istore_n (pc := 8) (L2 := [some (.ref (ad b)), some (.int a1), some (.int r1), none]) hC dX3_giveBack_8 (by decide) rfl ?_
  refine g_iconst (pc := 9) hC (0 : Int32) dX3_giveBack_9 (by decide) ?_
  refine g_istore_n (pc := 10) (L2 := [some (.ref (ad b)), some (.int a1), some (.int r1), some (.int (0 : Int32))]) hC dX3_giveBack_10 (by decide) rfl ?_
  exact g_ex (fun n => J_11  n V2 r1 (0 : Int32))
def rm_J9_floorMod_7cf53 : Room := ({ frames := 0, cells := 0, slots := 0, locals := 0 } : Room)
def wp_J9_floorMod_7cf53 (V : St) (K : Int32 → St → Prop) (a1 : Int32) (a2 : Int32) : Prop := ¬ a2 = 0 ∧ ∀ x1 : Int32, x1 = (a1 - a1 / a2 * a2) → if 0 ≤ (a1 ^^^ a2) then (K x1 V) else (if x1 = 0 then (K x1 V) else (K (x1 + a2) V))
set_option maxRecDepth 100000 in
set_option maxHeartbeats 4000000 in
theorem c_J9_floorMod_7cf53 {l : Launch} {D : va_G} {ad : Nat → Nat} {cy : Nat → ClassId} (hi : inj ad) {V : St} {K : Int32 → St → Prop} {a1 : Int32} {a2 : Int32} : wp_J9_floorMod_7cf53 V K a1 a2 → Hi l D ad cy yJ9_floorMod_7cf53 (Cond.code yJ9_floorMod_7cf53 cJ9_floorMod_7cf53 3 (some .int) :: WA) rm_J9_floorMod_7cf53 [.int a1, .int a2] V K := by
  refine H_i (w := wp_J9_floorMod_7cf53 V K a1 a2) (by decide) (Nat.le_of_ble_eq_true rfl) (List.forall_mem_cons.mpr ⟨rfl, (List.forall_mem_cons.mpr ⟨rfl, (fun _ h => absurd h List.not_mem_nil)⟩)⟩) hi ?_
  intro p e s m args below meth c A hC hrt hlk
  show G p l e rm_J9_floorMod_7cf53 s m args below meth c 0 0 (MQ below (va_Qi K (Bq D ad cy) A) args s 0 0 A) 3 D ad cy A (wp_J9_floorMod_7cf53 V K a1 a2) V 0 [some (.int a1), some (.int a2), none] []
  refine g_iload_n (pc := 0) hC dJ9_floorMod_7cf53_0 rfl ?_
  refine g_iload_n (pc := 1) hC dJ9_floorMod_7cf53_1 rfl ?_
  refine g_irem (pc := 2) hC dJ9_floorMod_7cf53_2 ?_
  refine g_nm (fun x1 => ?_)
  refine g_istore_n (pc := 3) (L2 := [some (.int a1), some (.int a2), some (.int x1)]) hC dJ9_floorMod_7cf53_3 (by decide) rfl ?_
  refine g_iload_n (pc := 4) hC dJ9_floorMod_7cf53_4 rfl ?_
  refine g_iload_n (pc := 5) hC dJ9_floorMod_7cf53_5 rfl ?_
  refine g_ixor (pc := 6) hC dJ9_floorMod_7cf53_6 ?_
  refine g_if_ge (pc := 7) (tgt := 18) hC dJ9_floorMod_7cf53_7 (by decide) ?_ ?_
  · refine g_iload_n (pc := 18) hC dJ9_floorMod_7cf53_18 rfl ?_
    exact g_iret (pc := 19) hC hrt hlk dJ9_floorMod_7cf53_19
  · refine g_iload_n (pc := 10) hC dJ9_floorMod_7cf53_10 rfl ?_
    refine g_if_eq (pc := 11) (tgt := 18) hC dJ9_floorMod_7cf53_11 (by decide) ?_ ?_
    · refine g_iload_n (pc := 18) hC dJ9_floorMod_7cf53_18 rfl ?_
      exact g_iret (pc := 19) hC hrt hlk dJ9_floorMod_7cf53_19
    · refine g_iload_n (pc := 14) hC dJ9_floorMod_7cf53_14 rfl ?_
      refine g_iload_n (pc := 15) hC dJ9_floorMod_7cf53_15 rfl ?_
      refine g_iadd (pc := 16) hC dJ9_floorMod_7cf53_16 ?_
      exact g_iret (pc := 17) hC hrt hlk dJ9_floorMod_7cf53_17
end
