theorem ww_327 : Cond.methodLink RL 53 yL_source ∈ WA := wa 327 (by decide +kernel) (by decide +kernel)
theorem ww_698 : Cond.methodLink RL 58 yX5_source ∈ WA := wa 698 (by decide +kernel) (by decide +kernel)
theorem ww_701 : Cond.code yX5_source cX5_source 10 none ∈ WA := wa 701 (by decide +kernel) (by decide +kernel)
theorem ww_699 : Cond.instanceMethod yX5_source ∈ WA := wa 699 (by decide +kernel) (by decide +kernel)
theorem ww_700 : Cond.selects RX5 yX5_source yX5_source ∈ WA := wa 700 (by decide +kernel) (by decide +kernel)
theorem mi_X5_source : MI yX5_source cX5_source 10 none 7 := ⟨ww_701, ww_699, ww_700, ww_44, by decide +kernel, by decide +kernel, by decide +kernel⟩
theorem ww_694 : Cond.methodLink RL 59 yX5_thrown ∈ WA := wa 694 (by decide +kernel) (by decide +kernel)
theorem ww_697 : Cond.code yX5_thrown cX5_thrown 1 (some .int) ∈ WA := wa 697 (by decide +kernel) (by decide +kernel)
theorem ww_695 : Cond.instanceMethod yX5_thrown ∈ WA := wa 695 (by decide +kernel) (by decide +kernel)
theorem ww_696 : Cond.selects RX5 yX5_thrown yX5_thrown ∈ WA := wa 696 (by decide +kernel) (by decide +kernel)
theorem mi_X5_thrown : MI yX5_thrown cX5_thrown 1 (some .int) 0 := ⟨ww_697, ww_695, ww_696, ww_44, by decide +kernel, by decide +kernel, by decide +kernel⟩
theorem ww_473 : Cond.methodLink RL 63 yL_base ∈ WA := wa 473 (by decide +kernel) (by decide +kernel)
theorem ww_732 : Cond.methodLink RL 66 yX5_base ∈ WA := wa 732 (by decide +kernel) (by decide +kernel)
theorem ww_735 : Cond.code yX5_base cX5_base 6 (some .boolean) ∈ WA := wa 735 (by decide +kernel) (by decide +kernel)
theorem ww_733 : Cond.instanceMethod yX5_base ∈ WA := wa 733 (by decide +kernel) (by decide +kernel)
theorem ww_734 : Cond.selects RX5 yX5_base yX5_base ∈ WA := wa 734 (by decide +kernel) (by decide +kernel)
theorem mi_X5_base : MI yX5_base cX5_base 6 (some .boolean) 4 := ⟨ww_735, ww_733, ww_734, ww_44, by decide +kernel, by decide +kernel, by decide +kernel⟩
theorem ww_488 : Cond.methodLink RL 67 yL_event ∈ WA := wa 488 (by decide +kernel) (by decide +kernel)
theorem ww_736 : Cond.methodLink RL 70 yX5_event ∈ WA := wa 736 (by decide +kernel) (by decide +kernel)
theorem ww_739 : Cond.code yX5_event cX5_event 2 (some .int) ∈ WA := wa 739 (by decide +kernel) (by decide +kernel)
theorem ww_737 : Cond.instanceMethod yX5_event ∈ WA := wa 737 (by decide +kernel) (by decide +kernel)
theorem ww_738 : Cond.selects RX5 yX5_event yX5_event ∈ WA := wa 738 (by decide +kernel) (by decide +kernel)
theorem mi_X5_event : MI yX5_event cX5_event 2 (some .int) 1 := ⟨ww_739, ww_737, ww_738, ww_44, by decide +kernel, by decide +kernel, by decide +kernel⟩
theorem ww_238 : Cond.methodLink RL 71 yX4_tick ∈ WA := wa 238 (by decide +kernel) (by decide +kernel)
theorem ww_744 : Cond.methodLink RL 74 yX5_tick ∈ WA := wa 744 (by decide +kernel) (by decide +kernel)
theorem ww_747 : Cond.code yX5_tick cX5_tick 1 (some .int) ∈ WA := wa 747 (by decide +kernel) (by decide +kernel)
theorem ww_745 : Cond.instanceMethod yX5_tick ∈ WA := wa 745 (by decide +kernel) (by decide +kernel)
theorem ww_746 : Cond.selects RX5 yX5_tick yX5_tick ∈ WA := wa 746 (by decide +kernel) (by decide +kernel)
theorem mi_X5_tick : MI yX5_tick cX5_tick 1 (some .int) 0 := ⟨ww_747, ww_745, ww_746, ww_44, by decide +kernel, by decide +kernel, by decide +kernel⟩
theorem ww_504 : Cond.methodLink RL 75 yL_ticks ∈ WA := wa 504 (by decide +kernel) (by decide +kernel)
theorem ww_780 : Cond.methodLink RL 77 yX5_ticks ∈ WA := wa 780 (by decide +kernel) (by decide +kernel)
theorem ww_783 : Cond.code yX5_ticks cX5_ticks 4 (some .int) ∈ WA := wa 783 (by decide +kernel) (by decide +kernel)
theorem ww_781 : Cond.instanceMethod yX5_ticks ∈ WA := wa 781 (by decide +kernel) (by decide +kernel)
theorem ww_782 : Cond.selects RX5 yX5_ticks yX5_ticks ∈ WA := wa 782 (by decide +kernel) (by decide +kernel)
theorem mi_X5_ticks : MI yX5_ticks cX5_ticks 4 (some .int) 1 := ⟨ww_783, ww_781, ww_782, ww_44, by decide +kernel, by decide +kernel, by decide +kernel⟩
theorem ww_512 : Cond.methodLink RL 78 yL_about ∈ WA := wa 512 (by decide +kernel) (by decide +kernel)
theorem ww_784 : Cond.methodLink RL 81 yX5_about ∈ WA := wa 784 (by decide +kernel) (by decide +kernel)
theorem ww_787 : Cond.code yX5_about cX5_about 4 (some .int) ∈ WA := wa 787 (by decide +kernel) (by decide +kernel)
theorem ww_785 : Cond.instanceMethod yX5_about ∈ WA := wa 785 (by decide +kernel) (by decide +kernel)
theorem ww_786 : Cond.selects RX5 yX5_about yX5_about ∈ WA := wa 786 (by decide +kernel) (by decide +kernel)
theorem mi_X5_about : MI yX5_about cX5_about 4 (some .int) 2 := ⟨ww_787, ww_785, ww_786, ww_44, by decide +kernel, by decide +kernel, by decide +kernel⟩
theorem ww_547 : Cond.methodLink RL 82 yL_task ∈ WA := wa 547 (by decide +kernel) (by decide +kernel)
theorem ww_792 : Cond.methodLink RL 84 yX5_task ∈ WA := wa 792 (by decide +kernel) (by decide +kernel)
theorem ww_795 : Cond.code yX5_task cX5_task 3 (some .int) ∈ WA := wa 795 (by decide +kernel) (by decide +kernel)
theorem ww_793 : Cond.instanceMethod yX5_task ∈ WA := wa 793 (by decide +kernel) (by decide +kernel)
theorem ww_794 : Cond.selects RX5 yX5_task yX5_task ∈ WA := wa 794 (by decide +kernel) (by decide +kernel)
theorem mi_X5_task : MI yX5_task cX5_task 3 (some .int) 2 := ⟨ww_795, ww_793, ww_794, ww_44, by decide +kernel, by decide +kernel, by decide +kernel⟩
theorem ww_554 : Cond.methodLink RL 85 yL_bound ∈ WA := wa 554 (by decide +kernel) (by decide +kernel)
theorem ww_796 : Cond.methodLink RL 87 yX5_bound ∈ WA := wa 796 (by decide +kernel) (by decide +kernel)
theorem ww_799 : Cond.code yX5_bound cX5_bound 2 (some .int) ∈ WA := wa 799 (by decide +kernel) (by decide +kernel)
theorem ww_797 : Cond.instanceMethod yX5_bound ∈ WA := wa 797 (by decide +kernel) (by decide +kernel)
theorem ww_798 : Cond.selects RX5 yX5_bound yX5_bound ∈ WA := wa 798 (by decide +kernel) (by decide +kernel)
theorem mi_X5_bound : MI yX5_bound cX5_bound 2 (some .int) 1 := ⟨ww_799, ww_797, ww_798, ww_44, by decide +kernel, by decide +kernel, by decide +kernel⟩
theorem ww_565 : Cond.methodLink RL 88 yL_used ∈ WA := wa 565 (by decide +kernel) (by decide +kernel)
theorem ww_808 : Cond.methodLink RL 91 yX5_used ∈ WA := wa 808 (by decide +kernel) (by decide +kernel)
theorem ww_811 : Cond.code yX5_used cX5_used 9 (some .int) ∈ WA := wa 811 (by decide +kernel) (by decide +kernel)
theorem ww_809 : Cond.instanceMethod yX5_used ∈ WA := wa 809 (by decide +kernel) (by decide +kernel)
theorem ww_810 : Cond.selects RX5 yX5_used yX5_used ∈ WA := wa 810 (by decide +kernel) (by decide +kernel)
theorem mi_X5_used : MI yX5_used cX5_used 9 (some .int) 4 := ⟨ww_811, ww_809, ww_810, ww_44, by decide +kernel, by decide +kernel, by decide +kernel⟩
theorem ww_572 : Cond.methodLink RL 92 yL_floor ∈ WA := wa 572 (by decide +kernel) (by decide +kernel)
theorem ww_812 : Cond.methodLink RL 94 yX5_floor ∈ WA := wa 812 (by decide +kernel) (by decide +kernel)
theorem ww_815 : Cond.code yX5_floor cX5_floor 3 (some .int) ∈ WA := wa 815 (by decide +kernel) (by decide +kernel)
theorem ww_813 : Cond.instanceMethod yX5_floor ∈ WA := wa 813 (by decide +kernel) (by decide +kernel)
theorem ww_814 : Cond.selects RX5 yX5_floor yX5_floor ∈ WA := wa 814 (by decide +kernel) (by decide +kernel)
theorem mi_X5_floor : MI yX5_floor cX5_floor 3 (some .int) 1 := ⟨ww_815, ww_813, ww_814, ww_44, by decide +kernel, by decide +kernel, by decide +kernel⟩
theorem ww_323 : Cond.methodLink RL 95 yX4_time ∈ WA := wa 323 (by decide +kernel) (by decide +kernel)
theorem ww_326 : Cond.code yX4_time cX4_time 1 (some .int) ∈ WA := wa 326 (by decide +kernel) (by decide +kernel)
theorem ww_324 : Cond.instanceMethod yX4_time ∈ WA := wa 324 (by decide +kernel) (by decide +kernel)
theorem ww_325 : Cond.selects RX4 yX4_time yX4_time ∈ WA := wa 325 (by decide +kernel) (by decide +kernel)
theorem mi_X4_time : MI yX4_time cX4_time 1 (some .int) 0 := ⟨ww_326, ww_324, ww_325, ww_39, by decide +kernel, by decide +kernel, by decide +kernel⟩
theorem ww_817 : Cond.methodLink RL 98 yX5_time ∈ WA := wa 817 (by decide +kernel) (by decide +kernel)
theorem ww_820 : Cond.code yX5_time cX5_time 1 (some .int) ∈ WA := wa 820 (by decide +kernel) (by decide +kernel)
theorem ww_818 : Cond.instanceMethod yX5_time ∈ WA := wa 818 (by decide +kernel) (by decide +kernel)
theorem ww_819 : Cond.selects RX5 yX5_time yX5_time ∈ WA := wa 819 (by decide +kernel) (by decide +kernel)
theorem mi_X5_time : MI yX5_time cX5_time 1 (some .int) 0 := ⟨ww_820, ww_818, ww_819, ww_44, by decide +kernel, by decide +kernel, by decide +kernel⟩
def h_L_law_23 (Ls : Nat) (xs : Nat → Int32) (rec_23 : St → Int32 → Prop) (V : St) (l4 : Int32) : Prop := if ((nI Ls) - (8 : Int32)) < l4 then True else (vp_in l4 Ls ∧ if ((xs l4.toNatClampNeg) &&& (15 : Int32)) = 0 then (vp_in (l4 + (1 : Int32)) Ls ∧ vp_in (l4 + (2 : Int32)) Ls ∧ vp_in (l4 + (3 : Int32)) Ls ∧ vp_in (l4 + (4 : Int32)) Ls ∧ vp_in (l4 + (5 : Int32)) Ls ∧ vp_in (l4 + (6 : Int32)) Ls ∧ vp_in (l4 + (7 : Int32)) Ls ∧ wp_L_source V (fun (r1 : Int32) (V2 : St) => vp_in (l4 + (1 : Int32)) Ls ∧ vp_in (l4 + (2 : Int32)) Ls ∧ vp_in (l4 + (3 : Int32)) Ls ∧ vp_in (l4 + (4 : Int32)) Ls ∧ vp_in (l4 + (5 : Int32)) Ls ∧ vp_in (l4 + (6 : Int32)) Ls ∧ vp_in (l4 + (7 : Int32)) Ls ∧ wp_X5_source V2 (fun (V3 : St) => wp_X5_thrown V3 (fun (r4 : Int32) (V5 : St) => if r4 = r1 then (rec_23 V5 (l4 + 8)) else False)) (xs (l4 + (1 : Int32)).toNatClampNeg) (xs (l4 + (2 : Int32)).toNatClampNeg) (xs (l4 + (3 : Int32)).toNatClampNeg) (xs (l4 + (4 : Int32)).toNatClampNeg) (xs (l4 + (5 : Int32)).toNatClampNeg) (xs (l4 + (6 : Int32)).toNatClampNeg) (xs (l4 + (7 : Int32)).toNatClampNeg)) (xs (l4 + (1 : Int32)).toNatClampNeg) (xs (l4 + (2 : Int32)).toNatClampNeg) (xs (l4 + (3 : Int32)).toNatClampNeg) (xs (l4 + (4 : Int32)).toNatClampNeg) (xs (l4 + (5 : Int32)).toNatClampNeg) (xs (l4 + (6 : Int32)).toNatClampNeg) (xs (l4 + (7 : Int32)).toNatClampNeg)) else (if ((xs l4.toNatClampNeg) &&& (15 : Int32)) = 1 then (vp_in (l4 + (1 : Int32)) Ls ∧ vp_in (l4 + (2 : Int32)) Ls ∧ vp_in (l4 + (3 : Int32)) Ls ∧ vp_in (l4 + (4 : Int32)) Ls ∧ wp_L_base V (fun (r6 : Int32) (V7 : St) => vp_in (l4 + (1 : Int32)) Ls ∧ vp_in (l4 + (2 : Int32)) Ls ∧ vp_in (l4 + (3 : Int32)) Ls ∧ vp_in (l4 + (4 : Int32)) Ls ∧ wp_X5_base V7 (fun (r8 : Int32) (V9 : St) => wp_X5_thrown V9 (fun (r10 : Int32) (V11 : St) => if r10 = r6 then (if r6 = 0 then (vp_in (0 : Int32) 1 ∧ if r8 = 0 then (if (lg_cmp (V11 93 (0 : Int32).toNatClampNeg).toInt64 (0 : Int32).toInt64) = 0 then (rec_23 V11 (l4 + 8)) else False) else (if (lg_cmp (V11 93 (0 : Int32).toNatClampNeg).toInt64 (1 : Int32).toInt64) = 0 then (rec_23 V11 (l4 + 8)) else False)) else (rec_23 V11 (l4 + 8))) else False)) (xs (l4 + (1 : Int32)).toNatClampNeg) (xs (l4 + (2 : Int32)).toNatClampNeg) (xs (l4 + (3 : Int32)).toNatClampNeg) (xs (l4 + (4 : Int32)).toNatClampNeg)) (xs (l4 + (1 : Int32)).toNatClampNeg) (xs (l4 + (2 : Int32)).toNatClampNeg) (xs (l4 + (3 : Int32)).toNatClampNeg) (xs (l4 + (4 : Int32)).toNatClampNeg)) else (if ((xs l4.toNatClampNeg) &&& (15 : Int32)) = 2 then (vp_in (l4 + (1 : Int32)) Ls ∧ wp_L_event V (fun (r12 : Int32) (V13 : St) => vp_in (l4 + (1 : Int32)) Ls ∧ wp_X5_event V13 (fun (r14 : Int32) (V15 : St) => wp_X5_thrown V15 (fun (r16 : Int32) (V17 : St) => if r16 = r12 then (if r12 = 0 then (vp_in (0 : Int32) 1 ∧ if (lg_cmp (V17 93 (0 : Int32).toNatClampNeg).toInt64 r14.toInt64) = 0 then (rec_23 V17 (l4 + 8)) else False) else (rec_23 V17 (l4 + 8))) else False)) (xs (l4 + (1 : Int32)).toNatClampNeg)) (xs (l4 + (1 : Int32)).toNatClampNeg)) else (if ((xs l4.toNatClampNeg) &&& (15 : Int32)) = 3 then (wp_X4_tick V (fun (r18 : Int32) (V19 : St) => wp_X5_tick V19 (fun (r20 : Int32) (V21 : St) => if r18 = r20 then (rec_23 V21 (l4 + 8)) else False))) else (if ((xs l4.toNatClampNeg) &&& (15 : Int32)) = 4 then (vp_in (l4 + (1 : Int32)) Ls ∧ wp_L_ticks V (fun (r22 : Int32) (V23 : St) => vp_in (l4 + (1 : Int32)) Ls ∧ wp_X5_ticks V23 (fun (r24 : Int32) (V25 : St) => wp_X5_thrown V25 (fun (r26 : Int32) (V27 : St) => if r26 = r22 then (if r22 = 0 then (vp_in (0 : Int32) 1 ∧ if (lg_cmp (V27 93 (0 : Int32).toNatClampNeg).toInt64 r24.toInt64) = 0 then (rec_23 V27 (l4 + 8)) else False) else (rec_23 V27 (l4 + 8))) else False)) (xs (l4 + (1 : Int32)).toNatClampNeg)) (xs (l4 + (1 : Int32)).toNatClampNeg)) else (if ((xs l4.toNatClampNeg) &&& (15 : Int32)) = 5 then (vp_in (l4 + (1 : Int32)) Ls ∧ vp_in (l4 + (2 : Int32)) Ls ∧ wp_L_about V (fun (r28 : Int32) (V29 : St) => vp_in (l4 + (1 : Int32)) Ls ∧ vp_in (l4 + (2 : Int32)) Ls ∧ wp_X5_about V29 (fun (r30 : Int32) (V31 : St) => wp_X5_thrown V31 (fun (r32 : Int32) (V33 : St) => if r32 = r28 then (if r28 = 0 then (vp_in (0 : Int32) 1 ∧ if (lg_cmp (V33 93 (0 : Int32).toNatClampNeg).toInt64 r30.toInt64) = 0 then (rec_23 V33 (l4 + 8)) else False) else (rec_23 V33 (l4 + 8))) else False)) (xs (l4 + (1 : Int32)).toNatClampNeg) (xs (l4 + (2 : Int32)).toNatClampNeg)) (xs (l4 + (1 : Int32)).toNatClampNeg) (xs (l4 + (2 : Int32)).toNatClampNeg)) else (if ((xs l4.toNatClampNeg) &&& (15 : Int32)) = 6 then (vp_in (l4 + (1 : Int32)) Ls ∧ vp_in (l4 + (2 : Int32)) Ls ∧ wp_L_task V (fun (r34 : Int32) (V35 : St) => vp_in (l4 + (1 : Int32)) Ls ∧ vp_in (l4 + (2 : Int32)) Ls ∧ wp_X5_task V35 (fun (r36 : Int32) (V37 : St) => wp_X5_thrown V37 (fun (r38 : Int32) (V39 : St) => if r38 = r34 then (if r34 = 0 then (vp_in (0 : Int32) 1 ∧ if (lg_cmp (V39 93 (0 : Int32).toNatClampNeg).toInt64 r36.toInt64) = 0 then (rec_23 V39 (l4 + 8)) else False) else (rec_23 V39 (l4 + 8))) else False)) (xs (l4 + (1 : Int32)).toNatClampNeg) (xs (l4 + (2 : Int32)).toNatClampNeg)) (xs (l4 + (1 : Int32)).toNatClampNeg) (xs (l4 + (2 : Int32)).toNatClampNeg)) else (if ((xs l4.toNatClampNeg) &&& (15 : Int32)) = 7 then (vp_in (l4 + (1 : Int32)) Ls ∧ wp_L_bound V (fun (r40 : Int32) (V41 : St) => vp_in (l4 + (1 : Int32)) Ls ∧ wp_X5_bound V41 (fun (r42 : Int32) (V43 : St) => wp_X5_thrown V43 (fun (r44 : Int32) (V45 : St) => if r44 = r40 then (if r40 = 0 then (vp_in (0 : Int32) 1 ∧ if (lg_cmp (V45 93 (0 : Int32).toNatClampNeg).toInt64 r42.toInt64) = 0 then (rec_23 V45 (l4 + 8)) else False) else (rec_23 V45 (l4 + 8))) else False)) (xs (l4 + (1 : Int32)).toNatClampNeg)) (xs (l4 + (1 : Int32)).toNatClampNeg)) else (if ((xs l4.toNatClampNeg) &&& (15 : Int32)) = 8 then (vp_in (l4 + (1 : Int32)) Ls ∧ vp_in (l4 + (2 : Int32)) Ls ∧ if (xs (l4 + (2 : Int32)).toNatClampNeg) = 0 then (vp_in (l4 + (3 : Int32)) Ls ∧ vp_in (l4 + (4 : Int32)) Ls ∧ wp_L_used V (fun (r46 : Int32) (V47 : St) => vp_in (l4 + (1 : Int32)) Ls ∧ vp_in (l4 + (2 : Int32)) Ls ∧ if (xs (l4 + (2 : Int32)).toNatClampNeg) = 0 then (vp_in (l4 + (3 : Int32)) Ls ∧ vp_in (l4 + (4 : Int32)) Ls ∧ wp_X5_used V47 (fun (r48 : Int32) (V49 : St) => wp_X5_thrown V49 (fun (r50 : Int32) (V51 : St) => if r50 = r46 then (if r46 = 0 then (vp_in (0 : Int32) 1 ∧ if (lg_cmp (V51 93 (0 : Int32).toNatClampNeg).toInt64 r48.toInt64) = 0 then (rec_23 V51 (l4 + 8)) else False) else (rec_23 V51 (l4 + 8))) else False)) (xs (l4 + (1 : Int32)).toNatClampNeg) (0 : Int32) (xs (l4 + (3 : Int32)).toNatClampNeg) (xs (l4 + (4 : Int32)).toNatClampNeg)) else (vp_in (l4 + (3 : Int32)) Ls ∧ vp_in (l4 + (4 : Int32)) Ls ∧ wp_X5_used V47 (fun (r52 : Int32) (V53 : St) => wp_X5_thrown V53 (fun (r54 : Int32) (V55 : St) => if r54 = r46 then (if r46 = 0 then (vp_in (0 : Int32) 1 ∧ if (lg_cmp (V55 93 (0 : Int32).toNatClampNeg).toInt64 r52.toInt64) = 0 then (rec_23 V55 (l4 + 8)) else False) else (rec_23 V55 (l4 + 8))) else False)) (xs (l4 + (1 : Int32)).toNatClampNeg) (1 : Int32) (xs (l4 + (3 : Int32)).toNatClampNeg) (xs (l4 + (4 : Int32)).toNatClampNeg))) (xs (l4 + (1 : Int32)).toNatClampNeg) (0 : Int32) (xs (l4 + (3 : Int32)).toNatClampNeg) (xs (l4 + (4 : Int32)).toNatClampNeg)) else (vp_in (l4 + (3 : Int32)) Ls ∧ vp_in (l4 + (4 : Int32)) Ls ∧ wp_L_used V (fun (r56 : Int32) (V57 : St) => vp_in (l4 + (1 : Int32)) Ls ∧ vp_in (l4 + (2 : Int32)) Ls ∧ if (xs (l4 + (2 : Int32)).toNatClampNeg) = 0 then (vp_in (l4 + (3 : Int32)) Ls ∧ vp_in (l4 + (4 : Int32)) Ls ∧ wp_X5_used V57 (fun (r58 : Int32) (V59 : St) => wp_X5_thrown V59 (fun (r60 : Int32) (V61 : St) => if r60 = r56 then (if r56 = 0 then (vp_in (0 : Int32) 1 ∧ if (lg_cmp (V61 93 (0 : Int32).toNatClampNeg).toInt64 r58.toInt64) = 0 then (rec_23 V61 (l4 + 8)) else False) else (rec_23 V61 (l4 + 8))) else False)) (xs (l4 + (1 : Int32)).toNatClampNeg) (0 : Int32) (xs (l4 + (3 : Int32)).toNatClampNeg) (xs (l4 + (4 : Int32)).toNatClampNeg)) else (vp_in (l4 + (3 : Int32)) Ls ∧ vp_in (l4 + (4 : Int32)) Ls ∧ wp_X5_used V57 (fun (r62 : Int32) (V63 : St) => wp_X5_thrown V63 (fun (r64 : Int32) (V65 : St) => if r64 = r56 then (if r56 = 0 then (vp_in (0 : Int32) 1 ∧ if (lg_cmp (V65 93 (0 : Int32).toNatClampNeg).toInt64 r62.toInt64) = 0 then (rec_23 V65 (l4 + 8)) else False) else (rec_23 V65 (l4 + 8))) else False)) (xs (l4 + (1 : Int32)).toNatClampNeg) (1 : Int32) (xs (l4 + (3 : Int32)).toNatClampNeg) (xs (l4 + (4 : Int32)).toNatClampNeg))) (xs (l4 + (1 : Int32)).toNatClampNeg) (1 : Int32) (xs (l4 + (3 : Int32)).toNatClampNeg) (xs (l4 + (4 : Int32)).toNatClampNeg))) else (if ((xs l4.toNatClampNeg) &&& (15 : Int32)) = 9 then (vp_in (l4 + (1 : Int32)) Ls ∧ wp_L_floor V (fun (r66 : Int32) (V67 : St) => vp_in (l4 + (1 : Int32)) Ls ∧ wp_X5_floor V67 (fun (r68 : Int32) (V69 : St) => wp_X5_thrown V69 (fun (r70 : Int32) (V71 : St) => if r70 = r66 then (if r66 = 0 then (vp_in (0 : Int32) 1 ∧ if (lg_cmp (V71 93 (0 : Int32).toNatClampNeg).toInt64 r68.toInt64) = 0 then (rec_23 V71 (l4 + 8)) else False) else (rec_23 V71 (l4 + 8))) else False)) (xs (l4 + (1 : Int32)).toNatClampNeg)) (xs (l4 + (1 : Int32)).toNatClampNeg)) else (if ((xs l4.toNatClampNeg) &&& (15 : Int32)) = 10 then (wp_X4_time V (fun (r72 : Int32) (V73 : St) => wp_X5_time V73 (fun (r74 : Int32) (V75 : St) => if r72 = r74 then (rec_23 V75 (l4 + 8)) else False))) else (rec_23 V (l4 + 8)))))))))))))
set_option maxRecDepth 100000 in
set_option maxHeartbeats 4000000 in
theorem law_loop {p : Program} {e : Env} {s : State} {m : MethodId} {below : List Frame} {meth : Method} {c : Code} {l : Launch} {b Ls : Nat} {xs : Nat → Int32} {D : va_G} {ad : Nat → Nat} {cy : Nat → ClassId} {A : Nat → Prop} {x0 : Cond} (hC : Cx p s m #[Value.ref b] c cL_law 7 x0 RL D ad cy A) (hA9 : ∀ q, A q → s.heap.size ≤ q) (hr : meth.sig.returnType = ret) (hlocks : meth.locks = false) (hz : Zb l A s) (hct : Nct s) (hX : va_X b Ls xs s s.heap) (hbl : b < s.heap.size) (hbA : ¬ A b) : ∀ (n cells slots : Nat), cells + 2 * n ≤ 601024 → slots + 12 * n ≤ 7293034 → ∀ (V : St) (l4 : Int32), G p l e room_1 s m #[Value.ref b] below meth c cells slots (lw_Z below #[Value.ref b] s) 7 D ad cy A (lp (fun _ _ => False) (h_L_law_23 Ls xs) n V l4) V 23 [some (.ref b), some (.ref (ad 0)), some (.ref (ad 60)), some (.ref (ad 93)), some (.int l4), none, none] [] := by
  intro n
  induction n with
  | zero => exact fun _ _ _ _ _ _ h => False.elim h
  | succ n ih =>
    intro cells slots hc1 hs1 V l4
    generalize hrec : lp (fun _ _ => False) (h_L_law_23 Ls xs) n = rec_23 at ih
    have ih_23 := ih
    show G p l e room_1 s m #[Value.ref b] below meth c cells slots (lw_Z below #[Value.ref b] s) 7 D ad cy A (h_L_law_23 Ls xs (lp (fun _ _ => False) (h_L_law_23 Ls xs) n) V l4) V 23 [some (.ref b), some (.ref (ad 0)), some (.ref (ad 60)), some (.ref (ad 93)), some (.int l4), none, none] []
    rw [hrec]
    refine g_iload (pc := 23) hC dL_law_23 rfl ?_
    refine g_aload_n (pc := 25) hC dL_law_25 rfl ?_
    refine g_slen (pc := 26) hC hX hbl hbA dL_law_26 ?_
    refine g_bipush (pc := 27) hC (8 : Int32) dL_law_27 (by decide) ?_
    refine g_isub (pc := 29) hC dL_law_29 ?_
    refine g_icmp_gt (pc := 30) (tgt := 811) hC dL_law_30 (by decide) ?_ ?_
    · refine g_iconst (pc := 811) hC (1 : Int32) dL_law_811 (by decide) ?_
      exact g_lawend hC hA9 hr hlocks (by omega) (by omega) dL_law_812
    · refine g_aload_n (pc := 33) hC dL_law_33 rfl ?_
      refine g_iload (pc := 34) hC dL_law_34 rfl ?_
      refine g_sld (pc := 36) hC hX hbl hbA dL_law_36 ?_
      refine g_bipush (pc := 37) hC (15 : Int32) dL_law_37 (by decide) ?_
      refine g_iand (pc := 39) hC dL_law_39 ?_
      refine g_if (fun hs0 => ?_) (fun hs0 => ?_)
      · refine g_swIn (pc := 40) (off := 60) (tgt := 100) hC dL_law_40 (by rw [hs0]; decide) (by rw [hs0]; decide) (by rw [hs0]; decide) (by decide) ?_
        refine g_aload_n (pc := 100) hC dL_law_100 rfl ?_
        refine g_aload_n (pc := 101) hC dL_law_101 rfl ?_
        refine g_iload (pc := 102) hC dL_law_102 rfl ?_
        refine g_iconst (pc := 104) hC (1 : Int32) dL_law_104 (by decide) ?_
        refine g_iadd (pc := 105) hC dL_law_105 ?_
        refine g_sld (pc := 106) hC hX hbl hbA dL_law_106 ?_
        refine g_aload_n (pc := 107) hC dL_law_107 rfl ?_
        refine g_iload (pc := 108) hC dL_law_108 rfl ?_
        refine g_iconst (pc := 110) hC (2 : Int32) dL_law_110 (by decide) ?_
        refine g_iadd (pc := 111) hC dL_law_111 ?_
        refine g_sld (pc := 112) hC hX hbl hbA dL_law_112 ?_
        refine g_aload_n (pc := 113) hC dL_law_113 rfl ?_
        refine g_iload (pc := 114) hC dL_law_114 rfl ?_
        refine g_iconst (pc := 116) hC (3 : Int32) dL_law_116 (by decide) ?_
        refine g_iadd (pc := 117) hC dL_law_117 ?_
        refine g_sld (pc := 118) hC hX hbl hbA dL_law_118 ?_
        refine g_aload_n (pc := 119) hC dL_law_119 rfl ?_
        refine g_iload (pc := 120) hC dL_law_120 rfl ?_
        refine g_iconst (pc := 122) hC (4 : Int32) dL_law_122 (by decide) ?_
        refine g_iadd (pc := 123) hC dL_law_123 ?_
        refine g_sld (pc := 124) hC hX hbl hbA dL_law_124 ?_
        refine g_aload_n (pc := 125) hC dL_law_125 rfl ?_
        refine g_iload (pc := 126) hC dL_law_126 rfl ?_
        refine g_iconst (pc := 128) hC (5 : Int32) dL_law_128 (by decide) ?_
        refine g_iadd (pc := 129) hC dL_law_129 ?_
        refine g_sld (pc := 130) hC hX hbl hbA dL_law_130 ?_
        refine g_aload_n (pc := 131) hC dL_law_131 rfl ?_
        refine g_iload (pc := 132) hC dL_law_132 rfl ?_
        refine g_bipush (pc := 134) hC (6 : Int32) dL_law_134 (by decide) ?_
        refine g_iadd (pc := 136) hC dL_law_136 ?_
        refine g_sld (pc := 137) hC hX hbl hbA dL_law_137 ?_
        refine g_aload_n (pc := 138) hC dL_law_138 rfl ?_
        refine g_iload (pc := 139) hC dL_law_139 rfl ?_
        refine g_bipush (pc := 141) hC (7 : Int32) dL_law_141 (by decide) ?_
        refine g_iadd (pc := 143) hC dL_law_143 ?_
        refine g_sld (pc := 144) hC hX hbl hbA dL_law_144 ?_
        refine g_lsi (pc := 145) hC hz hct (c_L_source hC.2.2.2.1) mi_L_source ww_327 ⟨rfl, rfl⟩ ⟨by decide, by decide⟩ rfl rfl (Nat.le_of_ble_eq_true rfl) ⟨(by show _ ≤ 601024; omega), (by show _ ≤ 7293034; omega)⟩ dL_law_145 (fun r1 V2 => ?_)
        refine g_istore (pc := 148) (L2 := [some (.ref b), some (.ref (ad 0)), some (.ref (ad 60)), some (.ref (ad 93)), some (.int l4), some (.int r1), none]) hC dL_law_148 (by decide) rfl ?_
        refine g_aload_n (pc := 150) hC dL_law_150 rfl ?_
        refine g_aload_n (pc := 151) hC dL_law_151 rfl ?_
        refine g_iload (pc := 152) hC dL_law_152 rfl ?_
        refine g_iconst (pc := 154) hC (1 : Int32) dL_law_154 (by decide) ?_
        refine g_iadd (pc := 155) hC dL_law_155 ?_
        refine g_sld (pc := 156) hC hX hbl hbA dL_law_156 ?_
        refine g_aload_n (pc := 157) hC dL_law_157 rfl ?_
        refine g_iload (pc := 158) hC dL_law_158 rfl ?_
        refine g_iconst (pc := 160) hC (2 : Int32) dL_law_160 (by decide) ?_
        refine g_iadd (pc := 161) hC dL_law_161 ?_
        refine g_sld (pc := 162) hC hX hbl hbA dL_law_162 ?_
        refine g_aload_n (pc := 163) hC dL_law_163 rfl ?_
        refine g_iload (pc := 164) hC dL_law_164 rfl ?_
        refine g_iconst (pc := 166) hC (3 : Int32) dL_law_166 (by decide) ?_
        refine g_iadd (pc := 167) hC dL_law_167 ?_
        refine g_sld (pc := 168) hC hX hbl hbA dL_law_168 ?_
        refine g_aload_n (pc := 169) hC dL_law_169 rfl ?_
        refine g_iload (pc := 170) hC dL_law_170 rfl ?_
        refine g_iconst (pc := 172) hC (4 : Int32) dL_law_172 (by decide) ?_
        refine g_iadd (pc := 173) hC dL_law_173 ?_
        refine g_sld (pc := 174) hC hX hbl hbA dL_law_174 ?_
        refine g_aload_n (pc := 175) hC dL_law_175 rfl ?_
        refine g_iload (pc := 176) hC dL_law_176 rfl ?_
        refine g_iconst (pc := 178) hC (5 : Int32) dL_law_178 (by decide) ?_
        refine g_iadd (pc := 179) hC dL_law_179 ?_
        refine g_sld (pc := 180) hC hX hbl hbA dL_law_180 ?_
        refine g_aload_n (pc := 181) hC dL_law_181 rfl ?_
        refine g_iload (pc := 182) hC dL_law_182 rfl ?_
        refine g_bipush (pc := 184) hC (6 : Int32) dL_law_184 (by decide) ?_
        refine g_iadd (pc := 186) hC dL_law_186 ?_
        refine g_sld (pc := 187) hC hX hbl hbA dL_law_187 ?_
        refine g_aload_n (pc := 188) hC dL_law_188 rfl ?_
        refine g_iload (pc := 189) hC dL_law_189 rfl ?_
        refine g_bipush (pc := 191) hC (7 : Int32) dL_law_191 (by decide) ?_
        refine g_iadd (pc := 193) hC dL_law_193 ?_
        refine g_sld (pc := 194) hC hX hbl hbA dL_law_194 ?_
        refine g_cvv (pc := 195) hC (c_X5_source hC.2.2.2.1) mi_X5_source ww_698 ⟨rfl, rfl⟩ ⟨by decide, by decide⟩ (by decide) rfl rfl rfl rfl (Nat.le_of_ble_eq_true rfl) ⟨(by show _ ≤ 601024; omega), (by show _ ≤ 7293034; omega)⟩ dL_law_195 (fun V3 => ?_)
        refine g_aload_n (pc := 198) hC dL_law_198 rfl ?_
        refine g_cvi (pc := 199) hC (c_X5_thrown hC.2.2.2.1) mi_X5_thrown ww_694 ⟨rfl, rfl⟩ ⟨by decide, by decide⟩ (by decide) rfl rfl rfl rfl (Nat.le_of_ble_eq_true rfl) ⟨(by show _ ≤ 601024; omega), (by show _ ≤ 7293034; omega)⟩ dL_law_199 (fun r4 V5 => ?_)
        refine g_iload (pc := 202) hC dL_law_202 rfl ?_
        refine g_icmp_eq (pc := 204) (tgt := 209) hC dL_law_204 (by decide) ?_ ?_
        · refine g_goto (pc := 209) (tgt := 805) hC dL_law_209 (by decide) ?_
          refine g_iinc (pc := 805) (L2 := [some (.ref b), some (.ref (ad 0)), some (.ref (ad 60)), some (.ref (ad 93)), some (.int (l4 + 8)), some (.int r1), none]) hC (l4 + 8) dL_law_805 rfl rfl (by decide) rfl ?_
          refine g_goto (pc := 808) (tgt := 23) hC dL_law_808 (by decide) ?_
          exact g_ms [true, true, true, true, true, false, false] (ih_23 _ _ (by omega) (by omega) V5 (l4 + 8))
        · refine g_iconst (pc := 207) hC (0 : Int32) dL_law_207 (by decide) ?_
          exact fun h => False.elim h
      · skip
        refine g_if (fun hs1 => ?_) (fun hs1 => ?_)
        · refine g_swIn (pc := 40) (off := 172) (tgt := 212) hC dL_law_40 (by rw [hs1]; decide) (by rw [hs1]; decide) (by rw [hs1]; decide) (by decide) ?_
          refine g_aload_n (pc := 212) hC dL_law_212 rfl ?_
          refine g_aload_n (pc := 213) hC dL_law_213 rfl ?_
          refine g_iload (pc := 214) hC dL_law_214 rfl ?_
          refine g_iconst (pc := 216) hC (1 : Int32) dL_law_216 (by decide) ?_
          refine g_iadd (pc := 217) hC dL_law_217 ?_
          refine g_sld (pc := 218) hC hX hbl hbA dL_law_218 ?_
          refine g_aload_n (pc := 219) hC dL_law_219 rfl ?_
          refine g_iload (pc := 220) hC dL_law_220 rfl ?_
          refine g_iconst (pc := 222) hC (2 : Int32) dL_law_222 (by decide) ?_
          refine g_iadd (pc := 223) hC dL_law_223 ?_
          refine g_sld (pc := 224) hC hX hbl hbA dL_law_224 ?_
          refine g_aload_n (pc := 225) hC dL_law_225 rfl ?_
          refine g_iload (pc := 226) hC dL_law_226 rfl ?_
          refine g_iconst (pc := 228) hC (3 : Int32) dL_law_228 (by decide) ?_
          refine g_iadd (pc := 229) hC dL_law_229 ?_
          refine g_sld (pc := 230) hC hX hbl hbA dL_law_230 ?_
          refine g_aload_n (pc := 231) hC dL_law_231 rfl ?_
          refine g_iload (pc := 232) hC dL_law_232 rfl ?_
          refine g_iconst (pc := 234) hC (4 : Int32) dL_law_234 (by decide) ?_
          refine g_iadd (pc := 235) hC dL_law_235 ?_
          refine g_sld (pc := 236) hC hX hbl hbA dL_law_236 ?_
          refine g_aload_n (pc := 237) hC dL_law_237 rfl ?_
          refine g_lsi (pc := 238) hC hz hct (c_L_base hC.2.2.2.1) mi_L_base ww_473 ⟨rfl, rfl⟩ ⟨by decide, by decide⟩ rfl rfl (Nat.le_of_ble_eq_true rfl) ⟨(by show _ ≤ 601024; omega), (by show _ ≤ 7293034; omega)⟩ dL_law_238 (fun r6 V7 => ?_)
          refine g_istore (pc := 241) (L2 := [some (.ref b), some (.ref (ad 0)), some (.ref (ad 60)), some (.ref (ad 93)), some (.int l4), some (.int r6), none]) hC dL_law_241 (by decide) rfl ?_
          refine g_aload_n (pc := 243) hC dL_law_243 rfl ?_
          refine g_aload_n (pc := 244) hC dL_law_244 rfl ?_
          refine g_iload (pc := 245) hC dL_law_245 rfl ?_
          refine g_iconst (pc := 247) hC (1 : Int32) dL_law_247 (by decide) ?_
          refine g_iadd (pc := 248) hC dL_law_248 ?_
          refine g_sld (pc := 249) hC hX hbl hbA dL_law_249 ?_
          refine g_aload_n (pc := 250) hC dL_law_250 rfl ?_
          refine g_iload (pc := 251) hC dL_law_251 rfl ?_
          refine g_iconst (pc := 253) hC (2 : Int32) dL_law_253 (by decide) ?_
          refine g_iadd (pc := 254) hC dL_law_254 ?_
          refine g_sld (pc := 255) hC hX hbl hbA dL_law_255 ?_
          refine g_aload_n (pc := 256) hC dL_law_256 rfl ?_
          refine g_iload (pc := 257) hC dL_law_257 rfl ?_
          refine g_iconst (pc := 259) hC (3 : Int32) dL_law_259 (by decide) ?_
          refine g_iadd (pc := 260) hC dL_law_260 ?_
          refine g_sld (pc := 261) hC hX hbl hbA dL_law_261 ?_
          refine g_aload_n (pc := 262) hC dL_law_262 rfl ?_
          refine g_iload (pc := 263) hC dL_law_263 rfl ?_
          refine g_iconst (pc := 265) hC (4 : Int32) dL_law_265 (by decide) ?_
          refine g_iadd (pc := 266) hC dL_law_266 ?_
          refine g_sld (pc := 267) hC hX hbl hbA dL_law_267 ?_
          refine g_cvi (pc := 268) hC (c_X5_base hC.2.2.2.1) mi_X5_base ww_732 ⟨rfl, rfl⟩ ⟨by decide, by decide⟩ (by decide) rfl rfl rfl rfl (Nat.le_of_ble_eq_true rfl) ⟨(by show _ ≤ 601024; omega), (by show _ ≤ 7293034; omega)⟩ dL_law_268 (fun r8 V9 => ?_)
          refine g_istore (pc := 271) (L2 := [some (.ref b), some (.ref (ad 0)), some (.ref (ad 60)), some (.ref (ad 93)), some (.int l4), some (.int r6), some (.int r8)]) hC dL_law_271 (by decide) rfl ?_
          refine g_aload_n (pc := 273) hC dL_law_273 rfl ?_
          refine g_cvi (pc := 274) hC (c_X5_thrown hC.2.2.2.1) mi_X5_thrown ww_694 ⟨rfl, rfl⟩ ⟨by decide, by decide⟩ (by decide) rfl rfl rfl rfl (Nat.le_of_ble_eq_true rfl) ⟨(by show _ ≤ 601024; omega), (by show _ ≤ 7293034; omega)⟩ dL_law_274 (fun r10 V11 => ?_)
          refine g_iload (pc := 277) hC dL_law_277 rfl ?_
          refine g_icmp_eq (pc := 279) (tgt := 284) hC dL_law_279 (by decide) ?_ ?_
          · refine g_iload (pc := 284) hC dL_law_284 rfl ?_
            refine g_if_ne (pc := 286) (tgt := 308) hC dL_law_286 (by decide) ?_ ?_
            · refine g_goto (pc := 308) (tgt := 805) hC dL_law_308 (by decide) ?_
              refine g_iinc (pc := 805) (L2 := [some (.ref b), some (.ref (ad 0)), some (.ref (ad 60)), some (.ref (ad 93)), some (.int (l4 + 8)), some (.int r6), some (.int r8)]) hC (l4 + 8) dL_law_805 rfl rfl (by decide) rfl ?_
              refine g_goto (pc := 808) (tgt := 23) hC dL_law_808 (by decide) ?_
              exact g_ms [true, true, true, true, true, false, false] (ih_23 _ _ (by omega) (by omega) V11 (l4 + 8))
            · refine g_aload_n (pc := 289) hC dL_law_289 rfl ?_
              refine g_iconst (pc := 290) hC (0 : Int32) dL_law_290 (by decide) ?_
              refine g_lald (pc := 291) hC (by decide) rfl dL_law_291 ?_
              refine g_iload (pc := 292) hC dL_law_292 rfl ?_
              refine g_if_eq (pc := 294) (tgt := 301) hC dL_law_294 (by decide) ?_ ?_
              · refine g_lconst (pc := 301) hC (0 : Int32) dL_law_301 (by decide) ?_
                refine g_lcmp (pc := 302) hC dL_law_302 ?_
                refine g_if_eq (pc := 303) (tgt := 308) hC dL_law_303 (by decide) ?_ ?_
                · refine g_goto (pc := 308) (tgt := 805) hC dL_law_308 (by decide) ?_
                  refine g_iinc (pc := 805) (L2 := [some (.ref b), some (.ref (ad 0)), some (.ref (ad 60)), some (.ref (ad 93)), some (.int (l4 + 8)), some (.int r6), some (.int r8)]) hC (l4 + 8) dL_law_805 rfl rfl (by decide) rfl ?_
                  refine g_goto (pc := 808) (tgt := 23) hC dL_law_808 (by decide) ?_
                  exact g_ms [true, true, true, true, true, false, false] (ih_23 _ _ (by omega) (by omega) V11 (l4 + 8))
                · refine g_iconst (pc := 306) hC (0 : Int32) dL_law_306 (by decide) ?_
                  exact fun h => False.elim h
              · refine g_lconst (pc := 297) hC (1 : Int32) dL_law_297 (by decide) ?_
                refine g_goto (pc := 298) (tgt := 302) hC dL_law_298 (by decide) ?_
                refine g_lcmp (pc := 302) hC dL_law_302 ?_
                refine g_if_eq (pc := 303) (tgt := 308) hC dL_law_303 (by decide) ?_ ?_
                · refine g_goto (pc := 308) (tgt := 805) hC dL_law_308 (by decide) ?_
                  refine g_iinc (pc := 805) (L2 := [some (.ref b), some (.ref (ad 0)), some (.ref (ad 60)), some (.ref (ad 93)), some (.int (l4 + 8)), some (.int r6), some (.int r8)]) hC (l4 + 8) dL_law_805 rfl rfl (by decide) rfl ?_
                  refine g_goto (pc := 808) (tgt := 23) hC dL_law_808 (by decide) ?_
                  exact g_ms [true, true, true, true, true, false, false] (ih_23 _ _ (by omega) (by omega) V11 (l4 + 8))
                · refine g_iconst (pc := 306) hC (0 : Int32) dL_law_306 (by decide) ?_
                  exact fun h => False.elim h
          · refine g_iconst (pc := 282) hC (0 : Int32) dL_law_282 (by decide) ?_
            exact fun h => False.elim h
        · skip
          refine g_if (fun hs2 => ?_) (fun hs2 => ?_)
          · refine g_swIn (pc := 40) (off := 271) (tgt := 311) hC dL_law_40 (by rw [hs2]; decide) (by rw [hs2]; decide) (by rw [hs2]; decide) (by decide) ?_
            refine g_aload_n (pc := 311) hC dL_law_311 rfl ?_
            refine g_aload_n (pc := 312) hC dL_law_312 rfl ?_
            refine g_iload (pc := 313) hC dL_law_313 rfl ?_
            refine g_iconst (pc := 315) hC (1 : Int32) dL_law_315 (by decide) ?_
            refine g_iadd (pc := 316) hC dL_law_316 ?_
            refine g_sld (pc := 317) hC hX hbl hbA dL_law_317 ?_
            refine g_aload_n (pc := 318) hC dL_law_318 rfl ?_
            refine g_lsi (pc := 319) hC hz hct (c_L_event hC.2.2.2.1) mi_L_event ww_488 ⟨rfl, rfl⟩ ⟨by decide, by decide⟩ rfl rfl (Nat.le_of_ble_eq_true rfl) ⟨(by show _ ≤ 601024; omega), (by show _ ≤ 7293034; omega)⟩ dL_law_319 (fun r12 V13 => ?_)
            refine g_istore (pc := 322) (L2 := [some (.ref b), some (.ref (ad 0)), some (.ref (ad 60)), some (.ref (ad 93)), some (.int l4), some (.int r12), none]) hC dL_law_322 (by decide) rfl ?_
            refine g_aload_n (pc := 324) hC dL_law_324 rfl ?_
            refine g_aload_n (pc := 325) hC dL_law_325 rfl ?_
            refine g_iload (pc := 326) hC dL_law_326 rfl ?_
            refine g_iconst (pc := 328) hC (1 : Int32) dL_law_328 (by decide) ?_
            refine g_iadd (pc := 329) hC dL_law_329 ?_
            refine g_sld (pc := 330) hC hX hbl hbA dL_law_330 ?_
            refine g_cvi (pc := 331) hC (c_X5_event hC.2.2.2.1) mi_X5_event ww_736 ⟨rfl, rfl⟩ ⟨by decide, by decide⟩ (by decide) rfl rfl rfl rfl (Nat.le_of_ble_eq_true rfl) ⟨(by show _ ≤ 601024; omega), (by show _ ≤ 7293034; omega)⟩ dL_law_331 (fun r14 V15 => ?_)
            refine g_istore (pc := 334) (L2 := [some (.ref b), some (.ref (ad 0)), some (.ref (ad 60)), some (.ref (ad 93)), some (.int l4), some (.int r12), some (.int r14)]) hC dL_law_334 (by decide) rfl ?_
            refine g_aload_n (pc := 336) hC dL_law_336 rfl ?_
            refine g_cvi (pc := 337) hC (c_X5_thrown hC.2.2.2.1) mi_X5_thrown ww_694 ⟨rfl, rfl⟩ ⟨by decide, by decide⟩ (by decide) rfl rfl rfl rfl (Nat.le_of_ble_eq_true rfl) ⟨(by show _ ≤ 601024; omega), (by show _ ≤ 7293034; omega)⟩ dL_law_337 (fun r16 V17 => ?_)
            refine g_iload (pc := 340) hC dL_law_340 rfl ?_
            refine g_icmp_eq (pc := 342) (tgt := 347) hC dL_law_342 (by decide) ?_ ?_
            · refine g_iload (pc := 347) hC dL_law_347 rfl ?_
              refine g_if_ne (pc := 349) (tgt := 364) hC dL_law_349 (by decide) ?_ ?_
              · refine g_goto (pc := 364) (tgt := 805) hC dL_law_364 (by decide) ?_
                refine g_iinc (pc := 805) (L2 := [some (.ref b), some (.ref (ad 0)), some (.ref (ad 60)), some (.ref (ad 93)), some (.int (l4 + 8)), some (.int r12), some (.int r14)]) hC (l4 + 8) dL_law_805 rfl rfl (by decide) rfl ?_
                refine g_goto (pc := 808) (tgt := 23) hC dL_law_808 (by decide) ?_
                exact g_ms [true, true, true, true, true, false, false] (ih_23 _ _ (by omega) (by omega) V17 (l4 + 8))
              · refine g_aload_n (pc := 352) hC dL_law_352 rfl ?_
                refine g_iconst (pc := 353) hC (0 : Int32) dL_law_353 (by decide) ?_
                refine g_lald (pc := 354) hC (by decide) rfl dL_law_354 ?_
                refine g_iload (pc := 355) hC dL_law_355 rfl ?_
                refine g_i2l (pc := 357) hC dL_law_357 ?_
                refine g_lcmp (pc := 358) hC dL_law_358 ?_
                refine g_if_eq (pc := 359) (tgt := 364) hC dL_law_359 (by decide) ?_ ?_
                · refine g_goto (pc := 364) (tgt := 805) hC dL_law_364 (by decide) ?_
                  refine g_iinc (pc := 805) (L2 := [some (.ref b), some (.ref (ad 0)), some (.ref (ad 60)), some (.ref (ad 93)), some (.int (l4 + 8)), some (.int r12), some (.int r14)]) hC (l4 + 8) dL_law_805 rfl rfl (by decide) rfl ?_
                  refine g_goto (pc := 808) (tgt := 23) hC dL_law_808 (by decide) ?_
                  exact g_ms [true, true, true, true, true, false, false] (ih_23 _ _ (by omega) (by omega) V17 (l4 + 8))
                · refine g_iconst (pc := 362) hC (0 : Int32) dL_law_362 (by decide) ?_
                  exact fun h => False.elim h
            · refine g_iconst (pc := 345) hC (0 : Int32) dL_law_345 (by decide) ?_
              exact fun h => False.elim h
          · skip
            refine g_if (fun hs3 => ?_) (fun hs3 => ?_)
            · refine g_swIn (pc := 40) (off := 327) (tgt := 367) hC dL_law_40 (by rw [hs3]; decide) (by rw [hs3]; decide) (by rw [hs3]; decide) (by decide) ?_
              refine g_aload_n (pc := 367) hC dL_law_367 rfl ?_
              refine g_cvi (pc := 368) hC (c_X4_tick hC.2.2.2.1) mi_X4_tick ww_238 ⟨rfl, rfl⟩ ⟨by decide, by decide⟩ (by decide) rfl rfl rfl rfl (Nat.le_of_ble_eq_true rfl) ⟨(by show _ ≤ 601024; omega), (by show _ ≤ 7293034; omega)⟩ dL_law_368 (fun r18 V19 => ?_)
              refine g_aload_n (pc := 371) hC dL_law_371 rfl ?_
              refine g_cvi (pc := 372) hC (c_X5_tick hC.2.2.2.1) mi_X5_tick ww_744 ⟨rfl, rfl⟩ ⟨by decide, by decide⟩ (by decide) rfl rfl rfl rfl (Nat.le_of_ble_eq_true rfl) ⟨(by show _ ≤ 601024; omega), (by show _ ≤ 7293034; omega)⟩ dL_law_372 (fun r20 V21 => ?_)
              refine g_icmp_eq (pc := 375) (tgt := 805) hC dL_law_375 (by decide) ?_ ?_
              · refine g_iinc (pc := 805) (L2 := [some (.ref b), some (.ref (ad 0)), some (.ref (ad 60)), some (.ref (ad 93)), some (.int (l4 + 8)), none, none]) hC (l4 + 8) dL_law_805 rfl rfl (by decide) rfl ?_
                refine g_goto (pc := 808) (tgt := 23) hC dL_law_808 (by decide) ?_
                exact g_ms [true, true, true, true, true, false, false] (ih_23 _ _ (by omega) (by omega) V21 (l4 + 8))
              · refine g_iconst (pc := 378) hC (0 : Int32) dL_law_378 (by decide) ?_
                exact fun h => False.elim h
            · skip
              refine g_if (fun hs4 => ?_) (fun hs4 => ?_)
              · refine g_swIn (pc := 40) (off := 340) (tgt := 380) hC dL_law_40 (by rw [hs4]; decide) (by rw [hs4]; decide) (by rw [hs4]; decide) (by decide) ?_
                refine g_aload_n (pc := 380) hC dL_law_380 rfl ?_
                refine g_aload_n (pc := 381) hC dL_law_381 rfl ?_
                refine g_iload (pc := 382) hC dL_law_382 rfl ?_
                refine g_iconst (pc := 384) hC (1 : Int32) dL_law_384 (by decide) ?_
                refine g_iadd (pc := 385) hC dL_law_385 ?_
                refine g_sld (pc := 386) hC hX hbl hbA dL_law_386 ?_
                refine g_aload_n (pc := 387) hC dL_law_387 rfl ?_
                refine g_lsi (pc := 388) hC hz hct (c_L_ticks hC.2.2.2.1) mi_L_ticks ww_504 ⟨rfl, rfl⟩ ⟨by decide, by decide⟩ rfl rfl (Nat.le_of_ble_eq_true rfl) ⟨(by show _ ≤ 601024; omega), (by show _ ≤ 7293034; omega)⟩ dL_law_388 (fun r22 V23 => ?_)
                refine g_istore (pc := 391) (L2 := [some (.ref b), some (.ref (ad 0)), some (.ref (ad 60)), some (.ref (ad 93)), some (.int l4), some (.int r22), none]) hC dL_law_391 (by decide) rfl ?_
                refine g_aload_n (pc := 393) hC dL_law_393 rfl ?_
                refine g_aload_n (pc := 394) hC dL_law_394 rfl ?_
                refine g_iload (pc := 395) hC dL_law_395 rfl ?_
                refine g_iconst (pc := 397) hC (1 : Int32) dL_law_397 (by decide) ?_
                refine g_iadd (pc := 398) hC dL_law_398 ?_
                refine g_sld (pc := 399) hC hX hbl hbA dL_law_399 ?_
                refine g_cvi (pc := 400) hC (c_X5_ticks hC.2.2.2.1) mi_X5_ticks ww_780 ⟨rfl, rfl⟩ ⟨by decide, by decide⟩ (by decide) rfl rfl rfl rfl (Nat.le_of_ble_eq_true rfl) ⟨(by show _ ≤ 601024; omega), (by show _ ≤ 7293034; omega)⟩ dL_law_400 (fun r24 V25 => ?_)
                refine g_istore (pc := 403) (L2 := [some (.ref b), some (.ref (ad 0)), some (.ref (ad 60)), some (.ref (ad 93)), some (.int l4), some (.int r22), some (.int r24)]) hC dL_law_403 (by decide) rfl ?_
                refine g_aload_n (pc := 405) hC dL_law_405 rfl ?_
                refine g_cvi (pc := 406) hC (c_X5_thrown hC.2.2.2.1) mi_X5_thrown ww_694 ⟨rfl, rfl⟩ ⟨by decide, by decide⟩ (by decide) rfl rfl rfl rfl (Nat.le_of_ble_eq_true rfl) ⟨(by show _ ≤ 601024; omega), (by show _ ≤ 7293034; omega)⟩ dL_law_406 (fun r26 V27 => ?_)
                refine g_iload (pc := 409) hC dL_law_409 rfl ?_
                refine g_icmp_eq (pc := 411) (tgt := 416) hC dL_law_411 (by decide) ?_ ?_
                · refine g_iload (pc := 416) hC dL_law_416 rfl ?_
                  refine g_if_ne (pc := 418) (tgt := 433) hC dL_law_418 (by decide) ?_ ?_
                  · refine g_goto (pc := 433) (tgt := 805) hC dL_law_433 (by decide) ?_
                    refine g_iinc (pc := 805) (L2 := [some (.ref b), some (.ref (ad 0)), some (.ref (ad 60)), some (.ref (ad 93)), some (.int (l4 + 8)), some (.int r22), some (.int r24)]) hC (l4 + 8) dL_law_805 rfl rfl (by decide) rfl ?_
                    refine g_goto (pc := 808) (tgt := 23) hC dL_law_808 (by decide) ?_
                    exact g_ms [true, true, true, true, true, false, false] (ih_23 _ _ (by omega) (by omega) V27 (l4 + 8))
                  · refine g_aload_n (pc := 421) hC dL_law_421 rfl ?_
                    refine g_iconst (pc := 422) hC (0 : Int32) dL_law_422 (by decide) ?_
                    refine g_lald (pc := 423) hC (by decide) rfl dL_law_423 ?_
                    refine g_iload (pc := 424) hC dL_law_424 rfl ?_
                    refine g_i2l (pc := 426) hC dL_law_426 ?_
                    refine g_lcmp (pc := 427) hC dL_law_427 ?_
                    refine g_if_eq (pc := 428) (tgt := 433) hC dL_law_428 (by decide) ?_ ?_
                    · refine g_goto (pc := 433) (tgt := 805) hC dL_law_433 (by decide) ?_
                      refine g_iinc (pc := 805) (L2 := [some (.ref b), some (.ref (ad 0)), some (.ref (ad 60)), some (.ref (ad 93)), some (.int (l4 + 8)), some (.int r22), some (.int r24)]) hC (l4 + 8) dL_law_805 rfl rfl (by decide) rfl ?_
                      refine g_goto (pc := 808) (tgt := 23) hC dL_law_808 (by decide) ?_
                      exact g_ms [true, true, true, true, true, false, false] (ih_23 _ _ (by omega) (by omega) V27 (l4 + 8))
                    · refine g_iconst (pc := 431) hC (0 : Int32) dL_law_431 (by decide) ?_
                      exact fun h => False.elim h
                · refine g_iconst (pc := 414) hC (0 : Int32) dL_law_414 (by decide) ?_
                  exact fun h => False.elim h
              · skip
                refine g_if (fun hs5 => ?_) (fun hs5 => ?_)
                · refine g_swIn (pc := 40) (off := 396) (tgt := 436) hC dL_law_40 (by rw [hs5]; decide) (by rw [hs5]; decide) (by rw [hs5]; decide) (by decide) ?_
                  refine g_aload_n (pc := 436) hC dL_law_436 rfl ?_
                  refine g_aload_n (pc := 437) hC dL_law_437 rfl ?_
                  refine g_iload (pc := 438) hC dL_law_438 rfl ?_
                  refine g_iconst (pc := 440) hC (1 : Int32) dL_law_440 (by decide) ?_
                  refine g_iadd (pc := 441) hC dL_law_441 ?_
                  refine g_sld (pc := 442) hC hX hbl hbA dL_law_442 ?_
                  refine g_aload_n (pc := 443) hC dL_law_443 rfl ?_
                  refine g_iload (pc := 444) hC dL_law_444 rfl ?_
                  refine g_iconst (pc := 446) hC (2 : Int32) dL_law_446 (by decide) ?_
                  refine g_iadd (pc := 447) hC dL_law_447 ?_
                  refine g_sld (pc := 448) hC hX hbl hbA dL_law_448 ?_
                  refine g_aload_n (pc := 449) hC dL_law_449 rfl ?_
                  refine g_lsi (pc := 450) hC hz hct (c_L_about hC.2.2.2.1) mi_L_about ww_512 ⟨rfl, rfl⟩ ⟨by decide, by decide⟩ rfl rfl (Nat.le_of_ble_eq_true rfl) ⟨(by show _ ≤ 601024; omega), (by show _ ≤ 7293034; omega)⟩ dL_law_450 (fun r28 V29 => ?_)
                  refine g_istore (pc := 453) (L2 := [some (.ref b), some (.ref (ad 0)), some (.ref (ad 60)), some (.ref (ad 93)), some (.int l4), some (.int r28), none]) hC dL_law_453 (by decide) rfl ?_
                  refine g_aload_n (pc := 455) hC dL_law_455 rfl ?_
                  refine g_aload_n (pc := 456) hC dL_law_456 rfl ?_
                  refine g_iload (pc := 457) hC dL_law_457 rfl ?_
                  refine g_iconst (pc := 459) hC (1 : Int32) dL_law_459 (by decide) ?_
                  refine g_iadd (pc := 460) hC dL_law_460 ?_
                  refine g_sld (pc := 461) hC hX hbl hbA dL_law_461 ?_
                  refine g_aload_n (pc := 462) hC dL_law_462 rfl ?_
                  refine g_iload (pc := 463) hC dL_law_463 rfl ?_
                  refine g_iconst (pc := 465) hC (2 : Int32) dL_law_465 (by decide) ?_
                  refine g_iadd (pc := 466) hC dL_law_466 ?_
                  refine g_sld (pc := 467) hC hX hbl hbA dL_law_467 ?_
                  refine g_cvi (pc := 468) hC (c_X5_about hC.2.2.2.1) mi_X5_about ww_784 ⟨rfl, rfl⟩ ⟨by decide, by decide⟩ (by decide) rfl rfl rfl rfl (Nat.le_of_ble_eq_true rfl) ⟨(by show _ ≤ 601024; omega), (by show _ ≤ 7293034; omega)⟩ dL_law_468 (fun r30 V31 => ?_)
                  refine g_istore (pc := 471) (L2 := [some (.ref b), some (.ref (ad 0)), some (.ref (ad 60)), some (.ref (ad 93)), some (.int l4), some (.int r28), some (.int r30)]) hC dL_law_471 (by decide) rfl ?_
                  refine g_aload_n (pc := 473) hC dL_law_473 rfl ?_
                  refine g_cvi (pc := 474) hC (c_X5_thrown hC.2.2.2.1) mi_X5_thrown ww_694 ⟨rfl, rfl⟩ ⟨by decide, by decide⟩ (by decide) rfl rfl rfl rfl (Nat.le_of_ble_eq_true rfl) ⟨(by show _ ≤ 601024; omega), (by show _ ≤ 7293034; omega)⟩ dL_law_474 (fun r32 V33 => ?_)
                  refine g_iload (pc := 477) hC dL_law_477 rfl ?_
                  refine g_icmp_eq (pc := 479) (tgt := 484) hC dL_law_479 (by decide) ?_ ?_
                  · refine g_iload (pc := 484) hC dL_law_484 rfl ?_
                    refine g_if_ne (pc := 486) (tgt := 501) hC dL_law_486 (by decide) ?_ ?_
                    · refine g_goto (pc := 501) (tgt := 805) hC dL_law_501 (by decide) ?_
                      refine g_iinc (pc := 805) (L2 := [some (.ref b), some (.ref (ad 0)), some (.ref (ad 60)), some (.ref (ad 93)), some (.int (l4 + 8)), some (.int r28), some (.int r30)]) hC (l4 + 8) dL_law_805 rfl rfl (by decide) rfl ?_
                      refine g_goto (pc := 808) (tgt := 23) hC dL_law_808 (by decide) ?_
                      exact g_ms [true, true, true, true, true, false, false] (ih_23 _ _ (by omega) (by omega) V33 (l4 + 8))
                    · refine g_aload_n (pc := 489) hC dL_law_489 rfl ?_
                      refine g_iconst (pc := 490) hC (0 : Int32) dL_law_490 (by decide) ?_
                      refine g_lald (pc := 491) hC (by decide) rfl dL_law_491 ?_
                      refine g_iload (pc := 492) hC dL_law_492 rfl ?_
                      refine g_i2l (pc := 494) hC dL_law_494 ?_
                      refine g_lcmp (pc := 495) hC dL_law_495 ?_
                      refine g_if_eq (pc := 496) (tgt := 501) hC dL_law_496 (by decide) ?_ ?_
                      · refine g_goto (pc := 501) (tgt := 805) hC dL_law_501 (by decide) ?_
                        refine g_iinc (pc := 805) (L2 := [some (.ref b), some (.ref (ad 0)), some (.ref (ad 60)), some (.ref (ad 93)), some (.int (l4 + 8)), some (.int r28), some (.int r30)]) hC (l4 + 8) dL_law_805 rfl rfl (by decide) rfl ?_
                        refine g_goto (pc := 808) (tgt := 23) hC dL_law_808 (by decide) ?_
                        exact g_ms [true, true, true, true, true, false, false] (ih_23 _ _ (by omega) (by omega) V33 (l4 + 8))
                      · refine g_iconst (pc := 499) hC (0 : Int32) dL_law_499 (by decide) ?_
                        exact fun h => False.elim h
                  · refine g_iconst (pc := 482) hC (0 : Int32) dL_law_482 (by decide) ?_
                    exact fun h => False.elim h
                · skip
                  refine g_if (fun hs6 => ?_) (fun hs6 => ?_)
                  · refine g_swIn (pc := 40) (off := 464) (tgt := 504) hC dL_law_40 (by rw [hs6]; decide) (by rw [hs6]; decide) (by rw [hs6]; decide) (by decide) ?_
                    refine g_aload_n (pc := 504) hC dL_law_504 rfl ?_
                    refine g_aload_n (pc := 505) hC dL_law_505 rfl ?_
                    refine g_iload (pc := 506) hC dL_law_506 rfl ?_
                    refine g_iconst (pc := 508) hC (1 : Int32) dL_law_508 (by decide) ?_
                    refine g_iadd (pc := 509) hC dL_law_509 ?_
                    refine g_sld (pc := 510) hC hX hbl hbA dL_law_510 ?_
                    refine g_aload_n (pc := 511) hC dL_law_511 rfl ?_
                    refine g_iload (pc := 512) hC dL_law_512 rfl ?_
                    refine g_iconst (pc := 514) hC (2 : Int32) dL_law_514 (by decide) ?_
                    refine g_iadd (pc := 515) hC dL_law_515 ?_
                    refine g_sld (pc := 516) hC hX hbl hbA dL_law_516 ?_
                    refine g_aload_n (pc := 517) hC dL_law_517 rfl ?_
                    refine g_lsi (pc := 518) hC hz hct (c_L_task hC.2.2.2.1) mi_L_task ww_547 ⟨rfl, rfl⟩ ⟨by decide, by decide⟩ rfl rfl (Nat.le_of_ble_eq_true rfl) ⟨(by show _ ≤ 601024; omega), (by show _ ≤ 7293034; omega)⟩ dL_law_518 (fun r34 V35 => ?_)
                    refine g_istore (pc := 521) (L2 := [some (.ref b), some (.ref (ad 0)), some (.ref (ad 60)), some (.ref (ad 93)), some (.int l4), some (.int r34), none]) hC dL_law_521 (by decide) rfl ?_
                    refine g_aload_n (pc := 523) hC dL_law_523 rfl ?_
                    refine g_aload_n (pc := 524) hC dL_law_524 rfl ?_
                    refine g_iload (pc := 525) hC dL_law_525 rfl ?_
                    refine g_iconst (pc := 527) hC (1 : Int32) dL_law_527 (by decide) ?_
                    refine g_iadd (pc := 528) hC dL_law_528 ?_
                    refine g_sld (pc := 529) hC hX hbl hbA dL_law_529 ?_
                    refine g_aload_n (pc := 530) hC dL_law_530 rfl ?_
                    refine g_iload (pc := 531) hC dL_law_531 rfl ?_
                    refine g_iconst (pc := 533) hC (2 : Int32) dL_law_533 (by decide) ?_
                    refine g_iadd (pc := 534) hC dL_law_534 ?_
                    refine g_sld (pc := 535) hC hX hbl hbA dL_law_535 ?_
                    refine g_cvi (pc := 536) hC (c_X5_task hC.2.2.2.1) mi_X5_task ww_792 ⟨rfl, rfl⟩ ⟨by decide, by decide⟩ (by decide) rfl rfl rfl rfl (Nat.le_of_ble_eq_true rfl) ⟨(by show _ ≤ 601024; omega), (by show _ ≤ 7293034; omega)⟩ dL_law_536 (fun r36 V37 => ?_)
                    refine g_istore (pc := 539) (L2 := [some (.ref b), some (.ref (ad 0)), some (.ref (ad 60)), some (.ref (ad 93)), some (.int l4), some (.int r34), some (.int r36)]) hC dL_law_539 (by decide) rfl ?_
                    refine g_aload_n (pc := 541) hC dL_law_541 rfl ?_
                    refine g_cvi (pc := 542) hC (c_X5_thrown hC.2.2.2.1) mi_X5_thrown ww_694 ⟨rfl, rfl⟩ ⟨by decide, by decide⟩ (by decide) rfl rfl rfl rfl (Nat.le_of_ble_eq_true rfl) ⟨(by show _ ≤ 601024; omega), (by show _ ≤ 7293034; omega)⟩ dL_law_542 (fun r38 V39 => ?_)
                    refine g_iload (pc := 545) hC dL_law_545 rfl ?_
                    refine g_icmp_eq (pc := 547) (tgt := 552) hC dL_law_547 (by decide) ?_ ?_
                    · refine g_iload (pc := 552) hC dL_law_552 rfl ?_
                      refine g_if_ne (pc := 554) (tgt := 569) hC dL_law_554 (by decide) ?_ ?_
                      · refine g_goto (pc := 569) (tgt := 805) hC dL_law_569 (by decide) ?_
                        refine g_iinc (pc := 805) (L2 := [some (.ref b), some (.ref (ad 0)), some (.ref (ad 60)), some (.ref (ad 93)), some (.int (l4 + 8)), some (.int r34), some (.int r36)]) hC (l4 + 8) dL_law_805 rfl rfl (by decide) rfl ?_
                        refine g_goto (pc := 808) (tgt := 23) hC dL_law_808 (by decide) ?_
                        exact g_ms [true, true, true, true, true, false, false] (ih_23 _ _ (by omega) (by omega) V39 (l4 + 8))
                      · refine g_aload_n (pc := 557) hC dL_law_557 rfl ?_
                        refine g_iconst (pc := 558) hC (0 : Int32) dL_law_558 (by decide) ?_
                        refine g_lald (pc := 559) hC (by decide) rfl dL_law_559 ?_
                        refine g_iload (pc := 560) hC dL_law_560 rfl ?_
                        refine g_i2l (pc := 562) hC dL_law_562 ?_
                        refine g_lcmp (pc := 563) hC dL_law_563 ?_
                        refine g_if_eq (pc := 564) (tgt := 569) hC dL_law_564 (by decide) ?_ ?_
                        · refine g_goto (pc := 569) (tgt := 805) hC dL_law_569 (by decide) ?_
                          refine g_iinc (pc := 805) (L2 := [some (.ref b), some (.ref (ad 0)), some (.ref (ad 60)), some (.ref (ad 93)), some (.int (l4 + 8)), some (.int r34), some (.int r36)]) hC (l4 + 8) dL_law_805 rfl rfl (by decide) rfl ?_
                          refine g_goto (pc := 808) (tgt := 23) hC dL_law_808 (by decide) ?_
                          exact g_ms [true, true, true, true, true, false, false] (ih_23 _ _ (by omega) (by omega) V39 (l4 + 8))
                        · refine g_iconst (pc := 567) hC (0 : Int32) dL_law_567 (by decide) ?_
                          exact fun h => False.elim h
                    · refine g_iconst (pc := 550) hC (0 : Int32) dL_law_550 (by decide) ?_
                      exact fun h => False.elim h
                  · skip
                    refine g_if (fun hs7 => ?_) (fun hs7 => ?_)
                    · refine g_swIn (pc := 40) (off := 532) (tgt := 572) hC dL_law_40 (by rw [hs7]; decide) (by rw [hs7]; decide) (by rw [hs7]; decide) (by decide) ?_
                      refine g_aload_n (pc := 572) hC dL_law_572 rfl ?_
                      refine g_aload_n (pc := 573) hC dL_law_573 rfl ?_
                      refine g_iload (pc := 574) hC dL_law_574 rfl ?_
                      refine g_iconst (pc := 576) hC (1 : Int32) dL_law_576 (by decide) ?_
                      refine g_iadd (pc := 577) hC dL_law_577 ?_
                      refine g_sld (pc := 578) hC hX hbl hbA dL_law_578 ?_
                      refine g_aload_n (pc := 579) hC dL_law_579 rfl ?_
                      refine g_lsi (pc := 580) hC hz hct (c_L_bound hC.2.2.2.1) mi_L_bound ww_554 ⟨rfl, rfl⟩ ⟨by decide, by decide⟩ rfl rfl (Nat.le_of_ble_eq_true rfl) ⟨(by show _ ≤ 601024; omega), (by show _ ≤ 7293034; omega)⟩ dL_law_580 (fun r40 V41 => ?_)
                      refine g_istore (pc := 583) (L2 := [some (.ref b), some (.ref (ad 0)), some (.ref (ad 60)), some (.ref (ad 93)), some (.int l4), some (.int r40), none]) hC dL_law_583 (by decide) rfl ?_
                      refine g_aload_n (pc := 585) hC dL_law_585 rfl ?_
                      refine g_aload_n (pc := 586) hC dL_law_586 rfl ?_
                      refine g_iload (pc := 587) hC dL_law_587 rfl ?_
                      refine g_iconst (pc := 589) hC (1 : Int32) dL_law_589 (by decide) ?_
                      refine g_iadd (pc := 590) hC dL_law_590 ?_
                      refine g_sld (pc := 591) hC hX hbl hbA dL_law_591 ?_
                      refine g_cvi (pc := 592) hC (c_X5_bound hC.2.2.2.1) mi_X5_bound ww_796 ⟨rfl, rfl⟩ ⟨by decide, by decide⟩ (by decide) rfl rfl rfl rfl (Nat.le_of_ble_eq_true rfl) ⟨(by show _ ≤ 601024; omega), (by show _ ≤ 7293034; omega)⟩ dL_law_592 (fun r42 V43 => ?_)
                      refine g_istore (pc := 595) (L2 := [some (.ref b), some (.ref (ad 0)), some (.ref (ad 60)), some (.ref (ad 93)), some (.int l4), some (.int r40), some (.int r42)]) hC dL_law_595 (by decide) rfl ?_
                      refine g_aload_n (pc := 597) hC dL_law_597 rfl ?_
                      refine g_cvi (pc := 598) hC (c_X5_thrown hC.2.2.2.1) mi_X5_thrown ww_694 ⟨rfl, rfl⟩ ⟨by decide, by decide⟩ (by decide) rfl rfl rfl rfl (Nat.le_of_ble_eq_true rfl) ⟨(by show _ ≤ 601024; omega), (by show _ ≤ 7293034; omega)⟩ dL_law_598 (fun r44 V45 => ?_)
                      refine g_iload (pc := 601) hC dL_law_601 rfl ?_
                      refine g_icmp_eq (pc := 603) (tgt := 608) hC dL_law_603 (by decide) ?_ ?_
                      · refine g_iload (pc := 608) hC dL_law_608 rfl ?_
                        refine g_if_ne (pc := 610) (tgt := 625) hC dL_law_610 (by decide) ?_ ?_
                        · refine g_goto (pc := 625) (tgt := 805) hC dL_law_625 (by decide) ?_
                          refine g_iinc (pc := 805) (L2 := [some (.ref b), some (.ref (ad 0)), some (.ref (ad 60)), some (.ref (ad 93)), some (.int (l4 + 8)), some (.int r40), some (.int r42)]) hC (l4 + 8) dL_law_805 rfl rfl (by decide) rfl ?_
                          refine g_goto (pc := 808) (tgt := 23) hC dL_law_808 (by decide) ?_
                          exact g_ms [true, true, true, true, true, false, false] (ih_23 _ _ (by omega) (by omega) V45 (l4 + 8))
                        · refine g_aload_n (pc := 613) hC dL_law_613 rfl ?_
                          refine g_iconst (pc := 614) hC (0 : Int32) dL_law_614 (by decide) ?_
                          refine g_lald (pc := 615) hC (by decide) rfl dL_law_615 ?_
                          refine g_iload (pc := 616) hC dL_law_616 rfl ?_
                          refine g_i2l (pc := 618) hC dL_law_618 ?_
                          refine g_lcmp (pc := 619) hC dL_law_619 ?_
                          refine g_if_eq (pc := 620) (tgt := 625) hC dL_law_620 (by decide) ?_ ?_
                          · refine g_goto (pc := 625) (tgt := 805) hC dL_law_625 (by decide) ?_
                            refine g_iinc (pc := 805) (L2 := [some (.ref b), some (.ref (ad 0)), some (.ref (ad 60)), some (.ref (ad 93)), some (.int (l4 + 8)), some (.int r40), some (.int r42)]) hC (l4 + 8) dL_law_805 rfl rfl (by decide) rfl ?_
                            refine g_goto (pc := 808) (tgt := 23) hC dL_law_808 (by decide) ?_
                            exact g_ms [true, true, true, true, true, false, false] (ih_23 _ _ (by omega) (by omega) V45 (l4 + 8))
                          · refine g_iconst (pc := 623) hC (0 : Int32) dL_law_623 (by decide) ?_
                            exact fun h => False.elim h
                      · refine g_iconst (pc := 606) hC (0 : Int32) dL_law_606 (by decide) ?_
                        exact fun h => False.elim h
                    · skip
                      refine g_if (fun hs8 => ?_) (fun hs8 => ?_)
                      · refine g_swIn (pc := 40) (off := 588) (tgt := 628) hC dL_law_40 (by rw [hs8]; decide) (by rw [hs8]; decide) (by rw [hs8]; decide) (by decide) ?_
                        refine g_aload_n (pc := 628) hC dL_law_628 rfl ?_
                        refine g_aload_n (pc := 629) hC dL_law_629 rfl ?_
                        refine g_iload (pc := 630) hC dL_law_630 rfl ?_
                        refine g_iconst (pc := 632) hC (1 : Int32) dL_law_632 (by decide) ?_
                        refine g_iadd (pc := 633) hC dL_law_633 ?_
                        refine g_sld (pc := 634) hC hX hbl hbA dL_law_634 ?_
                        refine g_aload_n (pc := 635) hC dL_law_635 rfl ?_
                        refine g_iload (pc := 636) hC dL_law_636 rfl ?_
                        refine g_iconst (pc := 638) hC (2 : Int32) dL_law_638 (by decide) ?_
                        refine g_iadd (pc := 639) hC dL_law_639 ?_
                        refine g_sld (pc := 640) hC hX hbl hbA dL_law_640 ?_
                        refine g_if_eq (pc := 641) (tgt := 648) hC dL_law_641 (by decide) ?_ ?_
                        · refine g_iconst (pc := 648) hC (0 : Int32) dL_law_648 (by decide) ?_
                          refine g_aload_n (pc := 649) hC dL_law_649 rfl ?_
                          refine g_iload (pc := 650) hC dL_law_650 rfl ?_
                          refine g_iconst (pc := 652) hC (3 : Int32) dL_law_652 (by decide) ?_
                          refine g_iadd (pc := 653) hC dL_law_653 ?_
                          refine g_sld (pc := 654) hC hX hbl hbA dL_law_654 ?_
                          refine g_aload_n (pc := 655) hC dL_law_655 rfl ?_
                          refine g_iload (pc := 656) hC dL_law_656 rfl ?_
                          refine g_iconst (pc := 658) hC (4 : Int32) dL_law_658 (by decide) ?_
                          refine g_iadd (pc := 659) hC dL_law_659 ?_
                          refine g_sld (pc := 660) hC hX hbl hbA dL_law_660 ?_
                          refine g_aload_n (pc := 661) hC dL_law_661 rfl ?_
                          refine g_lsi (pc := 662) hC hz hct (c_L_used hC.2.2.2.1) mi_L_used ww_565 ⟨rfl, rfl⟩ ⟨by decide, by decide⟩ rfl rfl (Nat.le_of_ble_eq_true rfl) ⟨(by show _ ≤ 601024; omega), (by show _ ≤ 7293034; omega)⟩ dL_law_662 (fun r46 V47 => ?_)
                          refine g_istore (pc := 665) (L2 := [some (.ref b), some (.ref (ad 0)), some (.ref (ad 60)), some (.ref (ad 93)), some (.int l4), some (.int r46), none]) hC dL_law_665 (by decide) rfl ?_
                          refine g_aload_n (pc := 667) hC dL_law_667 rfl ?_
                          refine g_aload_n (pc := 668) hC dL_law_668 rfl ?_
                          refine g_iload (pc := 669) hC dL_law_669 rfl ?_
                          refine g_iconst (pc := 671) hC (1 : Int32) dL_law_671 (by decide) ?_
                          refine g_iadd (pc := 672) hC dL_law_672 ?_
                          refine g_sld (pc := 673) hC hX hbl hbA dL_law_673 ?_
                          refine g_aload_n (pc := 674) hC dL_law_674 rfl ?_
                          refine g_iload (pc := 675) hC dL_law_675 rfl ?_
                          refine g_iconst (pc := 677) hC (2 : Int32) dL_law_677 (by decide) ?_
                          refine g_iadd (pc := 678) hC dL_law_678 ?_
                          refine g_sld (pc := 679) hC hX hbl hbA dL_law_679 ?_
                          refine g_if_eq (pc := 680) (tgt := 687) hC dL_law_680 (by decide) ?_ ?_
                          · refine g_iconst (pc := 687) hC (0 : Int32) dL_law_687 (by decide) ?_
                            refine g_aload_n (pc := 688) hC dL_law_688 rfl ?_
                            refine g_iload (pc := 689) hC dL_law_689 rfl ?_
                            refine g_iconst (pc := 691) hC (3 : Int32) dL_law_691 (by decide) ?_
                            refine g_iadd (pc := 692) hC dL_law_692 ?_
                            refine g_sld (pc := 693) hC hX hbl hbA dL_law_693 ?_
                            refine g_aload_n (pc := 694) hC dL_law_694 rfl ?_
                            refine g_iload (pc := 695) hC dL_law_695 rfl ?_
                            refine g_iconst (pc := 697) hC (4 : Int32) dL_law_697 (by decide) ?_
                            refine g_iadd (pc := 698) hC dL_law_698 ?_
                            refine g_sld (pc := 699) hC hX hbl hbA dL_law_699 ?_
                            refine g_cvi (pc := 700) hC (c_X5_used hC.2.2.2.1) mi_X5_used ww_808 ⟨rfl, rfl⟩ ⟨by decide, by decide⟩ (by decide) rfl rfl rfl rfl (Nat.le_of_ble_eq_true rfl) ⟨(by show _ ≤ 601024; omega), (by show _ ≤ 7293034; omega)⟩ dL_law_700 (fun r48 V49 => ?_)
                            refine g_istore (pc := 703) (L2 := [some (.ref b), some (.ref (ad 0)), some (.ref (ad 60)), some (.ref (ad 93)), some (.int l4), some (.int r46), some (.int r48)]) hC dL_law_703 (by decide) rfl ?_
                            refine g_aload_n (pc := 705) hC dL_law_705 rfl ?_
                            refine g_cvi (pc := 706) hC (c_X5_thrown hC.2.2.2.1) mi_X5_thrown ww_694 ⟨rfl, rfl⟩ ⟨by decide, by decide⟩ (by decide) rfl rfl rfl rfl (Nat.le_of_ble_eq_true rfl) ⟨(by show _ ≤ 601024; omega), (by show _ ≤ 7293034; omega)⟩ dL_law_706 (fun r50 V51 => ?_)
                            refine g_iload (pc := 709) hC dL_law_709 rfl ?_
                            refine g_icmp_eq (pc := 711) (tgt := 716) hC dL_law_711 (by decide) ?_ ?_
                            · refine g_iload (pc := 716) hC dL_law_716 rfl ?_
                              refine g_if_ne (pc := 718) (tgt := 733) hC dL_law_718 (by decide) ?_ ?_
                              · refine g_goto (pc := 733) (tgt := 805) hC dL_law_733 (by decide) ?_
                                refine g_iinc (pc := 805) (L2 := [some (.ref b), some (.ref (ad 0)), some (.ref (ad 60)), some (.ref (ad 93)), some (.int (l4 + 8)), some (.int r46), some (.int r48)]) hC (l4 + 8) dL_law_805 rfl rfl (by decide) rfl ?_
                                refine g_goto (pc := 808) (tgt := 23) hC dL_law_808 (by decide) ?_
                                exact g_ms [true, true, true, true, true, false, false] (ih_23 _ _ (by omega) (by omega) V51 (l4 + 8))
                              · refine g_aload_n (pc := 721) hC dL_law_721 rfl ?_
                                refine g_iconst (pc := 722) hC (0 : Int32) dL_law_722 (by decide) ?_
                                refine g_lald (pc := 723) hC (by decide) rfl dL_law_723 ?_
                                refine g_iload (pc := 724) hC dL_law_724 rfl ?_
                                refine g_i2l (pc := 726) hC dL_law_726 ?_
                                refine g_lcmp (pc := 727) hC dL_law_727 ?_
                                refine g_if_eq (pc := 728) (tgt := 733) hC dL_law_728 (by decide) ?_ ?_
                                · refine g_goto (pc := 733) (tgt := 805) hC dL_law_733 (by decide) ?_
                                  refine g_iinc (pc := 805) (L2 := [some (.ref b), some (.ref (ad 0)), some (.ref (ad 60)), some (.ref (ad 93)), some (.int (l4 + 8)), some (.int r46), some (.int r48)]) hC (l4 + 8) dL_law_805 rfl rfl (by decide) rfl ?_
                                  refine g_goto (pc := 808) (tgt := 23) hC dL_law_808 (by decide) ?_
                                  exact g_ms [true, true, true, true, true, false, false] (ih_23 _ _ (by omega) (by omega) V51 (l4 + 8))
                                · refine g_iconst (pc := 731) hC (0 : Int32) dL_law_731 (by decide) ?_
                                  exact fun h => False.elim h
                            · refine g_iconst (pc := 714) hC (0 : Int32) dL_law_714 (by decide) ?_
                              exact fun h => False.elim h
                          · refine g_iconst (pc := 683) hC (1 : Int32) dL_law_683 (by decide) ?_
                            refine g_goto (pc := 684) (tgt := 688) hC dL_law_684 (by decide) ?_
                            refine g_aload_n (pc := 688) hC dL_law_688 rfl ?_
                            refine g_iload (pc := 689) hC dL_law_689 rfl ?_
                            refine g_iconst (pc := 691) hC (3 : Int32) dL_law_691 (by decide) ?_
                            refine g_iadd (pc := 692) hC dL_law_692 ?_
                            refine g_sld (pc := 693) hC hX hbl hbA dL_law_693 ?_
                            refine g_aload_n (pc := 694) hC dL_law_694 rfl ?_
                            refine g_iload (pc := 695) hC dL_law_695 rfl ?_
                            refine g_iconst (pc := 697) hC (4 : Int32) dL_law_697 (by decide) ?_
                            refine g_iadd (pc := 698) hC dL_law_698 ?_
                            refine g_sld (pc := 699) hC hX hbl hbA dL_law_699 ?_
                            refine g_cvi (pc := 700) hC (c_X5_used hC.2.2.2.1) mi_X5_used ww_808 ⟨rfl, rfl⟩ ⟨by decide, by decide⟩ (by decide) rfl rfl rfl rfl (Nat.le_of_ble_eq_true rfl) ⟨(by show _ ≤ 601024; omega), (by show _ ≤ 7293034; omega)⟩ dL_law_700 (fun r52 V53 => ?_)
                            refine g_istore (pc := 703) (L2 := [some (.ref b), some (.ref (ad 0)), some (.ref (ad 60)), some (.ref (ad 93)), some (.int l4), some (.int r46), some (.int r52)]) hC dL_law_703 (by decide) rfl ?_
                            refine g_aload_n (pc := 705) hC dL_law_705 rfl ?_
                            refine g_cvi (pc := 706) hC (c_X5_thrown hC.2.2.2.1) mi_X5_thrown ww_694 ⟨rfl, rfl⟩ ⟨by decide, by decide⟩ (by decide) rfl rfl rfl rfl (Nat.le_of_ble_eq_true rfl) ⟨(by show _ ≤ 601024; omega), (by show _ ≤ 7293034; omega)⟩ dL_law_706 (fun r54 V55 => ?_)
                            refine g_iload (pc := 709) hC dL_law_709 rfl ?_
                            refine g_icmp_eq (pc := 711) (tgt := 716) hC dL_law_711 (by decide) ?_ ?_
                            · refine g_iload (pc := 716) hC dL_law_716 rfl ?_
                              refine g_if_ne (pc := 718) (tgt := 733) hC dL_law_718 (by decide) ?_ ?_
                              · refine g_goto (pc := 733) (tgt := 805) hC dL_law_733 (by decide) ?_
                                refine g_iinc (pc := 805) (L2 := [some (.ref b), some (.ref (ad 0)), some (.ref (ad 60)), some (.ref (ad 93)), some (.int (l4 + 8)), some (.int r46), some (.int r52)]) hC (l4 + 8) dL_law_805 rfl rfl (by decide) rfl ?_
                                refine g_goto (pc := 808) (tgt := 23) hC dL_law_808 (by decide) ?_
                                exact g_ms [true, true, true, true, true, false, false] (ih_23 _ _ (by omega) (by omega) V55 (l4 + 8))
                              · refine g_aload_n (pc := 721) hC dL_law_721 rfl ?_
                                refine g_iconst (pc := 722) hC (0 : Int32) dL_law_722 (by decide) ?_
                                refine g_lald (pc := 723) hC (by decide) rfl dL_law_723 ?_
                                refine g_iload (pc := 724) hC dL_law_724 rfl ?_
                                refine g_i2l (pc := 726) hC dL_law_726 ?_
                                refine g_lcmp (pc := 727) hC dL_law_727 ?_
                                refine g_if_eq (pc := 728) (tgt := 733) hC dL_law_728 (by decide) ?_ ?_
                                · refine g_goto (pc := 733) (tgt := 805) hC dL_law_733 (by decide) ?_
                                  refine g_iinc (pc := 805) (L2 := [some (.ref b), some (.ref (ad 0)), some (.ref (ad 60)), some (.ref (ad 93)), some (.int (l4 + 8)), some (.int r46), some (.int r52)]) hC (l4 + 8) dL_law_805 rfl rfl (by decide) rfl ?_
                                  refine g_goto (pc := 808) (tgt := 23) hC dL_law_808 (by decide) ?_
                                  exact g_ms [true, true, true, true, true, false, false] (ih_23 _ _ (by omega) (by omega) V55 (l4 + 8))
                                · refine g_iconst (pc := 731) hC (0 : Int32) dL_law_731 (by decide) ?_
                                  exact fun h => False.elim h
                            · refine g_iconst (pc := 714) hC (0 : Int32) dL_law_714 (by decide) ?_
                              exact fun h => False.elim h
                        · refine g_iconst (pc := 644) hC (1 : Int32) dL_law_644 (by decide) ?_
                          refine g_goto (pc := 645) (tgt := 649) hC dL_law_645 (by decide) ?_
                          refine g_aload_n (pc := 649) hC dL_law_649 rfl ?_
                          refine g_iload (pc := 650) hC dL_law_650 rfl ?_
                          refine g_iconst (pc := 652) hC (3 : Int32) dL_law_652 (by decide) ?_
                          refine g_iadd (pc := 653) hC dL_law_653 ?_
                          refine g_sld (pc := 654) hC hX hbl hbA dL_law_654 ?_
                          refine g_aload_n (pc := 655) hC dL_law_655 rfl ?_
                          refine g_iload (pc := 656) hC dL_law_656 rfl ?_
                          refine g_iconst (pc := 658) hC (4 : Int32) dL_law_658 (by decide) ?_
                          refine g_iadd (pc := 659) hC dL_law_659 ?_
                          refine g_sld (pc := 660) hC hX hbl hbA dL_law_660 ?_
                          refine g_aload_n (pc := 661) hC dL_law_661 rfl ?_
                          refine g_lsi (pc := 662) hC hz hct (c_L_used hC.2.2.2.1) mi_L_used ww_565 ⟨rfl, rfl⟩ ⟨by decide, by decide⟩ rfl rfl (Nat.le_of_ble_eq_true rfl) ⟨(by show _ ≤ 601024; omega), (by show _ ≤ 7293034; omega)⟩ dL_law_662 (fun r56 V57 => ?_)
                          refine g_istore (pc := 665) (L2 := [some (.ref b), some (.ref (ad 0)), some (.ref (ad 60)), some (.ref (ad 93)), some (.int l4), some (.int r56), none]) hC dL_law_665 (by decide) rfl ?_
                          refine g_aload_n (pc := 667) hC dL_law_667 rfl ?_
                          refine g_aload_n (pc := 668) hC dL_law_668 rfl ?_
                          refine g_iload (pc := 669) hC dL_law_669 rfl ?_
                          refine g_iconst (pc := 671) hC (1 : Int32) dL_law_671 (by decide) ?_
                          refine g_iadd (pc := 672) hC dL_law_672 ?_
                          refine g_sld (pc := 673) hC hX hbl hbA dL_law_673 ?_
                          refine g_aload_n (pc := 674) hC dL_law_674 rfl ?_
                          refine g_iload (pc := 675) hC dL_law_675 rfl ?_
                          refine g_iconst (pc := 677) hC (2 : Int32) dL_law_677 (by decide) ?_
                          refine g_iadd (pc := 678) hC dL_law_678 ?_
                          refine g_sld (pc := 679) hC hX hbl hbA dL_law_679 ?_
                          refine g_if_eq (pc := 680) (tgt := 687) hC dL_law_680 (by decide) ?_ ?_
                          · refine g_iconst (pc := 687) hC (0 : Int32) dL_law_687 (by decide) ?_
                            refine g_aload_n (pc := 688) hC dL_law_688 rfl ?_
                            refine g_iload (pc := 689) hC dL_law_689 rfl ?_
                            refine g_iconst (pc := 691) hC (3 : Int32) dL_law_691 (by decide) ?_
                            refine g_iadd (pc := 692) hC dL_law_692 ?_
                            refine g_sld (pc := 693) hC hX hbl hbA dL_law_693 ?_
                            refine g_aload_n (pc := 694) hC dL_law_694 rfl ?_
                            refine g_iload (pc := 695) hC dL_law_695 rfl ?_
                            refine g_iconst (pc := 697) hC (4 : Int32) dL_law_697 (by decide) ?_
                            refine g_iadd (pc := 698) hC dL_law_698 ?_
                            refine g_sld (pc := 699) hC hX hbl hbA dL_law_699 ?_
                            refine g_cvi (pc := 700) hC (c_X5_used hC.2.2.2.1) mi_X5_used ww_808 ⟨rfl, rfl⟩ ⟨by decide, by decide⟩ (by decide) rfl rfl rfl rfl (Nat.le_of_ble_eq_true rfl) ⟨(by show _ ≤ 601024; omega), (by show _ ≤ 7293034; omega)⟩ dL_law_700 (fun r58 V59 => ?_)
                            refine g_istore (pc := 703) (L2 := [some (.ref b), some (.ref (ad 0)), some (.ref (ad 60)), some (.ref (ad 93)), some (.int l4), some (.int r56), some (.int r58)]) hC dL_law_703 (by decide) rfl ?_
                            refine g_aload_n (pc := 705) hC dL_law_705 rfl ?_
                            refine g_cvi (pc := 706) hC (c_X5_thrown hC.2.2.2.1) mi_X5_thrown ww_694 ⟨rfl, rfl⟩ ⟨by decide, by decide⟩ (by decide) rfl rfl rfl rfl (Nat.le_of_ble_eq_true rfl) ⟨(by show _ ≤ 601024; omega), (by show _ ≤ 7293034; omega)⟩ dL_law_706 (fun r60 V61 => ?_)
                            refine g_iload (pc := 709) hC dL_law_709 rfl ?_
                            refine g_icmp_eq (pc := 711) (tgt := 716) hC dL_law_711 (by decide) ?_ ?_
                            · refine g_iload (pc := 716) hC dL_law_716 rfl ?_
                              refine g_if_ne (pc := 718) (tgt := 733) hC dL_law_718 (by decide) ?_ ?_
                              · refine g_goto (pc := 733) (tgt := 805) hC dL_law_733 (by decide) ?_
                                refine g_iinc (pc := 805) (L2 := [some (.ref b), some (.ref (ad 0)), some (.ref (ad 60)), some (.ref (ad 93)), some (.int (l4 + 8)), some (.int r56), some (.int r58)]) hC (l4 + 8) dL_law_805 rfl rfl (by decide) rfl ?_
                                refine g_goto (pc := 808) (tgt := 23) hC dL_law_808 (by decide) ?_
                                exact g_ms [true, true, true, true, true, false, false] (ih_23 _ _ (by omega) (by omega) V61 (l4 + 8))
                              · refine g_aload_n (pc := 721) hC dL_law_721 rfl ?_
                                refine g_iconst (pc := 722) hC (0 : Int32) dL_law_722 (by decide) ?_
                                refine g_lald (pc := 723) hC (by decide) rfl dL_law_723 ?_
                                refine g_iload (pc := 724) hC dL_law_724 rfl ?_
                                refine g_i2l (pc := 726) hC dL_law_726 ?_
                                refine g_lcmp (pc := 727) hC dL_law_727 ?_
                                refine g_if_eq (pc := 728) (tgt := 733) hC dL_law_728 (by decide) ?_ ?_
                                · refine g_goto (pc := 733) (tgt := 805) hC dL_law_733 (by decide) ?_
                                  refine g_iinc (pc := 805) (L2 := [some (.ref b), some (.ref (ad 0)), some (.ref (ad 60)), some (.ref (ad 93)), some (.int (l4 + 8)), some (.int r56), some (.int r58)]) hC (l4 + 8) dL_law_805 rfl rfl (by decide) rfl ?_
                                  refine g_goto (pc := 808) (tgt := 23) hC dL_law_808 (by decide) ?_
                                  exact g_ms [true, true, true, true, true, false, false] (ih_23 _ _ (by omega) (by omega) V61 (l4 + 8))
                                · refine g_iconst (pc := 731) hC (0 : Int32) dL_law_731 (by decide) ?_
                                  exact fun h => False.elim h
                            · refine g_iconst (pc := 714) hC (0 : Int32) dL_law_714 (by decide) ?_
                              exact fun h => False.elim h
                          · refine g_iconst (pc := 683) hC (1 : Int32) dL_law_683 (by decide) ?_
                            refine g_goto (pc := 684) (tgt := 688) hC dL_law_684 (by decide) ?_
                            refine g_aload_n (pc := 688) hC dL_law_688 rfl ?_
                            refine g_iload (pc := 689) hC dL_law_689 rfl ?_
                            refine g_iconst (pc := 691) hC (3 : Int32) dL_law_691 (by decide) ?_
                            refine g_iadd (pc := 692) hC dL_law_692 ?_
                            refine g_sld (pc := 693) hC hX hbl hbA dL_law_693 ?_
                            refine g_aload_n (pc := 694) hC dL_law_694 rfl ?_
                            refine g_iload (pc := 695) hC dL_law_695 rfl ?_
                            refine g_iconst (pc := 697) hC (4 : Int32) dL_law_697 (by decide) ?_
                            refine g_iadd (pc := 698) hC dL_law_698 ?_
                            refine g_sld (pc := 699) hC hX hbl hbA dL_law_699 ?_
                            refine g_cvi (pc := 700) hC (c_X5_used hC.2.2.2.1) mi_X5_used ww_808 ⟨rfl, rfl⟩ ⟨by decide, by decide⟩ (by decide) rfl rfl rfl rfl (Nat.le_of_ble_eq_true rfl) ⟨(by show _ ≤ 601024; omega), (by show _ ≤ 7293034; omega)⟩ dL_law_700 (fun r62 V63 => ?_)
                            refine g_istore (pc := 703) (L2 := [some (.ref b), some (.ref (ad 0)), some (.ref (ad 60)), some (.ref (ad 93)), some (.int l4), some (.int r56), some (.int r62)]) hC dL_law_703 (by decide) rfl ?_
                            refine g_aload_n (pc := 705) hC dL_law_705 rfl ?_
                            refine g_cvi (pc := 706) hC (c_X5_thrown hC.2.2.2.1) mi_X5_thrown ww_694 ⟨rfl, rfl⟩ ⟨by decide, by decide⟩ (by decide) rfl rfl rfl rfl (Nat.le_of_ble_eq_true rfl) ⟨(by show _ ≤ 601024; omega), (by show _ ≤ 7293034; omega)⟩ dL_law_706 (fun r64 V65 => ?_)
                            refine g_iload (pc := 709) hC dL_law_709 rfl ?_
                            refine g_icmp_eq (pc := 711) (tgt := 716) hC dL_law_711 (by decide) ?_ ?_
                            · refine g_iload (pc := 716) hC dL_law_716 rfl ?_
                              refine g_if_ne (pc := 718) (tgt := 733) hC dL_law_718 (by decide) ?_ ?_
                              · refine g_goto (pc := 733) (tgt := 805) hC dL_law_733 (by decide) ?_
                                refine g_iinc (pc := 805) (L2 := [some (.ref b), some (.ref (ad 0)), some (.ref (ad 60)), some (.ref (ad 93)), some (.int (l4 + 8)), some (.int r56), some (.int r62)]) hC (l4 + 8) dL_law_805 rfl rfl (by decide) rfl ?_
                                refine g_goto (pc := 808) (tgt := 23) hC dL_law_808 (by decide) ?_
                                exact g_ms [true, true, true, true, true, false, false] (ih_23 _ _ (by omega) (by omega) V65 (l4 + 8))
                              · refine g_aload_n (pc := 721) hC dL_law_721 rfl ?_
                                refine g_iconst (pc := 722) hC (0 : Int32) dL_law_722 (by decide) ?_
                                refine g_lald (pc := 723) hC (by decide) rfl dL_law_723 ?_
                                refine g_iload (pc := 724) hC dL_law_724 rfl ?_
                                refine g_i2l (pc := 726) hC dL_law_726 ?_
                                refine g_lcmp (pc := 727) hC dL_law_727 ?_
                                refine g_if_eq (pc := 728) (tgt := 733) hC dL_law_728 (by decide) ?_ ?_
                                · refine g_goto (pc := 733) (tgt := 805) hC dL_law_733 (by decide) ?_
                                  refine g_iinc (pc := 805) (L2 := [some (.ref b), some (.ref (ad 0)), some (.ref (ad 60)), some (.ref (ad 93)), some (.int (l4 + 8)), some (.int r56), some (.int r62)]) hC (l4 + 8) dL_law_805 rfl rfl (by decide) rfl ?_
                                  refine g_goto (pc := 808) (tgt := 23) hC dL_law_808 (by decide) ?_
                                  exact g_ms [true, true, true, true, true, false, false] (ih_23 _ _ (by omega) (by omega) V65 (l4 + 8))
                                · refine g_iconst (pc := 731) hC (0 : Int32) dL_law_731 (by decide) ?_
                                  exact fun h => False.elim h
                            · refine g_iconst (pc := 714) hC (0 : Int32) dL_law_714 (by decide) ?_
                              exact fun h => False.elim h
                      · skip
                        refine g_if (fun hs9 => ?_) (fun hs9 => ?_)
                        · refine g_swIn (pc := 40) (off := 696) (tgt := 736) hC dL_law_40 (by rw [hs9]; decide) (by rw [hs9]; decide) (by rw [hs9]; decide) (by decide) ?_
                          refine g_aload_n (pc := 736) hC dL_law_736 rfl ?_
                          refine g_aload_n (pc := 737) hC dL_law_737 rfl ?_
                          refine g_iload (pc := 738) hC dL_law_738 rfl ?_
                          refine g_iconst (pc := 740) hC (1 : Int32) dL_law_740 (by decide) ?_
                          refine g_iadd (pc := 741) hC dL_law_741 ?_
                          refine g_sld (pc := 742) hC hX hbl hbA dL_law_742 ?_
                          refine g_aload_n (pc := 743) hC dL_law_743 rfl ?_
                          refine g_lsi (pc := 744) hC hz hct (c_L_floor hC.2.2.2.1) mi_L_floor ww_572 ⟨rfl, rfl⟩ ⟨by decide, by decide⟩ rfl rfl (Nat.le_of_ble_eq_true rfl) ⟨(by show _ ≤ 601024; omega), (by show _ ≤ 7293034; omega)⟩ dL_law_744 (fun r66 V67 => ?_)
                          refine g_istore (pc := 747) (L2 := [some (.ref b), some (.ref (ad 0)), some (.ref (ad 60)), some (.ref (ad 93)), some (.int l4), some (.int r66), none]) hC dL_law_747 (by decide) rfl ?_
                          refine g_aload_n (pc := 749) hC dL_law_749 rfl ?_
                          refine g_aload_n (pc := 750) hC dL_law_750 rfl ?_
                          refine g_iload (pc := 751) hC dL_law_751 rfl ?_
                          refine g_iconst (pc := 753) hC (1 : Int32) dL_law_753 (by decide) ?_
                          refine g_iadd (pc := 754) hC dL_law_754 ?_
                          refine g_sld (pc := 755) hC hX hbl hbA dL_law_755 ?_
                          refine g_cvi (pc := 756) hC (c_X5_floor hC.2.2.2.1) mi_X5_floor ww_812 ⟨rfl, rfl⟩ ⟨by decide, by decide⟩ (by decide) rfl rfl rfl rfl (Nat.le_of_ble_eq_true rfl) ⟨(by show _ ≤ 601024; omega), (by show _ ≤ 7293034; omega)⟩ dL_law_756 (fun r68 V69 => ?_)
                          refine g_istore (pc := 759) (L2 := [some (.ref b), some (.ref (ad 0)), some (.ref (ad 60)), some (.ref (ad 93)), some (.int l4), some (.int r66), some (.int r68)]) hC dL_law_759 (by decide) rfl ?_
                          refine g_aload_n (pc := 761) hC dL_law_761 rfl ?_
                          refine g_cvi (pc := 762) hC (c_X5_thrown hC.2.2.2.1) mi_X5_thrown ww_694 ⟨rfl, rfl⟩ ⟨by decide, by decide⟩ (by decide) rfl rfl rfl rfl (Nat.le_of_ble_eq_true rfl) ⟨(by show _ ≤ 601024; omega), (by show _ ≤ 7293034; omega)⟩ dL_law_762 (fun r70 V71 => ?_)
                          refine g_iload (pc := 765) hC dL_law_765 rfl ?_
                          refine g_icmp_eq (pc := 767) (tgt := 772) hC dL_law_767 (by decide) ?_ ?_
                          · refine g_iload (pc := 772) hC dL_law_772 rfl ?_
                            refine g_if_ne (pc := 774) (tgt := 789) hC dL_law_774 (by decide) ?_ ?_
                            · refine g_goto (pc := 789) (tgt := 805) hC dL_law_789 (by decide) ?_
                              refine g_iinc (pc := 805) (L2 := [some (.ref b), some (.ref (ad 0)), some (.ref (ad 60)), some (.ref (ad 93)), some (.int (l4 + 8)), some (.int r66), some (.int r68)]) hC (l4 + 8) dL_law_805 rfl rfl (by decide) rfl ?_
                              refine g_goto (pc := 808) (tgt := 23) hC dL_law_808 (by decide) ?_
                              exact g_ms [true, true, true, true, true, false, false] (ih_23 _ _ (by omega) (by omega) V71 (l4 + 8))
                            · refine g_aload_n (pc := 777) hC dL_law_777 rfl ?_
                              refine g_iconst (pc := 778) hC (0 : Int32) dL_law_778 (by decide) ?_
                              refine g_lald (pc := 779) hC (by decide) rfl dL_law_779 ?_
                              refine g_iload (pc := 780) hC dL_law_780 rfl ?_
                              refine g_i2l (pc := 782) hC dL_law_782 ?_
                              refine g_lcmp (pc := 783) hC dL_law_783 ?_
                              refine g_if_eq (pc := 784) (tgt := 789) hC dL_law_784 (by decide) ?_ ?_
                              · refine g_goto (pc := 789) (tgt := 805) hC dL_law_789 (by decide) ?_
                                refine g_iinc (pc := 805) (L2 := [some (.ref b), some (.ref (ad 0)), some (.ref (ad 60)), some (.ref (ad 93)), some (.int (l4 + 8)), some (.int r66), some (.int r68)]) hC (l4 + 8) dL_law_805 rfl rfl (by decide) rfl ?_
                                refine g_goto (pc := 808) (tgt := 23) hC dL_law_808 (by decide) ?_
                                exact g_ms [true, true, true, true, true, false, false] (ih_23 _ _ (by omega) (by omega) V71 (l4 + 8))
                              · refine g_iconst (pc := 787) hC (0 : Int32) dL_law_787 (by decide) ?_
                                exact fun h => False.elim h
                          · refine g_iconst (pc := 770) hC (0 : Int32) dL_law_770 (by decide) ?_
                            exact fun h => False.elim h
                        · skip
                          refine g_if (fun hs10 => ?_) (fun hs10 => ?_)
                          · refine g_swIn (pc := 40) (off := 752) (tgt := 792) hC dL_law_40 (by rw [hs10]; decide) (by rw [hs10]; decide) (by rw [hs10]; decide) (by decide) ?_
                            refine g_aload_n (pc := 792) hC dL_law_792 rfl ?_
                            refine g_cvi (pc := 793) hC (c_X4_time hC.2.2.2.1) mi_X4_time ww_323 ⟨rfl, rfl⟩ ⟨by decide, by decide⟩ (by decide) rfl rfl rfl rfl (Nat.le_of_ble_eq_true rfl) ⟨(by show _ ≤ 601024; omega), (by show _ ≤ 7293034; omega)⟩ dL_law_793 (fun r72 V73 => ?_)
                            refine g_aload_n (pc := 796) hC dL_law_796 rfl ?_
                            refine g_cvi (pc := 797) hC (c_X5_time hC.2.2.2.1) mi_X5_time ww_817 ⟨rfl, rfl⟩ ⟨by decide, by decide⟩ (by decide) rfl rfl rfl rfl (Nat.le_of_ble_eq_true rfl) ⟨(by show _ ≤ 601024; omega), (by show _ ≤ 7293034; omega)⟩ dL_law_797 (fun r74 V75 => ?_)
                            refine g_icmp_eq (pc := 800) (tgt := 805) hC dL_law_800 (by decide) ?_ ?_
                            · refine g_iinc (pc := 805) (L2 := [some (.ref b), some (.ref (ad 0)), some (.ref (ad 60)), some (.ref (ad 93)), some (.int (l4 + 8)), none, none]) hC (l4 + 8) dL_law_805 rfl rfl (by decide) rfl ?_
                              refine g_goto (pc := 808) (tgt := 23) hC dL_law_808 (by decide) ?_
                              exact g_ms [true, true, true, true, true, false, false] (ih_23 _ _ (by omega) (by omega) V75 (l4 + 8))
                            · refine g_iconst (pc := 803) hC (0 : Int32) dL_law_803 (by decide) ?_
                              exact fun h => False.elim h
                          · skip
                            refine g_swOut (pc := 40) (tgt := 805) hC dL_law_40 (sw_out_11 hs0 hs1 hs2 hs3 hs4 hs5 hs6 hs7 hs8 hs9 hs10) (by decide) ?_
                            refine g_iinc (pc := 805) (L2 := [some (.ref b), some (.ref (ad 0)), some (.ref (ad 60)), some (.ref (ad 93)), some (.int (l4 + 8)), none, none]) hC (l4 + 8) dL_law_805 rfl rfl (by decide) rfl ?_
                            refine g_goto (pc := 808) (tgt := 23) hC dL_law_808 (by decide) ?_
                            exact g_ms [true, true, true, true, true, false, false] (ih_23 _ _ (by omega) (by omega) V (l4 + 8))
