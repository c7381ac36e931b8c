def rm_X4_source : Room := ({ frames := 6, cells := 1, slots := 6, locals := 114 } : Room)
def wp_X4_source (V : St) (K : St → Prop) (X : Nat → St → Prop) (a1 : Int32) (a2 : Int32) (a3 : Int32) (a4 : Int32) (a5 : Int32) (a6 : Int32) (a7 : Int32) : Prop := wp_X4_within V (fun (r1 : Int32) (V2 : St) => if r1 = 0 then (X 1 V2) else (wp_X4_within V2 (fun (r3 : Int32) (V4 : St) => if r3 = 0 then (X 2 V4) else (wp_X4_within V4 (fun (r5 : Int32) (V6 : St) => if r5 = 0 then (X 2 V6) else (wp_X4_within V6 (fun (r7 : Int32) (V8 : St) => if r7 = 0 then (X 2 V8) else (wp_X4_within V8 (fun (r9 : Int32) (V10 : St) => if r9 = 0 then (X 2 V10) else (wp_X4_within V10 (fun (r11 : Int32) (V12 : St) => if r11 = 0 then (X 2 V12) else (wp_X4_within V12 (fun (r13 : Int32) (V14 : St) => if r13 = 0 then (X 2 V14) else (∃ k15, k15 < 6 ∧ a1 = nI k15 ∧ if (V14 (12 + 8 * k15) 3) = 0 then (wp_X4_sourceHasPriority V14 (fun (r16 : Int32) (V17 : St) => if r16 = 0 then (wp_X3_tell V17 (fun (V18 : St) => wp_X4_tasksAdmitted V18 (fun (r19 : Int32) (V20 : St) => if r19 = 0 then (((0 : Int32) = 0 ∨ (0 : Int32) = 1) ∧ ∀ V22 : St, V22 = up2 V20 (12 + 8 * k15) 3 (0 : Int32) → X 3 V22) else (wp_X3_fillBudget V20 (fun (V21 : St) => K V21) (12 + 8 * k15)))) (12 + 8 * k15) a2 a3 a4 a5 a6 a7) else (X 3 V17)) a7) else (X 3 V14))) a7 (0 : Int32) (31 : Int32))) a6 (1 : Int32) (500 : Int32))) a5 (1 : Int32) (30 : Int32))) a4 (1 : Int32) (2000 : Int32))) a3 (1 : Int32) (30 : Int32))) a2 (0 : Int32) (3 : Int32))) a1 (0 : Int32) (5 : Int32)
set_option maxRecDepth 100000 in
set_option maxHeartbeats 4000000 in
theorem c_X4_source {l : Launch} {D : va_G} {ad : Nat → Nat} {cy : Nat → ClassId} (hi : inj ad) {V : St} {K : St → Prop} {X : Nat → St → Prop} {a1 : Int32} {a2 : Int32} {a3 : Int32} {a4 : Int32} {a5 : Int32} {a6 : Int32} {a7 : Int32} : wp_X4_source V K X a1 a2 a3 a4 a5 a6 a7 → Xv l D ad cy yX4_source (Cond.code yX4_source cX4_source 9 none :: WA) rm_X4_source 1 6 [.ref (ad 0), .int a1, .int a2, .int a3, .int a4, .int a5, .int a6, .int a7] V K X := by
  refine X_v (w := wp_X4_source V K X a1 a2 a3 a4 a5 a6 a7) (by decide) (Nat.le_of_ble_eq_true rfl) (List.forall_mem_cons.mpr ⟨rfl, (List.forall_mem_cons.mpr ⟨rfl, (List.forall_mem_cons.mpr ⟨rfl, (List.forall_mem_cons.mpr ⟨rfl, (List.forall_mem_cons.mpr ⟨rfl, (List.forall_mem_cons.mpr ⟨rfl, (List.forall_mem_cons.mpr ⟨rfl, (List.forall_mem_cons.mpr ⟨rfl, (fun _ h => absurd h List.not_mem_nil)⟩)⟩)⟩)⟩)⟩)⟩)⟩)⟩) hi ?_
  intro p e s m args below meth c A hC hrt hlk hz htb
  show G p l e rm_X4_source s m args below meth c 0 0 (vx_MQ below (va_Qv K (Bq D ad cy) A) (XCx D ad cy A X) args s 1 6 A) 9 D ad cy A (wp_X4_source V K X a1 a2 a3 a4 a5 a6 a7) V 0 [some (.ref (ad 0)), some (.int a1), some (.int a2), some (.int a3), some (.int a4), some (.int a5), some (.int a6), some (.int a7), none] []
  refine g_iload_n (pc := 0) hC dX4_source_0 rfl ?_
  refine g_iconst (pc := 1) hC (0 : Int32) dX4_source_1 (by decide) ?_
  refine g_iconst (pc := 2) hC (5 : Int32) dX4_source_2 (by decide) ?_
  refine g_csi (pc := 3) hC (c_X4_within hC.2.2.2.1) mi_X4_within ww_337 ⟨rfl, rfl⟩ ⟨by decide, by decide⟩ rfl rfl (Nat.le_of_ble_eq_true rfl) ⟨Nat.le_of_ble_eq_true rfl, Nat.le_of_ble_eq_true rfl⟩ dX4_source_3 (fun r1 V2 => ?_)
  refine g_if_ne (pc := 6) (tgt := 17) hC dX4_source_6 (by decide) ?_ ?_
  · refine g_iload_n (pc := 17) hC dX4_source_17 rfl ?_
    refine g_iconst (pc := 18) hC (0 : Int32) dX4_source_18 (by decide) ?_
    refine g_iconst (pc := 19) hC (3 : Int32) dX4_source_19 (by decide) ?_
    refine g_csi (pc := 20) hC (c_X4_within hC.2.2.2.1) mi_X4_within ww_337 ⟨rfl, rfl⟩ ⟨by decide, by decide⟩ rfl rfl (Nat.le_of_ble_eq_true rfl) ⟨Nat.le_of_ble_eq_true rfl, Nat.le_of_ble_eq_true rfl⟩ dX4_source_20 (fun r3 V4 => ?_)
    refine g_if_eq (pc := 23) (tgt := 82) hC dX4_source_23 (by decide) ?_ ?_
    · exact g_throw (pc := 82) hC hlk hz htb tw_X4_2 dX4_source_82 dX4_source_85 dX4_source_86 dX4_source_89 (by decide) (Nat.le_of_ble_eq_true rfl) (by decide) (by decide) (by decide) (by decide)
    · refine g_iload_n (pc := 26) hC dX4_source_26 rfl ?_
      refine g_iconst (pc := 27) hC (1 : Int32) dX4_source_27 (by decide) ?_
      refine g_bipush (pc := 28) hC (30 : Int32) dX4_source_28 (by decide) ?_
      refine g_csi (pc := 30) hC (c_X4_within hC.2.2.2.1) mi_X4_within ww_337 ⟨rfl, rfl⟩ ⟨by decide, by decide⟩ rfl rfl (Nat.le_of_ble_eq_true rfl) ⟨Nat.le_of_ble_eq_true rfl, Nat.le_of_ble_eq_true rfl⟩ dX4_source_30 (fun r5 V6 => ?_)
      refine g_if_eq (pc := 33) (tgt := 82) hC dX4_source_33 (by decide) ?_ ?_
      · exact g_throw (pc := 82) hC hlk hz htb tw_X4_2 dX4_source_82 dX4_source_85 dX4_source_86 dX4_source_89 (by decide) (Nat.le_of_ble_eq_true rfl) (by decide) (by decide) (by decide) (by decide)
      · refine g_iload (pc := 36) hC dX4_source_36 rfl ?_
        refine g_iconst (pc := 38) hC (1 : Int32) dX4_source_38 (by decide) ?_
        refine g_sipush (pc := 39) hC (2000 : Int32) dX4_source_39 (by decide) ?_
        refine g_csi (pc := 42) hC (c_X4_within hC.2.2.2.1) mi_X4_within ww_337 ⟨rfl, rfl⟩ ⟨by decide, by decide⟩ rfl rfl (Nat.le_of_ble_eq_true rfl) ⟨Nat.le_of_ble_eq_true rfl, Nat.le_of_ble_eq_true rfl⟩ dX4_source_42 (fun r7 V8 => ?_)
        refine g_if_eq (pc := 45) (tgt := 82) hC dX4_source_45 (by decide) ?_ ?_
        · exact g_throw (pc := 82) hC hlk hz htb tw_X4_2 dX4_source_82 dX4_source_85 dX4_source_86 dX4_source_89 (by decide) (Nat.le_of_ble_eq_true rfl) (by decide) (by decide) (by decide) (by decide)
        · refine g_iload (pc := 48) hC dX4_source_48 rfl ?_
          refine g_iconst (pc := 50) hC (1 : Int32) dX4_source_50 (by decide) ?_
          refine g_bipush (pc := 51) hC (30 : Int32) dX4_source_51 (by decide) ?_
          refine g_csi (pc := 53) hC (c_X4_within hC.2.2.2.1) mi_X4_within ww_337 ⟨rfl, rfl⟩ ⟨by decide, by decide⟩ rfl rfl (Nat.le_of_ble_eq_true rfl) ⟨Nat.le_of_ble_eq_true rfl, Nat.le_of_ble_eq_true rfl⟩ dX4_source_53 (fun r9 V10 => ?_)
          refine g_if_eq (pc := 56) (tgt := 82) hC dX4_source_56 (by decide) ?_ ?_
          · exact g_throw (pc := 82) hC hlk hz htb tw_X4_2 dX4_source_82 dX4_source_85 dX4_source_86 dX4_source_89 (by decide) (Nat.le_of_ble_eq_true rfl) (by decide) (by decide) (by decide) (by decide)
          · refine g_iload (pc := 59) hC dX4_source_59 rfl ?_
            refine g_iconst (pc := 61) hC (1 : Int32) dX4_source_61 (by decide) ?_
            refine g_sipush (pc := 62) hC (500 : Int32) dX4_source_62 (by decide) ?_
            refine g_csi (pc := 65) hC (c_X4_within hC.2.2.2.1) mi_X4_within ww_337 ⟨rfl, rfl⟩ ⟨by decide, by decide⟩ rfl rfl (Nat.le_of_ble_eq_true rfl) ⟨Nat.le_of_ble_eq_true rfl, Nat.le_of_ble_eq_true rfl⟩ dX4_source_65 (fun r11 V12 => ?_)
            refine g_if_eq (pc := 68) (tgt := 82) hC dX4_source_68 (by decide) ?_ ?_
            · exact g_throw (pc := 82) hC hlk hz htb tw_X4_2 dX4_source_82 dX4_source_85 dX4_source_86 dX4_source_89 (by decide) (Nat.le_of_ble_eq_true rfl) (by decide) (by decide) (by decide) (by decide)
            · refine g_iload (pc := 71) hC dX4_source_71 rfl ?_
              refine g_iconst (pc := 73) hC (0 : Int32) dX4_source_73 (by decide) ?_
              refine g_bipush (pc := 74) hC (31 : Int32) dX4_source_74 (by decide) ?_
              refine g_csi (pc := 76) hC (c_X4_within hC.2.2.2.1) mi_X4_within ww_337 ⟨rfl, rfl⟩ ⟨by decide, by decide⟩ rfl rfl (Nat.le_of_ble_eq_true rfl) ⟨Nat.le_of_ble_eq_true rfl, Nat.le_of_ble_eq_true rfl⟩ dX4_source_76 (fun r13 V14 => ?_)
              refine g_if_ne (pc := 79) (tgt := 90) hC dX4_source_79 (by decide) ?_ ?_
              · refine g_aload_n (pc := 90) hC dX4_source_90 rfl ?_
                refine g_getR (pc := 91) hC fl_X4_11 (by decide) rfl rfl dX4_source_91 ?_
                refine g_iload_n (pc := 94) hC dX4_source_94 rfl ?_
                refine g_aald (pc := 95) hC (by decide) rfl rfl (by decide) dX4_source_95 (fun k15 hk15 => ?_)
                refine g_astore (pc := 96) (L2 := [some (.ref (ad 0)), some (.int a1), some (.int a2), some (.int a3), some (.int a4), some (.int a5), some (.int a6), some (.int a7), some (.ref (ad (12 + 8 * k15)))]) hC dX4_source_96 (by decide) rfl ?_
                refine g_aload (pc := 98) hC dX4_source_98 rfl ?_
                refine g_getI (pc := 100) hC fl_X4_53 (SrcAt.l0 (srcAt hk15)) (srcAt hk15).2.1 rfl dX4_source_100 ?_
                refine g_if_ne (pc := 103) (tgt := 115) hC dX4_source_103 (by decide) ?_ ?_
                · exact g_throw (pc := 115) hC hlk hz htb tw_X4_3 dX4_source_115 dX4_source_118 dX4_source_119 dX4_source_122 (by decide) (Nat.le_of_ble_eq_true rfl) (by decide) (by decide) (by decide) (by decide)
                · refine g_aload_n (pc := 106) hC dX4_source_106 rfl ?_
                  refine g_iload (pc := 107) hC dX4_source_107 rfl ?_
                  refine g_cvi (pc := 109) hC (c_X4_sourceHasPriority hC.2.2.2.1) mi_X4_sourceHasPriority ww_419 ⟨rfl, rfl⟩ ⟨by decide, by decide⟩ (by decide) rfl rfl rfl rfl (Nat.le_of_ble_eq_true rfl) ⟨Nat.le_of_ble_eq_true rfl, Nat.le_of_ble_eq_true rfl⟩ dX4_source_109 (fun r16 V17 => ?_)
                  refine g_if_eq (pc := 112) (tgt := 123) hC dX4_source_112 (by decide) ?_ ?_
                  · refine g_aload (pc := 123) hC dX4_source_123 rfl ?_
                    refine g_iload_n (pc := 125) hC dX4_source_125 rfl ?_
                    refine g_iload_n (pc := 126) hC dX4_source_126 rfl ?_
                    refine g_iload (pc := 127) hC dX4_source_127 rfl ?_
                    refine g_iload (pc := 129) hC dX4_source_129 rfl ?_
                    refine g_iload (pc := 131) hC dX4_source_131 rfl ?_
                    refine g_iload (pc := 133) hC dX4_source_133 rfl ?_
                    refine g_cvv (pc := 135) hC (c_X3_tell hC.2.2.2.1 (srcAt hk15)) mi_X3_tell ww_438 ⟨rfl, rfl⟩ ⟨by decide, by decide⟩ (SrcAt.l0 (srcAt hk15)) (srcAt hk15).2.1 rfl rfl rfl (Nat.le_of_ble_eq_true rfl) ⟨Nat.le_of_ble_eq_true rfl, Nat.le_of_ble_eq_true rfl⟩ dX4_source_135 (fun V18 => ?_)
                    refine g_aload_n (pc := 138) hC dX4_source_138 rfl ?_
                    refine g_cvi (pc := 139) hC (c_X4_tasksAdmitted hC.2.2.2.1) mi_X4_tasksAdmitted ww_442 ⟨rfl, rfl⟩ ⟨by decide, by decide⟩ (by decide) rfl rfl rfl rfl (Nat.le_of_ble_eq_true rfl) ⟨Nat.le_of_ble_eq_true rfl, Nat.le_of_ble_eq_true rfl⟩ dX4_source_139 (fun r19 V20 => ?_)
                    refine g_if_ne (pc := 142) (tgt := 159) hC dX4_source_142 (by decide) ?_ ?_
                    · refine g_aload (pc := 159) hC dX4_source_159 rfl ?_
                      refine g_cvv (pc := 161) hC (c_X3_fillBudget hC.2.2.2.1 (srcAt hk15)) mi_X3_fillBudget ww_469 ⟨rfl, rfl⟩ ⟨by decide, by decide⟩ (SrcAt.l0 (srcAt hk15)) (srcAt hk15).2.1 rfl rfl rfl (Nat.le_of_ble_eq_true rfl) ⟨Nat.le_of_ble_eq_true rfl, Nat.le_of_ble_eq_true rfl⟩ dX4_source_161 (fun V21 => ?_)
                      exact g_xret (by decide) (by decide) (g_vret (pc := 164) hC hrt hlk dX4_source_164)
                    · refine g_aload (pc := 145) hC dX4_source_145 rfl ?_
                      refine g_iconst (pc := 147) hC (0 : Int32) dX4_source_147 (by decide) ?_
                      refine g_putZ (pc := 148) hC fp_X4_53 (SrcAt.l0 (srcAt hk15)) (srcAt hk15).2.1 rfl dX4_source_148 (fun V22 => ?_)
                      exact g_throw (pc := 151) hC hlk hz htb tw_X4_3 dX4_source_151 dX4_source_154 dX4_source_155 dX4_source_158 (by decide) (Nat.le_of_ble_eq_true rfl) (by decide) (by decide) (by decide) (by decide)
                  · exact g_throw (pc := 115) hC hlk hz htb tw_X4_3 dX4_source_115 dX4_source_118 dX4_source_119 dX4_source_122 (by decide) (Nat.le_of_ble_eq_true rfl) (by decide) (by decide) (by decide) (by decide)
              · exact g_throw (pc := 82) hC hlk hz htb tw_X4_2 dX4_source_82 dX4_source_85 dX4_source_86 dX4_source_89 (by decide) (Nat.le_of_ble_eq_true rfl) (by decide) (by decide) (by decide) (by decide)
  · exact g_throw (pc := 9) hC hlk hz htb tw_X4_1 dX4_source_9 dX4_source_12 dX4_source_13 dX4_source_16 (by decide) (Nat.le_of_ble_eq_true rfl) (by decide) (by decide) (by decide) (by decide)
def rm_X4_base : Room := ({ frames := 6, cells := 1, slots := 6, locals := 114 } : Room)
def wp_X4_base (V : St) (K : Int32 → St → Prop) (X : Nat → St → Prop) (a1 : Int32) (a2 : Int32) (a3 : Int32) (a4 : Int32) : Prop := wp_X4_within V (fun (r1 : Int32) (V2 : St) => if r1 = 0 then (X 1 V2) else (wp_X4_within V2 (fun (r3 : Int32) (V4 : St) => if r3 = 0 then (X 2 V4) else (wp_X4_within V4 (fun (r5 : Int32) (V6 : St) => if r5 = 0 then (X 2 V6) else (wp_X4_within V6 (fun (r7 : Int32) (V8 : St) => if r7 = 0 then (X 2 V8) else (∃ k9, k9 < 6 ∧ a1 = nI k9 ∧ if (V8 (6 + 1 * k9) 0) = 0 then (wp_X4_taskHasPriority V8 (fun (r10 : Int32) (V11 : St) => if r10 = 0 then (wp_X0_tell V11 (fun (V12 : St) => wp_X4_tasksAdmitted V12 (fun (r13 : Int32) (V14 : St) => (r13 = 0 ∨ r13 = 1) ∧ ∀ V15 : St, V15 = up2 V14 (6 + 1 * k9) 0 r13 → ((V15 (6 + 1 * k9) 0) = 0 ∨ (V15 (6 + 1 * k9) 0) = 1) ∧ K (V15 (6 + 1 * k9) 0) V15)) (6 + 1 * k9) a2 a3 a4 (V11 0 5)) else (X 3 V11)) a4) else (X 3 V8))) a4 (0 : Int32) (31 : Int32))) a3 (1 : Int32) (500 : Int32))) a2 (1 : Int32) (2000 : Int32))) a1 (0 : Int32) (5 : Int32)
set_option maxRecDepth 100000 in
set_option maxHeartbeats 4000000 in
theorem c_X4_base {l : Launch} {D : va_G} {ad : Nat → Nat} {cy : Nat → ClassId} (hi : inj ad) {V : St} {K : Int32 → St → Prop} {X : Nat → St → Prop} {a1 : Int32} {a2 : Int32} {a3 : Int32} {a4 : Int32} : wp_X4_base V K X a1 a2 a3 a4 → Xi l D ad cy yX4_base (Cond.code yX4_base cX4_base 6 (some .boolean) :: WA) rm_X4_base 1 6 [.ref (ad 0), .int a1, .int a2, .int a3, .int a4] V K X := by
  refine X_i (w := wp_X4_base V K X a1 a2 a3 a4) (by decide) (Nat.le_of_ble_eq_true rfl) (List.forall_mem_cons.mpr ⟨rfl, (List.forall_mem_cons.mpr ⟨rfl, (List.forall_mem_cons.mpr ⟨rfl, (List.forall_mem_cons.mpr ⟨rfl, (List.forall_mem_cons.mpr ⟨rfl, (fun _ h => absurd h List.not_mem_nil)⟩)⟩)⟩)⟩)⟩) hi ?_
  intro p e s m args below meth c A hC hrt hlk hz htb
  show G p l e rm_X4_base s m args below meth c 0 0 (vx_MQ below (va_Qi K (Bq D ad cy) A) (XCx D ad cy A X) args s 1 6 A) 6 D ad cy A (wp_X4_base V K X a1 a2 a3 a4) V 0 [some (.ref (ad 0)), some (.int a1), some (.int a2), some (.int a3), some (.int a4), none] []
  refine g_iload_n (pc := 0) hC dX4_base_0 rfl ?_
  refine g_iconst (pc := 1) hC (0 : Int32) dX4_base_1 (by decide) ?_
  refine g_iconst (pc := 2) hC (5 : Int32) dX4_base_2 (by decide) ?_
  refine g_csi (pc := 3) hC (c_X4_within hC.2.2.2.1) mi_X4_within ww_337 ⟨rfl, rfl⟩ ⟨by decide, by decide⟩ rfl rfl (Nat.le_of_ble_eq_true rfl) ⟨Nat.le_of_ble_eq_true rfl, Nat.le_of_ble_eq_true rfl⟩ dX4_base_3 (fun r1 V2 => ?_)
  refine g_if_ne (pc := 6) (tgt := 17) hC dX4_base_6 (by decide) ?_ ?_
  · refine g_iload_n (pc := 17) hC dX4_base_17 rfl ?_
    refine g_iconst (pc := 18) hC (1 : Int32) dX4_base_18 (by decide) ?_
    refine g_sipush (pc := 19) hC (2000 : Int32) dX4_base_19 (by decide) ?_
    refine g_csi (pc := 22) hC (c_X4_within hC.2.2.2.1) mi_X4_within ww_337 ⟨rfl, rfl⟩ ⟨by decide, by decide⟩ rfl rfl (Nat.le_of_ble_eq_true rfl) ⟨Nat.le_of_ble_eq_true rfl, Nat.le_of_ble_eq_true rfl⟩ dX4_base_22 (fun r3 V4 => ?_)
    refine g_if_eq (pc := 25) (tgt := 50) hC dX4_base_25 (by decide) ?_ ?_
    · exact g_throw (pc := 50) hC hlk hz htb tw_X4_2 dX4_base_50 dX4_base_53 dX4_base_54 dX4_base_57 (by decide) (Nat.le_of_ble_eq_true rfl) (by decide) (by decide) (by decide) (by decide)
    · refine g_iload_n (pc := 28) hC dX4_base_28 rfl ?_
      refine g_iconst (pc := 29) hC (1 : Int32) dX4_base_29 (by decide) ?_
      refine g_sipush (pc := 30) hC (500 : Int32) dX4_base_30 (by decide) ?_
      refine g_csi (pc := 33) hC (c_X4_within hC.2.2.2.1) mi_X4_within ww_337 ⟨rfl, rfl⟩ ⟨by decide, by decide⟩ rfl rfl (Nat.le_of_ble_eq_true rfl) ⟨Nat.le_of_ble_eq_true rfl, Nat.le_of_ble_eq_true rfl⟩ dX4_base_33 (fun r5 V6 => ?_)
      refine g_if_eq (pc := 36) (tgt := 50) hC dX4_base_36 (by decide) ?_ ?_
      · exact g_throw (pc := 50) hC hlk hz htb tw_X4_2 dX4_base_50 dX4_base_53 dX4_base_54 dX4_base_57 (by decide) (Nat.le_of_ble_eq_true rfl) (by decide) (by decide) (by decide) (by decide)
      · refine g_iload (pc := 39) hC dX4_base_39 rfl ?_
        refine g_iconst (pc := 41) hC (0 : Int32) dX4_base_41 (by decide) ?_
        refine g_bipush (pc := 42) hC (31 : Int32) dX4_base_42 (by decide) ?_
        refine g_csi (pc := 44) hC (c_X4_within hC.2.2.2.1) mi_X4_within ww_337 ⟨rfl, rfl⟩ ⟨by decide, by decide⟩ rfl rfl (Nat.le_of_ble_eq_true rfl) ⟨Nat.le_of_ble_eq_true rfl, Nat.le_of_ble_eq_true rfl⟩ dX4_base_44 (fun r7 V8 => ?_)
        refine g_if_ne (pc := 47) (tgt := 58) hC dX4_base_47 (by decide) ?_ ?_
        · refine g_aload_n (pc := 58) hC dX4_base_58 rfl ?_
          refine g_getR (pc := 59) hC fl_X4_18 (by decide) rfl rfl dX4_base_59 ?_
          refine g_iload_n (pc := 62) hC dX4_base_62 rfl ?_
          refine g_aald (pc := 63) hC (by decide) rfl rfl (by decide) dX4_base_63 (fun k9 hk9 => ?_)
          refine g_astore (pc := 64) (L2 := [some (.ref (ad 0)), some (.int a1), some (.int a2), some (.int a3), some (.int a4), some (.ref (ad (6 + 1 * k9)))]) hC dX4_base_64 (by decide) rfl ?_
          refine g_aload (pc := 66) hC dX4_base_66 rfl ?_
          refine g_getI (pc := 68) hC fl_X4_75 (tskAt hk9).1 (tskAt hk9).2 rfl dX4_base_68 ?_
          refine g_if_ne (pc := 71) (tgt := 83) hC dX4_base_71 (by decide) ?_ ?_
          · exact g_throw (pc := 83) hC hlk hz htb tw_X4_3 dX4_base_83 dX4_base_86 dX4_base_87 dX4_base_90 (by decide) (Nat.le_of_ble_eq_true rfl) (by decide) (by decide) (by decide) (by decide)
          · refine g_aload_n (pc := 74) hC dX4_base_74 rfl ?_
            refine g_iload (pc := 75) hC dX4_base_75 rfl ?_
            refine g_cvi (pc := 77) hC (c_X4_taskHasPriority hC.2.2.2.1) mi_X4_taskHasPriority ww_480 ⟨rfl, rfl⟩ ⟨by decide, by decide⟩ (by decide) rfl rfl rfl rfl (Nat.le_of_ble_eq_true rfl) ⟨Nat.le_of_ble_eq_true rfl, Nat.le_of_ble_eq_true rfl⟩ dX4_base_77 (fun r10 V11 => ?_)
            refine g_if_eq (pc := 80) (tgt := 91) hC dX4_base_80 (by decide) ?_ ?_
            · refine g_aload (pc := 91) hC dX4_base_91 rfl ?_
              refine g_iload_n (pc := 93) hC dX4_base_93 rfl ?_
              refine g_iload_n (pc := 94) hC dX4_base_94 rfl ?_
              refine g_iload (pc := 95) hC dX4_base_95 rfl ?_
              refine g_aload_n (pc := 97) hC dX4_base_97 rfl ?_
              refine g_getI (pc := 98) hC fl_X4_40 (by decide) rfl rfl dX4_base_98 ?_
              refine g_cvv (pc := 101) hC (c_X0_tell hC.2.2.2.1 (tskAt hk9)) mi_X0_tell ww_484 ⟨rfl, rfl⟩ ⟨by decide, by decide⟩ (tskAt hk9).1 (tskAt hk9).2 rfl rfl rfl (Nat.le_of_ble_eq_true rfl) ⟨Nat.le_of_ble_eq_true rfl, Nat.le_of_ble_eq_true rfl⟩ dX4_base_101 (fun V12 => ?_)
              refine g_aload (pc := 104) hC dX4_base_104 rfl ?_
              refine g_aload_n (pc := 106) hC dX4_base_106 rfl ?_
              refine g_cvi (pc := 107) hC (c_X4_tasksAdmitted hC.2.2.2.1) mi_X4_tasksAdmitted ww_442 ⟨rfl, rfl⟩ ⟨by decide, by decide⟩ (by decide) rfl rfl rfl rfl (Nat.le_of_ble_eq_true rfl) ⟨Nat.le_of_ble_eq_true rfl, Nat.le_of_ble_eq_true rfl⟩ dX4_base_107 (fun r13 V14 => ?_)
              refine g_putZ (pc := 110) hC fp_X4_75 (tskAt hk9).1 (tskAt hk9).2 rfl dX4_base_110 (fun V15 => ?_)
              refine g_aload (pc := 113) hC dX4_base_113 rfl ?_
              refine g_getI (pc := 115) hC fl_X4_75 (tskAt hk9).1 (tskAt hk9).2 rfl dX4_base_115 ?_
              exact g_xret (by decide) (by decide) (g_zret (pc := 118) hC hrt hlk dX4_base_118)
            · exact g_throw (pc := 83) hC hlk hz htb tw_X4_3 dX4_base_83 dX4_base_86 dX4_base_87 dX4_base_90 (by decide) (Nat.le_of_ble_eq_true rfl) (by decide) (by decide) (by decide) (by decide)
        · exact g_throw (pc := 50) hC hlk hz htb tw_X4_2 dX4_base_50 dX4_base_53 dX4_base_54 dX4_base_57 (by decide) (Nat.le_of_ble_eq_true rfl) (by decide) (by decide) (by decide) (by decide)
  · exact g_throw (pc := 9) hC hlk hz htb tw_X4_1 dX4_base_9 dX4_base_12 dX4_base_13 dX4_base_16 (by decide) (Nat.le_of_ble_eq_true rfl) (by decide) (by decide) (by decide) (by decide)
def rm_X4_toldSource : Room := ({ frames := 6, cells := 1, slots := 6, locals := 89 } : Room)
def wp_X4_toldSource (V : St) (K : Nat → St → Prop) (X : Nat → St → Prop) (a1 : Int32) : Prop := wp_X4_within V (fun (r1 : Int32) (V2 : St) => if r1 = 0 then (X 1 V2) else (∃ k3, k3 < 6 ∧ a1 = nI k3 ∧ if (V2 (12 + 8 * k3) 3) = 0 then (X 1 V2) else (∃ k4, k4 < 6 ∧ a1 = nI k4 ∧ K k4 V2))) a1 (0 : Int32) (5 : Int32)
set_option maxRecDepth 100000 in
set_option maxHeartbeats 4000000 in
theorem c_X4_toldSource {l : Launch} {D : va_G} {ad : Nat → Nat} {cy : Nat → ClassId} (hi : inj ad) {V : St} {K : Nat → St → Prop} {X : Nat → St → Prop} {a1 : Int32} : wp_X4_toldSource V K X a1 → Xr l D ad cy yX4_toldSource (Cond.code yX4_toldSource cX4_toldSource 2 (some (.object "BudgetKernel$Source")) :: WA) rm_X4_toldSource 1 6 [.ref (ad 0), .int a1] V K X := by
  refine X_r (w := wp_X4_toldSource V K X a1) (by decide) (Nat.le_of_ble_eq_true rfl) (List.forall_mem_cons.mpr ⟨rfl, (List.forall_mem_cons.mpr ⟨rfl, (fun _ h => absurd h List.not_mem_nil)⟩)⟩) hi ?_
  intro p e s m args below meth c A hC hrt hlk hz htb
  show G p l e rm_X4_toldSource s m args below meth c 0 0 (vx_MQ below (va_Qr (fun u : Nat × St => u.1 < 6 ∧ K u.1 u.2) (fun u a t => a = ad (12 + 8 * u.1) ∧ Bq D ad cy u.2 t) A) (XCx D ad cy A X) args s 1 6 A) 2 D ad cy A (wp_X4_toldSource V K X a1) V 0 [some (.ref (ad 0)), some (.int a1)] []
  refine g_iload_n (pc := 0) hC dX4_toldSource_0 rfl ?_
  refine g_iconst (pc := 1) hC (0 : Int32) dX4_toldSource_1 (by decide) ?_
  refine g_iconst (pc := 2) hC (5 : Int32) dX4_toldSource_2 (by decide) ?_
  refine g_csi (pc := 3) hC (c_X4_within hC.2.2.2.1) mi_X4_within ww_337 ⟨rfl, rfl⟩ ⟨by decide, by decide⟩ rfl rfl (Nat.le_of_ble_eq_true rfl) ⟨Nat.le_of_ble_eq_true rfl, Nat.le_of_ble_eq_true rfl⟩ dX4_toldSource_3 (fun r1 V2 => ?_)
  refine g_if_eq (pc := 6) (tgt := 21) hC dX4_toldSource_6 (by decide) ?_ ?_
  · exact g_throw (pc := 21) hC hlk hz htb tw_X4_1 dX4_toldSource_21 dX4_toldSource_24 dX4_toldSource_25 dX4_toldSource_28 (by decide) (Nat.le_of_ble_eq_true rfl) (by decide) (by decide) (by decide) (by decide)
  · refine g_aload_n (pc := 9) hC dX4_toldSource_9 rfl ?_
    refine g_getR (pc := 10) hC fl_X4_11 (by decide) rfl rfl dX4_toldSource_10 ?_
    refine g_iload_n (pc := 13) hC dX4_toldSource_13 rfl ?_
    refine g_aald (pc := 14) hC (by decide) rfl rfl (by decide) dX4_toldSource_14 (fun k3 hk3 => ?_)
    refine g_getI (pc := 15) hC fl_X4_53 (SrcAt.l0 (srcAt hk3)) (srcAt hk3).2.1 rfl dX4_toldSource_15 ?_
    refine g_if_ne (pc := 18) (tgt := 29) hC dX4_toldSource_18 (by decide) ?_ ?_
    · refine g_aload_n (pc := 29) hC dX4_toldSource_29 rfl ?_
      refine g_getR (pc := 30) hC fl_X4_11 (by decide) rfl rfl dX4_toldSource_30 ?_
      refine g_iload_n (pc := 33) hC dX4_toldSource_33 rfl ?_
      refine g_aald (pc := 34) hC (by decide) rfl rfl (by decide) dX4_toldSource_34 (fun k4 hk4 => ?_)
      exact g_xret (by decide) (by decide) (g_aret (pc := 35) hC hrt hlk hk4 dX4_toldSource_35)
    · exact g_throw (pc := 21) hC hlk hz htb tw_X4_1 dX4_toldSource_21 dX4_toldSource_24 dX4_toldSource_25 dX4_toldSource_28 (by decide) (Nat.le_of_ble_eq_true rfl) (by decide) (by decide) (by decide) (by decide)
def rm_X4_event : Room := ({ frames := 7, cells := 1, slots := 6, locals := 110 } : Room)
def wp_X4_event (V : St) (K : Int32 → St → Prop) (X : Nat → St → Prop) (a1 : Int32) : Prop := wp_X4_toldSource V (fun (k1 : Nat) (V2 : St) => wp_X3_take V2 (fun (r3 : Int32) (V4 : St) => if r3 = 0 then (K (0 : Int32) V4) else (if (V4 (12 + 8 * k1) 4) ≤ 0 then (K (1 : Int32) V4) else (wp_X2_add V4 (fun (V5 : St) => K (1 : Int32) V5) 3 192 a1))) (12 + 8 * k1) (V2 0 5)) X a1
set_option maxRecDepth 100000 in
set_option maxHeartbeats 4000000 in
theorem c_X4_event {l : Launch} {D : va_G} {ad : Nat → Nat} {cy : Nat → ClassId} (hi : inj ad) {V : St} {K : Int32 → St → Prop} {X : Nat → St → Prop} {a1 : Int32} : wp_X4_event V K X a1 → Xi l D ad cy yX4_event (Cond.code yX4_event cX4_event 3 (some .int) :: WA) rm_X4_event 1 6 [.ref (ad 0), .int a1] V K X := by
  refine X_i (w := wp_X4_event V K X a1) (by decide) (Nat.le_of_ble_eq_true rfl) (List.forall_mem_cons.mpr ⟨rfl, (List.forall_mem_cons.mpr ⟨rfl, (fun _ h => absurd h List.not_mem_nil)⟩)⟩) hi ?_
  intro p e s m args below meth c A hC hrt hlk hz htb
  show G p l e rm_X4_event s m args below meth c 0 0 (vx_MQ below (va_Qi K (Bq D ad cy) A) (XCx D ad cy A X) args s 1 6 A) 3 D ad cy A (wp_X4_event V K X a1) V 0 [some (.ref (ad 0)), some (.int a1), none] []
  refine g_aload_n (pc := 0) hC dX4_event_0 rfl ?_
  refine g_iload_n (pc := 1) hC dX4_event_1 rfl ?_
  refine g_xvr (pc := 2) hC hz (c_X4_toldSource hC.2.2.2.1) mi_X4_toldSource ww_495 ⟨rfl, rfl⟩ ⟨by decide, by decide⟩ (by decide) rfl rfl rfl rfl (Nat.le_of_ble_eq_true rfl) ⟨by decide, by decide⟩ dX4_event_2 ?_ (fun k1 hk1 V2 => ?_)
  · exact fun n V2 => gx_out hC hlk htb (by decide) (by decide)
  · refine g_astore_n (pc := 5) (L2 := [some (.ref (ad 0)), some (.int a1), some (.ref (ad (12 + 8 * k1)))]) hC dX4_event_5 (by decide) rfl ?_
    refine g_aload_n (pc := 6) hC dX4_event_6 rfl ?_
    refine g_aload_n (pc := 7) hC dX4_event_7 rfl ?_
    refine g_getI (pc := 8) hC fl_X4_40 (by decide) rfl rfl dX4_event_8 ?_
    refine g_cvi (pc := 11) hC (c_X3_take hC.2.2.2.1 (srcAt hk1)) mi_X3_take ww_499 ⟨rfl, rfl⟩ ⟨by decide, by decide⟩ (SrcAt.l0 (srcAt hk1)) (srcAt hk1).2.1 rfl rfl rfl (Nat.le_of_ble_eq_true rfl) ⟨Nat.le_of_ble_eq_true rfl, Nat.le_of_ble_eq_true rfl⟩ dX4_event_11 (fun r3 V4 => ?_)
    refine g_if_ne (pc := 14) (tgt := 19) hC dX4_event_14 (by decide) ?_ ?_
    · refine g_aload_n (pc := 19) hC dX4_event_19 rfl ?_
      refine g_getI (pc := 20) hC fl_X4_89 (SrcAt.l0 (srcAt hk1)) (srcAt hk1).2.1 rfl dX4_event_20 ?_
      refine g_if_le (pc := 23) (tgt := 34) hC dX4_event_23 (by decide) ?_ ?_
      · refine g_iconst (pc := 34) hC (1 : Int32) dX4_event_34 (by decide) ?_
        exact g_xret (by decide) (by decide) (g_iret (pc := 35) hC hrt hlk dX4_event_35)
      · refine g_aload_n (pc := 26) hC dX4_event_26 rfl ?_
        refine g_getR (pc := 27) hC fl_X4_28 (by decide) rfl rfl dX4_event_27 ?_
        refine g_iload_n (pc := 30) hC dX4_event_30 rfl ?_
        refine g_cvv (pc := 31) hC (c_X2_add hC.2.2.2.1 topAt) mi_X2_add ww_503 ⟨rfl, rfl⟩ ⟨by decide, by decide⟩ (RowAt.l0 topAt) topAt.2.1 rfl rfl rfl (Nat.le_of_ble_eq_true rfl) ⟨Nat.le_of_ble_eq_true rfl, Nat.le_of_ble_eq_true rfl⟩ dX4_event_31 (fun V5 => ?_)
        refine g_iconst (pc := 34) hC (1 : Int32) dX4_event_34 (by decide) ?_
        exact g_xret (by decide) (by decide) (g_iret (pc := 35) hC hrt hlk dX4_event_35)
    · refine g_iconst (pc := 17) hC (0 : Int32) dX4_event_17 (by decide) ?_
      exact g_xret (by decide) (by decide) (g_iret (pc := 18) hC hrt hlk dX4_event_18)
def rm_X4_ticks : Room := ({ frames := 6, cells := 1, slots := 6, locals := 129 } : Room)
def h_X4_ticks_23 (K : Int32 → St → Prop) (X : Nat → St → Prop) (a1 : Int32) (rec_23 : St → Int32 → Int32 → Prop) (V : St) (l2 : Int32) (l3 : Int32) : Prop := if a1 ≤ l3 then (K l2 V) else (wp_X4_tick V (fun (r1 : Int32) (V2 : St) => if r1 = 0 then (rec_23 V2 l2 (l3 + 1)) else (rec_23 V2 (l2 + 1) (l3 + 1))))
def wp_X4_ticks (V : St) (K : Int32 → St → Prop) (X : Nat → St → Prop) (a1 : Int32) : Prop := wp_X4_within V (fun (r1 : Int32) (V2 : St) => if r1 = 0 then (X 2 V2) else (∃ n, lp (fun _ _ _ => False) (h_X4_ticks_23 K X a1) n V2 (0 : Int32) (0 : Int32))) a1 (0 : Int32) (500 : Int32)
set_option maxRecDepth 100000 in
set_option maxHeartbeats 4000000 in
theorem c_X4_ticks {l : Launch} {D : va_G} {ad : Nat → Nat} {cy : Nat → ClassId} (hi : inj ad) {V : St} {K : Int32 → St → Prop} {X : Nat → St → Prop} {a1 : Int32} : wp_X4_ticks V K X a1 → Xi l D ad cy yX4_ticks (Cond.code yX4_ticks cX4_ticks 4 (some .int) :: WA) rm_X4_ticks 1 6 [.ref (ad 0), .int a1] V K X := by
  refine X_i (w := wp_X4_ticks V K X a1) (by decide) (Nat.le_of_ble_eq_true rfl) (List.forall_mem_cons.mpr ⟨rfl, (List.forall_mem_cons.mpr ⟨rfl, (fun _ h => absurd h List.not_mem_nil)⟩)⟩) hi ?_
  intro p e s m args below meth c A hC hrt hlk hz htb
  have J_23 : ∀ (n : Nat), ∀ (V : St) (l2 : Int32) (l3 : Int32), G p l e rm_X4_ticks s m args below meth c 0 0 (vx_MQ below (va_Qi K (Bq D ad cy) A) (XCx D ad cy A X) args s 1 6 A) 4 D ad cy A (lp (fun _ _ _ => False) (h_X4_ticks_23 K X a1) n V l2 l3) V 23 [some (.ref (ad 0)), some (.int a1), some (.int l2), some (.int l3)] [] := by
    intro n
    induction n with
    | zero => exact fun _ _ _ h => False.elim h
    | succ n IH =>
      generalize hrec : lp (fun _ _ _ => False) (h_X4_ticks_23 K X a1) n = rec_23 at IH
      have ih_23 := IH
      intro V l2 l3 
      show G p l e rm_X4_ticks s m args below meth c 0 0 (vx_MQ below (va_Qi K (Bq D ad cy) A) (XCx D ad cy A X) args s 1 6 A) 4 D ad cy A (h_X4_ticks_23 K X a1 (lp (fun _ _ _ => False) (h_X4_ticks_23 K X a1) n) V l2 l3) V 23 [some (.ref (ad 0)), some (.int a1), some (.int l2), some (.int l3)] []
      rw [hrec]
      refine g_iload_n (pc := 23) hC dX4_ticks_23 rfl ?_
      refine g_iload_n (pc := 24) hC dX4_ticks_24 rfl ?_
      refine g_icmp_ge (pc := 25) (tgt := 44) hC dX4_ticks_25 (by decide) ?_ ?_
      · refine g_iload_n (pc := 44) hC dX4_ticks_44 rfl ?_
        exact g_xret (by decide) (by decide) (g_iret (pc := 45) hC hrt hlk dX4_ticks_45)
      · refine g_aload_n (pc := 28) hC dX4_ticks_28 rfl ?_
        refine g_cvi (pc := 29) hC (c_X4_tick hC.2.2.2.1) mi_X4_tick ww_511 ⟨rfl, rfl⟩ ⟨by decide, by decide⟩ (by decide) rfl rfl rfl rfl (Nat.le_of_ble_eq_true rfl) ⟨Nat.le_of_ble_eq_true rfl, Nat.le_of_ble_eq_true rfl⟩ dX4_ticks_29 (fun r1 V2 => ?_)
        refine g_if_eq (pc := 32) (tgt := 38) hC dX4_ticks_32 (by decide) ?_ ?_
        · refine g_iinc (pc := 38) (L2 := [some (.ref (ad 0)), some (.int a1), some (.int l2), some (.int (l3 + 1))]) hC (l3 + 1) dX4_ticks_38 rfl rfl (by decide) rfl ?_
          refine g_goto (pc := 41) (tgt := 23) hC dX4_ticks_41 (by decide) ?_
          exact ih_23 V2 l2 (l3 + 1)
        · refine g_iinc (pc := 35) (L2 := [some (.ref (ad 0)), some (.int a1), some (.int (l2 + 1)), some (.int l3)]) hC (l2 + 1) dX4_ticks_35 rfl rfl (by decide) rfl ?_
          refine g_iinc (pc := 38) (L2 := [some (.ref (ad 0)), some (.int a1), some (.int (l2 + 1)), some (.int (l3 + 1))]) hC (l3 + 1) dX4_ticks_38 rfl rfl (by decide) rfl ?_
          refine g_goto (pc := 41) (tgt := 23) hC dX4_ticks_41 (by decide) ?_
          exact ih_23 V2 (l2 + 1) (l3 + 1)
  show G p l e rm_X4_ticks s m args below meth c 0 0 (vx_MQ below (va_Qi K (Bq D ad cy) A) (XCx D ad cy A X) args s 1 6 A) 4 D ad cy A (wp_X4_ticks V K X a1) V 0 [some (.ref (ad 0)), some (.int a1), none, none] []
  refine g_iload_n (pc := 0) hC dX4_ticks_0 rfl ?_
  refine g_iconst (pc := 1) hC (0 : Int32) dX4_ticks_1 (by decide) ?_
  refine g_sipush (pc := 2) hC (500 : Int32) dX4_ticks_2 (by decide) ?_
  refine g_csi (pc := 5) hC (c_X4_within hC.2.2.2.1) mi_X4_within ww_337 ⟨rfl, rfl⟩ ⟨by decide, by decide⟩ rfl rfl (Nat.le_of_ble_eq_true rfl) ⟨Nat.le_of_ble_eq_true rfl, Nat.le_of_ble_eq_true rfl⟩ dX4_ticks_5 (fun r1 V2 => ?_)
  refine g_if_ne (pc := 8) (tgt := 19) hC dX4_ticks_8 (by decide) ?_ ?_
  · refine g_iconst (pc := 19) hC (0 : Int32) dX4_ticks_19 (by decide) ?_
    refine g_istore_n (pc := 20) (L2 := [some (.ref (ad 0)), some (.int a1), some (.int (0 : Int32)), none]) hC dX4_ticks_20 (by decide) rfl ?_
    refine g_iconst (pc := 21) hC (0 : Int32) dX4_ticks_21 (by decide) ?_
    refine g_istore_n (pc := 22) (L2 := [some (.ref (ad 0)), some (.int a1), some (.int (0 : Int32)), some (.int (0 : Int32))]) hC dX4_ticks_22 (by decide) rfl ?_
    exact g_ex (fun n => J_23  n V2 (0 : Int32) (0 : Int32))
  · exact g_throw (pc := 11) hC hlk hz htb tw_X4_2 dX4_ticks_11 dX4_ticks_14 dX4_ticks_15 dX4_ticks_18 (by decide) (Nat.le_of_ble_eq_true rfl) (by decide) (by decide) (by decide) (by decide)
def rm_X4_about : Room := ({ frames := 7, cells := 2, slots := 12, locals := 110 } : Room)
def wp_X4_about (V : St) (K : Int32 → St → Prop) (X : Nat → St → Prop) (a1 : Int32) (a2 : Int32) : Prop := wp_X4_toldSource V (fun (k1 : Nat) (V2 : St) => if a2 = 0 then (K (V2 (12 + 8 * k1) 11) V2) else (if a2 = 1 then (K (V2 (12 + 8 * k1) 12) V2) else (if a2 = 2 then (K (V2 (12 + 8 * k1) 13) V2) else (if a2 = 3 then (K (V2 ((12 + 8 * k1) + 1) 2) V2) else (if a2 = 4 then (if (V2 (12 + 8 * k1) 10) = 0 then (K (0 : Int32) V2) else (K (1 : Int32) V2)) else (if a2 = 5 then (K (V2 (12 + 8 * k1) 14) V2) else (if a2 = 6 then (K (V2 ((12 + 8 * k1) + 3) 2) V2) else (if a2 = 7 then (K (V2 ((12 + 8 * k1) + 5) 2) V2) else (if a2 = 8 then (wp_X1_nextTime V2 (fun (r3 : Int32) (V4 : St) => K r3 V4) ((12 + 8 * k1) + 5)) else (if a2 = 9 then (wp_X1_nextAmount V2 (fun (r5 : Int32) (V6 : St) => K r5 V6) ((12 + 8 * k1) + 5)) else (if a2 = 10 then (K (V2 (12 + 8 * k1) 15) V2) else (if a2 = 11 then (K (V2 (12 + 8 * k1) 16) V2) else (if a2 = 12 then (if (V2 ((12 + 8 * k1) + 1) 2) ≤ 0 then (K (-1 : Int32) V2) else (K (V2 (12 + 8 * k1) 17) V2)) else (X 4 V2)))))))))))))) X a1
set_option maxRecDepth 100000 in
set_option maxHeartbeats 4000000 in
theorem c_X4_about {l : Launch} {D : va_G} {ad : Nat → Nat} {cy : Nat → ClassId} (hi : inj ad) {V : St} {K : Int32 → St → Prop} {X : Nat → St → Prop} {a1 : Int32} {a2 : Int32} : wp_X4_about V K X a1 a2 → Xi l D ad cy yX4_about (Cond.code yX4_about cX4_about 4 (some .int) :: WA) rm_X4_about 2 12 [.ref (ad 0), .int a1, .int a2] V K X := by
  refine X_i (w := wp_X4_about V K X a1 a2) (by decide) (Nat.le_of_ble_eq_true rfl) (List.forall_mem_cons.mpr ⟨rfl, (List.forall_mem_cons.mpr ⟨rfl, (List.forall_mem_cons.mpr ⟨rfl, (fun _ h => absurd h List.not_mem_nil)⟩)⟩)⟩) hi ?_
  intro p e s m args below meth c A hC hrt hlk hz htb
  show G p l e rm_X4_about s m args below meth c 0 0 (vx_MQ below (va_Qi K (Bq D ad cy) A) (XCx D ad cy A X) args s 2 12 A) 4 D ad cy A (wp_X4_about V K X a1 a2) V 0 [some (.ref (ad 0)), some (.int a1), some (.int a2), none] []
  refine g_aload_n (pc := 0) hC dX4_about_0 rfl ?_
  refine g_iload_n (pc := 1) hC dX4_about_1 rfl ?_
  refine g_xvr (pc := 2) hC hz (c_X4_toldSource hC.2.2.2.1) mi_X4_toldSource ww_495 ⟨rfl, rfl⟩ ⟨by decide, by decide⟩ (by decide) rfl rfl rfl rfl (Nat.le_of_ble_eq_true rfl) ⟨by decide, by decide⟩ dX4_about_2 ?_ (fun k1 hk1 V2 => ?_)
  · exact fun n V2 => gx_out hC hlk htb (by decide) (by decide)
  · refine g_astore_n (pc := 5) (L2 := [some (.ref (ad 0)), some (.int a1), some (.int a2), some (.ref (ad (12 + 8 * k1)))]) hC dX4_about_5 (by decide) rfl ?_
    refine g_iload_n (pc := 6) hC dX4_about_6 rfl ?_
    refine g_if (fun hs0 => ?_) (fun hs0 => ?_)
    · refine g_swIn (pc := 7) (off := 65) (tgt := 72) hC dX4_about_7 (by rw [hs0]; decide) (by rw [hs0]; decide) (by rw [hs0]; decide) (by decide) ?_
      refine g_aload_n (pc := 72) hC dX4_about_72 rfl ?_
      refine g_getI (pc := 73) hC fl_X4_114 (SrcAt.l0 (srcAt hk1)) (srcAt hk1).2.1 rfl dX4_about_73 ?_
      exact g_xret (by decide) (by decide) (g_iret (pc := 76) hC hrt hlk dX4_about_76)
    · skip
      refine g_if (fun hs1 => ?_) (fun hs1 => ?_)
      · refine g_swIn (pc := 7) (off := 70) (tgt := 77) hC dX4_about_7 (by rw [hs1]; decide) (by rw [hs1]; decide) (by rw [hs1]; decide) (by decide) ?_
        refine g_aload_n (pc := 77) hC dX4_about_77 rfl ?_
        refine g_getI (pc := 78) hC fl_X4_117 (SrcAt.l0 (srcAt hk1)) (srcAt hk1).2.1 rfl dX4_about_78 ?_
        exact g_xret (by decide) (by decide) (g_iret (pc := 81) hC hrt hlk dX4_about_81)
      · skip
        refine g_if (fun hs2 => ?_) (fun hs2 => ?_)
        · refine g_swIn (pc := 7) (off := 75) (tgt := 82) hC dX4_about_7 (by rw [hs2]; decide) (by rw [hs2]; decide) (by rw [hs2]; decide) (by decide) ?_
          refine g_aload_n (pc := 82) hC dX4_about_82 rfl ?_
          refine g_getI (pc := 83) hC fl_X4_120 (SrcAt.l0 (srcAt hk1)) (srcAt hk1).2.1 rfl dX4_about_83 ?_
          exact g_xret (by decide) (by decide) (g_iret (pc := 86) hC hrt hlk dX4_about_86)
        · skip
          refine g_if (fun hs3 => ?_) (fun hs3 => ?_)
          · refine g_swIn (pc := 7) (off := 80) (tgt := 87) hC dX4_about_7 (by rw [hs3]; decide) (by rw [hs3]; decide) (by rw [hs3]; decide) (by decide) ?_
            refine g_aload_n (pc := 87) hC dX4_about_87 rfl ?_
            refine g_getR (pc := 88) hC fl_X4_123 (SrcAt.l0 (srcAt hk1)) (srcAt hk1).2.1 rfl dX4_about_88 ?_
            refine g_getI (pc := 91) hC fl_X4_126 (RowAt.l0 (srcAt hk1).2.2.1) ((srcAt hk1).2.2.1).2.1 rfl dX4_about_91 ?_
            exact g_xret (by decide) (by decide) (g_iret (pc := 94) hC hrt hlk dX4_about_94)
          · skip
            refine g_if (fun hs4 => ?_) (fun hs4 => ?_)
            · refine g_swIn (pc := 7) (off := 88) (tgt := 95) hC dX4_about_7 (by rw [hs4]; decide) (by rw [hs4]; decide) (by rw [hs4]; decide) (by decide) ?_
              refine g_aload_n (pc := 95) hC dX4_about_95 rfl ?_
              refine g_getI (pc := 96) hC fl_X4_129 (SrcAt.l0 (srcAt hk1)) (srcAt hk1).2.1 rfl dX4_about_96 ?_
              refine g_if_eq (pc := 99) (tgt := 106) hC dX4_about_99 (by decide) ?_ ?_
              · refine g_iconst (pc := 106) hC (0 : Int32) dX4_about_106 (by decide) ?_
                exact g_xret (by decide) (by decide) (g_iret (pc := 107) hC hrt hlk dX4_about_107)
              · refine g_iconst (pc := 102) hC (1 : Int32) dX4_about_102 (by decide) ?_
                refine g_goto (pc := 103) (tgt := 107) hC dX4_about_103 (by decide) ?_
                exact g_xret (by decide) (by decide) (g_iret (pc := 107) hC hrt hlk dX4_about_107)
            · skip
              refine g_if (fun hs5 => ?_) (fun hs5 => ?_)
              · refine g_swIn (pc := 7) (off := 101) (tgt := 108) hC dX4_about_7 (by rw [hs5]; decide) (by rw [hs5]; decide) (by rw [hs5]; decide) (by decide) ?_
                refine g_aload_n (pc := 108) hC dX4_about_108 rfl ?_
                refine g_getI (pc := 109) hC fl_X4_132 (SrcAt.l0 (srcAt hk1)) (srcAt hk1).2.1 rfl dX4_about_109 ?_
                exact g_xret (by decide) (by decide) (g_iret (pc := 112) hC hrt hlk dX4_about_112)
              · skip
                refine g_if (fun hs6 => ?_) (fun hs6 => ?_)
                · refine g_swIn (pc := 7) (off := 106) (tgt := 113) hC dX4_about_7 (by rw [hs6]; decide) (by rw [hs6]; decide) (by rw [hs6]; decide) (by decide) ?_
                  refine g_aload_n (pc := 113) hC dX4_about_113 rfl ?_
                  refine g_getR (pc := 114) hC fl_X4_135 (SrcAt.l0 (srcAt hk1)) (srcAt hk1).2.1 rfl dX4_about_114 ?_
                  refine g_getI (pc := 117) hC fl_X4_126 (RowAt.l0 (srcAt hk1).2.2.2.1) ((srcAt hk1).2.2.2.1).2.1 rfl dX4_about_117 ?_
                  exact g_xret (by decide) (by decide) (g_iret (pc := 120) hC hrt hlk dX4_about_120)
                · skip
                  refine g_if (fun hs7 => ?_) (fun hs7 => ?_)
                  · refine g_swIn (pc := 7) (off := 114) (tgt := 121) hC dX4_about_7 (by rw [hs7]; decide) (by rw [hs7]; decide) (by rw [hs7]; decide) (by decide) ?_
                    refine g_aload_n (pc := 121) hC dX4_about_121 rfl ?_
                    refine g_getR (pc := 122) hC fl_X4_138 (SrcAt.l0 (srcAt hk1)) (srcAt hk1).2.1 rfl dX4_about_122 ?_
                    refine g_getI (pc := 125) hC fl_X4_142 (PcsAt.l0 (srcAt hk1).2.2.2.2) ((srcAt hk1).2.2.2.2).2.1 rfl dX4_about_125 ?_
                    exact g_xret (by decide) (by decide) (g_iret (pc := 128) hC hrt hlk dX4_about_128)
                  · skip
                    refine g_if (fun hs8 => ?_) (fun hs8 => ?_)
                    · refine g_swIn (pc := 7) (off := 122) (tgt := 129) hC dX4_about_7 (by rw [hs8]; decide) (by rw [hs8]; decide) (by rw [hs8]; decide) (by decide) ?_
                      refine g_aload_n (pc := 129) hC dX4_about_129 rfl ?_
                      refine g_getR (pc := 130) hC fl_X4_138 (SrcAt.l0 (srcAt hk1)) (srcAt hk1).2.1 rfl dX4_about_130 ?_
                      refine g_cvi (pc := 133) hC (c_X1_nextTime hC.2.2.2.1 ((srcAt hk1).2.2.2.2)) mi_X1_nextTime ww_520 ⟨rfl, rfl⟩ ⟨by decide, by decide⟩ (PcsAt.l0 (srcAt hk1).2.2.2.2) ((srcAt hk1).2.2.2.2).2.1 rfl rfl rfl (Nat.le_of_ble_eq_true rfl) ⟨Nat.le_of_ble_eq_true rfl, Nat.le_of_ble_eq_true rfl⟩ dX4_about_133 (fun r3 V4 => ?_)
                      exact g_xret (by decide) (by decide) (g_iret (pc := 136) hC hrt hlk dX4_about_136)
                    · skip
                      refine g_if (fun hs9 => ?_) (fun hs9 => ?_)
                      · refine g_swIn (pc := 7) (off := 130) (tgt := 137) hC dX4_about_7 (by rw [hs9]; decide) (by rw [hs9]; decide) (by rw [hs9]; decide) (by decide) ?_
                        refine g_aload_n (pc := 137) hC dX4_about_137 rfl ?_
                        refine g_getR (pc := 138) hC fl_X4_138 (SrcAt.l0 (srcAt hk1)) (srcAt hk1).2.1 rfl dX4_about_138 ?_
                        refine g_cvi (pc := 141) hC (c_X1_nextAmount hC.2.2.2.1 ((srcAt hk1).2.2.2.2)) mi_X1_nextAmount ww_528 ⟨rfl, rfl⟩ ⟨by decide, by decide⟩ (PcsAt.l0 (srcAt hk1).2.2.2.2) ((srcAt hk1).2.2.2.2).2.1 rfl rfl rfl (Nat.le_of_ble_eq_true rfl) ⟨Nat.le_of_ble_eq_true rfl, Nat.le_of_ble_eq_true rfl⟩ dX4_about_141 (fun r5 V6 => ?_)
                        exact g_xret (by decide) (by decide) (g_iret (pc := 144) hC hrt hlk dX4_about_144)
                      · skip
                        refine g_if (fun hs10 => ?_) (fun hs10 => ?_)
                        · refine g_swIn (pc := 7) (off := 138) (tgt := 145) hC dX4_about_7 (by rw [hs10]; decide) (by rw [hs10]; decide) (by rw [hs10]; decide) (by decide) ?_
                          refine g_aload_n (pc := 145) hC dX4_about_145 rfl ?_
                          refine g_getI (pc := 146) hC fl_X4_151 (SrcAt.l0 (srcAt hk1)) (srcAt hk1).2.1 rfl dX4_about_146 ?_
                          exact g_xret (by decide) (by decide) (g_iret (pc := 149) hC hrt hlk dX4_about_149)
                        · skip
                          refine g_if (fun hs11 => ?_) (fun hs11 => ?_)
                          · refine g_swIn (pc := 7) (off := 143) (tgt := 150) hC dX4_about_7 (by rw [hs11]; decide) (by rw [hs11]; decide) (by rw [hs11]; decide) (by decide) ?_
                            refine g_aload_n (pc := 150) hC dX4_about_150 rfl ?_
                            refine g_getI (pc := 151) hC fl_X4_154 (SrcAt.l0 (srcAt hk1)) (srcAt hk1).2.1 rfl dX4_about_151 ?_
                            exact g_xret (by decide) (by decide) (g_iret (pc := 154) hC hrt hlk dX4_about_154)
                          · skip
                            refine g_if (fun hs12 => ?_) (fun hs12 => ?_)
                            · refine g_swIn (pc := 7) (off := 148) (tgt := 155) hC dX4_about_7 (by rw [hs12]; decide) (by rw [hs12]; decide) (by rw [hs12]; decide) (by decide) ?_
                              refine g_aload_n (pc := 155) hC dX4_about_155 rfl ?_
                              refine g_getR (pc := 156) hC fl_X4_123 (SrcAt.l0 (srcAt hk1)) (srcAt hk1).2.1 rfl dX4_about_156 ?_
                              refine g_getI (pc := 159) hC fl_X4_126 (RowAt.l0 (srcAt hk1).2.2.1) ((srcAt hk1).2.2.1).2.1 rfl dX4_about_159 ?_
                              refine g_if_le (pc := 162) (tgt := 172) hC dX4_about_162 (by decide) ?_ ?_
                              · refine g_iconst (pc := 172) hC (-1 : Int32) dX4_about_172 (by decide) ?_
                                exact g_xret (by decide) (by decide) (g_iret (pc := 173) hC hrt hlk dX4_about_173)
                              · refine g_aload_n (pc := 165) hC dX4_about_165 rfl ?_
                                refine g_getI (pc := 166) hC fl_X4_157 (SrcAt.l0 (srcAt hk1)) (srcAt hk1).2.1 rfl dX4_about_166 ?_
                                refine g_goto (pc := 169) (tgt := 173) hC dX4_about_169 (by decide) ?_
                                exact g_xret (by decide) (by decide) (g_iret (pc := 173) hC hrt hlk dX4_about_173)
                            · skip
                              refine g_swOut (pc := 7) (tgt := 174) hC dX4_about_7 (sw_out_13 hs0 hs1 hs2 hs3 hs4 hs5 hs6 hs7 hs8 hs9 hs10 hs11 hs12) (by decide) ?_
                              exact g_throw (pc := 174) hC hlk hz htb tw_X4_4 dX4_about_174 dX4_about_177 dX4_about_178 dX4_about_181 (by decide) (Nat.le_of_ble_eq_true rfl) (by decide) (by decide) (by decide) (by decide)
def rm_X4_task : Room := ({ frames := 6, cells := 1, slots := 6, locals := 93 } : Room)
def wp_X4_task (V : St) (K : Int32 → St → Prop) (X : Nat → St → Prop) (a1 : Int32) (a2 : Int32) : Prop := wp_X4_within V (fun (r1 : Int32) (V2 : St) => if r1 = 0 then (X 1 V2) else (∃ k3, k3 < 6 ∧ a1 = nI k3 ∧ if (V2 (6 + 1 * k3) 0) = 0 then (X 1 V2) else (∃ k4, k4 < 6 ∧ a1 = nI k4 ∧ if a2 = 0 then (K (V2 (6 + 1 * k4) 5) V2) else (if a2 = 1 then (K (V2 (6 + 1 * k4) 6) V2) else (if a2 = 2 then (K (V2 (6 + 1 * k4) 7) V2) else (if a2 = 3 then (wp_X4_taskBound V2 (fun (r5 : Int32) (V6 : St) => K r5 V6) (6 + 1 * k4)) else (X 4 V2))))))) a1 (0 : Int32) (5 : Int32)
set_option maxRecDepth 100000 in
set_option maxHeartbeats 4000000 in
theorem c_X4_task {l : Launch} {D : va_G} {ad : Nat → Nat} {cy : Nat → ClassId} (hi : inj ad) {V : St} {K : Int32 → St → Prop} {X : Nat → St → Prop} {a1 : Int32} {a2 : Int32} : wp_X4_task V K X a1 a2 → Xi l D ad cy yX4_task (Cond.code yX4_task cX4_task 4 (some .int) :: WA) rm_X4_task 1 6 [.ref (ad 0), .int a1, .int a2] V K X := by
  refine X_i (w := wp_X4_task V K X a1 a2) (by decide) (Nat.le_of_ble_eq_true rfl) (List.forall_mem_cons.mpr ⟨rfl, (List.forall_mem_cons.mpr ⟨rfl, (List.forall_mem_cons.mpr ⟨rfl, (fun _ h => absurd h List.not_mem_nil)⟩)⟩)⟩) hi ?_
  intro p e s m args below meth c A hC hrt hlk hz htb
  show G p l e rm_X4_task s m args below meth c 0 0 (vx_MQ below (va_Qi K (Bq D ad cy) A) (XCx D ad cy A X) args s 1 6 A) 4 D ad cy A (wp_X4_task V K X a1 a2) V 0 [some (.ref (ad 0)), some (.int a1), some (.int a2), none] []
  refine g_iload_n (pc := 0) hC dX4_task_0 rfl ?_
  refine g_iconst (pc := 1) hC (0 : Int32) dX4_task_1 (by decide) ?_
  refine g_iconst (pc := 2) hC (5 : Int32) dX4_task_2 (by decide) ?_
  refine g_csi (pc := 3) hC (c_X4_within hC.2.2.2.1) mi_X4_within ww_337 ⟨rfl, rfl⟩ ⟨by decide, by decide⟩ rfl rfl (Nat.le_of_ble_eq_true rfl) ⟨Nat.le_of_ble_eq_true rfl, Nat.le_of_ble_eq_true rfl⟩ dX4_task_3 (fun r1 V2 => ?_)
  refine g_if_eq (pc := 6) (tgt := 21) hC dX4_task_6 (by decide) ?_ ?_
  · exact g_throw (pc := 21) hC hlk hz htb tw_X4_1 dX4_task_21 dX4_task_24 dX4_task_25 dX4_task_28 (by decide) (Nat.le_of_ble_eq_true rfl) (by decide) (by decide) (by decide) (by decide)
  · refine g_aload_n (pc := 9) hC dX4_task_9 rfl ?_
    refine g_getR (pc := 10) hC fl_X4_18 (by decide) rfl rfl dX4_task_10 ?_
    refine g_iload_n (pc := 13) hC dX4_task_13 rfl ?_
    refine g_aald (pc := 14) hC (by decide) rfl rfl (by decide) dX4_task_14 (fun k3 hk3 => ?_)
    refine g_getI (pc := 15) hC fl_X4_75 (tskAt hk3).1 (tskAt hk3).2 rfl dX4_task_15 ?_
    refine g_if_ne (pc := 18) (tgt := 29) hC dX4_task_18 (by decide) ?_ ?_
    · refine g_aload_n (pc := 29) hC dX4_task_29 rfl ?_
      refine g_getR (pc := 30) hC fl_X4_18 (by decide) rfl rfl dX4_task_30 ?_
      refine g_iload_n (pc := 33) hC dX4_task_33 rfl ?_
      refine g_aald (pc := 34) hC (by decide) rfl rfl (by decide) dX4_task_34 (fun k4 hk4 => ?_)
      refine g_astore_n (pc := 35) (L2 := [some (.ref (ad 0)), some (.int a1), some (.int a2), some (.ref (ad (6 + 1 * k4)))]) hC dX4_task_35 (by decide) rfl ?_
      refine g_iload_n (pc := 36) hC dX4_task_36 rfl ?_
      refine g_if (fun hs0 => ?_) (fun hs0 => ?_)
      · refine g_swIn (pc := 37) (off := 31) (tgt := 68) hC dX4_task_37 (by rw [hs0]; decide) (by rw [hs0]; decide) (by rw [hs0]; decide) (by decide) ?_
        refine g_aload_n (pc := 68) hC dX4_task_68 rfl ?_
        refine g_getI (pc := 69) hC fl_X4_163 (tskAt hk4).1 (tskAt hk4).2 rfl dX4_task_69 ?_
        exact g_xret (by decide) (by decide) (g_iret (pc := 72) hC hrt hlk dX4_task_72)
      · skip
        refine g_if (fun hs1 => ?_) (fun hs1 => ?_)
        · refine g_swIn (pc := 37) (off := 36) (tgt := 73) hC dX4_task_37 (by rw [hs1]; decide) (by rw [hs1]; decide) (by rw [hs1]; decide) (by decide) ?_
          refine g_aload_n (pc := 73) hC dX4_task_73 rfl ?_
          refine g_getI (pc := 74) hC fl_X4_166 (tskAt hk4).1 (tskAt hk4).2 rfl dX4_task_74 ?_
          exact g_xret (by decide) (by decide) (g_iret (pc := 77) hC hrt hlk dX4_task_77)
        · skip
          refine g_if (fun hs2 => ?_) (fun hs2 => ?_)
          · refine g_swIn (pc := 37) (off := 41) (tgt := 78) hC dX4_task_37 (by rw [hs2]; decide) (by rw [hs2]; decide) (by rw [hs2]; decide) (by decide) ?_
            refine g_aload_n (pc := 78) hC dX4_task_78 rfl ?_
            refine g_getI (pc := 79) hC fl_X4_169 (tskAt hk4).1 (tskAt hk4).2 rfl dX4_task_79 ?_
            exact g_xret (by decide) (by decide) (g_iret (pc := 82) hC hrt hlk dX4_task_82)
          · skip
            refine g_if (fun hs3 => ?_) (fun hs3 => ?_)
            · refine g_swIn (pc := 37) (off := 46) (tgt := 83) hC dX4_task_37 (by rw [hs3]; decide) (by rw [hs3]; decide) (by rw [hs3]; decide) (by decide) ?_
              refine g_aload_n (pc := 83) hC dX4_task_83 rfl ?_
              refine g_aload_n (pc := 84) hC dX4_task_84 rfl ?_
              refine g_cvi (pc := 85) hC (c_X4_taskBound hC.2.2.2.1 (tskAt hk4)) mi_X4_taskBound ww_446 ⟨rfl, rfl⟩ ⟨by decide, by decide⟩ (by decide) rfl rfl rfl rfl (Nat.le_of_ble_eq_true rfl) ⟨Nat.le_of_ble_eq_true rfl, Nat.le_of_ble_eq_true rfl⟩ dX4_task_85 (fun r5 V6 => ?_)
              exact g_xret (by decide) (by decide) (g_iret (pc := 88) hC hrt hlk dX4_task_88)
            · skip
              refine g_swOut (pc := 37) (tgt := 89) hC dX4_task_37 (sw_out_4 hs0 hs1 hs2 hs3) (by decide) ?_
              exact g_throw (pc := 89) hC hlk hz htb tw_X4_4 dX4_task_89 dX4_task_92 dX4_task_93 dX4_task_96 (by decide) (Nat.le_of_ble_eq_true rfl) (by decide) (by decide) (by decide) (by decide)
    · exact g_throw (pc := 21) hC hlk hz htb tw_X4_1 dX4_task_21 dX4_task_24 dX4_task_25 dX4_task_28 (by decide) (Nat.le_of_ble_eq_true rfl) (by decide) (by decide) (by decide) (by decide)
def rm_X4_bound : Room := ({ frames := 7, cells := 1, slots := 6, locals := 110 } : Room)
def wp_X4_bound (V : St) (K : Int32 → St → Prop) (X : Nat → St → Prop) (a1 : Int32) : Prop := wp_X4_toldSource V (fun (k1 : Nat) (V2 : St) => wp_X4_sourceBound V2 (fun (r3 : Int32) (V4 : St) => K r3 V4) (12 + 8 * k1)) X a1
set_option maxRecDepth 100000 in
set_option maxHeartbeats 4000000 in
theorem c_X4_bound {l : Launch} {D : va_G} {ad : Nat → Nat} {cy : Nat → ClassId} (hi : inj ad) {V : St} {K : Int32 → St → Prop} {X : Nat → St → Prop} {a1 : Int32} : wp_X4_bound V K X a1 → Xi l D ad cy yX4_bound (Cond.code yX4_bound cX4_bound 2 (some .int) :: WA) rm_X4_bound 1 6 [.ref (ad 0), .int a1] V K X := by
  refine X_i (w := wp_X4_bound V K X a1) (by decide) (Nat.le_of_ble_eq_true rfl) (List.forall_mem_cons.mpr ⟨rfl, (List.forall_mem_cons.mpr ⟨rfl, (fun _ h => absurd h List.not_mem_nil)⟩)⟩) hi ?_
  intro p e s m args below meth c A hC hrt hlk hz htb
  show G p l e rm_X4_bound s m args below meth c 0 0 (vx_MQ below (va_Qi K (Bq D ad cy) A) (XCx D ad cy A X) args s 1 6 A) 2 D ad cy A (wp_X4_bound V K X a1) V 0 [some (.ref (ad 0)), some (.int a1)] []
  refine g_aload_n (pc := 0) hC dX4_bound_0 rfl ?_
  refine g_aload_n (pc := 1) hC dX4_bound_1 rfl ?_
  refine g_iload_n (pc := 2) hC dX4_bound_2 rfl ?_
  refine g_xvr (pc := 3) hC hz (c_X4_toldSource hC.2.2.2.1) mi_X4_toldSource ww_495 ⟨rfl, rfl⟩ ⟨by decide, by decide⟩ (by decide) rfl rfl rfl rfl (Nat.le_of_ble_eq_true rfl) ⟨by decide, by decide⟩ dX4_bound_3 ?_ (fun k1 hk1 V2 => ?_)
  · exact fun n V2 => gx_out hC hlk htb (by decide) (by decide)
  · refine g_cvi (pc := 6) hC (c_X4_sourceBound hC.2.2.2.1 (srcAt hk1)) mi_X4_sourceBound ww_561 ⟨rfl, rfl⟩ ⟨by decide, by decide⟩ (by decide) rfl rfl rfl rfl (Nat.le_of_ble_eq_true rfl) ⟨Nat.le_of_ble_eq_true rfl, Nat.le_of_ble_eq_true rfl⟩ dX4_bound_6 (fun r3 V4 => ?_)
    exact g_xret (by decide) (by decide) (g_iret (pc := 9) hC hrt hlk dX4_bound_9)
def rm_X4_used : Room := ({ frames := 7, cells := 2, slots := 12, locals := 110 } : Room)
def h_X4_used_51 (K : Int32 → St → Prop) (X : Nat → St → Prop) (a1 : Int32) (a2 : Int32) (a3 : Int32) (a4 : Int32) (rec_51 : St → Int32 → Int32 → Prop) (V : St) (l5 : Int32) (l6 : Int32) : Prop := if a4 ≤ l6 then (K l5 V) else (¬ (1000 : Int32) = 0 ∧ vp_in (l6 - l6 / (1000 : Int32) * (1000 : Int32)) 1000 ∧ ∀ x1 : Int32, x1 = (V 5 (l6 - l6 / (1000 : Int32) * (1000 : Int32)).toNatClampNeg) → if x1 = ((20 : Int32) + a1) then (rec_51 V (l5 + 1) (l6 + 1)) else (if a2 = 0 then (rec_51 V l5 (l6 + 1)) else (if x1 = ((10 : Int32) + a1) then (rec_51 V (l5 + 1) (l6 + 1)) else (rec_51 V l5 (l6 + 1)))))
def wp_X4_used (V : St) (K : Int32 → St → Prop) (X : Nat → St → Prop) (a1 : Int32) (a2 : Int32) (a3 : Int32) (a4 : Int32) : Prop := wp_X4_toldSource V (fun (k1 : Nat) (V2 : St) => if a3 < 0 then (X 4 V2) else (if a4 < a3 then (X 4 V2) else (if (V2 0 5) < a4 then (X 4 V2) else (if ((V2 0 5) - a3) ≤ (1000 : Int32) then (∃ n, lp (fun _ _ _ => False) (h_X4_used_51 K X a1 a2 a3 a4) n V2 (0 : Int32) a3) else (X 4 V2))))) X a1
set_option maxRecDepth 100000 in
set_option maxHeartbeats 4000000 in
theorem c_X4_used {l : Launch} {D : va_G} {ad : Nat → Nat} {cy : Nat → ClassId} (hi : inj ad) {V : St} {K : Int32 → St → Prop} {X : Nat → St → Prop} {a1 : Int32} {a2 : Int32} {a3 : Int32} {a4 : Int32} : wp_X4_used V K X a1 a2 a3 a4 → Xi l D ad cy yX4_used (Cond.code yX4_used cX4_used 8 (some .int) :: WA) rm_X4_used 2 12 [.ref (ad 0), .int a1, .int a2, .int a3, .int a4] V K X := by
  refine X_i (w := wp_X4_used V K X a1 a2 a3 a4) (by decide) (Nat.le_of_ble_eq_true rfl) (List.forall_mem_cons.mpr ⟨rfl, (List.forall_mem_cons.mpr ⟨rfl, (List.forall_mem_cons.mpr ⟨rfl, (List.forall_mem_cons.mpr ⟨rfl, (List.forall_mem_cons.mpr ⟨rfl, (fun _ h => absurd h List.not_mem_nil)⟩)⟩)⟩)⟩)⟩) hi ?_
  intro p e s m args below meth c A hC hrt hlk hz htb
  have J_51 : ∀ (n : Nat), ∀ (V : St) (l5 : Int32) (l6 : Int32), G p l e rm_X4_used s m args below meth c 1 6 (vx_MQ below (va_Qi K (Bq D ad cy) A) (XCx D ad cy A X) args s 2 12 A) 8 D ad cy A (lp (fun _ _ _ => False) (h_X4_used_51 K X a1 a2 a3 a4) n V l5 l6) V 51 [some (.ref (ad 0)), some (.int a1), some (.int a2), none, some (.int a4), some (.int l5), some (.int l6), none] [] := by
    intro n
    induction n with
    | zero => exact fun _ _ _ h => False.elim h
    | succ n IH =>
      generalize hrec : lp (fun _ _ _ => False) (h_X4_used_51 K X a1 a2 a3 a4) n = rec_51 at IH
      have ih_51 := IH
      intro V l5 l6 
      show G p l e rm_X4_used s m args below meth c 1 6 (vx_MQ below (va_Qi K (Bq D ad cy) A) (XCx D ad cy A X) args s 2 12 A) 8 D ad cy A (h_X4_used_51 K X a1 a2 a3 a4 (lp (fun _ _ _ => False) (h_X4_used_51 K X a1 a2 a3 a4) n) V l5 l6) V 51 [some (.ref (ad 0)), some (.int a1), some (.int a2), none, some (.int a4), some (.int l5), some (.int l6), none] []
      rw [hrec]
      refine g_iload (pc := 51) hC dX4_used_51 rfl ?_
      refine g_iload (pc := 53) hC dX4_used_53 rfl ?_
      refine g_icmp_ge (pc := 55) (tgt := 102) hC dX4_used_55 (by decide) ?_ ?_
      · refine g_iload (pc := 102) hC dX4_used_102 rfl ?_
        exact g_xret (by decide) (by decide) (g_iret (pc := 104) hC hrt hlk dX4_used_104)
      · refine g_aload_n (pc := 58) hC dX4_used_58 rfl ?_
        refine g_getR (pc := 59) hC fl_X4_32 (by decide) rfl rfl dX4_used_59 ?_
        refine g_iload (pc := 62) hC dX4_used_62 rfl ?_
        refine g_sipush (pc := 64) hC (1000 : Int32) dX4_used_64 (by decide) ?_
        refine g_irem (pc := 67) hC dX4_used_67 ?_
        refine g_bald (pc := 68) hC (by decide) rfl dX4_used_68 ?_
        refine g_nm (fun x1 => ?_)
        refine g_istore (pc := 69) (L2 := [some (.ref (ad 0)), some (.int a1), some (.int a2), none, some (.int a4), some (.int l5), some (.int l6), some (.int x1)]) hC dX4_used_69 (by decide) rfl ?_
        refine g_iload (pc := 71) hC dX4_used_71 rfl ?_
        refine g_bipush (pc := 73) hC (20 : Int32) dX4_used_73 (by decide) ?_
        refine g_iload_n (pc := 75) hC dX4_used_75 rfl ?_
        refine g_iadd (pc := 76) hC dX4_used_76 ?_
        refine g_icmp_eq (pc := 77) (tgt := 93) hC dX4_used_77 (by decide) ?_ ?_
        · refine g_iinc (pc := 93) (L2 := [some (.ref (ad 0)), some (.int a1), some (.int a2), none, some (.int a4), some (.int (l5 + 1)), some (.int l6), some (.int x1)]) hC (l5 + 1) dX4_used_93 rfl rfl (by decide) rfl ?_
          refine g_iinc (pc := 96) (L2 := [some (.ref (ad 0)), some (.int a1), some (.int a2), none, some (.int a4), some (.int (l5 + 1)), some (.int (l6 + 1)), some (.int x1)]) hC (l6 + 1) dX4_used_96 rfl rfl (by decide) rfl ?_
          refine g_goto (pc := 99) (tgt := 51) hC dX4_used_99 (by decide) ?_
          exact g_ms [true, true, true, false, true, true, true, false] (ih_51 V (l5 + 1) (l6 + 1))
        · refine g_iload_n (pc := 80) hC dX4_used_80 rfl ?_
          refine g_if_eq (pc := 81) (tgt := 96) hC dX4_used_81 (by decide) ?_ ?_
          · refine g_iinc (pc := 96) (L2 := [some (.ref (ad 0)), some (.int a1), some (.int a2), none, some (.int a4), some (.int l5), some (.int (l6 + 1)), some (.int x1)]) hC (l6 + 1) dX4_used_96 rfl rfl (by decide) rfl ?_
            refine g_goto (pc := 99) (tgt := 51) hC dX4_used_99 (by decide) ?_
            exact g_ms [true, true, true, false, true, true, true, false] (ih_51 V l5 (l6 + 1))
          · refine g_iload (pc := 84) hC dX4_used_84 rfl ?_
            refine g_bipush (pc := 86) hC (10 : Int32) dX4_used_86 (by decide) ?_
            refine g_iload_n (pc := 88) hC dX4_used_88 rfl ?_
            refine g_iadd (pc := 89) hC dX4_used_89 ?_
            refine g_icmp_ne (pc := 90) (tgt := 96) hC dX4_used_90 (by decide) ?_ ?_
            · refine g_iinc (pc := 96) (L2 := [some (.ref (ad 0)), some (.int a1), some (.int a2), none, some (.int a4), some (.int l5), some (.int (l6 + 1)), some (.int x1)]) hC (l6 + 1) dX4_used_96 rfl rfl (by decide) rfl ?_
              refine g_goto (pc := 99) (tgt := 51) hC dX4_used_99 (by decide) ?_
              exact g_ms [true, true, true, false, true, true, true, false] (ih_51 V l5 (l6 + 1))
            · refine g_iinc (pc := 93) (L2 := [some (.ref (ad 0)), some (.int a1), some (.int a2), none, some (.int a4), some (.int (l5 + 1)), some (.int l6), some (.int x1)]) hC (l5 + 1) dX4_used_93 rfl rfl (by decide) rfl ?_
              refine g_iinc (pc := 96) (L2 := [some (.ref (ad 0)), some (.int a1), some (.int a2), none, some (.int a4), some (.int (l5 + 1)), some (.int (l6 + 1)), some (.int x1)]) hC (l6 + 1) dX4_used_96 rfl rfl (by decide) rfl ?_
              refine g_goto (pc := 99) (tgt := 51) hC dX4_used_99 (by decide) ?_
              exact g_ms [true, true, true, false, true, true, true, false] (ih_51 V (l5 + 1) (l6 + 1))
  show G p l e rm_X4_used s m args below meth c 0 0 (vx_MQ below (va_Qi K (Bq D ad cy) A) (XCx D ad cy A X) args s 2 12 A) 8 D ad cy A (wp_X4_used V K X a1 a2 a3 a4) V 0 [some (.ref (ad 0)), some (.int a1), some (.int a2), some (.int a3), some (.int a4), none, none, none] []
  refine g_aload_n (pc := 0) hC dX4_used_0 rfl ?_
  refine g_iload_n (pc := 1) hC dX4_used_1 rfl ?_
  refine g_xvr (pc := 2) hC hz (c_X4_toldSource hC.2.2.2.1) mi_X4_toldSource ww_495 ⟨rfl, rfl⟩ ⟨by decide, by decide⟩ (by decide) rfl rfl rfl rfl (Nat.le_of_ble_eq_true rfl) ⟨by decide, by decide⟩ dX4_used_2 ?_ (fun k1 hk1 V2 => ?_)
  · exact fun n V2 => gx_out hC hlk htb (by decide) (by decide)
  · refine g_pop (pc := 5) hC dX4_used_5 rfl ?_
    refine g_iload_n (pc := 6) hC dX4_used_6 rfl ?_
    refine g_if_lt (pc := 7) (tgt := 37) hC dX4_used_7 (by decide) ?_ ?_
    · exact g_throw (pc := 37) hC hlk hz htb tw_X4_4 dX4_used_37 dX4_used_40 dX4_used_41 dX4_used_44 (by decide) (Nat.le_of_ble_eq_true rfl) (by decide) (by decide) (by decide) (by decide)
    · refine g_iload_n (pc := 10) hC dX4_used_10 rfl ?_
      refine g_iload (pc := 11) hC dX4_used_11 rfl ?_
      refine g_icmp_gt (pc := 13) (tgt := 37) hC dX4_used_13 (by decide) ?_ ?_
      · exact g_throw (pc := 37) hC hlk hz htb tw_X4_4 dX4_used_37 dX4_used_40 dX4_used_41 dX4_used_44 (by decide) (Nat.le_of_ble_eq_true rfl) (by decide) (by decide) (by decide) (by decide)
      · refine g_iload (pc := 16) hC dX4_used_16 rfl ?_
        refine g_aload_n (pc := 18) hC dX4_used_18 rfl ?_
        refine g_getI (pc := 19) hC fl_X4_40 (by decide) rfl rfl dX4_used_19 ?_
        refine g_icmp_gt (pc := 22) (tgt := 37) hC dX4_used_22 (by decide) ?_ ?_
        · exact g_throw (pc := 37) hC hlk hz htb tw_X4_4 dX4_used_37 dX4_used_40 dX4_used_41 dX4_used_44 (by decide) (Nat.le_of_ble_eq_true rfl) (by decide) (by decide) (by decide) (by decide)
        · refine g_aload_n (pc := 25) hC dX4_used_25 rfl ?_
          refine g_getI (pc := 26) hC fl_X4_40 (by decide) rfl rfl dX4_used_26 ?_
          refine g_iload_n (pc := 29) hC dX4_used_29 rfl ?_
          refine g_isub (pc := 30) hC dX4_used_30 ?_
          refine g_sipush (pc := 31) hC (1000 : Int32) dX4_used_31 (by decide) ?_
          refine g_icmp_le (pc := 34) (tgt := 45) hC dX4_used_34 (by decide) ?_ ?_
          · refine g_iconst (pc := 45) hC (0 : Int32) dX4_used_45 (by decide) ?_
            refine g_istore (pc := 46) (L2 := [some (.ref (ad 0)), some (.int a1), some (.int a2), some (.int a3), some (.int a4), some (.int (0 : Int32)), none, none]) hC dX4_used_46 (by decide) rfl ?_
            refine g_iload_n (pc := 48) hC dX4_used_48 rfl ?_
            refine g_istore (pc := 49) (L2 := [some (.ref (ad 0)), some (.int a1), some (.int a2), some (.int a3), some (.int a4), some (.int (0 : Int32)), some (.int a3), none]) hC dX4_used_49 (by decide) rfl ?_
            exact g_ms [true, true, true, false, true, true, true, false] (g_ex (fun n => J_51  n V2 (0 : Int32) a3))
          · exact g_throw (pc := 37) hC hlk hz htb tw_X4_4 dX4_used_37 dX4_used_40 dX4_used_41 dX4_used_44 (by decide) (Nat.le_of_ble_eq_true rfl) (by decide) (by decide) (by decide) (by decide)
def rm_X4_floor : Room := ({ frames := 6, cells := 1, slots := 6, locals := 89 } : Room)
def wp_X4_floor (V : St) (K : Int32 → St → Prop) (X : Nat → St → Prop) (a1 : Int32) : Prop := wp_X4_within V (fun (r1 : Int32) (V2 : St) => if r1 = 0 then (X 2 V2) else (wp_X4_handlersTake V2 (fun (r3 : Int32) (V4 : St) => wp_X4_topsTake V4 (fun (r5 : Int32) (V6 : St) => K (if (0 : Int32) < ((a1 - r3) - r5) then ((a1 - r3) - r5) else (0 : Int32)) V6) a1) (-1 : Int32) a1)) a1 (0 : Int32) (100000 : Int32)
set_option maxRecDepth 100000 in
set_option maxHeartbeats 4000000 in
theorem c_X4_floor {l : Launch} {D : va_G} {ad : Nat → Nat} {cy : Nat → ClassId} (hi : inj ad) {V : St} {K : Int32 → St → Prop} {X : Nat → St → Prop} {a1 : Int32} : wp_X4_floor V K X a1 → Xi l D ad cy yX4_floor (Cond.code yX4_floor cX4_floor 2 (some .int) :: WA) rm_X4_floor 1 6 [.ref (ad 0), .int a1] V K X := by
  refine X_i (w := wp_X4_floor V K X a1) (by decide) (Nat.le_of_ble_eq_true rfl) (List.forall_mem_cons.mpr ⟨rfl, (List.forall_mem_cons.mpr ⟨rfl, (fun _ h => absurd h List.not_mem_nil)⟩)⟩) hi ?_
  intro p e s m args below meth c A hC hrt hlk hz htb
  show G p l e rm_X4_floor s m args below meth c 0 0 (vx_MQ below (va_Qi K (Bq D ad cy) A) (XCx D ad cy A X) args s 1 6 A) 2 D ad cy A (wp_X4_floor V K X a1) V 0 [some (.ref (ad 0)), some (.int a1)] []
  refine g_iload_n (pc := 0) hC dX4_floor_0 rfl ?_
  refine g_iconst (pc := 1) hC (0 : Int32) dX4_floor_1 (by decide) ?_
  refine g_ldc (pc := 2) hC (100000 : Int32) dX4_floor_2 ww_579 ?_
  refine g_csi (pc := 4) hC (c_X4_within hC.2.2.2.1) mi_X4_within ww_337 ⟨rfl, rfl⟩ ⟨by decide, by decide⟩ rfl rfl (Nat.le_of_ble_eq_true rfl) ⟨Nat.le_of_ble_eq_true rfl, Nat.le_of_ble_eq_true rfl⟩ dX4_floor_4 (fun r1 V2 => ?_)
  refine g_if_ne (pc := 7) (tgt := 18) hC dX4_floor_7 (by decide) ?_ ?_
  · refine g_iconst (pc := 18) hC (0 : Int32) dX4_floor_18 (by decide) ?_
    refine g_iload_n (pc := 19) hC dX4_floor_19 rfl ?_
    refine g_aload_n (pc := 20) hC dX4_floor_20 rfl ?_
    refine g_iconst (pc := 21) hC (-1 : Int32) dX4_floor_21 (by decide) ?_
    refine g_iload_n (pc := 22) hC dX4_floor_22 rfl ?_
    refine g_cvi (pc := 23) hC (c_X4_handlersTake hC.2.2.2.1) mi_X4_handlersTake ww_454 ⟨rfl, rfl⟩ ⟨by decide, by decide⟩ (by decide) rfl rfl rfl rfl (Nat.le_of_ble_eq_true rfl) ⟨Nat.le_of_ble_eq_true rfl, Nat.le_of_ble_eq_true rfl⟩ dX4_floor_23 (fun r3 V4 => ?_)
    refine g_isub (pc := 26) hC dX4_floor_26 ?_
    refine g_aload_n (pc := 27) hC dX4_floor_27 rfl ?_
    refine g_iload_n (pc := 28) hC dX4_floor_28 rfl ?_
    refine g_cvi (pc := 29) hC (c_X4_topsTake hC.2.2.2.1) mi_X4_topsTake ww_461 ⟨rfl, rfl⟩ ⟨by decide, by decide⟩ (by decide) rfl rfl rfl rfl (Nat.le_of_ble_eq_true rfl) ⟨Nat.le_of_ble_eq_true rfl, Nat.le_of_ble_eq_true rfl⟩ dX4_floor_29 (fun r5 V6 => ?_)
    refine g_isub (pc := 32) hC dX4_floor_32 ?_
    refine g_max (pc := 33) hC ww_580 ww_284 ww_51 ww_285 (by decide) (Nat.le_of_ble_eq_true rfl) (by decide) (by decide) dX4_floor_33 ?_
    exact g_xret (by decide) (by decide) (g_iret (pc := 36) hC hrt hlk dX4_floor_36)
  · exact g_throw (pc := 10) hC hlk hz htb tw_X4_2 dX4_floor_10 dX4_floor_13 dX4_floor_14 dX4_floor_17 (by decide) (Nat.le_of_ble_eq_true rfl) (by decide) (by decide) (by decide) (by decide)
