/-! X2_perform, X2_drive, X4_copyFrom, X7_copyNumbers, X3_copyFrom, X6_copyFrom, X2_copyFrom, X3_knownAt, X3_changeLength, X3_snapped, X3_unsnapAll, X4_framesOfAll, X5_append, X5_kindOf, X5_valueOf, X5_byteAt, X5_isLineEnd, X5_partsOf, X5_readBlank, X5_isLetter, X5_readName, X5_isDigit, X5_readNumber -/
theorem dX2_perform_0 : decode cX2_perform 0 = .ok (.aload_n 0, 1) := by decide +kernel
theorem dX2_perform_1 : decode cX2_perform 1 = .ok (.dup, 1) := by decide +kernel
theorem dX2_perform_2 : decode cX2_perform 2 = .ok (.getfield 39, 3) := by decide +kernel
theorem dX2_perform_5 : decode cX2_perform 5 = .ok (.iconst 1, 1) := by decide +kernel
theorem dX2_perform_6 : decode cX2_perform 6 = .ok (.iadd, 1) := by decide +kernel
theorem dX2_perform_7 : decode cX2_perform 7 = .ok (.putfield 39, 3) := by decide +kernel
theorem dX2_perform_10 : decode cX2_perform 10 = .ok (.iload_n 1, 1) := by decide +kernel
theorem dX2_perform_11 : decode cX2_perform 11 = .ok (.tableswitch 104 0 8 #[49, 51, 58, 64, 74, 80, 87, 92, 98], 49) := by decide +kernel
theorem dX2_perform_60 : decode cX2_perform 60 = .ok (.iconst 1, 1) := by decide +kernel
theorem dX2_perform_61 : decode cX2_perform 61 = .ok (.ireturn, 1) := by decide +kernel
theorem dX2_perform_62 : decode cX2_perform 62 = .ok (.aload_n 0, 1) := by decide +kernel
theorem dX2_perform_63 : decode cX2_perform 63 = .ok (.iload_n 2, 1) := by decide +kernel
theorem dX2_perform_64 : decode cX2_perform 64 = .ok (.iconst 0, 1) := by decide +kernel
theorem dX2_perform_65 : decode cX2_perform 65 = .ok (.invokevirtual 79, 3) := by decide +kernel
theorem dX2_perform_68 : decode cX2_perform 68 = .ok (.ireturn, 1) := by decide +kernel
theorem dX2_perform_69 : decode cX2_perform 69 = .ok (.aload_n 0, 1) := by decide +kernel
theorem dX2_perform_70 : decode cX2_perform 70 = .ok (.iload_n 2, 1) := by decide +kernel
theorem dX2_perform_71 : decode cX2_perform 71 = .ok (.invokevirtual 83, 3) := by decide +kernel
theorem dX2_perform_74 : decode cX2_perform 74 = .ok (.ireturn, 1) := by decide +kernel
theorem dX2_perform_75 : decode cX2_perform 75 = .ok (.aload_n 0, 1) := by decide +kernel
theorem dX2_perform_76 : decode cX2_perform 76 = .ok (.iload_n 2, 1) := by decide +kernel
theorem dX2_perform_77 : decode cX2_perform 77 = .ok (.aload_n 0, 1) := by decide +kernel
theorem dX2_perform_78 : decode cX2_perform 78 = .ok (.getfield 42, 3) := by decide +kernel
theorem dX2_perform_81 : decode cX2_perform 81 = .ok (.invokevirtual 79, 3) := by decide +kernel
theorem dX2_perform_84 : decode cX2_perform 84 = .ok (.ireturn, 1) := by decide +kernel
theorem dX2_perform_85 : decode cX2_perform 85 = .ok (.aload_n 0, 1) := by decide +kernel
theorem dX2_perform_86 : decode cX2_perform 86 = .ok (.iload_n 2, 1) := by decide +kernel
theorem dX2_perform_87 : decode cX2_perform 87 = .ok (.invokevirtual 86, 3) := by decide +kernel
theorem dX2_perform_90 : decode cX2_perform 90 = .ok (.ireturn, 1) := by decide +kernel
theorem dX2_perform_91 : decode cX2_perform 91 = .ok (.aload_n 0, 1) := by decide +kernel
theorem dX2_perform_92 : decode cX2_perform 92 = .ok (.iload_n 2, 1) := by decide +kernel
theorem dX2_perform_93 : decode cX2_perform 93 = .ok (.iload_n 3, 1) := by decide +kernel
theorem dX2_perform_94 : decode cX2_perform 94 = .ok (.invokevirtual 89, 3) := by decide +kernel
theorem dX2_perform_97 : decode cX2_perform 97 = .ok (.ireturn, 1) := by decide +kernel
theorem dX2_perform_98 : decode cX2_perform 98 = .ok (.aload_n 0, 1) := by decide +kernel
theorem dX2_perform_99 : decode cX2_perform 99 = .ok (.invokevirtual 92, 3) := by decide +kernel
theorem dX2_perform_102 : decode cX2_perform 102 = .ok (.ireturn, 1) := by decide +kernel
theorem dX2_perform_103 : decode cX2_perform 103 = .ok (.aload_n 0, 1) := by decide +kernel
theorem dX2_perform_104 : decode cX2_perform 104 = .ok (.iload_n 2, 1) := by decide +kernel
theorem dX2_perform_105 : decode cX2_perform 105 = .ok (.invokevirtual 95, 3) := by decide +kernel
theorem dX2_perform_108 : decode cX2_perform 108 = .ok (.ireturn, 1) := by decide +kernel
theorem dX2_perform_109 : decode cX2_perform 109 = .ok (.aload_n 0, 1) := by decide +kernel
theorem dX2_perform_110 : decode cX2_perform 110 = .ok (.iload_n 2, 1) := by decide +kernel
theorem dX2_perform_111 : decode cX2_perform 111 = .ok (.invokevirtual 98, 3) := by decide +kernel
theorem dX2_perform_114 : decode cX2_perform 114 = .ok (.ireturn, 1) := by decide +kernel
theorem dX2_perform_115 : decode cX2_perform 115 = .ok (.aload_n 0, 1) := by decide +kernel
theorem dX2_perform_116 : decode cX2_perform 116 = .ok (.getfield 42, 3) := by decide +kernel
theorem dX2_perform_119 : decode cX2_perform 119 = .ok (.ifCond .ne 8, 3) := by decide +kernel
theorem dX2_perform_122 : decode cX2_perform 122 = .ok (.aload_n 0, 1) := by decide +kernel
theorem dX2_perform_123 : decode cX2_perform 123 = .ok (.iload_n 2, 1) := by decide +kernel
theorem dX2_perform_124 : decode cX2_perform 124 = .ok (.putfield 39, 3) := by decide +kernel
theorem dX2_perform_127 : decode cX2_perform 127 = .ok (.iconst 0, 1) := by decide +kernel
theorem dX2_perform_128 : decode cX2_perform 128 = .ok (.ireturn, 1) := by decide +kernel
def F_X2_perform (o : Nat) (x1 : Int32) (x2 : Int32) (x3 : Int32) (P : VP) (post : Int32 → VP → Prop) : Prop :=
  ∀ P7 : VP, P7 = vup P 1 o 3 ((P 1 o 3) + 1) → ((x1 = 0 → post ((1 : Int32)) P7) ∧ (¬ x1 = 0 → (x1 = 1 → F_X2_takeNumber o x2 ((0 : Int32)) P7 (fun r65 P65 => post r65 P65)) ∧ (¬ x1 = 1 → (x1 = 2 → F_X2_putNumber o x2 P7 (fun r71 P71 => post r71 P71)) ∧ (¬ x1 = 2 → (x1 = 3 → F_X2_takeNumber o x2 (P7 1 o 5) P7 (fun r81 P81 => post r81 P81)) ∧ (¬ x1 = 3 → (x1 = 4 → F_X2_goTo o x2 P7 (fun r87 P87 => post r87 P87)) ∧ (¬ x1 = 4 → (x1 = 5 → F_X2_callTo o x2 x3 P7 (fun r94 P94 => post r94 P94)) ∧ (¬ x1 = 5 → (x1 = 6 → F_X2_goBack o P7 (fun r99 P99 => post r99 P99)) ∧ (¬ x1 = 6 → (x1 = 7 → F_X2_readArgument o x2 P7 (fun r105 P105 => post r105 P105)) ∧ (¬ x1 = 7 → (x1 = 8 → F_X2_writeArgument o x2 P7 (fun r111 P111 => post r111 P111)) ∧ (¬ x1 = 8 → (P7 1 o 5 = 0 → ∀ P124 : VP, P124 = vup P7 1 o 3 x2 → (post ((0 : Int32)) P124)) ∧ (¬ P7 1 o 5 = 0 → post ((0 : Int32)) P7)))))))))))
set_option maxRecDepth 4000 in
theorem s_X2_perform {l : Launch} {g : vG} {o : Nat} {x1 : Int32} {x2 : Int32} {x3 : Int32} {P Q : VP} {post : Int32 → VP → Prop} (ho : o < vcnt 1) (h : F_X2_perform o x1 x2 x3 P post) : VC l g yX2_perform cX2_perform 4 (some .int) 5 [vR 1 o, vI x1, vI x2, vI x3] (vjn P Q) (vcI Q post) := by
  refine VC.of (by decide +kernel) (Nat.le_of_ble_eq_true rfl) (show VM l g RX2 cX2_perform 4 (some .int) 5 (vcI Q post) 0 [(0, vR 1 o), (1, vI x1), (2, vI x2), (3, vI x3)] [] (vjn P Q) from ?_)
  unfold F_X2_perform at h
  refine vr_aload_n 0 0 dX2_perform_0 rfl rfl ?_
  refine vr_dup dX2_perform_1 rfl ?_
  refine vg_1_3 RX2 rfl ho fl_2_39 dX2_perform_2 ?_
  refine vr_iconst 1 dX2_perform_5 (by decide) ?_
  refine vr_iadd dX2_perform_6 ?_
  obtain ⟨P7, eP7⟩ : ∃ y : VP, y = vup P 1 o 3 ((P 1 o 3) + 1) := ⟨_, rfl⟩
  have h := h P7 eP7
  refine vp_1_3 RX2 rfl ho fl_2_39 eP7 dX2_perform_7 ?_
  refine vr_iload_n 1 1 dX2_perform_10 rfl rfl ?_
  by_cases c11_0 : x1 = 0
  · have h := h.1 c11_0
    refine vr_tswIn 0 60 dX2_perform_11 c11_0 (by decide) rfl (by decide) ?_
    refine vr_iconst 1 dX2_perform_60 (by decide) ?_
    exact vr_iret rfl ⟨_, _, rfl, rfl, h⟩ dX2_perform_61
  · have h := h.2 c11_0
    by_cases c11_1 : x1 = 1
    · have h := h.1 c11_1
      refine vr_tswIn 1 62 dX2_perform_11 c11_1 (by decide) rfl (by decide) ?_
      refine vr_aload_n 0 0 dX2_perform_62 rfl rfl ?_
      refine vr_iload_n 2 2 dX2_perform_63 rfl rfl ?_
      refine vr_iconst 0 dX2_perform_64 (by decide) ?_
      refine vr_callV RX2 (s_X2_takeNumber ho h) rfl ho rfl rfl rfl ml_2_79 rfl yh_X2_takeNumber rfl ⟨Nat.le_of_ble_eq_true rfl, Nat.le_of_ble_eq_true rfl⟩ (Nat.le_of_ble_eq_true rfl) ⟨Nat.zero_le _, Nat.zero_le _⟩ dX2_perform_65 (kci fun r65 P65 h => ?_)
      exact vr_iret rfl ⟨_, _, rfl, rfl, h⟩ dX2_perform_68
    · have h := h.2 c11_1
      by_cases c11_2 : x1 = 2
      · have h := h.1 c11_2
        refine vr_tswIn 2 69 dX2_perform_11 c11_2 (by decide) rfl (by decide) ?_
        refine vr_aload_n 0 0 dX2_perform_69 rfl rfl ?_
        refine vr_iload_n 2 2 dX2_perform_70 rfl rfl ?_
        refine vr_callV RX2 (s_X2_putNumber ho h) rfl ho rfl rfl rfl ml_2_83 rfl yh_X2_putNumber rfl ⟨Nat.le_of_ble_eq_true rfl, Nat.le_of_ble_eq_true rfl⟩ (Nat.le_of_ble_eq_true rfl) ⟨Nat.zero_le _, Nat.zero_le _⟩ dX2_perform_71 (kci fun r71 P71 h => ?_)
        exact vr_iret rfl ⟨_, _, rfl, rfl, h⟩ dX2_perform_74
      · have h := h.2 c11_2
        by_cases c11_3 : x1 = 3
        · have h := h.1 c11_3
          refine vr_tswIn 3 75 dX2_perform_11 c11_3 (by decide) rfl (by decide) ?_
          refine vr_aload_n 0 0 dX2_perform_75 rfl rfl ?_
          refine vr_iload_n 2 2 dX2_perform_76 rfl rfl ?_
          refine vr_aload_n 0 0 dX2_perform_77 rfl rfl ?_
          refine vg_1_5 RX2 rfl ho fl_2_42 dX2_perform_78 ?_
          refine vr_callV RX2 (s_X2_takeNumber ho h) rfl ho rfl rfl rfl ml_2_79 rfl yh_X2_takeNumber rfl ⟨Nat.le_of_ble_eq_true rfl, Nat.le_of_ble_eq_true rfl⟩ (Nat.le_of_ble_eq_true rfl) ⟨Nat.zero_le _, Nat.zero_le _⟩ dX2_perform_81 (kci fun r81 P81 h => ?_)
          exact vr_iret rfl ⟨_, _, rfl, rfl, h⟩ dX2_perform_84
        · have h := h.2 c11_3
          by_cases c11_4 : x1 = 4
          · have h := h.1 c11_4
            refine vr_tswIn 4 85 dX2_perform_11 c11_4 (by decide) rfl (by decide) ?_
            refine vr_aload_n 0 0 dX2_perform_85 rfl rfl ?_
            refine vr_iload_n 2 2 dX2_perform_86 rfl rfl ?_
            refine vr_callV RX2 (s_X2_goTo ho h) rfl ho rfl rfl rfl ml_2_86 rfl yh_X2_goTo rfl ⟨Nat.le_of_ble_eq_true rfl, Nat.le_of_ble_eq_true rfl⟩ (Nat.le_of_ble_eq_true rfl) ⟨Nat.zero_le _, Nat.zero_le _⟩ dX2_perform_87 (kci fun r87 P87 h => ?_)
            exact vr_iret rfl ⟨_, _, rfl, rfl, h⟩ dX2_perform_90
          · have h := h.2 c11_4
            by_cases c11_5 : x1 = 5
            · have h := h.1 c11_5
              refine vr_tswIn 5 91 dX2_perform_11 c11_5 (by decide) rfl (by decide) ?_
              refine vr_aload_n 0 0 dX2_perform_91 rfl rfl ?_
              refine vr_iload_n 2 2 dX2_perform_92 rfl rfl ?_
              refine vr_iload_n 3 3 dX2_perform_93 rfl rfl ?_
              refine vr_callV RX2 (s_X2_callTo ho h) rfl ho rfl rfl rfl ml_2_89 rfl yh_X2_callTo rfl ⟨Nat.le_of_ble_eq_true rfl, Nat.le_of_ble_eq_true rfl⟩ (Nat.le_of_ble_eq_true rfl) ⟨Nat.zero_le _, Nat.zero_le _⟩ dX2_perform_94 (kci fun r94 P94 h => ?_)
              exact vr_iret rfl ⟨_, _, rfl, rfl, h⟩ dX2_perform_97
            · have h := h.2 c11_5
              by_cases c11_6 : x1 = 6
              · have h := h.1 c11_6
                refine vr_tswIn 6 98 dX2_perform_11 c11_6 (by decide) rfl (by decide) ?_
                refine vr_aload_n 0 0 dX2_perform_98 rfl rfl ?_
                refine vr_callV RX2 (s_X2_goBack ho h) rfl ho rfl rfl rfl ml_2_92 rfl yh_X2_goBack rfl ⟨Nat.le_of_ble_eq_true rfl, Nat.le_of_ble_eq_true rfl⟩ (Nat.le_of_ble_eq_true rfl) ⟨Nat.zero_le _, Nat.zero_le _⟩ dX2_perform_99 (kci fun r99 P99 h => ?_)
                exact vr_iret rfl ⟨_, _, rfl, rfl, h⟩ dX2_perform_102
              · have h := h.2 c11_6
                by_cases c11_7 : x1 = 7
                · have h := h.1 c11_7
                  refine vr_tswIn 7 103 dX2_perform_11 c11_7 (by decide) rfl (by decide) ?_
                  refine vr_aload_n 0 0 dX2_perform_103 rfl rfl ?_
                  refine vr_iload_n 2 2 dX2_perform_104 rfl rfl ?_
                  refine vr_callV RX2 (s_X2_readArgument ho h) rfl ho rfl rfl rfl ml_2_95 rfl yh_X2_readArgument rfl ⟨Nat.le_of_ble_eq_true rfl, Nat.le_of_ble_eq_true rfl⟩ (Nat.le_of_ble_eq_true rfl) ⟨Nat.zero_le _, Nat.zero_le _⟩ dX2_perform_105 (kci fun r105 P105 h => ?_)
                  exact vr_iret rfl ⟨_, _, rfl, rfl, h⟩ dX2_perform_108
                · have h := h.2 c11_7
                  by_cases c11_8 : x1 = 8
                  · have h := h.1 c11_8
                    refine vr_tswIn 8 109 dX2_perform_11 c11_8 (by decide) rfl (by decide) ?_
                    refine vr_aload_n 0 0 dX2_perform_109 rfl rfl ?_
                    refine vr_iload_n 2 2 dX2_perform_110 rfl rfl ?_
                    refine vr_callV RX2 (s_X2_writeArgument ho h) rfl ho rfl rfl rfl ml_2_98 rfl yh_X2_writeArgument rfl ⟨Nat.le_of_ble_eq_true rfl, Nat.le_of_ble_eq_true rfl⟩ (Nat.le_of_ble_eq_true rfl) ⟨Nat.zero_le _, Nat.zero_le _⟩ dX2_perform_111 (kci fun r111 P111 h => ?_)
                    exact vr_iret rfl ⟨_, _, rfl, rfl, h⟩ dX2_perform_114
                  · have h := h.2 c11_8
                    refine vr_tswOut 115 dX2_perform_11 (by have q0 := lv_neT c11_0 (a := 0) (by decide); have q1 := lv_neT c11_1 (a := 1) (by decide); have q2 := lv_neT c11_2 (a := 2) (by decide); have q3 := lv_neT c11_3 (a := 3) (by decide); have q4 := lv_neT c11_4 (a := 4) (by decide); have q5 := lv_neT c11_5 (a := 5) (by decide); have q6 := lv_neT c11_6 (a := 6) (by decide); have q7 := lv_neT c11_7 (a := 7) (by decide); have q8 := lv_neT c11_8 (a := 8) (by decide); omega) (by decide) ?_
                    refine vr_aload_n 0 0 dX2_perform_115 rfl rfl ?_
                    refine vg_1_5 RX2 rfl ho fl_2_42 dX2_perform_116 ?_
                    refine vr_ifne 127 dX2_perform_119 (by decide) (fun c119 => ?_) (fun c119 => ?_)
                    · have h := h.1 c119
                      refine vr_aload_n 0 0 dX2_perform_122 rfl rfl ?_
                      refine vr_iload_n 2 2 dX2_perform_123 rfl rfl ?_
                      obtain ⟨P124, eP124⟩ : ∃ y : VP, y = vup P7 1 o 3 x2 := ⟨_, rfl⟩
                      have h := h P124 eP124
                      refine vp_1_3 RX2 rfl ho fl_2_39 eP124 dX2_perform_124 ?_
                      refine vr_iconst 0 dX2_perform_127 (by decide) ?_
                      exact vr_iret rfl ⟨_, _, rfl, rfl, h⟩ dX2_perform_128
                    · have h := h.2 c119
                      refine vr_iconst 0 dX2_perform_127 (by decide) ?_
                      exact vr_iret rfl ⟨_, _, rfl, rfl, h⟩ dX2_perform_128
theorem dX2_drive_0 : decode cX2_drive 0 = .ok (.aload_n 0, 1) := by decide +kernel
theorem dX2_drive_1 : decode cX2_drive 1 = .ok (.iconst 0, 1) := by decide +kernel
theorem dX2_drive_2 : decode cX2_drive 2 = .ok (.putfield 48, 3) := by decide +kernel
theorem dX2_drive_5 : decode cX2_drive 5 = .ok (.iconst 0, 1) := by decide +kernel
theorem dX2_drive_6 : decode cX2_drive 6 = .ok (.istore_n 2, 1) := by decide +kernel
theorem dX2_drive_7 : decode cX2_drive 7 = .ok (.iload_n 2, 1) := by decide +kernel
theorem dX2_drive_8 : decode cX2_drive 8 = .ok (.iload_n 1, 1) := by decide +kernel
theorem dX2_drive_9 : decode cX2_drive 9 = .ok (.if_icmp .ge 85, 3) := by decide +kernel
theorem dX2_drive_12 : decode cX2_drive 12 = .ok (.aload_n 0, 1) := by decide +kernel
theorem dX2_drive_13 : decode cX2_drive 13 = .ok (.getfield 39, 3) := by decide +kernel
theorem dX2_drive_16 : decode cX2_drive 16 = .ok (.istore_n 3, 1) := by decide +kernel
theorem dX2_drive_17 : decode cX2_drive 17 = .ok (.aload_n 0, 1) := by decide +kernel
theorem dX2_drive_18 : decode cX2_drive 18 = .ok (.invokevirtual 51, 3) := by decide +kernel
theorem dX2_drive_21 : decode cX2_drive 21 = .ok (.istore 4, 2) := by decide +kernel
theorem dX2_drive_23 : decode cX2_drive 23 = .ok (.aload_n 0, 1) := by decide +kernel
theorem dX2_drive_24 : decode cX2_drive 24 = .ok (.iload 4, 2) := by decide +kernel
theorem dX2_drive_26 : decode cX2_drive 26 = .ok (.ifCond .ge 8, 3) := by decide +kernel
theorem dX2_drive_29 : decode cX2_drive 29 = .ok (.iload 4, 2) := by decide +kernel
theorem dX2_drive_31 : decode cX2_drive 31 = .ok (.goto 26, 3) := by decide +kernel
theorem dX2_drive_34 : decode cX2_drive 34 = .ok (.aload_n 0, 1) := by decide +kernel
theorem dX2_drive_35 : decode cX2_drive 35 = .ok (.iload 4, 2) := by decide +kernel
theorem dX2_drive_37 : decode cX2_drive 37 = .ok (.sipush 1000, 3) := by decide +kernel
theorem dX2_drive_40 : decode cX2_drive 40 = .ok (.idiv, 1) := by decide +kernel
theorem dX2_drive_41 : decode cX2_drive 41 = .ok (.iload 4, 2) := by decide +kernel
theorem dX2_drive_43 : decode cX2_drive 43 = .ok (.bipush 10, 2) := by decide +kernel
theorem dX2_drive_45 : decode cX2_drive 45 = .ok (.idiv, 1) := by decide +kernel
theorem dX2_drive_46 : decode cX2_drive 46 = .ok (.bipush 100, 2) := by decide +kernel
theorem dX2_drive_48 : decode cX2_drive 48 = .ok (.irem, 1) := by decide +kernel
theorem dX2_drive_49 : decode cX2_drive 49 = .ok (.iload 4, 2) := by decide +kernel
theorem dX2_drive_51 : decode cX2_drive 51 = .ok (.bipush 10, 2) := by decide +kernel
theorem dX2_drive_53 : decode cX2_drive 53 = .ok (.irem, 1) := by decide +kernel
theorem dX2_drive_54 : decode cX2_drive 54 = .ok (.invokevirtual 55, 3) := by decide +kernel
theorem dX2_drive_57 : decode cX2_drive 57 = .ok (.putfield 48, 3) := by decide +kernel
theorem dX2_drive_60 : decode cX2_drive 60 = .ok (.aload_n 0, 1) := by decide +kernel
theorem dX2_drive_61 : decode cX2_drive 61 = .ok (.getfield 48, 3) := by decide +kernel
theorem dX2_drive_64 : decode cX2_drive 64 = .ok (.ifCond .eq 24, 3) := by decide +kernel
theorem dX2_drive_67 : decode cX2_drive 67 = .ok (.aload_n 0, 1) := by decide +kernel
theorem dX2_drive_68 : decode cX2_drive 68 = .ok (.iload_n 3, 1) := by decide +kernel
theorem dX2_drive_69 : decode cX2_drive 69 = .ok (.putfield 39, 3) := by decide +kernel
theorem dX2_drive_72 : decode cX2_drive 72 = .ok (.aload_n 0, 1) := by decide +kernel
theorem dX2_drive_73 : decode cX2_drive 73 = .ok (.getfield 48, 3) := by decide +kernel
theorem dX2_drive_76 : decode cX2_drive 76 = .ok (.iconst 1, 1) := by decide +kernel
theorem dX2_drive_77 : decode cX2_drive 77 = .ok (.if_icmp .ne 9, 3) := by decide +kernel
theorem dX2_drive_80 : decode cX2_drive 80 = .ok (.iload_n 2, 1) := by decide +kernel
theorem dX2_drive_81 : decode cX2_drive 81 = .ok (.iconst 1, 1) := by decide +kernel
theorem dX2_drive_82 : decode cX2_drive 82 = .ok (.iadd, 1) := by decide +kernel
theorem dX2_drive_83 : decode cX2_drive 83 = .ok (.goto 4, 3) := by decide +kernel
theorem dX2_drive_86 : decode cX2_drive 86 = .ok (.iload_n 2, 1) := by decide +kernel
theorem dX2_drive_87 : decode cX2_drive 87 = .ok (.ireturn, 1) := by decide +kernel
theorem dX2_drive_88 : decode cX2_drive 88 = .ok (.iinc 2 1, 3) := by decide +kernel
theorem dX2_drive_91 : decode cX2_drive 91 = .ok (.goto (-84), 3) := by decide +kernel
theorem dX2_drive_94 : decode cX2_drive 94 = .ok (.iload_n 1, 1) := by decide +kernel
theorem dX2_drive_95 : decode cX2_drive 95 = .ok (.ireturn, 1) := by decide +kernel
def F_X2_drive_b57 (o : Nat) (x1 : Int32) (P : VP) (post : Int32 → VP → Prop) (X7 : Int32 → VP → Prop) (v2 : Int32) (v3 : Int32) (t0 : Int32) : Prop :=
  ∀ P57 : VP, P57 = vup P 1 o 11 t0 → ((P57 1 o 11 = 0 → X7 (v2 + 1) P57) ∧ (¬ P57 1 o 11 = 0 → ∀ P69 : VP, P69 = vup P57 1 o 3 v3 → ((P69 1 o 11 = 1 → post (v2 + 1) P69) ∧ (¬ P69 1 o 11 = 1 → post v2 P69))))
set_option maxRecDepth 4000 in
theorem s_X2_drive_b57 {l : Launch} {g : vG} {o : Nat} {x1 : Int32} {P Q : VP} {post : Int32 → VP → Prop} {X7 : Int32 → VP → Prop} {v2 : Int32} {v3 : Int32} {t0 : Int32}  (ho : o < vcnt 1) (hX7 : ∀ v2_ P_, X7 v2_ P_ → VM l g RX2 cX2_drive 5 (some .int) 6 (vcI Q post) 7 [(0, vR 1 o), (1, vI x1), (2, vI v2_)] [] (vjn P_ Q)) (h : F_X2_drive_b57 o x1 P post X7 v2 v3 t0) : VM l g RX2 cX2_drive 5 (some .int) 6 (vcI Q post) 57 [(0, vR 1 o), (1, vI x1), (2, vI v2), (3, vI v3)] [vI t0, vR 1 o] (vjn P Q) := by
  unfold F_X2_drive_b57 at h
  obtain ⟨P57, eP57⟩ : ∃ y : VP, y = vup P 1 o 11 t0 := ⟨_, rfl⟩
  have h := h P57 eP57
  refine vp_1_11 RX2 rfl ho fl_2_48 eP57 dX2_drive_57 ?_
  refine vr_aload_n 0 0 dX2_drive_60 rfl rfl ?_
  refine vg_1_11 RX2 rfl ho fl_2_48 dX2_drive_61 ?_
  refine vr_ifeq 88 dX2_drive_64 (by decide) (fun c64 => ?_) (fun c64 => ?_)
  · have h := h.1 c64
    refine vr_iinc (v2 + 1) 2 [(2, vI (v2 + 1)), (0, vR 1 o), (1, vI x1), (3, vI v3)] dX2_drive_88 rfl rfl (by decide) rfl ?_
    refine vr_goto 7 dX2_drive_91 (by decide) ?_
    refine vr_sub [1, 2, 0] [(0, vR 1 o), (1, vI x1), (2, vI (v2 + 1))] rfl ?_
    exact hX7 _ _ h
  · have h := h.2 c64
    refine vr_aload_n 0 0 dX2_drive_67 rfl rfl ?_
    refine vr_iload_n 3 3 dX2_drive_68 rfl rfl ?_
    obtain ⟨P69, eP69⟩ : ∃ y : VP, y = vup P57 1 o 3 v3 := ⟨_, rfl⟩
    have h := h P69 eP69
    refine vp_1_3 RX2 rfl ho fl_2_39 eP69 dX2_drive_69 ?_
    refine vr_aload_n 0 0 dX2_drive_72 rfl rfl ?_
    refine vg_1_11 RX2 rfl ho fl_2_48 dX2_drive_73 ?_
    refine vr_iconst 1 dX2_drive_76 (by decide) ?_
    refine vr_icmpne 86 dX2_drive_77 (by decide) (fun c77 => ?_) (fun c77 => ?_)
    · have h := h.1 c77
      refine vr_iload_n 2 2 dX2_drive_80 rfl rfl ?_
      refine vr_iconst 1 dX2_drive_81 (by decide) ?_
      refine vr_iadd dX2_drive_82 ?_
      refine vr_goto 87 dX2_drive_83 (by decide) ?_
      exact vr_iret rfl ⟨_, _, rfl, rfl, h⟩ dX2_drive_87
    · have h := h.2 c77
      refine vr_iload_n 2 2 dX2_drive_86 rfl rfl ?_
      exact vr_iret rfl ⟨_, _, rfl, rfl, h⟩ dX2_drive_87
def F_X2_drive_l7 (o : Nat) (x1 : Int32)  (post : Int32 → VP → Prop)   (X : Int32 → VP → Prop) (v2 : Int32) (P : VP) : Prop :=
  (v2 < x1 → F_X2_actHere o P (fun r18 => (r18 < 0 → F_X2_drive_b57 o x1 P post X  v2 (P 1 o 3) r18) ∧ (¬ r18 < 0 → F_X2_perform o (r18 / 1000) ((r18 / 10) - (r18 / 10) / 100 * 100) (r18 - r18 / 10 * 10) P (fun r54 P54 => F_X2_drive_b57 o x1 P54 post X  v2 (P 1 o 3) r54)))) ∧ (¬ v2 < x1 → post x1 P)
set_option maxRecDepth 4000 in
theorem s_X2_drive_l7 {l : Launch} {g : vG} {o : Nat} {x1 : Int32} {Q : VP} {post : Int32 → VP → Prop}    {v2 : Int32} {P : VP} (ho : o < vcnt 1)  (h : vL2 (F_X2_drive_l7 o x1  post  ) v2 P) : VM l g RX2 cX2_drive 5 (some .int) 6 (vcI Q post) 7 [(0, vR 1 o), (1, vI x1), (2, vI v2)] [] (vjn P Q) := by
  refine vL2_s (T := fun v2 P => VM l g RX2 cX2_drive 5 (some .int) 6 (vcI Q post) 7 [(0, vR 1 o), (1, vI x1), (2, vI v2)] [] (vjn P Q)) ?_ h
  clear h
  intro X hX v2 P h
  unfold F_X2_drive_l7 at h
  refine vr_iload_n 2 2 dX2_drive_7 rfl rfl ?_
  refine vr_iload_n 1 1 dX2_drive_8 rfl rfl ?_
  refine vr_icmpge 94 dX2_drive_9 (by decide) (fun c9 => ?_) (fun c9 => ?_)
  · have h := h.1 c9
    refine vr_aload_n 0 0 dX2_drive_12 rfl rfl ?_
    refine vg_1_3 RX2 rfl ho fl_2_39 dX2_drive_13 ?_
    refine vr_istore_n 3 [(3, vI (P 1 o 3)), (0, vR 1 o), (1, vI x1), (2, vI v2)] dX2_drive_16 rfl (by decide) rfl ?_
    refine vr_aload_n 0 1 dX2_drive_17 rfl rfl ?_
    refine vr_callV RX2 (s_X2_actHere ho h) rfl ho rfl rfl rfl ml_2_51 rfl yh_X2_actHere rfl ⟨Nat.le_of_ble_eq_true rfl, Nat.le_of_ble_eq_true rfl⟩ (Nat.le_of_ble_eq_true rfl) ⟨Nat.zero_le _, Nat.zero_le _⟩ dX2_drive_18 (ki fun r18 h => ?_)
    refine vr_istore [(4, vI r18), (3, vI (P 1 o 3)), (0, vR 1 o), (1, vI x1), (2, vI v2)] dX2_drive_21 (by decide) rfl ?_
    refine vr_aload_n 0 2 dX2_drive_23 rfl rfl ?_
    refine vr_iload 0 dX2_drive_24 rfl ?_
    refine vr_ifge 34 dX2_drive_26 (by decide) (fun c26 => ?_) (fun c26 => ?_)
    · have h := h.1 c26
      refine vr_iload 0 dX2_drive_29 rfl ?_
      refine vr_goto 57 dX2_drive_31 (by decide) ?_
      refine vr_sub [2, 3, 4, 1] [(0, vR 1 o), (1, vI x1), (2, vI v2), (3, vI (P 1 o 3))] rfl ?_
      exact s_X2_drive_b57 ho hX  h
    · have h := h.2 c26
      refine vr_aload_n 0 2 dX2_drive_34 rfl rfl ?_
      refine vr_iload 0 dX2_drive_35 rfl ?_
      refine vr_sipush 1000 dX2_drive_37 (by decide) ?_
      refine vr_idiv dX2_drive_40 (by decide) ?_
      refine vr_iload 0 dX2_drive_41 rfl ?_
      refine vr_bipush 10 dX2_drive_43 (by decide) ?_
      refine vr_idiv dX2_drive_45 (by decide) ?_
      refine vr_bipush 100 dX2_drive_46 (by decide) ?_
      refine vr_irem dX2_drive_48 (by decide) ?_
      refine vr_iload 0 dX2_drive_49 rfl ?_
      refine vr_bipush 10 dX2_drive_51 (by decide) ?_
      refine vr_irem dX2_drive_53 (by decide) ?_
      refine vr_callV RX2 (s_X2_perform ho h) rfl ho rfl rfl rfl ml_2_55 rfl yh_X2_perform rfl ⟨Nat.le_of_ble_eq_true rfl, Nat.le_of_ble_eq_true rfl⟩ (Nat.le_of_ble_eq_true rfl) ⟨Nat.zero_le _, Nat.zero_le _⟩ dX2_drive_54 (kci fun r54 P54 h => ?_)
      refine vr_sub [2, 3, 4, 1] [(0, vR 1 o), (1, vI x1), (2, vI v2), (3, vI (P 1 o 3))] rfl ?_
      exact s_X2_drive_b57 ho hX  h
  · have h := h.2 c9
    refine vr_iload_n 1 1 dX2_drive_94 rfl rfl ?_
    exact vr_iret rfl ⟨_, _, rfl, rfl, h⟩ dX2_drive_95
def F_X2_drive (o : Nat) (x1 : Int32) (P : VP) (post : Int32 → VP → Prop) : Prop :=
  ∀ P2 : VP, P2 = vup P 1 o 11 0 → (vL2 (F_X2_drive_l7 o x1  post  ) ((0 : Int32)) P2)
set_option maxRecDepth 4000 in
theorem s_X2_drive {l : Launch} {g : vG} {o : Nat} {x1 : Int32} {P Q : VP} {post : Int32 → VP → Prop} (ho : o < vcnt 1) (h : F_X2_drive o x1 P post) : VC l g yX2_drive cX2_drive 5 (some .int) 6 [vR 1 o, vI x1] (vjn P Q) (vcI Q post) := by
  refine VC.of (by decide +kernel) (Nat.le_of_ble_eq_true rfl) (show VM l g RX2 cX2_drive 5 (some .int) 6 (vcI Q post) 0 [(0, vR 1 o), (1, vI x1)] [] (vjn P Q) from ?_)
  unfold F_X2_drive at h
  refine vr_aload_n 0 0 dX2_drive_0 rfl rfl ?_
  refine vr_iconst 0 dX2_drive_1 (by decide) ?_
  obtain ⟨P2, eP2⟩ : ∃ y : VP, y = vup P 1 o 11 0 := ⟨_, rfl⟩
  have h := h P2 eP2
  refine vp_1_11 RX2 rfl ho fl_2_48 eP2 dX2_drive_2 ?_
  refine vr_iconst 0 dX2_drive_5 (by decide) ?_
  refine vr_istore_n 2 [(2, vI 0), (0, vR 1 o), (1, vI x1)] dX2_drive_6 rfl (by decide) rfl ?_
  refine vr_sub [1, 2, 0] [(0, vR 1 o), (1, vI x1), (2, vI 0)] rfl ?_
  exact s_X2_drive_l7 ho  h
theorem dX4_copyFrom_0 : decode cX4_copyFrom 0 = .ok (.aload_n 0, 1) := by decide +kernel
theorem dX4_copyFrom_1 : decode cX4_copyFrom 1 = .ok (.invokevirtual 38, 3) := by decide +kernel
theorem dX4_copyFrom_4 : decode cX4_copyFrom 4 = .ok (.iconst 0, 1) := by decide +kernel
theorem dX4_copyFrom_5 : decode cX4_copyFrom 5 = .ok (.istore_n 2, 1) := by decide +kernel
theorem dX4_copyFrom_6 : decode cX4_copyFrom 6 = .ok (.iload_n 2, 1) := by decide +kernel
theorem dX4_copyFrom_7 : decode cX4_copyFrom 7 = .ok (.bipush 8, 2) := by decide +kernel
theorem dX4_copyFrom_9 : decode cX4_copyFrom 9 = .ok (.if_icmp .ge 38, 3) := by decide +kernel
theorem dX4_copyFrom_12 : decode cX4_copyFrom 12 = .ok (.iconst 0, 1) := by decide +kernel
theorem dX4_copyFrom_13 : decode cX4_copyFrom 13 = .ok (.istore_n 3, 1) := by decide +kernel
theorem dX4_copyFrom_14 : decode cX4_copyFrom 14 = .ok (.iload_n 3, 1) := by decide +kernel
theorem dX4_copyFrom_15 : decode cX4_copyFrom 15 = .ok (.aload_n 1, 1) := by decide +kernel
theorem dX4_copyFrom_16 : decode cX4_copyFrom 16 = .ok (.iload_n 2, 1) := by decide +kernel
theorem dX4_copyFrom_17 : decode cX4_copyFrom 17 = .ok (.invokevirtual 22, 3) := by decide +kernel
theorem dX4_copyFrom_20 : decode cX4_copyFrom 20 = .ok (.if_icmp .ge 21, 3) := by decide +kernel
theorem dX4_copyFrom_23 : decode cX4_copyFrom 23 = .ok (.aload_n 0, 1) := by decide +kernel
theorem dX4_copyFrom_24 : decode cX4_copyFrom 24 = .ok (.iload_n 2, 1) := by decide +kernel
theorem dX4_copyFrom_25 : decode cX4_copyFrom 25 = .ok (.aload_n 1, 1) := by decide +kernel
theorem dX4_copyFrom_26 : decode cX4_copyFrom 26 = .ok (.iload_n 2, 1) := by decide +kernel
theorem dX4_copyFrom_27 : decode cX4_copyFrom 27 = .ok (.iload_n 3, 1) := by decide +kernel
theorem dX4_copyFrom_28 : decode cX4_copyFrom 28 = .ok (.invokevirtual 26, 3) := by decide +kernel
theorem dX4_copyFrom_31 : decode cX4_copyFrom 31 = .ok (.invokevirtual 41, 3) := by decide +kernel
theorem dX4_copyFrom_34 : decode cX4_copyFrom 34 = .ok (.pop, 1) := by decide +kernel
theorem dX4_copyFrom_35 : decode cX4_copyFrom 35 = .ok (.iinc 3 1, 3) := by decide +kernel
theorem dX4_copyFrom_38 : decode cX4_copyFrom 38 = .ok (.goto (-24), 3) := by decide +kernel
theorem dX4_copyFrom_41 : decode cX4_copyFrom 41 = .ok (.iinc 2 1, 3) := by decide +kernel
theorem dX4_copyFrom_44 : decode cX4_copyFrom 44 = .ok (.goto (-38), 3) := by decide +kernel
theorem dX4_copyFrom_47 : decode cX4_copyFrom 47 = .ok (.return_, 1) := by decide +kernel
def F_X4_copyFrom_l14 (o : Nat) (y1 : Nat)  (post : VP → Prop) (X6 : Int32 → VP → Prop) (v2 : Int32) (X : Int32 → VP → Prop) (v3 : Int32) (P : VP) : Prop :=
  F_X4_heightOf y1 v2 P (fun r17 => (v3 < r17 → F_X4_frameAt y1 v2 v3 P (fun r28 => F_X4_push o v2 r28 P (fun r31 P31 => X (v3 + 1) P31))) ∧ (¬ v3 < r17 → X6 (v2 + 1) P))
set_option maxRecDepth 4000 in
theorem s_X4_copyFrom_l14 {l : Launch} {g : vG} {o : Nat} {y1 : Nat} {Q : VP} {post : VP → Prop} {X6 : Int32 → VP → Prop} {v2 : Int32}  {v3 : Int32} {P : VP} (ho : o < vcnt 11) (hy1 : y1 < vcnt 11) (hX6 : ∀ v2_ P_, X6 v2_ P_ → VM l g RX4 cX4_copyFrom 4 none 4 (vcV Q post) 6 [(0, vR 11 o), (1, vR 11 y1), (2, vI v2_)] [] (vjn P_ Q)) (h : vL2 (F_X4_copyFrom_l14 o y1  post X6 v2) v3 P) : VM l g RX4 cX4_copyFrom 4 none 4 (vcV Q post) 14 [(0, vR 11 o), (1, vR 11 y1), (2, vI v2), (3, vI v3)] [] (vjn P Q) := by
  refine vL2_s (T := fun v3 P => VM l g RX4 cX4_copyFrom 4 none 4 (vcV Q post) 14 [(0, vR 11 o), (1, vR 11 y1), (2, vI v2), (3, vI v3)] [] (vjn P Q)) ?_ h
  clear h
  intro X hX v3 P h
  unfold F_X4_copyFrom_l14 at h
  refine vr_iload_n 3 3 dX4_copyFrom_14 rfl rfl ?_
  refine vr_aload_n 1 1 dX4_copyFrom_15 rfl rfl ?_
  refine vr_iload_n 2 2 dX4_copyFrom_16 rfl rfl ?_
  refine vr_callV RX4 (s_X4_heightOf hy1 h) rfl hy1 rfl rfl rfl ml_4_22 rfl yh_X4_heightOf rfl ⟨Nat.le_of_ble_eq_true rfl, Nat.le_of_ble_eq_true rfl⟩ (Nat.le_of_ble_eq_true rfl) ⟨Nat.zero_le _, Nat.zero_le _⟩ dX4_copyFrom_17 (ki fun r17 h => ?_)
  refine vr_icmpge 41 dX4_copyFrom_20 (by decide) (fun c20 => ?_) (fun c20 => ?_)
  · have h := h.1 c20
    refine vr_aload_n 0 0 dX4_copyFrom_23 rfl rfl ?_
    refine vr_iload_n 2 2 dX4_copyFrom_24 rfl rfl ?_
    refine vr_aload_n 1 1 dX4_copyFrom_25 rfl rfl ?_
    refine vr_iload_n 2 2 dX4_copyFrom_26 rfl rfl ?_
    refine vr_iload_n 3 3 dX4_copyFrom_27 rfl rfl ?_
    refine vr_callV RX4 (s_X4_frameAt hy1 h) rfl hy1 rfl rfl rfl ml_4_26 rfl yh_X4_frameAt rfl ⟨Nat.le_of_ble_eq_true rfl, Nat.le_of_ble_eq_true rfl⟩ (Nat.le_of_ble_eq_true rfl) ⟨Nat.zero_le _, Nat.zero_le _⟩ dX4_copyFrom_28 (ko fun r28 hvr28 h => ?_)
    refine vr_callV RX4 (s_X4_push ho hvr28 h) rfl ho rfl rfl rfl ml_4_41 rfl yh_X4_push rfl ⟨Nat.le_of_ble_eq_true rfl, Nat.le_of_ble_eq_true rfl⟩ (Nat.le_of_ble_eq_true rfl) ⟨Nat.zero_le _, Nat.zero_le _⟩ dX4_copyFrom_31 (kci fun r31 P31 h => ?_)
    refine vr_pop dX4_copyFrom_34 rfl ?_
    refine vr_iinc (v3 + 1) 3 [(3, vI (v3 + 1)), (0, vR 11 o), (1, vR 11 y1), (2, vI v2)] dX4_copyFrom_35 rfl rfl (by decide) rfl ?_
    refine vr_goto 14 dX4_copyFrom_38 (by decide) ?_
    refine vr_sub [1, 2, 3, 0] [(0, vR 11 o), (1, vR 11 y1), (2, vI v2), (3, vI (v3 + 1))] rfl ?_
    exact hX _ _ h
  · have h := h.2 c20
    refine vr_iinc (v2 + 1) 2 [(2, vI (v2 + 1)), (0, vR 11 o), (1, vR 11 y1), (3, vI v3)] dX4_copyFrom_41 rfl rfl (by decide) rfl ?_
    refine vr_goto 6 dX4_copyFrom_44 (by decide) ?_
    refine vr_sub [1, 2, 0] [(0, vR 11 o), (1, vR 11 y1), (2, vI (v2 + 1))] rfl ?_
    exact hX6 _ _ h
def F_X4_copyFrom_l6 (o : Nat) (y1 : Nat)  (post : VP → Prop)   (X : Int32 → VP → Prop) (v2 : Int32) (P : VP) : Prop :=
  (v2 < 8 → vL2 (F_X4_copyFrom_l14 o y1  post X  v2) ((0 : Int32)) P) ∧ (¬ v2 < 8 → post P)
set_option maxRecDepth 4000 in
theorem s_X4_copyFrom_l6 {l : Launch} {g : vG} {o : Nat} {y1 : Nat} {Q : VP} {post : VP → Prop}    {v2 : Int32} {P : VP} (ho : o < vcnt 11) (hy1 : y1 < vcnt 11)  (h : vL2 (F_X4_copyFrom_l6 o y1  post  ) v2 P) : VM l g RX4 cX4_copyFrom 4 none 4 (vcV Q post) 6 [(0, vR 11 o), (1, vR 11 y1), (2, vI v2)] [] (vjn P Q) := by
  refine vL2_s (T := fun v2 P => VM l g RX4 cX4_copyFrom 4 none 4 (vcV Q post) 6 [(0, vR 11 o), (1, vR 11 y1), (2, vI v2)] [] (vjn P Q)) ?_ h
  clear h
  intro X hX v2 P h
  unfold F_X4_copyFrom_l6 at h
  refine vr_iload_n 2 2 dX4_copyFrom_6 rfl rfl ?_
  refine vr_bipush 8 dX4_copyFrom_7 (by decide) ?_
  refine vr_icmpge 47 dX4_copyFrom_9 (by decide) (fun c9 => ?_) (fun c9 => ?_)
  · have h := h.1 c9
    refine vr_iconst 0 dX4_copyFrom_12 (by decide) ?_
    refine vr_istore_n 3 [(3, vI 0), (0, vR 11 o), (1, vR 11 y1), (2, vI v2)] dX4_copyFrom_13 rfl (by decide) rfl ?_
    refine vr_sub [1, 2, 3, 0] [(0, vR 11 o), (1, vR 11 y1), (2, vI v2), (3, vI 0)] rfl ?_
    exact s_X4_copyFrom_l14 ho hy1 hX  h
  · have h := h.2 c9
    exact vr_vret rfl ⟨_, rfl, rfl, h⟩ dX4_copyFrom_47
def F_X4_copyFrom (o : Nat) (y1 : Nat) (P : VP) (post : VP → Prop) : Prop :=
  F_X4_clear o P (fun P1 => vL2 (F_X4_copyFrom_l6 o y1  post  ) ((0 : Int32)) P1)
set_option maxRecDepth 4000 in
theorem s_X4_copyFrom {l : Launch} {g : vG} {o : Nat} {y1 : Nat} {P Q : VP} {post : VP → Prop} (ho : o < vcnt 11) (hy1 : y1 < vcnt 11) (h : F_X4_copyFrom o y1 P post) : VC l g yX4_copyFrom cX4_copyFrom 4 none 4 [vR 11 o, vR 11 y1] (vjn P Q) (vcV Q post) := by
  refine VC.of (by decide +kernel) (Nat.le_of_ble_eq_true rfl) (show VM l g RX4 cX4_copyFrom 4 none 4 (vcV Q post) 0 [(0, vR 11 o), (1, vR 11 y1)] [] (vjn P Q) from ?_)
  unfold F_X4_copyFrom at h
  refine vr_aload_n 0 0 dX4_copyFrom_0 rfl rfl ?_
  refine vr_callV RX4 (s_X4_clear ho h) rfl ho rfl rfl rfl ml_4_38 rfl yh_X4_clear rfl ⟨Nat.le_of_ble_eq_true rfl, Nat.le_of_ble_eq_true rfl⟩ (Nat.le_of_ble_eq_true rfl) ⟨Nat.zero_le _, Nat.zero_le _⟩ dX4_copyFrom_1 (kcv fun P1 h => ?_)
  refine vr_iconst 0 dX4_copyFrom_4 (by decide) ?_
  refine vr_istore_n 2 [(2, vI 0), (0, vR 11 o), (1, vR 11 y1)] dX4_copyFrom_5 rfl (by decide) rfl ?_
  refine vr_sub [1, 2, 0] [(0, vR 11 o), (1, vR 11 y1), (2, vI 0)] rfl ?_
  exact s_X4_copyFrom_l6 ho hy1  h
theorem dX7_copyNumbers_0 : decode cX7_copyNumbers 0 = .ok (.iconst 0, 1) := by decide +kernel
theorem dX7_copyNumbers_1 : decode cX7_copyNumbers 1 = .ok (.istore_n 2, 1) := by decide +kernel
theorem dX7_copyNumbers_2 : decode cX7_copyNumbers 2 = .ok (.iload_n 2, 1) := by decide +kernel
theorem dX7_copyNumbers_3 : decode cX7_copyNumbers 3 = .ok (.aload_n 0, 1) := by decide +kernel
theorem dX7_copyNumbers_4 : decode cX7_copyNumbers 4 = .ok (.arraylength, 1) := by decide +kernel
theorem dX7_copyNumbers_5 : decode cX7_copyNumbers 5 = .ok (.if_icmp .ge 21, 3) := by decide +kernel
theorem dX7_copyNumbers_8 : decode cX7_copyNumbers 8 = .ok (.iload_n 2, 1) := by decide +kernel
theorem dX7_copyNumbers_9 : decode cX7_copyNumbers 9 = .ok (.aload_n 1, 1) := by decide +kernel
theorem dX7_copyNumbers_10 : decode cX7_copyNumbers 10 = .ok (.arraylength, 1) := by decide +kernel
theorem dX7_copyNumbers_11 : decode cX7_copyNumbers 11 = .ok (.if_icmp .ge 15, 3) := by decide +kernel
theorem dX7_copyNumbers_14 : decode cX7_copyNumbers 14 = .ok (.aload_n 1, 1) := by decide +kernel
theorem dX7_copyNumbers_15 : decode cX7_copyNumbers 15 = .ok (.iload_n 2, 1) := by decide +kernel
theorem dX7_copyNumbers_16 : decode cX7_copyNumbers 16 = .ok (.aload_n 0, 1) := by decide +kernel
theorem dX7_copyNumbers_17 : decode cX7_copyNumbers 17 = .ok (.iload_n 2, 1) := by decide +kernel
theorem dX7_copyNumbers_18 : decode cX7_copyNumbers 18 = .ok (.iaload, 1) := by decide +kernel
theorem dX7_copyNumbers_19 : decode cX7_copyNumbers 19 = .ok (.iastore, 1) := by decide +kernel
theorem dX7_copyNumbers_20 : decode cX7_copyNumbers 20 = .ok (.iinc 2 1, 3) := by decide +kernel
theorem dX7_copyNumbers_23 : decode cX7_copyNumbers 23 = .ok (.goto (-21), 3) := by decide +kernel
theorem dX7_copyNumbers_26 : decode cX7_copyNumbers 26 = .ok (.return_, 1) := by decide +kernel
def F_X7_copyNumbers_l2 (k0 : Nat) (a0 : Nat) (k1 : Nat) (a1 : Nat)  (post : VP → Prop)   (X : Int32 → VP → Prop) (v2 : Int32) (P : VP) : Prop :=
  (v2 < vlI k0 → (v2 < vlI k1 → (0 ≤ v2 ∧ v2 < vlI k0) ∧ ((0 ≤ v2 ∧ v2 < vlI k1) ∧ (∀ P19 : VP, P19 = vup P k1 a1 (ix v2) (P k0 a0 (ix v2)) → (X (v2 + 1) P19)))) ∧ (¬ v2 < vlI k1 → post P)) ∧ (¬ v2 < vlI k0 → post P)
set_option maxRecDepth 4000 in
theorem s_X7_copyNumbers_l2 {l : Launch} {g : vG} {k0 : Nat} {a0 : Nat} {k1 : Nat} {a1 : Nat} {Q : VP} {post : VP → Prop}    {v2 : Int32} {P : VP} (hk0 : vPA k0 a0) (hk1 : vPA k1 a1)  (h : vL2 (F_X7_copyNumbers_l2 k0 a0 k1 a1  post  ) v2 P) : VM l g RX7 cX7_copyNumbers 3 none 0 (vcV Q post) 2 [(0, vR k0 a0), (1, vR k1 a1), (2, vI v2)] [] (vjn P Q) := by
  refine vL2_s (T := fun v2 P => VM l g RX7 cX7_copyNumbers 3 none 0 (vcV Q post) 2 [(0, vR k0 a0), (1, vR k1 a1), (2, vI v2)] [] (vjn P Q)) ?_ h
  clear h
  intro X hX v2 P h
  unfold F_X7_copyNumbers_l2 at h
  refine vr_iload_n 2 2 dX7_copyNumbers_2 rfl rfl ?_
  refine vr_aload_n 0 0 dX7_copyNumbers_3 rfl rfl ?_
  refine vr_alen (vlI k0) (hk0).2.1 (hk0).1 rfl dX7_copyNumbers_4 ?_
  refine vr_icmpge 26 dX7_copyNumbers_5 (by decide) (fun c5 => ?_) (fun c5 => ?_)
  · have h := h.1 c5
    refine vr_iload_n 2 2 dX7_copyNumbers_8 rfl rfl ?_
    refine vr_aload_n 1 1 dX7_copyNumbers_9 rfl rfl ?_
    refine vr_alen (vlI k1) (hk1).2.1 (hk1).1 rfl dX7_copyNumbers_10 ?_
    refine vr_icmpge 26 dX7_copyNumbers_11 (by decide) (fun c11 => ?_) (fun c11 => ?_)
    · have h := h.1 c11
      refine vr_aload_n 1 1 dX7_copyNumbers_14 rfl rfl ?_
      refine vr_iload_n 2 2 dX7_copyNumbers_15 rfl rfl ?_
      refine vr_aload_n 0 0 dX7_copyNumbers_16 rfl rfl ?_
      refine vr_iload_n 2 2 dX7_copyNumbers_17 rfl rfl ?_
      have hi := h.1
      have h := h.2
      refine vr_ialdP (vlI k0) hk0 rfl hi dX7_copyNumbers_18 ?_
      have hi := h.1
      have h := h.2
      obtain ⟨P19, eP19⟩ : ∃ y : VP, y = vup P k1 a1 (ix v2) (P k0 a0 (ix v2)) := ⟨_, rfl⟩
      have h := h P19 eP19
      refine vr_iastP (vlI k1) hk1 rfl hi eP19 dX7_copyNumbers_19 ?_
      refine vr_iinc (v2 + 1) 2 [(2, vI (v2 + 1)), (0, vR k0 a0), (1, vR k1 a1)] dX7_copyNumbers_20 rfl rfl (by decide) rfl ?_
      refine vr_goto 2 dX7_copyNumbers_23 (by decide) ?_
      refine vr_sub [1, 2, 0] [(0, vR k0 a0), (1, vR k1 a1), (2, vI (v2 + 1))] rfl ?_
      exact hX _ _ h
    · have h := h.2 c11
      exact vr_vret rfl ⟨_, rfl, rfl, h⟩ dX7_copyNumbers_26
  · have h := h.2 c5
    exact vr_vret rfl ⟨_, rfl, rfl, h⟩ dX7_copyNumbers_26
def F_X7_copyNumbers (k0 : Nat) (a0 : Nat) (k1 : Nat) (a1 : Nat) (P : VP) (post : VP → Prop) : Prop :=
  vL2 (F_X7_copyNumbers_l2 k0 a0 k1 a1  post  ) ((0 : Int32)) P
set_option maxRecDepth 4000 in
theorem s_X7_copyNumbers {l : Launch} {g : vG} {k0 : Nat} {a0 : Nat} {k1 : Nat} {a1 : Nat} {P Q : VP} {post : VP → Prop} (hk0 : vPA k0 a0) (hk1 : vPA k1 a1) (h : F_X7_copyNumbers k0 a0 k1 a1 P post) : VC l g yX7_copyNumbers cX7_copyNumbers 3 none 0 [vR k0 a0, vR k1 a1] (vjn P Q) (vcV Q post) := by
  refine VC.of (by decide +kernel) (Nat.le_of_ble_eq_true rfl) (show VM l g RX7 cX7_copyNumbers 3 none 0 (vcV Q post) 0 [(0, vR k0 a0), (1, vR k1 a1)] [] (vjn P Q) from ?_)
  unfold F_X7_copyNumbers at h
  refine vr_iconst 0 dX7_copyNumbers_0 (by decide) ?_
  refine vr_istore_n 2 [(2, vI 0), (0, vR k0 a0), (1, vR k1 a1)] dX7_copyNumbers_1 rfl (by decide) rfl ?_
  refine vr_sub [1, 2, 0] [(0, vR k0 a0), (1, vR k1 a1), (2, vI 0)] rfl ?_
  exact s_X7_copyNumbers_l2 hk0 hk1  h
theorem dX3_copyFrom_0 : decode cX3_copyFrom 0 = .ok (.aload_n 0, 1) := by decide +kernel
theorem dX3_copyFrom_1 : decode cX3_copyFrom 1 = .ok (.aload_n 1, 1) := by decide +kernel
theorem dX3_copyFrom_2 : decode cX3_copyFrom 2 = .ok (.getfield 58, 3) := by decide +kernel
theorem dX3_copyFrom_5 : decode cX3_copyFrom 5 = .ok (.putfield 58, 3) := by decide +kernel
theorem dX3_copyFrom_8 : decode cX3_copyFrom 8 = .ok (.aload_n 0, 1) := by decide +kernel
theorem dX3_copyFrom_9 : decode cX3_copyFrom 9 = .ok (.getfield 58, 3) := by decide +kernel
theorem dX3_copyFrom_12 : decode cX3_copyFrom 12 = .ok (.ifCond .ne 4, 3) := by decide +kernel
theorem dX3_copyFrom_15 : decode cX3_copyFrom 15 = .ok (.return_, 1) := by decide +kernel
theorem dX3_copyFrom_16 : decode cX3_copyFrom 16 = .ok (.aload_n 0, 1) := by decide +kernel
theorem dX3_copyFrom_17 : decode cX3_copyFrom 17 = .ok (.aload_n 1, 1) := by decide +kernel
theorem dX3_copyFrom_18 : decode cX3_copyFrom 18 = .ok (.getfield 62, 3) := by decide +kernel
theorem dX3_copyFrom_21 : decode cX3_copyFrom 21 = .ok (.putfield 62, 3) := by decide +kernel
theorem dX3_copyFrom_24 : decode cX3_copyFrom 24 = .ok (.aload_n 0, 1) := by decide +kernel
theorem dX3_copyFrom_25 : decode cX3_copyFrom 25 = .ok (.aload_n 1, 1) := by decide +kernel
theorem dX3_copyFrom_26 : decode cX3_copyFrom 26 = .ok (.getfield 65, 3) := by decide +kernel
theorem dX3_copyFrom_29 : decode cX3_copyFrom 29 = .ok (.putfield 65, 3) := by decide +kernel
theorem dX3_copyFrom_32 : decode cX3_copyFrom 32 = .ok (.aload_n 0, 1) := by decide +kernel
theorem dX3_copyFrom_33 : decode cX3_copyFrom 33 = .ok (.aload_n 1, 1) := by decide +kernel
theorem dX3_copyFrom_34 : decode cX3_copyFrom 34 = .ok (.getfield 68, 3) := by decide +kernel
theorem dX3_copyFrom_37 : decode cX3_copyFrom 37 = .ok (.putfield 68, 3) := by decide +kernel
theorem dX3_copyFrom_40 : decode cX3_copyFrom 40 = .ok (.aload_n 0, 1) := by decide +kernel
theorem dX3_copyFrom_41 : decode cX3_copyFrom 41 = .ok (.aload_n 1, 1) := by decide +kernel
theorem dX3_copyFrom_42 : decode cX3_copyFrom 42 = .ok (.getfield 21, 3) := by decide +kernel
theorem dX3_copyFrom_45 : decode cX3_copyFrom 45 = .ok (.putfield 21, 3) := by decide +kernel
theorem dX3_copyFrom_48 : decode cX3_copyFrom 48 = .ok (.aload_n 0, 1) := by decide +kernel
theorem dX3_copyFrom_49 : decode cX3_copyFrom 49 = .ok (.aload_n 1, 1) := by decide +kernel
theorem dX3_copyFrom_50 : decode cX3_copyFrom 50 = .ok (.getfield 35, 3) := by decide +kernel
theorem dX3_copyFrom_53 : decode cX3_copyFrom 53 = .ok (.putfield 35, 3) := by decide +kernel
theorem dX3_copyFrom_56 : decode cX3_copyFrom 56 = .ok (.aload_n 0, 1) := by decide +kernel
theorem dX3_copyFrom_57 : decode cX3_copyFrom 57 = .ok (.aload_n 1, 1) := by decide +kernel
theorem dX3_copyFrom_58 : decode cX3_copyFrom 58 = .ok (.getfield 32, 3) := by decide +kernel
theorem dX3_copyFrom_61 : decode cX3_copyFrom 61 = .ok (.putfield 32, 3) := by decide +kernel
theorem dX3_copyFrom_64 : decode cX3_copyFrom 64 = .ok (.aload_n 0, 1) := by decide +kernel
theorem dX3_copyFrom_65 : decode cX3_copyFrom 65 = .ok (.aload_n 1, 1) := by decide +kernel
theorem dX3_copyFrom_66 : decode cX3_copyFrom 66 = .ok (.getfield 71, 3) := by decide +kernel
theorem dX3_copyFrom_69 : decode cX3_copyFrom 69 = .ok (.putfield 71, 3) := by decide +kernel
theorem dX3_copyFrom_72 : decode cX3_copyFrom 72 = .ok (.aload_n 0, 1) := by decide +kernel
theorem dX3_copyFrom_73 : decode cX3_copyFrom 73 = .ok (.aload_n 1, 1) := by decide +kernel
theorem dX3_copyFrom_74 : decode cX3_copyFrom 74 = .ok (.getfield 29, 3) := by decide +kernel
theorem dX3_copyFrom_77 : decode cX3_copyFrom 77 = .ok (.putfield 29, 3) := by decide +kernel
theorem dX3_copyFrom_80 : decode cX3_copyFrom 80 = .ok (.aload_n 0, 1) := by decide +kernel
theorem dX3_copyFrom_81 : decode cX3_copyFrom 81 = .ok (.aload_n 1, 1) := by decide +kernel
theorem dX3_copyFrom_82 : decode cX3_copyFrom 82 = .ok (.getfield 42, 3) := by decide +kernel
theorem dX3_copyFrom_85 : decode cX3_copyFrom 85 = .ok (.putfield 42, 3) := by decide +kernel
theorem dX3_copyFrom_88 : decode cX3_copyFrom 88 = .ok (.aload_n 1, 1) := by decide +kernel
theorem dX3_copyFrom_89 : decode cX3_copyFrom 89 = .ok (.getfield 9, 3) := by decide +kernel
theorem dX3_copyFrom_92 : decode cX3_copyFrom 92 = .ok (.aload_n 0, 1) := by decide +kernel
theorem dX3_copyFrom_93 : decode cX3_copyFrom 93 = .ok (.getfield 9, 3) := by decide +kernel
theorem dX3_copyFrom_96 : decode cX3_copyFrom 96 = .ok (.invokestatic 74, 3) := by decide +kernel
theorem dX3_copyFrom_99 : decode cX3_copyFrom 99 = .ok (.aload_n 1, 1) := by decide +kernel
theorem dX3_copyFrom_100 : decode cX3_copyFrom 100 = .ok (.getfield 15, 3) := by decide +kernel
theorem dX3_copyFrom_103 : decode cX3_copyFrom 103 = .ok (.aload_n 0, 1) := by decide +kernel
theorem dX3_copyFrom_104 : decode cX3_copyFrom 104 = .ok (.getfield 15, 3) := by decide +kernel
theorem dX3_copyFrom_107 : decode cX3_copyFrom 107 = .ok (.invokestatic 74, 3) := by decide +kernel
theorem dX3_copyFrom_110 : decode cX3_copyFrom 110 = .ok (.aload_n 1, 1) := by decide +kernel
theorem dX3_copyFrom_111 : decode cX3_copyFrom 111 = .ok (.getfield 18, 3) := by decide +kernel
theorem dX3_copyFrom_114 : decode cX3_copyFrom 114 = .ok (.aload_n 0, 1) := by decide +kernel
theorem dX3_copyFrom_115 : decode cX3_copyFrom 115 = .ok (.getfield 18, 3) := by decide +kernel
theorem dX3_copyFrom_118 : decode cX3_copyFrom 118 = .ok (.invokestatic 74, 3) := by decide +kernel
theorem dX3_copyFrom_121 : decode cX3_copyFrom 121 = .ok (.return_, 1) := by decide +kernel
def F_X3_copyFrom (o : Nat) (y1 : Nat) (P : VP) (post : VP → Prop) : Prop :=
  (P 7 y1 0 = 0 ∨ P 7 y1 0 = 1) ∧ (∀ P5 : VP, P5 = vup P 7 o 0 (P 7 y1 0) → ((P5 7 o 0 = 0 → post P5) ∧ (¬ P5 7 o 0 = 0 → ∀ P21 : VP, P21 = vup P5 7 o 1 (P5 7 y1 1) → (∀ P29 : VP, P29 = vup P21 7 o 2 (P21 7 y1 2) → (∀ P37 : VP, P37 = vup P29 7 o 3 (P29 7 y1 3) → (∀ P45 : VP, P45 = vup P37 7 o 4 (P37 7 y1 4) → (∀ P53 : VP, P53 = vup P45 7 o 5 (P45 7 y1 5) → (∀ P61 : VP, P61 = vup P53 7 o 6 (P53 7 y1 6) → (∀ P69 : VP, P69 = vup P61 7 o 7 (P61 7 y1 7) → (∀ P77 : VP, P77 = vup P69 7 o 8 (P69 7 y1 8) → (∀ P85 : VP, P85 = vup P77 7 o 9 (P77 7 y1 9) → (F_X7_copyNumbers 8 y1 8 o P85 (fun P96 => F_X7_copyNumbers 9 y1 9 o P96 (fun P107 => F_X7_copyNumbers 10 y1 10 o P107 (fun P118 => post P118)))))))))))))))
set_option maxRecDepth 4000 in
theorem s_X3_copyFrom {l : Launch} {g : vG} {o : Nat} {y1 : Nat} {P Q : VP} {post : VP → Prop} (ho : o < vcnt 7) (hy1 : y1 < vcnt 7) (h : F_X3_copyFrom o y1 P post) : VC l g yX3_copyFrom cX3_copyFrom 2 none 1 [vR 7 o, vR 7 y1] (vjn P Q) (vcV Q post) := by
  refine VC.of (by decide +kernel) (Nat.le_of_ble_eq_true rfl) (show VM l g RX3 cX3_copyFrom 2 none 1 (vcV Q post) 0 [(0, vR 7 o), (1, vR 7 y1)] [] (vjn P Q) from ?_)
  unfold F_X3_copyFrom at h
  refine vr_aload_n 0 0 dX3_copyFrom_0 rfl rfl ?_
  refine vr_aload_n 1 1 dX3_copyFrom_1 rfl rfl ?_
  refine vg_7_0 RX3 rfl hy1 fl_3_58 dX3_copyFrom_2 ?_
  have hb := h.1
  have h := h.2
  obtain ⟨P5, eP5⟩ : ∃ y : VP, y = vup P 7 o 0 (P 7 y1 0) := ⟨_, rfl⟩
  have h := h P5 eP5
  refine vp_7_0 RX3 rfl ho fl_3_58 hb eP5 dX3_copyFrom_5 ?_
  refine vr_aload_n 0 0 dX3_copyFrom_8 rfl rfl ?_
  refine vg_7_0 RX3 rfl ho fl_3_58 dX3_copyFrom_9 ?_
  refine vr_ifne 16 dX3_copyFrom_12 (by decide) (fun c12 => ?_) (fun c12 => ?_)
  · have h := h.1 c12
    exact vr_vret rfl ⟨_, rfl, rfl, h⟩ dX3_copyFrom_15
  · have h := h.2 c12
    refine vr_aload_n 0 0 dX3_copyFrom_16 rfl rfl ?_
    refine vr_aload_n 1 1 dX3_copyFrom_17 rfl rfl ?_
    refine vg_7_1 RX3 rfl hy1 fl_3_62 dX3_copyFrom_18 ?_
    obtain ⟨P21, eP21⟩ : ∃ y : VP, y = vup P5 7 o 1 (P5 7 y1 1) := ⟨_, rfl⟩
    have h := h P21 eP21
    refine vp_7_1 RX3 rfl ho fl_3_62 eP21 dX3_copyFrom_21 ?_
    refine vr_aload_n 0 0 dX3_copyFrom_24 rfl rfl ?_
    refine vr_aload_n 1 1 dX3_copyFrom_25 rfl rfl ?_
    refine vg_7_2 RX3 rfl hy1 fl_3_65 dX3_copyFrom_26 ?_
    obtain ⟨P29, eP29⟩ : ∃ y : VP, y = vup P21 7 o 2 (P21 7 y1 2) := ⟨_, rfl⟩
    have h := h P29 eP29
    refine vp_7_2 RX3 rfl ho fl_3_65 eP29 dX3_copyFrom_29 ?_
    refine vr_aload_n 0 0 dX3_copyFrom_32 rfl rfl ?_
    refine vr_aload_n 1 1 dX3_copyFrom_33 rfl rfl ?_
    refine vg_7_3 RX3 rfl hy1 fl_3_68 dX3_copyFrom_34 ?_
    obtain ⟨P37, eP37⟩ : ∃ y : VP, y = vup P29 7 o 3 (P29 7 y1 3) := ⟨_, rfl⟩
    have h := h P37 eP37
    refine vp_7_3 RX3 rfl ho fl_3_68 eP37 dX3_copyFrom_37 ?_
    refine vr_aload_n 0 0 dX3_copyFrom_40 rfl rfl ?_
    refine vr_aload_n 1 1 dX3_copyFrom_41 rfl rfl ?_
    refine vg_7_4 RX3 rfl hy1 fl_3_21 dX3_copyFrom_42 ?_
    obtain ⟨P45, eP45⟩ : ∃ y : VP, y = vup P37 7 o 4 (P37 7 y1 4) := ⟨_, rfl⟩
    have h := h P45 eP45
    refine vp_7_4 RX3 rfl ho fl_3_21 eP45 dX3_copyFrom_45 ?_
    refine vr_aload_n 0 0 dX3_copyFrom_48 rfl rfl ?_
    refine vr_aload_n 1 1 dX3_copyFrom_49 rfl rfl ?_
    refine vg_7_5 RX3 rfl hy1 fl_3_35 dX3_copyFrom_50 ?_
    obtain ⟨P53, eP53⟩ : ∃ y : VP, y = vup P45 7 o 5 (P45 7 y1 5) := ⟨_, rfl⟩
    have h := h P53 eP53
    refine vp_7_5 RX3 rfl ho fl_3_35 eP53 dX3_copyFrom_53 ?_
    refine vr_aload_n 0 0 dX3_copyFrom_56 rfl rfl ?_
    refine vr_aload_n 1 1 dX3_copyFrom_57 rfl rfl ?_
    refine vg_7_6 RX3 rfl hy1 fl_3_32 dX3_copyFrom_58 ?_
    obtain ⟨P61, eP61⟩ : ∃ y : VP, y = vup P53 7 o 6 (P53 7 y1 6) := ⟨_, rfl⟩
    have h := h P61 eP61
    refine vp_7_6 RX3 rfl ho fl_3_32 eP61 dX3_copyFrom_61 ?_
    refine vr_aload_n 0 0 dX3_copyFrom_64 rfl rfl ?_
    refine vr_aload_n 1 1 dX3_copyFrom_65 rfl rfl ?_
    refine vg_7_7 RX3 rfl hy1 fl_3_71 dX3_copyFrom_66 ?_
    obtain ⟨P69, eP69⟩ : ∃ y : VP, y = vup P61 7 o 7 (P61 7 y1 7) := ⟨_, rfl⟩
    have h := h P69 eP69
    refine vp_7_7 RX3 rfl ho fl_3_71 eP69 dX3_copyFrom_69 ?_
    refine vr_aload_n 0 0 dX3_copyFrom_72 rfl rfl ?_
    refine vr_aload_n 1 1 dX3_copyFrom_73 rfl rfl ?_
    refine vg_7_8 RX3 rfl hy1 fl_3_29 dX3_copyFrom_74 ?_
    obtain ⟨P77, eP77⟩ : ∃ y : VP, y = vup P69 7 o 8 (P69 7 y1 8) := ⟨_, rfl⟩
    have h := h P77 eP77
    refine vp_7_8 RX3 rfl ho fl_3_29 eP77 dX3_copyFrom_77 ?_
    refine vr_aload_n 0 0 dX3_copyFrom_80 rfl rfl ?_
    refine vr_aload_n 1 1 dX3_copyFrom_81 rfl rfl ?_
    refine vg_7_9 RX3 rfl hy1 fl_3_42 dX3_copyFrom_82 ?_
    obtain ⟨P85, eP85⟩ : ∃ y : VP, y = vup P77 7 o 9 (P77 7 y1 9) := ⟨_, rfl⟩
    have h := h P85 eP85
    refine vp_7_9 RX3 rfl ho fl_3_42 eP85 dX3_copyFrom_85 ?_
    refine vr_aload_n 1 1 dX3_copyFrom_88 rfl rfl ?_
    refine vg_7_10 RX3 rfl hy1 fl_3_9 dX3_copyFrom_89 ?_
    refine vr_aload_n 0 0 dX3_copyFrom_92 rfl rfl ?_
    refine vg_7_10 RX3 rfl ho fl_3_9 dX3_copyFrom_93 ?_
    refine vr_callN RX3 "RingGates" (s_X7_copyNumbers (ia_8 (x := y1) hy1) (ia_8 (x := o) ho) h) rfl mn_3_74 ml_3_74 rfl yh_X7_copyNumbers rfl ⟨Nat.le_of_ble_eq_true rfl, Nat.le_of_ble_eq_true rfl⟩ (Nat.le_of_ble_eq_true rfl) ⟨Nat.zero_le _, Nat.zero_le _⟩ dX3_copyFrom_96 (kcv fun P96 h => ?_)
    refine vr_aload_n 1 1 dX3_copyFrom_99 rfl rfl ?_
    refine vg_7_11 RX3 rfl hy1 fl_3_15 dX3_copyFrom_100 ?_
    refine vr_aload_n 0 0 dX3_copyFrom_103 rfl rfl ?_
    refine vg_7_11 RX3 rfl ho fl_3_15 dX3_copyFrom_104 ?_
    refine vr_callN RX3 "RingGates" (s_X7_copyNumbers (ia_9 (x := y1) hy1) (ia_9 (x := o) ho) h) rfl mn_3_74 ml_3_74 rfl yh_X7_copyNumbers rfl ⟨Nat.le_of_ble_eq_true rfl, Nat.le_of_ble_eq_true rfl⟩ (Nat.le_of_ble_eq_true rfl) ⟨Nat.zero_le _, Nat.zero_le _⟩ dX3_copyFrom_107 (kcv fun P107 h => ?_)
    refine vr_aload_n 1 1 dX3_copyFrom_110 rfl rfl ?_
    refine vg_7_12 RX3 rfl hy1 fl_3_18 dX3_copyFrom_111 ?_
    refine vr_aload_n 0 0 dX3_copyFrom_114 rfl rfl ?_
    refine vg_7_12 RX3 rfl ho fl_3_18 dX3_copyFrom_115 ?_
    refine vr_callN RX3 "RingGates" (s_X7_copyNumbers (ia_10 (x := y1) hy1) (ia_10 (x := o) ho) h) rfl mn_3_74 ml_3_74 rfl yh_X7_copyNumbers rfl ⟨Nat.le_of_ble_eq_true rfl, Nat.le_of_ble_eq_true rfl⟩ (Nat.le_of_ble_eq_true rfl) ⟨Nat.zero_le _, Nat.zero_le _⟩ dX3_copyFrom_118 (kcv fun P118 h => ?_)
    exact vr_vret rfl ⟨_, rfl, rfl, h⟩ dX3_copyFrom_121
theorem dX6_copyFrom_0 : decode cX6_copyFrom 0 = .ok (.aload_n 0, 1) := by decide +kernel
theorem dX6_copyFrom_1 : decode cX6_copyFrom 1 = .ok (.aload_n 1, 1) := by decide +kernel
theorem dX6_copyFrom_2 : decode cX6_copyFrom 2 = .ok (.getfield 9, 3) := by decide +kernel
theorem dX6_copyFrom_5 : decode cX6_copyFrom 5 = .ok (.putfield 9, 3) := by decide +kernel
theorem dX6_copyFrom_8 : decode cX6_copyFrom 8 = .ok (.aload_n 1, 1) := by decide +kernel
theorem dX6_copyFrom_9 : decode cX6_copyFrom 9 = .ok (.getfield 15, 3) := by decide +kernel
theorem dX6_copyFrom_12 : decode cX6_copyFrom 12 = .ok (.aload_n 0, 1) := by decide +kernel
theorem dX6_copyFrom_13 : decode cX6_copyFrom 13 = .ok (.getfield 15, 3) := by decide +kernel
theorem dX6_copyFrom_16 : decode cX6_copyFrom 16 = .ok (.invokestatic 136, 3) := by decide +kernel
theorem dX6_copyFrom_19 : decode cX6_copyFrom 19 = .ok (.aload_n 1, 1) := by decide +kernel
theorem dX6_copyFrom_20 : decode cX6_copyFrom 20 = .ok (.getfield 19, 3) := by decide +kernel
theorem dX6_copyFrom_23 : decode cX6_copyFrom 23 = .ok (.aload_n 0, 1) := by decide +kernel
theorem dX6_copyFrom_24 : decode cX6_copyFrom 24 = .ok (.getfield 19, 3) := by decide +kernel
theorem dX6_copyFrom_27 : decode cX6_copyFrom 27 = .ok (.invokestatic 136, 3) := by decide +kernel
theorem dX6_copyFrom_30 : decode cX6_copyFrom 30 = .ok (.aload_n 0, 1) := by decide +kernel
theorem dX6_copyFrom_31 : decode cX6_copyFrom 31 = .ok (.aload_n 1, 1) := by decide +kernel
theorem dX6_copyFrom_32 : decode cX6_copyFrom 32 = .ok (.getfield 36, 3) := by decide +kernel
theorem dX6_copyFrom_35 : decode cX6_copyFrom 35 = .ok (.putfield 36, 3) := by decide +kernel
theorem dX6_copyFrom_38 : decode cX6_copyFrom 38 = .ok (.aload_n 1, 1) := by decide +kernel
theorem dX6_copyFrom_39 : decode cX6_copyFrom 39 = .ok (.getfield 22, 3) := by decide +kernel
theorem dX6_copyFrom_42 : decode cX6_copyFrom 42 = .ok (.aload_n 0, 1) := by decide +kernel
theorem dX6_copyFrom_43 : decode cX6_copyFrom 43 = .ok (.getfield 22, 3) := by decide +kernel
theorem dX6_copyFrom_46 : decode cX6_copyFrom 46 = .ok (.invokestatic 136, 3) := by decide +kernel
theorem dX6_copyFrom_49 : decode cX6_copyFrom 49 = .ok (.aload_n 0, 1) := by decide +kernel
theorem dX6_copyFrom_50 : decode cX6_copyFrom 50 = .ok (.aload_n 1, 1) := by decide +kernel
theorem dX6_copyFrom_51 : decode cX6_copyFrom 51 = .ok (.getfield 43, 3) := by decide +kernel
theorem dX6_copyFrom_54 : decode cX6_copyFrom 54 = .ok (.putfield 43, 3) := by decide +kernel
theorem dX6_copyFrom_57 : decode cX6_copyFrom 57 = .ok (.iconst 0, 1) := by decide +kernel
theorem dX6_copyFrom_58 : decode cX6_copyFrom 58 = .ok (.istore_n 2, 1) := by decide +kernel
theorem dX6_copyFrom_59 : decode cX6_copyFrom 59 = .ok (.iload_n 2, 1) := by decide +kernel
theorem dX6_copyFrom_60 : decode cX6_copyFrom 60 = .ok (.aload_n 0, 1) := by decide +kernel
theorem dX6_copyFrom_61 : decode cX6_copyFrom 61 = .ok (.getfield 27, 3) := by decide +kernel
theorem dX6_copyFrom_64 : decode cX6_copyFrom 64 = .ok (.arraylength, 1) := by decide +kernel
theorem dX6_copyFrom_65 : decode cX6_copyFrom 65 = .ok (.if_icmp .ge 48, 3) := by decide +kernel
theorem dX6_copyFrom_68 : decode cX6_copyFrom 68 = .ok (.iload_n 2, 1) := by decide +kernel
theorem dX6_copyFrom_69 : decode cX6_copyFrom 69 = .ok (.aload_n 1, 1) := by decide +kernel
theorem dX6_copyFrom_70 : decode cX6_copyFrom 70 = .ok (.getfield 27, 3) := by decide +kernel
theorem dX6_copyFrom_73 : decode cX6_copyFrom 73 = .ok (.arraylength, 1) := by decide +kernel
theorem dX6_copyFrom_74 : decode cX6_copyFrom 74 = .ok (.if_icmp .ge 39, 3) := by decide +kernel
theorem dX6_copyFrom_77 : decode cX6_copyFrom 77 = .ok (.aload_n 1, 1) := by decide +kernel
theorem dX6_copyFrom_78 : decode cX6_copyFrom 78 = .ok (.getfield 27, 3) := by decide +kernel
theorem dX6_copyFrom_81 : decode cX6_copyFrom 81 = .ok (.iload_n 2, 1) := by decide +kernel
theorem dX6_copyFrom_82 : decode cX6_copyFrom 82 = .ok (.aaload, 1) := by decide +kernel
theorem dX6_copyFrom_83 : decode cX6_copyFrom 83 = .ok (.astore_n 3, 1) := by decide +kernel
theorem dX6_copyFrom_84 : decode cX6_copyFrom 84 = .ok (.aload_n 0, 1) := by decide +kernel
theorem dX6_copyFrom_85 : decode cX6_copyFrom 85 = .ok (.getfield 27, 3) := by decide +kernel
theorem dX6_copyFrom_88 : decode cX6_copyFrom 88 = .ok (.iload_n 2, 1) := by decide +kernel
theorem dX6_copyFrom_89 : decode cX6_copyFrom 89 = .ok (.aaload, 1) := by decide +kernel
theorem dX6_copyFrom_90 : decode cX6_copyFrom 90 = .ok (.astore 4, 2) := by decide +kernel
theorem dX6_copyFrom_92 : decode cX6_copyFrom 92 = .ok (.aload_n 3, 1) := by decide +kernel
theorem dX6_copyFrom_93 : decode cX6_copyFrom 93 = .ok (.ifnull 14, 3) := by decide +kernel
theorem dX6_copyFrom_96 : decode cX6_copyFrom 96 = .ok (.aload 4, 2) := by decide +kernel
theorem dX6_copyFrom_98 : decode cX6_copyFrom 98 = .ok (.ifnull 9, 3) := by decide +kernel
theorem dX6_copyFrom_101 : decode cX6_copyFrom 101 = .ok (.aload 4, 2) := by decide +kernel
theorem dX6_copyFrom_103 : decode cX6_copyFrom 103 = .ok (.aload_n 3, 1) := by decide +kernel
theorem dX6_copyFrom_104 : decode cX6_copyFrom 104 = .ok (.invokevirtual 140, 3) := by decide +kernel
theorem dX6_copyFrom_107 : decode cX6_copyFrom 107 = .ok (.iinc 2 1, 3) := by decide +kernel
theorem dX6_copyFrom_110 : decode cX6_copyFrom 110 = .ok (.goto (-51), 3) := by decide +kernel
theorem dX6_copyFrom_113 : decode cX6_copyFrom 113 = .ok (.return_, 1) := by decide +kernel
def F_X6_copyFrom_l59 (o : Nat) (y1 : Nat)  (post : VP → Prop)   (X : Int32 → VP → Prop) (v2 : Int32) (P : VP) : Prop :=
  (v2 < 16 → (v2 < 16 → (0 ≤ v2 ∧ v2 < 16) ∧ ((0 ≤ v2 ∧ v2 < 16) ∧ (F_X3_copyFrom ((16 * o + ix v2)) ((16 * y1 + ix v2)) P (fun P104 => X (v2 + 1) P104)))) ∧ (¬ v2 < 16 → post P)) ∧ (¬ v2 < 16 → post P)
set_option maxRecDepth 4000 in
theorem s_X6_copyFrom_l59 {l : Launch} {g : vG} {o : Nat} {y1 : Nat} {Q : VP} {post : VP → Prop}    {v2 : Int32} {P : VP} (ho : o < vcnt 2) (hy1 : y1 < vcnt 2)  (h : vL2 (F_X6_copyFrom_l59 o y1  post  ) v2 P) : VM l g RX6 cX6_copyFrom 5 none 2 (vcV Q post) 59 [(0, vR 2 o), (1, vR 2 y1), (2, vI v2)] [] (vjn P Q) := by
  refine vL2_s (T := fun v2 P => VM l g RX6 cX6_copyFrom 5 none 2 (vcV Q post) 59 [(0, vR 2 o), (1, vR 2 y1), (2, vI v2)] [] (vjn P Q)) ?_ h
  clear h
  intro X hX v2 P h
  unfold F_X6_copyFrom_l59 at h
  refine vr_iload_n 2 2 dX6_copyFrom_59 rfl rfl ?_
  refine vr_aload_n 0 0 dX6_copyFrom_60 rfl rfl ?_
  refine vg_2_6 RX6 rfl ho fl_6_27 dX6_copyFrom_61 ?_
  refine vl_6 ho dX6_copyFrom_64 ?_
  refine vr_icmpge 113 dX6_copyFrom_65 (by decide) (fun c65 => ?_) (fun c65 => ?_)
  · have h := h.1 c65
    refine vr_iload_n 2 2 dX6_copyFrom_68 rfl rfl ?_
    refine vr_aload_n 1 1 dX6_copyFrom_69 rfl rfl ?_
    refine vg_2_6 RX6 rfl hy1 fl_6_27 dX6_copyFrom_70 ?_
    refine vl_6 hy1 dX6_copyFrom_73 ?_
    refine vr_icmpge 113 dX6_copyFrom_74 (by decide) (fun c74 => ?_) (fun c74 => ?_)
    · have h := h.1 c74
      refine vr_aload_n 1 1 dX6_copyFrom_77 rfl rfl ?_
      refine vg_2_6 RX6 rfl hy1 fl_6_27 dX6_copyFrom_78 ?_
      refine vr_iload_n 2 2 dX6_copyFrom_81 rfl rfl ?_
      have hi := h.1
      have h := h.2
      refine vq_6 hy1 hi dX6_copyFrom_82 (fun hq82 => ?_)
      refine vr_astore_n 3 [(3, vR 7 ((16 * y1 + ix v2))), (0, vR 2 o), (1, vR 2 y1), (2, vI v2)] dX6_copyFrom_83 rfl (by decide) rfl ?_
      refine vr_aload_n 0 1 dX6_copyFrom_84 rfl rfl ?_
      refine vg_2_6 RX6 rfl ho fl_6_27 dX6_copyFrom_85 ?_
      refine vr_iload_n 2 3 dX6_copyFrom_88 rfl rfl ?_
      have hi := h.1
      have h := h.2
      refine vq_6 ho hi dX6_copyFrom_89 (fun hq89 => ?_)
      refine vr_astore [(4, vR 7 ((16 * o + ix v2))), (3, vR 7 ((16 * y1 + ix v2))), (0, vR 2 o), (1, vR 2 y1), (2, vI v2)] dX6_copyFrom_90 (by decide) rfl ?_
      refine vr_aload_n 3 1 dX6_copyFrom_92 rfl rfl ?_
      refine vr_ifnullR dX6_copyFrom_93 ?_
      refine vr_aload 0 dX6_copyFrom_96 rfl ?_
      refine vr_ifnullR dX6_copyFrom_98 ?_
      refine vr_aload 0 dX6_copyFrom_101 rfl ?_
      refine vr_aload_n 3 1 dX6_copyFrom_103 rfl rfl ?_
      refine vr_callV RX6 (s_X3_copyFrom hq89 hq82 h) rfl hq89 rfl rfl rfl ml_6_140 rfl yh_X3_copyFrom rfl ⟨Nat.le_of_ble_eq_true rfl, Nat.le_of_ble_eq_true rfl⟩ (Nat.le_of_ble_eq_true rfl) ⟨Nat.zero_le _, Nat.zero_le _⟩ dX6_copyFrom_104 (kcv fun P104 h => ?_)
      refine vr_iinc (v2 + 1) 4 [(2, vI (v2 + 1)), (4, vR 7 ((16 * o + ix v2))), (3, vR 7 ((16 * y1 + ix v2))), (0, vR 2 o), (1, vR 2 y1)] dX6_copyFrom_107 rfl rfl (by decide) rfl ?_
      refine vr_goto 59 dX6_copyFrom_110 (by decide) ?_
      refine vr_sub [3, 4, 0] [(0, vR 2 o), (1, vR 2 y1), (2, vI (v2 + 1))] rfl ?_
      exact hX _ _ h
    · have h := h.2 c74
      exact vr_vret rfl ⟨_, rfl, rfl, h⟩ dX6_copyFrom_113
  · have h := h.2 c65
    exact vr_vret rfl ⟨_, rfl, rfl, h⟩ dX6_copyFrom_113
def F_X6_copyFrom (o : Nat) (y1 : Nat) (P : VP) (post : VP → Prop) : Prop :=
  ∀ P5 : VP, P5 = vup P 2 o 0 (P 2 y1 0) → (F_X7_copyNumbers 3 y1 3 o P5 (fun P16 => F_X7_copyNumbers 4 y1 4 o P16 (fun P27 => ∀ P35 : VP, P35 = vup P27 2 o 3 (P27 2 y1 3) → (F_X7_copyNumbers 5 y1 5 o P35 (fun P46 => ∀ P54 : VP, P54 = vup P46 2 o 5 (P46 2 y1 5) → (vL2 (F_X6_copyFrom_l59 o y1  post  ) ((0 : Int32)) P54))))))
set_option maxRecDepth 4000 in
theorem s_X6_copyFrom {l : Launch} {g : vG} {o : Nat} {y1 : Nat} {P Q : VP} {post : VP → Prop} (ho : o < vcnt 2) (hy1 : y1 < vcnt 2) (h : F_X6_copyFrom o y1 P post) : VC l g yX6_copyFrom cX6_copyFrom 5 none 2 [vR 2 o, vR 2 y1] (vjn P Q) (vcV Q post) := by
  refine VC.of (by decide +kernel) (Nat.le_of_ble_eq_true rfl) (show VM l g RX6 cX6_copyFrom 5 none 2 (vcV Q post) 0 [(0, vR 2 o), (1, vR 2 y1)] [] (vjn P Q) from ?_)
  unfold F_X6_copyFrom at h
  refine vr_aload_n 0 0 dX6_copyFrom_0 rfl rfl ?_
  refine vr_aload_n 1 1 dX6_copyFrom_1 rfl rfl ?_
  refine vg_2_0 RX6 rfl hy1 fl_6_9 dX6_copyFrom_2 ?_
  obtain ⟨P5, eP5⟩ : ∃ y : VP, y = vup P 2 o 0 (P 2 y1 0) := ⟨_, rfl⟩
  have h := h P5 eP5
  refine vp_2_0 RX6 rfl ho fl_6_9 eP5 dX6_copyFrom_5 ?_
  refine vr_aload_n 1 1 dX6_copyFrom_8 rfl rfl ?_
  refine vg_2_1 RX6 rfl hy1 fl_6_15 dX6_copyFrom_9 ?_
  refine vr_aload_n 0 0 dX6_copyFrom_12 rfl rfl ?_
  refine vg_2_1 RX6 rfl ho fl_6_15 dX6_copyFrom_13 ?_
  refine vr_callN RX6 "RingGates" (s_X7_copyNumbers (ia_3 (x := y1) hy1) (ia_3 (x := o) ho) h) rfl mn_6_136 ml_6_136 rfl yh_X7_copyNumbers rfl ⟨Nat.le_of_ble_eq_true rfl, Nat.le_of_ble_eq_true rfl⟩ (Nat.le_of_ble_eq_true rfl) ⟨Nat.zero_le _, Nat.zero_le _⟩ dX6_copyFrom_16 (kcv fun P16 h => ?_)
  refine vr_aload_n 1 1 dX6_copyFrom_19 rfl rfl ?_
  refine vg_2_2 RX6 rfl hy1 fl_6_19 dX6_copyFrom_20 ?_
  refine vr_aload_n 0 0 dX6_copyFrom_23 rfl rfl ?_
  refine vg_2_2 RX6 rfl ho fl_6_19 dX6_copyFrom_24 ?_
  refine vr_callN RX6 "RingGates" (s_X7_copyNumbers (ia_4 (x := y1) hy1) (ia_4 (x := o) ho) h) rfl mn_6_136 ml_6_136 rfl yh_X7_copyNumbers rfl ⟨Nat.le_of_ble_eq_true rfl, Nat.le_of_ble_eq_true rfl⟩ (Nat.le_of_ble_eq_true rfl) ⟨Nat.zero_le _, Nat.zero_le _⟩ dX6_copyFrom_27 (kcv fun P27 h => ?_)
  refine vr_aload_n 0 0 dX6_copyFrom_30 rfl rfl ?_
  refine vr_aload_n 1 1 dX6_copyFrom_31 rfl rfl ?_
  refine vg_2_3 RX6 rfl hy1 fl_6_36 dX6_copyFrom_32 ?_
  obtain ⟨P35, eP35⟩ : ∃ y : VP, y = vup P27 2 o 3 (P27 2 y1 3) := ⟨_, rfl⟩
  have h := h P35 eP35
  refine vp_2_3 RX6 rfl ho fl_6_36 eP35 dX6_copyFrom_35 ?_
  refine vr_aload_n 1 1 dX6_copyFrom_38 rfl rfl ?_
  refine vg_2_4 RX6 rfl hy1 fl_6_22 dX6_copyFrom_39 ?_
  refine vr_aload_n 0 0 dX6_copyFrom_42 rfl rfl ?_
  refine vg_2_4 RX6 rfl ho fl_6_22 dX6_copyFrom_43 ?_
  refine vr_callN RX6 "RingGates" (s_X7_copyNumbers (ia_5 (x := y1) hy1) (ia_5 (x := o) ho) h) rfl mn_6_136 ml_6_136 rfl yh_X7_copyNumbers rfl ⟨Nat.le_of_ble_eq_true rfl, Nat.le_of_ble_eq_true rfl⟩ (Nat.le_of_ble_eq_true rfl) ⟨Nat.zero_le _, Nat.zero_le _⟩ dX6_copyFrom_46 (kcv fun P46 h => ?_)
  refine vr_aload_n 0 0 dX6_copyFrom_49 rfl rfl ?_
  refine vr_aload_n 1 1 dX6_copyFrom_50 rfl rfl ?_
  refine vg_2_5 RX6 rfl hy1 fl_6_43 dX6_copyFrom_51 ?_
  obtain ⟨P54, eP54⟩ : ∃ y : VP, y = vup P46 2 o 5 (P46 2 y1 5) := ⟨_, rfl⟩
  have h := h P54 eP54
  refine vp_2_5 RX6 rfl ho fl_6_43 eP54 dX6_copyFrom_54 ?_
  refine vr_iconst 0 dX6_copyFrom_57 (by decide) ?_
  refine vr_istore_n 2 [(2, vI 0), (0, vR 2 o), (1, vR 2 y1)] dX6_copyFrom_58 rfl (by decide) rfl ?_
  refine vr_sub [1, 2, 0] [(0, vR 2 o), (1, vR 2 y1), (2, vI 0)] rfl ?_
  exact s_X6_copyFrom_l59 ho hy1  h
theorem dX2_copyFrom_0 : decode cX2_copyFrom 0 = .ok (.aload_n 0, 1) := by decide +kernel
theorem dX2_copyFrom_1 : decode cX2_copyFrom 1 = .ok (.getfield 12, 3) := by decide +kernel
theorem dX2_copyFrom_4 : decode cX2_copyFrom 4 = .ok (.aload_n 1, 1) := by decide +kernel
theorem dX2_copyFrom_5 : decode cX2_copyFrom 5 = .ok (.getfield 12, 3) := by decide +kernel
theorem dX2_copyFrom_8 : decode cX2_copyFrom 8 = .ok (.invokevirtual 220, 3) := by decide +kernel
theorem dX2_copyFrom_11 : decode cX2_copyFrom 11 = .ok (.aload_n 0, 1) := by decide +kernel
theorem dX2_copyFrom_12 : decode cX2_copyFrom 12 = .ok (.getfield 21, 3) := by decide +kernel
theorem dX2_copyFrom_15 : decode cX2_copyFrom 15 = .ok (.aload_n 1, 1) := by decide +kernel
theorem dX2_copyFrom_16 : decode cX2_copyFrom 16 = .ok (.getfield 21, 3) := by decide +kernel
theorem dX2_copyFrom_19 : decode cX2_copyFrom 19 = .ok (.invokevirtual 224, 3) := by decide +kernel
theorem dX2_copyFrom_22 : decode cX2_copyFrom 22 = .ok (.aload_n 0, 1) := by decide +kernel
theorem dX2_copyFrom_23 : decode cX2_copyFrom 23 = .ok (.aload_n 1, 1) := by decide +kernel
theorem dX2_copyFrom_24 : decode cX2_copyFrom 24 = .ok (.getfield 36, 3) := by decide +kernel
theorem dX2_copyFrom_27 : decode cX2_copyFrom 27 = .ok (.putfield 36, 3) := by decide +kernel
theorem dX2_copyFrom_30 : decode cX2_copyFrom 30 = .ok (.aload_n 0, 1) := by decide +kernel
theorem dX2_copyFrom_31 : decode cX2_copyFrom 31 = .ok (.aload_n 1, 1) := by decide +kernel
theorem dX2_copyFrom_32 : decode cX2_copyFrom 32 = .ok (.getfield 39, 3) := by decide +kernel
theorem dX2_copyFrom_35 : decode cX2_copyFrom 35 = .ok (.putfield 39, 3) := by decide +kernel
theorem dX2_copyFrom_38 : decode cX2_copyFrom 38 = .ok (.aload_n 0, 1) := by decide +kernel
theorem dX2_copyFrom_39 : decode cX2_copyFrom 39 = .ok (.aload_n 1, 1) := by decide +kernel
theorem dX2_copyFrom_40 : decode cX2_copyFrom 40 = .ok (.getfield 25, 3) := by decide +kernel
theorem dX2_copyFrom_43 : decode cX2_copyFrom 43 = .ok (.putfield 25, 3) := by decide +kernel
theorem dX2_copyFrom_46 : decode cX2_copyFrom 46 = .ok (.aload_n 0, 1) := by decide +kernel
theorem dX2_copyFrom_47 : decode cX2_copyFrom 47 = .ok (.aload_n 1, 1) := by decide +kernel
theorem dX2_copyFrom_48 : decode cX2_copyFrom 48 = .ok (.getfield 42, 3) := by decide +kernel
theorem dX2_copyFrom_51 : decode cX2_copyFrom 51 = .ok (.putfield 42, 3) := by decide +kernel
theorem dX2_copyFrom_54 : decode cX2_copyFrom 54 = .ok (.return_, 1) := by decide +kernel
def F_X2_copyFrom (o : Nat) (y1 : Nat) (P : VP) (post : VP → Prop) : Prop :=
  F_X6_copyFrom o y1 P (fun P8 => F_X4_copyFrom o y1 P8 (fun P19 => ∀ P27 : VP, P27 = vup P19 1 o 2 (P19 1 y1 2) → (∀ P35 : VP, P35 = vup P27 1 o 3 (P27 1 y1 3) → (∀ P43 : VP, P43 = vup P35 1 o 4 (P35 1 y1 4) → (∀ P51 : VP, P51 = vup P43 1 o 5 (P43 1 y1 5) → (post P51))))))
set_option maxRecDepth 4000 in
theorem s_X2_copyFrom {l : Launch} {g : vG} {o : Nat} {y1 : Nat} {P Q : VP} {post : VP → Prop} (ho : o < vcnt 1) (hy1 : y1 < vcnt 1) (h : F_X2_copyFrom o y1 P post) : VC l g yX2_copyFrom cX2_copyFrom 2 none 5 [vR 1 o, vR 1 y1] (vjn P Q) (vcV Q post) := by
  refine VC.of (by decide +kernel) (Nat.le_of_ble_eq_true rfl) (show VM l g RX2 cX2_copyFrom 2 none 5 (vcV Q post) 0 [(0, vR 1 o), (1, vR 1 y1)] [] (vjn P Q) from ?_)
  unfold F_X2_copyFrom at h
  refine vr_aload_n 0 0 dX2_copyFrom_0 rfl rfl ?_
  refine vg_1_0 RX2 rfl ho fl_2_12 dX2_copyFrom_1 ?_
  refine vr_aload_n 1 1 dX2_copyFrom_4 rfl rfl ?_
  refine vg_1_0 RX2 rfl hy1 fl_2_12 dX2_copyFrom_5 ?_
  refine vr_callV RX2 (s_X6_copyFrom ho hy1 h) rfl ho rfl rfl rfl ml_2_220 rfl yh_X6_copyFrom rfl ⟨Nat.le_of_ble_eq_true rfl, Nat.le_of_ble_eq_true rfl⟩ (Nat.le_of_ble_eq_true rfl) ⟨Nat.zero_le _, Nat.zero_le _⟩ dX2_copyFrom_8 (kcv fun P8 h => ?_)
  refine vr_aload_n 0 0 dX2_copyFrom_11 rfl rfl ?_
  refine vg_1_1 RX2 rfl ho fl_2_21 dX2_copyFrom_12 ?_
  refine vr_aload_n 1 1 dX2_copyFrom_15 rfl rfl ?_
  refine vg_1_1 RX2 rfl hy1 fl_2_21 dX2_copyFrom_16 ?_
  refine vr_callV RX2 (s_X4_copyFrom ho hy1 h) rfl ho rfl rfl rfl ml_2_224 rfl yh_X4_copyFrom rfl ⟨Nat.le_of_ble_eq_true rfl, Nat.le_of_ble_eq_true rfl⟩ (Nat.le_of_ble_eq_true rfl) ⟨Nat.zero_le _, Nat.zero_le _⟩ dX2_copyFrom_19 (kcv fun P19 h => ?_)
  refine vr_aload_n 0 0 dX2_copyFrom_22 rfl rfl ?_
  refine vr_aload_n 1 1 dX2_copyFrom_23 rfl rfl ?_
  refine vg_1_2 RX2 rfl hy1 fl_2_36 dX2_copyFrom_24 ?_
  obtain ⟨P27, eP27⟩ : ∃ y : VP, y = vup P19 1 o 2 (P19 1 y1 2) := ⟨_, rfl⟩
  have h := h P27 eP27
  refine vp_1_2 RX2 rfl ho fl_2_36 eP27 dX2_copyFrom_27 ?_
  refine vr_aload_n 0 0 dX2_copyFrom_30 rfl rfl ?_
  refine vr_aload_n 1 1 dX2_copyFrom_31 rfl rfl ?_
  refine vg_1_3 RX2 rfl hy1 fl_2_39 dX2_copyFrom_32 ?_
  obtain ⟨P35, eP35⟩ : ∃ y : VP, y = vup P27 1 o 3 (P27 1 y1 3) := ⟨_, rfl⟩
  have h := h P35 eP35
  refine vp_1_3 RX2 rfl ho fl_2_39 eP35 dX2_copyFrom_35 ?_
  refine vr_aload_n 0 0 dX2_copyFrom_38 rfl rfl ?_
  refine vr_aload_n 1 1 dX2_copyFrom_39 rfl rfl ?_
  refine vg_1_4 RX2 rfl hy1 fl_2_25 dX2_copyFrom_40 ?_
  obtain ⟨P43, eP43⟩ : ∃ y : VP, y = vup P35 1 o 4 (P35 1 y1 4) := ⟨_, rfl⟩
  have h := h P43 eP43
  refine vp_1_4 RX2 rfl ho fl_2_25 eP43 dX2_copyFrom_43 ?_
  refine vr_aload_n 0 0 dX2_copyFrom_46 rfl rfl ?_
  refine vr_aload_n 1 1 dX2_copyFrom_47 rfl rfl ?_
  refine vg_1_5 RX2 rfl hy1 fl_2_42 dX2_copyFrom_48 ?_
  obtain ⟨P51, eP51⟩ : ∃ y : VP, y = vup P43 1 o 5 (P43 1 y1 5) := ⟨_, rfl⟩
  have h := h P51 eP51
  refine vp_1_5 RX2 rfl ho fl_2_42 eP51 dX2_copyFrom_51 ?_
  exact vr_vret rfl ⟨_, rfl, rfl, h⟩ dX2_copyFrom_54
theorem dX3_knownAt_0 : decode cX3_knownAt 0 = .ok (.aload_n 0, 1) := by decide +kernel
theorem dX3_knownAt_1 : decode cX3_knownAt 1 = .ok (.iload_n 1, 1) := by decide +kernel
theorem dX3_knownAt_2 : decode cX3_knownAt 2 = .ok (.invokevirtual 25, 3) := by decide +kernel
theorem dX3_knownAt_5 : decode cX3_knownAt 5 = .ok (.ifCond .eq 12, 3) := by decide +kernel
theorem dX3_knownAt_8 : decode cX3_knownAt 8 = .ok (.aload_n 0, 1) := by decide +kernel
theorem dX3_knownAt_9 : decode cX3_knownAt 9 = .ok (.getfield 18, 3) := by decide +kernel
theorem dX3_knownAt_12 : decode cX3_knownAt 12 = .ok (.iload_n 1, 1) := by decide +kernel
theorem dX3_knownAt_13 : decode cX3_knownAt 13 = .ok (.iaload, 1) := by decide +kernel
theorem dX3_knownAt_14 : decode cX3_knownAt 14 = .ok (.goto 4, 3) := by decide +kernel
theorem dX3_knownAt_17 : decode cX3_knownAt 17 = .ok (.iconst 0, 1) := by decide +kernel
theorem dX3_knownAt_18 : decode cX3_knownAt 18 = .ok (.ireturn, 1) := by decide +kernel
def F_X3_knownAt (o : Nat) (x1 : Int32) (P : VP) (post : Int32 → Prop) : Prop :=
  F_X3_has o x1 P (fun r2 => (r2 = 0 → post ((0 : Int32))) ∧ (¬ r2 = 0 → (0 ≤ x1 ∧ x1 < 24) ∧ (post (P 10 o (ix x1)))))
set_option maxRecDepth 4000 in
theorem s_X3_knownAt {l : Launch} {g : vG} {o : Nat} {x1 : Int32} {P Q : VP} {post : Int32 → Prop} (ho : o < vcnt 7) (h : F_X3_knownAt o x1 P post) : VC l g yX3_knownAt cX3_knownAt 2 (some .int) 1 [vR 7 o, vI x1] (vjn P Q) (vpI (vjn P Q) post) := by
  refine VC.of (by decide +kernel) (Nat.le_of_ble_eq_true rfl) (show VM l g RX3 cX3_knownAt 2 (some .int) 1 (vpI (vjn P Q) post) 0 [(0, vR 7 o), (1, vI x1)] [] (vjn P Q) from ?_)
  unfold F_X3_knownAt at h
  refine vr_aload_n 0 0 dX3_knownAt_0 rfl rfl ?_
  refine vr_iload_n 1 1 dX3_knownAt_1 rfl rfl ?_
  refine vr_callV RX3 (s_X3_has ho h) rfl ho rfl rfl rfl ml_3_25 rfl yh_X3_has rfl ⟨Nat.le_of_ble_eq_true rfl, Nat.le_of_ble_eq_true rfl⟩ (Nat.le_of_ble_eq_true rfl) ⟨Nat.zero_le _, Nat.zero_le _⟩ dX3_knownAt_2 (ki fun r2 h => ?_)
  refine vr_ifeq 17 dX3_knownAt_5 (by decide) (fun c5 => ?_) (fun c5 => ?_)
  · have h := h.1 c5
    refine vr_iconst 0 dX3_knownAt_17 (by decide) ?_
    exact vr_iret rfl ⟨rfl, _, rfl, h⟩ dX3_knownAt_18
  · have h := h.2 c5
    refine vr_aload_n 0 0 dX3_knownAt_8 rfl rfl ?_
    refine vg_7_12 RX3 rfl ho fl_3_18 dX3_knownAt_9 ?_
    refine vr_iload_n 1 1 dX3_knownAt_12 rfl rfl ?_
    have hi := h.1
    have h := h.2
    refine vr_ialdP 24 (ia_10 (x := o) ho) rfl hi dX3_knownAt_13 ?_
    refine vr_goto 18 dX3_knownAt_14 (by decide) ?_
    exact vr_iret rfl ⟨rfl, _, rfl, h⟩ dX3_knownAt_18
theorem dX3_changeLength_0 : decode cX3_changeLength 0 = .ok (.iload_n 1, 1) := by decide +kernel
theorem dX3_changeLength_1 : decode cX3_changeLength 1 = .ok (.istore_n 2, 1) := by decide +kernel
theorem dX3_changeLength_2 : decode cX3_changeLength 2 = .ok (.iload_n 2, 1) := by decide +kernel
theorem dX3_changeLength_3 : decode cX3_changeLength 3 = .ok (.aload_n 0, 1) := by decide +kernel
theorem dX3_changeLength_4 : decode cX3_changeLength 4 = .ok (.getfield 21, 3) := by decide +kernel
theorem dX3_changeLength_7 : decode cX3_changeLength 7 = .ok (.if_icmp .ge 17, 3) := by decide +kernel
theorem dX3_changeLength_10 : decode cX3_changeLength 10 = .ok (.aload_n 0, 1) := by decide +kernel
theorem dX3_changeLength_11 : decode cX3_changeLength 11 = .ok (.iload_n 2, 1) := by decide +kernel
theorem dX3_changeLength_12 : decode cX3_changeLength 12 = .ok (.iconst 0, 1) := by decide +kernel
theorem dX3_changeLength_13 : decode cX3_changeLength 13 = .ok (.iconst 0, 1) := by decide +kernel
theorem dX3_changeLength_14 : decode cX3_changeLength 14 = .ok (.iconst 0, 1) := by decide +kernel
theorem dX3_changeLength_15 : decode cX3_changeLength 15 = .ok (.invokevirtual 38, 3) := by decide +kernel
theorem dX3_changeLength_18 : decode cX3_changeLength 18 = .ok (.iinc 2 1, 3) := by decide +kernel
theorem dX3_changeLength_21 : decode cX3_changeLength 21 = .ok (.goto (-19), 3) := by decide +kernel
theorem dX3_changeLength_24 : decode cX3_changeLength 24 = .ok (.aload_n 0, 1) := by decide +kernel
theorem dX3_changeLength_25 : decode cX3_changeLength 25 = .ok (.iload_n 1, 1) := by decide +kernel
theorem dX3_changeLength_26 : decode cX3_changeLength 26 = .ok (.putfield 21, 3) := by decide +kernel
theorem dX3_changeLength_29 : decode cX3_changeLength 29 = .ok (.aload_n 0, 1) := by decide +kernel
theorem dX3_changeLength_30 : decode cX3_changeLength 30 = .ok (.aload_n 0, 1) := by decide +kernel
theorem dX3_changeLength_31 : decode cX3_changeLength 31 = .ok (.getfield 42, 3) := by decide +kernel
theorem dX3_changeLength_34 : decode cX3_changeLength 34 = .ok (.iload_n 1, 1) := by decide +kernel
theorem dX3_changeLength_35 : decode cX3_changeLength 35 = .ok (.invokestatic 45, 3) := by decide +kernel
theorem dX3_changeLength_38 : decode cX3_changeLength 38 = .ok (.putfield 42, 3) := by decide +kernel
theorem dX3_changeLength_41 : decode cX3_changeLength 41 = .ok (.return_, 1) := by decide +kernel
def F_X3_changeLength_l2 (o : Nat) (x1 : Int32)  (post : VP → Prop)   (X : Int32 → VP → Prop) (v2 : Int32) (P : VP) : Prop :=
  (v2 < P 7 o 4 → F_X3_become o v2 ((0 : Int32)) ((0 : Int32)) ((0 : Int32)) P (fun P15 => X (v2 + 1) P15)) ∧ (¬ v2 < P 7 o 4 → ∀ P26 : VP, P26 = vup P 7 o 4 x1 → (∀ P38 : VP, P38 = vup P26 7 o 9 (imin (P26 7 o 9) x1) → (post P38)))
set_option maxRecDepth 4000 in
theorem s_X3_changeLength_l2 {l : Launch} {g : vG} {o : Nat} {x1 : Int32} {Q : VP} {post : VP → Prop}    {v2 : Int32} {P : VP} (ho : o < vcnt 7)  (h : vL2 (F_X3_changeLength_l2 o x1  post  ) v2 P) : VM l g RX3 cX3_changeLength 3 none 2 (vcV Q post) 2 [(0, vR 7 o), (1, vI x1), (2, vI v2)] [] (vjn P Q) := by
  refine vL2_s (T := fun v2 P => VM l g RX3 cX3_changeLength 3 none 2 (vcV Q post) 2 [(0, vR 7 o), (1, vI x1), (2, vI v2)] [] (vjn P Q)) ?_ h
  clear h
  intro X hX v2 P h
  unfold F_X3_changeLength_l2 at h
  refine vr_iload_n 2 2 dX3_changeLength_2 rfl rfl ?_
  refine vr_aload_n 0 0 dX3_changeLength_3 rfl rfl ?_
  refine vg_7_4 RX3 rfl ho fl_3_21 dX3_changeLength_4 ?_
  refine vr_icmpge 24 dX3_changeLength_7 (by decide) (fun c7 => ?_) (fun c7 => ?_)
  · have h := h.1 c7
    refine vr_aload_n 0 0 dX3_changeLength_10 rfl rfl ?_
    refine vr_iload_n 2 2 dX3_changeLength_11 rfl rfl ?_
    refine vr_iconst 0 dX3_changeLength_12 (by decide) ?_
    refine vr_iconst 0 dX3_changeLength_13 (by decide) ?_
    refine vr_iconst 0 dX3_changeLength_14 (by decide) ?_
    refine vr_callV RX3 (s_X3_become ho h) rfl ho rfl rfl rfl ml_3_38 rfl yh_X3_become rfl ⟨Nat.le_of_ble_eq_true rfl, Nat.le_of_ble_eq_true rfl⟩ (Nat.le_of_ble_eq_true rfl) ⟨Nat.zero_le _, Nat.zero_le _⟩ dX3_changeLength_15 (kcv fun P15 h => ?_)
    refine vr_iinc (v2 + 1) 2 [(2, vI (v2 + 1)), (0, vR 7 o), (1, vI x1)] dX3_changeLength_18 rfl rfl (by decide) rfl ?_
    refine vr_goto 2 dX3_changeLength_21 (by decide) ?_
    refine vr_sub [1, 2, 0] [(0, vR 7 o), (1, vI x1), (2, vI (v2 + 1))] rfl ?_
    exact hX _ _ h
  · have h := h.2 c7
    refine vr_aload_n 0 0 dX3_changeLength_24 rfl rfl ?_
    refine vr_iload_n 1 1 dX3_changeLength_25 rfl rfl ?_
    obtain ⟨P26, eP26⟩ : ∃ y : VP, y = vup P 7 o 4 x1 := ⟨_, rfl⟩
    have h := h P26 eP26
    refine vp_7_4 RX3 rfl ho fl_3_21 eP26 dX3_changeLength_26 ?_
    refine vr_aload_n 0 0 dX3_changeLength_29 rfl rfl ?_
    refine vr_aload_n 0 0 dX3_changeLength_30 rfl rfl ?_
    refine vg_7_9 RX3 rfl ho fl_3_42 dX3_changeLength_31 ?_
    refine vr_iload_n 1 1 dX3_changeLength_34 rfl rfl ?_
    refine vr_min mk_3_45 mm_min ⟨Nat.le_of_ble_eq_true rfl, Nat.le_of_ble_eq_true rfl⟩ ⟨Nat.zero_le _, Nat.zero_le _⟩ dX3_changeLength_35 ?_
    obtain ⟨P38, eP38⟩ : ∃ y : VP, y = vup P26 7 o 9 (imin (P26 7 o 9) x1) := ⟨_, rfl⟩
    have h := h P38 eP38
    refine vp_7_9 RX3 rfl ho fl_3_42 eP38 dX3_changeLength_38 ?_
    exact vr_vret rfl ⟨_, rfl, rfl, h⟩ dX3_changeLength_41
def F_X3_changeLength (o : Nat) (x1 : Int32) (P : VP) (post : VP → Prop) : Prop :=
  vL2 (F_X3_changeLength_l2 o x1  post  ) x1 P
set_option maxRecDepth 4000 in
theorem s_X3_changeLength {l : Launch} {g : vG} {o : Nat} {x1 : Int32} {P Q : VP} {post : VP → Prop} (ho : o < vcnt 7) (h : F_X3_changeLength o x1 P post) : VC l g yX3_changeLength cX3_changeLength 3 none 2 [vR 7 o, vI x1] (vjn P Q) (vcV Q post) := by
  refine VC.of (by decide +kernel) (Nat.le_of_ble_eq_true rfl) (show VM l g RX3 cX3_changeLength 3 none 2 (vcV Q post) 0 [(0, vR 7 o), (1, vI x1)] [] (vjn P Q) from ?_)
  unfold F_X3_changeLength at h
  refine vr_iload_n 1 1 dX3_changeLength_0 rfl rfl ?_
  refine vr_istore_n 2 [(2, vI x1), (0, vR 7 o), (1, vI x1)] dX3_changeLength_1 rfl (by decide) rfl ?_
  refine vr_sub [1, 2, 0] [(0, vR 7 o), (1, vI x1), (2, vI x1)] rfl ?_
  exact s_X3_changeLength_l2 ho  h
theorem dX3_snapped_0 : decode cX3_snapped 0 = .ok (.iconst 0, 1) := by decide +kernel
theorem dX3_snapped_1 : decode cX3_snapped 1 = .ok (.istore_n 1, 1) := by decide +kernel
theorem dX3_snapped_2 : decode cX3_snapped 2 = .ok (.iconst 0, 1) := by decide +kernel
theorem dX3_snapped_3 : decode cX3_snapped 3 = .ok (.istore_n 2, 1) := by decide +kernel
theorem dX3_snapped_4 : decode cX3_snapped 4 = .ok (.iload_n 2, 1) := by decide +kernel
theorem dX3_snapped_5 : decode cX3_snapped 5 = .ok (.aload_n 0, 1) := by decide +kernel
theorem dX3_snapped_6 : decode cX3_snapped 6 = .ok (.getfield 21, 3) := by decide +kernel
theorem dX3_snapped_9 : decode cX3_snapped 9 = .ok (.if_icmp .ge 26, 3) := by decide +kernel
theorem dX3_snapped_12 : decode cX3_snapped 12 = .ok (.iload_n 1, 1) := by decide +kernel
theorem dX3_snapped_13 : decode cX3_snapped 13 = .ok (.aload_n 0, 1) := by decide +kernel
theorem dX3_snapped_14 : decode cX3_snapped 14 = .ok (.iload_n 2, 1) := by decide +kernel
theorem dX3_snapped_15 : decode cX3_snapped 15 = .ok (.invokevirtual 51, 3) := by decide +kernel
theorem dX3_snapped_18 : decode cX3_snapped 18 = .ok (.iconst 5, 1) := by decide +kernel
theorem dX3_snapped_19 : decode cX3_snapped 19 = .ok (.if_icmp .ne 7, 3) := by decide +kernel
theorem dX3_snapped_22 : decode cX3_snapped 22 = .ok (.iconst 1, 1) := by decide +kernel
theorem dX3_snapped_23 : decode cX3_snapped 23 = .ok (.goto 4, 3) := by decide +kernel
theorem dX3_snapped_26 : decode cX3_snapped 26 = .ok (.iconst 0, 1) := by decide +kernel
theorem dX3_snapped_27 : decode cX3_snapped 27 = .ok (.iadd, 1) := by decide +kernel
theorem dX3_snapped_28 : decode cX3_snapped 28 = .ok (.istore_n 1, 1) := by decide +kernel
theorem dX3_snapped_29 : decode cX3_snapped 29 = .ok (.iinc 2 1, 3) := by decide +kernel
theorem dX3_snapped_32 : decode cX3_snapped 32 = .ok (.goto (-28), 3) := by decide +kernel
theorem dX3_snapped_35 : decode cX3_snapped 35 = .ok (.iload_n 1, 1) := by decide +kernel
theorem dX3_snapped_36 : decode cX3_snapped 36 = .ok (.ireturn, 1) := by decide +kernel
def F_X3_snapped_l4 (o : Nat) (P : VP) (post : Int32 → Prop)   (X : Int32 → Int32 → Prop) (v1 : Int32) (v2 : Int32) : Prop :=
  (v2 < P 7 o 4 → F_X3_kindAt o v2 P (fun r15 => (r15 = 5 → X (v1 + 1) (v2 + 1)) ∧ (¬ r15 = 5 → X (v1 + 0) (v2 + 1)))) ∧ (¬ v2 < P 7 o 4 → post v1)
set_option maxRecDepth 4000 in
theorem s_X3_snapped_l4 {l : Launch} {g : vG} {o : Nat} {P Q : VP} {post : Int32 → Prop}    {v1 : Int32} {v2 : Int32} (ho : o < vcnt 7)  (h : vL2 (F_X3_snapped_l4 o P post  ) v1 v2) : VM l g RX3 cX3_snapped 3 (some .int) 2 (vpI (vjn P Q) post) 4 [(0, vR 7 o), (1, vI v1), (2, vI v2)] [] (vjn P Q) := by
  refine vL2_s (T := fun v1 v2 => VM l g RX3 cX3_snapped 3 (some .int) 2 (vpI (vjn P Q) post) 4 [(0, vR 7 o), (1, vI v1), (2, vI v2)] [] (vjn P Q)) ?_ h
  clear h
  intro X hX v1 v2 h
  unfold F_X3_snapped_l4 at h
  refine vr_iload_n 2 2 dX3_snapped_4 rfl rfl ?_
  refine vr_aload_n 0 0 dX3_snapped_5 rfl rfl ?_
  refine vg_7_4 RX3 rfl ho fl_3_21 dX3_snapped_6 ?_
  refine vr_icmpge 35 dX3_snapped_9 (by decide) (fun c9 => ?_) (fun c9 => ?_)
  · have h := h.1 c9
    refine vr_iload_n 1 1 dX3_snapped_12 rfl rfl ?_
    refine vr_aload_n 0 0 dX3_snapped_13 rfl rfl ?_
    refine vr_iload_n 2 2 dX3_snapped_14 rfl rfl ?_
    refine vr_callV RX3 (s_X3_kindAt ho h) rfl ho rfl rfl rfl ml_3_51 rfl yh_X3_kindAt rfl ⟨Nat.le_of_ble_eq_true rfl, Nat.le_of_ble_eq_true rfl⟩ (Nat.le_of_ble_eq_true rfl) ⟨Nat.zero_le _, Nat.zero_le _⟩ dX3_snapped_15 (ki fun r15 h => ?_)
    refine vr_iconst 5 dX3_snapped_18 (by decide) ?_
    refine vr_icmpne 26 dX3_snapped_19 (by decide) (fun c19 => ?_) (fun c19 => ?_)
    · have h := h.1 c19
      refine vr_iconst 1 dX3_snapped_22 (by decide) ?_
      refine vr_goto 27 dX3_snapped_23 (by decide) ?_
      refine vr_iadd dX3_snapped_27 ?_
      refine vr_istore_n 1 [(1, vI (v1 + 1)), (0, vR 7 o), (2, vI v2)] dX3_snapped_28 rfl (by decide) rfl ?_
      refine vr_iinc (v2 + 1) 2 [(2, vI (v2 + 1)), (1, vI (v1 + 1)), (0, vR 7 o)] dX3_snapped_29 rfl rfl (by decide) rfl ?_
      refine vr_goto 4 dX3_snapped_32 (by decide) ?_
      refine vr_sub [2, 1, 0] [(0, vR 7 o), (1, vI (v1 + 1)), (2, vI (v2 + 1))] rfl ?_
      exact hX _ _ h
    · have h := h.2 c19
      refine vr_iconst 0 dX3_snapped_26 (by decide) ?_
      refine vr_iadd dX3_snapped_27 ?_
      refine vr_istore_n 1 [(1, vI (v1 + 0)), (0, vR 7 o), (2, vI v2)] dX3_snapped_28 rfl (by decide) rfl ?_
      refine vr_iinc (v2 + 1) 2 [(2, vI (v2 + 1)), (1, vI (v1 + 0)), (0, vR 7 o)] dX3_snapped_29 rfl rfl (by decide) rfl ?_
      refine vr_goto 4 dX3_snapped_32 (by decide) ?_
      refine vr_sub [2, 1, 0] [(0, vR 7 o), (1, vI (v1 + 0)), (2, vI (v2 + 1))] rfl ?_
      exact hX _ _ h
  · have h := h.2 c9
    refine vr_iload_n 1 1 dX3_snapped_35 rfl rfl ?_
    exact vr_iret rfl ⟨rfl, _, rfl, h⟩ dX3_snapped_36
def F_X3_snapped (o : Nat) (P : VP) (post : Int32 → Prop) : Prop :=
  vL2 (F_X3_snapped_l4 o P post  ) ((0 : Int32)) ((0 : Int32))
set_option maxRecDepth 4000 in
theorem s_X3_snapped {l : Launch} {g : vG} {o : Nat} {P Q : VP} {post : Int32 → Prop} (ho : o < vcnt 7) (h : F_X3_snapped o P post) : VC l g yX3_snapped cX3_snapped 3 (some .int) 2 [vR 7 o] (vjn P Q) (vpI (vjn P Q) post) := by
  refine VC.of (by decide +kernel) (Nat.le_of_ble_eq_true rfl) (show VM l g RX3 cX3_snapped 3 (some .int) 2 (vpI (vjn P Q) post) 0 [(0, vR 7 o)] [] (vjn P Q) from ?_)
  unfold F_X3_snapped at h
  refine vr_iconst 0 dX3_snapped_0 (by decide) ?_
  refine vr_istore_n 1 [(1, vI 0), (0, vR 7 o)] dX3_snapped_1 rfl (by decide) rfl ?_
  refine vr_iconst 0 dX3_snapped_2 (by decide) ?_
  refine vr_istore_n 2 [(2, vI 0), (1, vI 0), (0, vR 7 o)] dX3_snapped_3 rfl (by decide) rfl ?_
  refine vr_sub [2, 1, 0] [(0, vR 7 o), (1, vI 0), (2, vI 0)] rfl ?_
  exact s_X3_snapped_l4 ho  h
theorem dX3_unsnapAll_0 : decode cX3_unsnapAll 0 = .ok (.iconst 0, 1) := by decide +kernel
theorem dX3_unsnapAll_1 : decode cX3_unsnapAll 1 = .ok (.istore_n 1, 1) := by decide +kernel
theorem dX3_unsnapAll_2 : decode cX3_unsnapAll 2 = .ok (.iconst 0, 1) := by decide +kernel
theorem dX3_unsnapAll_3 : decode cX3_unsnapAll 3 = .ok (.istore_n 2, 1) := by decide +kernel
theorem dX3_unsnapAll_4 : decode cX3_unsnapAll 4 = .ok (.iload_n 2, 1) := by decide +kernel
theorem dX3_unsnapAll_5 : decode cX3_unsnapAll 5 = .ok (.aload_n 0, 1) := by decide +kernel
theorem dX3_unsnapAll_6 : decode cX3_unsnapAll 6 = .ok (.getfield 21, 3) := by decide +kernel
theorem dX3_unsnapAll_9 : decode cX3_unsnapAll 9 = .ok (.if_icmp .ge 33, 3) := by decide +kernel
theorem dX3_unsnapAll_12 : decode cX3_unsnapAll 12 = .ok (.aload_n 0, 1) := by decide +kernel
theorem dX3_unsnapAll_13 : decode cX3_unsnapAll 13 = .ok (.iload_n 2, 1) := by decide +kernel
theorem dX3_unsnapAll_14 : decode cX3_unsnapAll 14 = .ok (.invokevirtual 51, 3) := by decide +kernel
theorem dX3_unsnapAll_17 : decode cX3_unsnapAll 17 = .ok (.iconst 5, 1) := by decide +kernel
theorem dX3_unsnapAll_18 : decode cX3_unsnapAll 18 = .ok (.if_icmp .ne 18, 3) := by decide +kernel
theorem dX3_unsnapAll_21 : decode cX3_unsnapAll 21 = .ok (.aload_n 0, 1) := by decide +kernel
theorem dX3_unsnapAll_22 : decode cX3_unsnapAll 22 = .ok (.iload_n 2, 1) := by decide +kernel
theorem dX3_unsnapAll_23 : decode cX3_unsnapAll 23 = .ok (.iconst 4, 1) := by decide +kernel
theorem dX3_unsnapAll_24 : decode cX3_unsnapAll 24 = .ok (.aload_n 0, 1) := by decide +kernel
theorem dX3_unsnapAll_25 : decode cX3_unsnapAll 25 = .ok (.iload_n 2, 1) := by decide +kernel
theorem dX3_unsnapAll_26 : decode cX3_unsnapAll 26 = .ok (.invokevirtual 55, 3) := by decide +kernel
theorem dX3_unsnapAll_29 : decode cX3_unsnapAll 29 = .ok (.iconst 0, 1) := by decide +kernel
theorem dX3_unsnapAll_30 : decode cX3_unsnapAll 30 = .ok (.invokevirtual 38, 3) := by decide +kernel
theorem dX3_unsnapAll_33 : decode cX3_unsnapAll 33 = .ok (.iinc 1 1, 3) := by decide +kernel
theorem dX3_unsnapAll_36 : decode cX3_unsnapAll 36 = .ok (.iinc 2 1, 3) := by decide +kernel
theorem dX3_unsnapAll_39 : decode cX3_unsnapAll 39 = .ok (.goto (-35), 3) := by decide +kernel
theorem dX3_unsnapAll_42 : decode cX3_unsnapAll 42 = .ok (.iload_n 1, 1) := by decide +kernel
theorem dX3_unsnapAll_43 : decode cX3_unsnapAll 43 = .ok (.ireturn, 1) := by decide +kernel
def F_X3_unsnapAll_l4 (o : Nat)  (post : Int32 → VP → Prop)   (X : Int32 → Int32 → VP → Prop) (v1 : Int32) (v2 : Int32) (P : VP) : Prop :=
  (v2 < P 7 o 4 → F_X3_kindAt o v2 P (fun r14 => (r14 = 5 → F_X3_knownAt o v2 P (fun r26 => F_X3_become o v2 ((4 : Int32)) r26 ((0 : Int32)) P (fun P30 => X (v1 + 1) (v2 + 1) P30))) ∧ (¬ r14 = 5 → X v1 (v2 + 1) P))) ∧ (¬ v2 < P 7 o 4 → post v1 P)
set_option maxRecDepth 4000 in
theorem s_X3_unsnapAll_l4 {l : Launch} {g : vG} {o : Nat} {Q : VP} {post : Int32 → VP → Prop}    {v1 : Int32} {v2 : Int32} {P : VP} (ho : o < vcnt 7)  (h : vL3 (F_X3_unsnapAll_l4 o  post  ) v1 v2 P) : VM l g RX3 cX3_unsnapAll 3 (some .int) 2 (vcI Q post) 4 [(0, vR 7 o), (1, vI v1), (2, vI v2)] [] (vjn P Q) := by
  refine vL3_s (T := fun v1 v2 P => VM l g RX3 cX3_unsnapAll 3 (some .int) 2 (vcI Q post) 4 [(0, vR 7 o), (1, vI v1), (2, vI v2)] [] (vjn P Q)) ?_ h
  clear h
  intro X hX v1 v2 P h
  unfold F_X3_unsnapAll_l4 at h
  refine vr_iload_n 2 2 dX3_unsnapAll_4 rfl rfl ?_
  refine vr_aload_n 0 0 dX3_unsnapAll_5 rfl rfl ?_
  refine vg_7_4 RX3 rfl ho fl_3_21 dX3_unsnapAll_6 ?_
  refine vr_icmpge 42 dX3_unsnapAll_9 (by decide) (fun c9 => ?_) (fun c9 => ?_)
  · have h := h.1 c9
    refine vr_aload_n 0 0 dX3_unsnapAll_12 rfl rfl ?_
    refine vr_iload_n 2 2 dX3_unsnapAll_13 rfl rfl ?_
    refine vr_callV RX3 (s_X3_kindAt ho h) rfl ho rfl rfl rfl ml_3_51 rfl yh_X3_kindAt rfl ⟨Nat.le_of_ble_eq_true rfl, Nat.le_of_ble_eq_true rfl⟩ (Nat.le_of_ble_eq_true rfl) ⟨Nat.zero_le _, Nat.zero_le _⟩ dX3_unsnapAll_14 (ki fun r14 h => ?_)
    refine vr_iconst 5 dX3_unsnapAll_17 (by decide) ?_
    refine vr_icmpne 36 dX3_unsnapAll_18 (by decide) (fun c18 => ?_) (fun c18 => ?_)
    · have h := h.1 c18
      refine vr_aload_n 0 0 dX3_unsnapAll_21 rfl rfl ?_
      refine vr_iload_n 2 2 dX3_unsnapAll_22 rfl rfl ?_
      refine vr_iconst 4 dX3_unsnapAll_23 (by decide) ?_
      refine vr_aload_n 0 0 dX3_unsnapAll_24 rfl rfl ?_
      refine vr_iload_n 2 2 dX3_unsnapAll_25 rfl rfl ?_
      refine vr_callV RX3 (s_X3_knownAt ho h) rfl ho rfl rfl rfl ml_3_55 rfl yh_X3_knownAt rfl ⟨Nat.le_of_ble_eq_true rfl, Nat.le_of_ble_eq_true rfl⟩ (Nat.le_of_ble_eq_true rfl) ⟨Nat.zero_le _, Nat.zero_le _⟩ dX3_unsnapAll_26 (ki fun r26 h => ?_)
      refine vr_iconst 0 dX3_unsnapAll_29 (by decide) ?_
      refine vr_callV RX3 (s_X3_become ho h) rfl ho rfl rfl rfl ml_3_38 rfl yh_X3_become rfl ⟨Nat.le_of_ble_eq_true rfl, Nat.le_of_ble_eq_true rfl⟩ (Nat.le_of_ble_eq_true rfl) ⟨Nat.zero_le _, Nat.zero_le _⟩ dX3_unsnapAll_30 (kcv fun P30 h => ?_)
      refine vr_iinc (v1 + 1) 1 [(1, vI (v1 + 1)), (0, vR 7 o), (2, vI v2)] dX3_unsnapAll_33 rfl rfl (by decide) rfl ?_
      refine vr_iinc (v2 + 1) 2 [(2, vI (v2 + 1)), (1, vI (v1 + 1)), (0, vR 7 o)] dX3_unsnapAll_36 rfl rfl (by decide) rfl ?_
      refine vr_goto 4 dX3_unsnapAll_39 (by decide) ?_
      refine vr_sub [2, 1, 0] [(0, vR 7 o), (1, vI (v1 + 1)), (2, vI (v2 + 1))] rfl ?_
      exact hX _ _ _ h
    · have h := h.2 c18
      refine vr_iinc (v2 + 1) 2 [(2, vI (v2 + 1)), (0, vR 7 o), (1, vI v1)] dX3_unsnapAll_36 rfl rfl (by decide) rfl ?_
      refine vr_goto 4 dX3_unsnapAll_39 (by decide) ?_
      refine vr_sub [1, 2, 0] [(0, vR 7 o), (1, vI v1), (2, vI (v2 + 1))] rfl ?_
      exact hX _ _ _ h
  · have h := h.2 c9
    refine vr_iload_n 1 1 dX3_unsnapAll_42 rfl rfl ?_
    exact vr_iret rfl ⟨_, _, rfl, rfl, h⟩ dX3_unsnapAll_43
def F_X3_unsnapAll (o : Nat) (P : VP) (post : Int32 → VP → Prop) : Prop :=
  vL3 (F_X3_unsnapAll_l4 o  post  ) ((0 : Int32)) ((0 : Int32)) P
set_option maxRecDepth 4000 in
theorem s_X3_unsnapAll {l : Launch} {g : vG} {o : Nat} {P Q : VP} {post : Int32 → VP → Prop} (ho : o < vcnt 7) (h : F_X3_unsnapAll o P post) : VC l g yX3_unsnapAll cX3_unsnapAll 3 (some .int) 2 [vR 7 o] (vjn P Q) (vcI Q post) := by
  refine VC.of (by decide +kernel) (Nat.le_of_ble_eq_true rfl) (show VM l g RX3 cX3_unsnapAll 3 (some .int) 2 (vcI Q post) 0 [(0, vR 7 o)] [] (vjn P Q) from ?_)
  unfold F_X3_unsnapAll at h
  refine vr_iconst 0 dX3_unsnapAll_0 (by decide) ?_
  refine vr_istore_n 1 [(1, vI 0), (0, vR 7 o)] dX3_unsnapAll_1 rfl (by decide) rfl ?_
  refine vr_iconst 0 dX3_unsnapAll_2 (by decide) ?_
  refine vr_istore_n 2 [(2, vI 0), (1, vI 0), (0, vR 7 o)] dX3_unsnapAll_3 rfl (by decide) rfl ?_
  refine vr_sub [2, 1, 0] [(0, vR 7 o), (1, vI 0), (2, vI 0)] rfl ?_
  exact s_X3_unsnapAll_l4 ho  h
theorem dX4_framesOfAll_0 : decode cX4_framesOfAll 0 = .ok (.iconst 0, 1) := by decide +kernel
theorem dX4_framesOfAll_1 : decode cX4_framesOfAll 1 = .ok (.istore_n 1, 1) := by decide +kernel
theorem dX4_framesOfAll_2 : decode cX4_framesOfAll 2 = .ok (.iconst 0, 1) := by decide +kernel
theorem dX4_framesOfAll_3 : decode cX4_framesOfAll 3 = .ok (.istore_n 2, 1) := by decide +kernel
theorem dX4_framesOfAll_4 : decode cX4_framesOfAll 4 = .ok (.iload_n 2, 1) := by decide +kernel
theorem dX4_framesOfAll_5 : decode cX4_framesOfAll 5 = .ok (.aload_n 0, 1) := by decide +kernel
theorem dX4_framesOfAll_6 : decode cX4_framesOfAll 6 = .ok (.getfield 9, 3) := by decide +kernel
theorem dX4_framesOfAll_9 : decode cX4_framesOfAll 9 = .ok (.arraylength, 1) := by decide +kernel
theorem dX4_framesOfAll_10 : decode cX4_framesOfAll 10 = .ok (.if_icmp .ge 18, 3) := by decide +kernel
theorem dX4_framesOfAll_13 : decode cX4_framesOfAll 13 = .ok (.iload_n 1, 1) := by decide +kernel
theorem dX4_framesOfAll_14 : decode cX4_framesOfAll 14 = .ok (.aload_n 0, 1) := by decide +kernel
theorem dX4_framesOfAll_15 : decode cX4_framesOfAll 15 = .ok (.getfield 9, 3) := by decide +kernel
theorem dX4_framesOfAll_18 : decode cX4_framesOfAll 18 = .ok (.iload_n 2, 1) := by decide +kernel
theorem dX4_framesOfAll_19 : decode cX4_framesOfAll 19 = .ok (.iaload, 1) := by decide +kernel
theorem dX4_framesOfAll_20 : decode cX4_framesOfAll 20 = .ok (.iadd, 1) := by decide +kernel
theorem dX4_framesOfAll_21 : decode cX4_framesOfAll 21 = .ok (.istore_n 1, 1) := by decide +kernel
theorem dX4_framesOfAll_22 : decode cX4_framesOfAll 22 = .ok (.iinc 2 1, 3) := by decide +kernel
theorem dX4_framesOfAll_25 : decode cX4_framesOfAll 25 = .ok (.goto (-21), 3) := by decide +kernel
theorem dX4_framesOfAll_28 : decode cX4_framesOfAll 28 = .ok (.iload_n 1, 1) := by decide +kernel
theorem dX4_framesOfAll_29 : decode cX4_framesOfAll 29 = .ok (.ireturn, 1) := by decide +kernel
def F_X4_framesOfAll_l4 (o : Nat) (P : VP) (post : Int32 → Prop)   (X : Int32 → Int32 → Prop) (v1 : Int32) (v2 : Int32) : Prop :=
  (v2 < 8 → (0 ≤ v2 ∧ v2 < 8) ∧ (X (v1 + (P 12 o (ix v2))) (v2 + 1))) ∧ (¬ v2 < 8 → post v1)
set_option maxRecDepth 4000 in
theorem s_X4_framesOfAll_l4 {l : Launch} {g : vG} {o : Nat} {P Q : VP} {post : Int32 → Prop}    {v1 : Int32} {v2 : Int32} (ho : o < vcnt 11)  (h : vL2 (F_X4_framesOfAll_l4 o P post  ) v1 v2) : VM l g RX4 cX4_framesOfAll 3 (some .int) 0 (vpI (vjn P Q) post) 4 [(0, vR 11 o), (1, vI v1), (2, vI v2)] [] (vjn P Q) := by
  refine vL2_s (T := fun v1 v2 => VM l g RX4 cX4_framesOfAll 3 (some .int) 0 (vpI (vjn P Q) post) 4 [(0, vR 11 o), (1, vI v1), (2, vI v2)] [] (vjn P Q)) ?_ h
  clear h
  intro X hX v1 v2 h
  unfold F_X4_framesOfAll_l4 at h
  refine vr_iload_n 2 2 dX4_framesOfAll_4 rfl rfl ?_
  refine vr_aload_n 0 0 dX4_framesOfAll_5 rfl rfl ?_
  refine vg_11_0 RX4 rfl ho fl_4_9 dX4_framesOfAll_6 ?_
  refine vr_alen 8 ((ia_12 (x := o) ho)).2.1 ((ia_12 (x := o) ho)).1 rfl dX4_framesOfAll_9 ?_
  refine vr_icmpge 28 dX4_framesOfAll_10 (by decide) (fun c10 => ?_) (fun c10 => ?_)
  · have h := h.1 c10
    refine vr_iload_n 1 1 dX4_framesOfAll_13 rfl rfl ?_
    refine vr_aload_n 0 0 dX4_framesOfAll_14 rfl rfl ?_
    refine vg_11_0 RX4 rfl ho fl_4_9 dX4_framesOfAll_15 ?_
    refine vr_iload_n 2 2 dX4_framesOfAll_18 rfl rfl ?_
    have hi := h.1
    have h := h.2
    refine vr_ialdP 8 (ia_12 (x := o) ho) rfl hi dX4_framesOfAll_19 ?_
    refine vr_iadd dX4_framesOfAll_20 ?_
    refine vr_istore_n 1 [(1, vI (v1 + (P 12 o (ix v2)))), (0, vR 11 o), (2, vI v2)] dX4_framesOfAll_21 rfl (by decide) rfl ?_
    refine vr_iinc (v2 + 1) 2 [(2, vI (v2 + 1)), (1, vI (v1 + (P 12 o (ix v2)))), (0, vR 11 o)] dX4_framesOfAll_22 rfl rfl (by decide) rfl ?_
    refine vr_goto 4 dX4_framesOfAll_25 (by decide) ?_
    refine vr_sub [2, 1, 0] [(0, vR 11 o), (1, vI (v1 + (P 12 o (ix v2)))), (2, vI (v2 + 1))] rfl ?_
    exact hX _ _ h
  · have h := h.2 c10
    refine vr_iload_n 1 1 dX4_framesOfAll_28 rfl rfl ?_
    exact vr_iret rfl ⟨rfl, _, rfl, h⟩ dX4_framesOfAll_29
def F_X4_framesOfAll (o : Nat) (P : VP) (post : Int32 → Prop) : Prop :=
  vL2 (F_X4_framesOfAll_l4 o P post  ) ((0 : Int32)) ((0 : Int32))
set_option maxRecDepth 4000 in
theorem s_X4_framesOfAll {l : Launch} {g : vG} {o : Nat} {P Q : VP} {post : Int32 → Prop} (ho : o < vcnt 11) (h : F_X4_framesOfAll o P post) : VC l g yX4_framesOfAll cX4_framesOfAll 3 (some .int) 0 [vR 11 o] (vjn P Q) (vpI (vjn P Q) post) := by
  refine VC.of (by decide +kernel) (Nat.le_of_ble_eq_true rfl) (show VM l g RX4 cX4_framesOfAll 3 (some .int) 0 (vpI (vjn P Q) post) 0 [(0, vR 11 o)] [] (vjn P Q) from ?_)
  unfold F_X4_framesOfAll at h
  refine vr_iconst 0 dX4_framesOfAll_0 (by decide) ?_
  refine vr_istore_n 1 [(1, vI 0), (0, vR 11 o)] dX4_framesOfAll_1 rfl (by decide) rfl ?_
  refine vr_iconst 0 dX4_framesOfAll_2 (by decide) ?_
  refine vr_istore_n 2 [(2, vI 0), (1, vI 0), (0, vR 11 o)] dX4_framesOfAll_3 rfl (by decide) rfl ?_
  refine vr_sub [2, 1, 0] [(0, vR 11 o), (1, vI 0), (2, vI 0)] rfl ?_
  exact s_X4_framesOfAll_l4 ho  h
theorem dX5_append_0 : decode cX5_append 0 = .ok (.aload_n 0, 1) := by decide +kernel
theorem dX5_append_1 : decode cX5_append 1 = .ok (.getfield 24, 3) := by decide +kernel
theorem dX5_append_4 : decode cX5_append 4 = .ok (.ifCond .lt 15, 3) := by decide +kernel
theorem dX5_append_7 : decode cX5_append 7 = .ok (.aload_n 0, 1) := by decide +kernel
theorem dX5_append_8 : decode cX5_append 8 = .ok (.getfield 24, 3) := by decide +kernel
theorem dX5_append_11 : decode cX5_append 11 = .ok (.aload_n 0, 1) := by decide +kernel
theorem dX5_append_12 : decode cX5_append 12 = .ok (.getfield 9, 3) := by decide +kernel
theorem dX5_append_15 : decode cX5_append 15 = .ok (.arraylength, 1) := by decide +kernel
theorem dX5_append_16 : decode cX5_append 16 = .ok (.if_icmp .lt 5, 3) := by decide +kernel
theorem dX5_append_19 : decode cX5_append 19 = .ok (.iconst 0, 1) := by decide +kernel
theorem dX5_append_20 : decode cX5_append 20 = .ok (.ireturn, 1) := by decide +kernel
theorem dX5_append_21 : decode cX5_append 21 = .ok (.aload_n 0, 1) := by decide +kernel
theorem dX5_append_22 : decode cX5_append 22 = .ok (.getfield 9, 3) := by decide +kernel
theorem dX5_append_25 : decode cX5_append 25 = .ok (.aload_n 0, 1) := by decide +kernel
theorem dX5_append_26 : decode cX5_append 26 = .ok (.getfield 24, 3) := by decide +kernel
theorem dX5_append_29 : decode cX5_append 29 = .ok (.iload_n 1, 1) := by decide +kernel
theorem dX5_append_30 : decode cX5_append 30 = .ok (.iastore, 1) := by decide +kernel
theorem dX5_append_31 : decode cX5_append 31 = .ok (.aload_n 0, 1) := by decide +kernel
theorem dX5_append_32 : decode cX5_append 32 = .ok (.dup, 1) := by decide +kernel
theorem dX5_append_33 : decode cX5_append 33 = .ok (.getfield 24, 3) := by decide +kernel
theorem dX5_append_36 : decode cX5_append 36 = .ok (.iconst 1, 1) := by decide +kernel
theorem dX5_append_37 : decode cX5_append 37 = .ok (.iadd, 1) := by decide +kernel
theorem dX5_append_38 : decode cX5_append 38 = .ok (.putfield 24, 3) := by decide +kernel
theorem dX5_append_41 : decode cX5_append 41 = .ok (.iconst 1, 1) := by decide +kernel
theorem dX5_append_42 : decode cX5_append 42 = .ok (.ireturn, 1) := by decide +kernel
def F_X5_append (x1 : Int32) (P : VP) (post : Int32 → VP → Prop) : Prop :=
  (P 17 0 1 < 0 → post ((0 : Int32)) P) ∧ (¬ P 17 0 1 < 0 → (P 17 0 1 < 120 → (0 ≤ P 17 0 1 ∧ P 17 0 1 < 120) ∧ (∀ P30 : VP, P30 = vup P 18 0 (ix (P 17 0 1)) x1 → (∀ P38 : VP, P38 = vup P30 17 0 1 ((P30 17 0 1) + 1) → (post ((1 : Int32)) P38)))) ∧ (¬ P 17 0 1 < 120 → post ((0 : Int32)) P))
set_option maxRecDepth 4000 in
theorem s_X5_append {l : Launch} {g : vG} {x1 : Int32} {P Q : VP} {post : Int32 → VP → Prop}  (h : F_X5_append x1 P post) : VC l g yX5_append cX5_append 2 (some .boolean) 0 [vR 17 0, vI x1] (vjn P Q) (vcI Q post) := by
  refine VC.of (by decide +kernel) (Nat.le_of_ble_eq_true rfl) (show VM l g RX5 cX5_append 2 (some .boolean) 0 (vcI Q post) 0 [(0, vR 17 0), (1, vI x1)] [] (vjn P Q) from ?_)
  unfold F_X5_append at h
  refine vr_aload_n 0 0 dX5_append_0 rfl rfl ?_
  refine vg_17_1 RX5 rfl (by decide) fl_5_24 dX5_append_1 ?_
  refine vr_iflt 19 dX5_append_4 (by decide) (fun c4 => ?_) (fun c4 => ?_)
  · have h := h.1 c4
    refine vr_iconst 0 dX5_append_19 (by decide) ?_
    exact vr_zret rfl (Or.inl rfl) ⟨_, _, rfl, rfl, h⟩ dX5_append_20
  · have h := h.2 c4
    refine vr_aload_n 0 0 dX5_append_7 rfl rfl ?_
    refine vg_17_1 RX5 rfl (by decide) fl_5_24 dX5_append_8 ?_
    refine vr_aload_n 0 0 dX5_append_11 rfl rfl ?_
    refine vg_17_0 RX5 rfl (by decide) fl_5_9 dX5_append_12 ?_
    refine vr_alen 120 ((ia_18 (x := 0) (by decide))).2.1 ((ia_18 (x := 0) (by decide))).1 rfl dX5_append_15 ?_
    refine vr_icmplt 21 dX5_append_16 (by decide) (fun c16 => ?_) (fun c16 => ?_)
    · have h := h.1 c16
      refine vr_aload_n 0 0 dX5_append_21 rfl rfl ?_
      refine vg_17_0 RX5 rfl (by decide) fl_5_9 dX5_append_22 ?_
      refine vr_aload_n 0 0 dX5_append_25 rfl rfl ?_
      refine vg_17_1 RX5 rfl (by decide) fl_5_24 dX5_append_26 ?_
      refine vr_iload_n 1 1 dX5_append_29 rfl rfl ?_
      have hi := h.1
      have h := h.2
      obtain ⟨P30, eP30⟩ : ∃ y : VP, y = vup P 18 0 (ix (P 17 0 1)) x1 := ⟨_, rfl⟩
      have h := h P30 eP30
      refine vr_iastP 120 (ia_18 (x := 0) (by decide)) rfl hi eP30 dX5_append_30 ?_
      refine vr_aload_n 0 0 dX5_append_31 rfl rfl ?_
      refine vr_dup dX5_append_32 rfl ?_
      refine vg_17_1 RX5 rfl (by decide) fl_5_24 dX5_append_33 ?_
      refine vr_iconst 1 dX5_append_36 (by decide) ?_
      refine vr_iadd dX5_append_37 ?_
      obtain ⟨P38, eP38⟩ : ∃ y : VP, y = vup P30 17 0 1 ((P30 17 0 1) + 1) := ⟨_, rfl⟩
      have h := h P38 eP38
      refine vp_17_1 RX5 rfl (by decide) fl_5_24 eP38 dX5_append_38 ?_
      refine vr_iconst 1 dX5_append_41 (by decide) ?_
      exact vr_zret rfl (Or.inr rfl) ⟨_, _, rfl, rfl, h⟩ dX5_append_42
    · have h := h.2 c16
      refine vr_iconst 0 dX5_append_19 (by decide) ?_
      exact vr_zret rfl (Or.inl rfl) ⟨_, _, rfl, rfl, h⟩ dX5_append_20
theorem dX5_kindOf_0 : decode cX5_kindOf 0 = .ok (.iload_n 1, 1) := by decide +kernel
theorem dX5_kindOf_1 : decode cX5_kindOf 1 = .ok (.ifCond .lt 26, 3) := by decide +kernel
theorem dX5_kindOf_4 : decode cX5_kindOf 4 = .ok (.iload_n 1, 1) := by decide +kernel
theorem dX5_kindOf_5 : decode cX5_kindOf 5 = .ok (.aload_n 0, 1) := by decide +kernel
theorem dX5_kindOf_6 : decode cX5_kindOf 6 = .ok (.getfield 28, 3) := by decide +kernel
theorem dX5_kindOf_9 : decode cX5_kindOf 9 = .ok (.if_icmp .ge 18, 3) := by decide +kernel
theorem dX5_kindOf_12 : decode cX5_kindOf 12 = .ok (.iload_n 1, 1) := by decide +kernel
theorem dX5_kindOf_13 : decode cX5_kindOf 13 = .ok (.bipush 120, 2) := by decide +kernel
theorem dX5_kindOf_15 : decode cX5_kindOf 15 = .ok (.if_icmp .gt 12, 3) := by decide +kernel
theorem dX5_kindOf_18 : decode cX5_kindOf 18 = .ok (.aload_n 0, 1) := by decide +kernel
theorem dX5_kindOf_19 : decode cX5_kindOf 19 = .ok (.getfield 15, 3) := by decide +kernel
theorem dX5_kindOf_22 : decode cX5_kindOf 22 = .ok (.iload_n 1, 1) := by decide +kernel
theorem dX5_kindOf_23 : decode cX5_kindOf 23 = .ok (.iaload, 1) := by decide +kernel
theorem dX5_kindOf_24 : decode cX5_kindOf 24 = .ok (.goto 4, 3) := by decide +kernel
theorem dX5_kindOf_27 : decode cX5_kindOf 27 = .ok (.iconst 0, 1) := by decide +kernel
theorem dX5_kindOf_28 : decode cX5_kindOf 28 = .ok (.ireturn, 1) := by decide +kernel
def F_X5_kindOf (x1 : Int32) (P : VP) (post : Int32 → Prop) : Prop :=
  (x1 < 0 → post ((0 : Int32))) ∧ (¬ x1 < 0 → (x1 < P 17 0 2 → ((120 : Int32) < x1 → post ((0 : Int32))) ∧ (¬ (120 : Int32) < x1 → (0 ≤ x1 ∧ x1 < 121) ∧ (post (P 19 0 (ix x1))))) ∧ (¬ x1 < P 17 0 2 → post ((0 : Int32))))
set_option maxRecDepth 4000 in
theorem s_X5_kindOf {l : Launch} {g : vG} {x1 : Int32} {P Q : VP} {post : Int32 → Prop}  (h : F_X5_kindOf x1 P post) : VC l g yX5_kindOf cX5_kindOf 2 (some .int) 0 [vR 17 0, vI x1] (vjn P Q) (vpI (vjn P Q) post) := by
  refine VC.of (by decide +kernel) (Nat.le_of_ble_eq_true rfl) (show VM l g RX5 cX5_kindOf 2 (some .int) 0 (vpI (vjn P Q) post) 0 [(0, vR 17 0), (1, vI x1)] [] (vjn P Q) from ?_)
  unfold F_X5_kindOf at h
  refine vr_iload_n 1 1 dX5_kindOf_0 rfl rfl ?_
  refine vr_iflt 27 dX5_kindOf_1 (by decide) (fun c1 => ?_) (fun c1 => ?_)
  · have h := h.1 c1
    refine vr_iconst 0 dX5_kindOf_27 (by decide) ?_
    exact vr_iret rfl ⟨rfl, _, rfl, h⟩ dX5_kindOf_28
  · have h := h.2 c1
    refine vr_iload_n 1 1 dX5_kindOf_4 rfl rfl ?_
    refine vr_aload_n 0 0 dX5_kindOf_5 rfl rfl ?_
    refine vg_17_2 RX5 rfl (by decide) fl_5_28 dX5_kindOf_6 ?_
    refine vr_icmpge 27 dX5_kindOf_9 (by decide) (fun c9 => ?_) (fun c9 => ?_)
    · have h := h.1 c9
      refine vr_iload_n 1 1 dX5_kindOf_12 rfl rfl ?_
      refine vr_bipush 120 dX5_kindOf_13 (by decide) ?_
      refine vr_icmpgt 27 dX5_kindOf_15 (by decide) (fun c15 => ?_) (fun c15 => ?_)
      · have h := h.1 c15
        refine vr_iconst 0 dX5_kindOf_27 (by decide) ?_
        exact vr_iret rfl ⟨rfl, _, rfl, h⟩ dX5_kindOf_28
      · have h := h.2 c15
        refine vr_aload_n 0 0 dX5_kindOf_18 rfl rfl ?_
        refine vg_17_3 RX5 rfl (by decide) fl_5_15 dX5_kindOf_19 ?_
        refine vr_iload_n 1 1 dX5_kindOf_22 rfl rfl ?_
        have hi := h.1
        have h := h.2
        refine vr_ialdP 121 (ia_19 (x := 0) (by decide)) rfl hi dX5_kindOf_23 ?_
        refine vr_goto 28 dX5_kindOf_24 (by decide) ?_
        exact vr_iret rfl ⟨rfl, _, rfl, h⟩ dX5_kindOf_28
    · have h := h.2 c9
      refine vr_iconst 0 dX5_kindOf_27 (by decide) ?_
      exact vr_iret rfl ⟨rfl, _, rfl, h⟩ dX5_kindOf_28
theorem dX5_valueOf_0 : decode cX5_valueOf 0 = .ok (.iload_n 1, 1) := by decide +kernel
theorem dX5_valueOf_1 : decode cX5_valueOf 1 = .ok (.ifCond .lt 26, 3) := by decide +kernel
theorem dX5_valueOf_4 : decode cX5_valueOf 4 = .ok (.iload_n 1, 1) := by decide +kernel
theorem dX5_valueOf_5 : decode cX5_valueOf 5 = .ok (.aload_n 0, 1) := by decide +kernel
theorem dX5_valueOf_6 : decode cX5_valueOf 6 = .ok (.getfield 28, 3) := by decide +kernel
theorem dX5_valueOf_9 : decode cX5_valueOf 9 = .ok (.if_icmp .ge 18, 3) := by decide +kernel
theorem dX5_valueOf_12 : decode cX5_valueOf 12 = .ok (.iload_n 1, 1) := by decide +kernel
theorem dX5_valueOf_13 : decode cX5_valueOf 13 = .ok (.bipush 120, 2) := by decide +kernel
theorem dX5_valueOf_15 : decode cX5_valueOf 15 = .ok (.if_icmp .gt 12, 3) := by decide +kernel
theorem dX5_valueOf_18 : decode cX5_valueOf 18 = .ok (.aload_n 0, 1) := by decide +kernel
theorem dX5_valueOf_19 : decode cX5_valueOf 19 = .ok (.getfield 18, 3) := by decide +kernel
theorem dX5_valueOf_22 : decode cX5_valueOf 22 = .ok (.iload_n 1, 1) := by decide +kernel
theorem dX5_valueOf_23 : decode cX5_valueOf 23 = .ok (.iaload, 1) := by decide +kernel
theorem dX5_valueOf_24 : decode cX5_valueOf 24 = .ok (.goto 4, 3) := by decide +kernel
theorem dX5_valueOf_27 : decode cX5_valueOf 27 = .ok (.iconst 0, 1) := by decide +kernel
theorem dX5_valueOf_28 : decode cX5_valueOf 28 = .ok (.ireturn, 1) := by decide +kernel
def F_X5_valueOf (x1 : Int32) (P : VP) (post : Int32 → Prop) : Prop :=
  (x1 < 0 → post ((0 : Int32))) ∧ (¬ x1 < 0 → (x1 < P 17 0 2 → ((120 : Int32) < x1 → post ((0 : Int32))) ∧ (¬ (120 : Int32) < x1 → (0 ≤ x1 ∧ x1 < 121) ∧ (post (P 20 0 (ix x1))))) ∧ (¬ x1 < P 17 0 2 → post ((0 : Int32))))
set_option maxRecDepth 4000 in
theorem s_X5_valueOf {l : Launch} {g : vG} {x1 : Int32} {P Q : VP} {post : Int32 → Prop}  (h : F_X5_valueOf x1 P post) : VC l g yX5_valueOf cX5_valueOf 2 (some .int) 0 [vR 17 0, vI x1] (vjn P Q) (vpI (vjn P Q) post) := by
  refine VC.of (by decide +kernel) (Nat.le_of_ble_eq_true rfl) (show VM l g RX5 cX5_valueOf 2 (some .int) 0 (vpI (vjn P Q) post) 0 [(0, vR 17 0), (1, vI x1)] [] (vjn P Q) from ?_)
  unfold F_X5_valueOf at h
  refine vr_iload_n 1 1 dX5_valueOf_0 rfl rfl ?_
  refine vr_iflt 27 dX5_valueOf_1 (by decide) (fun c1 => ?_) (fun c1 => ?_)
  · have h := h.1 c1
    refine vr_iconst 0 dX5_valueOf_27 (by decide) ?_
    exact vr_iret rfl ⟨rfl, _, rfl, h⟩ dX5_valueOf_28
  · have h := h.2 c1
    refine vr_iload_n 1 1 dX5_valueOf_4 rfl rfl ?_
    refine vr_aload_n 0 0 dX5_valueOf_5 rfl rfl ?_
    refine vg_17_2 RX5 rfl (by decide) fl_5_28 dX5_valueOf_6 ?_
    refine vr_icmpge 27 dX5_valueOf_9 (by decide) (fun c9 => ?_) (fun c9 => ?_)
    · have h := h.1 c9
      refine vr_iload_n 1 1 dX5_valueOf_12 rfl rfl ?_
      refine vr_bipush 120 dX5_valueOf_13 (by decide) ?_
      refine vr_icmpgt 27 dX5_valueOf_15 (by decide) (fun c15 => ?_) (fun c15 => ?_)
      · have h := h.1 c15
        refine vr_iconst 0 dX5_valueOf_27 (by decide) ?_
        exact vr_iret rfl ⟨rfl, _, rfl, h⟩ dX5_valueOf_28
      · have h := h.2 c15
        refine vr_aload_n 0 0 dX5_valueOf_18 rfl rfl ?_
        refine vg_17_4 RX5 rfl (by decide) fl_5_18 dX5_valueOf_19 ?_
        refine vr_iload_n 1 1 dX5_valueOf_22 rfl rfl ?_
        have hi := h.1
        have h := h.2
        refine vr_ialdP 121 (ia_20 (x := 0) (by decide)) rfl hi dX5_valueOf_23 ?_
        refine vr_goto 28 dX5_valueOf_24 (by decide) ?_
        exact vr_iret rfl ⟨rfl, _, rfl, h⟩ dX5_valueOf_28
    · have h := h.2 c9
      refine vr_iconst 0 dX5_valueOf_27 (by decide) ?_
      exact vr_iret rfl ⟨rfl, _, rfl, h⟩ dX5_valueOf_28
theorem dX5_byteAt_0 : decode cX5_byteAt 0 = .ok (.iload_n 1, 1) := by decide +kernel
theorem dX5_byteAt_1 : decode cX5_byteAt 1 = .ok (.ifCond .lt 29, 3) := by decide +kernel
theorem dX5_byteAt_4 : decode cX5_byteAt 4 = .ok (.iload_n 1, 1) := by decide +kernel
theorem dX5_byteAt_5 : decode cX5_byteAt 5 = .ok (.aload_n 0, 1) := by decide +kernel
theorem dX5_byteAt_6 : decode cX5_byteAt 6 = .ok (.getfield 24, 3) := by decide +kernel
theorem dX5_byteAt_9 : decode cX5_byteAt 9 = .ok (.if_icmp .ge 21, 3) := by decide +kernel
theorem dX5_byteAt_12 : decode cX5_byteAt 12 = .ok (.iload_n 1, 1) := by decide +kernel
theorem dX5_byteAt_13 : decode cX5_byteAt 13 = .ok (.aload_n 0, 1) := by decide +kernel
theorem dX5_byteAt_14 : decode cX5_byteAt 14 = .ok (.getfield 9, 3) := by decide +kernel
theorem dX5_byteAt_17 : decode cX5_byteAt 17 = .ok (.arraylength, 1) := by decide +kernel
theorem dX5_byteAt_18 : decode cX5_byteAt 18 = .ok (.if_icmp .ge 12, 3) := by decide +kernel
theorem dX5_byteAt_21 : decode cX5_byteAt 21 = .ok (.aload_n 0, 1) := by decide +kernel
theorem dX5_byteAt_22 : decode cX5_byteAt 22 = .ok (.getfield 9, 3) := by decide +kernel
theorem dX5_byteAt_25 : decode cX5_byteAt 25 = .ok (.iload_n 1, 1) := by decide +kernel
theorem dX5_byteAt_26 : decode cX5_byteAt 26 = .ok (.iaload, 1) := by decide +kernel
theorem dX5_byteAt_27 : decode cX5_byteAt 27 = .ok (.goto 4, 3) := by decide +kernel
theorem dX5_byteAt_30 : decode cX5_byteAt 30 = .ok (.iconst (-1), 1) := by decide +kernel
theorem dX5_byteAt_31 : decode cX5_byteAt 31 = .ok (.ireturn, 1) := by decide +kernel
def F_X5_byteAt (x1 : Int32) (P : VP) (post : Int32 → Prop) : Prop :=
  (x1 < 0 → post (((-1) : Int32))) ∧ (¬ x1 < 0 → (x1 < P 17 0 1 → (x1 < 120 → (0 ≤ x1 ∧ x1 < 120) ∧ (post (P 18 0 (ix x1)))) ∧ (¬ x1 < 120 → post (((-1) : Int32)))) ∧ (¬ x1 < P 17 0 1 → post (((-1) : Int32))))
set_option maxRecDepth 4000 in
theorem s_X5_byteAt {l : Launch} {g : vG} {x1 : Int32} {P Q : VP} {post : Int32 → Prop}  (h : F_X5_byteAt x1 P post) : VC l g yX5_byteAt cX5_byteAt 2 (some .int) 0 [vR 17 0, vI x1] (vjn P Q) (vpI (vjn P Q) post) := by
  refine VC.of (by decide +kernel) (Nat.le_of_ble_eq_true rfl) (show VM l g RX5 cX5_byteAt 2 (some .int) 0 (vpI (vjn P Q) post) 0 [(0, vR 17 0), (1, vI x1)] [] (vjn P Q) from ?_)
  unfold F_X5_byteAt at h
  refine vr_iload_n 1 1 dX5_byteAt_0 rfl rfl ?_
  refine vr_iflt 30 dX5_byteAt_1 (by decide) (fun c1 => ?_) (fun c1 => ?_)
  · have h := h.1 c1
    refine vr_iconst (-1) dX5_byteAt_30 (by decide) ?_
    exact vr_iret rfl ⟨rfl, _, rfl, h⟩ dX5_byteAt_31
  · have h := h.2 c1
    refine vr_iload_n 1 1 dX5_byteAt_4 rfl rfl ?_
    refine vr_aload_n 0 0 dX5_byteAt_5 rfl rfl ?_
    refine vg_17_1 RX5 rfl (by decide) fl_5_24 dX5_byteAt_6 ?_
    refine vr_icmpge 30 dX5_byteAt_9 (by decide) (fun c9 => ?_) (fun c9 => ?_)
    · have h := h.1 c9
      refine vr_iload_n 1 1 dX5_byteAt_12 rfl rfl ?_
      refine vr_aload_n 0 0 dX5_byteAt_13 rfl rfl ?_
      refine vg_17_0 RX5 rfl (by decide) fl_5_9 dX5_byteAt_14 ?_
      refine vr_alen 120 ((ia_18 (x := 0) (by decide))).2.1 ((ia_18 (x := 0) (by decide))).1 rfl dX5_byteAt_17 ?_
      refine vr_icmpge 30 dX5_byteAt_18 (by decide) (fun c18 => ?_) (fun c18 => ?_)
      · have h := h.1 c18
        refine vr_aload_n 0 0 dX5_byteAt_21 rfl rfl ?_
        refine vg_17_0 RX5 rfl (by decide) fl_5_9 dX5_byteAt_22 ?_
        refine vr_iload_n 1 1 dX5_byteAt_25 rfl rfl ?_
        have hi := h.1
        have h := h.2
        refine vr_ialdP 120 (ia_18 (x := 0) (by decide)) rfl hi dX5_byteAt_26 ?_
        refine vr_goto 31 dX5_byteAt_27 (by decide) ?_
        exact vr_iret rfl ⟨rfl, _, rfl, h⟩ dX5_byteAt_31
      · have h := h.2 c18
        refine vr_iconst (-1) dX5_byteAt_30 (by decide) ?_
        exact vr_iret rfl ⟨rfl, _, rfl, h⟩ dX5_byteAt_31
    · have h := h.2 c9
      refine vr_iconst (-1) dX5_byteAt_30 (by decide) ?_
      exact vr_iret rfl ⟨rfl, _, rfl, h⟩ dX5_byteAt_31
theorem dX5_isLineEnd_0 : decode cX5_isLineEnd 0 = .ok (.aload_n 0, 1) := by decide +kernel
theorem dX5_isLineEnd_1 : decode cX5_isLineEnd 1 = .ok (.getfield 31, 3) := by decide +kernel
theorem dX5_isLineEnd_4 : decode cX5_isLineEnd 4 = .ok (.aload_n 0, 1) := by decide +kernel
theorem dX5_isLineEnd_5 : decode cX5_isLineEnd 5 = .ok (.getfield 24, 3) := by decide +kernel
theorem dX5_isLineEnd_8 : decode cX5_isLineEnd 8 = .ok (.if_icmp .ge 16, 3) := by decide +kernel
theorem dX5_isLineEnd_11 : decode cX5_isLineEnd 11 = .ok (.aload_n 0, 1) := by decide +kernel
theorem dX5_isLineEnd_12 : decode cX5_isLineEnd 12 = .ok (.aload_n 0, 1) := by decide +kernel
theorem dX5_isLineEnd_13 : decode cX5_isLineEnd 13 = .ok (.getfield 31, 3) := by decide +kernel
theorem dX5_isLineEnd_16 : decode cX5_isLineEnd 16 = .ok (.invokevirtual 74, 3) := by decide +kernel
theorem dX5_isLineEnd_19 : decode cX5_isLineEnd 19 = .ok (.bipush 59, 2) := by decide +kernel
theorem dX5_isLineEnd_21 : decode cX5_isLineEnd 21 = .ok (.if_icmp .ne 7, 3) := by decide +kernel
theorem dX5_isLineEnd_24 : decode cX5_isLineEnd 24 = .ok (.iconst 1, 1) := by decide +kernel
theorem dX5_isLineEnd_25 : decode cX5_isLineEnd 25 = .ok (.goto 4, 3) := by decide +kernel
theorem dX5_isLineEnd_28 : decode cX5_isLineEnd 28 = .ok (.iconst 0, 1) := by decide +kernel
theorem dX5_isLineEnd_29 : decode cX5_isLineEnd 29 = .ok (.ireturn, 1) := by decide +kernel
def F_X5_isLineEnd  (P : VP) (post : Int32 → Prop) : Prop :=
  (P 17 0 6 < P 17 0 1 → F_X5_byteAt (P 17 0 6) P (fun r16 => (r16 = 59 → post ((1 : Int32))) ∧ (¬ r16 = 59 → post ((0 : Int32))))) ∧ (¬ P 17 0 6 < P 17 0 1 → post ((1 : Int32)))
set_option maxRecDepth 4000 in
theorem s_X5_isLineEnd {l : Launch} {g : vG}  {P Q : VP} {post : Int32 → Prop}  (h : F_X5_isLineEnd  P post) : VC l g yX5_isLineEnd cX5_isLineEnd 1 (some .boolean) 1 [vR 17 0] (vjn P Q) (vpI (vjn P Q) post) := by
  refine VC.of (by decide +kernel) (Nat.le_of_ble_eq_true rfl) (show VM l g RX5 cX5_isLineEnd 1 (some .boolean) 1 (vpI (vjn P Q) post) 0 [(0, vR 17 0)] [] (vjn P Q) from ?_)
  unfold F_X5_isLineEnd at h
  refine vr_aload_n 0 0 dX5_isLineEnd_0 rfl rfl ?_
  refine vg_17_6 RX5 rfl (by decide) fl_5_31 dX5_isLineEnd_1 ?_
  refine vr_aload_n 0 0 dX5_isLineEnd_4 rfl rfl ?_
  refine vg_17_1 RX5 rfl (by decide) fl_5_24 dX5_isLineEnd_5 ?_
  refine vr_icmpge 24 dX5_isLineEnd_8 (by decide) (fun c8 => ?_) (fun c8 => ?_)
  · have h := h.1 c8
    refine vr_aload_n 0 0 dX5_isLineEnd_11 rfl rfl ?_
    refine vr_aload_n 0 0 dX5_isLineEnd_12 rfl rfl ?_
    refine vg_17_6 RX5 rfl (by decide) fl_5_31 dX5_isLineEnd_13 ?_
    refine vr_callV RX5 (s_X5_byteAt h) rfl (by decide) rfl rfl rfl ml_5_74 rfl yh_X5_byteAt rfl ⟨Nat.le_of_ble_eq_true rfl, Nat.le_of_ble_eq_true rfl⟩ (Nat.le_of_ble_eq_true rfl) ⟨Nat.zero_le _, Nat.zero_le _⟩ dX5_isLineEnd_16 (ki fun r16 h => ?_)
    refine vr_bipush 59 dX5_isLineEnd_19 (by decide) ?_
    refine vr_icmpne 28 dX5_isLineEnd_21 (by decide) (fun c21 => ?_) (fun c21 => ?_)
    · have h := h.1 c21
      refine vr_iconst 1 dX5_isLineEnd_24 (by decide) ?_
      refine vr_goto 29 dX5_isLineEnd_25 (by decide) ?_
      exact vr_zret rfl (Or.inr rfl) ⟨rfl, _, rfl, h⟩ dX5_isLineEnd_29
    · have h := h.2 c21
      refine vr_iconst 0 dX5_isLineEnd_28 (by decide) ?_
      exact vr_zret rfl (Or.inl rfl) ⟨rfl, _, rfl, h⟩ dX5_isLineEnd_29
  · have h := h.2 c8
    refine vr_iconst 1 dX5_isLineEnd_24 (by decide) ?_
    refine vr_goto 29 dX5_isLineEnd_25 (by decide) ?_
    exact vr_zret rfl (Or.inr rfl) ⟨rfl, _, rfl, h⟩ dX5_isLineEnd_29
theorem dX5_partsOf_0 : decode cX5_partsOf 0 = .ok (.iload_n 0, 1) := by decide +kernel
theorem dX5_partsOf_1 : decode cX5_partsOf 1 = .ok (.tableswitch 85 1 13 #[67, 67, 67, 67, 70, 85, 73, 73, 67, 76, 79, 79, 82], 67) := by decide +kernel
theorem dX5_partsOf_68 : decode cX5_partsOf 68 = .ok (.ldc 132, 2) := by decide +kernel
theorem dX5_partsOf_70 : decode cX5_partsOf 70 = .ok (.areturn, 1) := by decide +kernel
theorem dX5_partsOf_71 : decode cX5_partsOf 71 = .ok (.ldc 134, 2) := by decide +kernel
theorem dX5_partsOf_73 : decode cX5_partsOf 73 = .ok (.areturn, 1) := by decide +kernel
theorem dX5_partsOf_74 : decode cX5_partsOf 74 = .ok (.ldc 136, 2) := by decide +kernel
theorem dX5_partsOf_76 : decode cX5_partsOf 76 = .ok (.areturn, 1) := by decide +kernel
theorem dX5_partsOf_77 : decode cX5_partsOf 77 = .ok (.ldc 138, 2) := by decide +kernel
theorem dX5_partsOf_79 : decode cX5_partsOf 79 = .ok (.areturn, 1) := by decide +kernel
theorem dX5_partsOf_80 : decode cX5_partsOf 80 = .ok (.ldc 140, 2) := by decide +kernel
theorem dX5_partsOf_82 : decode cX5_partsOf 82 = .ok (.areturn, 1) := by decide +kernel
theorem dX5_partsOf_83 : decode cX5_partsOf 83 = .ok (.ldc 142, 2) := by decide +kernel
theorem dX5_partsOf_85 : decode cX5_partsOf 85 = .ok (.areturn, 1) := by decide +kernel
theorem dX5_partsOf_86 : decode cX5_partsOf 86 = .ok (.ldc 144, 2) := by decide +kernel
theorem dX5_partsOf_88 : decode cX5_partsOf 88 = .ok (.areturn, 1) := by decide +kernel
def F_X5_partsOf (x0 : Int32) (P : VP) (post : Nat → Prop) : Prop :=
  (x0 = 1 → post 15) ∧ (¬ x0 = 1 → (x0 = 2 → post 15) ∧ (¬ x0 = 2 → (x0 = 3 → post 15) ∧ (¬ x0 = 3 → (x0 = 4 → post 15) ∧ (¬ x0 = 4 → (x0 = 5 → post 16) ∧ (¬ x0 = 5 → (x0 = 6 → post 21) ∧ (¬ x0 = 6 → (x0 = 7 → post 17) ∧ (¬ x0 = 7 → (x0 = 8 → post 17) ∧ (¬ x0 = 8 → (x0 = 9 → post 15) ∧ (¬ x0 = 9 → (x0 = 10 → post 18) ∧ (¬ x0 = 10 → (x0 = 11 → post 19) ∧ (¬ x0 = 11 → (x0 = 12 → post 19) ∧ (¬ x0 = 12 → (x0 = 13 → post 20) ∧ (¬ x0 = 13 → post 21)))))))))))))
set_option maxRecDepth 4000 in
theorem s_X5_partsOf {l : Launch} {g : vG} {x0 : Int32} {P Q : VP} {post : Nat → Prop}  (h : F_X5_partsOf x0 P post) : VC l g yX5_partsOf cX5_partsOf 1 (some (.object "java/lang/String")) 0 [vI x0] (vjn P Q) (vpT (vjn P Q) post) := by
  refine VC.of (by decide +kernel) (Nat.le_of_ble_eq_true rfl) (show VM l g RX5 cX5_partsOf 1 (some (.object "java/lang/String")) 0 (vpT (vjn P Q) post) 0 [(0, vI x0)] [] (vjn P Q) from ?_)
  unfold F_X5_partsOf at h
  refine vr_iload_n 0 0 dX5_partsOf_0 rfl rfl ?_
  by_cases c1_0 : x0 = 1
  · have h := h.1 c1_0
    refine vr_tswIn 1 68 dX5_partsOf_1 c1_0 (by decide) rfl (by decide) ?_
    refine vr_ldcS (tx := "W") 15 (List.mem_of_getElem? (i := 15) rfl) dX5_partsOf_68 ?_
    exact vr_aret rfl ⟨rfl, 15, (by decide), rfl, h⟩ dX5_partsOf_70
  · have h := h.2 c1_0
    by_cases c1_1 : x0 = 2
    · have h := h.1 c1_1
      refine vr_tswIn 2 68 dX5_partsOf_1 c1_1 (by decide) rfl (by decide) ?_
      refine vr_ldcS (tx := "W") 15 (List.mem_of_getElem? (i := 15) rfl) dX5_partsOf_68 ?_
      exact vr_aret rfl ⟨rfl, 15, (by decide), rfl, h⟩ dX5_partsOf_70
    · have h := h.2 c1_1
      by_cases c1_2 : x0 = 3
      · have h := h.1 c1_2
        refine vr_tswIn 3 68 dX5_partsOf_1 c1_2 (by decide) rfl (by decide) ?_
        refine vr_ldcS (tx := "W") 15 (List.mem_of_getElem? (i := 15) rfl) dX5_partsOf_68 ?_
        exact vr_aret rfl ⟨rfl, 15, (by decide), rfl, h⟩ dX5_partsOf_70
      · have h := h.2 c1_2
        by_cases c1_3 : x0 = 4
        · have h := h.1 c1_3
          refine vr_tswIn 4 68 dX5_partsOf_1 c1_3 (by decide) rfl (by decide) ?_
          refine vr_ldcS (tx := "W") 15 (List.mem_of_getElem? (i := 15) rfl) dX5_partsOf_68 ?_
          exact vr_aret rfl ⟨rfl, 15, (by decide), rfl, h⟩ dX5_partsOf_70
        · have h := h.2 c1_3
          by_cases c1_4 : x0 = 5
          · have h := h.1 c1_4
            refine vr_tswIn 5 71 dX5_partsOf_1 c1_4 (by decide) rfl (by decide) ?_
            refine vr_ldcS (tx := "WN") 16 (List.mem_of_getElem? (i := 16) rfl) dX5_partsOf_71 ?_
            exact vr_aret rfl ⟨rfl, 16, (by decide), rfl, h⟩ dX5_partsOf_73
          · have h := h.2 c1_4
            by_cases c1_5 : x0 = 6
            · have h := h.1 c1_5
              refine vr_tswIn 6 86 dX5_partsOf_1 c1_5 (by decide) rfl (by decide) ?_
              refine vr_ldcS (tx := "") 21 (List.mem_of_getElem? (i := 21) rfl) dX5_partsOf_86 ?_
              exact vr_aret rfl ⟨rfl, 21, (by decide), rfl, h⟩ dX5_partsOf_88
            · have h := h.2 c1_5
              by_cases c1_6 : x0 = 7
              · have h := h.1 c1_6
                refine vr_tswIn 7 74 dX5_partsOf_1 c1_6 (by decide) rfl (by decide) ?_
                refine vr_ldcS (tx := "K") 17 (List.mem_of_getElem? (i := 17) rfl) dX5_partsOf_74 ?_
                exact vr_aret rfl ⟨rfl, 17, (by decide), rfl, h⟩ dX5_partsOf_76
              · have h := h.2 c1_6
                by_cases c1_7 : x0 = 8
                · have h := h.1 c1_7
                  refine vr_tswIn 8 74 dX5_partsOf_1 c1_7 (by decide) rfl (by decide) ?_
                  refine vr_ldcS (tx := "K") 17 (List.mem_of_getElem? (i := 17) rfl) dX5_partsOf_74 ?_
                  exact vr_aret rfl ⟨rfl, 17, (by decide), rfl, h⟩ dX5_partsOf_76
                · have h := h.2 c1_7
                  by_cases c1_8 : x0 = 9
                  · have h := h.1 c1_8
                    refine vr_tswIn 9 68 dX5_partsOf_1 c1_8 (by decide) rfl (by decide) ?_
                    refine vr_ldcS (tx := "W") 15 (List.mem_of_getElem? (i := 15) rfl) dX5_partsOf_68 ?_
                    exact vr_aret rfl ⟨rfl, 15, (by decide), rfl, h⟩ dX5_partsOf_70
                  · have h := h.2 c1_8
                    by_cases c1_9 : x0 = 10
                    · have h := h.1 c1_9
                      refine vr_tswIn 10 77 dX5_partsOf_1 c1_9 (by decide) rfl (by decide) ?_
                      refine vr_ldcS (tx := "V") 18 (List.mem_of_getElem? (i := 18) rfl) dX5_partsOf_77 ?_
                      exact vr_aret rfl ⟨rfl, 18, (by decide), rfl, h⟩ dX5_partsOf_79
                    · have h := h.2 c1_9
                      by_cases c1_10 : x0 = 11
                      · have h := h.1 c1_10
                        refine vr_tswIn 11 80 dX5_partsOf_1 c1_10 (by decide) rfl (by decide) ?_
                        refine vr_ldcS (tx := "RSW") 19 (List.mem_of_getElem? (i := 19) rfl) dX5_partsOf_80 ?_
                        exact vr_aret rfl ⟨rfl, 19, (by decide), rfl, h⟩ dX5_partsOf_82
                      · have h := h.2 c1_10
                        by_cases c1_11 : x0 = 12
                        · have h := h.1 c1_11
                          refine vr_tswIn 12 80 dX5_partsOf_1 c1_11 (by decide) rfl (by decide) ?_
                          refine vr_ldcS (tx := "RSW") 19 (List.mem_of_getElem? (i := 19) rfl) dX5_partsOf_80 ?_
                          exact vr_aret rfl ⟨rfl, 19, (by decide), rfl, h⟩ dX5_partsOf_82
                        · have h := h.2 c1_11
                          by_cases c1_12 : x0 = 13
                          · have h := h.1 c1_12
                            refine vr_tswIn 13 83 dX5_partsOf_1 c1_12 (by decide) rfl (by decide) ?_
                            refine vr_ldcS (tx := "LW") 20 (List.mem_of_getElem? (i := 20) rfl) dX5_partsOf_83 ?_
                            exact vr_aret rfl ⟨rfl, 20, (by decide), rfl, h⟩ dX5_partsOf_85
                          · have h := h.2 c1_12
                            refine vr_tswOut 86 dX5_partsOf_1 (by have q0 := lv_neT c1_0 (a := 1) (by decide); have q1 := lv_neT c1_1 (a := 2) (by decide); have q2 := lv_neT c1_2 (a := 3) (by decide); have q3 := lv_neT c1_3 (a := 4) (by decide); have q4 := lv_neT c1_4 (a := 5) (by decide); have q5 := lv_neT c1_5 (a := 6) (by decide); have q6 := lv_neT c1_6 (a := 7) (by decide); have q7 := lv_neT c1_7 (a := 8) (by decide); have q8 := lv_neT c1_8 (a := 9) (by decide); have q9 := lv_neT c1_9 (a := 10) (by decide); have q10 := lv_neT c1_10 (a := 11) (by decide); have q11 := lv_neT c1_11 (a := 12) (by decide); have q12 := lv_neT c1_12 (a := 13) (by decide); omega) (by decide) ?_
                            refine vr_ldcS (tx := "") 21 (List.mem_of_getElem? (i := 21) rfl) dX5_partsOf_86 ?_
                            exact vr_aret rfl ⟨rfl, 21, (by decide), rfl, h⟩ dX5_partsOf_88
theorem dX5_readBlank_0 : decode cX5_readBlank 0 = .ok (.aload_n 0, 1) := by decide +kernel
theorem dX5_readBlank_1 : decode cX5_readBlank 1 = .ok (.aload_n 0, 1) := by decide +kernel
theorem dX5_readBlank_2 : decode cX5_readBlank 2 = .ok (.getfield 31, 3) := by decide +kernel
theorem dX5_readBlank_5 : decode cX5_readBlank 5 = .ok (.invokevirtual 74, 3) := by decide +kernel
theorem dX5_readBlank_8 : decode cX5_readBlank 8 = .ok (.bipush 32, 2) := by decide +kernel
theorem dX5_readBlank_10 : decode cX5_readBlank 10 = .ok (.if_icmp .ne 16, 3) := by decide +kernel
theorem dX5_readBlank_13 : decode cX5_readBlank 13 = .ok (.aload_n 0, 1) := by decide +kernel
theorem dX5_readBlank_14 : decode cX5_readBlank 14 = .ok (.dup, 1) := by decide +kernel
theorem dX5_readBlank_15 : decode cX5_readBlank 15 = .ok (.getfield 31, 3) := by decide +kernel
theorem dX5_readBlank_18 : decode cX5_readBlank 18 = .ok (.iconst 1, 1) := by decide +kernel
theorem dX5_readBlank_19 : decode cX5_readBlank 19 = .ok (.iadd, 1) := by decide +kernel
theorem dX5_readBlank_20 : decode cX5_readBlank 20 = .ok (.putfield 31, 3) := by decide +kernel
theorem dX5_readBlank_23 : decode cX5_readBlank 23 = .ok (.goto 11, 3) := by decide +kernel
theorem dX5_readBlank_26 : decode cX5_readBlank 26 = .ok (.aload_n 0, 1) := by decide +kernel
theorem dX5_readBlank_27 : decode cX5_readBlank 27 = .ok (.aload_n 0, 1) := by decide +kernel
theorem dX5_readBlank_28 : decode cX5_readBlank 28 = .ok (.getfield 31, 3) := by decide +kernel
theorem dX5_readBlank_31 : decode cX5_readBlank 31 = .ok (.putfield 34, 3) := by decide +kernel
theorem dX5_readBlank_34 : decode cX5_readBlank 34 = .ok (.return_, 1) := by decide +kernel
def F_X5_readBlank  (P : VP) (post : VP → Prop) : Prop :=
  F_X5_byteAt (P 17 0 6) P (fun r5 => (r5 = 32 → ∀ P20 : VP, P20 = vup P 17 0 6 ((P 17 0 6) + 1) → (post P20)) ∧ (¬ r5 = 32 → ∀ P31 : VP, P31 = vup P 17 0 7 (P 17 0 6) → (post P31)))
set_option maxRecDepth 4000 in
theorem s_X5_readBlank {l : Launch} {g : vG}  {P Q : VP} {post : VP → Prop}  (h : F_X5_readBlank  P post) : VC l g yX5_readBlank cX5_readBlank 1 none 1 [vR 17 0] (vjn P Q) (vcV Q post) := by
  refine VC.of (by decide +kernel) (Nat.le_of_ble_eq_true rfl) (show VM l g RX5 cX5_readBlank 1 none 1 (vcV Q post) 0 [(0, vR 17 0)] [] (vjn P Q) from ?_)
  unfold F_X5_readBlank at h
  refine vr_aload_n 0 0 dX5_readBlank_0 rfl rfl ?_
  refine vr_aload_n 0 0 dX5_readBlank_1 rfl rfl ?_
  refine vg_17_6 RX5 rfl (by decide) fl_5_31 dX5_readBlank_2 ?_
  refine vr_callV RX5 (s_X5_byteAt h) rfl (by decide) rfl rfl rfl ml_5_74 rfl yh_X5_byteAt rfl ⟨Nat.le_of_ble_eq_true rfl, Nat.le_of_ble_eq_true rfl⟩ (Nat.le_of_ble_eq_true rfl) ⟨Nat.zero_le _, Nat.zero_le _⟩ dX5_readBlank_5 (ki fun r5 h => ?_)
  refine vr_bipush 32 dX5_readBlank_8 (by decide) ?_
  refine vr_icmpne 26 dX5_readBlank_10 (by decide) (fun c10 => ?_) (fun c10 => ?_)
  · have h := h.1 c10
    refine vr_aload_n 0 0 dX5_readBlank_13 rfl rfl ?_
    refine vr_dup dX5_readBlank_14 rfl ?_
    refine vg_17_6 RX5 rfl (by decide) fl_5_31 dX5_readBlank_15 ?_
    refine vr_iconst 1 dX5_readBlank_18 (by decide) ?_
    refine vr_iadd dX5_readBlank_19 ?_
    obtain ⟨P20, eP20⟩ : ∃ y : VP, y = vup P 17 0 6 ((P 17 0 6) + 1) := ⟨_, rfl⟩
    have h := h P20 eP20
    refine vp_17_6 RX5 rfl (by decide) fl_5_31 eP20 dX5_readBlank_20 ?_
    refine vr_goto 34 dX5_readBlank_23 (by decide) ?_
    exact vr_vret rfl ⟨_, rfl, rfl, h⟩ dX5_readBlank_34
  · have h := h.2 c10
    refine vr_aload_n 0 0 dX5_readBlank_26 rfl rfl ?_
    refine vr_aload_n 0 0 dX5_readBlank_27 rfl rfl ?_
    refine vg_17_6 RX5 rfl (by decide) fl_5_31 dX5_readBlank_28 ?_
    obtain ⟨P31, eP31⟩ : ∃ y : VP, y = vup P 17 0 7 (P 17 0 6) := ⟨_, rfl⟩
    have h := h P31 eP31
    refine vp_17_7 RX5 rfl (by decide) fl_5_34 eP31 dX5_readBlank_31 ?_
    exact vr_vret rfl ⟨_, rfl, rfl, h⟩ dX5_readBlank_34
theorem dX5_isLetter_0 : decode cX5_isLetter 0 = .ok (.iload_n 0, 1) := by decide +kernel
theorem dX5_isLetter_1 : decode cX5_isLetter 1 = .ok (.bipush 97, 2) := by decide +kernel
theorem dX5_isLetter_3 : decode cX5_isLetter 3 = .ok (.if_icmp .lt 13, 3) := by decide +kernel
theorem dX5_isLetter_6 : decode cX5_isLetter 6 = .ok (.iload_n 0, 1) := by decide +kernel
theorem dX5_isLetter_7 : decode cX5_isLetter 7 = .ok (.bipush 122, 2) := by decide +kernel
theorem dX5_isLetter_9 : decode cX5_isLetter 9 = .ok (.if_icmp .gt 7, 3) := by decide +kernel
theorem dX5_isLetter_12 : decode cX5_isLetter 12 = .ok (.iconst 1, 1) := by decide +kernel
theorem dX5_isLetter_13 : decode cX5_isLetter 13 = .ok (.goto 4, 3) := by decide +kernel
theorem dX5_isLetter_16 : decode cX5_isLetter 16 = .ok (.iconst 0, 1) := by decide +kernel
theorem dX5_isLetter_17 : decode cX5_isLetter 17 = .ok (.ireturn, 1) := by decide +kernel
def F_X5_isLetter (x0 : Int32) (P : VP) (post : Int32 → Prop) : Prop :=
  (x0 < 97 → post ((0 : Int32))) ∧ (¬ x0 < 97 → ((122 : Int32) < x0 → post ((0 : Int32))) ∧ (¬ (122 : Int32) < x0 → post ((1 : Int32))))
set_option maxRecDepth 4000 in
theorem s_X5_isLetter {l : Launch} {g : vG} {x0 : Int32} {P Q : VP} {post : Int32 → Prop}  (h : F_X5_isLetter x0 P post) : VC l g yX5_isLetter cX5_isLetter 1 (some .boolean) 0 [vI x0] (vjn P Q) (vpI (vjn P Q) post) := by
  refine VC.of (by decide +kernel) (Nat.le_of_ble_eq_true rfl) (show VM l g RX5 cX5_isLetter 1 (some .boolean) 0 (vpI (vjn P Q) post) 0 [(0, vI x0)] [] (vjn P Q) from ?_)
  unfold F_X5_isLetter at h
  refine vr_iload_n 0 0 dX5_isLetter_0 rfl rfl ?_
  refine vr_bipush 97 dX5_isLetter_1 (by decide) ?_
  refine vr_icmplt 16 dX5_isLetter_3 (by decide) (fun c3 => ?_) (fun c3 => ?_)
  · have h := h.1 c3
    refine vr_iconst 0 dX5_isLetter_16 (by decide) ?_
    exact vr_zret rfl (Or.inl rfl) ⟨rfl, _, rfl, h⟩ dX5_isLetter_17
  · have h := h.2 c3
    refine vr_iload_n 0 0 dX5_isLetter_6 rfl rfl ?_
    refine vr_bipush 122 dX5_isLetter_7 (by decide) ?_
    refine vr_icmpgt 16 dX5_isLetter_9 (by decide) (fun c9 => ?_) (fun c9 => ?_)
    · have h := h.1 c9
      refine vr_iconst 0 dX5_isLetter_16 (by decide) ?_
      exact vr_zret rfl (Or.inl rfl) ⟨rfl, _, rfl, h⟩ dX5_isLetter_17
    · have h := h.2 c9
      refine vr_iconst 1 dX5_isLetter_12 (by decide) ?_
      refine vr_goto 17 dX5_isLetter_13 (by decide) ?_
      exact vr_zret rfl (Or.inr rfl) ⟨rfl, _, rfl, h⟩ dX5_isLetter_17
theorem dX5_readName_0 : decode cX5_readName 0 = .ok (.aload_n 0, 1) := by decide +kernel
theorem dX5_readName_1 : decode cX5_readName 1 = .ok (.getfield 31, 3) := by decide +kernel
theorem dX5_readName_4 : decode cX5_readName 4 = .ok (.istore_n 1, 1) := by decide +kernel
theorem dX5_readName_5 : decode cX5_readName 5 = .ok (.aload_n 0, 1) := by decide +kernel
theorem dX5_readName_6 : decode cX5_readName 6 = .ok (.getfield 31, 3) := by decide +kernel
theorem dX5_readName_9 : decode cX5_readName 9 = .ok (.aload_n 0, 1) := by decide +kernel
theorem dX5_readName_10 : decode cX5_readName 10 = .ok (.getfield 24, 3) := by decide +kernel
theorem dX5_readName_13 : decode cX5_readName 13 = .ok (.if_icmp .ge 30, 3) := by decide +kernel
theorem dX5_readName_16 : decode cX5_readName 16 = .ok (.aload_n 0, 1) := by decide +kernel
theorem dX5_readName_17 : decode cX5_readName 17 = .ok (.aload_n 0, 1) := by decide +kernel
theorem dX5_readName_18 : decode cX5_readName 18 = .ok (.getfield 31, 3) := by decide +kernel
theorem dX5_readName_21 : decode cX5_readName 21 = .ok (.invokevirtual 74, 3) := by decide +kernel
theorem dX5_readName_24 : decode cX5_readName 24 = .ok (.invokestatic 78, 3) := by decide +kernel
theorem dX5_readName_27 : decode cX5_readName 27 = .ok (.ifCond .eq 16, 3) := by decide +kernel
theorem dX5_readName_30 : decode cX5_readName 30 = .ok (.aload_n 0, 1) := by decide +kernel
theorem dX5_readName_31 : decode cX5_readName 31 = .ok (.dup, 1) := by decide +kernel
theorem dX5_readName_32 : decode cX5_readName 32 = .ok (.getfield 31, 3) := by decide +kernel
theorem dX5_readName_35 : decode cX5_readName 35 = .ok (.iconst 1, 1) := by decide +kernel
theorem dX5_readName_36 : decode cX5_readName 36 = .ok (.iadd, 1) := by decide +kernel
theorem dX5_readName_37 : decode cX5_readName 37 = .ok (.putfield 31, 3) := by decide +kernel
theorem dX5_readName_40 : decode cX5_readName 40 = .ok (.goto (-35), 3) := by decide +kernel
theorem dX5_readName_43 : decode cX5_readName 43 = .ok (.aload_n 0, 1) := by decide +kernel
theorem dX5_readName_44 : decode cX5_readName 44 = .ok (.getfield 31, 3) := by decide +kernel
theorem dX5_readName_47 : decode cX5_readName 47 = .ok (.iload_n 1, 1) := by decide +kernel
theorem dX5_readName_48 : decode cX5_readName 48 = .ok (.isub, 1) := by decide +kernel
theorem dX5_readName_49 : decode cX5_readName 49 = .ok (.iconst 1, 1) := by decide +kernel
theorem dX5_readName_50 : decode cX5_readName 50 = .ok (.if_icmp .eq 8, 3) := by decide +kernel
theorem dX5_readName_53 : decode cX5_readName 53 = .ok (.aload_n 0, 1) := by decide +kernel
theorem dX5_readName_54 : decode cX5_readName 54 = .ok (.iload_n 1, 1) := by decide +kernel
theorem dX5_readName_55 : decode cX5_readName 55 = .ok (.putfield 34, 3) := by decide +kernel
theorem dX5_readName_58 : decode cX5_readName 58 = .ok (.aload_n 0, 1) := by decide +kernel
theorem dX5_readName_59 : decode cX5_readName 59 = .ok (.iload_n 1, 1) := by decide +kernel
theorem dX5_readName_60 : decode cX5_readName 60 = .ok (.invokevirtual 74, 3) := by decide +kernel
theorem dX5_readName_63 : decode cX5_readName 63 = .ok (.bipush 97, 2) := by decide +kernel
theorem dX5_readName_65 : decode cX5_readName 65 = .ok (.isub, 1) := by decide +kernel
theorem dX5_readName_66 : decode cX5_readName 66 = .ok (.ireturn, 1) := by decide +kernel
def F_X5_readName_b58  (P : VP) (post : Int32 → VP → Prop)  (v1 : Int32) : Prop :=
  F_X5_byteAt v1 P (fun r60 => post (r60 - 97) P)
set_option maxRecDepth 4000 in
theorem s_X5_readName_b58 {l : Launch} {g : vG}  {P Q : VP} {post : Int32 → VP → Prop}  {v1 : Int32}    (h : F_X5_readName_b58  P post  v1) : VM l g RX5 cX5_readName 2 (some .int) 1 (vcI Q post) 58 [(0, vR 17 0), (1, vI v1)] [] (vjn P Q) := by
  unfold F_X5_readName_b58 at h
  refine vr_aload_n 0 0 dX5_readName_58 rfl rfl ?_
  refine vr_iload_n 1 1 dX5_readName_59 rfl rfl ?_
  refine vr_callV RX5 (s_X5_byteAt h) rfl (by decide) rfl rfl rfl ml_5_74 rfl yh_X5_byteAt rfl ⟨Nat.le_of_ble_eq_true rfl, Nat.le_of_ble_eq_true rfl⟩ (Nat.le_of_ble_eq_true rfl) ⟨Nat.zero_le _, Nat.zero_le _⟩ dX5_readName_60 (ki fun r60 h => ?_)
  refine vr_bipush 97 dX5_readName_63 (by decide) ?_
  refine vr_isub dX5_readName_65 ?_
  exact vr_iret rfl ⟨_, _, rfl, rfl, h⟩ dX5_readName_66
def F_X5_readName_l5   (post : Int32 → VP → Prop)  (v1 : Int32) (X : VP → Prop)  (P : VP) : Prop :=
  (P 17 0 6 < P 17 0 1 → F_X5_byteAt (P 17 0 6) P (fun r21 => F_X5_isLetter r21 P (fun r24 => (r24 = 0 → ((P 17 0 6) - v1 = 1 → F_X5_readName_b58  P post  v1) ∧ (¬ (P 17 0 6) - v1 = 1 → ∀ P55 : VP, P55 = vup P 17 0 7 v1 → (F_X5_readName_b58  P55 post  v1))) ∧ (¬ r24 = 0 → ∀ P37 : VP, P37 = vup P 17 0 6 ((P 17 0 6) + 1) → (X  P37))))) ∧ (¬ P 17 0 6 < P 17 0 1 → ((P 17 0 6) - v1 = 1 → F_X5_readName_b58  P post  v1) ∧ (¬ (P 17 0 6) - v1 = 1 → ∀ P55 : VP, P55 = vup P 17 0 7 v1 → (F_X5_readName_b58  P55 post  v1)))
set_option maxRecDepth 4000 in
theorem s_X5_readName_l5 {l : Launch} {g : vG}  {Q : VP} {post : Int32 → VP → Prop}  {v1 : Int32}   {P : VP}   (h : vL1 (F_X5_readName_l5   post  v1)  P) : VM l g RX5 cX5_readName 2 (some .int) 1 (vcI Q post) 5 [(0, vR 17 0), (1, vI v1)] [] (vjn P Q) := by
  refine vL1_s (T := fun  P => VM l g RX5 cX5_readName 2 (some .int) 1 (vcI Q post) 5 [(0, vR 17 0), (1, vI v1)] [] (vjn P Q)) ?_ h
  clear h
  intro X hX  P h
  unfold F_X5_readName_l5 at h
  refine vr_aload_n 0 0 dX5_readName_5 rfl rfl ?_
  refine vg_17_6 RX5 rfl (by decide) fl_5_31 dX5_readName_6 ?_
  refine vr_aload_n 0 0 dX5_readName_9 rfl rfl ?_
  refine vg_17_1 RX5 rfl (by decide) fl_5_24 dX5_readName_10 ?_
  refine vr_icmpge 43 dX5_readName_13 (by decide) (fun c13 => ?_) (fun c13 => ?_)
  · have h := h.1 c13
    refine vr_aload_n 0 0 dX5_readName_16 rfl rfl ?_
    refine vr_aload_n 0 0 dX5_readName_17 rfl rfl ?_
    refine vg_17_6 RX5 rfl (by decide) fl_5_31 dX5_readName_18 ?_
    refine vr_callV RX5 (s_X5_byteAt h) rfl (by decide) rfl rfl rfl ml_5_74 rfl yh_X5_byteAt rfl ⟨Nat.le_of_ble_eq_true rfl, Nat.le_of_ble_eq_true rfl⟩ (Nat.le_of_ble_eq_true rfl) ⟨Nat.zero_le _, Nat.zero_le _⟩ dX5_readName_21 (ki fun r21 h => ?_)
    refine vr_callS RX5 (s_X5_isLetter h) rfl rfl ml_5_78 rfl yh_X5_isLetter rfl ⟨Nat.le_of_ble_eq_true rfl, Nat.le_of_ble_eq_true rfl⟩ (Nat.le_of_ble_eq_true rfl) ⟨Nat.zero_le _, Nat.zero_le _⟩ dX5_readName_24 (ki fun r24 h => ?_)
    refine vr_ifeq 43 dX5_readName_27 (by decide) (fun c27 => ?_) (fun c27 => ?_)
    · have h := h.1 c27
      refine vr_aload_n 0 0 dX5_readName_43 rfl rfl ?_
      refine vg_17_6 RX5 rfl (by decide) fl_5_31 dX5_readName_44 ?_
      refine vr_iload_n 1 1 dX5_readName_47 rfl rfl ?_
      refine vr_isub dX5_readName_48 ?_
      refine vr_iconst 1 dX5_readName_49 (by decide) ?_
      refine vr_icmpeq 58 dX5_readName_50 (by decide) (fun c50 => ?_) (fun c50 => ?_)
      · have h := h.1 c50
        exact s_X5_readName_b58   h
      · have h := h.2 c50
        refine vr_aload_n 0 0 dX5_readName_53 rfl rfl ?_
        refine vr_iload_n 1 1 dX5_readName_54 rfl rfl ?_
        obtain ⟨P55, eP55⟩ : ∃ y : VP, y = vup P 17 0 7 v1 := ⟨_, rfl⟩
        have h := h P55 eP55
        refine vp_17_7 RX5 rfl (by decide) fl_5_34 eP55 dX5_readName_55 ?_
        exact s_X5_readName_b58   h
    · have h := h.2 c27
      refine vr_aload_n 0 0 dX5_readName_30 rfl rfl ?_
      refine vr_dup dX5_readName_31 rfl ?_
      refine vg_17_6 RX5 rfl (by decide) fl_5_31 dX5_readName_32 ?_
      refine vr_iconst 1 dX5_readName_35 (by decide) ?_
      refine vr_iadd dX5_readName_36 ?_
      obtain ⟨P37, eP37⟩ : ∃ y : VP, y = vup P 17 0 6 ((P 17 0 6) + 1) := ⟨_, rfl⟩
      have h := h P37 eP37
      refine vp_17_6 RX5 rfl (by decide) fl_5_31 eP37 dX5_readName_37 ?_
      refine vr_goto 5 dX5_readName_40 (by decide) ?_
      exact hX _ h
  · have h := h.2 c13
    refine vr_aload_n 0 0 dX5_readName_43 rfl rfl ?_
    refine vg_17_6 RX5 rfl (by decide) fl_5_31 dX5_readName_44 ?_
    refine vr_iload_n 1 1 dX5_readName_47 rfl rfl ?_
    refine vr_isub dX5_readName_48 ?_
    refine vr_iconst 1 dX5_readName_49 (by decide) ?_
    refine vr_icmpeq 58 dX5_readName_50 (by decide) (fun c50 => ?_) (fun c50 => ?_)
    · have h := h.1 c50
      exact s_X5_readName_b58   h
    · have h := h.2 c50
      refine vr_aload_n 0 0 dX5_readName_53 rfl rfl ?_
      refine vr_iload_n 1 1 dX5_readName_54 rfl rfl ?_
      obtain ⟨P55, eP55⟩ : ∃ y : VP, y = vup P 17 0 7 v1 := ⟨_, rfl⟩
      have h := h P55 eP55
      refine vp_17_7 RX5 rfl (by decide) fl_5_34 eP55 dX5_readName_55 ?_
      exact s_X5_readName_b58   h
def F_X5_readName  (P : VP) (post : Int32 → VP → Prop) : Prop :=
  vL1 (F_X5_readName_l5   post  (P 17 0 6))  P
set_option maxRecDepth 4000 in
theorem s_X5_readName {l : Launch} {g : vG}  {P Q : VP} {post : Int32 → VP → Prop}  (h : F_X5_readName  P post) : VC l g yX5_readName cX5_readName 2 (some .int) 1 [vR 17 0] (vjn P Q) (vcI Q post) := by
  refine VC.of (by decide +kernel) (Nat.le_of_ble_eq_true rfl) (show VM l g RX5 cX5_readName 2 (some .int) 1 (vcI Q post) 0 [(0, vR 17 0)] [] (vjn P Q) from ?_)
  unfold F_X5_readName at h
  refine vr_aload_n 0 0 dX5_readName_0 rfl rfl ?_
  refine vg_17_6 RX5 rfl (by decide) fl_5_31 dX5_readName_1 ?_
  refine vr_istore_n 1 [(1, vI (P 17 0 6)), (0, vR 17 0)] dX5_readName_4 rfl (by decide) rfl ?_
  refine vr_sub [1, 0] [(0, vR 17 0), (1, vI (P 17 0 6))] rfl ?_
  exact s_X5_readName_l5   h
theorem dX5_isDigit_0 : decode cX5_isDigit 0 = .ok (.iload_n 0, 1) := by decide +kernel
theorem dX5_isDigit_1 : decode cX5_isDigit 1 = .ok (.bipush 48, 2) := by decide +kernel
theorem dX5_isDigit_3 : decode cX5_isDigit 3 = .ok (.if_icmp .lt 13, 3) := by decide +kernel
theorem dX5_isDigit_6 : decode cX5_isDigit 6 = .ok (.iload_n 0, 1) := by decide +kernel
theorem dX5_isDigit_7 : decode cX5_isDigit 7 = .ok (.bipush 57, 2) := by decide +kernel
theorem dX5_isDigit_9 : decode cX5_isDigit 9 = .ok (.if_icmp .gt 7, 3) := by decide +kernel
theorem dX5_isDigit_12 : decode cX5_isDigit 12 = .ok (.iconst 1, 1) := by decide +kernel
theorem dX5_isDigit_13 : decode cX5_isDigit 13 = .ok (.goto 4, 3) := by decide +kernel
theorem dX5_isDigit_16 : decode cX5_isDigit 16 = .ok (.iconst 0, 1) := by decide +kernel
theorem dX5_isDigit_17 : decode cX5_isDigit 17 = .ok (.ireturn, 1) := by decide +kernel
def F_X5_isDigit (x0 : Int32) (P : VP) (post : Int32 → Prop) : Prop :=
  (x0 < 48 → post ((0 : Int32))) ∧ (¬ x0 < 48 → ((57 : Int32) < x0 → post ((0 : Int32))) ∧ (¬ (57 : Int32) < x0 → post ((1 : Int32))))
set_option maxRecDepth 4000 in
theorem s_X5_isDigit {l : Launch} {g : vG} {x0 : Int32} {P Q : VP} {post : Int32 → Prop}  (h : F_X5_isDigit x0 P post) : VC l g yX5_isDigit cX5_isDigit 1 (some .boolean) 0 [vI x0] (vjn P Q) (vpI (vjn P Q) post) := by
  refine VC.of (by decide +kernel) (Nat.le_of_ble_eq_true rfl) (show VM l g RX5 cX5_isDigit 1 (some .boolean) 0 (vpI (vjn P Q) post) 0 [(0, vI x0)] [] (vjn P Q) from ?_)
  unfold F_X5_isDigit at h
  refine vr_iload_n 0 0 dX5_isDigit_0 rfl rfl ?_
  refine vr_bipush 48 dX5_isDigit_1 (by decide) ?_
  refine vr_icmplt 16 dX5_isDigit_3 (by decide) (fun c3 => ?_) (fun c3 => ?_)
  · have h := h.1 c3
    refine vr_iconst 0 dX5_isDigit_16 (by decide) ?_
    exact vr_zret rfl (Or.inl rfl) ⟨rfl, _, rfl, h⟩ dX5_isDigit_17
  · have h := h.2 c3
    refine vr_iload_n 0 0 dX5_isDigit_6 rfl rfl ?_
    refine vr_bipush 57 dX5_isDigit_7 (by decide) ?_
    refine vr_icmpgt 16 dX5_isDigit_9 (by decide) (fun c9 => ?_) (fun c9 => ?_)
    · have h := h.1 c9
      refine vr_iconst 0 dX5_isDigit_16 (by decide) ?_
      exact vr_zret rfl (Or.inl rfl) ⟨rfl, _, rfl, h⟩ dX5_isDigit_17
    · have h := h.2 c9
      refine vr_iconst 1 dX5_isDigit_12 (by decide) ?_
      refine vr_goto 17 dX5_isDigit_13 (by decide) ?_
      exact vr_zret rfl (Or.inr rfl) ⟨rfl, _, rfl, h⟩ dX5_isDigit_17
theorem dX5_readNumber_0 : decode cX5_readNumber 0 = .ok (.aload_n 0, 1) := by decide +kernel
theorem dX5_readNumber_1 : decode cX5_readNumber 1 = .ok (.getfield 31, 3) := by decide +kernel
theorem dX5_readNumber_4 : decode cX5_readNumber 4 = .ok (.istore_n 3, 1) := by decide +kernel
theorem dX5_readNumber_5 : decode cX5_readNumber 5 = .ok (.iconst 0, 1) := by decide +kernel
theorem dX5_readNumber_6 : decode cX5_readNumber 6 = .ok (.istore 4, 2) := by decide +kernel
theorem dX5_readNumber_8 : decode cX5_readNumber 8 = .ok (.aload_n 0, 1) := by decide +kernel
theorem dX5_readNumber_9 : decode cX5_readNumber 9 = .ok (.getfield 31, 3) := by decide +kernel
theorem dX5_readNumber_12 : decode cX5_readNumber 12 = .ok (.aload_n 0, 1) := by decide +kernel
theorem dX5_readNumber_13 : decode cX5_readNumber 13 = .ok (.getfield 24, 3) := by decide +kernel
theorem dX5_readNumber_16 : decode cX5_readNumber 16 = .ok (.if_icmp .ge 64, 3) := by decide +kernel
theorem dX5_readNumber_19 : decode cX5_readNumber 19 = .ok (.aload_n 0, 1) := by decide +kernel
theorem dX5_readNumber_20 : decode cX5_readNumber 20 = .ok (.aload_n 0, 1) := by decide +kernel
theorem dX5_readNumber_21 : decode cX5_readNumber 21 = .ok (.getfield 31, 3) := by decide +kernel
theorem dX5_readNumber_24 : decode cX5_readNumber 24 = .ok (.invokevirtual 74, 3) := by decide +kernel
theorem dX5_readNumber_27 : decode cX5_readNumber 27 = .ok (.invokestatic 99, 3) := by decide +kernel
theorem dX5_readNumber_30 : decode cX5_readNumber 30 = .ok (.ifCond .eq 50, 3) := by decide +kernel
theorem dX5_readNumber_33 : decode cX5_readNumber 33 = .ok (.aload_n 0, 1) := by decide +kernel
theorem dX5_readNumber_34 : decode cX5_readNumber 34 = .ok (.getfield 31, 3) := by decide +kernel
theorem dX5_readNumber_37 : decode cX5_readNumber 37 = .ok (.iload_n 3, 1) := by decide +kernel
theorem dX5_readNumber_38 : decode cX5_readNumber 38 = .ok (.isub, 1) := by decide +kernel
theorem dX5_readNumber_39 : decode cX5_readNumber 39 = .ok (.iload_n 1, 1) := by decide +kernel
theorem dX5_readNumber_40 : decode cX5_readNumber 40 = .ok (.if_icmp .ge 23, 3) := by decide +kernel
theorem dX5_readNumber_43 : decode cX5_readNumber 43 = .ok (.bipush 10, 2) := by decide +kernel
theorem dX5_readNumber_45 : decode cX5_readNumber 45 = .ok (.iload 4, 2) := by decide +kernel
theorem dX5_readNumber_47 : decode cX5_readNumber 47 = .ok (.imul, 1) := by decide +kernel
theorem dX5_readNumber_48 : decode cX5_readNumber 48 = .ok (.aload_n 0, 1) := by decide +kernel
theorem dX5_readNumber_49 : decode cX5_readNumber 49 = .ok (.aload_n 0, 1) := by decide +kernel
theorem dX5_readNumber_50 : decode cX5_readNumber 50 = .ok (.getfield 31, 3) := by decide +kernel
theorem dX5_readNumber_53 : decode cX5_readNumber 53 = .ok (.invokevirtual 74, 3) := by decide +kernel
theorem dX5_readNumber_56 : decode cX5_readNumber 56 = .ok (.iadd, 1) := by decide +kernel
theorem dX5_readNumber_57 : decode cX5_readNumber 57 = .ok (.bipush 48, 2) := by decide +kernel
theorem dX5_readNumber_59 : decode cX5_readNumber 59 = .ok (.isub, 1) := by decide +kernel
theorem dX5_readNumber_60 : decode cX5_readNumber 60 = .ok (.goto 5, 3) := by decide +kernel
theorem dX5_readNumber_63 : decode cX5_readNumber 63 = .ok (.iload 4, 2) := by decide +kernel
theorem dX5_readNumber_65 : decode cX5_readNumber 65 = .ok (.istore 4, 2) := by decide +kernel
theorem dX5_readNumber_67 : decode cX5_readNumber 67 = .ok (.aload_n 0, 1) := by decide +kernel
theorem dX5_readNumber_68 : decode cX5_readNumber 68 = .ok (.dup, 1) := by decide +kernel
theorem dX5_readNumber_69 : decode cX5_readNumber 69 = .ok (.getfield 31, 3) := by decide +kernel
theorem dX5_readNumber_72 : decode cX5_readNumber 72 = .ok (.iconst 1, 1) := by decide +kernel
theorem dX5_readNumber_73 : decode cX5_readNumber 73 = .ok (.iadd, 1) := by decide +kernel
theorem dX5_readNumber_74 : decode cX5_readNumber 74 = .ok (.putfield 31, 3) := by decide +kernel
theorem dX5_readNumber_77 : decode cX5_readNumber 77 = .ok (.goto (-69), 3) := by decide +kernel
theorem dX5_readNumber_80 : decode cX5_readNumber 80 = .ok (.aload_n 0, 1) := by decide +kernel
theorem dX5_readNumber_81 : decode cX5_readNumber 81 = .ok (.getfield 31, 3) := by decide +kernel
theorem dX5_readNumber_84 : decode cX5_readNumber 84 = .ok (.iload_n 3, 1) := by decide +kernel
theorem dX5_readNumber_85 : decode cX5_readNumber 85 = .ok (.if_icmp .eq 19, 3) := by decide +kernel
theorem dX5_readNumber_88 : decode cX5_readNumber 88 = .ok (.aload_n 0, 1) := by decide +kernel
theorem dX5_readNumber_89 : decode cX5_readNumber 89 = .ok (.getfield 31, 3) := by decide +kernel
theorem dX5_readNumber_92 : decode cX5_readNumber 92 = .ok (.iload_n 3, 1) := by decide +kernel
theorem dX5_readNumber_93 : decode cX5_readNumber 93 = .ok (.isub, 1) := by decide +kernel
theorem dX5_readNumber_94 : decode cX5_readNumber 94 = .ok (.iload_n 1, 1) := by decide +kernel
theorem dX5_readNumber_95 : decode cX5_readNumber 95 = .ok (.if_icmp .gt 9, 3) := by decide +kernel
theorem dX5_readNumber_98 : decode cX5_readNumber 98 = .ok (.iload 4, 2) := by decide +kernel
theorem dX5_readNumber_100 : decode cX5_readNumber 100 = .ok (.iload_n 2, 1) := by decide +kernel
theorem dX5_readNumber_101 : decode cX5_readNumber 101 = .ok (.if_icmp .le 8, 3) := by decide +kernel
theorem dX5_readNumber_104 : decode cX5_readNumber 104 = .ok (.aload_n 0, 1) := by decide +kernel
theorem dX5_readNumber_105 : decode cX5_readNumber 105 = .ok (.iload_n 3, 1) := by decide +kernel
theorem dX5_readNumber_106 : decode cX5_readNumber 106 = .ok (.putfield 34, 3) := by decide +kernel
theorem dX5_readNumber_109 : decode cX5_readNumber 109 = .ok (.iload 4, 2) := by decide +kernel
theorem dX5_readNumber_111 : decode cX5_readNumber 111 = .ok (.ireturn, 1) := by decide +kernel
def F_X5_readNumber_b80 (x1 : Int32) (x2 : Int32) (P : VP) (post : Int32 → VP → Prop)  (v3 : Int32) (v4 : Int32) : Prop :=
  (P 17 0 6 = v3 → ∀ P106 : VP, P106 = vup P 17 0 7 v3 → (post v4 P106)) ∧ (¬ P 17 0 6 = v3 → (x1 < (P 17 0 6) - v3 → ∀ P106 : VP, P106 = vup P 17 0 7 v3 → (post v4 P106)) ∧ (¬ x1 < (P 17 0 6) - v3 → (x2 < v4 → ∀ P106 : VP, P106 = vup P 17 0 7 v3 → (post v4 P106)) ∧ (¬ x2 < v4 → post v4 P)))
set_option maxRecDepth 4000 in
theorem s_X5_readNumber_b80 {l : Launch} {g : vG} {x1 : Int32} {x2 : Int32} {P Q : VP} {post : Int32 → VP → Prop}  {v3 : Int32} {v4 : Int32}    (h : F_X5_readNumber_b80 x1 x2 P post  v3 v4) : VM l g RX5 cX5_readNumber 5 (some .int) 1 (vcI Q post) 80 [(0, vR 17 0), (1, vI x1), (2, vI x2), (3, vI v3), (4, vI v4)] [] (vjn P Q) := by
  unfold F_X5_readNumber_b80 at h
  refine vr_aload_n 0 0 dX5_readNumber_80 rfl rfl ?_
  refine vg_17_6 RX5 rfl (by decide) fl_5_31 dX5_readNumber_81 ?_
  refine vr_iload_n 3 3 dX5_readNumber_84 rfl rfl ?_
  refine vr_icmpeq 104 dX5_readNumber_85 (by decide) (fun c85 => ?_) (fun c85 => ?_)
  · have h := h.1 c85
    refine vr_aload_n 0 0 dX5_readNumber_104 rfl rfl ?_
    refine vr_iload_n 3 3 dX5_readNumber_105 rfl rfl ?_
    obtain ⟨P106, eP106⟩ : ∃ y : VP, y = vup P 17 0 7 v3 := ⟨_, rfl⟩
    have h := h P106 eP106
    refine vp_17_7 RX5 rfl (by decide) fl_5_34 eP106 dX5_readNumber_106 ?_
    refine vr_iload 4 dX5_readNumber_109 rfl ?_
    exact vr_iret rfl ⟨_, _, rfl, rfl, h⟩ dX5_readNumber_111
  · have h := h.2 c85
    refine vr_aload_n 0 0 dX5_readNumber_88 rfl rfl ?_
    refine vg_17_6 RX5 rfl (by decide) fl_5_31 dX5_readNumber_89 ?_
    refine vr_iload_n 3 3 dX5_readNumber_92 rfl rfl ?_
    refine vr_isub dX5_readNumber_93 ?_
    refine vr_iload_n 1 1 dX5_readNumber_94 rfl rfl ?_
    refine vr_icmpgt 104 dX5_readNumber_95 (by decide) (fun c95 => ?_) (fun c95 => ?_)
    · have h := h.1 c95
      refine vr_aload_n 0 0 dX5_readNumber_104 rfl rfl ?_
      refine vr_iload_n 3 3 dX5_readNumber_105 rfl rfl ?_
      obtain ⟨P106, eP106⟩ : ∃ y : VP, y = vup P 17 0 7 v3 := ⟨_, rfl⟩
      have h := h P106 eP106
      refine vp_17_7 RX5 rfl (by decide) fl_5_34 eP106 dX5_readNumber_106 ?_
      refine vr_iload 4 dX5_readNumber_109 rfl ?_
      exact vr_iret rfl ⟨_, _, rfl, rfl, h⟩ dX5_readNumber_111
    · have h := h.2 c95
      refine vr_iload 4 dX5_readNumber_98 rfl ?_
      refine vr_iload_n 2 2 dX5_readNumber_100 rfl rfl ?_
      refine vr_icmple 109 dX5_readNumber_101 (by decide) (fun c101 => ?_) (fun c101 => ?_)
      · have h := h.1 c101
        refine vr_aload_n 0 0 dX5_readNumber_104 rfl rfl ?_
        refine vr_iload_n 3 3 dX5_readNumber_105 rfl rfl ?_
        obtain ⟨P106, eP106⟩ : ∃ y : VP, y = vup P 17 0 7 v3 := ⟨_, rfl⟩
        have h := h P106 eP106
        refine vp_17_7 RX5 rfl (by decide) fl_5_34 eP106 dX5_readNumber_106 ?_
        refine vr_iload 4 dX5_readNumber_109 rfl ?_
        exact vr_iret rfl ⟨_, _, rfl, rfl, h⟩ dX5_readNumber_111
      · have h := h.2 c101
        refine vr_iload 4 dX5_readNumber_109 rfl ?_
        exact vr_iret rfl ⟨_, _, rfl, rfl, h⟩ dX5_readNumber_111
def F_X5_readNumber_l8 (x1 : Int32) (x2 : Int32)  (post : Int32 → VP → Prop)  (v3 : Int32) (X : Int32 → VP → Prop) (v4 : Int32) (P : VP) : Prop :=
  (P 17 0 6 < P 17 0 1 → F_X5_byteAt (P 17 0 6) P (fun r24 => F_X5_isDigit r24 P (fun r27 => (r27 = 0 → F_X5_readNumber_b80 x1 x2 P post  v3 v4) ∧ (¬ r27 = 0 → ((P 17 0 6) - v3 < x1 → F_X5_byteAt (P 17 0 6) P (fun r53 => ∀ P74 : VP, P74 = vup P 17 0 6 ((P 17 0 6) + 1) → (X (((10 * v4) + r53) - 48) P74))) ∧ (¬ (P 17 0 6) - v3 < x1 → ∀ P74 : VP, P74 = vup P 17 0 6 ((P 17 0 6) + 1) → (X v4 P74)))))) ∧ (¬ P 17 0 6 < P 17 0 1 → F_X5_readNumber_b80 x1 x2 P post  v3 v4)
set_option maxRecDepth 4000 in
theorem s_X5_readNumber_l8 {l : Launch} {g : vG} {x1 : Int32} {x2 : Int32} {Q : VP} {post : Int32 → VP → Prop}  {v3 : Int32}  {v4 : Int32} {P : VP}   (h : vL2 (F_X5_readNumber_l8 x1 x2  post  v3) v4 P) : VM l g RX5 cX5_readNumber 5 (some .int) 1 (vcI Q post) 8 [(0, vR 17 0), (1, vI x1), (2, vI x2), (3, vI v3), (4, vI v4)] [] (vjn P Q) := by
  refine vL2_s (T := fun v4 P => VM l g RX5 cX5_readNumber 5 (some .int) 1 (vcI Q post) 8 [(0, vR 17 0), (1, vI x1), (2, vI x2), (3, vI v3), (4, vI v4)] [] (vjn P Q)) ?_ h
  clear h
  intro X hX v4 P h
  unfold F_X5_readNumber_l8 at h
  refine vr_aload_n 0 0 dX5_readNumber_8 rfl rfl ?_
  refine vg_17_6 RX5 rfl (by decide) fl_5_31 dX5_readNumber_9 ?_
  refine vr_aload_n 0 0 dX5_readNumber_12 rfl rfl ?_
  refine vg_17_1 RX5 rfl (by decide) fl_5_24 dX5_readNumber_13 ?_
  refine vr_icmpge 80 dX5_readNumber_16 (by decide) (fun c16 => ?_) (fun c16 => ?_)
  · have h := h.1 c16
    refine vr_aload_n 0 0 dX5_readNumber_19 rfl rfl ?_
    refine vr_aload_n 0 0 dX5_readNumber_20 rfl rfl ?_
    refine vg_17_6 RX5 rfl (by decide) fl_5_31 dX5_readNumber_21 ?_
    refine vr_callV RX5 (s_X5_byteAt h) rfl (by decide) rfl rfl rfl ml_5_74 rfl yh_X5_byteAt rfl ⟨Nat.le_of_ble_eq_true rfl, Nat.le_of_ble_eq_true rfl⟩ (Nat.le_of_ble_eq_true rfl) ⟨Nat.zero_le _, Nat.zero_le _⟩ dX5_readNumber_24 (ki fun r24 h => ?_)
    refine vr_callS RX5 (s_X5_isDigit h) rfl rfl ml_5_99 rfl yh_X5_isDigit rfl ⟨Nat.le_of_ble_eq_true rfl, Nat.le_of_ble_eq_true rfl⟩ (Nat.le_of_ble_eq_true rfl) ⟨Nat.zero_le _, Nat.zero_le _⟩ dX5_readNumber_27 (ki fun r27 h => ?_)
    refine vr_ifeq 80 dX5_readNumber_30 (by decide) (fun c30 => ?_) (fun c30 => ?_)
    · have h := h.1 c30
      exact s_X5_readNumber_b80   h
    · have h := h.2 c30
      refine vr_aload_n 0 0 dX5_readNumber_33 rfl rfl ?_
      refine vg_17_6 RX5 rfl (by decide) fl_5_31 dX5_readNumber_34 ?_
      refine vr_iload_n 3 3 dX5_readNumber_37 rfl rfl ?_
      refine vr_isub dX5_readNumber_38 ?_
      refine vr_iload_n 1 1 dX5_readNumber_39 rfl rfl ?_
      refine vr_icmpge 63 dX5_readNumber_40 (by decide) (fun c40 => ?_) (fun c40 => ?_)
      · have h := h.1 c40
        refine vr_bipush 10 dX5_readNumber_43 (by decide) ?_
        refine vr_iload 4 dX5_readNumber_45 rfl ?_
        refine vr_imul dX5_readNumber_47 ?_
        refine vr_aload_n 0 0 dX5_readNumber_48 rfl rfl ?_
        refine vr_aload_n 0 0 dX5_readNumber_49 rfl rfl ?_
        refine vg_17_6 RX5 rfl (by decide) fl_5_31 dX5_readNumber_50 ?_
        refine vr_callV RX5 (s_X5_byteAt h) rfl (by decide) rfl rfl rfl ml_5_74 rfl yh_X5_byteAt rfl ⟨Nat.le_of_ble_eq_true rfl, Nat.le_of_ble_eq_true rfl⟩ (Nat.le_of_ble_eq_true rfl) ⟨Nat.zero_le _, Nat.zero_le _⟩ dX5_readNumber_53 (ki fun r53 h => ?_)
        refine vr_iadd dX5_readNumber_56 ?_
        refine vr_bipush 48 dX5_readNumber_57 (by decide) ?_
        refine vr_isub dX5_readNumber_59 ?_
        refine vr_goto 65 dX5_readNumber_60 (by decide) ?_
        refine vr_istore [(4, vI (((10 * v4) + r53) - 48)), (0, vR 17 0), (1, vI x1), (2, vI x2), (3, vI v3)] dX5_readNumber_65 (by decide) rfl ?_
        refine vr_aload_n 0 1 dX5_readNumber_67 rfl rfl ?_
        refine vr_dup dX5_readNumber_68 rfl ?_
        refine vg_17_6 RX5 rfl (by decide) fl_5_31 dX5_readNumber_69 ?_
        refine vr_iconst 1 dX5_readNumber_72 (by decide) ?_
        refine vr_iadd dX5_readNumber_73 ?_
        obtain ⟨P74, eP74⟩ : ∃ y : VP, y = vup P 17 0 6 ((P 17 0 6) + 1) := ⟨_, rfl⟩
        have h := h P74 eP74
        refine vp_17_6 RX5 rfl (by decide) fl_5_31 eP74 dX5_readNumber_74 ?_
        refine vr_goto 8 dX5_readNumber_77 (by decide) ?_
        refine vr_sub [1, 2, 3, 4, 0] [(0, vR 17 0), (1, vI x1), (2, vI x2), (3, vI v3), (4, vI (((10 * v4) + r53) - 48))] rfl ?_
        exact hX _ _ h
      · have h := h.2 c40
        refine vr_iload 4 dX5_readNumber_63 rfl ?_
        refine vr_istore [(4, vI v4), (0, vR 17 0), (1, vI x1), (2, vI x2), (3, vI v3)] dX5_readNumber_65 (by decide) rfl ?_
        refine vr_aload_n 0 1 dX5_readNumber_67 rfl rfl ?_
        refine vr_dup dX5_readNumber_68 rfl ?_
        refine vg_17_6 RX5 rfl (by decide) fl_5_31 dX5_readNumber_69 ?_
        refine vr_iconst 1 dX5_readNumber_72 (by decide) ?_
        refine vr_iadd dX5_readNumber_73 ?_
        obtain ⟨P74, eP74⟩ : ∃ y : VP, y = vup P 17 0 6 ((P 17 0 6) + 1) := ⟨_, rfl⟩
        have h := h P74 eP74
        refine vp_17_6 RX5 rfl (by decide) fl_5_31 eP74 dX5_readNumber_74 ?_
        refine vr_goto 8 dX5_readNumber_77 (by decide) ?_
        refine vr_sub [1, 2, 3, 4, 0] [(0, vR 17 0), (1, vI x1), (2, vI x2), (3, vI v3), (4, vI v4)] rfl ?_
        exact hX _ _ h
  · have h := h.2 c16
    exact s_X5_readNumber_b80   h
def F_X5_readNumber (x1 : Int32) (x2 : Int32) (P : VP) (post : Int32 → VP → Prop) : Prop :=
  vL2 (F_X5_readNumber_l8 x1 x2  post  (P 17 0 6)) ((0 : Int32)) P
set_option maxRecDepth 4000 in
theorem s_X5_readNumber {l : Launch} {g : vG} {x1 : Int32} {x2 : Int32} {P Q : VP} {post : Int32 → VP → Prop}  (h : F_X5_readNumber x1 x2 P post) : VC l g yX5_readNumber cX5_readNumber 5 (some .int) 1 [vR 17 0, vI x1, vI x2] (vjn P Q) (vcI Q post) := by
  refine VC.of (by decide +kernel) (Nat.le_of_ble_eq_true rfl) (show VM l g RX5 cX5_readNumber 5 (some .int) 1 (vcI Q post) 0 [(0, vR 17 0), (1, vI x1), (2, vI x2)] [] (vjn P Q) from ?_)
  unfold F_X5_readNumber at h
  refine vr_aload_n 0 0 dX5_readNumber_0 rfl rfl ?_
  refine vg_17_6 RX5 rfl (by decide) fl_5_31 dX5_readNumber_1 ?_
  refine vr_istore_n 3 [(3, vI (P 17 0 6)), (0, vR 17 0), (1, vI x1), (2, vI x2)] dX5_readNumber_4 rfl (by decide) rfl ?_
  refine vr_iconst 0 dX5_readNumber_5 (by decide) ?_
  refine vr_istore [(4, vI 0), (3, vI (P 17 0 6)), (0, vR 17 0), (1, vI x1), (2, vI x2)] dX5_readNumber_6 (by decide) rfl ?_
  refine vr_sub [2, 3, 4, 1, 0] [(0, vR 17 0), (1, vI x1), (2, vI x2), (3, vI (P 17 0 6)), (4, vI 0)] rfl ?_
  exact s_X5_readNumber_l8   h
