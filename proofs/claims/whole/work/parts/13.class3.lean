/-! X5_readSigned, X5_readPart, X5_isSpelled, X5_spellingOf, X5_readWord, X5_tell, X5_tellWord, X5_readLine, X5_read, X6_hasDirectory, X6_aboveOf, X6_quotaOf, X6_addQuota, X6_makeDirectory, X6_addRule, X6_leastFree, X6_makeSegment, X6_cellFrom, X7_recordsOf, X6_usedOf, X6_hasRoom -/
theorem dX5_readSigned_0 : decode cX5_readSigned 0 = .ok (.aload_n 0, 1) := by decide +kernel
theorem dX5_readSigned_1 : decode cX5_readSigned 1 = .ok (.aload_n 0, 1) := by decide +kernel
theorem dX5_readSigned_2 : decode cX5_readSigned 2 = .ok (.getfield 31, 3) := by decide +kernel
theorem dX5_readSigned_5 : decode cX5_readSigned 5 = .ok (.invokevirtual 74, 3) := by decide +kernel
theorem dX5_readSigned_8 : decode cX5_readSigned 8 = .ok (.bipush 45, 2) := by decide +kernel
theorem dX5_readSigned_10 : decode cX5_readSigned 10 = .ok (.if_icmp .eq 12, 3) := by decide +kernel
theorem dX5_readSigned_13 : decode cX5_readSigned 13 = .ok (.aload_n 0, 1) := by decide +kernel
theorem dX5_readSigned_14 : decode cX5_readSigned 14 = .ok (.iconst 4, 1) := by decide +kernel
theorem dX5_readSigned_15 : decode cX5_readSigned 15 = .ok (.sipush 9999, 3) := by decide +kernel
theorem dX5_readSigned_18 : decode cX5_readSigned 18 = .ok (.invokevirtual 92, 3) := by decide +kernel
theorem dX5_readSigned_21 : decode cX5_readSigned 21 = .ok (.ireturn, 1) := by decide +kernel
theorem dX5_readSigned_22 : decode cX5_readSigned 22 = .ok (.aload_n 0, 1) := by decide +kernel
theorem dX5_readSigned_23 : decode cX5_readSigned 23 = .ok (.dup, 1) := by decide +kernel
theorem dX5_readSigned_24 : decode cX5_readSigned 24 = .ok (.getfield 31, 3) := by decide +kernel
theorem dX5_readSigned_27 : decode cX5_readSigned 27 = .ok (.iconst 1, 1) := by decide +kernel
theorem dX5_readSigned_28 : decode cX5_readSigned 28 = .ok (.iadd, 1) := by decide +kernel
theorem dX5_readSigned_29 : decode cX5_readSigned 29 = .ok (.putfield 31, 3) := by decide +kernel
theorem dX5_readSigned_32 : decode cX5_readSigned 32 = .ok (.aload_n 0, 1) := by decide +kernel
theorem dX5_readSigned_33 : decode cX5_readSigned 33 = .ok (.iconst 4, 1) := by decide +kernel
theorem dX5_readSigned_34 : decode cX5_readSigned 34 = .ok (.sipush 9999, 3) := by decide +kernel
theorem dX5_readSigned_37 : decode cX5_readSigned 37 = .ok (.invokevirtual 92, 3) := by decide +kernel
theorem dX5_readSigned_40 : decode cX5_readSigned 40 = .ok (.ineg, 1) := by decide +kernel
theorem dX5_readSigned_41 : decode cX5_readSigned 41 = .ok (.ireturn, 1) := by decide +kernel
def F_X5_readSigned  (P : VP) (post : Int32 → VP → Prop) : Prop :=
  F_X5_byteAt (P 17 0 6) P (fun r5 => (r5 = 45 → ∀ P29 : VP, P29 = vup P 17 0 6 ((P 17 0 6) + 1) → (F_X5_readNumber ((4 : Int32)) ((9999 : Int32)) P29 (fun r37 P37 => post (-r37) P37))) ∧ (¬ r5 = 45 → F_X5_readNumber ((4 : Int32)) ((9999 : Int32)) P (fun r18 P18 => post r18 P18)))
set_option maxRecDepth 4000 in
theorem s_X5_readSigned {l : Launch} {g : vG}  {P Q : VP} {post : Int32 → VP → Prop}  (h : F_X5_readSigned  P post) : VC l g yX5_readSigned cX5_readSigned 1 (some .int) 2 [vR 17 0] (vjn P Q) (vcI Q post) := by
  refine VC.of (by decide +kernel) (Nat.le_of_ble_eq_true rfl) (show VM l g RX5 cX5_readSigned 1 (some .int) 2 (vcI Q post) 0 [(0, vR 17 0)] [] (vjn P Q) from ?_)
  unfold F_X5_readSigned at h
  refine vr_aload_n 0 0 dX5_readSigned_0 rfl rfl ?_
  refine vr_aload_n 0 0 dX5_readSigned_1 rfl rfl ?_
  refine vg_17_6 RX5 rfl (by decide) fl_5_31 dX5_readSigned_2 ?_
  refine vr_callV RX5 (s_X5_byteAt h) rfl (by decide) rfl rfl rfl ml_5_74 rfl yh_X5_byteAt rfl ⟨Nat.le_of_ble_eq_true rfl, Nat.le_of_ble_eq_true rfl⟩ (Nat.le_of_ble_eq_true rfl) ⟨Nat.zero_le _, Nat.zero_le _⟩ dX5_readSigned_5 (ki fun r5 h => ?_)
  refine vr_bipush 45 dX5_readSigned_8 (by decide) ?_
  refine vr_icmpeq 22 dX5_readSigned_10 (by decide) (fun c10 => ?_) (fun c10 => ?_)
  · have h := h.1 c10
    refine vr_aload_n 0 0 dX5_readSigned_22 rfl rfl ?_
    refine vr_dup dX5_readSigned_23 rfl ?_
    refine vg_17_6 RX5 rfl (by decide) fl_5_31 dX5_readSigned_24 ?_
    refine vr_iconst 1 dX5_readSigned_27 (by decide) ?_
    refine vr_iadd dX5_readSigned_28 ?_
    obtain ⟨P29, eP29⟩ : ∃ y : VP, y = vup P 17 0 6 ((P 17 0 6) + 1) := ⟨_, rfl⟩
    have h := h P29 eP29
    refine vp_17_6 RX5 rfl (by decide) fl_5_31 eP29 dX5_readSigned_29 ?_
    refine vr_aload_n 0 0 dX5_readSigned_32 rfl rfl ?_
    refine vr_iconst 4 dX5_readSigned_33 (by decide) ?_
    refine vr_sipush 9999 dX5_readSigned_34 (by decide) ?_
    refine vr_callV RX5 (s_X5_readNumber h) rfl (by decide) rfl rfl rfl ml_5_92 rfl yh_X5_readNumber rfl ⟨Nat.le_of_ble_eq_true rfl, Nat.le_of_ble_eq_true rfl⟩ (Nat.le_of_ble_eq_true rfl) ⟨Nat.zero_le _, Nat.zero_le _⟩ dX5_readSigned_37 (kci fun r37 P37 h => ?_)
    refine vr_ineg dX5_readSigned_40 ?_
    exact vr_iret rfl ⟨_, _, rfl, rfl, h⟩ dX5_readSigned_41
  · have h := h.2 c10
    refine vr_aload_n 0 0 dX5_readSigned_13 rfl rfl ?_
    refine vr_iconst 4 dX5_readSigned_14 (by decide) ?_
    refine vr_sipush 9999 dX5_readSigned_15 (by decide) ?_
    refine vr_callV RX5 (s_X5_readNumber h) rfl (by decide) rfl rfl rfl ml_5_92 rfl yh_X5_readNumber rfl ⟨Nat.le_of_ble_eq_true rfl, Nat.le_of_ble_eq_true rfl⟩ (Nat.le_of_ble_eq_true rfl) ⟨Nat.zero_le _, Nat.zero_le _⟩ dX5_readSigned_18 (kci fun r18 P18 h => ?_)
    exact vr_iret rfl ⟨_, _, rfl, rfl, h⟩ dX5_readSigned_21
theorem dX5_readPart_0 : decode cX5_readPart 0 = .ok (.iload_n 1, 1) := by decide +kernel
theorem dX5_readPart_1 : decode cX5_readPart 1 = .ok (.tableswitch 110 75 87 #[103, 110, 110, 96, 110, 110, 110, 72, 80, 110, 110, 67, 88], 67) := by decide +kernel
theorem dX5_readPart_68 : decode cX5_readPart 68 = .ok (.aload_n 0, 1) := by decide +kernel
theorem dX5_readPart_69 : decode cX5_readPart 69 = .ok (.invokevirtual 89, 3) := by decide +kernel
theorem dX5_readPart_72 : decode cX5_readPart 72 = .ok (.ireturn, 1) := by decide +kernel
theorem dX5_readPart_73 : decode cX5_readPart 73 = .ok (.aload_n 0, 1) := by decide +kernel
theorem dX5_readPart_74 : decode cX5_readPart 74 = .ok (.iconst 2, 1) := by decide +kernel
theorem dX5_readPart_75 : decode cX5_readPart 75 = .ok (.bipush 7, 2) := by decide +kernel
theorem dX5_readPart_77 : decode cX5_readPart 77 = .ok (.invokevirtual 92, 3) := by decide +kernel
theorem dX5_readPart_80 : decode cX5_readPart 80 = .ok (.ireturn, 1) := by decide +kernel
theorem dX5_readPart_81 : decode cX5_readPart 81 = .ok (.aload_n 0, 1) := by decide +kernel
theorem dX5_readPart_82 : decode cX5_readPart 82 = .ok (.iconst 2, 1) := by decide +kernel
theorem dX5_readPart_83 : decode cX5_readPart 83 = .ok (.bipush 15, 2) := by decide +kernel
theorem dX5_readPart_85 : decode cX5_readPart 85 = .ok (.invokevirtual 92, 3) := by decide +kernel
theorem dX5_readPart_88 : decode cX5_readPart 88 = .ok (.ireturn, 1) := by decide +kernel
theorem dX5_readPart_89 : decode cX5_readPart 89 = .ok (.aload_n 0, 1) := by decide +kernel
theorem dX5_readPart_90 : decode cX5_readPart 90 = .ok (.iconst 2, 1) := by decide +kernel
theorem dX5_readPart_91 : decode cX5_readPart 91 = .ok (.bipush 23, 2) := by decide +kernel
theorem dX5_readPart_93 : decode cX5_readPart 93 = .ok (.invokevirtual 92, 3) := by decide +kernel
theorem dX5_readPart_96 : decode cX5_readPart 96 = .ok (.ireturn, 1) := by decide +kernel
theorem dX5_readPart_97 : decode cX5_readPart 97 = .ok (.aload_n 0, 1) := by decide +kernel
theorem dX5_readPart_98 : decode cX5_readPart 98 = .ok (.iconst 2, 1) := by decide +kernel
theorem dX5_readPart_99 : decode cX5_readPart 99 = .ok (.iconst 3, 1) := by decide +kernel
theorem dX5_readPart_100 : decode cX5_readPart 100 = .ok (.invokevirtual 92, 3) := by decide +kernel
theorem dX5_readPart_103 : decode cX5_readPart 103 = .ok (.ireturn, 1) := by decide +kernel
theorem dX5_readPart_104 : decode cX5_readPart 104 = .ok (.aload_n 0, 1) := by decide +kernel
theorem dX5_readPart_105 : decode cX5_readPart 105 = .ok (.iconst 2, 1) := by decide +kernel
theorem dX5_readPart_106 : decode cX5_readPart 106 = .ok (.iconst 2, 1) := by decide +kernel
theorem dX5_readPart_107 : decode cX5_readPart 107 = .ok (.invokevirtual 92, 3) := by decide +kernel
theorem dX5_readPart_110 : decode cX5_readPart 110 = .ok (.ireturn, 1) := by decide +kernel
theorem dX5_readPart_111 : decode cX5_readPart 111 = .ok (.aload_n 0, 1) := by decide +kernel
theorem dX5_readPart_112 : decode cX5_readPart 112 = .ok (.invokevirtual 96, 3) := by decide +kernel
theorem dX5_readPart_115 : decode cX5_readPart 115 = .ok (.ireturn, 1) := by decide +kernel
def F_X5_readPart (x1 : Int32) (P : VP) (post : Int32 → VP → Prop) : Prop :=
  (x1 = 75 → F_X5_readNumber ((2 : Int32)) ((2 : Int32)) P (fun r107 P107 => post r107 P107)) ∧ (¬ x1 = 75 → (x1 = 76 → F_X5_readName  P (fun r112 P112 => post r112 P112)) ∧ (¬ x1 = 76 → (x1 = 77 → F_X5_readName  P (fun r112 P112 => post r112 P112)) ∧ (¬ x1 = 77 → (x1 = 78 → F_X5_readNumber ((2 : Int32)) ((3 : Int32)) P (fun r100 P100 => post r100 P100)) ∧ (¬ x1 = 78 → (x1 = 79 → F_X5_readName  P (fun r112 P112 => post r112 P112)) ∧ (¬ x1 = 79 → (x1 = 80 → F_X5_readName  P (fun r112 P112 => post r112 P112)) ∧ (¬ x1 = 80 → (x1 = 81 → F_X5_readName  P (fun r112 P112 => post r112 P112)) ∧ (¬ x1 = 81 → (x1 = 82 → F_X5_readNumber ((2 : Int32)) ((7 : Int32)) P (fun r77 P77 => post r77 P77)) ∧ (¬ x1 = 82 → (x1 = 83 → F_X5_readNumber ((2 : Int32)) ((15 : Int32)) P (fun r85 P85 => post r85 P85)) ∧ (¬ x1 = 83 → (x1 = 84 → F_X5_readName  P (fun r112 P112 => post r112 P112)) ∧ (¬ x1 = 84 → (x1 = 85 → F_X5_readName  P (fun r112 P112 => post r112 P112)) ∧ (¬ x1 = 85 → (x1 = 86 → F_X5_readSigned  P (fun r69 P69 => post r69 P69)) ∧ (¬ x1 = 86 → (x1 = 87 → F_X5_readNumber ((2 : Int32)) ((23 : Int32)) P (fun r93 P93 => post r93 P93)) ∧ (¬ x1 = 87 → F_X5_readName  P (fun r112 P112 => post r112 P112))))))))))))))
set_option maxRecDepth 4000 in
theorem s_X5_readPart {l : Launch} {g : vG} {x1 : Int32} {P Q : VP} {post : Int32 → VP → Prop}  (h : F_X5_readPart x1 P post) : VC l g yX5_readPart cX5_readPart 2 (some .int) 3 [vR 17 0, vI x1] (vjn P Q) (vcI Q post) := by
  refine VC.of (by decide +kernel) (Nat.le_of_ble_eq_true rfl) (show VM l g RX5 cX5_readPart 2 (some .int) 3 (vcI Q post) 0 [(0, vR 17 0), (1, vI x1)] [] (vjn P Q) from ?_)
  unfold F_X5_readPart at h
  refine vr_iload_n 1 1 dX5_readPart_0 rfl rfl ?_
  by_cases c1_0 : x1 = 75
  · have h := h.1 c1_0
    refine vr_tswIn 75 104 dX5_readPart_1 c1_0 (by decide) rfl (by decide) ?_
    refine vr_aload_n 0 0 dX5_readPart_104 rfl rfl ?_
    refine vr_iconst 2 dX5_readPart_105 (by decide) ?_
    refine vr_iconst 2 dX5_readPart_106 (by decide) ?_
    refine vr_callV RX5 (s_X5_readNumber h) rfl (by decide) rfl rfl rfl ml_5_92 rfl yh_X5_readNumber rfl ⟨Nat.le_of_ble_eq_true rfl, Nat.le_of_ble_eq_true rfl⟩ (Nat.le_of_ble_eq_true rfl) ⟨Nat.zero_le _, Nat.zero_le _⟩ dX5_readPart_107 (kci fun r107 P107 h => ?_)
    exact vr_iret rfl ⟨_, _, rfl, rfl, h⟩ dX5_readPart_110
  · have h := h.2 c1_0
    by_cases c1_1 : x1 = 76
    · have h := h.1 c1_1
      refine vr_tswIn 76 111 dX5_readPart_1 c1_1 (by decide) rfl (by decide) ?_
      refine vr_aload_n 0 0 dX5_readPart_111 rfl rfl ?_
      refine vr_callV RX5 (s_X5_readName h) rfl (by decide) rfl rfl rfl ml_5_96 rfl yh_X5_readName rfl ⟨Nat.le_of_ble_eq_true rfl, Nat.le_of_ble_eq_true rfl⟩ (Nat.le_of_ble_eq_true rfl) ⟨Nat.zero_le _, Nat.zero_le _⟩ dX5_readPart_112 (kci fun r112 P112 h => ?_)
      exact vr_iret rfl ⟨_, _, rfl, rfl, h⟩ dX5_readPart_115
    · have h := h.2 c1_1
      by_cases c1_2 : x1 = 77
      · have h := h.1 c1_2
        refine vr_tswIn 77 111 dX5_readPart_1 c1_2 (by decide) rfl (by decide) ?_
        refine vr_aload_n 0 0 dX5_readPart_111 rfl rfl ?_
        refine vr_callV RX5 (s_X5_readName h) rfl (by decide) rfl rfl rfl ml_5_96 rfl yh_X5_readName rfl ⟨Nat.le_of_ble_eq_true rfl, Nat.le_of_ble_eq_true rfl⟩ (Nat.le_of_ble_eq_true rfl) ⟨Nat.zero_le _, Nat.zero_le _⟩ dX5_readPart_112 (kci fun r112 P112 h => ?_)
        exact vr_iret rfl ⟨_, _, rfl, rfl, h⟩ dX5_readPart_115
      · have h := h.2 c1_2
        by_cases c1_3 : x1 = 78
        · have h := h.1 c1_3
          refine vr_tswIn 78 97 dX5_readPart_1 c1_3 (by decide) rfl (by decide) ?_
          refine vr_aload_n 0 0 dX5_readPart_97 rfl rfl ?_
          refine vr_iconst 2 dX5_readPart_98 (by decide) ?_
          refine vr_iconst 3 dX5_readPart_99 (by decide) ?_
          refine vr_callV RX5 (s_X5_readNumber h) rfl (by decide) rfl rfl rfl ml_5_92 rfl yh_X5_readNumber rfl ⟨Nat.le_of_ble_eq_true rfl, Nat.le_of_ble_eq_true rfl⟩ (Nat.le_of_ble_eq_true rfl) ⟨Nat.zero_le _, Nat.zero_le _⟩ dX5_readPart_100 (kci fun r100 P100 h => ?_)
          exact vr_iret rfl ⟨_, _, rfl, rfl, h⟩ dX5_readPart_103
        · have h := h.2 c1_3
          by_cases c1_4 : x1 = 79
          · have h := h.1 c1_4
            refine vr_tswIn 79 111 dX5_readPart_1 c1_4 (by decide) rfl (by decide) ?_
            refine vr_aload_n 0 0 dX5_readPart_111 rfl rfl ?_
            refine vr_callV RX5 (s_X5_readName h) rfl (by decide) rfl rfl rfl ml_5_96 rfl yh_X5_readName rfl ⟨Nat.le_of_ble_eq_true rfl, Nat.le_of_ble_eq_true rfl⟩ (Nat.le_of_ble_eq_true rfl) ⟨Nat.zero_le _, Nat.zero_le _⟩ dX5_readPart_112 (kci fun r112 P112 h => ?_)
            exact vr_iret rfl ⟨_, _, rfl, rfl, h⟩ dX5_readPart_115
          · have h := h.2 c1_4
            by_cases c1_5 : x1 = 80
            · have h := h.1 c1_5
              refine vr_tswIn 80 111 dX5_readPart_1 c1_5 (by decide) rfl (by decide) ?_
              refine vr_aload_n 0 0 dX5_readPart_111 rfl rfl ?_
              refine vr_callV RX5 (s_X5_readName h) rfl (by decide) rfl rfl rfl ml_5_96 rfl yh_X5_readName rfl ⟨Nat.le_of_ble_eq_true rfl, Nat.le_of_ble_eq_true rfl⟩ (Nat.le_of_ble_eq_true rfl) ⟨Nat.zero_le _, Nat.zero_le _⟩ dX5_readPart_112 (kci fun r112 P112 h => ?_)
              exact vr_iret rfl ⟨_, _, rfl, rfl, h⟩ dX5_readPart_115
            · have h := h.2 c1_5
              by_cases c1_6 : x1 = 81
              · have h := h.1 c1_6
                refine vr_tswIn 81 111 dX5_readPart_1 c1_6 (by decide) rfl (by decide) ?_
                refine vr_aload_n 0 0 dX5_readPart_111 rfl rfl ?_
                refine vr_callV RX5 (s_X5_readName h) rfl (by decide) rfl rfl rfl ml_5_96 rfl yh_X5_readName rfl ⟨Nat.le_of_ble_eq_true rfl, Nat.le_of_ble_eq_true rfl⟩ (Nat.le_of_ble_eq_true rfl) ⟨Nat.zero_le _, Nat.zero_le _⟩ dX5_readPart_112 (kci fun r112 P112 h => ?_)
                exact vr_iret rfl ⟨_, _, rfl, rfl, h⟩ dX5_readPart_115
              · have h := h.2 c1_6
                by_cases c1_7 : x1 = 82
                · have h := h.1 c1_7
                  refine vr_tswIn 82 73 dX5_readPart_1 c1_7 (by decide) rfl (by decide) ?_
                  refine vr_aload_n 0 0 dX5_readPart_73 rfl rfl ?_
                  refine vr_iconst 2 dX5_readPart_74 (by decide) ?_
                  refine vr_bipush 7 dX5_readPart_75 (by decide) ?_
                  refine vr_callV RX5 (s_X5_readNumber h) rfl (by decide) rfl rfl rfl ml_5_92 rfl yh_X5_readNumber rfl ⟨Nat.le_of_ble_eq_true rfl, Nat.le_of_ble_eq_true rfl⟩ (Nat.le_of_ble_eq_true rfl) ⟨Nat.zero_le _, Nat.zero_le _⟩ dX5_readPart_77 (kci fun r77 P77 h => ?_)
                  exact vr_iret rfl ⟨_, _, rfl, rfl, h⟩ dX5_readPart_80
                · have h := h.2 c1_7
                  by_cases c1_8 : x1 = 83
                  · have h := h.1 c1_8
                    refine vr_tswIn 83 81 dX5_readPart_1 c1_8 (by decide) rfl (by decide) ?_
                    refine vr_aload_n 0 0 dX5_readPart_81 rfl rfl ?_
                    refine vr_iconst 2 dX5_readPart_82 (by decide) ?_
                    refine vr_bipush 15 dX5_readPart_83 (by decide) ?_
                    refine vr_callV RX5 (s_X5_readNumber h) rfl (by decide) rfl rfl rfl ml_5_92 rfl yh_X5_readNumber rfl ⟨Nat.le_of_ble_eq_true rfl, Nat.le_of_ble_eq_true rfl⟩ (Nat.le_of_ble_eq_true rfl) ⟨Nat.zero_le _, Nat.zero_le _⟩ dX5_readPart_85 (kci fun r85 P85 h => ?_)
                    exact vr_iret rfl ⟨_, _, rfl, rfl, h⟩ dX5_readPart_88
                  · have h := h.2 c1_8
                    by_cases c1_9 : x1 = 84
                    · have h := h.1 c1_9
                      refine vr_tswIn 84 111 dX5_readPart_1 c1_9 (by decide) rfl (by decide) ?_
                      refine vr_aload_n 0 0 dX5_readPart_111 rfl rfl ?_
                      refine vr_callV RX5 (s_X5_readName h) rfl (by decide) rfl rfl rfl ml_5_96 rfl yh_X5_readName rfl ⟨Nat.le_of_ble_eq_true rfl, Nat.le_of_ble_eq_true rfl⟩ (Nat.le_of_ble_eq_true rfl) ⟨Nat.zero_le _, Nat.zero_le _⟩ dX5_readPart_112 (kci fun r112 P112 h => ?_)
                      exact vr_iret rfl ⟨_, _, rfl, rfl, h⟩ dX5_readPart_115
                    · have h := h.2 c1_9
                      by_cases c1_10 : x1 = 85
                      · have h := h.1 c1_10
                        refine vr_tswIn 85 111 dX5_readPart_1 c1_10 (by decide) rfl (by decide) ?_
                        refine vr_aload_n 0 0 dX5_readPart_111 rfl rfl ?_
                        refine vr_callV RX5 (s_X5_readName h) rfl (by decide) rfl rfl rfl ml_5_96 rfl yh_X5_readName rfl ⟨Nat.le_of_ble_eq_true rfl, Nat.le_of_ble_eq_true rfl⟩ (Nat.le_of_ble_eq_true rfl) ⟨Nat.zero_le _, Nat.zero_le _⟩ dX5_readPart_112 (kci fun r112 P112 h => ?_)
                        exact vr_iret rfl ⟨_, _, rfl, rfl, h⟩ dX5_readPart_115
                      · have h := h.2 c1_10
                        by_cases c1_11 : x1 = 86
                        · have h := h.1 c1_11
                          refine vr_tswIn 86 68 dX5_readPart_1 c1_11 (by decide) rfl (by decide) ?_
                          refine vr_aload_n 0 0 dX5_readPart_68 rfl rfl ?_
                          refine vr_callV RX5 (s_X5_readSigned h) rfl (by decide) rfl rfl rfl ml_5_89 rfl yh_X5_readSigned rfl ⟨Nat.le_of_ble_eq_true rfl, Nat.le_of_ble_eq_true rfl⟩ (Nat.le_of_ble_eq_true rfl) ⟨Nat.zero_le _, Nat.zero_le _⟩ dX5_readPart_69 (kci fun r69 P69 h => ?_)
                          exact vr_iret rfl ⟨_, _, rfl, rfl, h⟩ dX5_readPart_72
                        · have h := h.2 c1_11
                          by_cases c1_12 : x1 = 87
                          · have h := h.1 c1_12
                            refine vr_tswIn 87 89 dX5_readPart_1 c1_12 (by decide) rfl (by decide) ?_
                            refine vr_aload_n 0 0 dX5_readPart_89 rfl rfl ?_
                            refine vr_iconst 2 dX5_readPart_90 (by decide) ?_
                            refine vr_bipush 23 dX5_readPart_91 (by decide) ?_
                            refine vr_callV RX5 (s_X5_readNumber h) rfl (by decide) rfl rfl rfl ml_5_92 rfl yh_X5_readNumber rfl ⟨Nat.le_of_ble_eq_true rfl, Nat.le_of_ble_eq_true rfl⟩ (Nat.le_of_ble_eq_true rfl) ⟨Nat.zero_le _, Nat.zero_le _⟩ dX5_readPart_93 (kci fun r93 P93 h => ?_)
                            exact vr_iret rfl ⟨_, _, rfl, rfl, h⟩ dX5_readPart_96
                          · have h := h.2 c1_12
                            refine vr_tswOut 111 dX5_readPart_1 (by have q0 := lv_neT c1_0 (a := 75) (by decide); have q1 := lv_neT c1_1 (a := 76) (by decide); have q2 := lv_neT c1_2 (a := 77) (by decide); have q3 := lv_neT c1_3 (a := 78) (by decide); have q4 := lv_neT c1_4 (a := 79) (by decide); have q5 := lv_neT c1_5 (a := 80) (by decide); have q6 := lv_neT c1_6 (a := 81) (by decide); have q7 := lv_neT c1_7 (a := 82) (by decide); have q8 := lv_neT c1_8 (a := 83) (by decide); have q9 := lv_neT c1_9 (a := 84) (by decide); have q10 := lv_neT c1_10 (a := 85) (by decide); have q11 := lv_neT c1_11 (a := 86) (by decide); have q12 := lv_neT c1_12 (a := 87) (by decide); omega) (by decide) ?_
                            refine vr_aload_n 0 0 dX5_readPart_111 rfl rfl ?_
                            refine vr_callV RX5 (s_X5_readName h) rfl (by decide) rfl rfl rfl ml_5_96 rfl yh_X5_readName rfl ⟨Nat.le_of_ble_eq_true rfl, Nat.le_of_ble_eq_true rfl⟩ (Nat.le_of_ble_eq_true rfl) ⟨Nat.zero_le _, Nat.zero_le _⟩ dX5_readPart_112 (kci fun r112 P112 h => ?_)
                            exact vr_iret rfl ⟨_, _, rfl, rfl, h⟩ dX5_readPart_115
theorem dX5_isSpelled_0 : decode cX5_isSpelled 0 = .ok (.aload_n 1, 1) := by decide +kernel
theorem dX5_isSpelled_1 : decode cX5_isSpelled 1 = .ok (.invokevirtual 48, 3) := by decide +kernel
theorem dX5_isSpelled_4 : decode cX5_isSpelled 4 = .ok (.iload_n 2, 1) := by decide +kernel
theorem dX5_isSpelled_5 : decode cX5_isSpelled 5 = .ok (.aload_n 0, 1) := by decide +kernel
theorem dX5_isSpelled_6 : decode cX5_isSpelled 6 = .ok (.getfield 31, 3) := by decide +kernel
theorem dX5_isSpelled_9 : decode cX5_isSpelled 9 = .ok (.isub, 1) := by decide +kernel
theorem dX5_isSpelled_10 : decode cX5_isSpelled 10 = .ok (.if_icmp .eq 5, 3) := by decide +kernel
theorem dX5_isSpelled_13 : decode cX5_isSpelled 13 = .ok (.iconst 0, 1) := by decide +kernel
theorem dX5_isSpelled_14 : decode cX5_isSpelled 14 = .ok (.ireturn, 1) := by decide +kernel
theorem dX5_isSpelled_15 : decode cX5_isSpelled 15 = .ok (.iconst 0, 1) := by decide +kernel
theorem dX5_isSpelled_16 : decode cX5_isSpelled 16 = .ok (.istore_n 3, 1) := by decide +kernel
theorem dX5_isSpelled_17 : decode cX5_isSpelled 17 = .ok (.iload_n 3, 1) := by decide +kernel
theorem dX5_isSpelled_18 : decode cX5_isSpelled 18 = .ok (.aload_n 1, 1) := by decide +kernel
theorem dX5_isSpelled_19 : decode cX5_isSpelled 19 = .ok (.invokevirtual 48, 3) := by decide +kernel
theorem dX5_isSpelled_22 : decode cX5_isSpelled 22 = .ok (.if_icmp .ge 29, 3) := by decide +kernel
theorem dX5_isSpelled_25 : decode cX5_isSpelled 25 = .ok (.aload_n 0, 1) := by decide +kernel
theorem dX5_isSpelled_26 : decode cX5_isSpelled 26 = .ok (.aload_n 0, 1) := by decide +kernel
theorem dX5_isSpelled_27 : decode cX5_isSpelled 27 = .ok (.getfield 31, 3) := by decide +kernel
theorem dX5_isSpelled_30 : decode cX5_isSpelled 30 = .ok (.iload_n 3, 1) := by decide +kernel
theorem dX5_isSpelled_31 : decode cX5_isSpelled 31 = .ok (.iadd, 1) := by decide +kernel
theorem dX5_isSpelled_32 : decode cX5_isSpelled 32 = .ok (.invokevirtual 74, 3) := by decide +kernel
theorem dX5_isSpelled_35 : decode cX5_isSpelled 35 = .ok (.aload_n 1, 1) := by decide +kernel
theorem dX5_isSpelled_36 : decode cX5_isSpelled 36 = .ok (.iload_n 3, 1) := by decide +kernel
theorem dX5_isSpelled_37 : decode cX5_isSpelled 37 = .ok (.invokevirtual 55, 3) := by decide +kernel
theorem dX5_isSpelled_40 : decode cX5_isSpelled 40 = .ok (.if_icmp .eq 5, 3) := by decide +kernel
theorem dX5_isSpelled_43 : decode cX5_isSpelled 43 = .ok (.iconst 0, 1) := by decide +kernel
theorem dX5_isSpelled_44 : decode cX5_isSpelled 44 = .ok (.ireturn, 1) := by decide +kernel
theorem dX5_isSpelled_45 : decode cX5_isSpelled 45 = .ok (.iinc 3 1, 3) := by decide +kernel
theorem dX5_isSpelled_48 : decode cX5_isSpelled 48 = .ok (.goto (-31), 3) := by decide +kernel
theorem dX5_isSpelled_51 : decode cX5_isSpelled 51 = .ok (.iconst 1, 1) := by decide +kernel
theorem dX5_isSpelled_52 : decode cX5_isSpelled 52 = .ok (.ireturn, 1) := by decide +kernel
def F_X5_isSpelled_l17 (j1 : Nat) (x2 : Int32) (P : VP) (post : Int32 → Prop)   (X : Int32 → Prop) (v3 : Int32) : Prop :=
  (v3 < slen j1 → F_X5_byteAt ((P 17 0 6) + v3) P (fun r32 => (0 ≤ v3 ∧ v3 < slen j1) ∧ ((r32 = sch j1 (ix v3) → X (v3 + 1)) ∧ (¬ r32 = sch j1 (ix v3) → post ((0 : Int32)))))) ∧ (¬ v3 < slen j1 → post ((1 : Int32)))
set_option maxRecDepth 4000 in
theorem s_X5_isSpelled_l17 {l : Launch} {g : vG} {j1 : Nat} {x2 : Int32} {P Q : VP} {post : Int32 → Prop}    {v3 : Int32} (hj1 : j1 < 22)  (h : vL1 (F_X5_isSpelled_l17 j1 x2 P post  ) v3) : VM l g RX5 cX5_isSpelled 4 (some .boolean) 4 (vpI (vjn P Q) post) 17 [(0, vR 17 0), (1, vT j1), (3, vI v3)] [] (vjn P Q) := by
  refine vL1_s (T := fun v3 => VM l g RX5 cX5_isSpelled 4 (some .boolean) 4 (vpI (vjn P Q) post) 17 [(0, vR 17 0), (1, vT j1), (3, vI v3)] [] (vjn P Q)) ?_ h
  clear h
  intro X hX v3 h
  unfold F_X5_isSpelled_l17 at h
  refine vr_iload_n 3 2 dX5_isSpelled_17 rfl rfl ?_
  refine vr_aload_n 1 1 dX5_isSpelled_18 rfl rfl ?_
  refine vr_slen RX5 rfl ms_5_48 hj1 ⟨Nat.le_of_ble_eq_true rfl, Nat.le_of_ble_eq_true rfl⟩ (Nat.le_of_ble_eq_true rfl) ⟨Nat.zero_le _, Nat.zero_le _⟩ dX5_isSpelled_19 ?_
  refine vr_icmpge 51 dX5_isSpelled_22 (by decide) (fun c22 => ?_) (fun c22 => ?_)
  · have h := h.1 c22
    refine vr_aload_n 0 0 dX5_isSpelled_25 rfl rfl ?_
    refine vr_aload_n 0 0 dX5_isSpelled_26 rfl rfl ?_
    refine vg_17_6 RX5 rfl (by decide) fl_5_31 dX5_isSpelled_27 ?_
    refine vr_iload_n 3 2 dX5_isSpelled_30 rfl rfl ?_
    refine vr_iadd dX5_isSpelled_31 ?_
    refine vr_callV RX5 (s_X5_byteAt h) rfl (by decide) rfl rfl rfl ml_5_74 rfl yh_X5_byteAt rfl ⟨Nat.le_of_ble_eq_true rfl, Nat.le_of_ble_eq_true rfl⟩ (Nat.le_of_ble_eq_true rfl) ⟨Nat.zero_le _, Nat.zero_le _⟩ dX5_isSpelled_32 (ki fun r32 h => ?_)
    refine vr_aload_n 1 1 dX5_isSpelled_35 rfl rfl ?_
    refine vr_iload_n 3 2 dX5_isSpelled_36 rfl rfl ?_
    have hi := h.1
    have h := h.2
    refine vr_sch RX5 rfl ms_5_55 hj1 hi ⟨Nat.le_of_ble_eq_true rfl, Nat.le_of_ble_eq_true rfl⟩ (Nat.le_of_ble_eq_true rfl) ⟨Nat.zero_le _, Nat.zero_le _⟩ dX5_isSpelled_37 ?_
    refine vr_icmpeq 45 dX5_isSpelled_40 (by decide) (fun c40 => ?_) (fun c40 => ?_)
    · have h := h.1 c40
      refine vr_iinc (v3 + 1) 2 [(3, vI (v3 + 1)), (0, vR 17 0), (1, vT j1)] dX5_isSpelled_45 rfl rfl (by decide) rfl ?_
      refine vr_goto 17 dX5_isSpelled_48 (by decide) ?_
      refine vr_sub [1, 2, 0] [(0, vR 17 0), (1, vT j1), (3, vI (v3 + 1))] rfl ?_
      exact hX _ h
    · have h := h.2 c40
      refine vr_iconst 0 dX5_isSpelled_43 (by decide) ?_
      exact vr_zret rfl (Or.inl rfl) ⟨rfl, _, rfl, h⟩ dX5_isSpelled_44
  · have h := h.2 c22
    refine vr_iconst 1 dX5_isSpelled_51 (by decide) ?_
    exact vr_zret rfl (Or.inr rfl) ⟨rfl, _, rfl, h⟩ dX5_isSpelled_52
def F_X5_isSpelled (j1 : Nat) (x2 : Int32) (P : VP) (post : Int32 → Prop) : Prop :=
  (slen j1 = x2 - (P 17 0 6) → vL1 (F_X5_isSpelled_l17 j1 x2 P post  ) ((0 : Int32))) ∧ (¬ slen j1 = x2 - (P 17 0 6) → post ((0 : Int32)))
set_option maxRecDepth 4000 in
theorem s_X5_isSpelled {l : Launch} {g : vG} {j1 : Nat} {x2 : Int32} {P Q : VP} {post : Int32 → Prop} (hj1 : j1 < 22) (h : F_X5_isSpelled j1 x2 P post) : VC l g yX5_isSpelled cX5_isSpelled 4 (some .boolean) 4 [vR 17 0, vT j1, vI x2] (vjn P Q) (vpI (vjn P Q) post) := by
  refine VC.of (by decide +kernel) (Nat.le_of_ble_eq_true rfl) (show VM l g RX5 cX5_isSpelled 4 (some .boolean) 4 (vpI (vjn P Q) post) 0 [(0, vR 17 0), (1, vT j1), (2, vI x2)] [] (vjn P Q) from ?_)
  unfold F_X5_isSpelled at h
  refine vr_aload_n 1 1 dX5_isSpelled_0 rfl rfl ?_
  refine vr_slen RX5 rfl ms_5_48 hj1 ⟨Nat.le_of_ble_eq_true rfl, Nat.le_of_ble_eq_true rfl⟩ (Nat.le_of_ble_eq_true rfl) ⟨Nat.zero_le _, Nat.zero_le _⟩ dX5_isSpelled_1 ?_
  refine vr_iload_n 2 2 dX5_isSpelled_4 rfl rfl ?_
  refine vr_aload_n 0 0 dX5_isSpelled_5 rfl rfl ?_
  refine vg_17_6 RX5 rfl (by decide) fl_5_31 dX5_isSpelled_6 ?_
  refine vr_isub dX5_isSpelled_9 ?_
  refine vr_icmpeq 15 dX5_isSpelled_10 (by decide) (fun c10 => ?_) (fun c10 => ?_)
  · have h := h.1 c10
    refine vr_iconst 0 dX5_isSpelled_15 (by decide) ?_
    refine vr_istore_n 3 [(3, vI 0), (0, vR 17 0), (1, vT j1), (2, vI x2)] dX5_isSpelled_16 rfl (by decide) rfl ?_
    refine vr_sub [1, 2, 0] [(0, vR 17 0), (1, vT j1), (3, vI 0)] rfl ?_
    exact s_X5_isSpelled_l17 hj1  h
  · have h := h.2 c10
    refine vr_iconst 0 dX5_isSpelled_13 (by decide) ?_
    exact vr_zret rfl (Or.inl rfl) ⟨rfl, _, rfl, h⟩ dX5_isSpelled_14
theorem dX5_spellingOf_0 : decode cX5_spellingOf 0 = .ok (.iload_n 0, 1) := by decide +kernel
theorem dX5_spellingOf_1 : decode cX5_spellingOf 1 = .ok (.tableswitch 117 0 14 #[75, 78, 81, 84, 87, 90, 93, 96, 99, 102, 105, 108, 111, 117, 114], 75) := by decide +kernel
theorem dX5_spellingOf_76 : decode cX5_spellingOf 76 = .ok (.ldc 102, 2) := by decide +kernel
theorem dX5_spellingOf_78 : decode cX5_spellingOf 78 = .ok (.areturn, 1) := by decide +kernel
theorem dX5_spellingOf_79 : decode cX5_spellingOf 79 = .ok (.ldc 104, 2) := by decide +kernel
theorem dX5_spellingOf_81 : decode cX5_spellingOf 81 = .ok (.areturn, 1) := by decide +kernel
theorem dX5_spellingOf_82 : decode cX5_spellingOf 82 = .ok (.ldc 106, 2) := by decide +kernel
theorem dX5_spellingOf_84 : decode cX5_spellingOf 84 = .ok (.areturn, 1) := by decide +kernel
theorem dX5_spellingOf_85 : decode cX5_spellingOf 85 = .ok (.ldc 108, 2) := by decide +kernel
theorem dX5_spellingOf_87 : decode cX5_spellingOf 87 = .ok (.areturn, 1) := by decide +kernel
theorem dX5_spellingOf_88 : decode cX5_spellingOf 88 = .ok (.ldc 110, 2) := by decide +kernel
theorem dX5_spellingOf_90 : decode cX5_spellingOf 90 = .ok (.areturn, 1) := by decide +kernel
theorem dX5_spellingOf_91 : decode cX5_spellingOf 91 = .ok (.ldc 112, 2) := by decide +kernel
theorem dX5_spellingOf_93 : decode cX5_spellingOf 93 = .ok (.areturn, 1) := by decide +kernel
theorem dX5_spellingOf_94 : decode cX5_spellingOf 94 = .ok (.ldc 114, 2) := by decide +kernel
theorem dX5_spellingOf_96 : decode cX5_spellingOf 96 = .ok (.areturn, 1) := by decide +kernel
theorem dX5_spellingOf_97 : decode cX5_spellingOf 97 = .ok (.ldc 116, 2) := by decide +kernel
theorem dX5_spellingOf_99 : decode cX5_spellingOf 99 = .ok (.areturn, 1) := by decide +kernel
theorem dX5_spellingOf_100 : decode cX5_spellingOf 100 = .ok (.ldc 118, 2) := by decide +kernel
theorem dX5_spellingOf_102 : decode cX5_spellingOf 102 = .ok (.areturn, 1) := by decide +kernel
theorem dX5_spellingOf_103 : decode cX5_spellingOf 103 = .ok (.ldc 120, 2) := by decide +kernel
theorem dX5_spellingOf_105 : decode cX5_spellingOf 105 = .ok (.areturn, 1) := by decide +kernel
theorem dX5_spellingOf_106 : decode cX5_spellingOf 106 = .ok (.ldc 122, 2) := by decide +kernel
theorem dX5_spellingOf_108 : decode cX5_spellingOf 108 = .ok (.areturn, 1) := by decide +kernel
theorem dX5_spellingOf_109 : decode cX5_spellingOf 109 = .ok (.ldc 124, 2) := by decide +kernel
theorem dX5_spellingOf_111 : decode cX5_spellingOf 111 = .ok (.areturn, 1) := by decide +kernel
theorem dX5_spellingOf_112 : decode cX5_spellingOf 112 = .ok (.ldc 126, 2) := by decide +kernel
theorem dX5_spellingOf_114 : decode cX5_spellingOf 114 = .ok (.areturn, 1) := by decide +kernel
theorem dX5_spellingOf_115 : decode cX5_spellingOf 115 = .ok (.ldc 128, 2) := by decide +kernel
theorem dX5_spellingOf_117 : decode cX5_spellingOf 117 = .ok (.areturn, 1) := by decide +kernel
theorem dX5_spellingOf_118 : decode cX5_spellingOf 118 = .ok (.ldc 130, 2) := by decide +kernel
theorem dX5_spellingOf_120 : decode cX5_spellingOf 120 = .ok (.areturn, 1) := by decide +kernel
def F_X5_spellingOf (x0 : Int32) (P : VP) (post : Nat → Prop) : Prop :=
  (x0 = 0 → post 0) ∧ (¬ x0 = 0 → (x0 = 1 → post 1) ∧ (¬ x0 = 1 → (x0 = 2 → post 2) ∧ (¬ x0 = 2 → (x0 = 3 → post 3) ∧ (¬ x0 = 3 → (x0 = 4 → post 4) ∧ (¬ x0 = 4 → (x0 = 5 → post 5) ∧ (¬ x0 = 5 → (x0 = 6 → post 6) ∧ (¬ x0 = 6 → (x0 = 7 → post 7) ∧ (¬ x0 = 7 → (x0 = 8 → post 8) ∧ (¬ x0 = 8 → (x0 = 9 → post 9) ∧ (¬ x0 = 9 → (x0 = 10 → post 10) ∧ (¬ x0 = 10 → (x0 = 11 → post 11) ∧ (¬ x0 = 11 → (x0 = 12 → post 12) ∧ (¬ x0 = 12 → (x0 = 13 → post 14) ∧ (¬ x0 = 13 → (x0 = 14 → post 13) ∧ (¬ x0 = 14 → post 14)))))))))))))))
set_option maxRecDepth 4000 in
theorem s_X5_spellingOf {l : Launch} {g : vG} {x0 : Int32} {P Q : VP} {post : Nat → Prop}  (h : F_X5_spellingOf x0 P post) : VC l g yX5_spellingOf cX5_spellingOf 1 (some (.object "java/lang/String")) 0 [vI x0] (vjn P Q) (vpT (vjn P Q) post) := by
  refine VC.of (by decide +kernel) (Nat.le_of_ble_eq_true rfl) (show VM l g RX5 cX5_spellingOf 1 (some (.object "java/lang/String")) 0 (vpT (vjn P Q) post) 0 [(0, vI x0)] [] (vjn P Q) from ?_)
  unfold F_X5_spellingOf at h
  refine vr_iload_n 0 0 dX5_spellingOf_0 rfl rfl ?_
  by_cases c1_0 : x0 = 0
  · have h := h.1 c1_0
    refine vr_tswIn 0 76 dX5_spellingOf_1 c1_0 (by decide) rfl (by decide) ?_
    refine vr_ldcS (tx := "halt") 0 (List.mem_of_getElem? (i := 0) rfl) dX5_spellingOf_76 ?_
    exact vr_aret rfl ⟨rfl, 0, (by decide), rfl, h⟩ dX5_spellingOf_78
  · have h := h.2 c1_0
    by_cases c1_1 : x0 = 1
    · have h := h.1 c1_1
      refine vr_tswIn 1 79 dX5_spellingOf_1 c1_1 (by decide) rfl (by decide) ?_
      refine vr_ldcS (tx := "take") 1 (List.mem_of_getElem? (i := 1) rfl) dX5_spellingOf_79 ?_
      exact vr_aret rfl ⟨rfl, 1, (by decide), rfl, h⟩ dX5_spellingOf_81
    · have h := h.2 c1_1
      by_cases c1_2 : x0 = 2
      · have h := h.1 c1_2
        refine vr_tswIn 2 82 dX5_spellingOf_1 c1_2 (by decide) rfl (by decide) ?_
        refine vr_ldcS (tx := "put") 2 (List.mem_of_getElem? (i := 2) rfl) dX5_spellingOf_82 ?_
        exact vr_aret rfl ⟨rfl, 2, (by decide), rfl, h⟩ dX5_spellingOf_84
      · have h := h.2 c1_2
        by_cases c1_3 : x0 = 3
        · have h := h.1 c1_3
          refine vr_tswIn 3 85 dX5_spellingOf_1 c1_3 (by decide) rfl (by decide) ?_
          refine vr_ldcS (tx := "add") 3 (List.mem_of_getElem? (i := 3) rfl) dX5_spellingOf_85 ?_
          exact vr_aret rfl ⟨rfl, 3, (by decide), rfl, h⟩ dX5_spellingOf_87
        · have h := h.2 c1_3
          by_cases c1_4 : x0 = 4
          · have h := h.1 c1_4
            refine vr_tswIn 4 88 dX5_spellingOf_1 c1_4 (by decide) rfl (by decide) ?_
            refine vr_ldcS (tx := "go") 4 (List.mem_of_getElem? (i := 4) rfl) dX5_spellingOf_88 ?_
            exact vr_aret rfl ⟨rfl, 4, (by decide), rfl, h⟩ dX5_spellingOf_90
          · have h := h.2 c1_4
            by_cases c1_5 : x0 = 5
            · have h := h.1 c1_5
              refine vr_tswIn 5 91 dX5_spellingOf_1 c1_5 (by decide) rfl (by decide) ?_
              refine vr_ldcS (tx := "call") 5 (List.mem_of_getElem? (i := 5) rfl) dX5_spellingOf_91 ?_
              exact vr_aret rfl ⟨rfl, 5, (by decide), rfl, h⟩ dX5_spellingOf_93
            · have h := h.2 c1_5
              by_cases c1_6 : x0 = 6
              · have h := h.1 c1_6
                refine vr_tswIn 6 94 dX5_spellingOf_1 c1_6 (by decide) rfl (by decide) ?_
                refine vr_ldcS (tx := "back") 6 (List.mem_of_getElem? (i := 6) rfl) dX5_spellingOf_94 ?_
                exact vr_aret rfl ⟨rfl, 6, (by decide), rfl, h⟩ dX5_spellingOf_96
              · have h := h.2 c1_6
                by_cases c1_7 : x0 = 7
                · have h := h.1 c1_7
                  refine vr_tswIn 7 97 dX5_spellingOf_1 c1_7 (by decide) rfl (by decide) ?_
                  refine vr_ldcS (tx := "arg") 7 (List.mem_of_getElem? (i := 7) rfl) dX5_spellingOf_97 ?_
                  exact vr_aret rfl ⟨rfl, 7, (by decide), rfl, h⟩ dX5_spellingOf_99
                · have h := h.2 c1_7
                  by_cases c1_8 : x0 = 8
                  · have h := h.1 c1_8
                    refine vr_tswIn 8 100 dX5_spellingOf_1 c1_8 (by decide) rfl (by decide) ?_
                    refine vr_ldcS (tx := "set") 8 (List.mem_of_getElem? (i := 8) rfl) dX5_spellingOf_100 ?_
                    exact vr_aret rfl ⟨rfl, 8, (by decide), rfl, h⟩ dX5_spellingOf_102
                  · have h := h.2 c1_8
                    by_cases c1_9 : x0 = 9
                    · have h := h.1 c1_9
                      refine vr_tswIn 9 103 dX5_spellingOf_1 c1_9 (by decide) rfl (by decide) ?_
                      refine vr_ldcS (tx := "test") 9 (List.mem_of_getElem? (i := 9) rfl) dX5_spellingOf_103 ?_
                      exact vr_aret rfl ⟨rfl, 9, (by decide), rfl, h⟩ dX5_spellingOf_105
                    · have h := h.2 c1_9
                      by_cases c1_10 : x0 = 10
                      · have h := h.1 c1_10
                        refine vr_tswIn 10 106 dX5_spellingOf_1 c1_10 (by decide) rfl (by decide) ?_
                        refine vr_ldcS (tx := "num") 10 (List.mem_of_getElem? (i := 10) rfl) dX5_spellingOf_106 ?_
                        exact vr_aret rfl ⟨rfl, 10, (by decide), rfl, h⟩ dX5_spellingOf_108
                      · have h := h.2 c1_10
                        by_cases c1_11 : x0 = 11
                        · have h := h.1 c1_11
                          refine vr_tswIn 11 109 dX5_spellingOf_1 c1_11 (by decide) rfl (by decide) ?_
                          refine vr_ldcS (tx := "ptr") 11 (List.mem_of_getElem? (i := 11) rfl) dX5_spellingOf_109 ?_
                          exact vr_aret rfl ⟨rfl, 11, (by decide), rfl, h⟩ dX5_spellingOf_111
                        · have h := h.2 c1_11
                          by_cases c1_12 : x0 = 12
                          · have h := h.1 c1_12
                            refine vr_tswIn 12 112 dX5_spellingOf_1 c1_12 (by decide) rfl (by decide) ?_
                            refine vr_ldcS (tx := "ind") 12 (List.mem_of_getElem? (i := 12) rfl) dX5_spellingOf_112 ?_
                            exact vr_aret rfl ⟨rfl, 12, (by decide), rfl, h⟩ dX5_spellingOf_114
                          · have h := h.2 c1_12
                            by_cases c1_13 : x0 = 13
                            · have h := h.1 c1_13
                              refine vr_tswIn 13 118 dX5_spellingOf_1 c1_13 (by decide) rfl (by decide) ?_
                              refine vr_ldcS (tx := "link") 14 (List.mem_of_getElem? (i := 14) rfl) dX5_spellingOf_118 ?_
                              exact vr_aret rfl ⟨rfl, 14, (by decide), rfl, h⟩ dX5_spellingOf_120
                            · have h := h.2 c1_13
                              by_cases c1_14 : x0 = 14
                              · have h := h.1 c1_14
                                refine vr_tswIn 14 115 dX5_spellingOf_1 c1_14 (by decide) rfl (by decide) ?_
                                refine vr_ldcS (tx := "none") 13 (List.mem_of_getElem? (i := 13) rfl) dX5_spellingOf_115 ?_
                                exact vr_aret rfl ⟨rfl, 13, (by decide), rfl, h⟩ dX5_spellingOf_117
                              · have h := h.2 c1_14
                                refine vr_tswOut 118 dX5_spellingOf_1 (by have q0 := lv_neT c1_0 (a := 0) (by decide); have q1 := lv_neT c1_1 (a := 1) (by decide); have q2 := lv_neT c1_2 (a := 2) (by decide); have q3 := lv_neT c1_3 (a := 3) (by decide); have q4 := lv_neT c1_4 (a := 4) (by decide); have q5 := lv_neT c1_5 (a := 5) (by decide); have q6 := lv_neT c1_6 (a := 6) (by decide); have q7 := lv_neT c1_7 (a := 7) (by decide); have q8 := lv_neT c1_8 (a := 8) (by decide); have q9 := lv_neT c1_9 (a := 9) (by decide); have q10 := lv_neT c1_10 (a := 10) (by decide); have q11 := lv_neT c1_11 (a := 11) (by decide); have q12 := lv_neT c1_12 (a := 12) (by decide); have q13 := lv_neT c1_13 (a := 13) (by decide); have q14 := lv_neT c1_14 (a := 14) (by decide); omega) (by decide) ?_
                                refine vr_ldcS (tx := "link") 14 (List.mem_of_getElem? (i := 14) rfl) dX5_spellingOf_118 ?_
                                exact vr_aret rfl ⟨rfl, 14, (by decide), rfl, h⟩ dX5_spellingOf_120
theorem dX5_readWord_0 : decode cX5_readWord 0 = .ok (.aload_n 0, 1) := by decide +kernel
theorem dX5_readWord_1 : decode cX5_readWord 1 = .ok (.getfield 31, 3) := by decide +kernel
theorem dX5_readWord_4 : decode cX5_readWord 4 = .ok (.istore_n 1, 1) := by decide +kernel
theorem dX5_readWord_5 : decode cX5_readWord 5 = .ok (.iload_n 1, 1) := by decide +kernel
theorem dX5_readWord_6 : decode cX5_readWord 6 = .ok (.aload_n 0, 1) := by decide +kernel
theorem dX5_readWord_7 : decode cX5_readWord 7 = .ok (.getfield 24, 3) := by decide +kernel
theorem dX5_readWord_10 : decode cX5_readWord 10 = .ok (.if_icmp .ge 20, 3) := by decide +kernel
theorem dX5_readWord_13 : decode cX5_readWord 13 = .ok (.aload_n 0, 1) := by decide +kernel
theorem dX5_readWord_14 : decode cX5_readWord 14 = .ok (.iload_n 1, 1) := by decide +kernel
theorem dX5_readWord_15 : decode cX5_readWord 15 = .ok (.invokevirtual 74, 3) := by decide +kernel
theorem dX5_readWord_18 : decode cX5_readWord 18 = .ok (.invokestatic 78, 3) := by decide +kernel
theorem dX5_readWord_21 : decode cX5_readWord 21 = .ok (.ifCond .eq 9, 3) := by decide +kernel
theorem dX5_readWord_24 : decode cX5_readWord 24 = .ok (.iinc 1 1, 3) := by decide +kernel
theorem dX5_readWord_27 : decode cX5_readWord 27 = .ok (.goto (-22), 3) := by decide +kernel
theorem dX5_readWord_30 : decode cX5_readWord 30 = .ok (.iconst 0, 1) := by decide +kernel
theorem dX5_readWord_31 : decode cX5_readWord 31 = .ok (.istore_n 2, 1) := by decide +kernel
theorem dX5_readWord_32 : decode cX5_readWord 32 = .ok (.iload_n 2, 1) := by decide +kernel
theorem dX5_readWord_33 : decode cX5_readWord 33 = .ok (.bipush 15, 2) := by decide +kernel
theorem dX5_readWord_35 : decode cX5_readWord 35 = .ok (.if_icmp .ge 28, 3) := by decide +kernel
theorem dX5_readWord_38 : decode cX5_readWord 38 = .ok (.aload_n 0, 1) := by decide +kernel
theorem dX5_readWord_39 : decode cX5_readWord 39 = .ok (.iload_n 2, 1) := by decide +kernel
theorem dX5_readWord_40 : decode cX5_readWord 40 = .ok (.invokestatic 82, 3) := by decide +kernel
theorem dX5_readWord_43 : decode cX5_readWord 43 = .ok (.iload_n 1, 1) := by decide +kernel
theorem dX5_readWord_44 : decode cX5_readWord 44 = .ok (.invokevirtual 85, 3) := by decide +kernel
theorem dX5_readWord_47 : decode cX5_readWord 47 = .ok (.ifCond .eq 10, 3) := by decide +kernel
theorem dX5_readWord_50 : decode cX5_readWord 50 = .ok (.aload_n 0, 1) := by decide +kernel
theorem dX5_readWord_51 : decode cX5_readWord 51 = .ok (.iload_n 1, 1) := by decide +kernel
theorem dX5_readWord_52 : decode cX5_readWord 52 = .ok (.putfield 31, 3) := by decide +kernel
theorem dX5_readWord_55 : decode cX5_readWord 55 = .ok (.iload_n 2, 1) := by decide +kernel
theorem dX5_readWord_56 : decode cX5_readWord 56 = .ok (.ireturn, 1) := by decide +kernel
theorem dX5_readWord_57 : decode cX5_readWord 57 = .ok (.iinc 2 1, 3) := by decide +kernel
theorem dX5_readWord_60 : decode cX5_readWord 60 = .ok (.goto (-28), 3) := by decide +kernel
theorem dX5_readWord_63 : decode cX5_readWord 63 = .ok (.aload_n 0, 1) := by decide +kernel
theorem dX5_readWord_64 : decode cX5_readWord 64 = .ok (.aload_n 0, 1) := by decide +kernel
theorem dX5_readWord_65 : decode cX5_readWord 65 = .ok (.getfield 31, 3) := by decide +kernel
theorem dX5_readWord_68 : decode cX5_readWord 68 = .ok (.putfield 34, 3) := by decide +kernel
theorem dX5_readWord_71 : decode cX5_readWord 71 = .ok (.bipush 15, 2) := by decide +kernel
theorem dX5_readWord_73 : decode cX5_readWord 73 = .ok (.ireturn, 1) := by decide +kernel
def F_X5_readWord_l32  (P : VP) (post : Int32 → VP → Prop)  (v1 : Int32) (X : Int32 → Prop) (v2 : Int32) : Prop :=
  (v2 < 15 → F_X5_spellingOf v2 P (fun r40 => F_X5_isSpelled r40 v1 P (fun r44 => (r44 = 0 → X (v2 + 1)) ∧ (¬ r44 = 0 → ∀ P52 : VP, P52 = vup P 17 0 6 v1 → (post v2 P52))))) ∧ (¬ v2 < 15 → ∀ P68 : VP, P68 = vup P 17 0 7 (P 17 0 6) → (post ((15 : Int32)) P68))
set_option maxRecDepth 4000 in
theorem s_X5_readWord_l32 {l : Launch} {g : vG}  {P Q : VP} {post : Int32 → VP → Prop}  {v1 : Int32}  {v2 : Int32}   (h : vL1 (F_X5_readWord_l32  P post  v1) v2) : VM l g RX5 cX5_readWord 3 (some .int) 5 (vcI Q post) 32 [(0, vR 17 0), (1, vI v1), (2, vI v2)] [] (vjn P Q) := by
  refine vL1_s (T := fun v2 => VM l g RX5 cX5_readWord 3 (some .int) 5 (vcI Q post) 32 [(0, vR 17 0), (1, vI v1), (2, vI v2)] [] (vjn P Q)) ?_ h
  clear h
  intro X hX v2 h
  unfold F_X5_readWord_l32 at h
  refine vr_iload_n 2 2 dX5_readWord_32 rfl rfl ?_
  refine vr_bipush 15 dX5_readWord_33 (by decide) ?_
  refine vr_icmpge 63 dX5_readWord_35 (by decide) (fun c35 => ?_) (fun c35 => ?_)
  · have h := h.1 c35
    refine vr_aload_n 0 0 dX5_readWord_38 rfl rfl ?_
    refine vr_iload_n 2 2 dX5_readWord_39 rfl rfl ?_
    refine vr_callS RX5 (s_X5_spellingOf h) rfl rfl ml_5_82 rfl yh_X5_spellingOf rfl ⟨Nat.le_of_ble_eq_true rfl, Nat.le_of_ble_eq_true rfl⟩ (Nat.le_of_ble_eq_true rfl) ⟨Nat.zero_le _, Nat.zero_le _⟩ dX5_readWord_40 (kt fun r40 hvr40 h => ?_)
    refine vr_iload_n 1 1 dX5_readWord_43 rfl rfl ?_
    refine vr_callV RX5 (s_X5_isSpelled hvr40 h) rfl (by decide) rfl rfl rfl ml_5_85 rfl yh_X5_isSpelled rfl ⟨Nat.le_of_ble_eq_true rfl, Nat.le_of_ble_eq_true rfl⟩ (Nat.le_of_ble_eq_true rfl) ⟨Nat.zero_le _, Nat.zero_le _⟩ dX5_readWord_44 (ki fun r44 h => ?_)
    refine vr_ifeq 57 dX5_readWord_47 (by decide) (fun c47 => ?_) (fun c47 => ?_)
    · have h := h.1 c47
      refine vr_iinc (v2 + 1) 2 [(2, vI (v2 + 1)), (0, vR 17 0), (1, vI v1)] dX5_readWord_57 rfl rfl (by decide) rfl ?_
      refine vr_goto 32 dX5_readWord_60 (by decide) ?_
      refine vr_sub [1, 2, 0] [(0, vR 17 0), (1, vI v1), (2, vI (v2 + 1))] rfl ?_
      exact hX _ h
    · have h := h.2 c47
      refine vr_aload_n 0 0 dX5_readWord_50 rfl rfl ?_
      refine vr_iload_n 1 1 dX5_readWord_51 rfl rfl ?_
      obtain ⟨P52, eP52⟩ : ∃ y : VP, y = vup P 17 0 6 v1 := ⟨_, rfl⟩
      have h := h P52 eP52
      refine vp_17_6 RX5 rfl (by decide) fl_5_31 eP52 dX5_readWord_52 ?_
      refine vr_iload_n 2 2 dX5_readWord_55 rfl rfl ?_
      exact vr_iret rfl ⟨_, _, rfl, rfl, h⟩ dX5_readWord_56
  · have h := h.2 c35
    refine vr_aload_n 0 0 dX5_readWord_63 rfl rfl ?_
    refine vr_aload_n 0 0 dX5_readWord_64 rfl rfl ?_
    refine vg_17_6 RX5 rfl (by decide) fl_5_31 dX5_readWord_65 ?_
    obtain ⟨P68, eP68⟩ : ∃ y : VP, y = vup P 17 0 7 (P 17 0 6) := ⟨_, rfl⟩
    have h := h P68 eP68
    refine vp_17_7 RX5 rfl (by decide) fl_5_34 eP68 dX5_readWord_68 ?_
    refine vr_bipush 15 dX5_readWord_71 (by decide) ?_
    exact vr_iret rfl ⟨_, _, rfl, rfl, h⟩ dX5_readWord_73
def F_X5_readWord_l5  (P : VP) (post : Int32 → VP → Prop)   (X : Int32 → Prop) (v1 : Int32) : Prop :=
  (v1 < P 17 0 1 → F_X5_byteAt v1 P (fun r15 => F_X5_isLetter r15 P (fun r18 => (r18 = 0 → vL1 (F_X5_readWord_l32  P post  v1) ((0 : Int32))) ∧ (¬ r18 = 0 → X (v1 + 1))))) ∧ (¬ v1 < P 17 0 1 → vL1 (F_X5_readWord_l32  P post  v1) ((0 : Int32)))
set_option maxRecDepth 4000 in
theorem s_X5_readWord_l5 {l : Launch} {g : vG}  {P Q : VP} {post : Int32 → VP → Prop}    {v1 : Int32}   (h : vL1 (F_X5_readWord_l5  P post  ) v1) : VM l g RX5 cX5_readWord 3 (some .int) 5 (vcI Q post) 5 [(0, vR 17 0), (1, vI v1)] [] (vjn P Q) := by
  refine vL1_s (T := fun v1 => VM l g RX5 cX5_readWord 3 (some .int) 5 (vcI Q post) 5 [(0, vR 17 0), (1, vI v1)] [] (vjn P Q)) ?_ h
  clear h
  intro X hX v1 h
  unfold F_X5_readWord_l5 at h
  refine vr_iload_n 1 1 dX5_readWord_5 rfl rfl ?_
  refine vr_aload_n 0 0 dX5_readWord_6 rfl rfl ?_
  refine vg_17_1 RX5 rfl (by decide) fl_5_24 dX5_readWord_7 ?_
  refine vr_icmpge 30 dX5_readWord_10 (by decide) (fun c10 => ?_) (fun c10 => ?_)
  · have h := h.1 c10
    refine vr_aload_n 0 0 dX5_readWord_13 rfl rfl ?_
    refine vr_iload_n 1 1 dX5_readWord_14 rfl rfl ?_
    refine vr_callV RX5 (s_X5_byteAt h) rfl (by decide) rfl rfl rfl ml_5_74 rfl yh_X5_byteAt rfl ⟨Nat.le_of_ble_eq_true rfl, Nat.le_of_ble_eq_true rfl⟩ (Nat.le_of_ble_eq_true rfl) ⟨Nat.zero_le _, Nat.zero_le _⟩ dX5_readWord_15 (ki fun r15 h => ?_)
    refine vr_callS RX5 (s_X5_isLetter h) rfl rfl ml_5_78 rfl yh_X5_isLetter rfl ⟨Nat.le_of_ble_eq_true rfl, Nat.le_of_ble_eq_true rfl⟩ (Nat.le_of_ble_eq_true rfl) ⟨Nat.zero_le _, Nat.zero_le _⟩ dX5_readWord_18 (ki fun r18 h => ?_)
    refine vr_ifeq 30 dX5_readWord_21 (by decide) (fun c21 => ?_) (fun c21 => ?_)
    · have h := h.1 c21
      refine vr_iconst 0 dX5_readWord_30 (by decide) ?_
      refine vr_istore_n 2 [(2, vI 0), (0, vR 17 0), (1, vI v1)] dX5_readWord_31 rfl (by decide) rfl ?_
      refine vr_sub [1, 2, 0] [(0, vR 17 0), (1, vI v1), (2, vI 0)] rfl ?_
      exact s_X5_readWord_l32   h
    · have h := h.2 c21
      refine vr_iinc (v1 + 1) 1 [(1, vI (v1 + 1)), (0, vR 17 0)] dX5_readWord_24 rfl rfl (by decide) rfl ?_
      refine vr_goto 5 dX5_readWord_27 (by decide) ?_
      refine vr_sub [1, 0] [(0, vR 17 0), (1, vI (v1 + 1))] rfl ?_
      exact hX _ h
  · have h := h.2 c10
    refine vr_iconst 0 dX5_readWord_30 (by decide) ?_
    refine vr_istore_n 2 [(2, vI 0), (0, vR 17 0), (1, vI v1)] dX5_readWord_31 rfl (by decide) rfl ?_
    refine vr_sub [1, 2, 0] [(0, vR 17 0), (1, vI v1), (2, vI 0)] rfl ?_
    exact s_X5_readWord_l32   h
def F_X5_readWord  (P : VP) (post : Int32 → VP → Prop) : Prop :=
  vL1 (F_X5_readWord_l5  P post  ) (P 17 0 6)
set_option maxRecDepth 4000 in
theorem s_X5_readWord {l : Launch} {g : vG}  {P Q : VP} {post : Int32 → VP → Prop}  (h : F_X5_readWord  P post) : VC l g yX5_readWord cX5_readWord 3 (some .int) 5 [vR 17 0] (vjn P Q) (vcI Q post) := by
  refine VC.of (by decide +kernel) (Nat.le_of_ble_eq_true rfl) (show VM l g RX5 cX5_readWord 3 (some .int) 5 (vcI Q post) 0 [(0, vR 17 0)] [] (vjn P Q) from ?_)
  unfold F_X5_readWord at h
  refine vr_aload_n 0 0 dX5_readWord_0 rfl rfl ?_
  refine vg_17_6 RX5 rfl (by decide) fl_5_31 dX5_readWord_1 ?_
  refine vr_istore_n 1 [(1, vI (P 17 0 6)), (0, vR 17 0)] dX5_readWord_4 rfl (by decide) rfl ?_
  refine vr_sub [1, 0] [(0, vR 17 0), (1, vI (P 17 0 6))] rfl ?_
  exact s_X5_readWord_l5   h
theorem dX5_tell_0 : decode cX5_tell 0 = .ok (.aload_n 0, 1) := by decide +kernel
theorem dX5_tell_1 : decode cX5_tell 1 = .ok (.getfield 28, 3) := by decide +kernel
theorem dX5_tell_4 : decode cX5_tell 4 = .ok (.ifCond .lt 42, 3) := by decide +kernel
theorem dX5_tell_7 : decode cX5_tell 7 = .ok (.aload_n 0, 1) := by decide +kernel
theorem dX5_tell_8 : decode cX5_tell 8 = .ok (.getfield 28, 3) := by decide +kernel
theorem dX5_tell_11 : decode cX5_tell 11 = .ok (.bipush 120, 2) := by decide +kernel
theorem dX5_tell_13 : decode cX5_tell 13 = .ok (.if_icmp .gt 33, 3) := by decide +kernel
theorem dX5_tell_16 : decode cX5_tell 16 = .ok (.aload_n 0, 1) := by decide +kernel
theorem dX5_tell_17 : decode cX5_tell 17 = .ok (.getfield 15, 3) := by decide +kernel
theorem dX5_tell_20 : decode cX5_tell 20 = .ok (.aload_n 0, 1) := by decide +kernel
theorem dX5_tell_21 : decode cX5_tell 21 = .ok (.getfield 28, 3) := by decide +kernel
theorem dX5_tell_24 : decode cX5_tell 24 = .ok (.iload_n 1, 1) := by decide +kernel
theorem dX5_tell_25 : decode cX5_tell 25 = .ok (.iastore, 1) := by decide +kernel
theorem dX5_tell_26 : decode cX5_tell 26 = .ok (.aload_n 0, 1) := by decide +kernel
theorem dX5_tell_27 : decode cX5_tell 27 = .ok (.getfield 18, 3) := by decide +kernel
theorem dX5_tell_30 : decode cX5_tell 30 = .ok (.aload_n 0, 1) := by decide +kernel
theorem dX5_tell_31 : decode cX5_tell 31 = .ok (.getfield 28, 3) := by decide +kernel
theorem dX5_tell_34 : decode cX5_tell 34 = .ok (.iload_n 2, 1) := by decide +kernel
theorem dX5_tell_35 : decode cX5_tell 35 = .ok (.iastore, 1) := by decide +kernel
theorem dX5_tell_36 : decode cX5_tell 36 = .ok (.aload_n 0, 1) := by decide +kernel
theorem dX5_tell_37 : decode cX5_tell 37 = .ok (.dup, 1) := by decide +kernel
theorem dX5_tell_38 : decode cX5_tell 38 = .ok (.getfield 28, 3) := by decide +kernel
theorem dX5_tell_41 : decode cX5_tell 41 = .ok (.iconst 1, 1) := by decide +kernel
theorem dX5_tell_42 : decode cX5_tell 42 = .ok (.iadd, 1) := by decide +kernel
theorem dX5_tell_43 : decode cX5_tell 43 = .ok (.putfield 28, 3) := by decide +kernel
theorem dX5_tell_46 : decode cX5_tell 46 = .ok (.return_, 1) := by decide +kernel
def F_X5_tell (x1 : Int32) (x2 : Int32) (P : VP) (post : VP → Prop) : Prop :=
  (P 17 0 2 < 0 → post P) ∧ (¬ P 17 0 2 < 0 → ((120 : Int32) < P 17 0 2 → post P) ∧ (¬ (120 : Int32) < P 17 0 2 → (0 ≤ P 17 0 2 ∧ P 17 0 2 < 121) ∧ (∀ P25 : VP, P25 = vup P 19 0 (ix (P 17 0 2)) x1 → ((0 ≤ P25 17 0 2 ∧ P25 17 0 2 < 121) ∧ (∀ P35 : VP, P35 = vup P25 20 0 (ix (P25 17 0 2)) x2 → (∀ P43 : VP, P43 = vup P35 17 0 2 ((P35 17 0 2) + 1) → (post P43)))))))
set_option maxRecDepth 4000 in
theorem s_X5_tell {l : Launch} {g : vG} {x1 : Int32} {x2 : Int32} {P Q : VP} {post : VP → Prop}  (h : F_X5_tell x1 x2 P post) : VC l g yX5_tell cX5_tell 3 none 0 [vR 17 0, vI x1, vI x2] (vjn P Q) (vcV Q post) := by
  refine VC.of (by decide +kernel) (Nat.le_of_ble_eq_true rfl) (show VM l g RX5 cX5_tell 3 none 0 (vcV Q post) 0 [(0, vR 17 0), (1, vI x1), (2, vI x2)] [] (vjn P Q) from ?_)
  unfold F_X5_tell at h
  refine vr_aload_n 0 0 dX5_tell_0 rfl rfl ?_
  refine vg_17_2 RX5 rfl (by decide) fl_5_28 dX5_tell_1 ?_
  refine vr_iflt 46 dX5_tell_4 (by decide) (fun c4 => ?_) (fun c4 => ?_)
  · have h := h.1 c4
    exact vr_vret rfl ⟨_, rfl, rfl, h⟩ dX5_tell_46
  · have h := h.2 c4
    refine vr_aload_n 0 0 dX5_tell_7 rfl rfl ?_
    refine vg_17_2 RX5 rfl (by decide) fl_5_28 dX5_tell_8 ?_
    refine vr_bipush 120 dX5_tell_11 (by decide) ?_
    refine vr_icmpgt 46 dX5_tell_13 (by decide) (fun c13 => ?_) (fun c13 => ?_)
    · have h := h.1 c13
      exact vr_vret rfl ⟨_, rfl, rfl, h⟩ dX5_tell_46
    · have h := h.2 c13
      refine vr_aload_n 0 0 dX5_tell_16 rfl rfl ?_
      refine vg_17_3 RX5 rfl (by decide) fl_5_15 dX5_tell_17 ?_
      refine vr_aload_n 0 0 dX5_tell_20 rfl rfl ?_
      refine vg_17_2 RX5 rfl (by decide) fl_5_28 dX5_tell_21 ?_
      refine vr_iload_n 1 1 dX5_tell_24 rfl rfl ?_
      have hi := h.1
      have h := h.2
      obtain ⟨P25, eP25⟩ : ∃ y : VP, y = vup P 19 0 (ix (P 17 0 2)) x1 := ⟨_, rfl⟩
      have h := h P25 eP25
      refine vr_iastP 121 (ia_19 (x := 0) (by decide)) rfl hi eP25 dX5_tell_25 ?_
      refine vr_aload_n 0 0 dX5_tell_26 rfl rfl ?_
      refine vg_17_4 RX5 rfl (by decide) fl_5_18 dX5_tell_27 ?_
      refine vr_aload_n 0 0 dX5_tell_30 rfl rfl ?_
      refine vg_17_2 RX5 rfl (by decide) fl_5_28 dX5_tell_31 ?_
      refine vr_iload_n 2 2 dX5_tell_34 rfl rfl ?_
      have hi := h.1
      have h := h.2
      obtain ⟨P35, eP35⟩ : ∃ y : VP, y = vup P25 20 0 (ix (P25 17 0 2)) x2 := ⟨_, rfl⟩
      have h := h P35 eP35
      refine vr_iastP 121 (ia_20 (x := 0) (by decide)) rfl hi eP35 dX5_tell_35 ?_
      refine vr_aload_n 0 0 dX5_tell_36 rfl rfl ?_
      refine vr_dup dX5_tell_37 rfl ?_
      refine vg_17_2 RX5 rfl (by decide) fl_5_28 dX5_tell_38 ?_
      refine vr_iconst 1 dX5_tell_41 (by decide) ?_
      refine vr_iadd dX5_tell_42 ?_
      obtain ⟨P43, eP43⟩ : ∃ y : VP, y = vup P35 17 0 2 ((P35 17 0 2) + 1) := ⟨_, rfl⟩
      have h := h P43 eP43
      refine vp_17_2 RX5 rfl (by decide) fl_5_28 eP43 dX5_tell_43 ?_
      exact vr_vret rfl ⟨_, rfl, rfl, h⟩ dX5_tell_46
theorem dX5_tellWord_0 : decode cX5_tellWord 0 = .ok (.iload_n 1, 1) := by decide +kernel
theorem dX5_tellWord_1 : decode cX5_tellWord 1 = .ok (.tableswitch 152 10 14 #[44, 58, 93, 128, 35], 35) := by decide +kernel
theorem dX5_tellWord_36 : decode cX5_tellWord 36 = .ok (.aload_n 0, 1) := by decide +kernel
theorem dX5_tellWord_37 : decode cX5_tellWord 37 = .ok (.iconst 0, 1) := by decide +kernel
theorem dX5_tellWord_38 : decode cX5_tellWord 38 = .ok (.iconst 0, 1) := by decide +kernel
theorem dX5_tellWord_39 : decode cX5_tellWord 39 = .ok (.invokevirtual 71, 3) := by decide +kernel
theorem dX5_tellWord_42 : decode cX5_tellWord 42 = .ok (.goto 156, 3) := by decide +kernel
theorem dX5_tellWord_45 : decode cX5_tellWord 45 = .ok (.aload_n 0, 1) := by decide +kernel
theorem dX5_tellWord_46 : decode cX5_tellWord 46 = .ok (.iconst 1, 1) := by decide +kernel
theorem dX5_tellWord_47 : decode cX5_tellWord 47 = .ok (.aload_n 0, 1) := by decide +kernel
theorem dX5_tellWord_48 : decode cX5_tellWord 48 = .ok (.getfield 21, 3) := by decide +kernel
theorem dX5_tellWord_51 : decode cX5_tellWord 51 = .ok (.iconst 0, 1) := by decide +kernel
theorem dX5_tellWord_52 : decode cX5_tellWord 52 = .ok (.iaload, 1) := by decide +kernel
theorem dX5_tellWord_53 : decode cX5_tellWord 53 = .ok (.invokevirtual 71, 3) := by decide +kernel
theorem dX5_tellWord_56 : decode cX5_tellWord 56 = .ok (.goto 142, 3) := by decide +kernel
theorem dX5_tellWord_59 : decode cX5_tellWord 59 = .ok (.aload_n 0, 1) := by decide +kernel
theorem dX5_tellWord_60 : decode cX5_tellWord 60 = .ok (.iconst 2, 1) := by decide +kernel
theorem dX5_tellWord_61 : decode cX5_tellWord 61 = .ok (.sipush 1000, 3) := by decide +kernel
theorem dX5_tellWord_64 : decode cX5_tellWord 64 = .ok (.aload_n 0, 1) := by decide +kernel
theorem dX5_tellWord_65 : decode cX5_tellWord 65 = .ok (.getfield 21, 3) := by decide +kernel
theorem dX5_tellWord_68 : decode cX5_tellWord 68 = .ok (.iconst 1, 1) := by decide +kernel
theorem dX5_tellWord_69 : decode cX5_tellWord 69 = .ok (.iaload, 1) := by decide +kernel
theorem dX5_tellWord_70 : decode cX5_tellWord 70 = .ok (.imul, 1) := by decide +kernel
theorem dX5_tellWord_71 : decode cX5_tellWord 71 = .ok (.bipush 100, 2) := by decide +kernel
theorem dX5_tellWord_73 : decode cX5_tellWord 73 = .ok (.aload_n 0, 1) := by decide +kernel
theorem dX5_tellWord_74 : decode cX5_tellWord 74 = .ok (.getfield 21, 3) := by decide +kernel
theorem dX5_tellWord_77 : decode cX5_tellWord 77 = .ok (.iconst 0, 1) := by decide +kernel
theorem dX5_tellWord_78 : decode cX5_tellWord 78 = .ok (.iaload, 1) := by decide +kernel
theorem dX5_tellWord_79 : decode cX5_tellWord 79 = .ok (.imul, 1) := by decide +kernel
theorem dX5_tellWord_80 : decode cX5_tellWord 80 = .ok (.iadd, 1) := by decide +kernel
theorem dX5_tellWord_81 : decode cX5_tellWord 81 = .ok (.aload_n 0, 1) := by decide +kernel
theorem dX5_tellWord_82 : decode cX5_tellWord 82 = .ok (.getfield 21, 3) := by decide +kernel
theorem dX5_tellWord_85 : decode cX5_tellWord 85 = .ok (.iconst 2, 1) := by decide +kernel
theorem dX5_tellWord_86 : decode cX5_tellWord 86 = .ok (.iaload, 1) := by decide +kernel
theorem dX5_tellWord_87 : decode cX5_tellWord 87 = .ok (.iadd, 1) := by decide +kernel
theorem dX5_tellWord_88 : decode cX5_tellWord 88 = .ok (.invokevirtual 71, 3) := by decide +kernel
theorem dX5_tellWord_91 : decode cX5_tellWord 91 = .ok (.goto 107, 3) := by decide +kernel
theorem dX5_tellWord_94 : decode cX5_tellWord 94 = .ok (.aload_n 0, 1) := by decide +kernel
theorem dX5_tellWord_95 : decode cX5_tellWord 95 = .ok (.iconst 3, 1) := by decide +kernel
theorem dX5_tellWord_96 : decode cX5_tellWord 96 = .ok (.sipush 1000, 3) := by decide +kernel
theorem dX5_tellWord_99 : decode cX5_tellWord 99 = .ok (.aload_n 0, 1) := by decide +kernel
theorem dX5_tellWord_100 : decode cX5_tellWord 100 = .ok (.getfield 21, 3) := by decide +kernel
theorem dX5_tellWord_103 : decode cX5_tellWord 103 = .ok (.iconst 1, 1) := by decide +kernel
theorem dX5_tellWord_104 : decode cX5_tellWord 104 = .ok (.iaload, 1) := by decide +kernel
theorem dX5_tellWord_105 : decode cX5_tellWord 105 = .ok (.imul, 1) := by decide +kernel
theorem dX5_tellWord_106 : decode cX5_tellWord 106 = .ok (.bipush 100, 2) := by decide +kernel
theorem dX5_tellWord_108 : decode cX5_tellWord 108 = .ok (.aload_n 0, 1) := by decide +kernel
theorem dX5_tellWord_109 : decode cX5_tellWord 109 = .ok (.getfield 21, 3) := by decide +kernel
theorem dX5_tellWord_112 : decode cX5_tellWord 112 = .ok (.iconst 0, 1) := by decide +kernel
theorem dX5_tellWord_113 : decode cX5_tellWord 113 = .ok (.iaload, 1) := by decide +kernel
theorem dX5_tellWord_114 : decode cX5_tellWord 114 = .ok (.imul, 1) := by decide +kernel
theorem dX5_tellWord_115 : decode cX5_tellWord 115 = .ok (.iadd, 1) := by decide +kernel
theorem dX5_tellWord_116 : decode cX5_tellWord 116 = .ok (.aload_n 0, 1) := by decide +kernel
theorem dX5_tellWord_117 : decode cX5_tellWord 117 = .ok (.getfield 21, 3) := by decide +kernel
theorem dX5_tellWord_120 : decode cX5_tellWord 120 = .ok (.iconst 2, 1) := by decide +kernel
theorem dX5_tellWord_121 : decode cX5_tellWord 121 = .ok (.iaload, 1) := by decide +kernel
theorem dX5_tellWord_122 : decode cX5_tellWord 122 = .ok (.iadd, 1) := by decide +kernel
theorem dX5_tellWord_123 : decode cX5_tellWord 123 = .ok (.invokevirtual 71, 3) := by decide +kernel
theorem dX5_tellWord_126 : decode cX5_tellWord 126 = .ok (.goto 72, 3) := by decide +kernel
theorem dX5_tellWord_129 : decode cX5_tellWord 129 = .ok (.aload_n 0, 1) := by decide +kernel
theorem dX5_tellWord_130 : decode cX5_tellWord 130 = .ok (.iconst 4, 1) := by decide +kernel
theorem dX5_tellWord_131 : decode cX5_tellWord 131 = .ok (.bipush 100, 2) := by decide +kernel
theorem dX5_tellWord_133 : decode cX5_tellWord 133 = .ok (.aload_n 0, 1) := by decide +kernel
theorem dX5_tellWord_134 : decode cX5_tellWord 134 = .ok (.getfield 21, 3) := by decide +kernel
theorem dX5_tellWord_137 : decode cX5_tellWord 137 = .ok (.iconst 0, 1) := by decide +kernel
theorem dX5_tellWord_138 : decode cX5_tellWord 138 = .ok (.iaload, 1) := by decide +kernel
theorem dX5_tellWord_139 : decode cX5_tellWord 139 = .ok (.imul, 1) := by decide +kernel
theorem dX5_tellWord_140 : decode cX5_tellWord 140 = .ok (.aload_n 0, 1) := by decide +kernel
theorem dX5_tellWord_141 : decode cX5_tellWord 141 = .ok (.getfield 21, 3) := by decide +kernel
theorem dX5_tellWord_144 : decode cX5_tellWord 144 = .ok (.iconst 1, 1) := by decide +kernel
theorem dX5_tellWord_145 : decode cX5_tellWord 145 = .ok (.iaload, 1) := by decide +kernel
theorem dX5_tellWord_146 : decode cX5_tellWord 146 = .ok (.iadd, 1) := by decide +kernel
theorem dX5_tellWord_147 : decode cX5_tellWord 147 = .ok (.invokevirtual 71, 3) := by decide +kernel
theorem dX5_tellWord_150 : decode cX5_tellWord 150 = .ok (.goto 48, 3) := by decide +kernel
theorem dX5_tellWord_153 : decode cX5_tellWord 153 = .ok (.aload_n 0, 1) := by decide +kernel
theorem dX5_tellWord_154 : decode cX5_tellWord 154 = .ok (.bipush 6, 2) := by decide +kernel
theorem dX5_tellWord_156 : decode cX5_tellWord 156 = .ok (.sipush 1000, 3) := by decide +kernel
theorem dX5_tellWord_159 : decode cX5_tellWord 159 = .ok (.iload_n 1, 1) := by decide +kernel
theorem dX5_tellWord_160 : decode cX5_tellWord 160 = .ok (.imul, 1) := by decide +kernel
theorem dX5_tellWord_161 : decode cX5_tellWord 161 = .ok (.iload_n 2, 1) := by decide +kernel
theorem dX5_tellWord_162 : decode cX5_tellWord 162 = .ok (.ifCond .le 15, 3) := by decide +kernel
theorem dX5_tellWord_165 : decode cX5_tellWord 165 = .ok (.bipush 10, 2) := by decide +kernel
theorem dX5_tellWord_167 : decode cX5_tellWord 167 = .ok (.aload_n 0, 1) := by decide +kernel
theorem dX5_tellWord_168 : decode cX5_tellWord 168 = .ok (.getfield 21, 3) := by decide +kernel
theorem dX5_tellWord_171 : decode cX5_tellWord 171 = .ok (.iconst 0, 1) := by decide +kernel
theorem dX5_tellWord_172 : decode cX5_tellWord 172 = .ok (.iaload, 1) := by decide +kernel
theorem dX5_tellWord_173 : decode cX5_tellWord 173 = .ok (.imul, 1) := by decide +kernel
theorem dX5_tellWord_174 : decode cX5_tellWord 174 = .ok (.goto 4, 3) := by decide +kernel
theorem dX5_tellWord_177 : decode cX5_tellWord 177 = .ok (.iconst 0, 1) := by decide +kernel
theorem dX5_tellWord_178 : decode cX5_tellWord 178 = .ok (.iadd, 1) := by decide +kernel
theorem dX5_tellWord_179 : decode cX5_tellWord 179 = .ok (.iload_n 2, 1) := by decide +kernel
theorem dX5_tellWord_180 : decode cX5_tellWord 180 = .ok (.iconst 1, 1) := by decide +kernel
theorem dX5_tellWord_181 : decode cX5_tellWord 181 = .ok (.if_icmp .le 12, 3) := by decide +kernel
theorem dX5_tellWord_184 : decode cX5_tellWord 184 = .ok (.aload_n 0, 1) := by decide +kernel
theorem dX5_tellWord_185 : decode cX5_tellWord 185 = .ok (.getfield 21, 3) := by decide +kernel
theorem dX5_tellWord_188 : decode cX5_tellWord 188 = .ok (.iconst 1, 1) := by decide +kernel
theorem dX5_tellWord_189 : decode cX5_tellWord 189 = .ok (.iaload, 1) := by decide +kernel
theorem dX5_tellWord_190 : decode cX5_tellWord 190 = .ok (.goto 4, 3) := by decide +kernel
theorem dX5_tellWord_193 : decode cX5_tellWord 193 = .ok (.iconst 0, 1) := by decide +kernel
theorem dX5_tellWord_194 : decode cX5_tellWord 194 = .ok (.iadd, 1) := by decide +kernel
theorem dX5_tellWord_195 : decode cX5_tellWord 195 = .ok (.invokevirtual 71, 3) := by decide +kernel
theorem dX5_tellWord_198 : decode cX5_tellWord 198 = .ok (.return_, 1) := by decide +kernel
def F_X5_tellWord_b178 (x1 : Int32) (x2 : Int32) (P : VP) (post : VP → Prop)  (t0 : Int32) (t1 : Int32) : Prop :=
  ((1 : Int32) < x2 → (0 ≤ (1 : Int32) ∧ (1 : Int32) < 3) ∧ (F_X5_tell ((6 : Int32)) ((t1 + t0) + (P 21 0 (ix ((1 : Int32))))) P (fun P195 => post P195))) ∧ (¬ (1 : Int32) < x2 → F_X5_tell ((6 : Int32)) ((t1 + t0) + 0) P (fun P195 => post P195))
set_option maxRecDepth 4000 in
theorem s_X5_tellWord_b178 {l : Launch} {g : vG} {x1 : Int32} {x2 : Int32} {P Q : VP} {post : VP → Prop}  {t0 : Int32} {t1 : Int32}    (h : F_X5_tellWord_b178 x1 x2 P post  t0 t1) : VM l g RX5 cX5_tellWord 3 none 1 (vcV Q post) 178 [(0, vR 17 0), (2, vI x2)] [vI t0, vI t1, vI 6, vR 17 0] (vjn P Q) := by
  unfold F_X5_tellWord_b178 at h
  refine vr_iadd dX5_tellWord_178 ?_
  refine vr_iload_n 2 1 dX5_tellWord_179 rfl rfl ?_
  refine vr_iconst 1 dX5_tellWord_180 (by decide) ?_
  refine vr_icmple 193 dX5_tellWord_181 (by decide) (fun c181 => ?_) (fun c181 => ?_)
  · have h := h.1 c181
    refine vr_aload_n 0 0 dX5_tellWord_184 rfl rfl ?_
    refine vg_17_5 RX5 rfl (by decide) fl_5_21 dX5_tellWord_185 ?_
    refine vr_iconst 1 dX5_tellWord_188 (by decide) ?_
    have hi := h.1
    have h := h.2
    refine vr_ialdP 3 (ia_21 (x := 0) (by decide)) rfl hi dX5_tellWord_189 ?_
    refine vr_goto 194 dX5_tellWord_190 (by decide) ?_
    refine vr_iadd dX5_tellWord_194 ?_
    refine vr_callV RX5 (s_X5_tell h) rfl (by decide) rfl rfl rfl ml_5_71 rfl yh_X5_tell rfl ⟨Nat.le_of_ble_eq_true rfl, Nat.le_of_ble_eq_true rfl⟩ (Nat.le_of_ble_eq_true rfl) ⟨Nat.zero_le _, Nat.zero_le _⟩ dX5_tellWord_195 (kcv fun P195 h => ?_)
    exact vr_vret rfl ⟨_, rfl, rfl, h⟩ dX5_tellWord_198
  · have h := h.2 c181
    refine vr_iconst 0 dX5_tellWord_193 (by decide) ?_
    refine vr_iadd dX5_tellWord_194 ?_
    refine vr_callV RX5 (s_X5_tell h) rfl (by decide) rfl rfl rfl ml_5_71 rfl yh_X5_tell rfl ⟨Nat.le_of_ble_eq_true rfl, Nat.le_of_ble_eq_true rfl⟩ (Nat.le_of_ble_eq_true rfl) ⟨Nat.zero_le _, Nat.zero_le _⟩ dX5_tellWord_195 (kcv fun P195 h => ?_)
    exact vr_vret rfl ⟨_, rfl, rfl, h⟩ dX5_tellWord_198
def F_X5_tellWord (x1 : Int32) (x2 : Int32) (P : VP) (post : VP → Prop) : Prop :=
  (x1 = 10 → (0 ≤ (0 : Int32) ∧ (0 : Int32) < 3) ∧ (F_X5_tell ((1 : Int32)) (P 21 0 (ix ((0 : Int32)))) P (fun P53 => post P53))) ∧ (¬ x1 = 10 → (x1 = 11 → (0 ≤ (1 : Int32) ∧ (1 : Int32) < 3) ∧ ((0 ≤ (0 : Int32) ∧ (0 : Int32) < 3) ∧ ((0 ≤ (2 : Int32) ∧ (2 : Int32) < 3) ∧ (F_X5_tell ((2 : Int32)) (((1000 * (P 21 0 (ix ((1 : Int32))))) + (100 * (P 21 0 (ix ((0 : Int32)))))) + (P 21 0 (ix ((2 : Int32))))) P (fun P88 => post P88))))) ∧ (¬ x1 = 11 → (x1 = 12 → (0 ≤ (1 : Int32) ∧ (1 : Int32) < 3) ∧ ((0 ≤ (0 : Int32) ∧ (0 : Int32) < 3) ∧ ((0 ≤ (2 : Int32) ∧ (2 : Int32) < 3) ∧ (F_X5_tell ((3 : Int32)) (((1000 * (P 21 0 (ix ((1 : Int32))))) + (100 * (P 21 0 (ix ((0 : Int32)))))) + (P 21 0 (ix ((2 : Int32))))) P (fun P123 => post P123))))) ∧ (¬ x1 = 12 → (x1 = 13 → (0 ≤ (0 : Int32) ∧ (0 : Int32) < 3) ∧ ((0 ≤ (1 : Int32) ∧ (1 : Int32) < 3) ∧ (F_X5_tell ((4 : Int32)) ((100 * (P 21 0 (ix ((0 : Int32))))) + (P 21 0 (ix ((1 : Int32))))) P (fun P147 => post P147)))) ∧ (¬ x1 = 13 → (x1 = 14 → F_X5_tell ((0 : Int32)) ((0 : Int32)) P (fun P39 => post P39)) ∧ (¬ x1 = 14 → (0 < x2 → (0 ≤ (0 : Int32) ∧ (0 : Int32) < 3) ∧ (F_X5_tellWord_b178 x1 x2 P post  (10 * (P 21 0 (ix ((0 : Int32))))) (1000 * x1))) ∧ (¬ 0 < x2 → F_X5_tellWord_b178 x1 x2 P post  ((0 : Int32)) (1000 * x1)))))))
set_option maxRecDepth 4000 in
theorem s_X5_tellWord {l : Launch} {g : vG} {x1 : Int32} {x2 : Int32} {P Q : VP} {post : VP → Prop}  (h : F_X5_tellWord x1 x2 P post) : VC l g yX5_tellWord cX5_tellWord 3 none 1 [vR 17 0, vI x1, vI x2] (vjn P Q) (vcV Q post) := by
  refine VC.of (by decide +kernel) (Nat.le_of_ble_eq_true rfl) (show VM l g RX5 cX5_tellWord 3 none 1 (vcV Q post) 0 [(0, vR 17 0), (1, vI x1), (2, vI x2)] [] (vjn P Q) from ?_)
  unfold F_X5_tellWord at h
  refine vr_iload_n 1 1 dX5_tellWord_0 rfl rfl ?_
  by_cases c1_0 : x1 = 10
  · have h := h.1 c1_0
    refine vr_tswIn 10 45 dX5_tellWord_1 c1_0 (by decide) rfl (by decide) ?_
    refine vr_aload_n 0 0 dX5_tellWord_45 rfl rfl ?_
    refine vr_iconst 1 dX5_tellWord_46 (by decide) ?_
    refine vr_aload_n 0 0 dX5_tellWord_47 rfl rfl ?_
    refine vg_17_5 RX5 rfl (by decide) fl_5_21 dX5_tellWord_48 ?_
    refine vr_iconst 0 dX5_tellWord_51 (by decide) ?_
    have hi := h.1
    have h := h.2
    refine vr_ialdP 3 (ia_21 (x := 0) (by decide)) rfl hi dX5_tellWord_52 ?_
    refine vr_callV RX5 (s_X5_tell h) rfl (by decide) rfl rfl rfl ml_5_71 rfl yh_X5_tell rfl ⟨Nat.le_of_ble_eq_true rfl, Nat.le_of_ble_eq_true rfl⟩ (Nat.le_of_ble_eq_true rfl) ⟨Nat.zero_le _, Nat.zero_le _⟩ dX5_tellWord_53 (kcv fun P53 h => ?_)
    refine vr_goto 198 dX5_tellWord_56 (by decide) ?_
    exact vr_vret rfl ⟨_, rfl, rfl, h⟩ dX5_tellWord_198
  · have h := h.2 c1_0
    by_cases c1_1 : x1 = 11
    · have h := h.1 c1_1
      refine vr_tswIn 11 59 dX5_tellWord_1 c1_1 (by decide) rfl (by decide) ?_
      refine vr_aload_n 0 0 dX5_tellWord_59 rfl rfl ?_
      refine vr_iconst 2 dX5_tellWord_60 (by decide) ?_
      refine vr_sipush 1000 dX5_tellWord_61 (by decide) ?_
      refine vr_aload_n 0 0 dX5_tellWord_64 rfl rfl ?_
      refine vg_17_5 RX5 rfl (by decide) fl_5_21 dX5_tellWord_65 ?_
      refine vr_iconst 1 dX5_tellWord_68 (by decide) ?_
      have hi := h.1
      have h := h.2
      refine vr_ialdP 3 (ia_21 (x := 0) (by decide)) rfl hi dX5_tellWord_69 ?_
      refine vr_imul dX5_tellWord_70 ?_
      refine vr_bipush 100 dX5_tellWord_71 (by decide) ?_
      refine vr_aload_n 0 0 dX5_tellWord_73 rfl rfl ?_
      refine vg_17_5 RX5 rfl (by decide) fl_5_21 dX5_tellWord_74 ?_
      refine vr_iconst 0 dX5_tellWord_77 (by decide) ?_
      have hi := h.1
      have h := h.2
      refine vr_ialdP 3 (ia_21 (x := 0) (by decide)) rfl hi dX5_tellWord_78 ?_
      refine vr_imul dX5_tellWord_79 ?_
      refine vr_iadd dX5_tellWord_80 ?_
      refine vr_aload_n 0 0 dX5_tellWord_81 rfl rfl ?_
      refine vg_17_5 RX5 rfl (by decide) fl_5_21 dX5_tellWord_82 ?_
      refine vr_iconst 2 dX5_tellWord_85 (by decide) ?_
      have hi := h.1
      have h := h.2
      refine vr_ialdP 3 (ia_21 (x := 0) (by decide)) rfl hi dX5_tellWord_86 ?_
      refine vr_iadd dX5_tellWord_87 ?_
      refine vr_callV RX5 (s_X5_tell h) rfl (by decide) rfl rfl rfl ml_5_71 rfl yh_X5_tell rfl ⟨Nat.le_of_ble_eq_true rfl, Nat.le_of_ble_eq_true rfl⟩ (Nat.le_of_ble_eq_true rfl) ⟨Nat.zero_le _, Nat.zero_le _⟩ dX5_tellWord_88 (kcv fun P88 h => ?_)
      refine vr_goto 198 dX5_tellWord_91 (by decide) ?_
      exact vr_vret rfl ⟨_, rfl, rfl, h⟩ dX5_tellWord_198
    · have h := h.2 c1_1
      by_cases c1_2 : x1 = 12
      · have h := h.1 c1_2
        refine vr_tswIn 12 94 dX5_tellWord_1 c1_2 (by decide) rfl (by decide) ?_
        refine vr_aload_n 0 0 dX5_tellWord_94 rfl rfl ?_
        refine vr_iconst 3 dX5_tellWord_95 (by decide) ?_
        refine vr_sipush 1000 dX5_tellWord_96 (by decide) ?_
        refine vr_aload_n 0 0 dX5_tellWord_99 rfl rfl ?_
        refine vg_17_5 RX5 rfl (by decide) fl_5_21 dX5_tellWord_100 ?_
        refine vr_iconst 1 dX5_tellWord_103 (by decide) ?_
        have hi := h.1
        have h := h.2
        refine vr_ialdP 3 (ia_21 (x := 0) (by decide)) rfl hi dX5_tellWord_104 ?_
        refine vr_imul dX5_tellWord_105 ?_
        refine vr_bipush 100 dX5_tellWord_106 (by decide) ?_
        refine vr_aload_n 0 0 dX5_tellWord_108 rfl rfl ?_
        refine vg_17_5 RX5 rfl (by decide) fl_5_21 dX5_tellWord_109 ?_
        refine vr_iconst 0 dX5_tellWord_112 (by decide) ?_
        have hi := h.1
        have h := h.2
        refine vr_ialdP 3 (ia_21 (x := 0) (by decide)) rfl hi dX5_tellWord_113 ?_
        refine vr_imul dX5_tellWord_114 ?_
        refine vr_iadd dX5_tellWord_115 ?_
        refine vr_aload_n 0 0 dX5_tellWord_116 rfl rfl ?_
        refine vg_17_5 RX5 rfl (by decide) fl_5_21 dX5_tellWord_117 ?_
        refine vr_iconst 2 dX5_tellWord_120 (by decide) ?_
        have hi := h.1
        have h := h.2
        refine vr_ialdP 3 (ia_21 (x := 0) (by decide)) rfl hi dX5_tellWord_121 ?_
        refine vr_iadd dX5_tellWord_122 ?_
        refine vr_callV RX5 (s_X5_tell h) rfl (by decide) rfl rfl rfl ml_5_71 rfl yh_X5_tell rfl ⟨Nat.le_of_ble_eq_true rfl, Nat.le_of_ble_eq_true rfl⟩ (Nat.le_of_ble_eq_true rfl) ⟨Nat.zero_le _, Nat.zero_le _⟩ dX5_tellWord_123 (kcv fun P123 h => ?_)
        refine vr_goto 198 dX5_tellWord_126 (by decide) ?_
        exact vr_vret rfl ⟨_, rfl, rfl, h⟩ dX5_tellWord_198
      · have h := h.2 c1_2
        by_cases c1_3 : x1 = 13
        · have h := h.1 c1_3
          refine vr_tswIn 13 129 dX5_tellWord_1 c1_3 (by decide) rfl (by decide) ?_
          refine vr_aload_n 0 0 dX5_tellWord_129 rfl rfl ?_
          refine vr_iconst 4 dX5_tellWord_130 (by decide) ?_
          refine vr_bipush 100 dX5_tellWord_131 (by decide) ?_
          refine vr_aload_n 0 0 dX5_tellWord_133 rfl rfl ?_
          refine vg_17_5 RX5 rfl (by decide) fl_5_21 dX5_tellWord_134 ?_
          refine vr_iconst 0 dX5_tellWord_137 (by decide) ?_
          have hi := h.1
          have h := h.2
          refine vr_ialdP 3 (ia_21 (x := 0) (by decide)) rfl hi dX5_tellWord_138 ?_
          refine vr_imul dX5_tellWord_139 ?_
          refine vr_aload_n 0 0 dX5_tellWord_140 rfl rfl ?_
          refine vg_17_5 RX5 rfl (by decide) fl_5_21 dX5_tellWord_141 ?_
          refine vr_iconst 1 dX5_tellWord_144 (by decide) ?_
          have hi := h.1
          have h := h.2
          refine vr_ialdP 3 (ia_21 (x := 0) (by decide)) rfl hi dX5_tellWord_145 ?_
          refine vr_iadd dX5_tellWord_146 ?_
          refine vr_callV RX5 (s_X5_tell h) rfl (by decide) rfl rfl rfl ml_5_71 rfl yh_X5_tell rfl ⟨Nat.le_of_ble_eq_true rfl, Nat.le_of_ble_eq_true rfl⟩ (Nat.le_of_ble_eq_true rfl) ⟨Nat.zero_le _, Nat.zero_le _⟩ dX5_tellWord_147 (kcv fun P147 h => ?_)
          refine vr_goto 198 dX5_tellWord_150 (by decide) ?_
          exact vr_vret rfl ⟨_, rfl, rfl, h⟩ dX5_tellWord_198
        · have h := h.2 c1_3
          by_cases c1_4 : x1 = 14
          · have h := h.1 c1_4
            refine vr_tswIn 14 36 dX5_tellWord_1 c1_4 (by decide) rfl (by decide) ?_
            refine vr_aload_n 0 0 dX5_tellWord_36 rfl rfl ?_
            refine vr_iconst 0 dX5_tellWord_37 (by decide) ?_
            refine vr_iconst 0 dX5_tellWord_38 (by decide) ?_
            refine vr_callV RX5 (s_X5_tell h) rfl (by decide) rfl rfl rfl ml_5_71 rfl yh_X5_tell rfl ⟨Nat.le_of_ble_eq_true rfl, Nat.le_of_ble_eq_true rfl⟩ (Nat.le_of_ble_eq_true rfl) ⟨Nat.zero_le _, Nat.zero_le _⟩ dX5_tellWord_39 (kcv fun P39 h => ?_)
            refine vr_goto 198 dX5_tellWord_42 (by decide) ?_
            exact vr_vret rfl ⟨_, rfl, rfl, h⟩ dX5_tellWord_198
          · have h := h.2 c1_4
            refine vr_tswOut 153 dX5_tellWord_1 (by have q0 := lv_neT c1_0 (a := 10) (by decide); have q1 := lv_neT c1_1 (a := 11) (by decide); have q2 := lv_neT c1_2 (a := 12) (by decide); have q3 := lv_neT c1_3 (a := 13) (by decide); have q4 := lv_neT c1_4 (a := 14) (by decide); omega) (by decide) ?_
            refine vr_aload_n 0 0 dX5_tellWord_153 rfl rfl ?_
            refine vr_bipush 6 dX5_tellWord_154 (by decide) ?_
            refine vr_sipush 1000 dX5_tellWord_156 (by decide) ?_
            refine vr_iload_n 1 1 dX5_tellWord_159 rfl rfl ?_
            refine vr_imul dX5_tellWord_160 ?_
            refine vr_iload_n 2 2 dX5_tellWord_161 rfl rfl ?_
            refine vr_ifle 177 dX5_tellWord_162 (by decide) (fun c162 => ?_) (fun c162 => ?_)
            · have h := h.1 c162
              refine vr_bipush 10 dX5_tellWord_165 (by decide) ?_
              refine vr_aload_n 0 0 dX5_tellWord_167 rfl rfl ?_
              refine vg_17_5 RX5 rfl (by decide) fl_5_21 dX5_tellWord_168 ?_
              refine vr_iconst 0 dX5_tellWord_171 (by decide) ?_
              have hi := h.1
              have h := h.2
              refine vr_ialdP 3 (ia_21 (x := 0) (by decide)) rfl hi dX5_tellWord_172 ?_
              refine vr_imul dX5_tellWord_173 ?_
              refine vr_goto 178 dX5_tellWord_174 (by decide) ?_
              refine vr_sub [0, 2] [(0, vR 17 0), (2, vI x2)] rfl ?_
              exact s_X5_tellWord_b178   h
            · have h := h.2 c162
              refine vr_iconst 0 dX5_tellWord_177 (by decide) ?_
              refine vr_sub [0, 2] [(0, vR 17 0), (2, vI x2)] rfl ?_
              exact s_X5_tellWord_b178   h
theorem dX5_readLine_0 : decode cX5_readLine 0 = .ok (.aload_n 0, 1) := by decide +kernel
theorem dX5_readLine_1 : decode cX5_readLine 1 = .ok (.invokevirtual 40, 3) := by decide +kernel
theorem dX5_readLine_4 : decode cX5_readLine 4 = .ok (.istore_n 1, 1) := by decide +kernel
theorem dX5_readLine_5 : decode cX5_readLine 5 = .ok (.iload_n 1, 1) := by decide +kernel
theorem dX5_readLine_6 : decode cX5_readLine 6 = .ok (.invokestatic 44, 3) := by decide +kernel
theorem dX5_readLine_9 : decode cX5_readLine 9 = .ok (.astore_n 2, 1) := by decide +kernel
theorem dX5_readLine_10 : decode cX5_readLine 10 = .ok (.iconst 0, 1) := by decide +kernel
theorem dX5_readLine_11 : decode cX5_readLine 11 = .ok (.istore_n 3, 1) := by decide +kernel
theorem dX5_readLine_12 : decode cX5_readLine 12 = .ok (.iload_n 3, 1) := by decide +kernel
theorem dX5_readLine_13 : decode cX5_readLine 13 = .ok (.aload_n 2, 1) := by decide +kernel
theorem dX5_readLine_14 : decode cX5_readLine 14 = .ok (.invokevirtual 48, 3) := by decide +kernel
theorem dX5_readLine_17 : decode cX5_readLine 17 = .ok (.if_icmp .ge 55, 3) := by decide +kernel
theorem dX5_readLine_20 : decode cX5_readLine 20 = .ok (.iload_n 3, 1) := by decide +kernel
theorem dX5_readLine_21 : decode cX5_readLine 21 = .ok (.aload_n 0, 1) := by decide +kernel
theorem dX5_readLine_22 : decode cX5_readLine 22 = .ok (.getfield 21, 3) := by decide +kernel
theorem dX5_readLine_25 : decode cX5_readLine 25 = .ok (.arraylength, 1) := by decide +kernel
theorem dX5_readLine_26 : decode cX5_readLine 26 = .ok (.if_icmp .ge 46, 3) := by decide +kernel
theorem dX5_readLine_29 : decode cX5_readLine 29 = .ok (.aload_n 0, 1) := by decide +kernel
theorem dX5_readLine_30 : decode cX5_readLine 30 = .ok (.getfield 34, 3) := by decide +kernel
theorem dX5_readLine_33 : decode cX5_readLine 33 = .ok (.ifCond .ge 39, 3) := by decide +kernel
theorem dX5_readLine_36 : decode cX5_readLine 36 = .ok (.aload_n 0, 1) := by decide +kernel
theorem dX5_readLine_37 : decode cX5_readLine 37 = .ok (.invokevirtual 52, 3) := by decide +kernel
theorem dX5_readLine_40 : decode cX5_readLine 40 = .ok (.aload_n 0, 1) := by decide +kernel
theorem dX5_readLine_41 : decode cX5_readLine 41 = .ok (.getfield 21, 3) := by decide +kernel
theorem dX5_readLine_44 : decode cX5_readLine 44 = .ok (.iload_n 3, 1) := by decide +kernel
theorem dX5_readLine_45 : decode cX5_readLine 45 = .ok (.aload_n 0, 1) := by decide +kernel
theorem dX5_readLine_46 : decode cX5_readLine 46 = .ok (.getfield 34, 3) := by decide +kernel
theorem dX5_readLine_49 : decode cX5_readLine 49 = .ok (.ifCond .ge 15, 3) := by decide +kernel
theorem dX5_readLine_52 : decode cX5_readLine 52 = .ok (.aload_n 0, 1) := by decide +kernel
theorem dX5_readLine_53 : decode cX5_readLine 53 = .ok (.aload_n 2, 1) := by decide +kernel
theorem dX5_readLine_54 : decode cX5_readLine 54 = .ok (.iload_n 3, 1) := by decide +kernel
theorem dX5_readLine_55 : decode cX5_readLine 55 = .ok (.invokevirtual 55, 3) := by decide +kernel
theorem dX5_readLine_58 : decode cX5_readLine 58 = .ok (.invokevirtual 59, 3) := by decide +kernel
theorem dX5_readLine_61 : decode cX5_readLine 61 = .ok (.goto 4, 3) := by decide +kernel
theorem dX5_readLine_64 : decode cX5_readLine 64 = .ok (.iconst 0, 1) := by decide +kernel
theorem dX5_readLine_65 : decode cX5_readLine 65 = .ok (.iastore, 1) := by decide +kernel
theorem dX5_readLine_66 : decode cX5_readLine 66 = .ok (.iinc 3 1, 3) := by decide +kernel
theorem dX5_readLine_69 : decode cX5_readLine 69 = .ok (.goto (-57), 3) := by decide +kernel
theorem dX5_readLine_72 : decode cX5_readLine 72 = .ok (.aload_n 0, 1) := by decide +kernel
theorem dX5_readLine_73 : decode cX5_readLine 73 = .ok (.getfield 34, 3) := by decide +kernel
theorem dX5_readLine_76 : decode cX5_readLine 76 = .ok (.ifCond .ge 18, 3) := by decide +kernel
theorem dX5_readLine_79 : decode cX5_readLine 79 = .ok (.aload_n 0, 1) := by decide +kernel
theorem dX5_readLine_80 : decode cX5_readLine 80 = .ok (.invokevirtual 63, 3) := by decide +kernel
theorem dX5_readLine_83 : decode cX5_readLine 83 = .ok (.ifCond .ne 11, 3) := by decide +kernel
theorem dX5_readLine_86 : decode cX5_readLine 86 = .ok (.aload_n 0, 1) := by decide +kernel
theorem dX5_readLine_87 : decode cX5_readLine 87 = .ok (.aload_n 0, 1) := by decide +kernel
theorem dX5_readLine_88 : decode cX5_readLine 88 = .ok (.getfield 31, 3) := by decide +kernel
theorem dX5_readLine_91 : decode cX5_readLine 91 = .ok (.putfield 34, 3) := by decide +kernel
theorem dX5_readLine_94 : decode cX5_readLine 94 = .ok (.aload_n 0, 1) := by decide +kernel
theorem dX5_readLine_95 : decode cX5_readLine 95 = .ok (.getfield 34, 3) := by decide +kernel
theorem dX5_readLine_98 : decode cX5_readLine 98 = .ok (.ifCond .ge 12, 3) := by decide +kernel
theorem dX5_readLine_101 : decode cX5_readLine 101 = .ok (.aload_n 0, 1) := by decide +kernel
theorem dX5_readLine_102 : decode cX5_readLine 102 = .ok (.iload_n 1, 1) := by decide +kernel
theorem dX5_readLine_103 : decode cX5_readLine 103 = .ok (.aload_n 2, 1) := by decide +kernel
theorem dX5_readLine_104 : decode cX5_readLine 104 = .ok (.invokevirtual 48, 3) := by decide +kernel
theorem dX5_readLine_107 : decode cX5_readLine 107 = .ok (.invokevirtual 67, 3) := by decide +kernel
theorem dX5_readLine_110 : decode cX5_readLine 110 = .ok (.return_, 1) := by decide +kernel
def F_X5_readLine_b94  (P : VP) (post : VP → Prop)  (v1 : Int32) (v2 : Nat) : Prop :=
  (P 17 0 7 < 0 → F_X5_tellWord v1 (slen v2) P (fun P107 => post P107)) ∧ (¬ P 17 0 7 < 0 → post P)
set_option maxRecDepth 4000 in
theorem s_X5_readLine_b94 {l : Launch} {g : vG}  {P Q : VP} {post : VP → Prop}  {v1 : Int32} {v2 : Nat}  (hv2 : v2 < 22)  (h : F_X5_readLine_b94  P post  v1 v2) : VM l g RX5 cX5_readLine 4 none 6 (vcV Q post) 94 [(0, vR 17 0), (1, vI v1), (2, vT v2)] [] (vjn P Q) := by
  unfold F_X5_readLine_b94 at h
  refine vr_aload_n 0 0 dX5_readLine_94 rfl rfl ?_
  refine vg_17_7 RX5 rfl (by decide) fl_5_34 dX5_readLine_95 ?_
  refine vr_ifge 110 dX5_readLine_98 (by decide) (fun c98 => ?_) (fun c98 => ?_)
  · have h := h.1 c98
    refine vr_aload_n 0 0 dX5_readLine_101 rfl rfl ?_
    refine vr_iload_n 1 1 dX5_readLine_102 rfl rfl ?_
    refine vr_aload_n 2 2 dX5_readLine_103 rfl rfl ?_
    refine vr_slen RX5 rfl ms_5_48 hv2 ⟨Nat.le_of_ble_eq_true rfl, Nat.le_of_ble_eq_true rfl⟩ (Nat.le_of_ble_eq_true rfl) ⟨Nat.zero_le _, Nat.zero_le _⟩ dX5_readLine_104 ?_
    refine vr_callV RX5 (s_X5_tellWord h) rfl (by decide) rfl rfl rfl ml_5_67 rfl yh_X5_tellWord rfl ⟨Nat.le_of_ble_eq_true rfl, Nat.le_of_ble_eq_true rfl⟩ (Nat.le_of_ble_eq_true rfl) ⟨Nat.zero_le _, Nat.zero_le _⟩ dX5_readLine_107 (kcv fun P107 h => ?_)
    exact vr_vret rfl ⟨_, rfl, rfl, h⟩ dX5_readLine_110
  · have h := h.2 c98
    exact vr_vret rfl ⟨_, rfl, rfl, h⟩ dX5_readLine_110
def F_X5_readLine_b72  (P : VP) (post : VP → Prop)  (v1 : Int32) (v2 : Nat) : Prop :=
  (P 17 0 7 < 0 → F_X5_isLineEnd  P (fun r80 => (r80 = 0 → ∀ P91 : VP, P91 = vup P 17 0 7 (P 17 0 6) → (F_X5_readLine_b94  P91 post  v1 v2)) ∧ (¬ r80 = 0 → F_X5_readLine_b94  P post  v1 v2))) ∧ (¬ P 17 0 7 < 0 → F_X5_readLine_b94  P post  v1 v2)
set_option maxRecDepth 4000 in
theorem s_X5_readLine_b72 {l : Launch} {g : vG}  {P Q : VP} {post : VP → Prop}  {v1 : Int32} {v2 : Nat}  (hv2 : v2 < 22)  (h : F_X5_readLine_b72  P post  v1 v2) : VM l g RX5 cX5_readLine 4 none 6 (vcV Q post) 72 [(0, vR 17 0), (1, vI v1), (2, vT v2)] [] (vjn P Q) := by
  unfold F_X5_readLine_b72 at h
  refine vr_aload_n 0 0 dX5_readLine_72 rfl rfl ?_
  refine vg_17_7 RX5 rfl (by decide) fl_5_34 dX5_readLine_73 ?_
  refine vr_ifge 94 dX5_readLine_76 (by decide) (fun c76 => ?_) (fun c76 => ?_)
  · have h := h.1 c76
    refine vr_aload_n 0 0 dX5_readLine_79 rfl rfl ?_
    refine vr_callV RX5 (s_X5_isLineEnd h) rfl (by decide) rfl rfl rfl ml_5_63 rfl yh_X5_isLineEnd rfl ⟨Nat.le_of_ble_eq_true rfl, Nat.le_of_ble_eq_true rfl⟩ (Nat.le_of_ble_eq_true rfl) ⟨Nat.zero_le _, Nat.zero_le _⟩ dX5_readLine_80 (ki fun r80 h => ?_)
    refine vr_ifne 94 dX5_readLine_83 (by decide) (fun c83 => ?_) (fun c83 => ?_)
    · have h := h.1 c83
      refine vr_aload_n 0 0 dX5_readLine_86 rfl rfl ?_
      refine vr_aload_n 0 0 dX5_readLine_87 rfl rfl ?_
      refine vg_17_6 RX5 rfl (by decide) fl_5_31 dX5_readLine_88 ?_
      obtain ⟨P91, eP91⟩ : ∃ y : VP, y = vup P 17 0 7 (P 17 0 6) := ⟨_, rfl⟩
      have h := h P91 eP91
      refine vp_17_7 RX5 rfl (by decide) fl_5_34 eP91 dX5_readLine_91 ?_
      exact s_X5_readLine_b94 hv2  h
    · have h := h.2 c83
      exact s_X5_readLine_b94 hv2  h
  · have h := h.2 c76
    exact s_X5_readLine_b94 hv2  h
def F_X5_readLine_l12   (post : VP → Prop)  (v1 : Int32) (v2 : Nat) (X : Int32 → VP → Prop) (v3 : Int32) (P : VP) : Prop :=
  (v3 < slen v2 → (v3 < 3 → (P 17 0 7 < 0 → F_X5_readBlank  P (fun P37 => (P37 17 0 7 < 0 → (0 ≤ v3 ∧ v3 < slen v2) ∧ (F_X5_readPart (sch v2 (ix v3)) P37 (fun r58 P58 => (0 ≤ v3 ∧ v3 < 3) ∧ (∀ P65 : VP, P65 = vup P58 21 0 (ix v3) r58 → (X (v3 + 1) P65))))) ∧ (¬ P37 17 0 7 < 0 → (0 ≤ v3 ∧ v3 < 3) ∧ (∀ P65 : VP, P65 = vup P37 21 0 (ix v3) 0 → (X (v3 + 1) P65))))) ∧ (¬ P 17 0 7 < 0 → F_X5_readLine_b72  P post  v1 v2)) ∧ (¬ v3 < 3 → F_X5_readLine_b72  P post  v1 v2)) ∧ (¬ v3 < slen v2 → F_X5_readLine_b72  P post  v1 v2)
set_option maxRecDepth 4000 in
theorem s_X5_readLine_l12 {l : Launch} {g : vG}  {Q : VP} {post : VP → Prop}  {v1 : Int32} {v2 : Nat}  {v3 : Int32} {P : VP} (hv2 : v2 < 22)  (h : vL2 (F_X5_readLine_l12   post  v1 v2) v3 P) : VM l g RX5 cX5_readLine 4 none 6 (vcV Q post) 12 [(0, vR 17 0), (1, vI v1), (2, vT v2), (3, vI v3)] [] (vjn P Q) := by
  refine vL2_s (T := fun v3 P => VM l g RX5 cX5_readLine 4 none 6 (vcV Q post) 12 [(0, vR 17 0), (1, vI v1), (2, vT v2), (3, vI v3)] [] (vjn P Q)) ?_ h
  clear h
  intro X hX v3 P h
  unfold F_X5_readLine_l12 at h
  refine vr_iload_n 3 3 dX5_readLine_12 rfl rfl ?_
  refine vr_aload_n 2 2 dX5_readLine_13 rfl rfl ?_
  refine vr_slen RX5 rfl ms_5_48 hv2 ⟨Nat.le_of_ble_eq_true rfl, Nat.le_of_ble_eq_true rfl⟩ (Nat.le_of_ble_eq_true rfl) ⟨Nat.zero_le _, Nat.zero_le _⟩ dX5_readLine_14 ?_
  refine vr_icmpge 72 dX5_readLine_17 (by decide) (fun c17 => ?_) (fun c17 => ?_)
  · have h := h.1 c17
    refine vr_iload_n 3 3 dX5_readLine_20 rfl rfl ?_
    refine vr_aload_n 0 0 dX5_readLine_21 rfl rfl ?_
    refine vg_17_5 RX5 rfl (by decide) fl_5_21 dX5_readLine_22 ?_
    refine vr_alen 3 ((ia_21 (x := 0) (by decide))).2.1 ((ia_21 (x := 0) (by decide))).1 rfl dX5_readLine_25 ?_
    refine vr_icmpge 72 dX5_readLine_26 (by decide) (fun c26 => ?_) (fun c26 => ?_)
    · have h := h.1 c26
      refine vr_aload_n 0 0 dX5_readLine_29 rfl rfl ?_
      refine vg_17_7 RX5 rfl (by decide) fl_5_34 dX5_readLine_30 ?_
      refine vr_ifge 72 dX5_readLine_33 (by decide) (fun c33 => ?_) (fun c33 => ?_)
      · have h := h.1 c33
        refine vr_aload_n 0 0 dX5_readLine_36 rfl rfl ?_
        refine vr_callV RX5 (s_X5_readBlank h) rfl (by decide) rfl rfl rfl ml_5_52 rfl yh_X5_readBlank rfl ⟨Nat.le_of_ble_eq_true rfl, Nat.le_of_ble_eq_true rfl⟩ (Nat.le_of_ble_eq_true rfl) ⟨Nat.zero_le _, Nat.zero_le _⟩ dX5_readLine_37 (kcv fun P37 h => ?_)
        refine vr_aload_n 0 0 dX5_readLine_40 rfl rfl ?_
        refine vg_17_5 RX5 rfl (by decide) fl_5_21 dX5_readLine_41 ?_
        refine vr_iload_n 3 3 dX5_readLine_44 rfl rfl ?_
        refine vr_aload_n 0 0 dX5_readLine_45 rfl rfl ?_
        refine vg_17_7 RX5 rfl (by decide) fl_5_34 dX5_readLine_46 ?_
        refine vr_ifge 64 dX5_readLine_49 (by decide) (fun c49 => ?_) (fun c49 => ?_)
        · have h := h.1 c49
          refine vr_aload_n 0 0 dX5_readLine_52 rfl rfl ?_
          refine vr_aload_n 2 2 dX5_readLine_53 rfl rfl ?_
          refine vr_iload_n 3 3 dX5_readLine_54 rfl rfl ?_
          have hi := h.1
          have h := h.2
          refine vr_sch RX5 rfl ms_5_55 hv2 hi ⟨Nat.le_of_ble_eq_true rfl, Nat.le_of_ble_eq_true rfl⟩ (Nat.le_of_ble_eq_true rfl) ⟨Nat.zero_le _, Nat.zero_le _⟩ dX5_readLine_55 ?_
          refine vr_callV RX5 (s_X5_readPart h) rfl (by decide) rfl rfl rfl ml_5_59 rfl yh_X5_readPart rfl ⟨Nat.le_of_ble_eq_true rfl, Nat.le_of_ble_eq_true rfl⟩ (Nat.le_of_ble_eq_true rfl) ⟨Nat.zero_le _, Nat.zero_le _⟩ dX5_readLine_58 (kci fun r58 P58 h => ?_)
          refine vr_goto 65 dX5_readLine_61 (by decide) ?_
          have hi := h.1
          have h := h.2
          obtain ⟨P65, eP65⟩ : ∃ y : VP, y = vup P58 21 0 (ix v3) r58 := ⟨_, rfl⟩
          have h := h P65 eP65
          refine vr_iastP 3 (ia_21 (x := 0) (by decide)) rfl hi eP65 dX5_readLine_65 ?_
          refine vr_iinc (v3 + 1) 3 [(3, vI (v3 + 1)), (0, vR 17 0), (1, vI v1), (2, vT v2)] dX5_readLine_66 rfl rfl (by decide) rfl ?_
          refine vr_goto 12 dX5_readLine_69 (by decide) ?_
          refine vr_sub [1, 2, 3, 0] [(0, vR 17 0), (1, vI v1), (2, vT v2), (3, vI (v3 + 1))] rfl ?_
          exact hX _ _ h
        · have h := h.2 c49
          refine vr_iconst 0 dX5_readLine_64 (by decide) ?_
          have hi := h.1
          have h := h.2
          obtain ⟨P65, eP65⟩ : ∃ y : VP, y = vup P37 21 0 (ix v3) 0 := ⟨_, rfl⟩
          have h := h P65 eP65
          refine vr_iastP 3 (ia_21 (x := 0) (by decide)) rfl hi eP65 dX5_readLine_65 ?_
          refine vr_iinc (v3 + 1) 3 [(3, vI (v3 + 1)), (0, vR 17 0), (1, vI v1), (2, vT v2)] dX5_readLine_66 rfl rfl (by decide) rfl ?_
          refine vr_goto 12 dX5_readLine_69 (by decide) ?_
          refine vr_sub [1, 2, 3, 0] [(0, vR 17 0), (1, vI v1), (2, vT v2), (3, vI (v3 + 1))] rfl ?_
          exact hX _ _ h
      · have h := h.2 c33
        refine vr_sub [0, 1, 2] [(0, vR 17 0), (1, vI v1), (2, vT v2)] rfl ?_
        exact s_X5_readLine_b72 hv2  h
    · have h := h.2 c26
      refine vr_sub [0, 1, 2] [(0, vR 17 0), (1, vI v1), (2, vT v2)] rfl ?_
      exact s_X5_readLine_b72 hv2  h
  · have h := h.2 c17
    refine vr_sub [0, 1, 2] [(0, vR 17 0), (1, vI v1), (2, vT v2)] rfl ?_
    exact s_X5_readLine_b72 hv2  h
def F_X5_readLine  (P : VP) (post : VP → Prop) : Prop :=
  F_X5_readWord  P (fun r1 P1 => F_X5_partsOf r1 P1 (fun r6 => vL2 (F_X5_readLine_l12   post  r1 r6) ((0 : Int32)) P1))
set_option maxRecDepth 4000 in
theorem s_X5_readLine {l : Launch} {g : vG}  {P Q : VP} {post : VP → Prop}  (h : F_X5_readLine  P post) : VC l g yX5_readLine cX5_readLine 4 none 6 [vR 17 0] (vjn P Q) (vcV Q post) := by
  refine VC.of (by decide +kernel) (Nat.le_of_ble_eq_true rfl) (show VM l g RX5 cX5_readLine 4 none 6 (vcV Q post) 0 [(0, vR 17 0)] [] (vjn P Q) from ?_)
  unfold F_X5_readLine at h
  refine vr_aload_n 0 0 dX5_readLine_0 rfl rfl ?_
  refine vr_callV RX5 (s_X5_readWord h) rfl (by decide) rfl rfl rfl ml_5_40 rfl yh_X5_readWord rfl ⟨Nat.le_of_ble_eq_true rfl, Nat.le_of_ble_eq_true rfl⟩ (Nat.le_of_ble_eq_true rfl) ⟨Nat.zero_le _, Nat.zero_le _⟩ dX5_readLine_1 (kci fun r1 P1 h => ?_)
  refine vr_istore_n 1 [(1, vI r1), (0, vR 17 0)] dX5_readLine_4 rfl (by decide) rfl ?_
  refine vr_iload_n 1 0 dX5_readLine_5 rfl rfl ?_
  refine vr_callS RX5 (s_X5_partsOf h) rfl rfl ml_5_44 rfl yh_X5_partsOf rfl ⟨Nat.le_of_ble_eq_true rfl, Nat.le_of_ble_eq_true rfl⟩ (Nat.le_of_ble_eq_true rfl) ⟨Nat.zero_le _, Nat.zero_le _⟩ dX5_readLine_6 (kt fun r6 hvr6 h => ?_)
  refine vr_astore_n 2 [(2, vT r6), (1, vI r1), (0, vR 17 0)] dX5_readLine_9 rfl (by decide) rfl ?_
  refine vr_iconst 0 dX5_readLine_10 (by decide) ?_
  refine vr_istore_n 3 [(3, vI 0), (2, vT r6), (1, vI r1), (0, vR 17 0)] dX5_readLine_11 rfl (by decide) rfl ?_
  refine vr_sub [3, 2, 1, 0] [(0, vR 17 0), (1, vI r1), (2, vT r6), (3, vI 0)] rfl ?_
  exact s_X5_readLine_l12 hvr6  h
theorem dX5_read_0 : decode cX5_read 0 = .ok (.aload_n 0, 1) := by decide +kernel
theorem dX5_read_1 : decode cX5_read 1 = .ok (.iconst 0, 1) := by decide +kernel
theorem dX5_read_2 : decode cX5_read 2 = .ok (.putfield 31, 3) := by decide +kernel
theorem dX5_read_5 : decode cX5_read 5 = .ok (.aload_n 0, 1) := by decide +kernel
theorem dX5_read_6 : decode cX5_read 6 = .ok (.iconst 0, 1) := by decide +kernel
theorem dX5_read_7 : decode cX5_read 7 = .ok (.putfield 28, 3) := by decide +kernel
theorem dX5_read_10 : decode cX5_read 10 = .ok (.aload_n 0, 1) := by decide +kernel
theorem dX5_read_11 : decode cX5_read 11 = .ok (.iconst (-1), 1) := by decide +kernel
theorem dX5_read_12 : decode cX5_read 12 = .ok (.putfield 34, 3) := by decide +kernel
theorem dX5_read_15 : decode cX5_read 15 = .ok (.iconst 0, 1) := by decide +kernel
theorem dX5_read_16 : decode cX5_read 16 = .ok (.istore_n 1, 1) := by decide +kernel
theorem dX5_read_17 : decode cX5_read 17 = .ok (.iload_n 1, 1) := by decide +kernel
theorem dX5_read_18 : decode cX5_read 18 = .ok (.bipush 120, 2) := by decide +kernel
theorem dX5_read_20 : decode cX5_read 20 = .ok (.if_icmp .gt 42, 3) := by decide +kernel
theorem dX5_read_23 : decode cX5_read 23 = .ok (.aload_n 0, 1) := by decide +kernel
theorem dX5_read_24 : decode cX5_read 24 = .ok (.invokevirtual 37, 3) := by decide +kernel
theorem dX5_read_27 : decode cX5_read 27 = .ok (.aload_n 0, 1) := by decide +kernel
theorem dX5_read_28 : decode cX5_read 28 = .ok (.getfield 34, 3) := by decide +kernel
theorem dX5_read_31 : decode cX5_read 31 = .ok (.ifCond .ge 14, 3) := by decide +kernel
theorem dX5_read_34 : decode cX5_read 34 = .ok (.aload_n 0, 1) := by decide +kernel
theorem dX5_read_35 : decode cX5_read 35 = .ok (.getfield 31, 3) := by decide +kernel
theorem dX5_read_38 : decode cX5_read 38 = .ok (.aload_n 0, 1) := by decide +kernel
theorem dX5_read_39 : decode cX5_read 39 = .ok (.getfield 24, 3) := by decide +kernel
theorem dX5_read_42 : decode cX5_read 42 = .ok (.if_icmp .lt 4, 3) := by decide +kernel
theorem dX5_read_45 : decode cX5_read 45 = .ok (.return_, 1) := by decide +kernel
theorem dX5_read_46 : decode cX5_read 46 = .ok (.aload_n 0, 1) := by decide +kernel
theorem dX5_read_47 : decode cX5_read 47 = .ok (.dup, 1) := by decide +kernel
theorem dX5_read_48 : decode cX5_read 48 = .ok (.getfield 31, 3) := by decide +kernel
theorem dX5_read_51 : decode cX5_read 51 = .ok (.iconst 1, 1) := by decide +kernel
theorem dX5_read_52 : decode cX5_read 52 = .ok (.iadd, 1) := by decide +kernel
theorem dX5_read_53 : decode cX5_read 53 = .ok (.putfield 31, 3) := by decide +kernel
theorem dX5_read_56 : decode cX5_read 56 = .ok (.iinc 1 1, 3) := by decide +kernel
theorem dX5_read_59 : decode cX5_read 59 = .ok (.goto (-42), 3) := by decide +kernel
theorem dX5_read_62 : decode cX5_read 62 = .ok (.return_, 1) := by decide +kernel
def F_X5_read_l17   (post : VP → Prop)   (X : Int32 → VP → Prop) (v1 : Int32) (P : VP) : Prop :=
  ((120 : Int32) < v1 → post P) ∧ (¬ (120 : Int32) < v1 → F_X5_readLine  P (fun P24 => (P24 17 0 7 < 0 → (P24 17 0 6 < P24 17 0 1 → ∀ P53 : VP, P53 = vup P24 17 0 6 ((P24 17 0 6) + 1) → (X (v1 + 1) P53)) ∧ (¬ P24 17 0 6 < P24 17 0 1 → post P24)) ∧ (¬ P24 17 0 7 < 0 → post P24)))
set_option maxRecDepth 4000 in
theorem s_X5_read_l17 {l : Launch} {g : vG}  {Q : VP} {post : VP → Prop}    {v1 : Int32} {P : VP}   (h : vL2 (F_X5_read_l17   post  ) v1 P) : VM l g RX5 cX5_read 2 none 7 (vcV Q post) 17 [(0, vR 17 0), (1, vI v1)] [] (vjn P Q) := by
  refine vL2_s (T := fun v1 P => VM l g RX5 cX5_read 2 none 7 (vcV Q post) 17 [(0, vR 17 0), (1, vI v1)] [] (vjn P Q)) ?_ h
  clear h
  intro X hX v1 P h
  unfold F_X5_read_l17 at h
  refine vr_iload_n 1 1 dX5_read_17 rfl rfl ?_
  refine vr_bipush 120 dX5_read_18 (by decide) ?_
  refine vr_icmpgt 62 dX5_read_20 (by decide) (fun c20 => ?_) (fun c20 => ?_)
  · have h := h.1 c20
    exact vr_vret rfl ⟨_, rfl, rfl, h⟩ dX5_read_62
  · have h := h.2 c20
    refine vr_aload_n 0 0 dX5_read_23 rfl rfl ?_
    refine vr_callV RX5 (s_X5_readLine h) rfl (by decide) rfl rfl rfl ml_5_37 rfl yh_X5_readLine rfl ⟨Nat.le_of_ble_eq_true rfl, Nat.le_of_ble_eq_true rfl⟩ (Nat.le_of_ble_eq_true rfl) ⟨Nat.zero_le _, Nat.zero_le _⟩ dX5_read_24 (kcv fun P24 h => ?_)
    refine vr_aload_n 0 0 dX5_read_27 rfl rfl ?_
    refine vg_17_7 RX5 rfl (by decide) fl_5_34 dX5_read_28 ?_
    refine vr_ifge 45 dX5_read_31 (by decide) (fun c31 => ?_) (fun c31 => ?_)
    · have h := h.1 c31
      refine vr_aload_n 0 0 dX5_read_34 rfl rfl ?_
      refine vg_17_6 RX5 rfl (by decide) fl_5_31 dX5_read_35 ?_
      refine vr_aload_n 0 0 dX5_read_38 rfl rfl ?_
      refine vg_17_1 RX5 rfl (by decide) fl_5_24 dX5_read_39 ?_
      refine vr_icmplt 46 dX5_read_42 (by decide) (fun c42 => ?_) (fun c42 => ?_)
      · have h := h.1 c42
        refine vr_aload_n 0 0 dX5_read_46 rfl rfl ?_
        refine vr_dup dX5_read_47 rfl ?_
        refine vg_17_6 RX5 rfl (by decide) fl_5_31 dX5_read_48 ?_
        refine vr_iconst 1 dX5_read_51 (by decide) ?_
        refine vr_iadd dX5_read_52 ?_
        obtain ⟨P53, eP53⟩ : ∃ y : VP, y = vup P24 17 0 6 ((P24 17 0 6) + 1) := ⟨_, rfl⟩
        have h := h P53 eP53
        refine vp_17_6 RX5 rfl (by decide) fl_5_31 eP53 dX5_read_53 ?_
        refine vr_iinc (v1 + 1) 1 [(1, vI (v1 + 1)), (0, vR 17 0)] dX5_read_56 rfl rfl (by decide) rfl ?_
        refine vr_goto 17 dX5_read_59 (by decide) ?_
        refine vr_sub [1, 0] [(0, vR 17 0), (1, vI (v1 + 1))] rfl ?_
        exact hX _ _ h
      · have h := h.2 c42
        exact vr_vret rfl ⟨_, rfl, rfl, h⟩ dX5_read_45
    · have h := h.2 c31
      exact vr_vret rfl ⟨_, rfl, rfl, h⟩ dX5_read_45
def F_X5_read  (P : VP) (post : VP → Prop) : Prop :=
  ∀ P2 : VP, P2 = vup P 17 0 6 0 → (∀ P7 : VP, P7 = vup P2 17 0 2 0 → (∀ P12 : VP, P12 = vup P7 17 0 7 ((-1)) → (vL2 (F_X5_read_l17   post  ) ((0 : Int32)) P12)))
set_option maxRecDepth 4000 in
theorem s_X5_read {l : Launch} {g : vG}  {P Q : VP} {post : VP → Prop}  (h : F_X5_read  P post) : VC l g yX5_read cX5_read 2 none 7 [vR 17 0] (vjn P Q) (vcV Q post) := by
  refine VC.of (by decide +kernel) (Nat.le_of_ble_eq_true rfl) (show VM l g RX5 cX5_read 2 none 7 (vcV Q post) 0 [(0, vR 17 0)] [] (vjn P Q) from ?_)
  unfold F_X5_read at h
  refine vr_aload_n 0 0 dX5_read_0 rfl rfl ?_
  refine vr_iconst 0 dX5_read_1 (by decide) ?_
  obtain ⟨P2, eP2⟩ : ∃ y : VP, y = vup P 17 0 6 0 := ⟨_, rfl⟩
  have h := h P2 eP2
  refine vp_17_6 RX5 rfl (by decide) fl_5_31 eP2 dX5_read_2 ?_
  refine vr_aload_n 0 0 dX5_read_5 rfl rfl ?_
  refine vr_iconst 0 dX5_read_6 (by decide) ?_
  obtain ⟨P7, eP7⟩ : ∃ y : VP, y = vup P2 17 0 2 0 := ⟨_, rfl⟩
  have h := h P7 eP7
  refine vp_17_2 RX5 rfl (by decide) fl_5_28 eP7 dX5_read_7 ?_
  refine vr_aload_n 0 0 dX5_read_10 rfl rfl ?_
  refine vr_iconst (-1) dX5_read_11 (by decide) ?_
  obtain ⟨P12, eP12⟩ : ∃ y : VP, y = vup P7 17 0 7 ((-1)) := ⟨_, rfl⟩
  have h := h P12 eP12
  refine vp_17_7 RX5 rfl (by decide) fl_5_34 eP12 dX5_read_12 ?_
  refine vr_iconst 0 dX5_read_15 (by decide) ?_
  refine vr_istore_n 1 [(1, vI 0), (0, vR 17 0)] dX5_read_16 rfl (by decide) rfl ?_
  refine vr_sub [1, 0] [(0, vR 17 0), (1, vI 0)] rfl ?_
  exact s_X5_read_l17   h
theorem dX6_hasDirectory_0 : decode cX6_hasDirectory 0 = .ok (.iload_n 1, 1) := by decide +kernel
theorem dX6_hasDirectory_1 : decode cX6_hasDirectory 1 = .ok (.ifCond .lt 21, 3) := by decide +kernel
theorem dX6_hasDirectory_4 : decode cX6_hasDirectory 4 = .ok (.iload_n 1, 1) := by decide +kernel
theorem dX6_hasDirectory_5 : decode cX6_hasDirectory 5 = .ok (.aload_n 0, 1) := by decide +kernel
theorem dX6_hasDirectory_6 : decode cX6_hasDirectory 6 = .ok (.getfield 9, 3) := by decide +kernel
theorem dX6_hasDirectory_9 : decode cX6_hasDirectory 9 = .ok (.if_icmp .ge 13, 3) := by decide +kernel
theorem dX6_hasDirectory_12 : decode cX6_hasDirectory 12 = .ok (.iload_n 1, 1) := by decide +kernel
theorem dX6_hasDirectory_13 : decode cX6_hasDirectory 13 = .ok (.bipush 8, 2) := by decide +kernel
theorem dX6_hasDirectory_15 : decode cX6_hasDirectory 15 = .ok (.if_icmp .ge 7, 3) := by decide +kernel
theorem dX6_hasDirectory_18 : decode cX6_hasDirectory 18 = .ok (.iconst 1, 1) := by decide +kernel
theorem dX6_hasDirectory_19 : decode cX6_hasDirectory 19 = .ok (.goto 4, 3) := by decide +kernel
theorem dX6_hasDirectory_22 : decode cX6_hasDirectory 22 = .ok (.iconst 0, 1) := by decide +kernel
theorem dX6_hasDirectory_23 : decode cX6_hasDirectory 23 = .ok (.ireturn, 1) := by decide +kernel
def F_X6_hasDirectory (o : Nat) (x1 : Int32) (P : VP) (post : Int32 → Prop) : Prop :=
  (x1 < 0 → post ((0 : Int32))) ∧ (¬ x1 < 0 → (x1 < P 2 o 0 → (x1 < 8 → post ((1 : Int32))) ∧ (¬ x1 < 8 → post ((0 : Int32)))) ∧ (¬ x1 < P 2 o 0 → post ((0 : Int32))))
set_option maxRecDepth 4000 in
theorem s_X6_hasDirectory {l : Launch} {g : vG} {o : Nat} {x1 : Int32} {P Q : VP} {post : Int32 → Prop} (ho : o < vcnt 2) (h : F_X6_hasDirectory o x1 P post) : VC l g yX6_hasDirectory cX6_hasDirectory 2 (some .boolean) 0 [vR 2 o, vI x1] (vjn P Q) (vpI (vjn P Q) post) := by
  refine VC.of (by decide +kernel) (Nat.le_of_ble_eq_true rfl) (show VM l g RX6 cX6_hasDirectory 2 (some .boolean) 0 (vpI (vjn P Q) post) 0 [(0, vR 2 o), (1, vI x1)] [] (vjn P Q) from ?_)
  unfold F_X6_hasDirectory at h
  refine vr_iload_n 1 1 dX6_hasDirectory_0 rfl rfl ?_
  refine vr_iflt 22 dX6_hasDirectory_1 (by decide) (fun c1 => ?_) (fun c1 => ?_)
  · have h := h.1 c1
    refine vr_iconst 0 dX6_hasDirectory_22 (by decide) ?_
    exact vr_zret rfl (Or.inl rfl) ⟨rfl, _, rfl, h⟩ dX6_hasDirectory_23
  · have h := h.2 c1
    refine vr_iload_n 1 1 dX6_hasDirectory_4 rfl rfl ?_
    refine vr_aload_n 0 0 dX6_hasDirectory_5 rfl rfl ?_
    refine vg_2_0 RX6 rfl ho fl_6_9 dX6_hasDirectory_6 ?_
    refine vr_icmpge 22 dX6_hasDirectory_9 (by decide) (fun c9 => ?_) (fun c9 => ?_)
    · have h := h.1 c9
      refine vr_iload_n 1 1 dX6_hasDirectory_12 rfl rfl ?_
      refine vr_bipush 8 dX6_hasDirectory_13 (by decide) ?_
      refine vr_icmpge 22 dX6_hasDirectory_15 (by decide) (fun c15 => ?_) (fun c15 => ?_)
      · have h := h.1 c15
        refine vr_iconst 1 dX6_hasDirectory_18 (by decide) ?_
        refine vr_goto 23 dX6_hasDirectory_19 (by decide) ?_
        exact vr_zret rfl (Or.inr rfl) ⟨rfl, _, rfl, h⟩ dX6_hasDirectory_23
      · have h := h.2 c15
        refine vr_iconst 0 dX6_hasDirectory_22 (by decide) ?_
        exact vr_zret rfl (Or.inl rfl) ⟨rfl, _, rfl, h⟩ dX6_hasDirectory_23
    · have h := h.2 c9
      refine vr_iconst 0 dX6_hasDirectory_22 (by decide) ?_
      exact vr_zret rfl (Or.inl rfl) ⟨rfl, _, rfl, h⟩ dX6_hasDirectory_23
theorem dX6_aboveOf_0 : decode cX6_aboveOf 0 = .ok (.aload_n 0, 1) := by decide +kernel
theorem dX6_aboveOf_1 : decode cX6_aboveOf 1 = .ok (.iload_n 1, 1) := by decide +kernel
theorem dX6_aboveOf_2 : decode cX6_aboveOf 2 = .ok (.invokevirtual 32, 3) := by decide +kernel
theorem dX6_aboveOf_5 : decode cX6_aboveOf 5 = .ok (.ifCond .eq 12, 3) := by decide +kernel
theorem dX6_aboveOf_8 : decode cX6_aboveOf 8 = .ok (.aload_n 0, 1) := by decide +kernel
theorem dX6_aboveOf_9 : decode cX6_aboveOf 9 = .ok (.getfield 15, 3) := by decide +kernel
theorem dX6_aboveOf_12 : decode cX6_aboveOf 12 = .ok (.iload_n 1, 1) := by decide +kernel
theorem dX6_aboveOf_13 : decode cX6_aboveOf 13 = .ok (.iaload, 1) := by decide +kernel
theorem dX6_aboveOf_14 : decode cX6_aboveOf 14 = .ok (.goto 4, 3) := by decide +kernel
theorem dX6_aboveOf_17 : decode cX6_aboveOf 17 = .ok (.iconst 0, 1) := by decide +kernel
theorem dX6_aboveOf_18 : decode cX6_aboveOf 18 = .ok (.ireturn, 1) := by decide +kernel
def F_X6_aboveOf (o : Nat) (x1 : Int32) (P : VP) (post : Int32 → Prop) : Prop :=
  F_X6_hasDirectory o x1 P (fun r2 => (r2 = 0 → post ((0 : Int32))) ∧ (¬ r2 = 0 → (0 ≤ x1 ∧ x1 < 8) ∧ (post (P 3 o (ix x1)))))
set_option maxRecDepth 4000 in
theorem s_X6_aboveOf {l : Launch} {g : vG} {o : Nat} {x1 : Int32} {P Q : VP} {post : Int32 → Prop} (ho : o < vcnt 2) (h : F_X6_aboveOf o x1 P post) : VC l g yX6_aboveOf cX6_aboveOf 2 (some .int) 1 [vR 2 o, vI x1] (vjn P Q) (vpI (vjn P Q) post) := by
  refine VC.of (by decide +kernel) (Nat.le_of_ble_eq_true rfl) (show VM l g RX6 cX6_aboveOf 2 (some .int) 1 (vpI (vjn P Q) post) 0 [(0, vR 2 o), (1, vI x1)] [] (vjn P Q) from ?_)
  unfold F_X6_aboveOf at h
  refine vr_aload_n 0 0 dX6_aboveOf_0 rfl rfl ?_
  refine vr_iload_n 1 1 dX6_aboveOf_1 rfl rfl ?_
  refine vr_callV RX6 (s_X6_hasDirectory ho h) rfl ho rfl rfl rfl ml_6_32 rfl yh_X6_hasDirectory rfl ⟨Nat.le_of_ble_eq_true rfl, Nat.le_of_ble_eq_true rfl⟩ (Nat.le_of_ble_eq_true rfl) ⟨Nat.zero_le _, Nat.zero_le _⟩ dX6_aboveOf_2 (ki fun r2 h => ?_)
  refine vr_ifeq 17 dX6_aboveOf_5 (by decide) (fun c5 => ?_) (fun c5 => ?_)
  · have h := h.1 c5
    refine vr_iconst 0 dX6_aboveOf_17 (by decide) ?_
    exact vr_iret rfl ⟨rfl, _, rfl, h⟩ dX6_aboveOf_18
  · have h := h.2 c5
    refine vr_aload_n 0 0 dX6_aboveOf_8 rfl rfl ?_
    refine vg_2_1 RX6 rfl ho fl_6_15 dX6_aboveOf_9 ?_
    refine vr_iload_n 1 1 dX6_aboveOf_12 rfl rfl ?_
    have hi := h.1
    have h := h.2
    refine vr_ialdP 8 (ia_3 (x := o) ho) rfl hi dX6_aboveOf_13 ?_
    refine vr_goto 18 dX6_aboveOf_14 (by decide) ?_
    exact vr_iret rfl ⟨rfl, _, rfl, h⟩ dX6_aboveOf_18
theorem dX6_quotaOf_0 : decode cX6_quotaOf 0 = .ok (.aload_n 0, 1) := by decide +kernel
theorem dX6_quotaOf_1 : decode cX6_quotaOf 1 = .ok (.iload_n 1, 1) := by decide +kernel
theorem dX6_quotaOf_2 : decode cX6_quotaOf 2 = .ok (.invokevirtual 32, 3) := by decide +kernel
theorem dX6_quotaOf_5 : decode cX6_quotaOf 5 = .ok (.ifCond .eq 12, 3) := by decide +kernel
theorem dX6_quotaOf_8 : decode cX6_quotaOf 8 = .ok (.aload_n 0, 1) := by decide +kernel
theorem dX6_quotaOf_9 : decode cX6_quotaOf 9 = .ok (.getfield 19, 3) := by decide +kernel
theorem dX6_quotaOf_12 : decode cX6_quotaOf 12 = .ok (.iload_n 1, 1) := by decide +kernel
theorem dX6_quotaOf_13 : decode cX6_quotaOf 13 = .ok (.iaload, 1) := by decide +kernel
theorem dX6_quotaOf_14 : decode cX6_quotaOf 14 = .ok (.goto 4, 3) := by decide +kernel
theorem dX6_quotaOf_17 : decode cX6_quotaOf 17 = .ok (.iconst 0, 1) := by decide +kernel
theorem dX6_quotaOf_18 : decode cX6_quotaOf 18 = .ok (.ireturn, 1) := by decide +kernel
def F_X6_quotaOf (o : Nat) (x1 : Int32) (P : VP) (post : Int32 → Prop) : Prop :=
  F_X6_hasDirectory o x1 P (fun r2 => (r2 = 0 → post ((0 : Int32))) ∧ (¬ r2 = 0 → (0 ≤ x1 ∧ x1 < 8) ∧ (post (P 4 o (ix x1)))))
set_option maxRecDepth 4000 in
theorem s_X6_quotaOf {l : Launch} {g : vG} {o : Nat} {x1 : Int32} {P Q : VP} {post : Int32 → Prop} (ho : o < vcnt 2) (h : F_X6_quotaOf o x1 P post) : VC l g yX6_quotaOf cX6_quotaOf 2 (some .int) 1 [vR 2 o, vI x1] (vjn P Q) (vpI (vjn P Q) post) := by
  refine VC.of (by decide +kernel) (Nat.le_of_ble_eq_true rfl) (show VM l g RX6 cX6_quotaOf 2 (some .int) 1 (vpI (vjn P Q) post) 0 [(0, vR 2 o), (1, vI x1)] [] (vjn P Q) from ?_)
  unfold F_X6_quotaOf at h
  refine vr_aload_n 0 0 dX6_quotaOf_0 rfl rfl ?_
  refine vr_iload_n 1 1 dX6_quotaOf_1 rfl rfl ?_
  refine vr_callV RX6 (s_X6_hasDirectory ho h) rfl ho rfl rfl rfl ml_6_32 rfl yh_X6_hasDirectory rfl ⟨Nat.le_of_ble_eq_true rfl, Nat.le_of_ble_eq_true rfl⟩ (Nat.le_of_ble_eq_true rfl) ⟨Nat.zero_le _, Nat.zero_le _⟩ dX6_quotaOf_2 (ki fun r2 h => ?_)
  refine vr_ifeq 17 dX6_quotaOf_5 (by decide) (fun c5 => ?_) (fun c5 => ?_)
  · have h := h.1 c5
    refine vr_iconst 0 dX6_quotaOf_17 (by decide) ?_
    exact vr_iret rfl ⟨rfl, _, rfl, h⟩ dX6_quotaOf_18
  · have h := h.2 c5
    refine vr_aload_n 0 0 dX6_quotaOf_8 rfl rfl ?_
    refine vg_2_2 RX6 rfl ho fl_6_19 dX6_quotaOf_9 ?_
    refine vr_iload_n 1 1 dX6_quotaOf_12 rfl rfl ?_
    have hi := h.1
    have h := h.2
    refine vr_ialdP 8 (ia_4 (x := o) ho) rfl hi dX6_quotaOf_13 ?_
    refine vr_goto 18 dX6_quotaOf_14 (by decide) ?_
    exact vr_iret rfl ⟨rfl, _, rfl, h⟩ dX6_quotaOf_18
theorem dX6_addQuota_0 : decode cX6_addQuota 0 = .ok (.aload_n 0, 1) := by decide +kernel
theorem dX6_addQuota_1 : decode cX6_addQuota 1 = .ok (.iload_n 1, 1) := by decide +kernel
theorem dX6_addQuota_2 : decode cX6_addQuota 2 = .ok (.invokevirtual 32, 3) := by decide +kernel
theorem dX6_addQuota_5 : decode cX6_addQuota 5 = .ok (.ifCond .eq 13, 3) := by decide +kernel
theorem dX6_addQuota_8 : decode cX6_addQuota 8 = .ok (.aload_n 0, 1) := by decide +kernel
theorem dX6_addQuota_9 : decode cX6_addQuota 9 = .ok (.getfield 19, 3) := by decide +kernel
theorem dX6_addQuota_12 : decode cX6_addQuota 12 = .ok (.iload_n 1, 1) := by decide +kernel
theorem dX6_addQuota_13 : decode cX6_addQuota 13 = .ok (.dup2, 1) := by decide +kernel
theorem dX6_addQuota_14 : decode cX6_addQuota 14 = .ok (.iaload, 1) := by decide +kernel
theorem dX6_addQuota_15 : decode cX6_addQuota 15 = .ok (.iload_n 2, 1) := by decide +kernel
theorem dX6_addQuota_16 : decode cX6_addQuota 16 = .ok (.iadd, 1) := by decide +kernel
theorem dX6_addQuota_17 : decode cX6_addQuota 17 = .ok (.iastore, 1) := by decide +kernel
theorem dX6_addQuota_18 : decode cX6_addQuota 18 = .ok (.return_, 1) := by decide +kernel
def F_X6_addQuota (o : Nat) (x1 : Int32) (x2 : Int32) (P : VP) (post : VP → Prop) : Prop :=
  F_X6_hasDirectory o x1 P (fun r2 => (r2 = 0 → post P) ∧ (¬ r2 = 0 → (0 ≤ x1 ∧ x1 < 8) ∧ ((0 ≤ x1 ∧ x1 < 8) ∧ (∀ P17 : VP, P17 = vup P 4 o (ix x1) ((P 4 o (ix x1)) + x2) → (post P17)))))
set_option maxRecDepth 4000 in
theorem s_X6_addQuota {l : Launch} {g : vG} {o : Nat} {x1 : Int32} {x2 : Int32} {P Q : VP} {post : VP → Prop} (ho : o < vcnt 2) (h : F_X6_addQuota o x1 x2 P post) : VC l g yX6_addQuota cX6_addQuota 3 none 1 [vR 2 o, vI x1, vI x2] (vjn P Q) (vcV Q post) := by
  refine VC.of (by decide +kernel) (Nat.le_of_ble_eq_true rfl) (show VM l g RX6 cX6_addQuota 3 none 1 (vcV Q post) 0 [(0, vR 2 o), (1, vI x1), (2, vI x2)] [] (vjn P Q) from ?_)
  unfold F_X6_addQuota at h
  refine vr_aload_n 0 0 dX6_addQuota_0 rfl rfl ?_
  refine vr_iload_n 1 1 dX6_addQuota_1 rfl rfl ?_
  refine vr_callV RX6 (s_X6_hasDirectory ho h) rfl ho rfl rfl rfl ml_6_32 rfl yh_X6_hasDirectory rfl ⟨Nat.le_of_ble_eq_true rfl, Nat.le_of_ble_eq_true rfl⟩ (Nat.le_of_ble_eq_true rfl) ⟨Nat.zero_le _, Nat.zero_le _⟩ dX6_addQuota_2 (ki fun r2 h => ?_)
  refine vr_ifeq 18 dX6_addQuota_5 (by decide) (fun c5 => ?_) (fun c5 => ?_)
  · have h := h.1 c5
    exact vr_vret rfl ⟨_, rfl, rfl, h⟩ dX6_addQuota_18
  · have h := h.2 c5
    refine vr_aload_n 0 0 dX6_addQuota_8 rfl rfl ?_
    refine vg_2_2 RX6 rfl ho fl_6_19 dX6_addQuota_9 ?_
    refine vr_iload_n 1 1 dX6_addQuota_12 rfl rfl ?_
    refine vr_dup2 dX6_addQuota_13 rfl rfl ?_
    have hi := h.1
    have h := h.2
    refine vr_ialdP 8 (ia_4 (x := o) ho) rfl hi dX6_addQuota_14 ?_
    refine vr_iload_n 2 2 dX6_addQuota_15 rfl rfl ?_
    refine vr_iadd dX6_addQuota_16 ?_
    have hi := h.1
    have h := h.2
    obtain ⟨P17, eP17⟩ : ∃ y : VP, y = vup P 4 o (ix x1) ((P 4 o (ix x1)) + x2) := ⟨_, rfl⟩
    have h := h P17 eP17
    refine vr_iastP 8 (ia_4 (x := o) ho) rfl hi eP17 dX6_addQuota_17 ?_
    exact vr_vret rfl ⟨_, rfl, rfl, h⟩ dX6_addQuota_18
theorem dX6_makeDirectory_0 : decode cX6_makeDirectory 0 = .ok (.aload_n 0, 1) := by decide +kernel
theorem dX6_makeDirectory_1 : decode cX6_makeDirectory 1 = .ok (.getfield 9, 3) := by decide +kernel
theorem dX6_makeDirectory_4 : decode cX6_makeDirectory 4 = .ok (.istore_n 2, 1) := by decide +kernel
theorem dX6_makeDirectory_5 : decode cX6_makeDirectory 5 = .ok (.iload_n 2, 1) := by decide +kernel
theorem dX6_makeDirectory_6 : decode cX6_makeDirectory 6 = .ok (.ifCond .lt 9, 3) := by decide +kernel
theorem dX6_makeDirectory_9 : decode cX6_makeDirectory 9 = .ok (.iload_n 2, 1) := by decide +kernel
theorem dX6_makeDirectory_10 : decode cX6_makeDirectory 10 = .ok (.bipush 8, 2) := by decide +kernel
theorem dX6_makeDirectory_12 : decode cX6_makeDirectory 12 = .ok (.if_icmp .lt 6, 3) := by decide +kernel
theorem dX6_makeDirectory_15 : decode cX6_makeDirectory 15 = .ok (.bipush (-3), 2) := by decide +kernel
theorem dX6_makeDirectory_17 : decode cX6_makeDirectory 17 = .ok (.ireturn, 1) := by decide +kernel
theorem dX6_makeDirectory_18 : decode cX6_makeDirectory 18 = .ok (.aload_n 0, 1) := by decide +kernel
theorem dX6_makeDirectory_19 : decode cX6_makeDirectory 19 = .ok (.getfield 15, 3) := by decide +kernel
theorem dX6_makeDirectory_22 : decode cX6_makeDirectory 22 = .ok (.iload_n 2, 1) := by decide +kernel
theorem dX6_makeDirectory_23 : decode cX6_makeDirectory 23 = .ok (.iload_n 1, 1) := by decide +kernel
theorem dX6_makeDirectory_24 : decode cX6_makeDirectory 24 = .ok (.iastore, 1) := by decide +kernel
theorem dX6_makeDirectory_25 : decode cX6_makeDirectory 25 = .ok (.aload_n 0, 1) := by decide +kernel
theorem dX6_makeDirectory_26 : decode cX6_makeDirectory 26 = .ok (.getfield 19, 3) := by decide +kernel
theorem dX6_makeDirectory_29 : decode cX6_makeDirectory 29 = .ok (.iload_n 2, 1) := by decide +kernel
theorem dX6_makeDirectory_30 : decode cX6_makeDirectory 30 = .ok (.iconst 0, 1) := by decide +kernel
theorem dX6_makeDirectory_31 : decode cX6_makeDirectory 31 = .ok (.iastore, 1) := by decide +kernel
theorem dX6_makeDirectory_32 : decode cX6_makeDirectory 32 = .ok (.aload_n 0, 1) := by decide +kernel
theorem dX6_makeDirectory_33 : decode cX6_makeDirectory 33 = .ok (.dup, 1) := by decide +kernel
theorem dX6_makeDirectory_34 : decode cX6_makeDirectory 34 = .ok (.getfield 9, 3) := by decide +kernel
theorem dX6_makeDirectory_37 : decode cX6_makeDirectory 37 = .ok (.iconst 1, 1) := by decide +kernel
theorem dX6_makeDirectory_38 : decode cX6_makeDirectory 38 = .ok (.iadd, 1) := by decide +kernel
theorem dX6_makeDirectory_39 : decode cX6_makeDirectory 39 = .ok (.putfield 9, 3) := by decide +kernel
theorem dX6_makeDirectory_42 : decode cX6_makeDirectory 42 = .ok (.iload_n 2, 1) := by decide +kernel
theorem dX6_makeDirectory_43 : decode cX6_makeDirectory 43 = .ok (.ireturn, 1) := by decide +kernel
def F_X6_makeDirectory (o : Nat) (x1 : Int32) (P : VP) (post : Int32 → VP → Prop) : Prop :=
  (P 2 o 0 < 0 → post (((-3) : Int32)) P) ∧ (¬ P 2 o 0 < 0 → (P 2 o 0 < 8 → (0 ≤ P 2 o 0 ∧ P 2 o 0 < 8) ∧ (∀ P24 : VP, P24 = vup P 3 o (ix (P 2 o 0)) x1 → ((0 ≤ P 2 o 0 ∧ P 2 o 0 < 8) ∧ (∀ P31 : VP, P31 = vup P24 4 o (ix (P 2 o 0)) 0 → (∀ P39 : VP, P39 = vup P31 2 o 0 ((P31 2 o 0) + 1) → (post (P 2 o 0) P39)))))) ∧ (¬ P 2 o 0 < 8 → post (((-3) : Int32)) P))
set_option maxRecDepth 4000 in
theorem s_X6_makeDirectory {l : Launch} {g : vG} {o : Nat} {x1 : Int32} {P Q : VP} {post : Int32 → VP → Prop} (ho : o < vcnt 2) (h : F_X6_makeDirectory o x1 P post) : VC l g yX6_makeDirectory cX6_makeDirectory 3 (some .int) 0 [vR 2 o, vI x1] (vjn P Q) (vcI Q post) := by
  refine VC.of (by decide +kernel) (Nat.le_of_ble_eq_true rfl) (show VM l g RX6 cX6_makeDirectory 3 (some .int) 0 (vcI Q post) 0 [(0, vR 2 o), (1, vI x1)] [] (vjn P Q) from ?_)
  unfold F_X6_makeDirectory at h
  refine vr_aload_n 0 0 dX6_makeDirectory_0 rfl rfl ?_
  refine vg_2_0 RX6 rfl ho fl_6_9 dX6_makeDirectory_1 ?_
  refine vr_istore_n 2 [(2, vI (P 2 o 0)), (0, vR 2 o), (1, vI x1)] dX6_makeDirectory_4 rfl (by decide) rfl ?_
  refine vr_iload_n 2 0 dX6_makeDirectory_5 rfl rfl ?_
  refine vr_iflt 15 dX6_makeDirectory_6 (by decide) (fun c6 => ?_) (fun c6 => ?_)
  · have h := h.1 c6
    refine vr_bipush (-3) dX6_makeDirectory_15 (by decide) ?_
    exact vr_iret rfl ⟨_, _, rfl, rfl, h⟩ dX6_makeDirectory_17
  · have h := h.2 c6
    refine vr_iload_n 2 0 dX6_makeDirectory_9 rfl rfl ?_
    refine vr_bipush 8 dX6_makeDirectory_10 (by decide) ?_
    refine vr_icmplt 18 dX6_makeDirectory_12 (by decide) (fun c12 => ?_) (fun c12 => ?_)
    · have h := h.1 c12
      refine vr_aload_n 0 1 dX6_makeDirectory_18 rfl rfl ?_
      refine vg_2_1 RX6 rfl ho fl_6_15 dX6_makeDirectory_19 ?_
      refine vr_iload_n 2 0 dX6_makeDirectory_22 rfl rfl ?_
      refine vr_iload_n 1 2 dX6_makeDirectory_23 rfl rfl ?_
      have hi := h.1
      have h := h.2
      obtain ⟨P24, eP24⟩ : ∃ y : VP, y = vup P 3 o (ix (P 2 o 0)) x1 := ⟨_, rfl⟩
      have h := h P24 eP24
      refine vr_iastP 8 (ia_3 (x := o) ho) rfl hi eP24 dX6_makeDirectory_24 ?_
      refine vr_aload_n 0 1 dX6_makeDirectory_25 rfl rfl ?_
      refine vg_2_2 RX6 rfl ho fl_6_19 dX6_makeDirectory_26 ?_
      refine vr_iload_n 2 0 dX6_makeDirectory_29 rfl rfl ?_
      refine vr_iconst 0 dX6_makeDirectory_30 (by decide) ?_
      have hi := h.1
      have h := h.2
      obtain ⟨P31, eP31⟩ : ∃ y : VP, y = vup P24 4 o (ix (P 2 o 0)) 0 := ⟨_, rfl⟩
      have h := h P31 eP31
      refine vr_iastP 8 (ia_4 (x := o) ho) rfl hi eP31 dX6_makeDirectory_31 ?_
      refine vr_aload_n 0 1 dX6_makeDirectory_32 rfl rfl ?_
      refine vr_dup dX6_makeDirectory_33 rfl ?_
      refine vg_2_0 RX6 rfl ho fl_6_9 dX6_makeDirectory_34 ?_
      refine vr_iconst 1 dX6_makeDirectory_37 (by decide) ?_
      refine vr_iadd dX6_makeDirectory_38 ?_
      obtain ⟨P39, eP39⟩ : ∃ y : VP, y = vup P31 2 o 0 ((P31 2 o 0) + 1) := ⟨_, rfl⟩
      have h := h P39 eP39
      refine vp_2_0 RX6 rfl ho fl_6_9 eP39 dX6_makeDirectory_39 ?_
      refine vr_iload_n 2 0 dX6_makeDirectory_42 rfl rfl ?_
      exact vr_iret rfl ⟨_, _, rfl, rfl, h⟩ dX6_makeDirectory_43
    · have h := h.2 c12
      refine vr_bipush (-3) dX6_makeDirectory_15 (by decide) ?_
      exact vr_iret rfl ⟨_, _, rfl, rfl, h⟩ dX6_makeDirectory_17
theorem dX6_addRule_0 : decode cX6_addRule 0 = .ok (.aload_n 0, 1) := by decide +kernel
theorem dX6_addRule_1 : decode cX6_addRule 1 = .ok (.getfield 36, 3) := by decide +kernel
theorem dX6_addRule_4 : decode cX6_addRule 4 = .ok (.ifCond .lt 15, 3) := by decide +kernel
theorem dX6_addRule_7 : decode cX6_addRule 7 = .ok (.aload_n 0, 1) := by decide +kernel
theorem dX6_addRule_8 : decode cX6_addRule 8 = .ok (.getfield 36, 3) := by decide +kernel
theorem dX6_addRule_11 : decode cX6_addRule 11 = .ok (.aload_n 0, 1) := by decide +kernel
theorem dX6_addRule_12 : decode cX6_addRule 12 = .ok (.getfield 22, 3) := by decide +kernel
theorem dX6_addRule_15 : decode cX6_addRule 15 = .ok (.arraylength, 1) := by decide +kernel
theorem dX6_addRule_16 : decode cX6_addRule 16 = .ok (.if_icmp .lt 6, 3) := by decide +kernel
theorem dX6_addRule_19 : decode cX6_addRule 19 = .ok (.bipush (-3), 2) := by decide +kernel
theorem dX6_addRule_21 : decode cX6_addRule 21 = .ok (.ireturn, 1) := by decide +kernel
theorem dX6_addRule_22 : decode cX6_addRule 22 = .ok (.aload_n 0, 1) := by decide +kernel
theorem dX6_addRule_23 : decode cX6_addRule 23 = .ok (.getfield 22, 3) := by decide +kernel
theorem dX6_addRule_26 : decode cX6_addRule 26 = .ok (.aload_n 0, 1) := by decide +kernel
theorem dX6_addRule_27 : decode cX6_addRule 27 = .ok (.getfield 36, 3) := by decide +kernel
theorem dX6_addRule_30 : decode cX6_addRule 30 = .ok (.iload_n 1, 1) := by decide +kernel
theorem dX6_addRule_31 : decode cX6_addRule 31 = .ok (.iastore, 1) := by decide +kernel
theorem dX6_addRule_32 : decode cX6_addRule 32 = .ok (.aload_n 0, 1) := by decide +kernel
theorem dX6_addRule_33 : decode cX6_addRule 33 = .ok (.dup, 1) := by decide +kernel
theorem dX6_addRule_34 : decode cX6_addRule 34 = .ok (.getfield 36, 3) := by decide +kernel
theorem dX6_addRule_37 : decode cX6_addRule 37 = .ok (.iconst 1, 1) := by decide +kernel
theorem dX6_addRule_38 : decode cX6_addRule 38 = .ok (.iadd, 1) := by decide +kernel
theorem dX6_addRule_39 : decode cX6_addRule 39 = .ok (.putfield 36, 3) := by decide +kernel
theorem dX6_addRule_42 : decode cX6_addRule 42 = .ok (.aload_n 0, 1) := by decide +kernel
theorem dX6_addRule_43 : decode cX6_addRule 43 = .ok (.getfield 36, 3) := by decide +kernel
theorem dX6_addRule_46 : decode cX6_addRule 46 = .ok (.ireturn, 1) := by decide +kernel
def F_X6_addRule (o : Nat) (x1 : Int32) (P : VP) (post : Int32 → VP → Prop) : Prop :=
  (P 2 o 3 < 0 → post (((-3) : Int32)) P) ∧ (¬ P 2 o 3 < 0 → (P 2 o 3 < 4 → (0 ≤ P 2 o 3 ∧ P 2 o 3 < 4) ∧ (∀ P31 : VP, P31 = vup P 5 o (ix (P 2 o 3)) x1 → (∀ P39 : VP, P39 = vup P31 2 o 3 ((P31 2 o 3) + 1) → (post (P39 2 o 3) P39)))) ∧ (¬ P 2 o 3 < 4 → post (((-3) : Int32)) P))
set_option maxRecDepth 4000 in
theorem s_X6_addRule {l : Launch} {g : vG} {o : Nat} {x1 : Int32} {P Q : VP} {post : Int32 → VP → Prop} (ho : o < vcnt 2) (h : F_X6_addRule o x1 P post) : VC l g yX6_addRule cX6_addRule 2 (some .int) 0 [vR 2 o, vI x1] (vjn P Q) (vcI Q post) := by
  refine VC.of (by decide +kernel) (Nat.le_of_ble_eq_true rfl) (show VM l g RX6 cX6_addRule 2 (some .int) 0 (vcI Q post) 0 [(0, vR 2 o), (1, vI x1)] [] (vjn P Q) from ?_)
  unfold F_X6_addRule at h
  refine vr_aload_n 0 0 dX6_addRule_0 rfl rfl ?_
  refine vg_2_3 RX6 rfl ho fl_6_36 dX6_addRule_1 ?_
  refine vr_iflt 19 dX6_addRule_4 (by decide) (fun c4 => ?_) (fun c4 => ?_)
  · have h := h.1 c4
    refine vr_bipush (-3) dX6_addRule_19 (by decide) ?_
    exact vr_iret rfl ⟨_, _, rfl, rfl, h⟩ dX6_addRule_21
  · have h := h.2 c4
    refine vr_aload_n 0 0 dX6_addRule_7 rfl rfl ?_
    refine vg_2_3 RX6 rfl ho fl_6_36 dX6_addRule_8 ?_
    refine vr_aload_n 0 0 dX6_addRule_11 rfl rfl ?_
    refine vg_2_4 RX6 rfl ho fl_6_22 dX6_addRule_12 ?_
    refine vr_alen 4 ((ia_5 (x := o) ho)).2.1 ((ia_5 (x := o) ho)).1 rfl dX6_addRule_15 ?_
    refine vr_icmplt 22 dX6_addRule_16 (by decide) (fun c16 => ?_) (fun c16 => ?_)
    · have h := h.1 c16
      refine vr_aload_n 0 0 dX6_addRule_22 rfl rfl ?_
      refine vg_2_4 RX6 rfl ho fl_6_22 dX6_addRule_23 ?_
      refine vr_aload_n 0 0 dX6_addRule_26 rfl rfl ?_
      refine vg_2_3 RX6 rfl ho fl_6_36 dX6_addRule_27 ?_
      refine vr_iload_n 1 1 dX6_addRule_30 rfl rfl ?_
      have hi := h.1
      have h := h.2
      obtain ⟨P31, eP31⟩ : ∃ y : VP, y = vup P 5 o (ix (P 2 o 3)) x1 := ⟨_, rfl⟩
      have h := h P31 eP31
      refine vr_iastP 4 (ia_5 (x := o) ho) rfl hi eP31 dX6_addRule_31 ?_
      refine vr_aload_n 0 0 dX6_addRule_32 rfl rfl ?_
      refine vr_dup dX6_addRule_33 rfl ?_
      refine vg_2_3 RX6 rfl ho fl_6_36 dX6_addRule_34 ?_
      refine vr_iconst 1 dX6_addRule_37 (by decide) ?_
      refine vr_iadd dX6_addRule_38 ?_
      obtain ⟨P39, eP39⟩ : ∃ y : VP, y = vup P31 2 o 3 ((P31 2 o 3) + 1) := ⟨_, rfl⟩
      have h := h P39 eP39
      refine vp_2_3 RX6 rfl ho fl_6_36 eP39 dX6_addRule_39 ?_
      refine vr_aload_n 0 0 dX6_addRule_42 rfl rfl ?_
      refine vg_2_3 RX6 rfl ho fl_6_36 dX6_addRule_43 ?_
      exact vr_iret rfl ⟨_, _, rfl, rfl, h⟩ dX6_addRule_46
    · have h := h.2 c16
      refine vr_bipush (-3) dX6_addRule_19 (by decide) ?_
      exact vr_iret rfl ⟨_, _, rfl, rfl, h⟩ dX6_addRule_21
theorem dX6_leastFree_0 : decode cX6_leastFree 0 = .ok (.iconst 0, 1) := by decide +kernel
theorem dX6_leastFree_1 : decode cX6_leastFree 1 = .ok (.istore_n 1, 1) := by decide +kernel
theorem dX6_leastFree_2 : decode cX6_leastFree 2 = .ok (.iload_n 1, 1) := by decide +kernel
theorem dX6_leastFree_3 : decode cX6_leastFree 3 = .ok (.aload_n 0, 1) := by decide +kernel
theorem dX6_leastFree_4 : decode cX6_leastFree 4 = .ok (.getfield 27, 3) := by decide +kernel
theorem dX6_leastFree_7 : decode cX6_leastFree 7 = .ok (.arraylength, 1) := by decide +kernel
theorem dX6_leastFree_8 : decode cX6_leastFree 8 = .ok (.if_icmp .ge 29, 3) := by decide +kernel
theorem dX6_leastFree_11 : decode cX6_leastFree 11 = .ok (.aload_n 0, 1) := by decide +kernel
theorem dX6_leastFree_12 : decode cX6_leastFree 12 = .ok (.getfield 27, 3) := by decide +kernel
theorem dX6_leastFree_15 : decode cX6_leastFree 15 = .ok (.iload_n 1, 1) := by decide +kernel
theorem dX6_leastFree_16 : decode cX6_leastFree 16 = .ok (.aaload, 1) := by decide +kernel
theorem dX6_leastFree_17 : decode cX6_leastFree 17 = .ok (.astore_n 2, 1) := by decide +kernel
theorem dX6_leastFree_18 : decode cX6_leastFree 18 = .ok (.aload_n 2, 1) := by decide +kernel
theorem dX6_leastFree_19 : decode cX6_leastFree 19 = .ok (.ifnull 12, 3) := by decide +kernel
theorem dX6_leastFree_22 : decode cX6_leastFree 22 = .ok (.aload_n 2, 1) := by decide +kernel
theorem dX6_leastFree_23 : decode cX6_leastFree 23 = .ok (.getfield 39, 3) := by decide +kernel
theorem dX6_leastFree_26 : decode cX6_leastFree 26 = .ok (.ifCond .ne 5, 3) := by decide +kernel
theorem dX6_leastFree_29 : decode cX6_leastFree 29 = .ok (.iload_n 1, 1) := by decide +kernel
theorem dX6_leastFree_30 : decode cX6_leastFree 30 = .ok (.ireturn, 1) := by decide +kernel
theorem dX6_leastFree_31 : decode cX6_leastFree 31 = .ok (.iinc 1 1, 3) := by decide +kernel
theorem dX6_leastFree_34 : decode cX6_leastFree 34 = .ok (.goto (-32), 3) := by decide +kernel
theorem dX6_leastFree_37 : decode cX6_leastFree 37 = .ok (.iconst (-1), 1) := by decide +kernel
theorem dX6_leastFree_38 : decode cX6_leastFree 38 = .ok (.ireturn, 1) := by decide +kernel
def F_X6_leastFree_l2 (o : Nat) (P : VP) (post : Int32 → Prop)   (X : Int32 → Prop) (v1 : Int32) : Prop :=
  (v1 < 16 → (0 ≤ v1 ∧ v1 < 16) ∧ ((P 7 ((16 * o + ix v1)) 0 = 0 → post v1) ∧ (¬ P 7 ((16 * o + ix v1)) 0 = 0 → X (v1 + 1)))) ∧ (¬ v1 < 16 → post (((-1) : Int32)))
set_option maxRecDepth 4000 in
theorem s_X6_leastFree_l2 {l : Launch} {g : vG} {o : Nat} {P Q : VP} {post : Int32 → Prop}    {v1 : Int32} (ho : o < vcnt 2)  (h : vL1 (F_X6_leastFree_l2 o P post  ) v1) : VM l g RX6 cX6_leastFree 3 (some .int) 0 (vpI (vjn P Q) post) 2 [(0, vR 2 o), (1, vI v1)] [] (vjn P Q) := by
  refine vL1_s (T := fun v1 => VM l g RX6 cX6_leastFree 3 (some .int) 0 (vpI (vjn P Q) post) 2 [(0, vR 2 o), (1, vI v1)] [] (vjn P Q)) ?_ h
  clear h
  intro X hX v1 h
  unfold F_X6_leastFree_l2 at h
  refine vr_iload_n 1 1 dX6_leastFree_2 rfl rfl ?_
  refine vr_aload_n 0 0 dX6_leastFree_3 rfl rfl ?_
  refine vg_2_6 RX6 rfl ho fl_6_27 dX6_leastFree_4 ?_
  refine vl_6 ho dX6_leastFree_7 ?_
  refine vr_icmpge 37 dX6_leastFree_8 (by decide) (fun c8 => ?_) (fun c8 => ?_)
  · have h := h.1 c8
    refine vr_aload_n 0 0 dX6_leastFree_11 rfl rfl ?_
    refine vg_2_6 RX6 rfl ho fl_6_27 dX6_leastFree_12 ?_
    refine vr_iload_n 1 1 dX6_leastFree_15 rfl rfl ?_
    have hi := h.1
    have h := h.2
    refine vq_6 ho hi dX6_leastFree_16 (fun hq16 => ?_)
    refine vr_astore_n 2 [(2, vR 7 ((16 * o + ix v1))), (0, vR 2 o), (1, vI v1)] dX6_leastFree_17 rfl (by decide) rfl ?_
    refine vr_aload_n 2 0 dX6_leastFree_18 rfl rfl ?_
    refine vr_ifnullR dX6_leastFree_19 ?_
    refine vr_aload_n 2 0 dX6_leastFree_22 rfl rfl ?_
    refine vg_7_0 RX6 rfl hq16 fl_6_39 dX6_leastFree_23 ?_
    refine vr_ifne 31 dX6_leastFree_26 (by decide) (fun c26 => ?_) (fun c26 => ?_)
    · have h := h.1 c26
      refine vr_iload_n 1 2 dX6_leastFree_29 rfl rfl ?_
      exact vr_iret rfl ⟨rfl, _, rfl, h⟩ dX6_leastFree_30
    · have h := h.2 c26
      refine vr_iinc (v1 + 1) 2 [(1, vI (v1 + 1)), (2, vR 7 ((16 * o + ix v1))), (0, vR 2 o)] dX6_leastFree_31 rfl rfl (by decide) rfl ?_
      refine vr_goto 2 dX6_leastFree_34 (by decide) ?_
      refine vr_sub [2, 0] [(0, vR 2 o), (1, vI (v1 + 1))] rfl ?_
      exact hX _ h
  · have h := h.2 c8
    refine vr_iconst (-1) dX6_leastFree_37 (by decide) ?_
    exact vr_iret rfl ⟨rfl, _, rfl, h⟩ dX6_leastFree_38
def F_X6_leastFree (o : Nat) (P : VP) (post : Int32 → Prop) : Prop :=
  vL1 (F_X6_leastFree_l2 o P post  ) ((0 : Int32))
set_option maxRecDepth 4000 in
theorem s_X6_leastFree {l : Launch} {g : vG} {o : Nat} {P Q : VP} {post : Int32 → Prop} (ho : o < vcnt 2) (h : F_X6_leastFree o P post) : VC l g yX6_leastFree cX6_leastFree 3 (some .int) 0 [vR 2 o] (vjn P Q) (vpI (vjn P Q) post) := by
  refine VC.of (by decide +kernel) (Nat.le_of_ble_eq_true rfl) (show VM l g RX6 cX6_leastFree 3 (some .int) 0 (vpI (vjn P Q) post) 0 [(0, vR 2 o)] [] (vjn P Q) from ?_)
  unfold F_X6_leastFree at h
  refine vr_iconst 0 dX6_leastFree_0 (by decide) ?_
  refine vr_istore_n 1 [(1, vI 0), (0, vR 2 o)] dX6_leastFree_1 rfl (by decide) rfl ?_
  refine vr_sub [1, 0] [(0, vR 2 o), (1, vI 0)] rfl ?_
  exact s_X6_leastFree_l2 ho  h
theorem dX6_makeSegment_0 : decode cX6_makeSegment 0 = .ok (.iload_n 1, 1) := by decide +kernel
theorem dX6_makeSegment_1 : decode cX6_makeSegment 1 = .ok (.ifCond .lt 21, 3) := by decide +kernel
theorem dX6_makeSegment_4 : decode cX6_makeSegment 4 = .ok (.iload_n 1, 1) := by decide +kernel
theorem dX6_makeSegment_5 : decode cX6_makeSegment 5 = .ok (.aload_n 0, 1) := by decide +kernel
theorem dX6_makeSegment_6 : decode cX6_makeSegment 6 = .ok (.getfield 27, 3) := by decide +kernel
theorem dX6_makeSegment_9 : decode cX6_makeSegment 9 = .ok (.arraylength, 1) := by decide +kernel
theorem dX6_makeSegment_10 : decode cX6_makeSegment 10 = .ok (.if_icmp .ge 12, 3) := by decide +kernel
theorem dX6_makeSegment_13 : decode cX6_makeSegment 13 = .ok (.aload_n 0, 1) := by decide +kernel
theorem dX6_makeSegment_14 : decode cX6_makeSegment 14 = .ok (.getfield 27, 3) := by decide +kernel
theorem dX6_makeSegment_17 : decode cX6_makeSegment 17 = .ok (.iload_n 1, 1) := by decide +kernel
theorem dX6_makeSegment_18 : decode cX6_makeSegment 18 = .ok (.aaload, 1) := by decide +kernel
theorem dX6_makeSegment_19 : decode cX6_makeSegment 19 = .ok (.goto 4, 3) := by decide +kernel
theorem dX6_makeSegment_22 : decode cX6_makeSegment 22 = .ok (.aconst_null, 1) := by decide +kernel
theorem dX6_makeSegment_23 : decode cX6_makeSegment 23 = .ok (.astore 5, 2) := by decide +kernel
theorem dX6_makeSegment_25 : decode cX6_makeSegment 25 = .ok (.aload 5, 2) := by decide +kernel
theorem dX6_makeSegment_27 : decode cX6_makeSegment 27 = .ok (.ifnonnull 4, 3) := by decide +kernel
theorem dX6_makeSegment_30 : decode cX6_makeSegment 30 = .ok (.return_, 1) := by decide +kernel
theorem dX6_makeSegment_31 : decode cX6_makeSegment 31 = .ok (.aload_n 0, 1) := by decide +kernel
theorem dX6_makeSegment_32 : decode cX6_makeSegment 32 = .ok (.dup, 1) := by decide +kernel
theorem dX6_makeSegment_33 : decode cX6_makeSegment 33 = .ok (.getfield 43, 3) := by decide +kernel
theorem dX6_makeSegment_36 : decode cX6_makeSegment 36 = .ok (.iconst 1, 1) := by decide +kernel
theorem dX6_makeSegment_37 : decode cX6_makeSegment 37 = .ok (.iadd, 1) := by decide +kernel
theorem dX6_makeSegment_38 : decode cX6_makeSegment 38 = .ok (.putfield 43, 3) := by decide +kernel
theorem dX6_makeSegment_41 : decode cX6_makeSegment 41 = .ok (.aload 5, 2) := by decide +kernel
theorem dX6_makeSegment_43 : decode cX6_makeSegment 43 = .ok (.iconst 1, 1) := by decide +kernel
theorem dX6_makeSegment_44 : decode cX6_makeSegment 44 = .ok (.putfield 39, 3) := by decide +kernel
theorem dX6_makeSegment_47 : decode cX6_makeSegment 47 = .ok (.aload 5, 2) := by decide +kernel
theorem dX6_makeSegment_49 : decode cX6_makeSegment 49 = .ok (.iload_n 2, 1) := by decide +kernel
theorem dX6_makeSegment_50 : decode cX6_makeSegment 50 = .ok (.putfield 46, 3) := by decide +kernel
theorem dX6_makeSegment_53 : decode cX6_makeSegment 53 = .ok (.aload 5, 2) := by decide +kernel
theorem dX6_makeSegment_55 : decode cX6_makeSegment 55 = .ok (.iload_n 3, 1) := by decide +kernel
theorem dX6_makeSegment_56 : decode cX6_makeSegment 56 = .ok (.putfield 49, 3) := by decide +kernel
theorem dX6_makeSegment_59 : decode cX6_makeSegment 59 = .ok (.aload 5, 2) := by decide +kernel
theorem dX6_makeSegment_61 : decode cX6_makeSegment 61 = .ok (.aload_n 0, 1) := by decide +kernel
theorem dX6_makeSegment_62 : decode cX6_makeSegment 62 = .ok (.getfield 43, 3) := by decide +kernel
theorem dX6_makeSegment_65 : decode cX6_makeSegment 65 = .ok (.putfield 52, 3) := by decide +kernel
theorem dX6_makeSegment_68 : decode cX6_makeSegment 68 = .ok (.aload 5, 2) := by decide +kernel
theorem dX6_makeSegment_70 : decode cX6_makeSegment 70 = .ok (.iconst 4, 1) := by decide +kernel
theorem dX6_makeSegment_71 : decode cX6_makeSegment 71 = .ok (.putfield 55, 3) := by decide +kernel
theorem dX6_makeSegment_74 : decode cX6_makeSegment 74 = .ok (.aload 5, 2) := by decide +kernel
theorem dX6_makeSegment_76 : decode cX6_makeSegment 76 = .ok (.iconst 4, 1) := by decide +kernel
theorem dX6_makeSegment_77 : decode cX6_makeSegment 77 = .ok (.putfield 58, 3) := by decide +kernel
theorem dX6_makeSegment_80 : decode cX6_makeSegment 80 = .ok (.aload 5, 2) := by decide +kernel
theorem dX6_makeSegment_82 : decode cX6_makeSegment 82 = .ok (.iconst 4, 1) := by decide +kernel
theorem dX6_makeSegment_83 : decode cX6_makeSegment 83 = .ok (.putfield 61, 3) := by decide +kernel
theorem dX6_makeSegment_86 : decode cX6_makeSegment 86 = .ok (.aload 5, 2) := by decide +kernel
theorem dX6_makeSegment_88 : decode cX6_makeSegment 88 = .ok (.bipush 7, 2) := by decide +kernel
theorem dX6_makeSegment_90 : decode cX6_makeSegment 90 = .ok (.putfield 64, 3) := by decide +kernel
theorem dX6_makeSegment_93 : decode cX6_makeSegment 93 = .ok (.aload 5, 2) := by decide +kernel
theorem dX6_makeSegment_95 : decode cX6_makeSegment 95 = .ok (.iconst 0, 1) := by decide +kernel
theorem dX6_makeSegment_96 : decode cX6_makeSegment 96 = .ok (.invokevirtual 67, 3) := by decide +kernel
theorem dX6_makeSegment_99 : decode cX6_makeSegment 99 = .ok (.aload 5, 2) := by decide +kernel
theorem dX6_makeSegment_101 : decode cX6_makeSegment 101 = .ok (.iload 4, 2) := by decide +kernel
theorem dX6_makeSegment_103 : decode cX6_makeSegment 103 = .ok (.invokevirtual 67, 3) := by decide +kernel
theorem dX6_makeSegment_106 : decode cX6_makeSegment 106 = .ok (.return_, 1) := by decide +kernel
def F_X6_makeSegment_b23 (o : Nat) (x1 : Int32) (x2 : Int32) (x3 : Int32) (x4 : Int32) (P : VP) (post : VP → Prop)  (t0 : Option Nat) : Prop :=
  (match t0 with | none => (post P) | some yt0 => (∀ P38 : VP, P38 = vup P 2 o 5 ((P 2 o 5) + 1) → (∀ P44 : VP, P44 = vup P38 7 yt0 0 1 → (∀ P50 : VP, P50 = vup P44 7 yt0 1 x2 → (∀ P56 : VP, P56 = vup P50 7 yt0 2 x3 → (∀ P65 : VP, P65 = vup P56 7 yt0 3 (P56 2 o 5) → (∀ P71 : VP, P71 = vup P65 7 yt0 5 4 → (∀ P77 : VP, P77 = vup P71 7 yt0 6 4 → (∀ P83 : VP, P83 = vup P77 7 yt0 7 4 → (∀ P90 : VP, P90 = vup P83 7 yt0 8 7 → (F_X3_changeLength yt0 ((0 : Int32)) P90 (fun P96 => F_X3_changeLength yt0 x4 P96 (fun P103 => post P103)))))))))))))
set_option maxRecDepth 4000 in
theorem s_X6_makeSegment_b23 {l : Launch} {g : vG} {o : Nat} {x1 : Int32} {x2 : Int32} {x3 : Int32} {x4 : Int32} {P Q : VP} {post : VP → Prop}  {t0 : Option Nat}  (ho : o < vcnt 2) (ht0 : ∀ x, t0 = some x → x < vcnt 7)  (h : F_X6_makeSegment_b23 o x1 x2 x3 x4 P post  t0) : VM l g RX6 cX6_makeSegment 6 none 3 (vcV Q post) 23 [(0, vR 2 o), (2, vI x2), (3, vI x3), (4, vI x4)] [vO 7 t0] (vjn P Q) := by
  unfold F_X6_makeSegment_b23 at h
  refine vr_astore [(5, vO 7 t0), (0, vR 2 o), (2, vI x2), (3, vI x3), (4, vI x4)] dX6_makeSegment_23 (by decide) rfl ?_
  refine vr_aload 0 dX6_makeSegment_25 rfl ?_
  rcases t0 with _ | yt0
  · refine vr_ifnonnullN dX6_makeSegment_27 ?_
    exact vr_vret rfl ⟨_, rfl, rfl, h⟩ dX6_makeSegment_30
  · refine vr_ifnonnullR 31 dX6_makeSegment_27 (by decide) ?_
    refine vr_aload_n 0 1 dX6_makeSegment_31 rfl rfl ?_
    refine vr_dup dX6_makeSegment_32 rfl ?_
    refine vg_2_5 RX6 rfl ho fl_6_43 dX6_makeSegment_33 ?_
    refine vr_iconst 1 dX6_makeSegment_36 (by decide) ?_
    refine vr_iadd dX6_makeSegment_37 ?_
    obtain ⟨P38, eP38⟩ : ∃ y : VP, y = vup P 2 o 5 ((P 2 o 5) + 1) := ⟨_, rfl⟩
    have h := h P38 eP38
    refine vp_2_5 RX6 rfl ho fl_6_43 eP38 dX6_makeSegment_38 ?_
    refine vr_aload 0 dX6_makeSegment_41 rfl ?_
    refine vr_iconst 1 dX6_makeSegment_43 (by decide) ?_
    obtain ⟨P44, eP44⟩ : ∃ y : VP, y = vup P38 7 yt0 0 1 := ⟨_, rfl⟩
    have h := h P44 eP44
    refine vp_7_0 RX6 rfl (ht0 _ rfl) fl_6_39 (Or.inr rfl) eP44 dX6_makeSegment_44 ?_
    refine vr_aload 0 dX6_makeSegment_47 rfl ?_
    refine vr_iload_n 2 2 dX6_makeSegment_49 rfl rfl ?_
    obtain ⟨P50, eP50⟩ : ∃ y : VP, y = vup P44 7 yt0 1 x2 := ⟨_, rfl⟩
    have h := h P50 eP50
    refine vp_7_1 RX6 rfl (ht0 _ rfl) fl_6_46 eP50 dX6_makeSegment_50 ?_
    refine vr_aload 0 dX6_makeSegment_53 rfl ?_
    refine vr_iload_n 3 3 dX6_makeSegment_55 rfl rfl ?_
    obtain ⟨P56, eP56⟩ : ∃ y : VP, y = vup P50 7 yt0 2 x3 := ⟨_, rfl⟩
    have h := h P56 eP56
    refine vp_7_2 RX6 rfl (ht0 _ rfl) fl_6_49 eP56 dX6_makeSegment_56 ?_
    refine vr_aload 0 dX6_makeSegment_59 rfl ?_
    refine vr_aload_n 0 1 dX6_makeSegment_61 rfl rfl ?_
    refine vg_2_5 RX6 rfl ho fl_6_43 dX6_makeSegment_62 ?_
    obtain ⟨P65, eP65⟩ : ∃ y : VP, y = vup P56 7 yt0 3 (P56 2 o 5) := ⟨_, rfl⟩
    have h := h P65 eP65
    refine vp_7_3 RX6 rfl (ht0 _ rfl) fl_6_52 eP65 dX6_makeSegment_65 ?_
    refine vr_aload 0 dX6_makeSegment_68 rfl ?_
    refine vr_iconst 4 dX6_makeSegment_70 (by decide) ?_
    obtain ⟨P71, eP71⟩ : ∃ y : VP, y = vup P65 7 yt0 5 4 := ⟨_, rfl⟩
    have h := h P71 eP71
    refine vp_7_5 RX6 rfl (ht0 _ rfl) fl_6_55 eP71 dX6_makeSegment_71 ?_
    refine vr_aload 0 dX6_makeSegment_74 rfl ?_
    refine vr_iconst 4 dX6_makeSegment_76 (by decide) ?_
    obtain ⟨P77, eP77⟩ : ∃ y : VP, y = vup P71 7 yt0 6 4 := ⟨_, rfl⟩
    have h := h P77 eP77
    refine vp_7_6 RX6 rfl (ht0 _ rfl) fl_6_58 eP77 dX6_makeSegment_77 ?_
    refine vr_aload 0 dX6_makeSegment_80 rfl ?_
    refine vr_iconst 4 dX6_makeSegment_82 (by decide) ?_
    obtain ⟨P83, eP83⟩ : ∃ y : VP, y = vup P77 7 yt0 7 4 := ⟨_, rfl⟩
    have h := h P83 eP83
    refine vp_7_7 RX6 rfl (ht0 _ rfl) fl_6_61 eP83 dX6_makeSegment_83 ?_
    refine vr_aload 0 dX6_makeSegment_86 rfl ?_
    refine vr_bipush 7 dX6_makeSegment_88 (by decide) ?_
    obtain ⟨P90, eP90⟩ : ∃ y : VP, y = vup P83 7 yt0 8 7 := ⟨_, rfl⟩
    have h := h P90 eP90
    refine vp_7_8 RX6 rfl (ht0 _ rfl) fl_6_64 eP90 dX6_makeSegment_90 ?_
    refine vr_aload 0 dX6_makeSegment_93 rfl ?_
    refine vr_iconst 0 dX6_makeSegment_95 (by decide) ?_
    refine vr_callV RX6 (s_X3_changeLength (ht0 _ rfl) h) rfl (ht0 _ rfl) rfl rfl rfl ml_6_67 rfl yh_X3_changeLength rfl ⟨Nat.le_of_ble_eq_true rfl, Nat.le_of_ble_eq_true rfl⟩ (Nat.le_of_ble_eq_true rfl) ⟨Nat.zero_le _, Nat.zero_le _⟩ dX6_makeSegment_96 (kcv fun P96 h => ?_)
    refine vr_aload 0 dX6_makeSegment_99 rfl ?_
    refine vr_iload 4 dX6_makeSegment_101 rfl ?_
    refine vr_callV RX6 (s_X3_changeLength (ht0 _ rfl) h) rfl (ht0 _ rfl) rfl rfl rfl ml_6_67 rfl yh_X3_changeLength rfl ⟨Nat.le_of_ble_eq_true rfl, Nat.le_of_ble_eq_true rfl⟩ (Nat.le_of_ble_eq_true rfl) ⟨Nat.zero_le _, Nat.zero_le _⟩ dX6_makeSegment_103 (kcv fun P103 h => ?_)
    exact vr_vret rfl ⟨_, rfl, rfl, h⟩ dX6_makeSegment_106
def F_X6_makeSegment (o : Nat) (x1 : Int32) (x2 : Int32) (x3 : Int32) (x4 : Int32) (P : VP) (post : VP → Prop) : Prop :=
  (x1 < 0 → F_X6_makeSegment_b23 o x1 x2 x3 x4 P post  none) ∧ (¬ x1 < 0 → (x1 < 16 → (0 ≤ x1 ∧ x1 < 16) ∧ (F_X6_makeSegment_b23 o x1 x2 x3 x4 P post  (some ((16 * o + ix x1))))) ∧ (¬ x1 < 16 → F_X6_makeSegment_b23 o x1 x2 x3 x4 P post  none))
set_option maxRecDepth 4000 in
theorem s_X6_makeSegment {l : Launch} {g : vG} {o : Nat} {x1 : Int32} {x2 : Int32} {x3 : Int32} {x4 : Int32} {P Q : VP} {post : VP → Prop} (ho : o < vcnt 2) (h : F_X6_makeSegment o x1 x2 x3 x4 P post) : VC l g yX6_makeSegment cX6_makeSegment 6 none 3 [vR 2 o, vI x1, vI x2, vI x3, vI x4] (vjn P Q) (vcV Q post) := by
  refine VC.of (by decide +kernel) (Nat.le_of_ble_eq_true rfl) (show VM l g RX6 cX6_makeSegment 6 none 3 (vcV Q post) 0 [(0, vR 2 o), (1, vI x1), (2, vI x2), (3, vI x3), (4, vI x4)] [] (vjn P Q) from ?_)
  unfold F_X6_makeSegment at h
  refine vr_iload_n 1 1 dX6_makeSegment_0 rfl rfl ?_
  refine vr_iflt 22 dX6_makeSegment_1 (by decide) (fun c1 => ?_) (fun c1 => ?_)
  · have h := h.1 c1
    refine vr_anull dX6_makeSegment_22 ?_
    refine vr_sub [0, 2, 3, 4] [(0, vR 2 o), (2, vI x2), (3, vI x3), (4, vI x4)] rfl ?_
    exact s_X6_makeSegment_b23 ho vnone  h
  · have h := h.2 c1
    refine vr_iload_n 1 1 dX6_makeSegment_4 rfl rfl ?_
    refine vr_aload_n 0 0 dX6_makeSegment_5 rfl rfl ?_
    refine vg_2_6 RX6 rfl ho fl_6_27 dX6_makeSegment_6 ?_
    refine vl_6 ho dX6_makeSegment_9 ?_
    refine vr_icmpge 22 dX6_makeSegment_10 (by decide) (fun c10 => ?_) (fun c10 => ?_)
    · have h := h.1 c10
      refine vr_aload_n 0 0 dX6_makeSegment_13 rfl rfl ?_
      refine vg_2_6 RX6 rfl ho fl_6_27 dX6_makeSegment_14 ?_
      refine vr_iload_n 1 1 dX6_makeSegment_17 rfl rfl ?_
      have hi := h.1
      have h := h.2
      refine vq_6 ho hi dX6_makeSegment_18 (fun hq18 => ?_)
      refine vr_goto 23 dX6_makeSegment_19 (by decide) ?_
      refine vr_sub [0, 2, 3, 4] [(0, vR 2 o), (2, vI x2), (3, vI x3), (4, vI x4)] rfl ?_
      exact s_X6_makeSegment_b23 ho (vsome hq18)  h
    · have h := h.2 c10
      refine vr_anull dX6_makeSegment_22 ?_
      refine vr_sub [0, 2, 3, 4] [(0, vR 2 o), (2, vI x2), (3, vI x3), (4, vI x4)] rfl ?_
      exact s_X6_makeSegment_b23 ho vnone  h
theorem dX6_cellFrom_0 : decode cX6_cellFrom 0 = .ok (.iload_n 1, 1) := by decide +kernel
theorem dX6_cellFrom_1 : decode cX6_cellFrom 1 = .ok (.istore_n 2, 1) := by decide +kernel
theorem dX6_cellFrom_2 : decode cX6_cellFrom 2 = .ok (.iconst 0, 1) := by decide +kernel
theorem dX6_cellFrom_3 : decode cX6_cellFrom 3 = .ok (.istore_n 3, 1) := by decide +kernel
theorem dX6_cellFrom_4 : decode cX6_cellFrom 4 = .ok (.iload_n 3, 1) := by decide +kernel
theorem dX6_cellFrom_5 : decode cX6_cellFrom 5 = .ok (.bipush 8, 2) := by decide +kernel
theorem dX6_cellFrom_7 : decode cX6_cellFrom 7 = .ok (.if_icmp .ge 27, 3) := by decide +kernel
theorem dX6_cellFrom_10 : decode cX6_cellFrom 10 = .ok (.iload_n 2, 1) := by decide +kernel
theorem dX6_cellFrom_11 : decode cX6_cellFrom 11 = .ok (.ifCond .eq 23, 3) := by decide +kernel
theorem dX6_cellFrom_14 : decode cX6_cellFrom 14 = .ok (.aload_n 0, 1) := by decide +kernel
theorem dX6_cellFrom_15 : decode cX6_cellFrom 15 = .ok (.iload_n 2, 1) := by decide +kernel
theorem dX6_cellFrom_16 : decode cX6_cellFrom 16 = .ok (.invokevirtual 71, 3) := by decide +kernel
theorem dX6_cellFrom_19 : decode cX6_cellFrom 19 = .ok (.ifCond .ne 15, 3) := by decide +kernel
theorem dX6_cellFrom_22 : decode cX6_cellFrom 22 = .ok (.aload_n 0, 1) := by decide +kernel
theorem dX6_cellFrom_23 : decode cX6_cellFrom 23 = .ok (.iload_n 2, 1) := by decide +kernel
theorem dX6_cellFrom_24 : decode cX6_cellFrom 24 = .ok (.invokevirtual 75, 3) := by decide +kernel
theorem dX6_cellFrom_27 : decode cX6_cellFrom 27 = .ok (.istore_n 2, 1) := by decide +kernel
theorem dX6_cellFrom_28 : decode cX6_cellFrom 28 = .ok (.iinc 3 1, 3) := by decide +kernel
theorem dX6_cellFrom_31 : decode cX6_cellFrom 31 = .ok (.goto (-27), 3) := by decide +kernel
theorem dX6_cellFrom_34 : decode cX6_cellFrom 34 = .ok (.iload_n 2, 1) := by decide +kernel
theorem dX6_cellFrom_35 : decode cX6_cellFrom 35 = .ok (.ireturn, 1) := by decide +kernel
def F_X6_cellFrom_l4 (o : Nat) (x1 : Int32) (P : VP) (post : Int32 → Prop)   (X : Int32 → Int32 → Prop) (v2 : Int32) (v3 : Int32) : Prop :=
  (v3 < 8 → (v2 = 0 → post v2) ∧ (¬ v2 = 0 → F_X6_quotaOf o v2 P (fun r16 => (r16 = 0 → F_X6_aboveOf o v2 P (fun r24 => X r24 (v3 + 1))) ∧ (¬ r16 = 0 → post v2)))) ∧ (¬ v3 < 8 → post v2)
set_option maxRecDepth 4000 in
theorem s_X6_cellFrom_l4 {l : Launch} {g : vG} {o : Nat} {x1 : Int32} {P Q : VP} {post : Int32 → Prop}    {v2 : Int32} {v3 : Int32} (ho : o < vcnt 2)  (h : vL2 (F_X6_cellFrom_l4 o x1 P post  ) v2 v3) : VM l g RX6 cX6_cellFrom 4 (some .int) 2 (vpI (vjn P Q) post) 4 [(0, vR 2 o), (2, vI v2), (3, vI v3)] [] (vjn P Q) := by
  refine vL2_s (T := fun v2 v3 => VM l g RX6 cX6_cellFrom 4 (some .int) 2 (vpI (vjn P Q) post) 4 [(0, vR 2 o), (2, vI v2), (3, vI v3)] [] (vjn P Q)) ?_ h
  clear h
  intro X hX v2 v3 h
  unfold F_X6_cellFrom_l4 at h
  refine vr_iload_n 3 2 dX6_cellFrom_4 rfl rfl ?_
  refine vr_bipush 8 dX6_cellFrom_5 (by decide) ?_
  refine vr_icmpge 34 dX6_cellFrom_7 (by decide) (fun c7 => ?_) (fun c7 => ?_)
  · have h := h.1 c7
    refine vr_iload_n 2 1 dX6_cellFrom_10 rfl rfl ?_
    refine vr_ifeq 34 dX6_cellFrom_11 (by decide) (fun c11 => ?_) (fun c11 => ?_)
    · have h := h.1 c11
      refine vr_iload_n 2 1 dX6_cellFrom_34 rfl rfl ?_
      exact vr_iret rfl ⟨rfl, _, rfl, h⟩ dX6_cellFrom_35
    · have h := h.2 c11
      refine vr_aload_n 0 0 dX6_cellFrom_14 rfl rfl ?_
      refine vr_iload_n 2 1 dX6_cellFrom_15 rfl rfl ?_
      refine vr_callV RX6 (s_X6_quotaOf ho h) rfl ho rfl rfl rfl ml_6_71 rfl yh_X6_quotaOf rfl ⟨Nat.le_of_ble_eq_true rfl, Nat.le_of_ble_eq_true rfl⟩ (Nat.le_of_ble_eq_true rfl) ⟨Nat.zero_le _, Nat.zero_le _⟩ dX6_cellFrom_16 (ki fun r16 h => ?_)
      refine vr_ifne 34 dX6_cellFrom_19 (by decide) (fun c19 => ?_) (fun c19 => ?_)
      · have h := h.1 c19
        refine vr_aload_n 0 0 dX6_cellFrom_22 rfl rfl ?_
        refine vr_iload_n 2 1 dX6_cellFrom_23 rfl rfl ?_
        refine vr_callV RX6 (s_X6_aboveOf ho h) rfl ho rfl rfl rfl ml_6_75 rfl yh_X6_aboveOf rfl ⟨Nat.le_of_ble_eq_true rfl, Nat.le_of_ble_eq_true rfl⟩ (Nat.le_of_ble_eq_true rfl) ⟨Nat.zero_le _, Nat.zero_le _⟩ dX6_cellFrom_24 (ki fun r24 h => ?_)
        refine vr_istore_n 2 [(2, vI r24), (0, vR 2 o), (3, vI v3)] dX6_cellFrom_27 rfl (by decide) rfl ?_
        refine vr_iinc (v3 + 1) 2 [(3, vI (v3 + 1)), (2, vI r24), (0, vR 2 o)] dX6_cellFrom_28 rfl rfl (by decide) rfl ?_
        refine vr_goto 4 dX6_cellFrom_31 (by decide) ?_
        refine vr_sub [2, 1, 0] [(0, vR 2 o), (2, vI r24), (3, vI (v3 + 1))] rfl ?_
        exact hX _ _ h
      · have h := h.2 c19
        refine vr_iload_n 2 1 dX6_cellFrom_34 rfl rfl ?_
        exact vr_iret rfl ⟨rfl, _, rfl, h⟩ dX6_cellFrom_35
  · have h := h.2 c7
    refine vr_iload_n 2 1 dX6_cellFrom_34 rfl rfl ?_
    exact vr_iret rfl ⟨rfl, _, rfl, h⟩ dX6_cellFrom_35
def F_X6_cellFrom (o : Nat) (x1 : Int32) (P : VP) (post : Int32 → Prop) : Prop :=
  vL2 (F_X6_cellFrom_l4 o x1 P post  ) x1 ((0 : Int32))
set_option maxRecDepth 4000 in
theorem s_X6_cellFrom {l : Launch} {g : vG} {o : Nat} {x1 : Int32} {P Q : VP} {post : Int32 → Prop} (ho : o < vcnt 2) (h : F_X6_cellFrom o x1 P post) : VC l g yX6_cellFrom cX6_cellFrom 4 (some .int) 2 [vR 2 o, vI x1] (vjn P Q) (vpI (vjn P Q) post) := by
  refine VC.of (by decide +kernel) (Nat.le_of_ble_eq_true rfl) (show VM l g RX6 cX6_cellFrom 4 (some .int) 2 (vpI (vjn P Q) post) 0 [(0, vR 2 o), (1, vI x1)] [] (vjn P Q) from ?_)
  unfold F_X6_cellFrom at h
  refine vr_iload_n 1 1 dX6_cellFrom_0 rfl rfl ?_
  refine vr_istore_n 2 [(2, vI x1), (0, vR 2 o), (1, vI x1)] dX6_cellFrom_1 rfl (by decide) rfl ?_
  refine vr_iconst 0 dX6_cellFrom_2 (by decide) ?_
  refine vr_istore_n 3 [(3, vI 0), (2, vI x1), (0, vR 2 o), (1, vI x1)] dX6_cellFrom_3 rfl (by decide) rfl ?_
  refine vr_sub [2, 1, 0] [(0, vR 2 o), (2, vI x1), (3, vI 0)] rfl ?_
  exact s_X6_cellFrom_l4 ho  h
theorem dX7_recordsOf_0 : decode cX7_recordsOf 0 = .ok (.iload_n 0, 1) := by decide +kernel
theorem dX7_recordsOf_1 : decode cX7_recordsOf 1 = .ok (.bipush 8, 2) := by decide +kernel
theorem dX7_recordsOf_3 : decode cX7_recordsOf 3 = .ok (.iadd, 1) := by decide +kernel
theorem dX7_recordsOf_4 : decode cX7_recordsOf 4 = .ok (.iconst 1, 1) := by decide +kernel
theorem dX7_recordsOf_5 : decode cX7_recordsOf 5 = .ok (.isub, 1) := by decide +kernel
theorem dX7_recordsOf_6 : decode cX7_recordsOf 6 = .ok (.bipush 8, 2) := by decide +kernel
theorem dX7_recordsOf_8 : decode cX7_recordsOf 8 = .ok (.idiv, 1) := by decide +kernel
theorem dX7_recordsOf_9 : decode cX7_recordsOf 9 = .ok (.ireturn, 1) := by decide +kernel
def F_X7_recordsOf (x0 : Int32) (P : VP) (post : Int32 → Prop) : Prop :=
  post (((x0 + 8) - 1) / 8)
set_option maxRecDepth 4000 in
theorem s_X7_recordsOf {l : Launch} {g : vG} {x0 : Int32} {P Q : VP} {post : Int32 → Prop}  (h : F_X7_recordsOf x0 P post) : VC l g yX7_recordsOf cX7_recordsOf 1 (some .int) 0 [vI x0] (vjn P Q) (vpI (vjn P Q) post) := by
  refine VC.of (by decide +kernel) (Nat.le_of_ble_eq_true rfl) (show VM l g RX7 cX7_recordsOf 1 (some .int) 0 (vpI (vjn P Q) post) 0 [(0, vI x0)] [] (vjn P Q) from ?_)
  unfold F_X7_recordsOf at h
  refine vr_iload_n 0 0 dX7_recordsOf_0 rfl rfl ?_
  refine vr_bipush 8 dX7_recordsOf_1 (by decide) ?_
  refine vr_iadd dX7_recordsOf_3 ?_
  refine vr_iconst 1 dX7_recordsOf_4 (by decide) ?_
  refine vr_isub dX7_recordsOf_5 ?_
  refine vr_bipush 8 dX7_recordsOf_6 (by decide) ?_
  refine vr_idiv dX7_recordsOf_8 (by decide) ?_
  exact vr_iret rfl ⟨rfl, _, rfl, h⟩ dX7_recordsOf_9
theorem dX6_usedOf_0 : decode cX6_usedOf 0 = .ok (.iconst 0, 1) := by decide +kernel
theorem dX6_usedOf_1 : decode cX6_usedOf 1 = .ok (.istore_n 2, 1) := by decide +kernel
theorem dX6_usedOf_2 : decode cX6_usedOf 2 = .ok (.iconst 0, 1) := by decide +kernel
theorem dX6_usedOf_3 : decode cX6_usedOf 3 = .ok (.istore_n 3, 1) := by decide +kernel
theorem dX6_usedOf_4 : decode cX6_usedOf 4 = .ok (.iload_n 3, 1) := by decide +kernel
theorem dX6_usedOf_5 : decode cX6_usedOf 5 = .ok (.bipush 16, 2) := by decide +kernel
theorem dX6_usedOf_7 : decode cX6_usedOf 7 = .ok (.if_icmp .ge 45, 3) := by decide +kernel
theorem dX6_usedOf_10 : decode cX6_usedOf 10 = .ok (.aload_n 0, 1) := by decide +kernel
theorem dX6_usedOf_11 : decode cX6_usedOf 11 = .ok (.iload_n 3, 1) := by decide +kernel
theorem dX6_usedOf_12 : decode cX6_usedOf 12 = .ok (.invokevirtual 78, 3) := by decide +kernel
theorem dX6_usedOf_15 : decode cX6_usedOf 15 = .ok (.astore 4, 2) := by decide +kernel
theorem dX6_usedOf_17 : decode cX6_usedOf 17 = .ok (.aload 4, 2) := by decide +kernel
theorem dX6_usedOf_19 : decode cX6_usedOf 19 = .ok (.ifnull 27, 3) := by decide +kernel
theorem dX6_usedOf_22 : decode cX6_usedOf 22 = .ok (.aload_n 0, 1) := by decide +kernel
theorem dX6_usedOf_23 : decode cX6_usedOf 23 = .ok (.aload 4, 2) := by decide +kernel
theorem dX6_usedOf_25 : decode cX6_usedOf 25 = .ok (.getfield 46, 3) := by decide +kernel
theorem dX6_usedOf_28 : decode cX6_usedOf 28 = .ok (.invokevirtual 82, 3) := by decide +kernel
theorem dX6_usedOf_31 : decode cX6_usedOf 31 = .ok (.iload_n 1, 1) := by decide +kernel
theorem dX6_usedOf_32 : decode cX6_usedOf 32 = .ok (.if_icmp .ne 14, 3) := by decide +kernel
theorem dX6_usedOf_35 : decode cX6_usedOf 35 = .ok (.iload_n 2, 1) := by decide +kernel
theorem dX6_usedOf_36 : decode cX6_usedOf 36 = .ok (.aload 4, 2) := by decide +kernel
theorem dX6_usedOf_38 : decode cX6_usedOf 38 = .ok (.getfield 85, 3) := by decide +kernel
theorem dX6_usedOf_41 : decode cX6_usedOf 41 = .ok (.invokestatic 88, 3) := by decide +kernel
theorem dX6_usedOf_44 : decode cX6_usedOf 44 = .ok (.iadd, 1) := by decide +kernel
theorem dX6_usedOf_45 : decode cX6_usedOf 45 = .ok (.istore_n 2, 1) := by decide +kernel
theorem dX6_usedOf_46 : decode cX6_usedOf 46 = .ok (.iinc 3 1, 3) := by decide +kernel
theorem dX6_usedOf_49 : decode cX6_usedOf 49 = .ok (.goto (-45), 3) := by decide +kernel
theorem dX6_usedOf_52 : decode cX6_usedOf 52 = .ok (.iload_n 2, 1) := by decide +kernel
theorem dX6_usedOf_53 : decode cX6_usedOf 53 = .ok (.ireturn, 1) := by decide +kernel
def F_X6_usedOf_l4 (o : Nat) (x1 : Int32) (P : VP) (post : Int32 → Prop)   (X : Int32 → Int32 → Prop) (v2 : Int32) (v3 : Int32) : Prop :=
  (v3 < 16 → (F_X6_find o v3 P (fun r12 => match r12 with | none => (X v2 (v3 + 1)) | some yr12 => (F_X6_cellFrom o (P 7 yr12 1) P (fun r28 => (r28 = x1 → F_X7_recordsOf (P 7 yr12 4) P (fun r41 => X (v2 + r41) (v3 + 1))) ∧ (¬ r28 = x1 → X v2 (v3 + 1))))))) ∧ (¬ v3 < 16 → post v2)
set_option maxRecDepth 4000 in
theorem s_X6_usedOf_l4 {l : Launch} {g : vG} {o : Nat} {x1 : Int32} {P Q : VP} {post : Int32 → Prop}    {v2 : Int32} {v3 : Int32} (ho : o < vcnt 2)  (h : vL2 (F_X6_usedOf_l4 o x1 P post  ) v2 v3) : VM l g RX6 cX6_usedOf 5 (some .int) 3 (vpI (vjn P Q) post) 4 [(0, vR 2 o), (1, vI x1), (2, vI v2), (3, vI v3)] [] (vjn P Q) := by
  refine vL2_s (T := fun v2 v3 => VM l g RX6 cX6_usedOf 5 (some .int) 3 (vpI (vjn P Q) post) 4 [(0, vR 2 o), (1, vI x1), (2, vI v2), (3, vI v3)] [] (vjn P Q)) ?_ h
  clear h
  intro X hX v2 v3 h
  unfold F_X6_usedOf_l4 at h
  refine vr_iload_n 3 3 dX6_usedOf_4 rfl rfl ?_
  refine vr_bipush 16 dX6_usedOf_5 (by decide) ?_
  refine vr_icmpge 52 dX6_usedOf_7 (by decide) (fun c7 => ?_) (fun c7 => ?_)
  · have h := h.1 c7
    refine vr_aload_n 0 0 dX6_usedOf_10 rfl rfl ?_
    refine vr_iload_n 3 3 dX6_usedOf_11 rfl rfl ?_
    refine vr_callV RX6 (s_X6_find ho h) rfl ho rfl rfl rfl ml_6_78 rfl yh_X6_find rfl ⟨Nat.le_of_ble_eq_true rfl, Nat.le_of_ble_eq_true rfl⟩ (Nat.le_of_ble_eq_true rfl) ⟨Nat.zero_le _, Nat.zero_le _⟩ dX6_usedOf_12 (ko fun r12 hvr12 h => ?_)
    refine vr_astore [(4, vO 7 r12), (0, vR 2 o), (1, vI x1), (2, vI v2), (3, vI v3)] dX6_usedOf_15 (by decide) rfl ?_
    refine vr_aload 0 dX6_usedOf_17 rfl ?_
    rcases r12 with _ | yr12
    · refine vr_ifnullN 46 dX6_usedOf_19 (by decide) ?_
      refine vr_iinc (v3 + 1) 4 [(3, vI (v3 + 1)), (4, vN), (0, vR 2 o), (1, vI x1), (2, vI v2)] dX6_usedOf_46 rfl rfl (by decide) rfl ?_
      refine vr_goto 4 dX6_usedOf_49 (by decide) ?_
      refine vr_sub [2, 3, 4, 0] [(0, vR 2 o), (1, vI x1), (2, vI v2), (3, vI (v3 + 1))] rfl ?_
      exact hX _ _ h
    · refine vr_ifnullR dX6_usedOf_19 ?_
      refine vr_aload_n 0 1 dX6_usedOf_22 rfl rfl ?_
      refine vr_aload 0 dX6_usedOf_23 rfl ?_
      refine vg_7_1 RX6 rfl (hvr12 _ rfl) fl_6_46 dX6_usedOf_25 ?_
      refine vr_callV RX6 (s_X6_cellFrom ho h) rfl ho rfl rfl rfl ml_6_82 rfl yh_X6_cellFrom rfl ⟨Nat.le_of_ble_eq_true rfl, Nat.le_of_ble_eq_true rfl⟩ (Nat.le_of_ble_eq_true rfl) ⟨Nat.zero_le _, Nat.zero_le _⟩ dX6_usedOf_28 (ki fun r28 h => ?_)
      refine vr_iload_n 1 2 dX6_usedOf_31 rfl rfl ?_
      refine vr_icmpne 46 dX6_usedOf_32 (by decide) (fun c32 => ?_) (fun c32 => ?_)
      · have h := h.1 c32
        refine vr_iload_n 2 3 dX6_usedOf_35 rfl rfl ?_
        refine vr_aload 0 dX6_usedOf_36 rfl ?_
        refine vg_7_4 RX6 rfl (hvr12 _ rfl) fl_6_85 dX6_usedOf_38 ?_
        refine vr_callN RX6 "RingGates" (s_X7_recordsOf h) rfl mn_6_88 ml_6_88 rfl yh_X7_recordsOf rfl ⟨Nat.le_of_ble_eq_true rfl, Nat.le_of_ble_eq_true rfl⟩ (Nat.le_of_ble_eq_true rfl) ⟨Nat.zero_le _, Nat.zero_le _⟩ dX6_usedOf_41 (ki fun r41 h => ?_)
        refine vr_iadd dX6_usedOf_44 ?_
        refine vr_istore_n 2 [(2, vI (v2 + r41)), (4, vR 7 yr12), (0, vR 2 o), (1, vI x1), (3, vI v3)] dX6_usedOf_45 rfl (by decide) rfl ?_
        refine vr_iinc (v3 + 1) 4 [(3, vI (v3 + 1)), (2, vI (v2 + r41)), (4, vR 7 yr12), (0, vR 2 o), (1, vI x1)] dX6_usedOf_46 rfl rfl (by decide) rfl ?_
        refine vr_goto 4 dX6_usedOf_49 (by decide) ?_
        refine vr_sub [3, 4, 1, 0] [(0, vR 2 o), (1, vI x1), (2, vI (v2 + r41)), (3, vI (v3 + 1))] rfl ?_
        exact hX _ _ h
      · have h := h.2 c32
        refine vr_iinc (v3 + 1) 4 [(3, vI (v3 + 1)), (4, vR 7 yr12), (0, vR 2 o), (1, vI x1), (2, vI v2)] dX6_usedOf_46 rfl rfl (by decide) rfl ?_
        refine vr_goto 4 dX6_usedOf_49 (by decide) ?_
        refine vr_sub [2, 3, 4, 0] [(0, vR 2 o), (1, vI x1), (2, vI v2), (3, vI (v3 + 1))] rfl ?_
        exact hX _ _ h
  · have h := h.2 c7
    refine vr_iload_n 2 2 dX6_usedOf_52 rfl rfl ?_
    exact vr_iret rfl ⟨rfl, _, rfl, h⟩ dX6_usedOf_53
def F_X6_usedOf (o : Nat) (x1 : Int32) (P : VP) (post : Int32 → Prop) : Prop :=
  vL2 (F_X6_usedOf_l4 o x1 P post  ) ((0 : Int32)) ((0 : Int32))
set_option maxRecDepth 4000 in
theorem s_X6_usedOf {l : Launch} {g : vG} {o : Nat} {x1 : Int32} {P Q : VP} {post : Int32 → Prop} (ho : o < vcnt 2) (h : F_X6_usedOf o x1 P post) : VC l g yX6_usedOf cX6_usedOf 5 (some .int) 3 [vR 2 o, vI x1] (vjn P Q) (vpI (vjn P Q) post) := by
  refine VC.of (by decide +kernel) (Nat.le_of_ble_eq_true rfl) (show VM l g RX6 cX6_usedOf 5 (some .int) 3 (vpI (vjn P Q) post) 0 [(0, vR 2 o), (1, vI x1)] [] (vjn P Q) from ?_)
  unfold F_X6_usedOf at h
  refine vr_iconst 0 dX6_usedOf_0 (by decide) ?_
  refine vr_istore_n 2 [(2, vI 0), (0, vR 2 o), (1, vI x1)] dX6_usedOf_1 rfl (by decide) rfl ?_
  refine vr_iconst 0 dX6_usedOf_2 (by decide) ?_
  refine vr_istore_n 3 [(3, vI 0), (2, vI 0), (0, vR 2 o), (1, vI x1)] dX6_usedOf_3 rfl (by decide) rfl ?_
  refine vr_sub [2, 3, 1, 0] [(0, vR 2 o), (1, vI x1), (2, vI 0), (3, vI 0)] rfl ?_
  exact s_X6_usedOf_l4 ho  h
theorem dX6_hasRoom_0 : decode cX6_hasRoom 0 = .ok (.aload_n 0, 1) := by decide +kernel
theorem dX6_hasRoom_1 : decode cX6_hasRoom 1 = .ok (.iload_n 1, 1) := by decide +kernel
theorem dX6_hasRoom_2 : decode cX6_hasRoom 2 = .ok (.invokevirtual 82, 3) := by decide +kernel
theorem dX6_hasRoom_5 : decode cX6_hasRoom 5 = .ok (.istore_n 3, 1) := by decide +kernel
theorem dX6_hasRoom_6 : decode cX6_hasRoom 6 = .ok (.aload_n 0, 1) := by decide +kernel
theorem dX6_hasRoom_7 : decode cX6_hasRoom 7 = .ok (.iload_n 3, 1) := by decide +kernel
theorem dX6_hasRoom_8 : decode cX6_hasRoom 8 = .ok (.invokevirtual 91, 3) := by decide +kernel
theorem dX6_hasRoom_11 : decode cX6_hasRoom 11 = .ok (.iload_n 2, 1) := by decide +kernel
theorem dX6_hasRoom_12 : decode cX6_hasRoom 12 = .ok (.iadd, 1) := by decide +kernel
theorem dX6_hasRoom_13 : decode cX6_hasRoom 13 = .ok (.aload_n 0, 1) := by decide +kernel
theorem dX6_hasRoom_14 : decode cX6_hasRoom 14 = .ok (.iload_n 3, 1) := by decide +kernel
theorem dX6_hasRoom_15 : decode cX6_hasRoom 15 = .ok (.invokevirtual 71, 3) := by decide +kernel
theorem dX6_hasRoom_18 : decode cX6_hasRoom 18 = .ok (.if_icmp .gt 7, 3) := by decide +kernel
theorem dX6_hasRoom_21 : decode cX6_hasRoom 21 = .ok (.iconst 1, 1) := by decide +kernel
theorem dX6_hasRoom_22 : decode cX6_hasRoom 22 = .ok (.goto 4, 3) := by decide +kernel
theorem dX6_hasRoom_25 : decode cX6_hasRoom 25 = .ok (.iconst 0, 1) := by decide +kernel
theorem dX6_hasRoom_26 : decode cX6_hasRoom 26 = .ok (.ireturn, 1) := by decide +kernel
def F_X6_hasRoom (o : Nat) (x1 : Int32) (x2 : Int32) (P : VP) (post : Int32 → Prop) : Prop :=
  F_X6_cellFrom o x1 P (fun r2 => F_X6_usedOf o r2 P (fun r8 => F_X6_quotaOf o r2 P (fun r15 => (r15 < r8 + x2 → post ((0 : Int32))) ∧ (¬ r15 < r8 + x2 → post ((1 : Int32))))))
set_option maxRecDepth 4000 in
theorem s_X6_hasRoom {l : Launch} {g : vG} {o : Nat} {x1 : Int32} {x2 : Int32} {P Q : VP} {post : Int32 → Prop} (ho : o < vcnt 2) (h : F_X6_hasRoom o x1 x2 P post) : VC l g yX6_hasRoom cX6_hasRoom 4 (some .boolean) 4 [vR 2 o, vI x1, vI x2] (vjn P Q) (vpI (vjn P Q) post) := by
  refine VC.of (by decide +kernel) (Nat.le_of_ble_eq_true rfl) (show VM l g RX6 cX6_hasRoom 4 (some .boolean) 4 (vpI (vjn P Q) post) 0 [(0, vR 2 o), (1, vI x1), (2, vI x2)] [] (vjn P Q) from ?_)
  unfold F_X6_hasRoom at h
  refine vr_aload_n 0 0 dX6_hasRoom_0 rfl rfl ?_
  refine vr_iload_n 1 1 dX6_hasRoom_1 rfl rfl ?_
  refine vr_callV RX6 (s_X6_cellFrom ho h) rfl ho rfl rfl rfl ml_6_82 rfl yh_X6_cellFrom rfl ⟨Nat.le_of_ble_eq_true rfl, Nat.le_of_ble_eq_true rfl⟩ (Nat.le_of_ble_eq_true rfl) ⟨Nat.zero_le _, Nat.zero_le _⟩ dX6_hasRoom_2 (ki fun r2 h => ?_)
  refine vr_istore_n 3 [(3, vI r2), (0, vR 2 o), (1, vI x1), (2, vI x2)] dX6_hasRoom_5 rfl (by decide) rfl ?_
  refine vr_aload_n 0 1 dX6_hasRoom_6 rfl rfl ?_
  refine vr_iload_n 3 0 dX6_hasRoom_7 rfl rfl ?_
  refine vr_callV RX6 (s_X6_usedOf ho h) rfl ho rfl rfl rfl ml_6_91 rfl yh_X6_usedOf rfl ⟨Nat.le_of_ble_eq_true rfl, Nat.le_of_ble_eq_true rfl⟩ (Nat.le_of_ble_eq_true rfl) ⟨Nat.zero_le _, Nat.zero_le _⟩ dX6_hasRoom_8 (ki fun r8 h => ?_)
  refine vr_iload_n 2 3 dX6_hasRoom_11 rfl rfl ?_
  refine vr_iadd dX6_hasRoom_12 ?_
  refine vr_aload_n 0 1 dX6_hasRoom_13 rfl rfl ?_
  refine vr_iload_n 3 0 dX6_hasRoom_14 rfl rfl ?_
  refine vr_callV RX6 (s_X6_quotaOf ho h) rfl ho rfl rfl rfl ml_6_71 rfl yh_X6_quotaOf rfl ⟨Nat.le_of_ble_eq_true rfl, Nat.le_of_ble_eq_true rfl⟩ (Nat.le_of_ble_eq_true rfl) ⟨Nat.zero_le _, Nat.zero_le _⟩ dX6_hasRoom_15 (ki fun r15 h => ?_)
  refine vr_icmpgt 25 dX6_hasRoom_18 (by decide) (fun c18 => ?_) (fun c18 => ?_)
  · have h := h.1 c18
    refine vr_iconst 0 dX6_hasRoom_25 (by decide) ?_
    exact vr_zret rfl (Or.inl rfl) ⟨rfl, _, rfl, h⟩ dX6_hasRoom_26
  · have h := h.2 c18
    refine vr_iconst 1 dX6_hasRoom_21 (by decide) ?_
    refine vr_goto 26 dX6_hasRoom_22 (by decide) ?_
    exact vr_zret rfl (Or.inr rfl) ⟨rfl, _, rfl, h⟩ dX6_hasRoom_26
