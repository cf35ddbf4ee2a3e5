/-! X8_brackets, X8_set, X8_quota, X8_segmentsIn, X8_cell, X8_of, X8_rule, X8_found, X8_lookup, X8_told, X8_isWord, X8_becomes, X8_number, X8_isPointer, X8_pointer, X8_link -/
theorem dX8_brackets_0 : decode cX8_brackets 0 = .ok (.iload_n 2, 1) := by decide +kernel
theorem dX8_brackets_1 : decode cX8_brackets 1 = .ok (.bipush 100, 2) := by decide +kernel
theorem dX8_brackets_3 : decode cX8_brackets 3 = .ok (.idiv, 1) := by decide +kernel
theorem dX8_brackets_4 : decode cX8_brackets 4 = .ok (.istore_n 3, 1) := by decide +kernel
theorem dX8_brackets_5 : decode cX8_brackets 5 = .ok (.iload_n 2, 1) := by decide +kernel
theorem dX8_brackets_6 : decode cX8_brackets 6 = .ok (.bipush 10, 2) := by decide +kernel
theorem dX8_brackets_8 : decode cX8_brackets 8 = .ok (.idiv, 1) := by decide +kernel
theorem dX8_brackets_9 : decode cX8_brackets 9 = .ok (.bipush 10, 2) := by decide +kernel
theorem dX8_brackets_11 : decode cX8_brackets 11 = .ok (.irem, 1) := by decide +kernel
theorem dX8_brackets_12 : decode cX8_brackets 12 = .ok (.istore 4, 2) := by decide +kernel
theorem dX8_brackets_14 : decode cX8_brackets 14 = .ok (.iload_n 2, 1) := by decide +kernel
theorem dX8_brackets_15 : decode cX8_brackets 15 = .ok (.bipush 10, 2) := by decide +kernel
theorem dX8_brackets_17 : decode cX8_brackets 17 = .ok (.irem, 1) := by decide +kernel
theorem dX8_brackets_18 : decode cX8_brackets 18 = .ok (.istore 5, 2) := by decide +kernel
theorem dX8_brackets_20 : decode cX8_brackets 20 = .ok (.aload_n 0, 1) := by decide +kernel
theorem dX8_brackets_21 : decode cX8_brackets 21 = .ok (.iload_n 1, 1) := by decide +kernel
theorem dX8_brackets_22 : decode cX8_brackets 22 = .ok (.invokevirtual 95, 3) := by decide +kernel
theorem dX8_brackets_25 : decode cX8_brackets 25 = .ok (.ifCond .eq 27, 3) := by decide +kernel
theorem dX8_brackets_28 : decode cX8_brackets 28 = .ok (.iload_n 2, 1) := by decide +kernel
theorem dX8_brackets_29 : decode cX8_brackets 29 = .ok (.ifCond .lt 23, 3) := by decide +kernel
theorem dX8_brackets_32 : decode cX8_brackets 32 = .ok (.iload_n 3, 1) := by decide +kernel
theorem dX8_brackets_33 : decode cX8_brackets 33 = .ok (.iload 4, 2) := by decide +kernel
theorem dX8_brackets_35 : decode cX8_brackets 35 = .ok (.if_icmp .gt 17, 3) := by decide +kernel
theorem dX8_brackets_38 : decode cX8_brackets 38 = .ok (.iload 4, 2) := by decide +kernel
theorem dX8_brackets_40 : decode cX8_brackets 40 = .ok (.iload 5, 2) := by decide +kernel
theorem dX8_brackets_42 : decode cX8_brackets 42 = .ok (.if_icmp .gt 10, 3) := by decide +kernel
theorem dX8_brackets_45 : decode cX8_brackets 45 = .ok (.iload 5, 2) := by decide +kernel
theorem dX8_brackets_47 : decode cX8_brackets 47 = .ok (.bipush 7, 2) := by decide +kernel
theorem dX8_brackets_49 : decode cX8_brackets 49 = .ok (.if_icmp .le 5, 3) := by decide +kernel
theorem dX8_brackets_52 : decode cX8_brackets 52 = .ok (.iconst (-1), 1) := by decide +kernel
theorem dX8_brackets_53 : decode cX8_brackets 53 = .ok (.ireturn, 1) := by decide +kernel
theorem dX8_brackets_54 : decode cX8_brackets 54 = .ok (.bipush 100, 2) := by decide +kernel
theorem dX8_brackets_56 : decode cX8_brackets 56 = .ok (.aload_n 0, 1) := by decide +kernel
theorem dX8_brackets_57 : decode cX8_brackets 57 = .ok (.getfield 9, 3) := by decide +kernel
theorem dX8_brackets_60 : decode cX8_brackets 60 = .ok (.bipush 112, 2) := by decide +kernel
theorem dX8_brackets_62 : decode cX8_brackets 62 = .ok (.iload_n 1, 1) := by decide +kernel
theorem dX8_brackets_63 : decode cX8_brackets 63 = .ok (.iadd, 1) := by decide +kernel
theorem dX8_brackets_64 : decode cX8_brackets 64 = .ok (.iaload, 1) := by decide +kernel
theorem dX8_brackets_65 : decode cX8_brackets 65 = .ok (.imul, 1) := by decide +kernel
theorem dX8_brackets_66 : decode cX8_brackets 66 = .ok (.bipush 10, 2) := by decide +kernel
theorem dX8_brackets_68 : decode cX8_brackets 68 = .ok (.aload_n 0, 1) := by decide +kernel
theorem dX8_brackets_69 : decode cX8_brackets 69 = .ok (.getfield 9, 3) := by decide +kernel
theorem dX8_brackets_72 : decode cX8_brackets 72 = .ok (.sipush 128, 3) := by decide +kernel
theorem dX8_brackets_75 : decode cX8_brackets 75 = .ok (.iload_n 1, 1) := by decide +kernel
theorem dX8_brackets_76 : decode cX8_brackets 76 = .ok (.iadd, 1) := by decide +kernel
theorem dX8_brackets_77 : decode cX8_brackets 77 = .ok (.iaload, 1) := by decide +kernel
theorem dX8_brackets_78 : decode cX8_brackets 78 = .ok (.imul, 1) := by decide +kernel
theorem dX8_brackets_79 : decode cX8_brackets 79 = .ok (.iadd, 1) := by decide +kernel
theorem dX8_brackets_80 : decode cX8_brackets 80 = .ok (.aload_n 0, 1) := by decide +kernel
theorem dX8_brackets_81 : decode cX8_brackets 81 = .ok (.getfield 9, 3) := by decide +kernel
theorem dX8_brackets_84 : decode cX8_brackets 84 = .ok (.sipush 144, 3) := by decide +kernel
theorem dX8_brackets_87 : decode cX8_brackets 87 = .ok (.iload_n 1, 1) := by decide +kernel
theorem dX8_brackets_88 : decode cX8_brackets 88 = .ok (.iadd, 1) := by decide +kernel
theorem dX8_brackets_89 : decode cX8_brackets 89 = .ok (.iaload, 1) := by decide +kernel
theorem dX8_brackets_90 : decode cX8_brackets 90 = .ok (.iadd, 1) := by decide +kernel
theorem dX8_brackets_91 : decode cX8_brackets 91 = .ok (.istore 6, 2) := by decide +kernel
theorem dX8_brackets_93 : decode cX8_brackets 93 = .ok (.aload_n 0, 1) := by decide +kernel
theorem dX8_brackets_94 : decode cX8_brackets 94 = .ok (.getfield 9, 3) := by decide +kernel
theorem dX8_brackets_97 : decode cX8_brackets 97 = .ok (.bipush 112, 2) := by decide +kernel
theorem dX8_brackets_99 : decode cX8_brackets 99 = .ok (.iload_n 1, 1) := by decide +kernel
theorem dX8_brackets_100 : decode cX8_brackets 100 = .ok (.iadd, 1) := by decide +kernel
theorem dX8_brackets_101 : decode cX8_brackets 101 = .ok (.iload_n 3, 1) := by decide +kernel
theorem dX8_brackets_102 : decode cX8_brackets 102 = .ok (.iastore, 1) := by decide +kernel
theorem dX8_brackets_103 : decode cX8_brackets 103 = .ok (.aload_n 0, 1) := by decide +kernel
theorem dX8_brackets_104 : decode cX8_brackets 104 = .ok (.getfield 9, 3) := by decide +kernel
theorem dX8_brackets_107 : decode cX8_brackets 107 = .ok (.sipush 128, 3) := by decide +kernel
theorem dX8_brackets_110 : decode cX8_brackets 110 = .ok (.iload_n 1, 1) := by decide +kernel
theorem dX8_brackets_111 : decode cX8_brackets 111 = .ok (.iadd, 1) := by decide +kernel
theorem dX8_brackets_112 : decode cX8_brackets 112 = .ok (.iload 4, 2) := by decide +kernel
theorem dX8_brackets_114 : decode cX8_brackets 114 = .ok (.iastore, 1) := by decide +kernel
theorem dX8_brackets_115 : decode cX8_brackets 115 = .ok (.aload_n 0, 1) := by decide +kernel
theorem dX8_brackets_116 : decode cX8_brackets 116 = .ok (.getfield 9, 3) := by decide +kernel
theorem dX8_brackets_119 : decode cX8_brackets 119 = .ok (.sipush 144, 3) := by decide +kernel
theorem dX8_brackets_122 : decode cX8_brackets 122 = .ok (.iload_n 1, 1) := by decide +kernel
theorem dX8_brackets_123 : decode cX8_brackets 123 = .ok (.iadd, 1) := by decide +kernel
theorem dX8_brackets_124 : decode cX8_brackets 124 = .ok (.iload 5, 2) := by decide +kernel
theorem dX8_brackets_126 : decode cX8_brackets 126 = .ok (.iastore, 1) := by decide +kernel
theorem dX8_brackets_127 : decode cX8_brackets 127 = .ok (.iload 6, 2) := by decide +kernel
theorem dX8_brackets_129 : decode cX8_brackets 129 = .ok (.ireturn, 1) := by decide +kernel
def F_X8_brackets (x1 : Int32) (x2 : Int32) (Q : VP) (post : Int32 → VP → Prop) : Prop :=
  ∀ v4_12 : Int32, v4_12 = (x2 / 10) - (x2 / 10) / 10 * 10 → (F_X8_isSegment x1 Q (fun r22 => (r22 = 0 → post (((-1) : Int32)) Q) ∧ (¬ r22 = 0 → (x2 < 0 → post (((-1) : Int32)) Q) ∧ (¬ x2 < 0 → (v4_12 < x2 / 100 → post (((-1) : Int32)) Q) ∧ (¬ v4_12 < x2 / 100 → (x2 - x2 / 10 * 10 < v4_12 → post (((-1) : Int32)) Q) ∧ (¬ x2 - x2 / 10 * 10 < v4_12 → ((7 : Int32) < x2 - x2 / 10 * 10 → post (((-1) : Int32)) Q) ∧ (¬ (7 : Int32) < x2 - x2 / 10 * 10 → (0 ≤ 112 + x1 ∧ 112 + x1 < 3464) ∧ ((0 ≤ 128 + x1 ∧ 128 + x1 < 3464) ∧ ((0 ≤ 144 + x1 ∧ 144 + x1 < 3464) ∧ (∀ v6_91 : Int32, v6_91 = ((100 * (Q 23 0 (ix (112 + x1)))) + (10 * (Q 23 0 (ix (128 + x1))))) + (Q 23 0 (ix (144 + x1))) → ((0 ≤ 112 + x1 ∧ 112 + x1 < 3464) ∧ (∀ Q102 : VP, Q102 = vup Q 23 0 (ix (112 + x1)) (x2 / 100) → ((0 ≤ 128 + x1 ∧ 128 + x1 < 3464) ∧ (∀ Q114 : VP, Q114 = vup Q102 23 0 (ix (128 + x1)) v4_12 → ((0 ≤ 144 + x1 ∧ 144 + x1 < 3464) ∧ (∀ Q126 : VP, Q126 = vup Q114 23 0 (ix (144 + x1)) (x2 - x2 / 10 * 10) → (post v6_91 Q126)))))))))))))))))
set_option maxRecDepth 4000 in
theorem s_X8_brackets {l : Launch} {g : vG} {x1 : Int32} {x2 : Int32} {P Q : VP} {post : Int32 → VP → Prop}  (h : F_X8_brackets x1 x2 Q post) : VC l g yX8_brackets cX8_brackets 7 (some .int) 3 [vR 22 0, vI x1, vI x2] (vjn P Q) (vmI P post) := by
  refine VC.of (by decide +kernel) (Nat.le_of_ble_eq_true rfl) (show VM l g RX8 cX8_brackets 7 (some .int) 3 (vmI P post) 0 [(0, vR 22 0), (1, vI x1), (2, vI x2)] [] (vjn P Q) from ?_)
  unfold F_X8_brackets at h
  refine vr_iload_n 2 2 dX8_brackets_0 rfl rfl ?_
  refine vr_bipush 100 dX8_brackets_1 (by decide) ?_
  refine vr_idiv dX8_brackets_3 (by decide) ?_
  refine vr_istore_n 3 [(3, vI (x2 / 100)), (0, vR 22 0), (1, vI x1), (2, vI x2)] dX8_brackets_4 rfl (by decide) rfl ?_
  refine vr_iload_n 2 3 dX8_brackets_5 rfl rfl ?_
  refine vr_bipush 10 dX8_brackets_6 (by decide) ?_
  refine vr_idiv dX8_brackets_8 (by decide) ?_
  refine vr_bipush 10 dX8_brackets_9 (by decide) ?_
  refine vr_irem dX8_brackets_11 (by decide) ?_
  obtain ⟨v4_12, ev4_12⟩ : ∃ y : Int32, y = (x2 / 10) - (x2 / 10) / 10 * 10 := ⟨_, rfl⟩
  have h := h v4_12 ev4_12
  refine vr_nm ev4_12 ?_
  refine vr_istore [(4, vI v4_12), (3, vI (x2 / 100)), (0, vR 22 0), (1, vI x1), (2, vI x2)] dX8_brackets_12 (by decide) rfl ?_
  refine vr_iload_n 2 4 dX8_brackets_14 rfl rfl ?_
  refine vr_bipush 10 dX8_brackets_15 (by decide) ?_
  refine vr_irem dX8_brackets_17 (by decide) ?_
  refine vr_istore [(5, vI (x2 - x2 / 10 * 10)), (4, vI v4_12), (3, vI (x2 / 100)), (0, vR 22 0), (1, vI x1), (2, vI x2)] dX8_brackets_18 (by decide) rfl ?_
  refine vr_aload_n 0 3 dX8_brackets_20 rfl rfl ?_
  refine vr_iload_n 1 4 dX8_brackets_21 rfl rfl ?_
  refine vr_callV RX8 (s_X8_isSegment h) rfl (by decide) rfl rfl rfl ml_8_95 rfl yh_X8_isSegment rfl ⟨Nat.le_of_ble_eq_true rfl, Nat.le_of_ble_eq_true rfl⟩ (Nat.le_of_ble_eq_true rfl) ⟨Nat.zero_le _, Nat.zero_le _⟩ dX8_brackets_22 (ki fun r22 h => ?_)
  refine vr_ifeq 52 dX8_brackets_25 (by decide) (fun c25 => ?_) (fun c25 => ?_)
  · have h := h.1 c25
    refine vr_iconst (-1) dX8_brackets_52 (by decide) ?_
    exact vr_iret rfl ⟨_, _, rfl, rfl, h⟩ dX8_brackets_53
  · have h := h.2 c25
    refine vr_iload_n 2 5 dX8_brackets_28 rfl rfl ?_
    refine vr_iflt 52 dX8_brackets_29 (by decide) (fun c29 => ?_) (fun c29 => ?_)
    · have h := h.1 c29
      refine vr_iconst (-1) dX8_brackets_52 (by decide) ?_
      exact vr_iret rfl ⟨_, _, rfl, rfl, h⟩ dX8_brackets_53
    · have h := h.2 c29
      refine vr_iload_n 3 2 dX8_brackets_32 rfl rfl ?_
      refine vr_iload 1 dX8_brackets_33 rfl ?_
      refine vr_icmpgt 52 dX8_brackets_35 (by decide) (fun c35 => ?_) (fun c35 => ?_)
      · have h := h.1 c35
        refine vr_iconst (-1) dX8_brackets_52 (by decide) ?_
        exact vr_iret rfl ⟨_, _, rfl, rfl, h⟩ dX8_brackets_53
      · have h := h.2 c35
        refine vr_iload 1 dX8_brackets_38 rfl ?_
        refine vr_iload 0 dX8_brackets_40 rfl ?_
        refine vr_icmpgt 52 dX8_brackets_42 (by decide) (fun c42 => ?_) (fun c42 => ?_)
        · have h := h.1 c42
          refine vr_iconst (-1) dX8_brackets_52 (by decide) ?_
          exact vr_iret rfl ⟨_, _, rfl, rfl, h⟩ dX8_brackets_53
        · have h := h.2 c42
          refine vr_iload 0 dX8_brackets_45 rfl ?_
          refine vr_bipush 7 dX8_brackets_47 (by decide) ?_
          refine vr_icmple 54 dX8_brackets_49 (by decide) (fun c49 => ?_) (fun c49 => ?_)
          · have h := h.1 c49
            refine vr_iconst (-1) dX8_brackets_52 (by decide) ?_
            exact vr_iret rfl ⟨_, _, rfl, rfl, h⟩ dX8_brackets_53
          · have h := h.2 c49
            refine vr_bipush 100 dX8_brackets_54 (by decide) ?_
            refine vr_aload_n 0 3 dX8_brackets_56 rfl rfl ?_
            refine vg_22_0 RX8 rfl (by decide) fl_8_9 dX8_brackets_57 ?_
            refine vr_bipush 112 dX8_brackets_60 (by decide) ?_
            refine vr_iload_n 1 4 dX8_brackets_62 rfl rfl ?_
            refine vr_iadd dX8_brackets_63 ?_
            have hi := h.1
            have h := h.2
            refine vr_ialdQ 3464 ia_23 rfl hi dX8_brackets_64 ?_
            refine vr_imul dX8_brackets_65 ?_
            refine vr_bipush 10 dX8_brackets_66 (by decide) ?_
            refine vr_aload_n 0 3 dX8_brackets_68 rfl rfl ?_
            refine vg_22_0 RX8 rfl (by decide) fl_8_9 dX8_brackets_69 ?_
            refine vr_sipush 128 dX8_brackets_72 (by decide) ?_
            refine vr_iload_n 1 4 dX8_brackets_75 rfl rfl ?_
            refine vr_iadd dX8_brackets_76 ?_
            have hi := h.1
            have h := h.2
            refine vr_ialdQ 3464 ia_23 rfl hi dX8_brackets_77 ?_
            refine vr_imul dX8_brackets_78 ?_
            refine vr_iadd dX8_brackets_79 ?_
            refine vr_aload_n 0 3 dX8_brackets_80 rfl rfl ?_
            refine vg_22_0 RX8 rfl (by decide) fl_8_9 dX8_brackets_81 ?_
            refine vr_sipush 144 dX8_brackets_84 (by decide) ?_
            refine vr_iload_n 1 4 dX8_brackets_87 rfl rfl ?_
            refine vr_iadd dX8_brackets_88 ?_
            have hi := h.1
            have h := h.2
            refine vr_ialdQ 3464 ia_23 rfl hi dX8_brackets_89 ?_
            refine vr_iadd dX8_brackets_90 ?_
            obtain ⟨v6_91, ev6_91⟩ : ∃ y : Int32, y = ((100 * (Q 23 0 (ix (112 + x1)))) + (10 * (Q 23 0 (ix (128 + x1))))) + (Q 23 0 (ix (144 + x1))) := ⟨_, rfl⟩
            have h := h v6_91 ev6_91
            refine vr_nm ev6_91 ?_
            refine vr_istore [(6, vI v6_91), (5, vI (x2 - x2 / 10 * 10)), (4, vI v4_12), (3, vI (x2 / 100)), (0, vR 22 0), (1, vI x1), (2, vI x2)] dX8_brackets_91 (by decide) rfl ?_
            refine vr_aload_n 0 4 dX8_brackets_93 rfl rfl ?_
            refine vg_22_0 RX8 rfl (by decide) fl_8_9 dX8_brackets_94 ?_
            refine vr_bipush 112 dX8_brackets_97 (by decide) ?_
            refine vr_iload_n 1 5 dX8_brackets_99 rfl rfl ?_
            refine vr_iadd dX8_brackets_100 ?_
            refine vr_iload_n 3 3 dX8_brackets_101 rfl rfl ?_
            have hi := h.1
            have h := h.2
            obtain ⟨Q102, eQ102⟩ : ∃ y : VP, y = vup Q 23 0 (ix (112 + x1)) (x2 / 100) := ⟨_, rfl⟩
            have h := h Q102 eQ102
            refine vr_iastQ 3464 ia_23 rfl hi eQ102 dX8_brackets_102 ?_
            refine vr_aload_n 0 4 dX8_brackets_103 rfl rfl ?_
            refine vg_22_0 RX8 rfl (by decide) fl_8_9 dX8_brackets_104 ?_
            refine vr_sipush 128 dX8_brackets_107 (by decide) ?_
            refine vr_iload_n 1 5 dX8_brackets_110 rfl rfl ?_
            refine vr_iadd dX8_brackets_111 ?_
            refine vr_iload 2 dX8_brackets_112 rfl ?_
            have hi := h.1
            have h := h.2
            obtain ⟨Q114, eQ114⟩ : ∃ y : VP, y = vup Q102 23 0 (ix (128 + x1)) v4_12 := ⟨_, rfl⟩
            have h := h Q114 eQ114
            refine vr_iastQ 3464 ia_23 rfl hi eQ114 dX8_brackets_114 ?_
            refine vr_aload_n 0 4 dX8_brackets_115 rfl rfl ?_
            refine vg_22_0 RX8 rfl (by decide) fl_8_9 dX8_brackets_116 ?_
            refine vr_sipush 144 dX8_brackets_119 (by decide) ?_
            refine vr_iload_n 1 5 dX8_brackets_122 rfl rfl ?_
            refine vr_iadd dX8_brackets_123 ?_
            refine vr_iload 1 dX8_brackets_124 rfl ?_
            have hi := h.1
            have h := h.2
            obtain ⟨Q126, eQ126⟩ : ∃ y : VP, y = vup Q114 23 0 (ix (144 + x1)) (x2 - x2 / 10 * 10) := ⟨_, rfl⟩
            have h := h Q126 eQ126
            refine vr_iastQ 3464 ia_23 rfl hi eQ126 dX8_brackets_126 ?_
            refine vr_iload 0 dX8_brackets_127 rfl ?_
            exact vr_iret rfl ⟨_, _, rfl, rfl, h⟩ dX8_brackets_129
theorem dX8_set_0 : decode cX8_set 0 = .ok (.aload_n 0, 1) := by decide +kernel
theorem dX8_set_1 : decode cX8_set 1 = .ok (.iload_n 1, 1) := by decide +kernel
theorem dX8_set_2 : decode cX8_set 2 = .ok (.invokevirtual 95, 3) := by decide +kernel
theorem dX8_set_5 : decode cX8_set 5 = .ok (.ifCond .eq 42, 3) := by decide +kernel
theorem dX8_set_8 : decode cX8_set 8 = .ok (.iload_n 2, 1) := by decide +kernel
theorem dX8_set_9 : decode cX8_set 9 = .ok (.i2l, 1) := by decide +kernel
theorem dX8_set_10 : decode cX8_set 10 = .ok (.lconst 0, 1) := by decide +kernel
theorem dX8_set_11 : decode cX8_set 11 = .ok (.lconst 1, 1) := by decide +kernel
theorem dX8_set_12 : decode cX8_set 12 = .ok (.invokestatic 54, 3) := by decide +kernel
theorem dX8_set_15 : decode cX8_set 15 = .ok (.ifCond .eq 32, 3) := by decide +kernel
theorem dX8_set_18 : decode cX8_set 18 = .ok (.iload_n 3, 1) := by decide +kernel
theorem dX8_set_19 : decode cX8_set 19 = .ok (.i2l, 1) := by decide +kernel
theorem dX8_set_20 : decode cX8_set 20 = .ok (.lconst 0, 1) := by decide +kernel
theorem dX8_set_21 : decode cX8_set 21 = .ok (.iload_n 2, 1) := by decide +kernel
theorem dX8_set_22 : decode cX8_set 22 = .ok (.ifCond .ne 9, 3) := by decide +kernel
theorem dX8_set_25 : decode cX8_set 25 = .ok (.ldc2_w 103, 3) := by decide +kernel
theorem dX8_set_28 : decode cX8_set 28 = .ok (.goto 13, 3) := by decide +kernel
theorem dX8_set_31 : decode cX8_set 31 = .ok (.aload_n 0, 1) := by decide +kernel
theorem dX8_set_32 : decode cX8_set 32 = .ok (.getfield 9, 3) := by decide +kernel
theorem dX8_set_35 : decode cX8_set 35 = .ok (.bipush 96, 2) := by decide +kernel
theorem dX8_set_37 : decode cX8_set 37 = .ok (.iload_n 1, 1) := by decide +kernel
theorem dX8_set_38 : decode cX8_set 38 = .ok (.iadd, 1) := by decide +kernel
theorem dX8_set_39 : decode cX8_set 39 = .ok (.iaload, 1) := by decide +kernel
theorem dX8_set_40 : decode cX8_set 40 = .ok (.i2l, 1) := by decide +kernel
theorem dX8_set_41 : decode cX8_set 41 = .ok (.invokestatic 54, 3) := by decide +kernel
theorem dX8_set_44 : decode cX8_set 44 = .ok (.ifCond .ne 5, 3) := by decide +kernel
theorem dX8_set_47 : decode cX8_set 47 = .ok (.iconst (-1), 1) := by decide +kernel
theorem dX8_set_48 : decode cX8_set 48 = .ok (.ireturn, 1) := by decide +kernel
theorem dX8_set_49 : decode cX8_set 49 = .ok (.iload_n 2, 1) := by decide +kernel
theorem dX8_set_50 : decode cX8_set 50 = .ok (.ifCond .ne 9, 3) := by decide +kernel
theorem dX8_set_53 : decode cX8_set 53 = .ok (.sipush 160, 3) := by decide +kernel
theorem dX8_set_56 : decode cX8_set 56 = .ok (.goto 6, 3) := by decide +kernel
theorem dX8_set_59 : decode cX8_set 59 = .ok (.sipush 176, 3) := by decide +kernel
theorem dX8_set_62 : decode cX8_set 62 = .ok (.iload_n 1, 1) := by decide +kernel
theorem dX8_set_63 : decode cX8_set 63 = .ok (.iadd, 1) := by decide +kernel
theorem dX8_set_64 : decode cX8_set 64 = .ok (.istore 4, 2) := by decide +kernel
theorem dX8_set_66 : decode cX8_set 66 = .ok (.aload_n 0, 1) := by decide +kernel
theorem dX8_set_67 : decode cX8_set 67 = .ok (.getfield 9, 3) := by decide +kernel
theorem dX8_set_70 : decode cX8_set 70 = .ok (.iload 4, 2) := by decide +kernel
theorem dX8_set_72 : decode cX8_set 72 = .ok (.iaload, 1) := by decide +kernel
theorem dX8_set_73 : decode cX8_set 73 = .ok (.istore 5, 2) := by decide +kernel
theorem dX8_set_75 : decode cX8_set 75 = .ok (.aload_n 0, 1) := by decide +kernel
theorem dX8_set_76 : decode cX8_set 76 = .ok (.getfield 9, 3) := by decide +kernel
theorem dX8_set_79 : decode cX8_set 79 = .ok (.iload 4, 2) := by decide +kernel
theorem dX8_set_81 : decode cX8_set 81 = .ok (.iload_n 3, 1) := by decide +kernel
theorem dX8_set_82 : decode cX8_set 82 = .ok (.iastore, 1) := by decide +kernel
theorem dX8_set_83 : decode cX8_set 83 = .ok (.iload 5, 2) := by decide +kernel
theorem dX8_set_85 : decode cX8_set 85 = .ok (.ireturn, 1) := by decide +kernel
def F_X8_set_b62 (x1 : Int32) (x2 : Int32) (x3 : Int32) (Q : VP) (post : Int32 → VP → Prop)  (t0 : Int32) : Prop :=
  (0 ≤ t0 + x1 ∧ t0 + x1 < 3464) ∧ ((0 ≤ t0 + x1 ∧ t0 + x1 < 3464) ∧ (∀ Q82 : VP, Q82 = vup Q 23 0 (ix (t0 + x1)) x3 → (post (Q 23 0 (ix (t0 + x1))) Q82)))
set_option maxRecDepth 4000 in
theorem s_X8_set_b62 {l : Launch} {g : vG} {x1 : Int32} {x2 : Int32} {x3 : Int32} {P Q : VP} {post : Int32 → VP → Prop}  {t0 : Int32}    (h : F_X8_set_b62 x1 x2 x3 Q post  t0) : VM l g RX8 cX8_set 6 (some .int) 3 (vmI P post) 62 [(0, vR 22 0), (1, vI x1), (3, vI x3)] [vI t0] (vjn P Q) := by
  unfold F_X8_set_b62 at h
  refine vr_iload_n 1 1 dX8_set_62 rfl rfl ?_
  refine vr_iadd dX8_set_63 ?_
  refine vr_istore [(4, vI (t0 + x1)), (0, vR 22 0), (1, vI x1), (3, vI x3)] dX8_set_64 (by decide) rfl ?_
  refine vr_aload_n 0 1 dX8_set_66 rfl rfl ?_
  refine vg_22_0 RX8 rfl (by decide) fl_8_9 dX8_set_67 ?_
  refine vr_iload 0 dX8_set_70 rfl ?_
  have hi := h.1
  have h := h.2
  refine vr_ialdQ 3464 ia_23 rfl hi dX8_set_72 ?_
  refine vr_istore [(5, vI (Q 23 0 (ix (t0 + x1)))), (4, vI (t0 + x1)), (0, vR 22 0), (1, vI x1), (3, vI x3)] dX8_set_73 (by decide) rfl ?_
  refine vr_aload_n 0 2 dX8_set_75 rfl rfl ?_
  refine vg_22_0 RX8 rfl (by decide) fl_8_9 dX8_set_76 ?_
  refine vr_iload 1 dX8_set_79 rfl ?_
  refine vr_iload_n 3 4 dX8_set_81 rfl rfl ?_
  have hi := h.1
  have h := h.2
  obtain ⟨Q82, eQ82⟩ : ∃ y : VP, y = vup Q 23 0 (ix (t0 + x1)) x3 := ⟨_, rfl⟩
  have h := h Q82 eQ82
  refine vr_iastQ 3464 ia_23 rfl hi eQ82 dX8_set_82 ?_
  refine vr_iload 0 dX8_set_83 rfl ?_
  exact vr_iret rfl ⟨_, _, rfl, rfl, h⟩ dX8_set_85
def F_X8_set_b41 (x1 : Int32) (x2 : Int32) (x3 : Int32) (Q : VP) (post : Int32 → VP → Prop)  (t0 : Int64) (t1 : Int64) (t2 : Int64) : Prop :=
  F_X8_in t2 t1 t0 Q (fun r41 => (r41 = 0 → post (((-1) : Int32)) Q) ∧ (¬ r41 = 0 → (x2 = 0 → F_X8_set_b62 x1 x2 x3 Q post  ((160 : Int32))) ∧ (¬ x2 = 0 → F_X8_set_b62 x1 x2 x3 Q post  ((176 : Int32)))))
set_option maxRecDepth 4000 in
theorem s_X8_set_b41 {l : Launch} {g : vG} {x1 : Int32} {x2 : Int32} {x3 : Int32} {P Q : VP} {post : Int32 → VP → Prop}  {t0 : Int64} {t1 : Int64} {t2 : Int64}    (h : F_X8_set_b41 x1 x2 x3 Q post  t0 t1 t2) : VM l g RX8 cX8_set 6 (some .int) 3 (vmI P post) 41 [(0, vR 22 0), (1, vI x1), (2, vI x2), (3, vI x3)] [vL t0, vL t1, vL t2] (vjn P Q) := by
  unfold F_X8_set_b41 at h
  refine vr_callS RX8 (s_X8_in h) rfl rfl ml_8_54 rfl yh_X8_in rfl ⟨Nat.le_of_ble_eq_true rfl, Nat.le_of_ble_eq_true rfl⟩ (Nat.le_of_ble_eq_true rfl) ⟨Nat.zero_le _, Nat.zero_le _⟩ dX8_set_41 (ki fun r41 h => ?_)
  refine vr_ifne 49 dX8_set_44 (by decide) (fun c44 => ?_) (fun c44 => ?_)
  · have h := h.1 c44
    refine vr_iconst (-1) dX8_set_47 (by decide) ?_
    exact vr_iret rfl ⟨_, _, rfl, rfl, h⟩ dX8_set_48
  · have h := h.2 c44
    refine vr_iload_n 2 2 dX8_set_49 rfl rfl ?_
    refine vr_ifne 59 dX8_set_50 (by decide) (fun c50 => ?_) (fun c50 => ?_)
    · have h := h.1 c50
      refine vr_sipush 160 dX8_set_53 (by decide) ?_
      refine vr_goto 62 dX8_set_56 (by decide) ?_
      refine vr_sub [0, 1, 3] [(0, vR 22 0), (1, vI x1), (3, vI x3)] rfl ?_
      exact s_X8_set_b62   h
    · have h := h.2 c50
      refine vr_sipush 176 dX8_set_59 (by decide) ?_
      refine vr_sub [0, 1, 3] [(0, vR 22 0), (1, vI x1), (3, vI x3)] rfl ?_
      exact s_X8_set_b62   h
def F_X8_set (x1 : Int32) (x2 : Int32) (x3 : Int32) (Q : VP) (post : Int32 → VP → Prop) : Prop :=
  F_X8_isSegment x1 Q (fun r2 => (r2 = 0 → post (((-1) : Int32)) Q) ∧ (¬ r2 = 0 → F_X8_in (Int32.toInt64 x2) 0 1 Q (fun r12 => (r12 = 0 → post (((-1) : Int32)) Q) ∧ (¬ r12 = 0 → (x2 = 0 → F_X8_set_b41 x1 x2 x3 Q post  7 0 (Int32.toInt64 x3)) ∧ (¬ x2 = 0 → (0 ≤ 96 + x1 ∧ 96 + x1 < 3464) ∧ (F_X8_set_b41 x1 x2 x3 Q post  (Int32.toInt64 (Q 23 0 (ix (96 + x1)))) 0 (Int32.toInt64 x3)))))))
set_option maxRecDepth 4000 in
theorem s_X8_set {l : Launch} {g : vG} {x1 : Int32} {x2 : Int32} {x3 : Int32} {P Q : VP} {post : Int32 → VP → Prop}  (h : F_X8_set x1 x2 x3 Q post) : VC l g yX8_set cX8_set 6 (some .int) 3 [vR 22 0, vI x1, vI x2, vI x3] (vjn P Q) (vmI P post) := by
  refine VC.of (by decide +kernel) (Nat.le_of_ble_eq_true rfl) (show VM l g RX8 cX8_set 6 (some .int) 3 (vmI P post) 0 [(0, vR 22 0), (1, vI x1), (2, vI x2), (3, vI x3)] [] (vjn P Q) from ?_)
  unfold F_X8_set at h
  refine vr_aload_n 0 0 dX8_set_0 rfl rfl ?_
  refine vr_iload_n 1 1 dX8_set_1 rfl rfl ?_
  refine vr_callV RX8 (s_X8_isSegment h) rfl (by decide) rfl rfl rfl ml_8_95 rfl yh_X8_isSegment rfl ⟨Nat.le_of_ble_eq_true rfl, Nat.le_of_ble_eq_true rfl⟩ (Nat.le_of_ble_eq_true rfl) ⟨Nat.zero_le _, Nat.zero_le _⟩ dX8_set_2 (ki fun r2 h => ?_)
  refine vr_ifeq 47 dX8_set_5 (by decide) (fun c5 => ?_) (fun c5 => ?_)
  · have h := h.1 c5
    refine vr_iconst (-1) dX8_set_47 (by decide) ?_
    exact vr_iret rfl ⟨_, _, rfl, rfl, h⟩ dX8_set_48
  · have h := h.2 c5
    refine vr_iload_n 2 2 dX8_set_8 rfl rfl ?_
    refine vr_i2l dX8_set_9 ?_
    refine vr_lconst 0 dX8_set_10 (by decide) ?_
    refine vr_lconst 1 dX8_set_11 (by decide) ?_
    refine vr_callS RX8 (s_X8_in h) rfl rfl ml_8_54 rfl yh_X8_in rfl ⟨Nat.le_of_ble_eq_true rfl, Nat.le_of_ble_eq_true rfl⟩ (Nat.le_of_ble_eq_true rfl) ⟨Nat.zero_le _, Nat.zero_le _⟩ dX8_set_12 (ki fun r12 h => ?_)
    refine vr_ifeq 47 dX8_set_15 (by decide) (fun c15 => ?_) (fun c15 => ?_)
    · have h := h.1 c15
      refine vr_iconst (-1) dX8_set_47 (by decide) ?_
      exact vr_iret rfl ⟨_, _, rfl, rfl, h⟩ dX8_set_48
    · have h := h.2 c15
      refine vr_iload_n 3 3 dX8_set_18 rfl rfl ?_
      refine vr_i2l dX8_set_19 ?_
      refine vr_lconst 0 dX8_set_20 (by decide) ?_
      refine vr_iload_n 2 2 dX8_set_21 rfl rfl ?_
      refine vr_ifne 31 dX8_set_22 (by decide) (fun c22 => ?_) (fun c22 => ?_)
      · have h := h.1 c22
        refine vr_ldc2 7 ct_8_103 dX8_set_25 ?_
        refine vr_goto 41 dX8_set_28 (by decide) ?_
        exact s_X8_set_b41   h
      · have h := h.2 c22
        refine vr_aload_n 0 0 dX8_set_31 rfl rfl ?_
        refine vg_22_0 RX8 rfl (by decide) fl_8_9 dX8_set_32 ?_
        refine vr_bipush 96 dX8_set_35 (by decide) ?_
        refine vr_iload_n 1 1 dX8_set_37 rfl rfl ?_
        refine vr_iadd dX8_set_38 ?_
        have hi := h.1
        have h := h.2
        refine vr_ialdQ 3464 ia_23 rfl hi dX8_set_39 ?_
        refine vr_i2l dX8_set_40 ?_
        exact s_X8_set_b41   h
theorem dX8_quota_0 : decode cX8_quota 0 = .ok (.aload_n 0, 1) := by decide +kernel
theorem dX8_quota_1 : decode cX8_quota 1 = .ok (.iload_n 1, 1) := by decide +kernel
theorem dX8_quota_2 : decode cX8_quota 2 = .ok (.invokevirtual 75, 3) := by decide +kernel
theorem dX8_quota_5 : decode cX8_quota 5 = .ok (.ifCond .eq 7, 3) := by decide +kernel
theorem dX8_quota_8 : decode cX8_quota 8 = .ok (.iload_n 1, 1) := by decide +kernel
theorem dX8_quota_9 : decode cX8_quota 9 = .ok (.ifCond .ne 5, 3) := by decide +kernel
theorem dX8_quota_12 : decode cX8_quota 12 = .ok (.iconst (-1), 1) := by decide +kernel
theorem dX8_quota_13 : decode cX8_quota 13 = .ok (.ireturn, 1) := by decide +kernel
theorem dX8_quota_14 : decode cX8_quota 14 = .ok (.aload_n 0, 1) := by decide +kernel
theorem dX8_quota_15 : decode cX8_quota 15 = .ok (.getfield 9, 3) := by decide +kernel
theorem dX8_quota_18 : decode cX8_quota 18 = .ok (.aload_n 0, 1) := by decide +kernel
theorem dX8_quota_19 : decode cX8_quota 19 = .ok (.getfield 9, 3) := by decide +kernel
theorem dX8_quota_22 : decode cX8_quota 22 = .ok (.bipush 16, 2) := by decide +kernel
theorem dX8_quota_24 : decode cX8_quota 24 = .ok (.iload_n 1, 1) := by decide +kernel
theorem dX8_quota_25 : decode cX8_quota 25 = .ok (.iadd, 1) := by decide +kernel
theorem dX8_quota_26 : decode cX8_quota 26 = .ok (.iaload, 1) := by decide +kernel
theorem dX8_quota_27 : decode cX8_quota 27 = .ok (.invokestatic 64, 3) := by decide +kernel
theorem dX8_quota_30 : decode cX8_quota 30 = .ok (.istore_n 3, 1) := by decide +kernel
theorem dX8_quota_31 : decode cX8_quota 31 = .ok (.aload_n 0, 1) := by decide +kernel
theorem dX8_quota_32 : decode cX8_quota 32 = .ok (.getfield 9, 3) := by decide +kernel
theorem dX8_quota_35 : decode cX8_quota 35 = .ok (.bipush 24, 2) := by decide +kernel
theorem dX8_quota_37 : decode cX8_quota 37 = .ok (.iload_n 1, 1) := by decide +kernel
theorem dX8_quota_38 : decode cX8_quota 38 = .ok (.iadd, 1) := by decide +kernel
theorem dX8_quota_39 : decode cX8_quota 39 = .ok (.iaload, 1) := by decide +kernel
theorem dX8_quota_40 : decode cX8_quota 40 = .ok (.i2l, 1) := by decide +kernel
theorem dX8_quota_41 : decode cX8_quota 41 = .ok (.iload_n 2, 1) := by decide +kernel
theorem dX8_quota_42 : decode cX8_quota 42 = .ok (.i2l, 1) := by decide +kernel
theorem dX8_quota_43 : decode cX8_quota 43 = .ok (.ladd, 1) := by decide +kernel
theorem dX8_quota_44 : decode cX8_quota 44 = .ok (.lstore 4, 2) := by decide +kernel
theorem dX8_quota_46 : decode cX8_quota 46 = .ok (.aload_n 0, 1) := by decide +kernel
theorem dX8_quota_47 : decode cX8_quota 47 = .ok (.getfield 9, 3) := by decide +kernel
theorem dX8_quota_50 : decode cX8_quota 50 = .ok (.bipush 24, 2) := by decide +kernel
theorem dX8_quota_52 : decode cX8_quota 52 = .ok (.iload_n 3, 1) := by decide +kernel
theorem dX8_quota_53 : decode cX8_quota 53 = .ok (.iadd, 1) := by decide +kernel
theorem dX8_quota_54 : decode cX8_quota 54 = .ok (.iaload, 1) := by decide +kernel
theorem dX8_quota_55 : decode cX8_quota 55 = .ok (.i2l, 1) := by decide +kernel
theorem dX8_quota_56 : decode cX8_quota 56 = .ok (.iload_n 2, 1) := by decide +kernel
theorem dX8_quota_57 : decode cX8_quota 57 = .ok (.i2l, 1) := by decide +kernel
theorem dX8_quota_58 : decode cX8_quota 58 = .ok (.lsub, 1) := by decide +kernel
theorem dX8_quota_59 : decode cX8_quota 59 = .ok (.lstore 6, 2) := by decide +kernel
theorem dX8_quota_61 : decode cX8_quota 61 = .ok (.lload 4, 2) := by decide +kernel
theorem dX8_quota_63 : decode cX8_quota 63 = .ok (.lconst 0, 1) := by decide +kernel
theorem dX8_quota_64 : decode cX8_quota 64 = .ok (.lcmp, 1) := by decide +kernel
theorem dX8_quota_65 : decode cX8_quota 65 = .ok (.ifCond .lt 18, 3) := by decide +kernel
theorem dX8_quota_68 : decode cX8_quota 68 = .ok (.lload 6, 2) := by decide +kernel
theorem dX8_quota_70 : decode cX8_quota 70 = .ok (.iload_n 3, 1) := by decide +kernel
theorem dX8_quota_71 : decode cX8_quota 71 = .ok (.ifCond .ne 7, 3) := by decide +kernel
theorem dX8_quota_74 : decode cX8_quota 74 = .ok (.lconst 1, 1) := by decide +kernel
theorem dX8_quota_75 : decode cX8_quota 75 = .ok (.goto 4, 3) := by decide +kernel
theorem dX8_quota_78 : decode cX8_quota 78 = .ok (.lconst 0, 1) := by decide +kernel
theorem dX8_quota_79 : decode cX8_quota 79 = .ok (.lcmp, 1) := by decide +kernel
theorem dX8_quota_80 : decode cX8_quota 80 = .ok (.ifCond .ge 6, 3) := by decide +kernel
theorem dX8_quota_83 : decode cX8_quota 83 = .ok (.bipush (-5), 2) := by decide +kernel
theorem dX8_quota_85 : decode cX8_quota 85 = .ok (.ireturn, 1) := by decide +kernel
theorem dX8_quota_86 : decode cX8_quota 86 = .ok (.aload_n 0, 1) := by decide +kernel
theorem dX8_quota_87 : decode cX8_quota 87 = .ok (.getfield 9, 3) := by decide +kernel
theorem dX8_quota_90 : decode cX8_quota 90 = .ok (.aload_n 0, 1) := by decide +kernel
theorem dX8_quota_91 : decode cX8_quota 91 = .ok (.getfield 13, 3) := by decide +kernel
theorem dX8_quota_94 : decode cX8_quota 94 = .ok (.invokestatic 105, 3) := by decide +kernel
theorem dX8_quota_97 : decode cX8_quota 97 = .ok (.aload_n 0, 1) := by decide +kernel
theorem dX8_quota_98 : decode cX8_quota 98 = .ok (.getfield 13, 3) := by decide +kernel
theorem dX8_quota_101 : decode cX8_quota 101 = .ok (.bipush 24, 2) := by decide +kernel
theorem dX8_quota_103 : decode cX8_quota 103 = .ok (.iload_n 1, 1) := by decide +kernel
theorem dX8_quota_104 : decode cX8_quota 104 = .ok (.iadd, 1) := by decide +kernel
theorem dX8_quota_105 : decode cX8_quota 105 = .ok (.lload 4, 2) := by decide +kernel
theorem dX8_quota_107 : decode cX8_quota 107 = .ok (.l2i, 1) := by decide +kernel
theorem dX8_quota_108 : decode cX8_quota 108 = .ok (.iastore, 1) := by decide +kernel
theorem dX8_quota_109 : decode cX8_quota 109 = .ok (.aload_n 0, 1) := by decide +kernel
theorem dX8_quota_110 : decode cX8_quota 110 = .ok (.getfield 13, 3) := by decide +kernel
theorem dX8_quota_113 : decode cX8_quota 113 = .ok (.bipush 24, 2) := by decide +kernel
theorem dX8_quota_115 : decode cX8_quota 115 = .ok (.iload_n 3, 1) := by decide +kernel
theorem dX8_quota_116 : decode cX8_quota 116 = .ok (.iadd, 1) := by decide +kernel
theorem dX8_quota_117 : decode cX8_quota 117 = .ok (.lload 6, 2) := by decide +kernel
theorem dX8_quota_119 : decode cX8_quota 119 = .ok (.l2i, 1) := by decide +kernel
theorem dX8_quota_120 : decode cX8_quota 120 = .ok (.iastore, 1) := by decide +kernel
theorem dX8_quota_121 : decode cX8_quota 121 = .ok (.aload_n 0, 1) := by decide +kernel
theorem dX8_quota_122 : decode cX8_quota 122 = .ok (.getfield 13, 3) := by decide +kernel
theorem dX8_quota_125 : decode cX8_quota 125 = .ok (.invokestatic 109, 3) := by decide +kernel
theorem dX8_quota_128 : decode cX8_quota 128 = .ok (.ifCond .ne 6, 3) := by decide +kernel
theorem dX8_quota_131 : decode cX8_quota 131 = .ok (.bipush (-5), 2) := by decide +kernel
theorem dX8_quota_133 : decode cX8_quota 133 = .ok (.ireturn, 1) := by decide +kernel
theorem dX8_quota_134 : decode cX8_quota 134 = .ok (.aload_n 0, 1) := by decide +kernel
theorem dX8_quota_135 : decode cX8_quota 135 = .ok (.getfield 13, 3) := by decide +kernel
theorem dX8_quota_138 : decode cX8_quota 138 = .ok (.aload_n 0, 1) := by decide +kernel
theorem dX8_quota_139 : decode cX8_quota 139 = .ok (.getfield 9, 3) := by decide +kernel
theorem dX8_quota_142 : decode cX8_quota 142 = .ok (.invokestatic 105, 3) := by decide +kernel
theorem dX8_quota_145 : decode cX8_quota 145 = .ok (.lload 4, 2) := by decide +kernel
theorem dX8_quota_147 : decode cX8_quota 147 = .ok (.l2i, 1) := by decide +kernel
theorem dX8_quota_148 : decode cX8_quota 148 = .ok (.ireturn, 1) := by decide +kernel
def F_X8_quota_b79 (x1 : Int32) (x2 : Int32) (Q : VP) (post : Int32 → VP → Prop)  (v3 : Int32) (v4 : Int64) (v6 : Int64) (t0 : Int64) (t1 : Int64) : Prop :=
  (lg_cmp t1 t0 < 0 → post (((-5) : Int32)) Q) ∧ (¬ lg_cmp t1 t0 < 0 → F_X8_copies 23 24 Q (fun Q94 => (0 ≤ 24 + x1 ∧ 24 + x1 < 3464) ∧ (∀ Q108 : VP, Q108 = vup Q94 24 0 (ix (24 + x1)) (Int64.toInt32 v4) → ((0 ≤ 24 + v3 ∧ 24 + v3 < 3464) ∧ (∀ Q120 : VP, Q120 = vup Q108 24 0 (ix (24 + v3)) (Int64.toInt32 v6) → (F_X8_isWithin 24 Q120 (fun r125 => (r125 = 0 → post (((-5) : Int32)) Q120) ∧ (¬ r125 = 0 → F_X8_copies 24 23 Q120 (fun Q142 => post (Int64.toInt32 v4) Q142)))))))))
set_option maxRecDepth 4000 in
theorem s_X8_quota_b79 {l : Launch} {g : vG} {x1 : Int32} {x2 : Int32} {P Q : VP} {post : Int32 → VP → Prop}  {v3 : Int32} {v4 : Int64} {v6 : Int64} {t0 : Int64} {t1 : Int64}    (h : F_X8_quota_b79 x1 x2 Q post  v3 v4 v6 t0 t1) : VM l g RX8 cX8_quota 8 (some .int) 3 (vmI P post) 79 [(0, vR 22 0), (1, vI x1), (3, vI v3), (4, vL v4), (6, vL v6)] [vL t0, vL t1] (vjn P Q) := by
  unfold F_X8_quota_b79 at h
  refine vr_lcmp dX8_quota_79 ?_
  refine vr_ifge 86 dX8_quota_80 (by decide) (fun c80 => ?_) (fun c80 => ?_)
  · have h := h.1 c80
    refine vr_bipush (-5) dX8_quota_83 (by decide) ?_
    exact vr_iret rfl ⟨_, _, rfl, rfl, h⟩ dX8_quota_85
  · have h := h.2 c80
    refine vr_aload_n 0 0 dX8_quota_86 rfl rfl ?_
    refine vg_22_0 RX8 rfl (by decide) fl_8_9 dX8_quota_87 ?_
    refine vr_aload_n 0 0 dX8_quota_90 rfl rfl ?_
    refine vg_22_1 RX8 rfl (by decide) fl_8_13 dX8_quota_91 ?_
    refine vr_callS RX8 (s_X8_copies ia_23 ia_24 h) rfl rfl ml_8_105 rfl yh_X8_copies rfl ⟨Nat.le_of_ble_eq_true rfl, Nat.le_of_ble_eq_true rfl⟩ (Nat.le_of_ble_eq_true rfl) ⟨Nat.zero_le _, Nat.zero_le _⟩ dX8_quota_94 (kmv fun Q94 h => ?_)
    refine vr_aload_n 0 0 dX8_quota_97 rfl rfl ?_
    refine vg_22_1 RX8 rfl (by decide) fl_8_13 dX8_quota_98 ?_
    refine vr_bipush 24 dX8_quota_101 (by decide) ?_
    refine vr_iload_n 1 1 dX8_quota_103 rfl rfl ?_
    refine vr_iadd dX8_quota_104 ?_
    refine vr_lload 3 dX8_quota_105 rfl ?_
    refine vr_l2i dX8_quota_107 ?_
    have hi := h.1
    have h := h.2
    obtain ⟨Q108, eQ108⟩ : ∃ y : VP, y = vup Q94 24 0 (ix (24 + x1)) (Int64.toInt32 v4) := ⟨_, rfl⟩
    have h := h Q108 eQ108
    refine vr_iastQ 3464 ia_24 rfl hi eQ108 dX8_quota_108 ?_
    refine vr_aload_n 0 0 dX8_quota_109 rfl rfl ?_
    refine vg_22_1 RX8 rfl (by decide) fl_8_13 dX8_quota_110 ?_
    refine vr_bipush 24 dX8_quota_113 (by decide) ?_
    refine vr_iload_n 3 2 dX8_quota_115 rfl rfl ?_
    refine vr_iadd dX8_quota_116 ?_
    refine vr_lload 4 dX8_quota_117 rfl ?_
    refine vr_l2i dX8_quota_119 ?_
    have hi := h.1
    have h := h.2
    obtain ⟨Q120, eQ120⟩ : ∃ y : VP, y = vup Q108 24 0 (ix (24 + v3)) (Int64.toInt32 v6) := ⟨_, rfl⟩
    have h := h Q120 eQ120
    refine vr_iastQ 3464 ia_24 rfl hi eQ120 dX8_quota_120 ?_
    refine vr_aload_n 0 0 dX8_quota_121 rfl rfl ?_
    refine vg_22_1 RX8 rfl (by decide) fl_8_13 dX8_quota_122 ?_
    refine vr_callS RX8 (s_X8_isWithin ia_24 h) rfl rfl ml_8_109 rfl yh_X8_isWithin rfl ⟨Nat.le_of_ble_eq_true rfl, Nat.le_of_ble_eq_true rfl⟩ (Nat.le_of_ble_eq_true rfl) ⟨Nat.zero_le _, Nat.zero_le _⟩ dX8_quota_125 (ki fun r125 h => ?_)
    refine vr_ifne 134 dX8_quota_128 (by decide) (fun c128 => ?_) (fun c128 => ?_)
    · have h := h.1 c128
      refine vr_bipush (-5) dX8_quota_131 (by decide) ?_
      exact vr_iret rfl ⟨_, _, rfl, rfl, h⟩ dX8_quota_133
    · have h := h.2 c128
      refine vr_aload_n 0 0 dX8_quota_134 rfl rfl ?_
      refine vg_22_1 RX8 rfl (by decide) fl_8_13 dX8_quota_135 ?_
      refine vr_aload_n 0 0 dX8_quota_138 rfl rfl ?_
      refine vg_22_0 RX8 rfl (by decide) fl_8_9 dX8_quota_139 ?_
      refine vr_callS RX8 (s_X8_copies ia_24 ia_23 h) rfl rfl ml_8_105 rfl yh_X8_copies rfl ⟨Nat.le_of_ble_eq_true rfl, Nat.le_of_ble_eq_true rfl⟩ (Nat.le_of_ble_eq_true rfl) ⟨Nat.zero_le _, Nat.zero_le _⟩ dX8_quota_142 (kmv fun Q142 h => ?_)
      refine vr_lload 3 dX8_quota_145 rfl ?_
      refine vr_l2i dX8_quota_147 ?_
      exact vr_iret rfl ⟨_, _, rfl, rfl, h⟩ dX8_quota_148
def F_X8_quota (x1 : Int32) (x2 : Int32) (Q : VP) (post : Int32 → VP → Prop) : Prop :=
  F_X8_isDirectory x1 Q (fun r2 => (r2 = 0 → post (((-1) : Int32)) Q) ∧ (¬ r2 = 0 → (x1 = 0 → post (((-1) : Int32)) Q) ∧ (¬ x1 = 0 → (0 ≤ 16 + x1 ∧ 16 + x1 < 3464) ∧ (F_X8_cellOf 23 (Q 23 0 (ix (16 + x1))) Q (fun r27 => (0 ≤ 24 + x1 ∧ 24 + x1 < 3464) ∧ (∀ v4_44 : Int64, v4_44 = (Int32.toInt64 (Q 23 0 (ix (24 + x1)))) + (Int32.toInt64 x2) → ((0 ≤ 24 + r27 ∧ 24 + r27 < 3464) ∧ (∀ v6_59 : Int64, v6_59 = (Int32.toInt64 (Q 23 0 (ix (24 + r27)))) - (Int32.toInt64 x2) → ((lg_cmp v4_44 0 < 0 → post (((-5) : Int32)) Q) ∧ (¬ lg_cmp v4_44 0 < 0 → (r27 = 0 → F_X8_quota_b79 x1 x2 Q post  r27 v4_44 v6_59 1 v6_59) ∧ (¬ r27 = 0 → F_X8_quota_b79 x1 x2 Q post  r27 v4_44 v6_59 0 v6_59)))))))))))
set_option maxRecDepth 4000 in
theorem s_X8_quota {l : Launch} {g : vG} {x1 : Int32} {x2 : Int32} {P Q : VP} {post : Int32 → VP → Prop}  (h : F_X8_quota x1 x2 Q post) : VC l g yX8_quota cX8_quota 8 (some .int) 3 [vR 22 0, vI x1, vI x2] (vjn P Q) (vmI P post) := by
  refine VC.of (by decide +kernel) (Nat.le_of_ble_eq_true rfl) (show VM l g RX8 cX8_quota 8 (some .int) 3 (vmI P post) 0 [(0, vR 22 0), (1, vI x1), (2, vI x2)] [] (vjn P Q) from ?_)
  unfold F_X8_quota at h
  refine vr_aload_n 0 0 dX8_quota_0 rfl rfl ?_
  refine vr_iload_n 1 1 dX8_quota_1 rfl rfl ?_
  refine vr_callV RX8 (s_X8_isDirectory h) rfl (by decide) rfl rfl rfl ml_8_75 rfl yh_X8_isDirectory rfl ⟨Nat.le_of_ble_eq_true rfl, Nat.le_of_ble_eq_true rfl⟩ (Nat.le_of_ble_eq_true rfl) ⟨Nat.zero_le _, Nat.zero_le _⟩ dX8_quota_2 (ki fun r2 h => ?_)
  refine vr_ifeq 12 dX8_quota_5 (by decide) (fun c5 => ?_) (fun c5 => ?_)
  · have h := h.1 c5
    refine vr_iconst (-1) dX8_quota_12 (by decide) ?_
    exact vr_iret rfl ⟨_, _, rfl, rfl, h⟩ dX8_quota_13
  · have h := h.2 c5
    refine vr_iload_n 1 1 dX8_quota_8 rfl rfl ?_
    refine vr_ifne 14 dX8_quota_9 (by decide) (fun c9 => ?_) (fun c9 => ?_)
    · have h := h.1 c9
      refine vr_iconst (-1) dX8_quota_12 (by decide) ?_
      exact vr_iret rfl ⟨_, _, rfl, rfl, h⟩ dX8_quota_13
    · have h := h.2 c9
      refine vr_aload_n 0 0 dX8_quota_14 rfl rfl ?_
      refine vg_22_0 RX8 rfl (by decide) fl_8_9 dX8_quota_15 ?_
      refine vr_aload_n 0 0 dX8_quota_18 rfl rfl ?_
      refine vg_22_0 RX8 rfl (by decide) fl_8_9 dX8_quota_19 ?_
      refine vr_bipush 16 dX8_quota_22 (by decide) ?_
      refine vr_iload_n 1 1 dX8_quota_24 rfl rfl ?_
      refine vr_iadd dX8_quota_25 ?_
      have hi := h.1
      have h := h.2
      refine vr_ialdQ 3464 ia_23 rfl hi dX8_quota_26 ?_
      refine vr_callS RX8 (s_X8_cellOf ia_23 h) rfl rfl ml_8_64 rfl yh_X8_cellOf rfl ⟨Nat.le_of_ble_eq_true rfl, Nat.le_of_ble_eq_true rfl⟩ (Nat.le_of_ble_eq_true rfl) ⟨Nat.zero_le _, Nat.zero_le _⟩ dX8_quota_27 (ki fun r27 h => ?_)
      refine vr_istore_n 3 [(3, vI r27), (0, vR 22 0), (1, vI x1), (2, vI x2)] dX8_quota_30 rfl (by decide) rfl ?_
      refine vr_aload_n 0 1 dX8_quota_31 rfl rfl ?_
      refine vg_22_0 RX8 rfl (by decide) fl_8_9 dX8_quota_32 ?_
      refine vr_bipush 24 dX8_quota_35 (by decide) ?_
      refine vr_iload_n 1 2 dX8_quota_37 rfl rfl ?_
      refine vr_iadd dX8_quota_38 ?_
      have hi := h.1
      have h := h.2
      refine vr_ialdQ 3464 ia_23 rfl hi dX8_quota_39 ?_
      refine vr_i2l dX8_quota_40 ?_
      refine vr_iload_n 2 3 dX8_quota_41 rfl rfl ?_
      refine vr_i2l dX8_quota_42 ?_
      refine vr_ladd dX8_quota_43 ?_
      obtain ⟨v4_44, ev4_44⟩ : ∃ y : Int64, y = (Int32.toInt64 (Q 23 0 (ix (24 + x1)))) + (Int32.toInt64 x2) := ⟨_, rfl⟩
      have h := h v4_44 ev4_44
      refine vr_nmL ev4_44 ?_
      refine vr_lstore [(4, vL v4_44), (3, vI r27), (0, vR 22 0), (1, vI x1), (2, vI x2)] dX8_quota_44 (by decide) rfl ?_
      refine vr_aload_n 0 2 dX8_quota_46 rfl rfl ?_
      refine vg_22_0 RX8 rfl (by decide) fl_8_9 dX8_quota_47 ?_
      refine vr_bipush 24 dX8_quota_50 (by decide) ?_
      refine vr_iload_n 3 1 dX8_quota_52 rfl rfl ?_
      refine vr_iadd dX8_quota_53 ?_
      have hi := h.1
      have h := h.2
      refine vr_ialdQ 3464 ia_23 rfl hi dX8_quota_54 ?_
      refine vr_i2l dX8_quota_55 ?_
      refine vr_iload_n 2 4 dX8_quota_56 rfl rfl ?_
      refine vr_i2l dX8_quota_57 ?_
      refine vr_lsub dX8_quota_58 ?_
      obtain ⟨v6_59, ev6_59⟩ : ∃ y : Int64, y = (Int32.toInt64 (Q 23 0 (ix (24 + r27)))) - (Int32.toInt64 x2) := ⟨_, rfl⟩
      have h := h v6_59 ev6_59
      refine vr_nmL ev6_59 ?_
      refine vr_lstore [(6, vL v6_59), (4, vL v4_44), (3, vI r27), (0, vR 22 0), (1, vI x1), (2, vI x2)] dX8_quota_59 (by decide) rfl ?_
      refine vr_lload 1 dX8_quota_61 rfl ?_
      refine vr_lconst 0 dX8_quota_63 (by decide) ?_
      refine vr_lcmp dX8_quota_64 ?_
      refine vr_iflt 83 dX8_quota_65 (by decide) (fun c65 => ?_) (fun c65 => ?_)
      · have h := h.1 c65
        refine vr_bipush (-5) dX8_quota_83 (by decide) ?_
        exact vr_iret rfl ⟨_, _, rfl, rfl, h⟩ dX8_quota_85
      · have h := h.2 c65
        refine vr_lload 0 dX8_quota_68 rfl ?_
        refine vr_iload_n 3 2 dX8_quota_70 rfl rfl ?_
        refine vr_ifne 78 dX8_quota_71 (by decide) (fun c71 => ?_) (fun c71 => ?_)
        · have h := h.1 c71
          refine vr_lconst 1 dX8_quota_74 (by decide) ?_
          refine vr_goto 79 dX8_quota_75 (by decide) ?_
          refine vr_sub [3, 4, 2, 1, 0] [(0, vR 22 0), (1, vI x1), (3, vI r27), (4, vL v4_44), (6, vL v6_59)] rfl ?_
          exact s_X8_quota_b79   h
        · have h := h.2 c71
          refine vr_lconst 0 dX8_quota_78 (by decide) ?_
          refine vr_sub [3, 4, 2, 1, 0] [(0, vR 22 0), (1, vI x1), (3, vI r27), (4, vL v4_44), (6, vL v6_59)] rfl ?_
          exact s_X8_quota_b79   h
theorem dX8_segmentsIn_0 : decode cX8_segmentsIn 0 = .ok (.iconst 0, 1) := by decide +kernel
theorem dX8_segmentsIn_1 : decode cX8_segmentsIn 1 = .ok (.istore_n 2, 1) := by decide +kernel
theorem dX8_segmentsIn_2 : decode cX8_segmentsIn 2 = .ok (.iconst 0, 1) := by decide +kernel
theorem dX8_segmentsIn_3 : decode cX8_segmentsIn 3 = .ok (.istore_n 3, 1) := by decide +kernel
theorem dX8_segmentsIn_4 : decode cX8_segmentsIn 4 = .ok (.iload_n 3, 1) := by decide +kernel
theorem dX8_segmentsIn_5 : decode cX8_segmentsIn 5 = .ok (.bipush 16, 2) := by decide +kernel
theorem dX8_segmentsIn_7 : decode cX8_segmentsIn 7 = .ok (.if_icmp .ge 43, 3) := by decide +kernel
theorem dX8_segmentsIn_10 : decode cX8_segmentsIn 10 = .ok (.iload_n 2, 1) := by decide +kernel
theorem dX8_segmentsIn_11 : decode cX8_segmentsIn 11 = .ok (.aload_n 0, 1) := by decide +kernel
theorem dX8_segmentsIn_12 : decode cX8_segmentsIn 12 = .ok (.getfield 9, 3) := by decide +kernel
theorem dX8_segmentsIn_15 : decode cX8_segmentsIn 15 = .ok (.bipush 32, 2) := by decide +kernel
theorem dX8_segmentsIn_17 : decode cX8_segmentsIn 17 = .ok (.iload_n 3, 1) := by decide +kernel
theorem dX8_segmentsIn_18 : decode cX8_segmentsIn 18 = .ok (.iadd, 1) := by decide +kernel
theorem dX8_segmentsIn_19 : decode cX8_segmentsIn 19 = .ok (.iaload, 1) := by decide +kernel
theorem dX8_segmentsIn_20 : decode cX8_segmentsIn 20 = .ok (.iconst 1, 1) := by decide +kernel
theorem dX8_segmentsIn_21 : decode cX8_segmentsIn 21 = .ok (.if_icmp .ne 20, 3) := by decide +kernel
theorem dX8_segmentsIn_24 : decode cX8_segmentsIn 24 = .ok (.aload_n 0, 1) := by decide +kernel
theorem dX8_segmentsIn_25 : decode cX8_segmentsIn 25 = .ok (.getfield 9, 3) := by decide +kernel
theorem dX8_segmentsIn_28 : decode cX8_segmentsIn 28 = .ok (.bipush 48, 2) := by decide +kernel
theorem dX8_segmentsIn_30 : decode cX8_segmentsIn 30 = .ok (.iload_n 3, 1) := by decide +kernel
theorem dX8_segmentsIn_31 : decode cX8_segmentsIn 31 = .ok (.iadd, 1) := by decide +kernel
theorem dX8_segmentsIn_32 : decode cX8_segmentsIn 32 = .ok (.iaload, 1) := by decide +kernel
theorem dX8_segmentsIn_33 : decode cX8_segmentsIn 33 = .ok (.iload_n 1, 1) := by decide +kernel
theorem dX8_segmentsIn_34 : decode cX8_segmentsIn 34 = .ok (.if_icmp .ne 7, 3) := by decide +kernel
theorem dX8_segmentsIn_37 : decode cX8_segmentsIn 37 = .ok (.iconst 1, 1) := by decide +kernel
theorem dX8_segmentsIn_38 : decode cX8_segmentsIn 38 = .ok (.goto 4, 3) := by decide +kernel
theorem dX8_segmentsIn_41 : decode cX8_segmentsIn 41 = .ok (.iconst 0, 1) := by decide +kernel
theorem dX8_segmentsIn_42 : decode cX8_segmentsIn 42 = .ok (.iadd, 1) := by decide +kernel
theorem dX8_segmentsIn_43 : decode cX8_segmentsIn 43 = .ok (.istore_n 2, 1) := by decide +kernel
theorem dX8_segmentsIn_44 : decode cX8_segmentsIn 44 = .ok (.iinc 3 1, 3) := by decide +kernel
theorem dX8_segmentsIn_47 : decode cX8_segmentsIn 47 = .ok (.goto (-43), 3) := by decide +kernel
theorem dX8_segmentsIn_50 : decode cX8_segmentsIn 50 = .ok (.iload_n 2, 1) := by decide +kernel
theorem dX8_segmentsIn_51 : decode cX8_segmentsIn 51 = .ok (.ireturn, 1) := by decide +kernel
def F_X8_segmentsIn_l4 (x1 : Int32) (Q : VP) (post : Int32 → Prop)   (X : Int32 → Int32 → Prop) (v2 : Int32) (v3 : Int32) : Prop :=
  (v3 < 16 → (0 ≤ 32 + v3 ∧ 32 + v3 < 3464) ∧ ((Q 23 0 (ix (32 + v3)) = 1 → (0 ≤ 48 + v3 ∧ 48 + v3 < 3464) ∧ ((Q 23 0 (ix (48 + v3)) = x1 → X (v2 + 1) (v3 + 1)) ∧ (¬ Q 23 0 (ix (48 + v3)) = x1 → X (v2 + 0) (v3 + 1)))) ∧ (¬ Q 23 0 (ix (32 + v3)) = 1 → X (v2 + 0) (v3 + 1)))) ∧ (¬ v3 < 16 → post v2)
set_option maxRecDepth 4000 in
theorem s_X8_segmentsIn_l4 {l : Launch} {g : vG} {x1 : Int32} {P Q : VP} {post : Int32 → Prop}    {v2 : Int32} {v3 : Int32}   (h : vL2 (F_X8_segmentsIn_l4 x1 Q post  ) v2 v3) : VM l g RX8 cX8_segmentsIn 4 (some .int) 0 (vpI (vjn P Q) post) 4 [(0, vR 22 0), (1, vI x1), (2, vI v2), (3, vI v3)] [] (vjn P Q) := by
  refine vL2_s (T := fun v2 v3 => VM l g RX8 cX8_segmentsIn 4 (some .int) 0 (vpI (vjn P Q) post) 4 [(0, vR 22 0), (1, vI x1), (2, vI v2), (3, vI v3)] [] (vjn P Q)) ?_ h
  clear h
  intro X hX v2 v3 h
  unfold F_X8_segmentsIn_l4 at h
  refine vr_iload_n 3 3 dX8_segmentsIn_4 rfl rfl ?_
  refine vr_bipush 16 dX8_segmentsIn_5 (by decide) ?_
  refine vr_icmpge 50 dX8_segmentsIn_7 (by decide) (fun c7 => ?_) (fun c7 => ?_)
  · have h := h.1 c7
    refine vr_iload_n 2 2 dX8_segmentsIn_10 rfl rfl ?_
    refine vr_aload_n 0 0 dX8_segmentsIn_11 rfl rfl ?_
    refine vg_22_0 RX8 rfl (by decide) fl_8_9 dX8_segmentsIn_12 ?_
    refine vr_bipush 32 dX8_segmentsIn_15 (by decide) ?_
    refine vr_iload_n 3 3 dX8_segmentsIn_17 rfl rfl ?_
    refine vr_iadd dX8_segmentsIn_18 ?_
    have hi := h.1
    have h := h.2
    refine vr_ialdQ 3464 ia_23 rfl hi dX8_segmentsIn_19 ?_
    refine vr_iconst 1 dX8_segmentsIn_20 (by decide) ?_
    refine vr_icmpne 41 dX8_segmentsIn_21 (by decide) (fun c21 => ?_) (fun c21 => ?_)
    · have h := h.1 c21
      refine vr_aload_n 0 0 dX8_segmentsIn_24 rfl rfl ?_
      refine vg_22_0 RX8 rfl (by decide) fl_8_9 dX8_segmentsIn_25 ?_
      refine vr_bipush 48 dX8_segmentsIn_28 (by decide) ?_
      refine vr_iload_n 3 3 dX8_segmentsIn_30 rfl rfl ?_
      refine vr_iadd dX8_segmentsIn_31 ?_
      have hi := h.1
      have h := h.2
      refine vr_ialdQ 3464 ia_23 rfl hi dX8_segmentsIn_32 ?_
      refine vr_iload_n 1 1 dX8_segmentsIn_33 rfl rfl ?_
      refine vr_icmpne 41 dX8_segmentsIn_34 (by decide) (fun c34 => ?_) (fun c34 => ?_)
      · have h := h.1 c34
        refine vr_iconst 1 dX8_segmentsIn_37 (by decide) ?_
        refine vr_goto 42 dX8_segmentsIn_38 (by decide) ?_
        refine vr_iadd dX8_segmentsIn_42 ?_
        refine vr_istore_n 2 [(2, vI (v2 + 1)), (0, vR 22 0), (1, vI x1), (3, vI v3)] dX8_segmentsIn_43 rfl (by decide) rfl ?_
        refine vr_iinc (v3 + 1) 3 [(3, vI (v3 + 1)), (2, vI (v2 + 1)), (0, vR 22 0), (1, vI x1)] dX8_segmentsIn_44 rfl rfl (by decide) rfl ?_
        refine vr_goto 4 dX8_segmentsIn_47 (by decide) ?_
        refine vr_sub [2, 3, 1, 0] [(0, vR 22 0), (1, vI x1), (2, vI (v2 + 1)), (3, vI (v3 + 1))] rfl ?_
        exact hX _ _ h
      · have h := h.2 c34
        refine vr_iconst 0 dX8_segmentsIn_41 (by decide) ?_
        refine vr_iadd dX8_segmentsIn_42 ?_
        refine vr_istore_n 2 [(2, vI (v2 + 0)), (0, vR 22 0), (1, vI x1), (3, vI v3)] dX8_segmentsIn_43 rfl (by decide) rfl ?_
        refine vr_iinc (v3 + 1) 3 [(3, vI (v3 + 1)), (2, vI (v2 + 0)), (0, vR 22 0), (1, vI x1)] dX8_segmentsIn_44 rfl rfl (by decide) rfl ?_
        refine vr_goto 4 dX8_segmentsIn_47 (by decide) ?_
        refine vr_sub [2, 3, 1, 0] [(0, vR 22 0), (1, vI x1), (2, vI (v2 + 0)), (3, vI (v3 + 1))] rfl ?_
        exact hX _ _ h
    · have h := h.2 c21
      refine vr_iconst 0 dX8_segmentsIn_41 (by decide) ?_
      refine vr_iadd dX8_segmentsIn_42 ?_
      refine vr_istore_n 2 [(2, vI (v2 + 0)), (0, vR 22 0), (1, vI x1), (3, vI v3)] dX8_segmentsIn_43 rfl (by decide) rfl ?_
      refine vr_iinc (v3 + 1) 3 [(3, vI (v3 + 1)), (2, vI (v2 + 0)), (0, vR 22 0), (1, vI x1)] dX8_segmentsIn_44 rfl rfl (by decide) rfl ?_
      refine vr_goto 4 dX8_segmentsIn_47 (by decide) ?_
      refine vr_sub [2, 3, 1, 0] [(0, vR 22 0), (1, vI x1), (2, vI (v2 + 0)), (3, vI (v3 + 1))] rfl ?_
      exact hX _ _ h
  · have h := h.2 c7
    refine vr_iload_n 2 2 dX8_segmentsIn_50 rfl rfl ?_
    exact vr_iret rfl ⟨rfl, _, rfl, h⟩ dX8_segmentsIn_51
def F_X8_segmentsIn (x1 : Int32) (Q : VP) (post : Int32 → Prop) : Prop :=
  vL2 (F_X8_segmentsIn_l4 x1 Q post  ) ((0 : Int32)) ((0 : Int32))
set_option maxRecDepth 4000 in
theorem s_X8_segmentsIn {l : Launch} {g : vG} {x1 : Int32} {P Q : VP} {post : Int32 → Prop}  (h : F_X8_segmentsIn x1 Q post) : VC l g yX8_segmentsIn cX8_segmentsIn 4 (some .int) 0 [vR 22 0, vI x1] (vjn P Q) (vpI (vjn P Q) post) := by
  refine VC.of (by decide +kernel) (Nat.le_of_ble_eq_true rfl) (show VM l g RX8 cX8_segmentsIn 4 (some .int) 0 (vpI (vjn P Q) post) 0 [(0, vR 22 0), (1, vI x1)] [] (vjn P Q) from ?_)
  unfold F_X8_segmentsIn at h
  refine vr_iconst 0 dX8_segmentsIn_0 (by decide) ?_
  refine vr_istore_n 2 [(2, vI 0), (0, vR 22 0), (1, vI x1)] dX8_segmentsIn_1 rfl (by decide) rfl ?_
  refine vr_iconst 0 dX8_segmentsIn_2 (by decide) ?_
  refine vr_istore_n 3 [(3, vI 0), (2, vI 0), (0, vR 22 0), (1, vI x1)] dX8_segmentsIn_3 rfl (by decide) rfl ?_
  refine vr_sub [2, 3, 1, 0] [(0, vR 22 0), (1, vI x1), (2, vI 0), (3, vI 0)] rfl ?_
  exact s_X8_segmentsIn_l4   h
theorem dX8_cell_0 : decode cX8_cell 0 = .ok (.aload_n 0, 1) := by decide +kernel
theorem dX8_cell_1 : decode cX8_cell 1 = .ok (.iload_n 1, 1) := by decide +kernel
theorem dX8_cell_2 : decode cX8_cell 2 = .ok (.invokevirtual 75, 3) := by decide +kernel
theorem dX8_cell_5 : decode cX8_cell 5 = .ok (.ifCond .ne 5, 3) := by decide +kernel
theorem dX8_cell_8 : decode cX8_cell 8 = .ok (.iconst (-1), 1) := by decide +kernel
theorem dX8_cell_9 : decode cX8_cell 9 = .ok (.ireturn, 1) := by decide +kernel
theorem dX8_cell_10 : decode cX8_cell 10 = .ok (.iload_n 2, 1) := by decide +kernel
theorem dX8_cell_11 : decode cX8_cell 11 = .ok (.tableswitch 93 0 4 #[33, 52, 62, 78, 87], 33) := by decide +kernel
theorem dX8_cell_44 : decode cX8_cell 44 = .ok (.iload_n 1, 1) := by decide +kernel
theorem dX8_cell_45 : decode cX8_cell 45 = .ok (.ifCond .ne 8, 3) := by decide +kernel
theorem dX8_cell_48 : decode cX8_cell 48 = .ok (.bipush (-2), 2) := by decide +kernel
theorem dX8_cell_50 : decode cX8_cell 50 = .ok (.goto 12, 3) := by decide +kernel
theorem dX8_cell_53 : decode cX8_cell 53 = .ok (.aload_n 0, 1) := by decide +kernel
theorem dX8_cell_54 : decode cX8_cell 54 = .ok (.getfield 9, 3) := by decide +kernel
theorem dX8_cell_57 : decode cX8_cell 57 = .ok (.bipush 16, 2) := by decide +kernel
theorem dX8_cell_59 : decode cX8_cell 59 = .ok (.iload_n 1, 1) := by decide +kernel
theorem dX8_cell_60 : decode cX8_cell 60 = .ok (.iadd, 1) := by decide +kernel
theorem dX8_cell_61 : decode cX8_cell 61 = .ok (.iaload, 1) := by decide +kernel
theorem dX8_cell_62 : decode cX8_cell 62 = .ok (.ireturn, 1) := by decide +kernel
theorem dX8_cell_63 : decode cX8_cell 63 = .ok (.aload_n 0, 1) := by decide +kernel
theorem dX8_cell_64 : decode cX8_cell 64 = .ok (.getfield 9, 3) := by decide +kernel
theorem dX8_cell_67 : decode cX8_cell 67 = .ok (.bipush 24, 2) := by decide +kernel
theorem dX8_cell_69 : decode cX8_cell 69 = .ok (.iload_n 1, 1) := by decide +kernel
theorem dX8_cell_70 : decode cX8_cell 70 = .ok (.iadd, 1) := by decide +kernel
theorem dX8_cell_71 : decode cX8_cell 71 = .ok (.iaload, 1) := by decide +kernel
theorem dX8_cell_72 : decode cX8_cell 72 = .ok (.ireturn, 1) := by decide +kernel
theorem dX8_cell_73 : decode cX8_cell 73 = .ok (.aload_n 0, 1) := by decide +kernel
theorem dX8_cell_74 : decode cX8_cell 74 = .ok (.getfield 9, 3) := by decide +kernel
theorem dX8_cell_77 : decode cX8_cell 77 = .ok (.aload_n 0, 1) := by decide +kernel
theorem dX8_cell_78 : decode cX8_cell 78 = .ok (.getfield 9, 3) := by decide +kernel
theorem dX8_cell_81 : decode cX8_cell 81 = .ok (.iload_n 1, 1) := by decide +kernel
theorem dX8_cell_82 : decode cX8_cell 82 = .ok (.invokestatic 64, 3) := by decide +kernel
theorem dX8_cell_85 : decode cX8_cell 85 = .ok (.invokestatic 72, 3) := by decide +kernel
theorem dX8_cell_88 : decode cX8_cell 88 = .ok (.ireturn, 1) := by decide +kernel
theorem dX8_cell_89 : decode cX8_cell 89 = .ok (.aload_n 0, 1) := by decide +kernel
theorem dX8_cell_90 : decode cX8_cell 90 = .ok (.getfield 9, 3) := by decide +kernel
theorem dX8_cell_93 : decode cX8_cell 93 = .ok (.iload_n 1, 1) := by decide +kernel
theorem dX8_cell_94 : decode cX8_cell 94 = .ok (.invokestatic 64, 3) := by decide +kernel
theorem dX8_cell_97 : decode cX8_cell 97 = .ok (.ireturn, 1) := by decide +kernel
theorem dX8_cell_98 : decode cX8_cell 98 = .ok (.aload_n 0, 1) := by decide +kernel
theorem dX8_cell_99 : decode cX8_cell 99 = .ok (.iload_n 1, 1) := by decide +kernel
theorem dX8_cell_100 : decode cX8_cell 100 = .ok (.invokevirtual 113, 3) := by decide +kernel
theorem dX8_cell_103 : decode cX8_cell 103 = .ok (.ireturn, 1) := by decide +kernel
theorem dX8_cell_104 : decode cX8_cell 104 = .ok (.iconst (-1), 1) := by decide +kernel
theorem dX8_cell_105 : decode cX8_cell 105 = .ok (.ireturn, 1) := by decide +kernel
def F_X8_cell (x1 : Int32) (x2 : Int32) (Q : VP) (post : Int32 → Prop) : Prop :=
  F_X8_isDirectory x1 Q (fun r2 => (r2 = 0 → post (((-1) : Int32))) ∧ (¬ r2 = 0 → (x2 = 0 → (x1 = 0 → post (((-2) : Int32))) ∧ (¬ x1 = 0 → (0 ≤ 16 + x1 ∧ 16 + x1 < 3464) ∧ (post (Q 23 0 (ix (16 + x1)))))) ∧ (¬ x2 = 0 → (x2 = 1 → (0 ≤ 24 + x1 ∧ 24 + x1 < 3464) ∧ (post (Q 23 0 (ix (24 + x1))))) ∧ (¬ x2 = 1 → (x2 = 2 → F_X8_cellOf 23 x1 Q (fun r82 => F_X8_used 23 r82 Q (fun r85 => post r85))) ∧ (¬ x2 = 2 → (x2 = 3 → F_X8_cellOf 23 x1 Q (fun r94 => post r94)) ∧ (¬ x2 = 3 → (x2 = 4 → F_X8_segmentsIn x1 Q (fun r100 => post r100)) ∧ (¬ x2 = 4 → post (((-1) : Int32)))))))))
set_option maxRecDepth 4000 in
theorem s_X8_cell {l : Launch} {g : vG} {x1 : Int32} {x2 : Int32} {P Q : VP} {post : Int32 → Prop}  (h : F_X8_cell x1 x2 Q post) : VC l g yX8_cell cX8_cell 3 (some .int) 2 [vR 22 0, vI x1, vI x2] (vjn P Q) (vpI (vjn P Q) post) := by
  refine VC.of (by decide +kernel) (Nat.le_of_ble_eq_true rfl) (show VM l g RX8 cX8_cell 3 (some .int) 2 (vpI (vjn P Q) post) 0 [(0, vR 22 0), (1, vI x1), (2, vI x2)] [] (vjn P Q) from ?_)
  unfold F_X8_cell at h
  refine vr_aload_n 0 0 dX8_cell_0 rfl rfl ?_
  refine vr_iload_n 1 1 dX8_cell_1 rfl rfl ?_
  refine vr_callV RX8 (s_X8_isDirectory h) rfl (by decide) rfl rfl rfl ml_8_75 rfl yh_X8_isDirectory rfl ⟨Nat.le_of_ble_eq_true rfl, Nat.le_of_ble_eq_true rfl⟩ (Nat.le_of_ble_eq_true rfl) ⟨Nat.zero_le _, Nat.zero_le _⟩ dX8_cell_2 (ki fun r2 h => ?_)
  refine vr_ifne 10 dX8_cell_5 (by decide) (fun c5 => ?_) (fun c5 => ?_)
  · have h := h.1 c5
    refine vr_iconst (-1) dX8_cell_8 (by decide) ?_
    exact vr_iret rfl ⟨rfl, _, rfl, h⟩ dX8_cell_9
  · have h := h.2 c5
    refine vr_iload_n 2 2 dX8_cell_10 rfl rfl ?_
    by_cases c11_0 : x2 = 0
    · have h := h.1 c11_0
      refine vr_tswIn 0 44 dX8_cell_11 c11_0 (by decide) rfl (by decide) ?_
      refine vr_iload_n 1 1 dX8_cell_44 rfl rfl ?_
      refine vr_ifne 53 dX8_cell_45 (by decide) (fun c45 => ?_) (fun c45 => ?_)
      · have h := h.1 c45
        refine vr_bipush (-2) dX8_cell_48 (by decide) ?_
        refine vr_goto 62 dX8_cell_50 (by decide) ?_
        exact vr_iret rfl ⟨rfl, _, rfl, h⟩ dX8_cell_62
      · have h := h.2 c45
        refine vr_aload_n 0 0 dX8_cell_53 rfl rfl ?_
        refine vg_22_0 RX8 rfl (by decide) fl_8_9 dX8_cell_54 ?_
        refine vr_bipush 16 dX8_cell_57 (by decide) ?_
        refine vr_iload_n 1 1 dX8_cell_59 rfl rfl ?_
        refine vr_iadd dX8_cell_60 ?_
        have hi := h.1
        have h := h.2
        refine vr_ialdQ 3464 ia_23 rfl hi dX8_cell_61 ?_
        exact vr_iret rfl ⟨rfl, _, rfl, h⟩ dX8_cell_62
    · have h := h.2 c11_0
      by_cases c11_1 : x2 = 1
      · have h := h.1 c11_1
        refine vr_tswIn 1 63 dX8_cell_11 c11_1 (by decide) rfl (by decide) ?_
        refine vr_aload_n 0 0 dX8_cell_63 rfl rfl ?_
        refine vg_22_0 RX8 rfl (by decide) fl_8_9 dX8_cell_64 ?_
        refine vr_bipush 24 dX8_cell_67 (by decide) ?_
        refine vr_iload_n 1 1 dX8_cell_69 rfl rfl ?_
        refine vr_iadd dX8_cell_70 ?_
        have hi := h.1
        have h := h.2
        refine vr_ialdQ 3464 ia_23 rfl hi dX8_cell_71 ?_
        exact vr_iret rfl ⟨rfl, _, rfl, h⟩ dX8_cell_72
      · have h := h.2 c11_1
        by_cases c11_2 : x2 = 2
        · have h := h.1 c11_2
          refine vr_tswIn 2 73 dX8_cell_11 c11_2 (by decide) rfl (by decide) ?_
          refine vr_aload_n 0 0 dX8_cell_73 rfl rfl ?_
          refine vg_22_0 RX8 rfl (by decide) fl_8_9 dX8_cell_74 ?_
          refine vr_aload_n 0 0 dX8_cell_77 rfl rfl ?_
          refine vg_22_0 RX8 rfl (by decide) fl_8_9 dX8_cell_78 ?_
          refine vr_iload_n 1 1 dX8_cell_81 rfl rfl ?_
          refine vr_callS RX8 (s_X8_cellOf ia_23 h) rfl rfl ml_8_64 rfl yh_X8_cellOf rfl ⟨Nat.le_of_ble_eq_true rfl, Nat.le_of_ble_eq_true rfl⟩ (Nat.le_of_ble_eq_true rfl) ⟨Nat.zero_le _, Nat.zero_le _⟩ dX8_cell_82 (ki fun r82 h => ?_)
          refine vr_callS RX8 (s_X8_used ia_23 h) rfl rfl ml_8_72 rfl yh_X8_used rfl ⟨Nat.le_of_ble_eq_true rfl, Nat.le_of_ble_eq_true rfl⟩ (Nat.le_of_ble_eq_true rfl) ⟨Nat.zero_le _, Nat.zero_le _⟩ dX8_cell_85 (ki fun r85 h => ?_)
          exact vr_iret rfl ⟨rfl, _, rfl, h⟩ dX8_cell_88
        · have h := h.2 c11_2
          by_cases c11_3 : x2 = 3
          · have h := h.1 c11_3
            refine vr_tswIn 3 89 dX8_cell_11 c11_3 (by decide) rfl (by decide) ?_
            refine vr_aload_n 0 0 dX8_cell_89 rfl rfl ?_
            refine vg_22_0 RX8 rfl (by decide) fl_8_9 dX8_cell_90 ?_
            refine vr_iload_n 1 1 dX8_cell_93 rfl rfl ?_
            refine vr_callS RX8 (s_X8_cellOf ia_23 h) rfl rfl ml_8_64 rfl yh_X8_cellOf rfl ⟨Nat.le_of_ble_eq_true rfl, Nat.le_of_ble_eq_true rfl⟩ (Nat.le_of_ble_eq_true rfl) ⟨Nat.zero_le _, Nat.zero_le _⟩ dX8_cell_94 (ki fun r94 h => ?_)
            exact vr_iret rfl ⟨rfl, _, rfl, h⟩ dX8_cell_97
          · have h := h.2 c11_3
            by_cases c11_4 : x2 = 4
            · have h := h.1 c11_4
              refine vr_tswIn 4 98 dX8_cell_11 c11_4 (by decide) rfl (by decide) ?_
              refine vr_aload_n 0 0 dX8_cell_98 rfl rfl ?_
              refine vr_iload_n 1 1 dX8_cell_99 rfl rfl ?_
              refine vr_callV RX8 (s_X8_segmentsIn h) rfl (by decide) rfl rfl rfl ml_8_113 rfl yh_X8_segmentsIn rfl ⟨Nat.le_of_ble_eq_true rfl, Nat.le_of_ble_eq_true rfl⟩ (Nat.le_of_ble_eq_true rfl) ⟨Nat.zero_le _, Nat.zero_le _⟩ dX8_cell_100 (ki fun r100 h => ?_)
              exact vr_iret rfl ⟨rfl, _, rfl, h⟩ dX8_cell_103
            · have h := h.2 c11_4
              refine vr_tswOut 104 dX8_cell_11 (by have q0 := lv_neT c11_0 (a := 0) (by decide); have q1 := lv_neT c11_1 (a := 1) (by decide); have q2 := lv_neT c11_2 (a := 2) (by decide); have q3 := lv_neT c11_3 (a := 3) (by decide); have q4 := lv_neT c11_4 (a := 4) (by decide); omega) (by decide) ?_
              refine vr_iconst (-1) dX8_cell_104 (by decide) ?_
              exact vr_iret rfl ⟨rfl, _, rfl, h⟩ dX8_cell_105
theorem dX8_of_0 : decode cX8_of 0 = .ok (.aload_n 0, 1) := by decide +kernel
theorem dX8_of_1 : decode cX8_of 1 = .ok (.iload_n 1, 1) := by decide +kernel
theorem dX8_of_2 : decode cX8_of 2 = .ok (.invokevirtual 95, 3) := by decide +kernel
theorem dX8_of_5 : decode cX8_of 5 = .ok (.ifCond .ne 5, 3) := by decide +kernel
theorem dX8_of_8 : decode cX8_of 8 = .ok (.iconst (-1), 1) := by decide +kernel
theorem dX8_of_9 : decode cX8_of 9 = .ok (.ireturn, 1) := by decide +kernel
theorem dX8_of_10 : decode cX8_of 10 = .ok (.iload_n 2, 1) := by decide +kernel
theorem dX8_of_11 : decode cX8_of 11 = .ok (.tableswitch 160 0 9 #[53, 63, 73, 83, 93, 104, 115, 126, 137, 147], 53) := by decide +kernel
theorem dX8_of_64 : decode cX8_of 64 = .ok (.aload_n 0, 1) := by decide +kernel
theorem dX8_of_65 : decode cX8_of 65 = .ok (.getfield 9, 3) := by decide +kernel
theorem dX8_of_68 : decode cX8_of 68 = .ok (.bipush 48, 2) := by decide +kernel
theorem dX8_of_70 : decode cX8_of 70 = .ok (.iload_n 1, 1) := by decide +kernel
theorem dX8_of_71 : decode cX8_of 71 = .ok (.iadd, 1) := by decide +kernel
theorem dX8_of_72 : decode cX8_of 72 = .ok (.iaload, 1) := by decide +kernel
theorem dX8_of_73 : decode cX8_of 73 = .ok (.ireturn, 1) := by decide +kernel
theorem dX8_of_74 : decode cX8_of 74 = .ok (.aload_n 0, 1) := by decide +kernel
theorem dX8_of_75 : decode cX8_of 75 = .ok (.getfield 9, 3) := by decide +kernel
theorem dX8_of_78 : decode cX8_of 78 = .ok (.bipush 64, 2) := by decide +kernel
theorem dX8_of_80 : decode cX8_of 80 = .ok (.iload_n 1, 1) := by decide +kernel
theorem dX8_of_81 : decode cX8_of 81 = .ok (.iadd, 1) := by decide +kernel
theorem dX8_of_82 : decode cX8_of 82 = .ok (.iaload, 1) := by decide +kernel
theorem dX8_of_83 : decode cX8_of 83 = .ok (.ireturn, 1) := by decide +kernel
theorem dX8_of_84 : decode cX8_of 84 = .ok (.aload_n 0, 1) := by decide +kernel
theorem dX8_of_85 : decode cX8_of 85 = .ok (.getfield 9, 3) := by decide +kernel
theorem dX8_of_88 : decode cX8_of 88 = .ok (.bipush 96, 2) := by decide +kernel
theorem dX8_of_90 : decode cX8_of 90 = .ok (.iload_n 1, 1) := by decide +kernel
theorem dX8_of_91 : decode cX8_of 91 = .ok (.iadd, 1) := by decide +kernel
theorem dX8_of_92 : decode cX8_of 92 = .ok (.iaload, 1) := by decide +kernel
theorem dX8_of_93 : decode cX8_of 93 = .ok (.ireturn, 1) := by decide +kernel
theorem dX8_of_94 : decode cX8_of 94 = .ok (.aload_n 0, 1) := by decide +kernel
theorem dX8_of_95 : decode cX8_of 95 = .ok (.getfield 9, 3) := by decide +kernel
theorem dX8_of_98 : decode cX8_of 98 = .ok (.bipush 112, 2) := by decide +kernel
theorem dX8_of_100 : decode cX8_of 100 = .ok (.iload_n 1, 1) := by decide +kernel
theorem dX8_of_101 : decode cX8_of 101 = .ok (.iadd, 1) := by decide +kernel
theorem dX8_of_102 : decode cX8_of 102 = .ok (.iaload, 1) := by decide +kernel
theorem dX8_of_103 : decode cX8_of 103 = .ok (.ireturn, 1) := by decide +kernel
theorem dX8_of_104 : decode cX8_of 104 = .ok (.aload_n 0, 1) := by decide +kernel
theorem dX8_of_105 : decode cX8_of 105 = .ok (.getfield 9, 3) := by decide +kernel
theorem dX8_of_108 : decode cX8_of 108 = .ok (.sipush 128, 3) := by decide +kernel
theorem dX8_of_111 : decode cX8_of 111 = .ok (.iload_n 1, 1) := by decide +kernel
theorem dX8_of_112 : decode cX8_of 112 = .ok (.iadd, 1) := by decide +kernel
theorem dX8_of_113 : decode cX8_of 113 = .ok (.iaload, 1) := by decide +kernel
theorem dX8_of_114 : decode cX8_of 114 = .ok (.ireturn, 1) := by decide +kernel
theorem dX8_of_115 : decode cX8_of 115 = .ok (.aload_n 0, 1) := by decide +kernel
theorem dX8_of_116 : decode cX8_of 116 = .ok (.getfield 9, 3) := by decide +kernel
theorem dX8_of_119 : decode cX8_of 119 = .ok (.sipush 144, 3) := by decide +kernel
theorem dX8_of_122 : decode cX8_of 122 = .ok (.iload_n 1, 1) := by decide +kernel
theorem dX8_of_123 : decode cX8_of 123 = .ok (.iadd, 1) := by decide +kernel
theorem dX8_of_124 : decode cX8_of 124 = .ok (.iaload, 1) := by decide +kernel
theorem dX8_of_125 : decode cX8_of 125 = .ok (.ireturn, 1) := by decide +kernel
theorem dX8_of_126 : decode cX8_of 126 = .ok (.aload_n 0, 1) := by decide +kernel
theorem dX8_of_127 : decode cX8_of 127 = .ok (.getfield 9, 3) := by decide +kernel
theorem dX8_of_130 : decode cX8_of 130 = .ok (.sipush 160, 3) := by decide +kernel
theorem dX8_of_133 : decode cX8_of 133 = .ok (.iload_n 1, 1) := by decide +kernel
theorem dX8_of_134 : decode cX8_of 134 = .ok (.iadd, 1) := by decide +kernel
theorem dX8_of_135 : decode cX8_of 135 = .ok (.iaload, 1) := by decide +kernel
theorem dX8_of_136 : decode cX8_of 136 = .ok (.ireturn, 1) := by decide +kernel
theorem dX8_of_137 : decode cX8_of 137 = .ok (.aload_n 0, 1) := by decide +kernel
theorem dX8_of_138 : decode cX8_of 138 = .ok (.getfield 9, 3) := by decide +kernel
theorem dX8_of_141 : decode cX8_of 141 = .ok (.sipush 176, 3) := by decide +kernel
theorem dX8_of_144 : decode cX8_of 144 = .ok (.iload_n 1, 1) := by decide +kernel
theorem dX8_of_145 : decode cX8_of 145 = .ok (.iadd, 1) := by decide +kernel
theorem dX8_of_146 : decode cX8_of 146 = .ok (.iaload, 1) := by decide +kernel
theorem dX8_of_147 : decode cX8_of 147 = .ok (.ireturn, 1) := by decide +kernel
theorem dX8_of_148 : decode cX8_of 148 = .ok (.aload_n 0, 1) := by decide +kernel
theorem dX8_of_149 : decode cX8_of 149 = .ok (.getfield 9, 3) := by decide +kernel
theorem dX8_of_152 : decode cX8_of 152 = .ok (.bipush 80, 2) := by decide +kernel
theorem dX8_of_154 : decode cX8_of 154 = .ok (.iload_n 1, 1) := by decide +kernel
theorem dX8_of_155 : decode cX8_of 155 = .ok (.iadd, 1) := by decide +kernel
theorem dX8_of_156 : decode cX8_of 156 = .ok (.iaload, 1) := by decide +kernel
theorem dX8_of_157 : decode cX8_of 157 = .ok (.ireturn, 1) := by decide +kernel
theorem dX8_of_158 : decode cX8_of 158 = .ok (.aload_n 0, 1) := by decide +kernel
theorem dX8_of_159 : decode cX8_of 159 = .ok (.getfield 9, 3) := by decide +kernel
theorem dX8_of_162 : decode cX8_of 162 = .ok (.bipush 96, 2) := by decide +kernel
theorem dX8_of_164 : decode cX8_of 164 = .ok (.iload_n 1, 1) := by decide +kernel
theorem dX8_of_165 : decode cX8_of 165 = .ok (.iadd, 1) := by decide +kernel
theorem dX8_of_166 : decode cX8_of 166 = .ok (.iaload, 1) := by decide +kernel
theorem dX8_of_167 : decode cX8_of 167 = .ok (.invokestatic 68, 3) := by decide +kernel
theorem dX8_of_170 : decode cX8_of 170 = .ok (.ireturn, 1) := by decide +kernel
theorem dX8_of_171 : decode cX8_of 171 = .ok (.iconst (-1), 1) := by decide +kernel
theorem dX8_of_172 : decode cX8_of 172 = .ok (.ireturn, 1) := by decide +kernel
def F_X8_of (x1 : Int32) (x2 : Int32) (Q : VP) (post : Int32 → Prop) : Prop :=
  F_X8_isSegment x1 Q (fun r2 => (r2 = 0 → post (((-1) : Int32))) ∧ (¬ r2 = 0 → (x2 = 0 → (0 ≤ 48 + x1 ∧ 48 + x1 < 3464) ∧ (post (Q 23 0 (ix (48 + x1))))) ∧ (¬ x2 = 0 → (x2 = 1 → (0 ≤ 64 + x1 ∧ 64 + x1 < 3464) ∧ (post (Q 23 0 (ix (64 + x1))))) ∧ (¬ x2 = 1 → (x2 = 2 → (0 ≤ 96 + x1 ∧ 96 + x1 < 3464) ∧ (post (Q 23 0 (ix (96 + x1))))) ∧ (¬ x2 = 2 → (x2 = 3 → (0 ≤ 112 + x1 ∧ 112 + x1 < 3464) ∧ (post (Q 23 0 (ix (112 + x1))))) ∧ (¬ x2 = 3 → (x2 = 4 → (0 ≤ 128 + x1 ∧ 128 + x1 < 3464) ∧ (post (Q 23 0 (ix (128 + x1))))) ∧ (¬ x2 = 4 → (x2 = 5 → (0 ≤ 144 + x1 ∧ 144 + x1 < 3464) ∧ (post (Q 23 0 (ix (144 + x1))))) ∧ (¬ x2 = 5 → (x2 = 6 → (0 ≤ 160 + x1 ∧ 160 + x1 < 3464) ∧ (post (Q 23 0 (ix (160 + x1))))) ∧ (¬ x2 = 6 → (x2 = 7 → (0 ≤ 176 + x1 ∧ 176 + x1 < 3464) ∧ (post (Q 23 0 (ix (176 + x1))))) ∧ (¬ x2 = 7 → (x2 = 8 → (0 ≤ 80 + x1 ∧ 80 + x1 < 3464) ∧ (post (Q 23 0 (ix (80 + x1))))) ∧ (¬ x2 = 8 → (x2 = 9 → (0 ≤ 96 + x1 ∧ 96 + x1 < 3464) ∧ (F_X8_records (Q 23 0 (ix (96 + x1))) Q (fun r167 => post r167))) ∧ (¬ x2 = 9 → post (((-1) : Int32))))))))))))))
set_option maxRecDepth 4000 in
theorem s_X8_of {l : Launch} {g : vG} {x1 : Int32} {x2 : Int32} {P Q : VP} {post : Int32 → Prop}  (h : F_X8_of x1 x2 Q post) : VC l g yX8_of cX8_of 3 (some .int) 3 [vR 22 0, vI x1, vI x2] (vjn P Q) (vpI (vjn P Q) post) := by
  refine VC.of (by decide +kernel) (Nat.le_of_ble_eq_true rfl) (show VM l g RX8 cX8_of 3 (some .int) 3 (vpI (vjn P Q) post) 0 [(0, vR 22 0), (1, vI x1), (2, vI x2)] [] (vjn P Q) from ?_)
  unfold F_X8_of at h
  refine vr_aload_n 0 0 dX8_of_0 rfl rfl ?_
  refine vr_iload_n 1 1 dX8_of_1 rfl rfl ?_
  refine vr_callV RX8 (s_X8_isSegment h) rfl (by decide) rfl rfl rfl ml_8_95 rfl yh_X8_isSegment rfl ⟨Nat.le_of_ble_eq_true rfl, Nat.le_of_ble_eq_true rfl⟩ (Nat.le_of_ble_eq_true rfl) ⟨Nat.zero_le _, Nat.zero_le _⟩ dX8_of_2 (ki fun r2 h => ?_)
  refine vr_ifne 10 dX8_of_5 (by decide) (fun c5 => ?_) (fun c5 => ?_)
  · have h := h.1 c5
    refine vr_iconst (-1) dX8_of_8 (by decide) ?_
    exact vr_iret rfl ⟨rfl, _, rfl, h⟩ dX8_of_9
  · have h := h.2 c5
    refine vr_iload_n 2 2 dX8_of_10 rfl rfl ?_
    by_cases c11_0 : x2 = 0
    · have h := h.1 c11_0
      refine vr_tswIn 0 64 dX8_of_11 c11_0 (by decide) rfl (by decide) ?_
      refine vr_aload_n 0 0 dX8_of_64 rfl rfl ?_
      refine vg_22_0 RX8 rfl (by decide) fl_8_9 dX8_of_65 ?_
      refine vr_bipush 48 dX8_of_68 (by decide) ?_
      refine vr_iload_n 1 1 dX8_of_70 rfl rfl ?_
      refine vr_iadd dX8_of_71 ?_
      have hi := h.1
      have h := h.2
      refine vr_ialdQ 3464 ia_23 rfl hi dX8_of_72 ?_
      exact vr_iret rfl ⟨rfl, _, rfl, h⟩ dX8_of_73
    · have h := h.2 c11_0
      by_cases c11_1 : x2 = 1
      · have h := h.1 c11_1
        refine vr_tswIn 1 74 dX8_of_11 c11_1 (by decide) rfl (by decide) ?_
        refine vr_aload_n 0 0 dX8_of_74 rfl rfl ?_
        refine vg_22_0 RX8 rfl (by decide) fl_8_9 dX8_of_75 ?_
        refine vr_bipush 64 dX8_of_78 (by decide) ?_
        refine vr_iload_n 1 1 dX8_of_80 rfl rfl ?_
        refine vr_iadd dX8_of_81 ?_
        have hi := h.1
        have h := h.2
        refine vr_ialdQ 3464 ia_23 rfl hi dX8_of_82 ?_
        exact vr_iret rfl ⟨rfl, _, rfl, h⟩ dX8_of_83
      · have h := h.2 c11_1
        by_cases c11_2 : x2 = 2
        · have h := h.1 c11_2
          refine vr_tswIn 2 84 dX8_of_11 c11_2 (by decide) rfl (by decide) ?_
          refine vr_aload_n 0 0 dX8_of_84 rfl rfl ?_
          refine vg_22_0 RX8 rfl (by decide) fl_8_9 dX8_of_85 ?_
          refine vr_bipush 96 dX8_of_88 (by decide) ?_
          refine vr_iload_n 1 1 dX8_of_90 rfl rfl ?_
          refine vr_iadd dX8_of_91 ?_
          have hi := h.1
          have h := h.2
          refine vr_ialdQ 3464 ia_23 rfl hi dX8_of_92 ?_
          exact vr_iret rfl ⟨rfl, _, rfl, h⟩ dX8_of_93
        · have h := h.2 c11_2
          by_cases c11_3 : x2 = 3
          · have h := h.1 c11_3
            refine vr_tswIn 3 94 dX8_of_11 c11_3 (by decide) rfl (by decide) ?_
            refine vr_aload_n 0 0 dX8_of_94 rfl rfl ?_
            refine vg_22_0 RX8 rfl (by decide) fl_8_9 dX8_of_95 ?_
            refine vr_bipush 112 dX8_of_98 (by decide) ?_
            refine vr_iload_n 1 1 dX8_of_100 rfl rfl ?_
            refine vr_iadd dX8_of_101 ?_
            have hi := h.1
            have h := h.2
            refine vr_ialdQ 3464 ia_23 rfl hi dX8_of_102 ?_
            exact vr_iret rfl ⟨rfl, _, rfl, h⟩ dX8_of_103
          · have h := h.2 c11_3
            by_cases c11_4 : x2 = 4
            · have h := h.1 c11_4
              refine vr_tswIn 4 104 dX8_of_11 c11_4 (by decide) rfl (by decide) ?_
              refine vr_aload_n 0 0 dX8_of_104 rfl rfl ?_
              refine vg_22_0 RX8 rfl (by decide) fl_8_9 dX8_of_105 ?_
              refine vr_sipush 128 dX8_of_108 (by decide) ?_
              refine vr_iload_n 1 1 dX8_of_111 rfl rfl ?_
              refine vr_iadd dX8_of_112 ?_
              have hi := h.1
              have h := h.2
              refine vr_ialdQ 3464 ia_23 rfl hi dX8_of_113 ?_
              exact vr_iret rfl ⟨rfl, _, rfl, h⟩ dX8_of_114
            · have h := h.2 c11_4
              by_cases c11_5 : x2 = 5
              · have h := h.1 c11_5
                refine vr_tswIn 5 115 dX8_of_11 c11_5 (by decide) rfl (by decide) ?_
                refine vr_aload_n 0 0 dX8_of_115 rfl rfl ?_
                refine vg_22_0 RX8 rfl (by decide) fl_8_9 dX8_of_116 ?_
                refine vr_sipush 144 dX8_of_119 (by decide) ?_
                refine vr_iload_n 1 1 dX8_of_122 rfl rfl ?_
                refine vr_iadd dX8_of_123 ?_
                have hi := h.1
                have h := h.2
                refine vr_ialdQ 3464 ia_23 rfl hi dX8_of_124 ?_
                exact vr_iret rfl ⟨rfl, _, rfl, h⟩ dX8_of_125
              · have h := h.2 c11_5
                by_cases c11_6 : x2 = 6
                · have h := h.1 c11_6
                  refine vr_tswIn 6 126 dX8_of_11 c11_6 (by decide) rfl (by decide) ?_
                  refine vr_aload_n 0 0 dX8_of_126 rfl rfl ?_
                  refine vg_22_0 RX8 rfl (by decide) fl_8_9 dX8_of_127 ?_
                  refine vr_sipush 160 dX8_of_130 (by decide) ?_
                  refine vr_iload_n 1 1 dX8_of_133 rfl rfl ?_
                  refine vr_iadd dX8_of_134 ?_
                  have hi := h.1
                  have h := h.2
                  refine vr_ialdQ 3464 ia_23 rfl hi dX8_of_135 ?_
                  exact vr_iret rfl ⟨rfl, _, rfl, h⟩ dX8_of_136
                · have h := h.2 c11_6
                  by_cases c11_7 : x2 = 7
                  · have h := h.1 c11_7
                    refine vr_tswIn 7 137 dX8_of_11 c11_7 (by decide) rfl (by decide) ?_
                    refine vr_aload_n 0 0 dX8_of_137 rfl rfl ?_
                    refine vg_22_0 RX8 rfl (by decide) fl_8_9 dX8_of_138 ?_
                    refine vr_sipush 176 dX8_of_141 (by decide) ?_
                    refine vr_iload_n 1 1 dX8_of_144 rfl rfl ?_
                    refine vr_iadd dX8_of_145 ?_
                    have hi := h.1
                    have h := h.2
                    refine vr_ialdQ 3464 ia_23 rfl hi dX8_of_146 ?_
                    exact vr_iret rfl ⟨rfl, _, rfl, h⟩ dX8_of_147
                  · have h := h.2 c11_7
                    by_cases c11_8 : x2 = 8
                    · have h := h.1 c11_8
                      refine vr_tswIn 8 148 dX8_of_11 c11_8 (by decide) rfl (by decide) ?_
                      refine vr_aload_n 0 0 dX8_of_148 rfl rfl ?_
                      refine vg_22_0 RX8 rfl (by decide) fl_8_9 dX8_of_149 ?_
                      refine vr_bipush 80 dX8_of_152 (by decide) ?_
                      refine vr_iload_n 1 1 dX8_of_154 rfl rfl ?_
                      refine vr_iadd dX8_of_155 ?_
                      have hi := h.1
                      have h := h.2
                      refine vr_ialdQ 3464 ia_23 rfl hi dX8_of_156 ?_
                      exact vr_iret rfl ⟨rfl, _, rfl, h⟩ dX8_of_157
                    · have h := h.2 c11_8
                      by_cases c11_9 : x2 = 9
                      · have h := h.1 c11_9
                        refine vr_tswIn 9 158 dX8_of_11 c11_9 (by decide) rfl (by decide) ?_
                        refine vr_aload_n 0 0 dX8_of_158 rfl rfl ?_
                        refine vg_22_0 RX8 rfl (by decide) fl_8_9 dX8_of_159 ?_
                        refine vr_bipush 96 dX8_of_162 (by decide) ?_
                        refine vr_iload_n 1 1 dX8_of_164 rfl rfl ?_
                        refine vr_iadd dX8_of_165 ?_
                        have hi := h.1
                        have h := h.2
                        refine vr_ialdQ 3464 ia_23 rfl hi dX8_of_166 ?_
                        refine vr_callS RX8 (s_X8_records h) rfl rfl ml_8_68 rfl yh_X8_records rfl ⟨Nat.le_of_ble_eq_true rfl, Nat.le_of_ble_eq_true rfl⟩ (Nat.le_of_ble_eq_true rfl) ⟨Nat.zero_le _, Nat.zero_le _⟩ dX8_of_167 (ki fun r167 h => ?_)
                        exact vr_iret rfl ⟨rfl, _, rfl, h⟩ dX8_of_170
                      · have h := h.2 c11_9
                        refine vr_tswOut 171 dX8_of_11 (by have q0 := lv_neT c11_0 (a := 0) (by decide); have q1 := lv_neT c11_1 (a := 1) (by decide); have q2 := lv_neT c11_2 (a := 2) (by decide); have q3 := lv_neT c11_3 (a := 3) (by decide); have q4 := lv_neT c11_4 (a := 4) (by decide); have q5 := lv_neT c11_5 (a := 5) (by decide); have q6 := lv_neT c11_6 (a := 6) (by decide); have q7 := lv_neT c11_7 (a := 7) (by decide); have q8 := lv_neT c11_8 (a := 8) (by decide); have q9 := lv_neT c11_9 (a := 9) (by decide); omega) (by decide) ?_
                        refine vr_iconst (-1) dX8_of_171 (by decide) ?_
                        exact vr_iret rfl ⟨rfl, _, rfl, h⟩ dX8_of_172
theorem dX8_rule_0 : decode cX8_rule 0 = .ok (.iload_n 1, 1) := by decide +kernel
theorem dX8_rule_1 : decode cX8_rule 1 = .ok (.iconst (-1), 1) := by decide +kernel
theorem dX8_rule_2 : decode cX8_rule 2 = .ok (.if_icmp .ne 12, 3) := by decide +kernel
theorem dX8_rule_5 : decode cX8_rule 5 = .ok (.aload_n 0, 1) := by decide +kernel
theorem dX8_rule_6 : decode cX8_rule 6 = .ok (.getfield 9, 3) := by decide +kernel
theorem dX8_rule_9 : decode cX8_rule 9 = .ok (.iconst 2, 1) := by decide +kernel
theorem dX8_rule_10 : decode cX8_rule 10 = .ok (.iconst 0, 1) := by decide +kernel
theorem dX8_rule_11 : decode cX8_rule 11 = .ok (.iastore, 1) := by decide +kernel
theorem dX8_rule_12 : decode cX8_rule 12 = .ok (.iconst 0, 1) := by decide +kernel
theorem dX8_rule_13 : decode cX8_rule 13 = .ok (.ireturn, 1) := by decide +kernel
theorem dX8_rule_14 : decode cX8_rule 14 = .ok (.aload_n 0, 1) := by decide +kernel
theorem dX8_rule_15 : decode cX8_rule 15 = .ok (.iload_n 1, 1) := by decide +kernel
theorem dX8_rule_16 : decode cX8_rule 16 = .ok (.invokevirtual 75, 3) := by decide +kernel
theorem dX8_rule_19 : decode cX8_rule 19 = .ok (.ifCond .ne 5, 3) := by decide +kernel
theorem dX8_rule_22 : decode cX8_rule 22 = .ok (.iconst (-1), 1) := by decide +kernel
theorem dX8_rule_23 : decode cX8_rule 23 = .ok (.ireturn, 1) := by decide +kernel
theorem dX8_rule_24 : decode cX8_rule 24 = .ok (.aload_n 0, 1) := by decide +kernel
theorem dX8_rule_25 : decode cX8_rule 25 = .ok (.getfield 9, 3) := by decide +kernel
theorem dX8_rule_28 : decode cX8_rule 28 = .ok (.iconst 2, 1) := by decide +kernel
theorem dX8_rule_29 : decode cX8_rule 29 = .ok (.iaload, 1) := by decide +kernel
theorem dX8_rule_30 : decode cX8_rule 30 = .ok (.istore_n 2, 1) := by decide +kernel
theorem dX8_rule_31 : decode cX8_rule 31 = .ok (.iload_n 2, 1) := by decide +kernel
theorem dX8_rule_32 : decode cX8_rule 32 = .ok (.iconst 4, 1) := by decide +kernel
theorem dX8_rule_33 : decode cX8_rule 33 = .ok (.if_icmp .ne 6, 3) := by decide +kernel
theorem dX8_rule_36 : decode cX8_rule 36 = .ok (.bipush (-3), 2) := by decide +kernel
theorem dX8_rule_38 : decode cX8_rule 38 = .ok (.ireturn, 1) := by decide +kernel
theorem dX8_rule_39 : decode cX8_rule 39 = .ok (.aload_n 0, 1) := by decide +kernel
theorem dX8_rule_40 : decode cX8_rule 40 = .ok (.getfield 9, 3) := by decide +kernel
theorem dX8_rule_43 : decode cX8_rule 43 = .ok (.bipush 7, 2) := by decide +kernel
theorem dX8_rule_45 : decode cX8_rule 45 = .ok (.iload_n 2, 1) := by decide +kernel
theorem dX8_rule_46 : decode cX8_rule 46 = .ok (.iadd, 1) := by decide +kernel
theorem dX8_rule_47 : decode cX8_rule 47 = .ok (.iload_n 1, 1) := by decide +kernel
theorem dX8_rule_48 : decode cX8_rule 48 = .ok (.iastore, 1) := by decide +kernel
theorem dX8_rule_49 : decode cX8_rule 49 = .ok (.aload_n 0, 1) := by decide +kernel
theorem dX8_rule_50 : decode cX8_rule 50 = .ok (.getfield 9, 3) := by decide +kernel
theorem dX8_rule_53 : decode cX8_rule 53 = .ok (.iconst 2, 1) := by decide +kernel
theorem dX8_rule_54 : decode cX8_rule 54 = .ok (.iload_n 2, 1) := by decide +kernel
theorem dX8_rule_55 : decode cX8_rule 55 = .ok (.iconst 1, 1) := by decide +kernel
theorem dX8_rule_56 : decode cX8_rule 56 = .ok (.iadd, 1) := by decide +kernel
theorem dX8_rule_57 : decode cX8_rule 57 = .ok (.iastore, 1) := by decide +kernel
theorem dX8_rule_58 : decode cX8_rule 58 = .ok (.iload_n 2, 1) := by decide +kernel
theorem dX8_rule_59 : decode cX8_rule 59 = .ok (.iconst 1, 1) := by decide +kernel
theorem dX8_rule_60 : decode cX8_rule 60 = .ok (.iadd, 1) := by decide +kernel
theorem dX8_rule_61 : decode cX8_rule 61 = .ok (.ireturn, 1) := by decide +kernel
def F_X8_rule (x1 : Int32) (Q : VP) (post : Int32 → VP → Prop) : Prop :=
  (x1 = (-1) → (0 ≤ (2 : Int32) ∧ (2 : Int32) < 3464) ∧ (∀ Q11 : VP, Q11 = vup Q 23 0 (ix ((2 : Int32))) 0 → (post ((0 : Int32)) Q11))) ∧ (¬ x1 = (-1) → F_X8_isDirectory x1 Q (fun r16 => (r16 = 0 → post (((-1) : Int32)) Q) ∧ (¬ r16 = 0 → (0 ≤ (2 : Int32) ∧ (2 : Int32) < 3464) ∧ ((Q 23 0 (ix ((2 : Int32))) = 4 → post (((-3) : Int32)) Q) ∧ (¬ Q 23 0 (ix ((2 : Int32))) = 4 → (0 ≤ 7 + (Q 23 0 (ix ((2 : Int32)))) ∧ 7 + (Q 23 0 (ix ((2 : Int32)))) < 3464) ∧ (∀ Q48 : VP, Q48 = vup Q 23 0 (ix (7 + (Q 23 0 (ix ((2 : Int32)))))) x1 → ((0 ≤ (2 : Int32) ∧ (2 : Int32) < 3464) ∧ (∀ Q57 : VP, Q57 = vup Q48 23 0 (ix ((2 : Int32))) ((Q 23 0 (ix ((2 : Int32)))) + 1) → (post ((Q 23 0 (ix ((2 : Int32)))) + 1) Q57)))))))))
set_option maxRecDepth 4000 in
theorem s_X8_rule {l : Launch} {g : vG} {x1 : Int32} {P Q : VP} {post : Int32 → VP → Prop}  (h : F_X8_rule x1 Q post) : VC l g yX8_rule cX8_rule 3 (some .int) 2 [vR 22 0, vI x1] (vjn P Q) (vmI P post) := by
  refine VC.of (by decide +kernel) (Nat.le_of_ble_eq_true rfl) (show VM l g RX8 cX8_rule 3 (some .int) 2 (vmI P post) 0 [(0, vR 22 0), (1, vI x1)] [] (vjn P Q) from ?_)
  unfold F_X8_rule at h
  refine vr_iload_n 1 1 dX8_rule_0 rfl rfl ?_
  refine vr_iconst (-1) dX8_rule_1 (by decide) ?_
  refine vr_icmpne 14 dX8_rule_2 (by decide) (fun c2 => ?_) (fun c2 => ?_)
  · have h := h.1 c2
    refine vr_aload_n 0 0 dX8_rule_5 rfl rfl ?_
    refine vg_22_0 RX8 rfl (by decide) fl_8_9 dX8_rule_6 ?_
    refine vr_iconst 2 dX8_rule_9 (by decide) ?_
    refine vr_iconst 0 dX8_rule_10 (by decide) ?_
    have hi := h.1
    have h := h.2
    obtain ⟨Q11, eQ11⟩ : ∃ y : VP, y = vup Q 23 0 (ix ((2 : Int32))) 0 := ⟨_, rfl⟩
    have h := h Q11 eQ11
    refine vr_iastQ 3464 ia_23 rfl hi eQ11 dX8_rule_11 ?_
    refine vr_iconst 0 dX8_rule_12 (by decide) ?_
    exact vr_iret rfl ⟨_, _, rfl, rfl, h⟩ dX8_rule_13
  · have h := h.2 c2
    refine vr_aload_n 0 0 dX8_rule_14 rfl rfl ?_
    refine vr_iload_n 1 1 dX8_rule_15 rfl rfl ?_
    refine vr_callV RX8 (s_X8_isDirectory h) rfl (by decide) rfl rfl rfl ml_8_75 rfl yh_X8_isDirectory rfl ⟨Nat.le_of_ble_eq_true rfl, Nat.le_of_ble_eq_true rfl⟩ (Nat.le_of_ble_eq_true rfl) ⟨Nat.zero_le _, Nat.zero_le _⟩ dX8_rule_16 (ki fun r16 h => ?_)
    refine vr_ifne 24 dX8_rule_19 (by decide) (fun c19 => ?_) (fun c19 => ?_)
    · have h := h.1 c19
      refine vr_iconst (-1) dX8_rule_22 (by decide) ?_
      exact vr_iret rfl ⟨_, _, rfl, rfl, h⟩ dX8_rule_23
    · have h := h.2 c19
      refine vr_aload_n 0 0 dX8_rule_24 rfl rfl ?_
      refine vg_22_0 RX8 rfl (by decide) fl_8_9 dX8_rule_25 ?_
      refine vr_iconst 2 dX8_rule_28 (by decide) ?_
      have hi := h.1
      have h := h.2
      refine vr_ialdQ 3464 ia_23 rfl hi dX8_rule_29 ?_
      refine vr_istore_n 2 [(2, vI (Q 23 0 (ix ((2 : Int32))))), (0, vR 22 0), (1, vI x1)] dX8_rule_30 rfl (by decide) rfl ?_
      refine vr_iload_n 2 0 dX8_rule_31 rfl rfl ?_
      refine vr_iconst 4 dX8_rule_32 (by decide) ?_
      refine vr_icmpne 39 dX8_rule_33 (by decide) (fun c33 => ?_) (fun c33 => ?_)
      · have h := h.1 c33
        refine vr_bipush (-3) dX8_rule_36 (by decide) ?_
        exact vr_iret rfl ⟨_, _, rfl, rfl, h⟩ dX8_rule_38
      · have h := h.2 c33
        refine vr_aload_n 0 1 dX8_rule_39 rfl rfl ?_
        refine vg_22_0 RX8 rfl (by decide) fl_8_9 dX8_rule_40 ?_
        refine vr_bipush 7 dX8_rule_43 (by decide) ?_
        refine vr_iload_n 2 0 dX8_rule_45 rfl rfl ?_
        refine vr_iadd dX8_rule_46 ?_
        refine vr_iload_n 1 2 dX8_rule_47 rfl rfl ?_
        have hi := h.1
        have h := h.2
        obtain ⟨Q48, eQ48⟩ : ∃ y : VP, y = vup Q 23 0 (ix (7 + (Q 23 0 (ix ((2 : Int32)))))) x1 := ⟨_, rfl⟩
        have h := h Q48 eQ48
        refine vr_iastQ 3464 ia_23 rfl hi eQ48 dX8_rule_48 ?_
        refine vr_aload_n 0 1 dX8_rule_49 rfl rfl ?_
        refine vg_22_0 RX8 rfl (by decide) fl_8_9 dX8_rule_50 ?_
        refine vr_iconst 2 dX8_rule_53 (by decide) ?_
        refine vr_iload_n 2 0 dX8_rule_54 rfl rfl ?_
        refine vr_iconst 1 dX8_rule_55 (by decide) ?_
        refine vr_iadd dX8_rule_56 ?_
        have hi := h.1
        have h := h.2
        obtain ⟨Q57, eQ57⟩ : ∃ y : VP, y = vup Q48 23 0 (ix ((2 : Int32))) ((Q 23 0 (ix ((2 : Int32)))) + 1) := ⟨_, rfl⟩
        have h := h Q57 eQ57
        refine vr_iastQ 3464 ia_23 rfl hi eQ57 dX8_rule_57 ?_
        refine vr_iload_n 2 0 dX8_rule_58 rfl rfl ?_
        refine vr_iconst 1 dX8_rule_59 (by decide) ?_
        refine vr_iadd dX8_rule_60 ?_
        exact vr_iret rfl ⟨_, _, rfl, rfl, h⟩ dX8_rule_61
theorem dX8_found_0 : decode cX8_found 0 = .ok (.iconst (-1), 1) := by decide +kernel
theorem dX8_found_1 : decode cX8_found 1 = .ok (.istore_n 3, 1) := by decide +kernel
theorem dX8_found_2 : decode cX8_found 2 = .ok (.iload_n 3, 1) := by decide +kernel
theorem dX8_found_3 : decode cX8_found 3 = .ok (.aload_n 0, 1) := by decide +kernel
theorem dX8_found_4 : decode cX8_found 4 = .ok (.iconst 2, 1) := by decide +kernel
theorem dX8_found_5 : decode cX8_found 5 = .ok (.iaload, 1) := by decide +kernel
theorem dX8_found_6 : decode cX8_found 6 = .ok (.if_icmp .ge 83, 3) := by decide +kernel
theorem dX8_found_9 : decode cX8_found 9 = .ok (.iload_n 3, 1) := by decide +kernel
theorem dX8_found_10 : decode cX8_found 10 = .ok (.ifCond .ge 12, 3) := by decide +kernel
theorem dX8_found_13 : decode cX8_found 13 = .ok (.aload_n 0, 1) := by decide +kernel
theorem dX8_found_14 : decode cX8_found 14 = .ok (.bipush 48, 2) := by decide +kernel
theorem dX8_found_16 : decode cX8_found 16 = .ok (.iload_n 1, 1) := by decide +kernel
theorem dX8_found_17 : decode cX8_found 17 = .ok (.iadd, 1) := by decide +kernel
theorem dX8_found_18 : decode cX8_found 18 = .ok (.iaload, 1) := by decide +kernel
theorem dX8_found_19 : decode cX8_found 19 = .ok (.goto 9, 3) := by decide +kernel
theorem dX8_found_22 : decode cX8_found 22 = .ok (.aload_n 0, 1) := by decide +kernel
theorem dX8_found_23 : decode cX8_found 23 = .ok (.bipush 7, 2) := by decide +kernel
theorem dX8_found_25 : decode cX8_found 25 = .ok (.iload_n 3, 1) := by decide +kernel
theorem dX8_found_26 : decode cX8_found 26 = .ok (.iadd, 1) := by decide +kernel
theorem dX8_found_27 : decode cX8_found 27 = .ok (.iaload, 1) := by decide +kernel
theorem dX8_found_28 : decode cX8_found 28 = .ok (.istore 4, 2) := by decide +kernel
theorem dX8_found_30 : decode cX8_found 30 = .ok (.iconst 0, 1) := by decide +kernel
theorem dX8_found_31 : decode cX8_found 31 = .ok (.istore 5, 2) := by decide +kernel
theorem dX8_found_33 : decode cX8_found 33 = .ok (.iload 5, 2) := by decide +kernel
theorem dX8_found_35 : decode cX8_found 35 = .ok (.bipush 16, 2) := by decide +kernel
theorem dX8_found_37 : decode cX8_found 37 = .ok (.if_icmp .ge 46, 3) := by decide +kernel
theorem dX8_found_40 : decode cX8_found 40 = .ok (.aload_n 0, 1) := by decide +kernel
theorem dX8_found_41 : decode cX8_found 41 = .ok (.bipush 32, 2) := by decide +kernel
theorem dX8_found_43 : decode cX8_found 43 = .ok (.iload 5, 2) := by decide +kernel
theorem dX8_found_45 : decode cX8_found 45 = .ok (.iadd, 1) := by decide +kernel
theorem dX8_found_46 : decode cX8_found 46 = .ok (.iaload, 1) := by decide +kernel
theorem dX8_found_47 : decode cX8_found 47 = .ok (.iconst 1, 1) := by decide +kernel
theorem dX8_found_48 : decode cX8_found 48 = .ok (.if_icmp .ne 29, 3) := by decide +kernel
theorem dX8_found_51 : decode cX8_found 51 = .ok (.aload_n 0, 1) := by decide +kernel
theorem dX8_found_52 : decode cX8_found 52 = .ok (.bipush 48, 2) := by decide +kernel
theorem dX8_found_54 : decode cX8_found 54 = .ok (.iload 5, 2) := by decide +kernel
theorem dX8_found_56 : decode cX8_found 56 = .ok (.iadd, 1) := by decide +kernel
theorem dX8_found_57 : decode cX8_found 57 = .ok (.iaload, 1) := by decide +kernel
theorem dX8_found_58 : decode cX8_found 58 = .ok (.iload 4, 2) := by decide +kernel
theorem dX8_found_60 : decode cX8_found 60 = .ok (.if_icmp .ne 17, 3) := by decide +kernel
theorem dX8_found_63 : decode cX8_found 63 = .ok (.aload_n 0, 1) := by decide +kernel
theorem dX8_found_64 : decode cX8_found 64 = .ok (.bipush 64, 2) := by decide +kernel
theorem dX8_found_66 : decode cX8_found 66 = .ok (.iload 5, 2) := by decide +kernel
theorem dX8_found_68 : decode cX8_found 68 = .ok (.iadd, 1) := by decide +kernel
theorem dX8_found_69 : decode cX8_found 69 = .ok (.iaload, 1) := by decide +kernel
theorem dX8_found_70 : decode cX8_found 70 = .ok (.iload_n 2, 1) := by decide +kernel
theorem dX8_found_71 : decode cX8_found 71 = .ok (.if_icmp .ne 6, 3) := by decide +kernel
theorem dX8_found_74 : decode cX8_found 74 = .ok (.iload 5, 2) := by decide +kernel
theorem dX8_found_76 : decode cX8_found 76 = .ok (.ireturn, 1) := by decide +kernel
theorem dX8_found_77 : decode cX8_found 77 = .ok (.iinc 5 1, 3) := by decide +kernel
theorem dX8_found_80 : decode cX8_found 80 = .ok (.goto (-47), 3) := by decide +kernel
theorem dX8_found_83 : decode cX8_found 83 = .ok (.iinc 3 1, 3) := by decide +kernel
theorem dX8_found_86 : decode cX8_found 86 = .ok (.goto (-84), 3) := by decide +kernel
theorem dX8_found_89 : decode cX8_found 89 = .ok (.iconst (-1), 1) := by decide +kernel
theorem dX8_found_90 : decode cX8_found 90 = .ok (.ireturn, 1) := by decide +kernel
def F_X8_found_l33 (k0 : Nat) (x1 : Int32) (x2 : Int32) (Q : VP) (post : Int32 → Prop) (X2 : Int32 → Prop) (v3 : Int32) (v4 : Int32) (X : Int32 → Prop) (v5 : Int32) : Prop :=
  (v5 < 16 → (0 ≤ 32 + v5 ∧ 32 + v5 < vlI k0) ∧ ((Q k0 0 (ix (32 + v5)) = 1 → (0 ≤ 48 + v5 ∧ 48 + v5 < vlI k0) ∧ ((Q k0 0 (ix (48 + v5)) = v4 → (0 ≤ 64 + v5 ∧ 64 + v5 < vlI k0) ∧ ((Q k0 0 (ix (64 + v5)) = x2 → post v5) ∧ (¬ Q k0 0 (ix (64 + v5)) = x2 → X (v5 + 1)))) ∧ (¬ Q k0 0 (ix (48 + v5)) = v4 → X (v5 + 1)))) ∧ (¬ Q k0 0 (ix (32 + v5)) = 1 → X (v5 + 1)))) ∧ (¬ v5 < 16 → X2 (v3 + 1))
set_option maxRecDepth 4000 in
theorem s_X8_found_l33 {l : Launch} {g : vG} {k0 : Nat} {x1 : Int32} {x2 : Int32} {P Q : VP} {post : Int32 → Prop} {X2 : Int32 → Prop} {v3 : Int32} {v4 : Int32}  {v5 : Int32} (hk0 : vQA k0 0) (hX2 : ∀ v3_, X2 v3_ → VM l g RX8 cX8_found 6 (some .int) 0 (vpI (vjn P Q) post) 2 [(0, vR k0 0), (1, vI x1), (2, vI x2), (3, vI v3_)] [] (vjn P Q)) (h : vL1 (F_X8_found_l33 k0 x1 x2 Q post X2 v3 v4) v5) : VM l g RX8 cX8_found 6 (some .int) 0 (vpI (vjn P Q) post) 33 [(0, vR k0 0), (1, vI x1), (2, vI x2), (3, vI v3), (4, vI v4), (5, vI v5)] [] (vjn P Q) := by
  refine vL1_s (T := fun v5 => VM l g RX8 cX8_found 6 (some .int) 0 (vpI (vjn P Q) post) 33 [(0, vR k0 0), (1, vI x1), (2, vI x2), (3, vI v3), (4, vI v4), (5, vI v5)] [] (vjn P Q)) ?_ h
  clear h
  intro X hX v5 h
  unfold F_X8_found_l33 at h
  refine vr_iload 5 dX8_found_33 rfl ?_
  refine vr_bipush 16 dX8_found_35 (by decide) ?_
  refine vr_icmpge 83 dX8_found_37 (by decide) (fun c37 => ?_) (fun c37 => ?_)
  · have h := h.1 c37
    refine vr_aload_n 0 0 dX8_found_40 rfl rfl ?_
    refine vr_bipush 32 dX8_found_41 (by decide) ?_
    refine vr_iload 5 dX8_found_43 rfl ?_
    refine vr_iadd dX8_found_45 ?_
    have hi := h.1
    have h := h.2
    refine vr_ialdQ (vlI k0) hk0 rfl hi dX8_found_46 ?_
    refine vr_iconst 1 dX8_found_47 (by decide) ?_
    refine vr_icmpne 77 dX8_found_48 (by decide) (fun c48 => ?_) (fun c48 => ?_)
    · have h := h.1 c48
      refine vr_aload_n 0 0 dX8_found_51 rfl rfl ?_
      refine vr_bipush 48 dX8_found_52 (by decide) ?_
      refine vr_iload 5 dX8_found_54 rfl ?_
      refine vr_iadd dX8_found_56 ?_
      have hi := h.1
      have h := h.2
      refine vr_ialdQ (vlI k0) hk0 rfl hi dX8_found_57 ?_
      refine vr_iload 4 dX8_found_58 rfl ?_
      refine vr_icmpne 77 dX8_found_60 (by decide) (fun c60 => ?_) (fun c60 => ?_)
      · have h := h.1 c60
        refine vr_aload_n 0 0 dX8_found_63 rfl rfl ?_
        refine vr_bipush 64 dX8_found_64 (by decide) ?_
        refine vr_iload 5 dX8_found_66 rfl ?_
        refine vr_iadd dX8_found_68 ?_
        have hi := h.1
        have h := h.2
        refine vr_ialdQ (vlI k0) hk0 rfl hi dX8_found_69 ?_
        refine vr_iload_n 2 2 dX8_found_70 rfl rfl ?_
        refine vr_icmpne 77 dX8_found_71 (by decide) (fun c71 => ?_) (fun c71 => ?_)
        · have h := h.1 c71
          refine vr_iload 5 dX8_found_74 rfl ?_
          exact vr_iret rfl ⟨rfl, _, rfl, h⟩ dX8_found_76
        · have h := h.2 c71
          refine vr_iinc (v5 + 1) 5 [(5, vI (v5 + 1)), (0, vR k0 0), (1, vI x1), (2, vI x2), (3, vI v3), (4, vI v4)] dX8_found_77 rfl rfl (by decide) rfl ?_
          refine vr_goto 33 dX8_found_80 (by decide) ?_
          refine vr_sub [1, 2, 3, 4, 5, 0] [(0, vR k0 0), (1, vI x1), (2, vI x2), (3, vI v3), (4, vI v4), (5, vI (v5 + 1))] rfl ?_
          exact hX _ h
      · have h := h.2 c60
        refine vr_iinc (v5 + 1) 5 [(5, vI (v5 + 1)), (0, vR k0 0), (1, vI x1), (2, vI x2), (3, vI v3), (4, vI v4)] dX8_found_77 rfl rfl (by decide) rfl ?_
        refine vr_goto 33 dX8_found_80 (by decide) ?_
        refine vr_sub [1, 2, 3, 4, 5, 0] [(0, vR k0 0), (1, vI x1), (2, vI x2), (3, vI v3), (4, vI v4), (5, vI (v5 + 1))] rfl ?_
        exact hX _ h
    · have h := h.2 c48
      refine vr_iinc (v5 + 1) 5 [(5, vI (v5 + 1)), (0, vR k0 0), (1, vI x1), (2, vI x2), (3, vI v3), (4, vI v4)] dX8_found_77 rfl rfl (by decide) rfl ?_
      refine vr_goto 33 dX8_found_80 (by decide) ?_
      refine vr_sub [1, 2, 3, 4, 5, 0] [(0, vR k0 0), (1, vI x1), (2, vI x2), (3, vI v3), (4, vI v4), (5, vI (v5 + 1))] rfl ?_
      exact hX _ h
  · have h := h.2 c37
    refine vr_iinc (v3 + 1) 3 [(3, vI (v3 + 1)), (0, vR k0 0), (1, vI x1), (2, vI x2), (4, vI v4), (5, vI v5)] dX8_found_83 rfl rfl (by decide) rfl ?_
    refine vr_goto 2 dX8_found_86 (by decide) ?_
    refine vr_sub [1, 2, 3, 0] [(0, vR k0 0), (1, vI x1), (2, vI x2), (3, vI (v3 + 1))] rfl ?_
    exact hX2 _ h
def F_X8_found_l2 (k0 : Nat) (x1 : Int32) (x2 : Int32) (Q : VP) (post : Int32 → Prop)   (X : Int32 → Prop) (v3 : Int32) : Prop :=
  (0 ≤ (2 : Int32) ∧ (2 : Int32) < vlI k0) ∧ ((v3 < Q k0 0 (ix ((2 : Int32))) → (v3 < 0 → (0 ≤ 48 + x1 ∧ 48 + x1 < vlI k0) ∧ (vL1 (F_X8_found_l33 k0 x1 x2 Q post X  v3 (Q k0 0 (ix (48 + x1)))) ((0 : Int32)))) ∧ (¬ v3 < 0 → (0 ≤ 7 + v3 ∧ 7 + v3 < vlI k0) ∧ (vL1 (F_X8_found_l33 k0 x1 x2 Q post X  v3 (Q k0 0 (ix (7 + v3)))) ((0 : Int32))))) ∧ (¬ v3 < Q k0 0 (ix ((2 : Int32))) → post (((-1) : Int32))))
set_option maxRecDepth 4000 in
theorem s_X8_found_l2 {l : Launch} {g : vG} {k0 : Nat} {x1 : Int32} {x2 : Int32} {P Q : VP} {post : Int32 → Prop}    {v3 : Int32} (hk0 : vQA k0 0)  (h : vL1 (F_X8_found_l2 k0 x1 x2 Q post  ) v3) : VM l g RX8 cX8_found 6 (some .int) 0 (vpI (vjn P Q) post) 2 [(0, vR k0 0), (1, vI x1), (2, vI x2), (3, vI v3)] [] (vjn P Q) := by
  refine vL1_s (T := fun v3 => VM l g RX8 cX8_found 6 (some .int) 0 (vpI (vjn P Q) post) 2 [(0, vR k0 0), (1, vI x1), (2, vI x2), (3, vI v3)] [] (vjn P Q)) ?_ h
  clear h
  intro X hX v3 h
  unfold F_X8_found_l2 at h
  refine vr_iload_n 3 3 dX8_found_2 rfl rfl ?_
  refine vr_aload_n 0 0 dX8_found_3 rfl rfl ?_
  refine vr_iconst 2 dX8_found_4 (by decide) ?_
  have hi := h.1
  have h := h.2
  refine vr_ialdQ (vlI k0) hk0 rfl hi dX8_found_5 ?_
  refine vr_icmpge 89 dX8_found_6 (by decide) (fun c6 => ?_) (fun c6 => ?_)
  · have h := h.1 c6
    refine vr_iload_n 3 3 dX8_found_9 rfl rfl ?_
    refine vr_ifge 22 dX8_found_10 (by decide) (fun c10 => ?_) (fun c10 => ?_)
    · have h := h.1 c10
      refine vr_aload_n 0 0 dX8_found_13 rfl rfl ?_
      refine vr_bipush 48 dX8_found_14 (by decide) ?_
      refine vr_iload_n 1 1 dX8_found_16 rfl rfl ?_
      refine vr_iadd dX8_found_17 ?_
      have hi := h.1
      have h := h.2
      refine vr_ialdQ (vlI k0) hk0 rfl hi dX8_found_18 ?_
      refine vr_goto 28 dX8_found_19 (by decide) ?_
      refine vr_istore [(4, vI (Q k0 0 (ix (48 + x1)))), (0, vR k0 0), (1, vI x1), (2, vI x2), (3, vI v3)] dX8_found_28 (by decide) rfl ?_
      refine vr_iconst 0 dX8_found_30 (by decide) ?_
      refine vr_istore [(5, vI 0), (4, vI (Q k0 0 (ix (48 + x1)))), (0, vR k0 0), (1, vI x1), (2, vI x2), (3, vI v3)] dX8_found_31 (by decide) rfl ?_
      refine vr_sub [2, 3, 4, 5, 1, 0] [(0, vR k0 0), (1, vI x1), (2, vI x2), (3, vI v3), (4, vI (Q k0 0 (ix (48 + x1)))), (5, vI 0)] rfl ?_
      exact s_X8_found_l33 hk0 hX  h
    · have h := h.2 c10
      refine vr_aload_n 0 0 dX8_found_22 rfl rfl ?_
      refine vr_bipush 7 dX8_found_23 (by decide) ?_
      refine vr_iload_n 3 3 dX8_found_25 rfl rfl ?_
      refine vr_iadd dX8_found_26 ?_
      have hi := h.1
      have h := h.2
      refine vr_ialdQ (vlI k0) hk0 rfl hi dX8_found_27 ?_
      refine vr_istore [(4, vI (Q k0 0 (ix (7 + v3)))), (0, vR k0 0), (1, vI x1), (2, vI x2), (3, vI v3)] dX8_found_28 (by decide) rfl ?_
      refine vr_iconst 0 dX8_found_30 (by decide) ?_
      refine vr_istore [(5, vI 0), (4, vI (Q k0 0 (ix (7 + v3)))), (0, vR k0 0), (1, vI x1), (2, vI x2), (3, vI v3)] dX8_found_31 (by decide) rfl ?_
      refine vr_sub [2, 3, 4, 5, 1, 0] [(0, vR k0 0), (1, vI x1), (2, vI x2), (3, vI v3), (4, vI (Q k0 0 (ix (7 + v3)))), (5, vI 0)] rfl ?_
      exact s_X8_found_l33 hk0 hX  h
  · have h := h.2 c6
    refine vr_iconst (-1) dX8_found_89 (by decide) ?_
    exact vr_iret rfl ⟨rfl, _, rfl, h⟩ dX8_found_90
def F_X8_found (k0 : Nat) (x1 : Int32) (x2 : Int32) (Q : VP) (post : Int32 → Prop) : Prop :=
  vL1 (F_X8_found_l2 k0 x1 x2 Q post  ) (((-1) : Int32))
set_option maxRecDepth 4000 in
theorem s_X8_found {l : Launch} {g : vG} {k0 : Nat} {x1 : Int32} {x2 : Int32} {P Q : VP} {post : Int32 → Prop} (hk0 : vQA k0 0) (h : F_X8_found k0 x1 x2 Q post) : VC l g yX8_found cX8_found 6 (some .int) 0 [vR k0 0, vI x1, vI x2] (vjn P Q) (vpI (vjn P Q) post) := by
  refine VC.of (by decide +kernel) (Nat.le_of_ble_eq_true rfl) (show VM l g RX8 cX8_found 6 (some .int) 0 (vpI (vjn P Q) post) 0 [(0, vR k0 0), (1, vI x1), (2, vI x2)] [] (vjn P Q) from ?_)
  unfold F_X8_found at h
  refine vr_iconst (-1) dX8_found_0 (by decide) ?_
  refine vr_istore_n 3 [(3, vI ((-1))), (0, vR k0 0), (1, vI x1), (2, vI x2)] dX8_found_1 rfl (by decide) rfl ?_
  refine vr_sub [1, 2, 3, 0] [(0, vR k0 0), (1, vI x1), (2, vI x2), (3, vI ((-1)))] rfl ?_
  exact s_X8_found_l2 hk0  h
theorem dX8_lookup_0 : decode cX8_lookup 0 = .ok (.aload_n 0, 1) := by decide +kernel
theorem dX8_lookup_1 : decode cX8_lookup 1 = .ok (.iload_n 1, 1) := by decide +kernel
theorem dX8_lookup_2 : decode cX8_lookup 2 = .ok (.invokevirtual 95, 3) := by decide +kernel
theorem dX8_lookup_5 : decode cX8_lookup 5 = .ok (.ifCond .eq 15, 3) := by decide +kernel
theorem dX8_lookup_8 : decode cX8_lookup 8 = .ok (.iload_n 2, 1) := by decide +kernel
theorem dX8_lookup_9 : decode cX8_lookup 9 = .ok (.i2l, 1) := by decide +kernel
theorem dX8_lookup_10 : decode cX8_lookup 10 = .ok (.lconst 0, 1) := by decide +kernel
theorem dX8_lookup_11 : decode cX8_lookup 11 = .ok (.ldc2_w 79, 3) := by decide +kernel
theorem dX8_lookup_14 : decode cX8_lookup 14 = .ok (.invokestatic 54, 3) := by decide +kernel
theorem dX8_lookup_17 : decode cX8_lookup 17 = .ok (.ifCond .ne 5, 3) := by decide +kernel
theorem dX8_lookup_20 : decode cX8_lookup 20 = .ok (.iconst (-1), 1) := by decide +kernel
theorem dX8_lookup_21 : decode cX8_lookup 21 = .ok (.ireturn, 1) := by decide +kernel
theorem dX8_lookup_22 : decode cX8_lookup 22 = .ok (.aload_n 0, 1) := by decide +kernel
theorem dX8_lookup_23 : decode cX8_lookup 23 = .ok (.getfield 9, 3) := by decide +kernel
theorem dX8_lookup_26 : decode cX8_lookup 26 = .ok (.iload_n 1, 1) := by decide +kernel
theorem dX8_lookup_27 : decode cX8_lookup 27 = .ok (.iload_n 2, 1) := by decide +kernel
theorem dX8_lookup_28 : decode cX8_lookup 28 = .ok (.invokestatic 116, 3) := by decide +kernel
theorem dX8_lookup_31 : decode cX8_lookup 31 = .ok (.istore_n 3, 1) := by decide +kernel
theorem dX8_lookup_32 : decode cX8_lookup 32 = .ok (.iload_n 3, 1) := by decide +kernel
theorem dX8_lookup_33 : decode cX8_lookup 33 = .ok (.ifCond .ge 8, 3) := by decide +kernel
theorem dX8_lookup_36 : decode cX8_lookup 36 = .ok (.bipush (-2), 2) := by decide +kernel
theorem dX8_lookup_38 : decode cX8_lookup 38 = .ok (.goto 4, 3) := by decide +kernel
theorem dX8_lookup_41 : decode cX8_lookup 41 = .ok (.iload_n 3, 1) := by decide +kernel
theorem dX8_lookup_42 : decode cX8_lookup 42 = .ok (.ireturn, 1) := by decide +kernel
def F_X8_lookup (x1 : Int32) (x2 : Int32) (Q : VP) (post : Int32 → Prop) : Prop :=
  F_X8_isSegment x1 Q (fun r2 => (r2 = 0 → post (((-1) : Int32))) ∧ (¬ r2 = 0 → F_X8_in (Int32.toInt64 x2) 0 25 Q (fun r14 => (r14 = 0 → post (((-1) : Int32))) ∧ (¬ r14 = 0 → F_X8_found 23 x1 x2 Q (fun r28 => (r28 < 0 → post (((-2) : Int32))) ∧ (¬ r28 < 0 → post r28))))))
set_option maxRecDepth 4000 in
theorem s_X8_lookup {l : Launch} {g : vG} {x1 : Int32} {x2 : Int32} {P Q : VP} {post : Int32 → Prop}  (h : F_X8_lookup x1 x2 Q post) : VC l g yX8_lookup cX8_lookup 4 (some .int) 3 [vR 22 0, vI x1, vI x2] (vjn P Q) (vpI (vjn P Q) post) := by
  refine VC.of (by decide +kernel) (Nat.le_of_ble_eq_true rfl) (show VM l g RX8 cX8_lookup 4 (some .int) 3 (vpI (vjn P Q) post) 0 [(0, vR 22 0), (1, vI x1), (2, vI x2)] [] (vjn P Q) from ?_)
  unfold F_X8_lookup at h
  refine vr_aload_n 0 0 dX8_lookup_0 rfl rfl ?_
  refine vr_iload_n 1 1 dX8_lookup_1 rfl rfl ?_
  refine vr_callV RX8 (s_X8_isSegment h) rfl (by decide) rfl rfl rfl ml_8_95 rfl yh_X8_isSegment rfl ⟨Nat.le_of_ble_eq_true rfl, Nat.le_of_ble_eq_true rfl⟩ (Nat.le_of_ble_eq_true rfl) ⟨Nat.zero_le _, Nat.zero_le _⟩ dX8_lookup_2 (ki fun r2 h => ?_)
  refine vr_ifeq 20 dX8_lookup_5 (by decide) (fun c5 => ?_) (fun c5 => ?_)
  · have h := h.1 c5
    refine vr_iconst (-1) dX8_lookup_20 (by decide) ?_
    exact vr_iret rfl ⟨rfl, _, rfl, h⟩ dX8_lookup_21
  · have h := h.2 c5
    refine vr_iload_n 2 2 dX8_lookup_8 rfl rfl ?_
    refine vr_i2l dX8_lookup_9 ?_
    refine vr_lconst 0 dX8_lookup_10 (by decide) ?_
    refine vr_ldc2 25 ct_8_79 dX8_lookup_11 ?_
    refine vr_callS RX8 (s_X8_in h) rfl rfl ml_8_54 rfl yh_X8_in rfl ⟨Nat.le_of_ble_eq_true rfl, Nat.le_of_ble_eq_true rfl⟩ (Nat.le_of_ble_eq_true rfl) ⟨Nat.zero_le _, Nat.zero_le _⟩ dX8_lookup_14 (ki fun r14 h => ?_)
    refine vr_ifne 22 dX8_lookup_17 (by decide) (fun c17 => ?_) (fun c17 => ?_)
    · have h := h.1 c17
      refine vr_iconst (-1) dX8_lookup_20 (by decide) ?_
      exact vr_iret rfl ⟨rfl, _, rfl, h⟩ dX8_lookup_21
    · have h := h.2 c17
      refine vr_aload_n 0 0 dX8_lookup_22 rfl rfl ?_
      refine vg_22_0 RX8 rfl (by decide) fl_8_9 dX8_lookup_23 ?_
      refine vr_iload_n 1 1 dX8_lookup_26 rfl rfl ?_
      refine vr_iload_n 2 2 dX8_lookup_27 rfl rfl ?_
      refine vr_callS RX8 (s_X8_found ia_23 h) rfl rfl ml_8_116 rfl yh_X8_found rfl ⟨Nat.le_of_ble_eq_true rfl, Nat.le_of_ble_eq_true rfl⟩ (Nat.le_of_ble_eq_true rfl) ⟨Nat.zero_le _, Nat.zero_le _⟩ dX8_lookup_28 (ki fun r28 h => ?_)
      refine vr_istore_n 3 [(3, vI r28), (0, vR 22 0), (1, vI x1), (2, vI x2)] dX8_lookup_31 rfl (by decide) rfl ?_
      refine vr_iload_n 3 0 dX8_lookup_32 rfl rfl ?_
      refine vr_ifge 41 dX8_lookup_33 (by decide) (fun c33 => ?_) (fun c33 => ?_)
      · have h := h.1 c33
        refine vr_bipush (-2) dX8_lookup_36 (by decide) ?_
        refine vr_goto 42 dX8_lookup_38 (by decide) ?_
        exact vr_iret rfl ⟨rfl, _, rfl, h⟩ dX8_lookup_42
      · have h := h.2 c33
        refine vr_iload_n 3 0 dX8_lookup_41 rfl rfl ?_
        exact vr_iret rfl ⟨rfl, _, rfl, h⟩ dX8_lookup_42
theorem dX8_told_0 : decode cX8_told 0 = .ok (.aload_n 0, 1) := by decide +kernel
theorem dX8_told_1 : decode cX8_told 1 = .ok (.sipush 200, 3) := by decide +kernel
theorem dX8_told_4 : decode cX8_told 4 = .ok (.bipush 6, 2) := by decide +kernel
theorem dX8_told_6 : decode cX8_told 6 = .ok (.bipush 24, 2) := by decide +kernel
theorem dX8_told_8 : decode cX8_told 8 = .ok (.iload_n 1, 1) := by decide +kernel
theorem dX8_told_9 : decode cX8_told 9 = .ok (.imul, 1) := by decide +kernel
theorem dX8_told_10 : decode cX8_told 10 = .ok (.iload_n 2, 1) := by decide +kernel
theorem dX8_told_11 : decode cX8_told 11 = .ok (.iadd, 1) := by decide +kernel
theorem dX8_told_12 : decode cX8_told 12 = .ok (.imul, 1) := by decide +kernel
theorem dX8_told_13 : decode cX8_told 13 = .ok (.iadd, 1) := by decide +kernel
theorem dX8_told_14 : decode cX8_told 14 = .ok (.iload_n 3, 1) := by decide +kernel
theorem dX8_told_15 : decode cX8_told 15 = .ok (.iadd, 1) := by decide +kernel
theorem dX8_told_16 : decode cX8_told 16 = .ok (.iaload, 1) := by decide +kernel
theorem dX8_told_17 : decode cX8_told 17 = .ok (.ireturn, 1) := by decide +kernel
def F_X8_told (k0 : Nat) (x1 : Int32) (x2 : Int32) (x3 : Int32) (Q : VP) (post : Int32 → Prop) : Prop :=
  (0 ≤ (200 + (6 * ((24 * x1) + x2))) + x3 ∧ (200 + (6 * ((24 * x1) + x2))) + x3 < vlI k0) ∧ (post (Q k0 0 (ix ((200 + (6 * ((24 * x1) + x2))) + x3))))
set_option maxRecDepth 4000 in
theorem s_X8_told {l : Launch} {g : vG} {k0 : Nat} {x1 : Int32} {x2 : Int32} {x3 : Int32} {P Q : VP} {post : Int32 → Prop} (hk0 : vQA k0 0) (h : F_X8_told k0 x1 x2 x3 Q post) : VC l g yX8_told cX8_told 4 (some .int) 0 [vR k0 0, vI x1, vI x2, vI x3] (vjn P Q) (vpI (vjn P Q) post) := by
  refine VC.of (by decide +kernel) (Nat.le_of_ble_eq_true rfl) (show VM l g RX8 cX8_told 4 (some .int) 0 (vpI (vjn P Q) post) 0 [(0, vR k0 0), (1, vI x1), (2, vI x2), (3, vI x3)] [] (vjn P Q) from ?_)
  unfold F_X8_told at h
  refine vr_aload_n 0 0 dX8_told_0 rfl rfl ?_
  refine vr_sipush 200 dX8_told_1 (by decide) ?_
  refine vr_bipush 6 dX8_told_4 (by decide) ?_
  refine vr_bipush 24 dX8_told_6 (by decide) ?_
  refine vr_iload_n 1 1 dX8_told_8 rfl rfl ?_
  refine vr_imul dX8_told_9 ?_
  refine vr_iload_n 2 2 dX8_told_10 rfl rfl ?_
  refine vr_iadd dX8_told_11 ?_
  refine vr_imul dX8_told_12 ?_
  refine vr_iadd dX8_told_13 ?_
  refine vr_iload_n 3 3 dX8_told_14 rfl rfl ?_
  refine vr_iadd dX8_told_15 ?_
  have hi := h.1
  have h := h.2
  refine vr_ialdQ (vlI k0) hk0 rfl hi dX8_told_16 ?_
  exact vr_iret rfl ⟨rfl, _, rfl, h⟩ dX8_told_17
theorem dX8_isWord_0 : decode cX8_isWord 0 = .ok (.iload_n 2, 1) := by decide +kernel
theorem dX8_isWord_1 : decode cX8_isWord 1 = .ok (.i2l, 1) := by decide +kernel
theorem dX8_isWord_2 : decode cX8_isWord 2 = .ok (.lconst 0, 1) := by decide +kernel
theorem dX8_isWord_3 : decode cX8_isWord 3 = .ok (.aload_n 0, 1) := by decide +kernel
theorem dX8_isWord_4 : decode cX8_isWord 4 = .ok (.getfield 9, 3) := by decide +kernel
theorem dX8_isWord_7 : decode cX8_isWord 7 = .ok (.bipush 96, 2) := by decide +kernel
theorem dX8_isWord_9 : decode cX8_isWord 9 = .ok (.iload_n 1, 1) := by decide +kernel
theorem dX8_isWord_10 : decode cX8_isWord 10 = .ok (.iadd, 1) := by decide +kernel
theorem dX8_isWord_11 : decode cX8_isWord 11 = .ok (.iaload, 1) := by decide +kernel
theorem dX8_isWord_12 : decode cX8_isWord 12 = .ok (.iconst 1, 1) := by decide +kernel
theorem dX8_isWord_13 : decode cX8_isWord 13 = .ok (.isub, 1) := by decide +kernel
theorem dX8_isWord_14 : decode cX8_isWord 14 = .ok (.i2l, 1) := by decide +kernel
theorem dX8_isWord_15 : decode cX8_isWord 15 = .ok (.invokestatic 54, 3) := by decide +kernel
theorem dX8_isWord_18 : decode cX8_isWord 18 = .ok (.ireturn, 1) := by decide +kernel
def F_X8_isWord (x1 : Int32) (x2 : Int32) (Q : VP) (post : Int32 → Prop) : Prop :=
  (0 ≤ 96 + x1 ∧ 96 + x1 < 3464) ∧ (F_X8_in (Int32.toInt64 x2) 0 (Int32.toInt64 ((Q 23 0 (ix (96 + x1))) - 1)) Q (fun r15 => (r15 = 0 ∨ r15 = 1) ∧ (post r15)))
set_option maxRecDepth 4000 in
theorem s_X8_isWord {l : Launch} {g : vG} {x1 : Int32} {x2 : Int32} {P Q : VP} {post : Int32 → Prop}  (h : F_X8_isWord x1 x2 Q post) : VC l g yX8_isWord cX8_isWord 3 (some .boolean) 1 [vR 22 0, vI x1, vI x2] (vjn P Q) (vpI (vjn P Q) post) := by
  refine VC.of (by decide +kernel) (Nat.le_of_ble_eq_true rfl) (show VM l g RX8 cX8_isWord 3 (some .boolean) 1 (vpI (vjn P Q) post) 0 [(0, vR 22 0), (1, vI x1), (2, vI x2)] [] (vjn P Q) from ?_)
  unfold F_X8_isWord at h
  refine vr_iload_n 2 2 dX8_isWord_0 rfl rfl ?_
  refine vr_i2l dX8_isWord_1 ?_
  refine vr_lconst 0 dX8_isWord_2 (by decide) ?_
  refine vr_aload_n 0 0 dX8_isWord_3 rfl rfl ?_
  refine vg_22_0 RX8 rfl (by decide) fl_8_9 dX8_isWord_4 ?_
  refine vr_bipush 96 dX8_isWord_7 (by decide) ?_
  refine vr_iload_n 1 1 dX8_isWord_9 rfl rfl ?_
  refine vr_iadd dX8_isWord_10 ?_
  have hi := h.1
  have h := h.2
  refine vr_ialdQ 3464 ia_23 rfl hi dX8_isWord_11 ?_
  refine vr_iconst 1 dX8_isWord_12 (by decide) ?_
  refine vr_isub dX8_isWord_13 ?_
  refine vr_i2l dX8_isWord_14 ?_
  refine vr_callS RX8 (s_X8_in h) rfl rfl ml_8_54 rfl yh_X8_in rfl ⟨Nat.le_of_ble_eq_true rfl, Nat.le_of_ble_eq_true rfl⟩ (Nat.le_of_ble_eq_true rfl) ⟨Nat.zero_le _, Nat.zero_le _⟩ dX8_isWord_15 (ki fun r15 h => ?_)
  have hb := h.1
  have h := h.2
  exact vr_zret rfl hb ⟨rfl, _, rfl, h⟩ dX8_isWord_18
theorem dX8_becomes_0 : decode cX8_becomes 0 = .ok (.aload_n 0, 1) := by decide +kernel
theorem dX8_becomes_1 : decode cX8_becomes 1 = .ok (.iload_n 1, 1) := by decide +kernel
theorem dX8_becomes_2 : decode cX8_becomes 2 = .ok (.iload_n 2, 1) := by decide +kernel
theorem dX8_becomes_3 : decode cX8_becomes 3 = .ok (.invokevirtual 120, 3) := by decide +kernel
theorem dX8_becomes_6 : decode cX8_becomes 6 = .ok (.ifCond .ne 6, 3) := by decide +kernel
theorem dX8_becomes_9 : decode cX8_becomes 9 = .ok (.bipush (-13), 2) := by decide +kernel
theorem dX8_becomes_11 : decode cX8_becomes 11 = .ok (.ireturn, 1) := by decide +kernel
theorem dX8_becomes_12 : decode cX8_becomes 12 = .ok (.aload_n 0, 1) := by decide +kernel
theorem dX8_becomes_13 : decode cX8_becomes 13 = .ok (.getfield 9, 3) := by decide +kernel
theorem dX8_becomes_16 : decode cX8_becomes 16 = .ok (.iload_n 1, 1) := by decide +kernel
theorem dX8_becomes_17 : decode cX8_becomes 17 = .ok (.iload_n 2, 1) := by decide +kernel
theorem dX8_becomes_18 : decode cX8_becomes 18 = .ok (.iload_n 3, 1) := by decide +kernel
theorem dX8_becomes_19 : decode cX8_becomes 19 = .ok (.iload 4, 2) := by decide +kernel
theorem dX8_becomes_21 : decode cX8_becomes 21 = .ok (.iload 5, 2) := by decide +kernel
theorem dX8_becomes_23 : decode cX8_becomes 23 = .ok (.iload 6, 2) := by decide +kernel
theorem dX8_becomes_25 : decode cX8_becomes 25 = .ok (.iconst 0, 1) := by decide +kernel
theorem dX8_becomes_26 : decode cX8_becomes 26 = .ok (.iconst 0, 1) := by decide +kernel
theorem dX8_becomes_27 : decode cX8_becomes 27 = .ok (.invokestatic 91, 3) := by decide +kernel
theorem dX8_becomes_30 : decode cX8_becomes 30 = .ok (.iconst 1, 1) := by decide +kernel
theorem dX8_becomes_31 : decode cX8_becomes 31 = .ok (.ireturn, 1) := by decide +kernel
def F_X8_becomes (x1 : Int32) (x2 : Int32) (x3 : Int32) (x4 : Int32) (x5 : Int32) (x6 : Int32) (Q : VP) (post : Int32 → VP → Prop) : Prop :=
  F_X8_isWord x1 x2 Q (fun r3 => (r3 = 0 → post (((-13) : Int32)) Q) ∧ (¬ r3 = 0 → F_X8_writes 23 x1 x2 x3 x4 x5 x6 ((0 : Int32)) ((0 : Int32)) Q (fun Q27 => post ((1 : Int32)) Q27)))
set_option maxRecDepth 4000 in
theorem s_X8_becomes {l : Launch} {g : vG} {x1 : Int32} {x2 : Int32} {x3 : Int32} {x4 : Int32} {x5 : Int32} {x6 : Int32} {P Q : VP} {post : Int32 → VP → Prop}  (h : F_X8_becomes x1 x2 x3 x4 x5 x6 Q post) : VC l g yX8_becomes cX8_becomes 7 (some .int) 2 [vR 22 0, vI x1, vI x2, vI x3, vI x4, vI x5, vI x6] (vjn P Q) (vmI P post) := by
  refine VC.of (by decide +kernel) (Nat.le_of_ble_eq_true rfl) (show VM l g RX8 cX8_becomes 7 (some .int) 2 (vmI P post) 0 [(0, vR 22 0), (1, vI x1), (2, vI x2), (3, vI x3), (4, vI x4), (5, vI x5), (6, vI x6)] [] (vjn P Q) from ?_)
  unfold F_X8_becomes at h
  refine vr_aload_n 0 0 dX8_becomes_0 rfl rfl ?_
  refine vr_iload_n 1 1 dX8_becomes_1 rfl rfl ?_
  refine vr_iload_n 2 2 dX8_becomes_2 rfl rfl ?_
  refine vr_callV RX8 (s_X8_isWord h) rfl (by decide) rfl rfl rfl ml_8_120 rfl yh_X8_isWord rfl ⟨Nat.le_of_ble_eq_true rfl, Nat.le_of_ble_eq_true rfl⟩ (Nat.le_of_ble_eq_true rfl) ⟨Nat.zero_le _, Nat.zero_le _⟩ dX8_becomes_3 (ki fun r3 h => ?_)
  refine vr_ifne 12 dX8_becomes_6 (by decide) (fun c6 => ?_) (fun c6 => ?_)
  · have h := h.1 c6
    refine vr_bipush (-13) dX8_becomes_9 (by decide) ?_
    exact vr_iret rfl ⟨_, _, rfl, rfl, h⟩ dX8_becomes_11
  · have h := h.2 c6
    refine vr_aload_n 0 0 dX8_becomes_12 rfl rfl ?_
    refine vg_22_0 RX8 rfl (by decide) fl_8_9 dX8_becomes_13 ?_
    refine vr_iload_n 1 1 dX8_becomes_16 rfl rfl ?_
    refine vr_iload_n 2 2 dX8_becomes_17 rfl rfl ?_
    refine vr_iload_n 3 3 dX8_becomes_18 rfl rfl ?_
    refine vr_iload 4 dX8_becomes_19 rfl ?_
    refine vr_iload 5 dX8_becomes_21 rfl ?_
    refine vr_iload 6 dX8_becomes_23 rfl ?_
    refine vr_iconst 0 dX8_becomes_25 (by decide) ?_
    refine vr_iconst 0 dX8_becomes_26 (by decide) ?_
    refine vr_callS RX8 (s_X8_writes ia_23 h) rfl rfl ml_8_91 rfl yh_X8_writes rfl ⟨Nat.le_of_ble_eq_true rfl, Nat.le_of_ble_eq_true rfl⟩ (Nat.le_of_ble_eq_true rfl) ⟨Nat.zero_le _, Nat.zero_le _⟩ dX8_becomes_27 (kmv fun Q27 h => ?_)
    refine vr_iconst 1 dX8_becomes_30 (by decide) ?_
    exact vr_iret rfl ⟨_, _, rfl, rfl, h⟩ dX8_becomes_31
theorem dX8_number_0 : decode cX8_number 0 = .ok (.aload_n 0, 1) := by decide +kernel
theorem dX8_number_1 : decode cX8_number 1 = .ok (.iload_n 1, 1) := by decide +kernel
theorem dX8_number_2 : decode cX8_number 2 = .ok (.invokevirtual 95, 3) := by decide +kernel
theorem dX8_number_5 : decode cX8_number 5 = .ok (.ifCond .eq 16, 3) := by decide +kernel
theorem dX8_number_8 : decode cX8_number 8 = .ok (.aload_n 0, 1) := by decide +kernel
theorem dX8_number_9 : decode cX8_number 9 = .ok (.iload_n 1, 1) := by decide +kernel
theorem dX8_number_10 : decode cX8_number 10 = .ok (.iload_n 2, 1) := by decide +kernel
theorem dX8_number_11 : decode cX8_number 11 = .ok (.iconst 1, 1) := by decide +kernel
theorem dX8_number_12 : decode cX8_number 12 = .ok (.iload_n 3, 1) := by decide +kernel
theorem dX8_number_13 : decode cX8_number 13 = .ok (.iconst 0, 1) := by decide +kernel
theorem dX8_number_14 : decode cX8_number 14 = .ok (.iconst 0, 1) := by decide +kernel
theorem dX8_number_15 : decode cX8_number 15 = .ok (.invokevirtual 123, 3) := by decide +kernel
theorem dX8_number_18 : decode cX8_number 18 = .ok (.goto 4, 3) := by decide +kernel
theorem dX8_number_21 : decode cX8_number 21 = .ok (.iconst (-1), 1) := by decide +kernel
theorem dX8_number_22 : decode cX8_number 22 = .ok (.ireturn, 1) := by decide +kernel
def F_X8_number (x1 : Int32) (x2 : Int32) (x3 : Int32) (Q : VP) (post : Int32 → VP → Prop) : Prop :=
  F_X8_isSegment x1 Q (fun r2 => (r2 = 0 → post (((-1) : Int32)) Q) ∧ (¬ r2 = 0 → F_X8_becomes x1 x2 ((1 : Int32)) x3 ((0 : Int32)) ((0 : Int32)) Q (fun r15 Q15 => post r15 Q15)))
set_option maxRecDepth 4000 in
theorem s_X8_number {l : Launch} {g : vG} {x1 : Int32} {x2 : Int32} {x3 : Int32} {P Q : VP} {post : Int32 → VP → Prop}  (h : F_X8_number x1 x2 x3 Q post) : VC l g yX8_number cX8_number 4 (some .int) 3 [vR 22 0, vI x1, vI x2, vI x3] (vjn P Q) (vmI P post) := by
  refine VC.of (by decide +kernel) (Nat.le_of_ble_eq_true rfl) (show VM l g RX8 cX8_number 4 (some .int) 3 (vmI P post) 0 [(0, vR 22 0), (1, vI x1), (2, vI x2), (3, vI x3)] [] (vjn P Q) from ?_)
  unfold F_X8_number at h
  refine vr_aload_n 0 0 dX8_number_0 rfl rfl ?_
  refine vr_iload_n 1 1 dX8_number_1 rfl rfl ?_
  refine vr_callV RX8 (s_X8_isSegment h) rfl (by decide) rfl rfl rfl ml_8_95 rfl yh_X8_isSegment rfl ⟨Nat.le_of_ble_eq_true rfl, Nat.le_of_ble_eq_true rfl⟩ (Nat.le_of_ble_eq_true rfl) ⟨Nat.zero_le _, Nat.zero_le _⟩ dX8_number_2 (ki fun r2 h => ?_)
  refine vr_ifeq 21 dX8_number_5 (by decide) (fun c5 => ?_) (fun c5 => ?_)
  · have h := h.1 c5
    refine vr_iconst (-1) dX8_number_21 (by decide) ?_
    exact vr_iret rfl ⟨_, _, rfl, rfl, h⟩ dX8_number_22
  · have h := h.2 c5
    refine vr_aload_n 0 0 dX8_number_8 rfl rfl ?_
    refine vr_iload_n 1 1 dX8_number_9 rfl rfl ?_
    refine vr_iload_n 2 2 dX8_number_10 rfl rfl ?_
    refine vr_iconst 1 dX8_number_11 (by decide) ?_
    refine vr_iload_n 3 3 dX8_number_12 rfl rfl ?_
    refine vr_iconst 0 dX8_number_13 (by decide) ?_
    refine vr_iconst 0 dX8_number_14 (by decide) ?_
    refine vr_callV RX8 (s_X8_becomes h) rfl (by decide) rfl rfl rfl ml_8_123 rfl yh_X8_becomes rfl ⟨Nat.le_of_ble_eq_true rfl, Nat.le_of_ble_eq_true rfl⟩ (Nat.le_of_ble_eq_true rfl) ⟨Nat.zero_le _, Nat.zero_le _⟩ dX8_number_15 (kmi fun r15 Q15 h => ?_)
    refine vr_goto 22 dX8_number_18 (by decide) ?_
    exact vr_iret rfl ⟨_, _, rfl, rfl, h⟩ dX8_number_22
theorem dX8_isPointer_0 : decode cX8_isPointer 0 = .ok (.iload_n 0, 1) := by decide +kernel
theorem dX8_isPointer_1 : decode cX8_isPointer 1 = .ok (.ifCond .lt 38, 3) := by decide +kernel
theorem dX8_isPointer_4 : decode cX8_isPointer 4 = .ok (.iload_n 0, 1) := by decide +kernel
theorem dX8_isPointer_5 : decode cX8_isPointer 5 = .ok (.sipush 1000, 3) := by decide +kernel
theorem dX8_isPointer_8 : decode cX8_isPointer 8 = .ok (.idiv, 1) := by decide +kernel
theorem dX8_isPointer_9 : decode cX8_isPointer 9 = .ok (.bipush 15, 2) := by decide +kernel
theorem dX8_isPointer_11 : decode cX8_isPointer 11 = .ok (.if_icmp .gt 28, 3) := by decide +kernel
theorem dX8_isPointer_14 : decode cX8_isPointer 14 = .ok (.iload_n 0, 1) := by decide +kernel
theorem dX8_isPointer_15 : decode cX8_isPointer 15 = .ok (.bipush 100, 2) := by decide +kernel
theorem dX8_isPointer_17 : decode cX8_isPointer 17 = .ok (.idiv, 1) := by decide +kernel
theorem dX8_isPointer_18 : decode cX8_isPointer 18 = .ok (.bipush 10, 2) := by decide +kernel
theorem dX8_isPointer_20 : decode cX8_isPointer 20 = .ok (.irem, 1) := by decide +kernel
theorem dX8_isPointer_21 : decode cX8_isPointer 21 = .ok (.bipush 7, 2) := by decide +kernel
theorem dX8_isPointer_23 : decode cX8_isPointer 23 = .ok (.if_icmp .gt 16, 3) := by decide +kernel
theorem dX8_isPointer_26 : decode cX8_isPointer 26 = .ok (.iload_n 0, 1) := by decide +kernel
theorem dX8_isPointer_27 : decode cX8_isPointer 27 = .ok (.bipush 100, 2) := by decide +kernel
theorem dX8_isPointer_29 : decode cX8_isPointer 29 = .ok (.irem, 1) := by decide +kernel
theorem dX8_isPointer_30 : decode cX8_isPointer 30 = .ok (.bipush 23, 2) := by decide +kernel
theorem dX8_isPointer_32 : decode cX8_isPointer 32 = .ok (.if_icmp .gt 7, 3) := by decide +kernel
theorem dX8_isPointer_35 : decode cX8_isPointer 35 = .ok (.iconst 1, 1) := by decide +kernel
theorem dX8_isPointer_36 : decode cX8_isPointer 36 = .ok (.goto 4, 3) := by decide +kernel
theorem dX8_isPointer_39 : decode cX8_isPointer 39 = .ok (.iconst 0, 1) := by decide +kernel
theorem dX8_isPointer_40 : decode cX8_isPointer 40 = .ok (.ireturn, 1) := by decide +kernel
def F_X8_isPointer (x0 : Int32) (Q : VP) (post : Int32 → Prop) : Prop :=
  (x0 < 0 → post ((0 : Int32))) ∧ (¬ x0 < 0 → ((15 : Int32) < x0 / 1000 → post ((0 : Int32))) ∧ (¬ (15 : Int32) < x0 / 1000 → ((7 : Int32) < (x0 / 100) - (x0 / 100) / 10 * 10 → post ((0 : Int32))) ∧ (¬ (7 : Int32) < (x0 / 100) - (x0 / 100) / 10 * 10 → ((23 : Int32) < x0 - x0 / 100 * 100 → post ((0 : Int32))) ∧ (¬ (23 : Int32) < x0 - x0 / 100 * 100 → post ((1 : Int32))))))
set_option maxRecDepth 4000 in
theorem s_X8_isPointer {l : Launch} {g : vG} {x0 : Int32} {P Q : VP} {post : Int32 → Prop}  (h : F_X8_isPointer x0 Q post) : VC l g yX8_isPointer cX8_isPointer 1 (some .boolean) 0 [vI x0] (vjn P Q) (vpI (vjn P Q) post) := by
  refine VC.of (by decide +kernel) (Nat.le_of_ble_eq_true rfl) (show VM l g RX8 cX8_isPointer 1 (some .boolean) 0 (vpI (vjn P Q) post) 0 [(0, vI x0)] [] (vjn P Q) from ?_)
  unfold F_X8_isPointer at h
  refine vr_iload_n 0 0 dX8_isPointer_0 rfl rfl ?_
  refine vr_iflt 39 dX8_isPointer_1 (by decide) (fun c1 => ?_) (fun c1 => ?_)
  · have h := h.1 c1
    refine vr_iconst 0 dX8_isPointer_39 (by decide) ?_
    exact vr_zret rfl (Or.inl rfl) ⟨rfl, _, rfl, h⟩ dX8_isPointer_40
  · have h := h.2 c1
    refine vr_iload_n 0 0 dX8_isPointer_4 rfl rfl ?_
    refine vr_sipush 1000 dX8_isPointer_5 (by decide) ?_
    refine vr_idiv dX8_isPointer_8 (by decide) ?_
    refine vr_bipush 15 dX8_isPointer_9 (by decide) ?_
    refine vr_icmpgt 39 dX8_isPointer_11 (by decide) (fun c11 => ?_) (fun c11 => ?_)
    · have h := h.1 c11
      refine vr_iconst 0 dX8_isPointer_39 (by decide) ?_
      exact vr_zret rfl (Or.inl rfl) ⟨rfl, _, rfl, h⟩ dX8_isPointer_40
    · have h := h.2 c11
      refine vr_iload_n 0 0 dX8_isPointer_14 rfl rfl ?_
      refine vr_bipush 100 dX8_isPointer_15 (by decide) ?_
      refine vr_idiv dX8_isPointer_17 (by decide) ?_
      refine vr_bipush 10 dX8_isPointer_18 (by decide) ?_
      refine vr_irem dX8_isPointer_20 (by decide) ?_
      refine vr_bipush 7 dX8_isPointer_21 (by decide) ?_
      refine vr_icmpgt 39 dX8_isPointer_23 (by decide) (fun c23 => ?_) (fun c23 => ?_)
      · have h := h.1 c23
        refine vr_iconst 0 dX8_isPointer_39 (by decide) ?_
        exact vr_zret rfl (Or.inl rfl) ⟨rfl, _, rfl, h⟩ dX8_isPointer_40
      · have h := h.2 c23
        refine vr_iload_n 0 0 dX8_isPointer_26 rfl rfl ?_
        refine vr_bipush 100 dX8_isPointer_27 (by decide) ?_
        refine vr_irem dX8_isPointer_29 (by decide) ?_
        refine vr_bipush 23 dX8_isPointer_30 (by decide) ?_
        refine vr_icmpgt 39 dX8_isPointer_32 (by decide) (fun c32 => ?_) (fun c32 => ?_)
        · have h := h.1 c32
          refine vr_iconst 0 dX8_isPointer_39 (by decide) ?_
          exact vr_zret rfl (Or.inl rfl) ⟨rfl, _, rfl, h⟩ dX8_isPointer_40
        · have h := h.2 c32
          refine vr_iconst 1 dX8_isPointer_35 (by decide) ?_
          refine vr_goto 40 dX8_isPointer_36 (by decide) ?_
          exact vr_zret rfl (Or.inr rfl) ⟨rfl, _, rfl, h⟩ dX8_isPointer_40
theorem dX8_pointer_0 : decode cX8_pointer 0 = .ok (.aload_n 0, 1) := by decide +kernel
theorem dX8_pointer_1 : decode cX8_pointer 1 = .ok (.iload_n 1, 1) := by decide +kernel
theorem dX8_pointer_2 : decode cX8_pointer 2 = .ok (.invokevirtual 95, 3) := by decide +kernel
theorem dX8_pointer_5 : decode cX8_pointer 5 = .ok (.ifCond .eq 10, 3) := by decide +kernel
theorem dX8_pointer_8 : decode cX8_pointer 8 = .ok (.iload_n 3, 1) := by decide +kernel
theorem dX8_pointer_9 : decode cX8_pointer 9 = .ok (.invokestatic 127, 3) := by decide +kernel
theorem dX8_pointer_12 : decode cX8_pointer 12 = .ok (.ifCond .ne 5, 3) := by decide +kernel
theorem dX8_pointer_15 : decode cX8_pointer 15 = .ok (.iconst (-1), 1) := by decide +kernel
theorem dX8_pointer_16 : decode cX8_pointer 16 = .ok (.ireturn, 1) := by decide +kernel
theorem dX8_pointer_17 : decode cX8_pointer 17 = .ok (.aload_n 0, 1) := by decide +kernel
theorem dX8_pointer_18 : decode cX8_pointer 18 = .ok (.iload_n 1, 1) := by decide +kernel
theorem dX8_pointer_19 : decode cX8_pointer 19 = .ok (.iload_n 2, 1) := by decide +kernel
theorem dX8_pointer_20 : decode cX8_pointer 20 = .ok (.iload 4, 2) := by decide +kernel
theorem dX8_pointer_22 : decode cX8_pointer 22 = .ok (.ifCond .eq 7, 3) := by decide +kernel
theorem dX8_pointer_25 : decode cX8_pointer 25 = .ok (.iconst 3, 1) := by decide +kernel
theorem dX8_pointer_26 : decode cX8_pointer 26 = .ok (.goto 4, 3) := by decide +kernel
theorem dX8_pointer_29 : decode cX8_pointer 29 = .ok (.iconst 2, 1) := by decide +kernel
theorem dX8_pointer_30 : decode cX8_pointer 30 = .ok (.iload_n 3, 1) := by decide +kernel
theorem dX8_pointer_31 : decode cX8_pointer 31 = .ok (.bipush 100, 2) := by decide +kernel
theorem dX8_pointer_33 : decode cX8_pointer 33 = .ok (.idiv, 1) := by decide +kernel
theorem dX8_pointer_34 : decode cX8_pointer 34 = .ok (.bipush 10, 2) := by decide +kernel
theorem dX8_pointer_36 : decode cX8_pointer 36 = .ok (.irem, 1) := by decide +kernel
theorem dX8_pointer_37 : decode cX8_pointer 37 = .ok (.iload_n 3, 1) := by decide +kernel
theorem dX8_pointer_38 : decode cX8_pointer 38 = .ok (.sipush 1000, 3) := by decide +kernel
theorem dX8_pointer_41 : decode cX8_pointer 41 = .ok (.idiv, 1) := by decide +kernel
theorem dX8_pointer_42 : decode cX8_pointer 42 = .ok (.iload_n 3, 1) := by decide +kernel
theorem dX8_pointer_43 : decode cX8_pointer 43 = .ok (.bipush 100, 2) := by decide +kernel
theorem dX8_pointer_45 : decode cX8_pointer 45 = .ok (.irem, 1) := by decide +kernel
theorem dX8_pointer_46 : decode cX8_pointer 46 = .ok (.invokevirtual 123, 3) := by decide +kernel
theorem dX8_pointer_49 : decode cX8_pointer 49 = .ok (.ireturn, 1) := by decide +kernel
def F_X8_pointer_b30 (x1 : Int32) (x2 : Int32) (x3 : Int32) (x4 : Int32) (Q : VP) (post : Int32 → VP → Prop)  (t0 : Int32) : Prop :=
  F_X8_becomes x1 x2 t0 ((x3 / 100) - (x3 / 100) / 10 * 10) (x3 / 1000) (x3 - x3 / 100 * 100) Q (fun r46 Q46 => post r46 Q46)
set_option maxRecDepth 4000 in
theorem s_X8_pointer_b30 {l : Launch} {g : vG} {x1 : Int32} {x2 : Int32} {x3 : Int32} {x4 : Int32} {P Q : VP} {post : Int32 → VP → Prop}  {t0 : Int32}    (h : F_X8_pointer_b30 x1 x2 x3 x4 Q post  t0) : VM l g RX8 cX8_pointer 5 (some .int) 3 (vmI P post) 30 [(3, vI x3)] [vI t0, vI x2, vI x1, vR 22 0] (vjn P Q) := by
  unfold F_X8_pointer_b30 at h
  refine vr_iload_n 3 0 dX8_pointer_30 rfl rfl ?_
  refine vr_bipush 100 dX8_pointer_31 (by decide) ?_
  refine vr_idiv dX8_pointer_33 (by decide) ?_
  refine vr_bipush 10 dX8_pointer_34 (by decide) ?_
  refine vr_irem dX8_pointer_36 (by decide) ?_
  refine vr_iload_n 3 0 dX8_pointer_37 rfl rfl ?_
  refine vr_sipush 1000 dX8_pointer_38 (by decide) ?_
  refine vr_idiv dX8_pointer_41 (by decide) ?_
  refine vr_iload_n 3 0 dX8_pointer_42 rfl rfl ?_
  refine vr_bipush 100 dX8_pointer_43 (by decide) ?_
  refine vr_irem dX8_pointer_45 (by decide) ?_
  refine vr_callV RX8 (s_X8_becomes h) rfl (by decide) rfl rfl rfl ml_8_123 rfl yh_X8_becomes rfl ⟨Nat.le_of_ble_eq_true rfl, Nat.le_of_ble_eq_true rfl⟩ (Nat.le_of_ble_eq_true rfl) ⟨Nat.zero_le _, Nat.zero_le _⟩ dX8_pointer_46 (kmi fun r46 Q46 h => ?_)
  exact vr_iret rfl ⟨_, _, rfl, rfl, h⟩ dX8_pointer_49
def F_X8_pointer (x1 : Int32) (x2 : Int32) (x3 : Int32) (x4 : Int32) (Q : VP) (post : Int32 → VP → Prop) : Prop :=
  F_X8_isSegment x1 Q (fun r2 => (r2 = 0 → post (((-1) : Int32)) Q) ∧ (¬ r2 = 0 → F_X8_isPointer x3 Q (fun r9 => (r9 = 0 → post (((-1) : Int32)) Q) ∧ (¬ r9 = 0 → (x4 = 0 → F_X8_pointer_b30 x1 x2 x3 x4 Q post  ((2 : Int32))) ∧ (¬ x4 = 0 → F_X8_pointer_b30 x1 x2 x3 x4 Q post  ((3 : Int32)))))))
set_option maxRecDepth 4000 in
theorem s_X8_pointer {l : Launch} {g : vG} {x1 : Int32} {x2 : Int32} {x3 : Int32} {x4 : Int32} {P Q : VP} {post : Int32 → VP → Prop}  (h : F_X8_pointer x1 x2 x3 x4 Q post) : VC l g yX8_pointer cX8_pointer 5 (some .int) 3 [vR 22 0, vI x1, vI x2, vI x3, vI x4] (vjn P Q) (vmI P post) := by
  refine VC.of (by decide +kernel) (Nat.le_of_ble_eq_true rfl) (show VM l g RX8 cX8_pointer 5 (some .int) 3 (vmI P post) 0 [(0, vR 22 0), (1, vI x1), (2, vI x2), (3, vI x3), (4, vI x4)] [] (vjn P Q) from ?_)
  unfold F_X8_pointer at h
  refine vr_aload_n 0 0 dX8_pointer_0 rfl rfl ?_
  refine vr_iload_n 1 1 dX8_pointer_1 rfl rfl ?_
  refine vr_callV RX8 (s_X8_isSegment h) rfl (by decide) rfl rfl rfl ml_8_95 rfl yh_X8_isSegment rfl ⟨Nat.le_of_ble_eq_true rfl, Nat.le_of_ble_eq_true rfl⟩ (Nat.le_of_ble_eq_true rfl) ⟨Nat.zero_le _, Nat.zero_le _⟩ dX8_pointer_2 (ki fun r2 h => ?_)
  refine vr_ifeq 15 dX8_pointer_5 (by decide) (fun c5 => ?_) (fun c5 => ?_)
  · have h := h.1 c5
    refine vr_iconst (-1) dX8_pointer_15 (by decide) ?_
    exact vr_iret rfl ⟨_, _, rfl, rfl, h⟩ dX8_pointer_16
  · have h := h.2 c5
    refine vr_iload_n 3 3 dX8_pointer_8 rfl rfl ?_
    refine vr_callS RX8 (s_X8_isPointer h) rfl rfl ml_8_127 rfl yh_X8_isPointer rfl ⟨Nat.le_of_ble_eq_true rfl, Nat.le_of_ble_eq_true rfl⟩ (Nat.le_of_ble_eq_true rfl) ⟨Nat.zero_le _, Nat.zero_le _⟩ dX8_pointer_9 (ki fun r9 h => ?_)
    refine vr_ifne 17 dX8_pointer_12 (by decide) (fun c12 => ?_) (fun c12 => ?_)
    · have h := h.1 c12
      refine vr_iconst (-1) dX8_pointer_15 (by decide) ?_
      exact vr_iret rfl ⟨_, _, rfl, rfl, h⟩ dX8_pointer_16
    · have h := h.2 c12
      refine vr_aload_n 0 0 dX8_pointer_17 rfl rfl ?_
      refine vr_iload_n 1 1 dX8_pointer_18 rfl rfl ?_
      refine vr_iload_n 2 2 dX8_pointer_19 rfl rfl ?_
      refine vr_iload 4 dX8_pointer_20 rfl ?_
      refine vr_ifeq 29 dX8_pointer_22 (by decide) (fun c22 => ?_) (fun c22 => ?_)
      · have h := h.1 c22
        refine vr_iconst 2 dX8_pointer_29 (by decide) ?_
        refine vr_sub [3] [(3, vI x3)] rfl ?_
        exact s_X8_pointer_b30   h
      · have h := h.2 c22
        refine vr_iconst 3 dX8_pointer_25 (by decide) ?_
        refine vr_goto 30 dX8_pointer_26 (by decide) ?_
        refine vr_sub [3] [(3, vI x3)] rfl ?_
        exact s_X8_pointer_b30   h
theorem dX8_link_0 : decode cX8_link 0 = .ok (.aload_n 0, 1) := by decide +kernel
theorem dX8_link_1 : decode cX8_link 1 = .ok (.iload_n 1, 1) := by decide +kernel
theorem dX8_link_2 : decode cX8_link 2 = .ok (.invokevirtual 95, 3) := by decide +kernel
theorem dX8_link_5 : decode cX8_link 5 = .ok (.ifCond .eq 42, 3) := by decide +kernel
theorem dX8_link_8 : decode cX8_link 8 = .ok (.iload_n 3, 1) := by decide +kernel
theorem dX8_link_9 : decode cX8_link 9 = .ok (.i2l, 1) := by decide +kernel
theorem dX8_link_10 : decode cX8_link 10 = .ok (.lconst 0, 1) := by decide +kernel
theorem dX8_link_11 : decode cX8_link 11 = .ok (.ldc2_w 79, 3) := by decide +kernel
theorem dX8_link_14 : decode cX8_link 14 = .ok (.invokestatic 54, 3) := by decide +kernel
theorem dX8_link_17 : decode cX8_link 17 = .ok (.ifCond .eq 30, 3) := by decide +kernel
theorem dX8_link_20 : decode cX8_link 20 = .ok (.iload 4, 2) := by decide +kernel
theorem dX8_link_22 : decode cX8_link 22 = .ok (.i2l, 1) := by decide +kernel
theorem dX8_link_23 : decode cX8_link 23 = .ok (.lconst 0, 1) := by decide +kernel
theorem dX8_link_24 : decode cX8_link 24 = .ok (.ldc2_w 130, 3) := by decide +kernel
theorem dX8_link_27 : decode cX8_link 27 = .ok (.invokestatic 54, 3) := by decide +kernel
theorem dX8_link_30 : decode cX8_link 30 = .ok (.ifCond .eq 17, 3) := by decide +kernel
theorem dX8_link_33 : decode cX8_link 33 = .ok (.aload_n 0, 1) := by decide +kernel
theorem dX8_link_34 : decode cX8_link 34 = .ok (.iload_n 1, 1) := by decide +kernel
theorem dX8_link_35 : decode cX8_link 35 = .ok (.iload_n 2, 1) := by decide +kernel
theorem dX8_link_36 : decode cX8_link 36 = .ok (.iconst 4, 1) := by decide +kernel
theorem dX8_link_37 : decode cX8_link 37 = .ok (.iload_n 3, 1) := by decide +kernel
theorem dX8_link_38 : decode cX8_link 38 = .ok (.iload 4, 2) := by decide +kernel
theorem dX8_link_40 : decode cX8_link 40 = .ok (.iconst 0, 1) := by decide +kernel
theorem dX8_link_41 : decode cX8_link 41 = .ok (.invokevirtual 123, 3) := by decide +kernel
theorem dX8_link_44 : decode cX8_link 44 = .ok (.goto 4, 3) := by decide +kernel
theorem dX8_link_47 : decode cX8_link 47 = .ok (.iconst (-1), 1) := by decide +kernel
theorem dX8_link_48 : decode cX8_link 48 = .ok (.ireturn, 1) := by decide +kernel
def F_X8_link (x1 : Int32) (x2 : Int32) (x3 : Int32) (x4 : Int32) (Q : VP) (post : Int32 → VP → Prop) : Prop :=
  F_X8_isSegment x1 Q (fun r2 => (r2 = 0 → post (((-1) : Int32)) Q) ∧ (¬ r2 = 0 → F_X8_in (Int32.toInt64 x3) 0 25 Q (fun r14 => (r14 = 0 → post (((-1) : Int32)) Q) ∧ (¬ r14 = 0 → F_X8_in (Int32.toInt64 x4) 0 23 Q (fun r27 => (r27 = 0 → post (((-1) : Int32)) Q) ∧ (¬ r27 = 0 → F_X8_becomes x1 x2 ((4 : Int32)) x3 x4 ((0 : Int32)) Q (fun r41 Q41 => post r41 Q41)))))))
set_option maxRecDepth 4000 in
theorem s_X8_link {l : Launch} {g : vG} {x1 : Int32} {x2 : Int32} {x3 : Int32} {x4 : Int32} {P Q : VP} {post : Int32 → VP → Prop}  (h : F_X8_link x1 x2 x3 x4 Q post) : VC l g yX8_link cX8_link 5 (some .int) 3 [vR 22 0, vI x1, vI x2, vI x3, vI x4] (vjn P Q) (vmI P post) := by
  refine VC.of (by decide +kernel) (Nat.le_of_ble_eq_true rfl) (show VM l g RX8 cX8_link 5 (some .int) 3 (vmI P post) 0 [(0, vR 22 0), (1, vI x1), (2, vI x2), (3, vI x3), (4, vI x4)] [] (vjn P Q) from ?_)
  unfold F_X8_link at h
  refine vr_aload_n 0 0 dX8_link_0 rfl rfl ?_
  refine vr_iload_n 1 1 dX8_link_1 rfl rfl ?_
  refine vr_callV RX8 (s_X8_isSegment h) rfl (by decide) rfl rfl rfl ml_8_95 rfl yh_X8_isSegment rfl ⟨Nat.le_of_ble_eq_true rfl, Nat.le_of_ble_eq_true rfl⟩ (Nat.le_of_ble_eq_true rfl) ⟨Nat.zero_le _, Nat.zero_le _⟩ dX8_link_2 (ki fun r2 h => ?_)
  refine vr_ifeq 47 dX8_link_5 (by decide) (fun c5 => ?_) (fun c5 => ?_)
  · have h := h.1 c5
    refine vr_iconst (-1) dX8_link_47 (by decide) ?_
    exact vr_iret rfl ⟨_, _, rfl, rfl, h⟩ dX8_link_48
  · have h := h.2 c5
    refine vr_iload_n 3 3 dX8_link_8 rfl rfl ?_
    refine vr_i2l dX8_link_9 ?_
    refine vr_lconst 0 dX8_link_10 (by decide) ?_
    refine vr_ldc2 25 ct_8_79 dX8_link_11 ?_
    refine vr_callS RX8 (s_X8_in h) rfl rfl ml_8_54 rfl yh_X8_in rfl ⟨Nat.le_of_ble_eq_true rfl, Nat.le_of_ble_eq_true rfl⟩ (Nat.le_of_ble_eq_true rfl) ⟨Nat.zero_le _, Nat.zero_le _⟩ dX8_link_14 (ki fun r14 h => ?_)
    refine vr_ifeq 47 dX8_link_17 (by decide) (fun c17 => ?_) (fun c17 => ?_)
    · have h := h.1 c17
      refine vr_iconst (-1) dX8_link_47 (by decide) ?_
      exact vr_iret rfl ⟨_, _, rfl, rfl, h⟩ dX8_link_48
    · have h := h.2 c17
      refine vr_iload 4 dX8_link_20 rfl ?_
      refine vr_i2l dX8_link_22 ?_
      refine vr_lconst 0 dX8_link_23 (by decide) ?_
      refine vr_ldc2 23 ct_8_130 dX8_link_24 ?_
      refine vr_callS RX8 (s_X8_in h) rfl rfl ml_8_54 rfl yh_X8_in rfl ⟨Nat.le_of_ble_eq_true rfl, Nat.le_of_ble_eq_true rfl⟩ (Nat.le_of_ble_eq_true rfl) ⟨Nat.zero_le _, Nat.zero_le _⟩ dX8_link_27 (ki fun r27 h => ?_)
      refine vr_ifeq 47 dX8_link_30 (by decide) (fun c30 => ?_) (fun c30 => ?_)
      · have h := h.1 c30
        refine vr_iconst (-1) dX8_link_47 (by decide) ?_
        exact vr_iret rfl ⟨_, _, rfl, rfl, h⟩ dX8_link_48
      · have h := h.2 c30
        refine vr_aload_n 0 0 dX8_link_33 rfl rfl ?_
        refine vr_iload_n 1 1 dX8_link_34 rfl rfl ?_
        refine vr_iload_n 2 2 dX8_link_35 rfl rfl ?_
        refine vr_iconst 4 dX8_link_36 (by decide) ?_
        refine vr_iload_n 3 3 dX8_link_37 rfl rfl ?_
        refine vr_iload 4 dX8_link_38 rfl ?_
        refine vr_iconst 0 dX8_link_40 (by decide) ?_
        refine vr_callV RX8 (s_X8_becomes h) rfl (by decide) rfl rfl rfl ml_8_123 rfl yh_X8_becomes rfl ⟨Nat.le_of_ble_eq_true rfl, Nat.le_of_ble_eq_true rfl⟩ (Nat.le_of_ble_eq_true rfl) ⟨Nat.zero_le _, Nat.zero_le _⟩ dX8_link_41 (kmi fun r41 Q41 h => ?_)
        refine vr_goto 48 dX8_link_44 (by decide) ?_
        exact vr_iret rfl ⟨_, _, rfl, rfl, h⟩ dX8_link_48
