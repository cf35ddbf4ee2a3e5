/-! X8_entered, X8_calls, X8_backs -/
theorem dX8_entered_0 : decode cX8_entered 0 = .ok (.aload_n 1, 1) := by decide +kernel
theorem dX8_entered_1 : decode cX8_entered 1 = .ok (.iload_n 2, 1) := by decide +kernel
theorem dX8_entered_2 : decode cX8_entered 2 = .ok (.iload_n 3, 1) := by decide +kernel
theorem dX8_entered_3 : decode cX8_entered 3 = .ok (.invokestatic 226, 3) := by decide +kernel
theorem dX8_entered_6 : decode cX8_entered 6 = .ok (.istore 5, 2) := by decide +kernel
theorem dX8_entered_8 : decode cX8_entered 8 = .ok (.iload 5, 2) := by decide +kernel
theorem dX8_entered_10 : decode cX8_entered 10 = .ok (.ifCond .eq 6, 3) := by decide +kernel
theorem dX8_entered_13 : decode cX8_entered 13 = .ok (.iload 5, 2) := by decide +kernel
theorem dX8_entered_15 : decode cX8_entered 15 = .ok (.ireturn, 1) := by decide +kernel
theorem dX8_entered_16 : decode cX8_entered 16 = .ok (.aload_n 1, 1) := by decide +kernel
theorem dX8_entered_17 : decode cX8_entered 17 = .ok (.sipush 160, 3) := by decide +kernel
theorem dX8_entered_20 : decode cX8_entered 20 = .ok (.iload_n 2, 1) := by decide +kernel
theorem dX8_entered_21 : decode cX8_entered 21 = .ok (.iadd, 1) := by decide +kernel
theorem dX8_entered_22 : decode cX8_entered 22 = .ok (.iaload, 1) := by decide +kernel
theorem dX8_entered_23 : decode cX8_entered 23 = .ok (.iconst 4, 1) := by decide +kernel
theorem dX8_entered_24 : decode cX8_entered 24 = .ok (.iand, 1) := by decide +kernel
theorem dX8_entered_25 : decode cX8_entered 25 = .ok (.ifCond .ne 6, 3) := by decide +kernel
theorem dX8_entered_28 : decode cX8_entered 28 = .ok (.bipush (-22), 2) := by decide +kernel
theorem dX8_entered_30 : decode cX8_entered 30 = .ok (.ireturn, 1) := by decide +kernel
theorem dX8_entered_31 : decode cX8_entered 31 = .ok (.iload 4, 2) := by decide +kernel
theorem dX8_entered_33 : decode cX8_entered 33 = .ok (.aload_n 1, 1) := by decide +kernel
theorem dX8_entered_34 : decode cX8_entered 34 = .ok (.bipush 112, 2) := by decide +kernel
theorem dX8_entered_36 : decode cX8_entered 36 = .ok (.iload_n 2, 1) := by decide +kernel
theorem dX8_entered_37 : decode cX8_entered 37 = .ok (.iadd, 1) := by decide +kernel
theorem dX8_entered_38 : decode cX8_entered 38 = .ok (.iaload, 1) := by decide +kernel
theorem dX8_entered_39 : decode cX8_entered 39 = .ok (.if_icmp .ge 10, 3) := by decide +kernel
theorem dX8_entered_42 : decode cX8_entered 42 = .ok (.aload_n 1, 1) := by decide +kernel
theorem dX8_entered_43 : decode cX8_entered 43 = .ok (.bipush 112, 2) := by decide +kernel
theorem dX8_entered_45 : decode cX8_entered 45 = .ok (.iload_n 2, 1) := by decide +kernel
theorem dX8_entered_46 : decode cX8_entered 46 = .ok (.iadd, 1) := by decide +kernel
theorem dX8_entered_47 : decode cX8_entered 47 = .ok (.iaload, 1) := by decide +kernel
theorem dX8_entered_48 : decode cX8_entered 48 = .ok (.ireturn, 1) := by decide +kernel
theorem dX8_entered_49 : decode cX8_entered 49 = .ok (.iload 4, 2) := by decide +kernel
theorem dX8_entered_51 : decode cX8_entered 51 = .ok (.aload_n 1, 1) := by decide +kernel
theorem dX8_entered_52 : decode cX8_entered 52 = .ok (.sipush 128, 3) := by decide +kernel
theorem dX8_entered_55 : decode cX8_entered 55 = .ok (.iload_n 2, 1) := by decide +kernel
theorem dX8_entered_56 : decode cX8_entered 56 = .ok (.iadd, 1) := by decide +kernel
theorem dX8_entered_57 : decode cX8_entered 57 = .ok (.iaload, 1) := by decide +kernel
theorem dX8_entered_58 : decode cX8_entered 58 = .ok (.if_icmp .gt 6, 3) := by decide +kernel
theorem dX8_entered_61 : decode cX8_entered 61 = .ok (.iload 4, 2) := by decide +kernel
theorem dX8_entered_63 : decode cX8_entered 63 = .ok (.ireturn, 1) := by decide +kernel
theorem dX8_entered_64 : decode cX8_entered 64 = .ok (.iload 4, 2) := by decide +kernel
theorem dX8_entered_66 : decode cX8_entered 66 = .ok (.aload_n 1, 1) := by decide +kernel
theorem dX8_entered_67 : decode cX8_entered 67 = .ok (.sipush 144, 3) := by decide +kernel
theorem dX8_entered_70 : decode cX8_entered 70 = .ok (.iload_n 2, 1) := by decide +kernel
theorem dX8_entered_71 : decode cX8_entered 71 = .ok (.iadd, 1) := by decide +kernel
theorem dX8_entered_72 : decode cX8_entered 72 = .ok (.iaload, 1) := by decide +kernel
theorem dX8_entered_73 : decode cX8_entered 73 = .ok (.if_icmp .le 8, 3) := by decide +kernel
theorem dX8_entered_76 : decode cX8_entered 76 = .ok (.bipush (-28), 2) := by decide +kernel
theorem dX8_entered_78 : decode cX8_entered 78 = .ok (.goto 26, 3) := by decide +kernel
theorem dX8_entered_81 : decode cX8_entered 81 = .ok (.iload_n 3, 1) := by decide +kernel
theorem dX8_entered_82 : decode cX8_entered 82 = .ok (.aload_n 1, 1) := by decide +kernel
theorem dX8_entered_83 : decode cX8_entered 83 = .ok (.sipush 176, 3) := by decide +kernel
theorem dX8_entered_86 : decode cX8_entered 86 = .ok (.iload_n 2, 1) := by decide +kernel
theorem dX8_entered_87 : decode cX8_entered 87 = .ok (.iadd, 1) := by decide +kernel
theorem dX8_entered_88 : decode cX8_entered 88 = .ok (.iaload, 1) := by decide +kernel
theorem dX8_entered_89 : decode cX8_entered 89 = .ok (.if_icmp .ge 13, 3) := by decide +kernel
theorem dX8_entered_92 : decode cX8_entered 92 = .ok (.aload_n 1, 1) := by decide +kernel
theorem dX8_entered_93 : decode cX8_entered 93 = .ok (.sipush 128, 3) := by decide +kernel
theorem dX8_entered_96 : decode cX8_entered 96 = .ok (.iload_n 2, 1) := by decide +kernel
theorem dX8_entered_97 : decode cX8_entered 97 = .ok (.iadd, 1) := by decide +kernel
theorem dX8_entered_98 : decode cX8_entered 98 = .ok (.iaload, 1) := by decide +kernel
theorem dX8_entered_99 : decode cX8_entered 99 = .ok (.goto 5, 3) := by decide +kernel
theorem dX8_entered_102 : decode cX8_entered 102 = .ok (.bipush (-27), 2) := by decide +kernel
theorem dX8_entered_104 : decode cX8_entered 104 = .ok (.ireturn, 1) := by decide +kernel
def F_X8_entered (k1 : Nat) (x2 : Int32) (x3 : Int32) (x4 : Int32) (Q : VP) (post : Int32 → Prop) : Prop :=
  F_X8_there k1 x2 x3 Q (fun r3 => (r3 = 0 → (0 ≤ 160 + x2 ∧ 160 + x2 < vlI k1) ∧ (((Q k1 0 (ix (160 + x2))) &&& 4 = 0 → post (((-22) : Int32))) ∧ (¬ (Q k1 0 (ix (160 + x2))) &&& 4 = 0 → (0 ≤ 112 + x2 ∧ 112 + x2 < vlI k1) ∧ ((x4 < Q k1 0 (ix (112 + x2)) → (0 ≤ 112 + x2 ∧ 112 + x2 < vlI k1) ∧ (post (Q k1 0 (ix (112 + x2))))) ∧ (¬ x4 < Q k1 0 (ix (112 + x2)) → (0 ≤ 128 + x2 ∧ 128 + x2 < vlI k1) ∧ ((Q k1 0 (ix (128 + x2)) < x4 → (0 ≤ 144 + x2 ∧ 144 + x2 < vlI k1) ∧ ((Q k1 0 (ix (144 + x2)) < x4 → post (((-28) : Int32))) ∧ (¬ Q k1 0 (ix (144 + x2)) < x4 → (0 ≤ 176 + x2 ∧ 176 + x2 < vlI k1) ∧ ((x3 < Q k1 0 (ix (176 + x2)) → (0 ≤ 128 + x2 ∧ 128 + x2 < vlI k1) ∧ (post (Q k1 0 (ix (128 + x2))))) ∧ (¬ x3 < Q k1 0 (ix (176 + x2)) → post (((-27) : Int32))))))) ∧ (¬ Q k1 0 (ix (128 + x2)) < x4 → post x4))))))) ∧ (¬ r3 = 0 → post r3))
set_option maxRecDepth 4000 in
theorem s_X8_entered {l : Launch} {g : vG} {k1 : Nat} {x2 : Int32} {x3 : Int32} {x4 : Int32} {P Q : VP} {post : Int32 → Prop} (hk1 : vQA k1 0) (h : F_X8_entered k1 x2 x3 x4 Q post) : VC l g yX8_entered cX8_entered 6 (some .int) 3 [vR 22 0, vR k1 0, vI x2, vI x3, vI x4] (vjn P Q) (vpI (vjn P Q) post) := by
  refine VC.of (by decide +kernel) (Nat.le_of_ble_eq_true rfl) (show VM l g RX8 cX8_entered 6 (some .int) 3 (vpI (vjn P Q) post) 0 [(0, vR 22 0), (1, vR k1 0), (2, vI x2), (3, vI x3), (4, vI x4)] [] (vjn P Q) from ?_)
  unfold F_X8_entered at h
  refine vr_aload_n 1 1 dX8_entered_0 rfl rfl ?_
  refine vr_iload_n 2 2 dX8_entered_1 rfl rfl ?_
  refine vr_iload_n 3 3 dX8_entered_2 rfl rfl ?_
  refine vr_callS RX8 (s_X8_there hk1 h) rfl rfl ml_8_226 rfl yh_X8_there rfl ⟨Nat.le_of_ble_eq_true rfl, Nat.le_of_ble_eq_true rfl⟩ (Nat.le_of_ble_eq_true rfl) ⟨Nat.zero_le _, Nat.zero_le _⟩ dX8_entered_3 (ki fun r3 h => ?_)
  refine vr_istore [(5, vI r3), (0, vR 22 0), (1, vR k1 0), (2, vI x2), (3, vI x3), (4, vI x4)] dX8_entered_6 (by decide) rfl ?_
  refine vr_iload 0 dX8_entered_8 rfl ?_
  refine vr_ifeq 16 dX8_entered_10 (by decide) (fun c10 => ?_) (fun c10 => ?_)
  · have h := h.1 c10
    refine vr_aload_n 1 2 dX8_entered_16 rfl rfl ?_
    refine vr_sipush 160 dX8_entered_17 (by decide) ?_
    refine vr_iload_n 2 3 dX8_entered_20 rfl rfl ?_
    refine vr_iadd dX8_entered_21 ?_
    have hi := h.1
    have h := h.2
    refine vr_ialdQ (vlI k1) hk1 rfl hi dX8_entered_22 ?_
    refine vr_iconst 4 dX8_entered_23 (by decide) ?_
    refine vr_iand dX8_entered_24 ?_
    refine vr_ifne 31 dX8_entered_25 (by decide) (fun c25 => ?_) (fun c25 => ?_)
    · have h := h.1 c25
      refine vr_bipush (-22) dX8_entered_28 (by decide) ?_
      exact vr_iret rfl ⟨rfl, _, rfl, h⟩ dX8_entered_30
    · have h := h.2 c25
      refine vr_iload 5 dX8_entered_31 rfl ?_
      refine vr_aload_n 1 2 dX8_entered_33 rfl rfl ?_
      refine vr_bipush 112 dX8_entered_34 (by decide) ?_
      refine vr_iload_n 2 3 dX8_entered_36 rfl rfl ?_
      refine vr_iadd dX8_entered_37 ?_
      have hi := h.1
      have h := h.2
      refine vr_ialdQ (vlI k1) hk1 rfl hi dX8_entered_38 ?_
      refine vr_icmpge 49 dX8_entered_39 (by decide) (fun c39 => ?_) (fun c39 => ?_)
      · have h := h.1 c39
        refine vr_aload_n 1 2 dX8_entered_42 rfl rfl ?_
        refine vr_bipush 112 dX8_entered_43 (by decide) ?_
        refine vr_iload_n 2 3 dX8_entered_45 rfl rfl ?_
        refine vr_iadd dX8_entered_46 ?_
        have hi := h.1
        have h := h.2
        refine vr_ialdQ (vlI k1) hk1 rfl hi dX8_entered_47 ?_
        exact vr_iret rfl ⟨rfl, _, rfl, h⟩ dX8_entered_48
      · have h := h.2 c39
        refine vr_iload 5 dX8_entered_49 rfl ?_
        refine vr_aload_n 1 2 dX8_entered_51 rfl rfl ?_
        refine vr_sipush 128 dX8_entered_52 (by decide) ?_
        refine vr_iload_n 2 3 dX8_entered_55 rfl rfl ?_
        refine vr_iadd dX8_entered_56 ?_
        have hi := h.1
        have h := h.2
        refine vr_ialdQ (vlI k1) hk1 rfl hi dX8_entered_57 ?_
        refine vr_icmpgt 64 dX8_entered_58 (by decide) (fun c58 => ?_) (fun c58 => ?_)
        · have h := h.1 c58
          refine vr_iload 5 dX8_entered_64 rfl ?_
          refine vr_aload_n 1 2 dX8_entered_66 rfl rfl ?_
          refine vr_sipush 144 dX8_entered_67 (by decide) ?_
          refine vr_iload_n 2 3 dX8_entered_70 rfl rfl ?_
          refine vr_iadd dX8_entered_71 ?_
          have hi := h.1
          have h := h.2
          refine vr_ialdQ (vlI k1) hk1 rfl hi dX8_entered_72 ?_
          refine vr_icmple 81 dX8_entered_73 (by decide) (fun c73 => ?_) (fun c73 => ?_)
          · have h := h.1 c73
            refine vr_bipush (-28) dX8_entered_76 (by decide) ?_
            refine vr_goto 104 dX8_entered_78 (by decide) ?_
            exact vr_iret rfl ⟨rfl, _, rfl, h⟩ dX8_entered_104
          · have h := h.2 c73
            refine vr_iload_n 3 4 dX8_entered_81 rfl rfl ?_
            refine vr_aload_n 1 2 dX8_entered_82 rfl rfl ?_
            refine vr_sipush 176 dX8_entered_83 (by decide) ?_
            refine vr_iload_n 2 3 dX8_entered_86 rfl rfl ?_
            refine vr_iadd dX8_entered_87 ?_
            have hi := h.1
            have h := h.2
            refine vr_ialdQ (vlI k1) hk1 rfl hi dX8_entered_88 ?_
            refine vr_icmpge 102 dX8_entered_89 (by decide) (fun c89 => ?_) (fun c89 => ?_)
            · have h := h.1 c89
              refine vr_aload_n 1 2 dX8_entered_92 rfl rfl ?_
              refine vr_sipush 128 dX8_entered_93 (by decide) ?_
              refine vr_iload_n 2 3 dX8_entered_96 rfl rfl ?_
              refine vr_iadd dX8_entered_97 ?_
              have hi := h.1
              have h := h.2
              refine vr_ialdQ (vlI k1) hk1 rfl hi dX8_entered_98 ?_
              refine vr_goto 104 dX8_entered_99 (by decide) ?_
              exact vr_iret rfl ⟨rfl, _, rfl, h⟩ dX8_entered_104
            · have h := h.2 c89
              refine vr_bipush (-27) dX8_entered_102 (by decide) ?_
              exact vr_iret rfl ⟨rfl, _, rfl, h⟩ dX8_entered_104
        · have h := h.2 c58
          refine vr_iload 5 dX8_entered_61 rfl ?_
          exact vr_iret rfl ⟨rfl, _, rfl, h⟩ dX8_entered_63
  · have h := h.2 c10
    refine vr_iload 0 dX8_entered_13 rfl ?_
    exact vr_iret rfl ⟨rfl, _, rfl, h⟩ dX8_entered_15
theorem dX8_calls_0 : decode cX8_calls 0 = .ok (.aload_n 1, 1) := by decide +kernel
theorem dX8_calls_1 : decode cX8_calls 1 = .ok (.iconst 5, 1) := by decide +kernel
theorem dX8_calls_2 : decode cX8_calls 2 = .ok (.iaload, 1) := by decide +kernel
theorem dX8_calls_3 : decode cX8_calls 3 = .ok (.istore 6, 2) := by decide +kernel
theorem dX8_calls_5 : decode cX8_calls 5 = .ok (.aload_n 0, 1) := by decide +kernel
theorem dX8_calls_6 : decode cX8_calls 6 = .ok (.aload_n 1, 1) := by decide +kernel
theorem dX8_calls_7 : decode cX8_calls 7 = .ok (.iload_n 2, 1) := by decide +kernel
theorem dX8_calls_8 : decode cX8_calls 8 = .ok (.iload 4, 2) := by decide +kernel
theorem dX8_calls_10 : decode cX8_calls 10 = .ok (.iload 6, 2) := by decide +kernel
theorem dX8_calls_12 : decode cX8_calls 12 = .ok (.invokevirtual 244, 3) := by decide +kernel
theorem dX8_calls_15 : decode cX8_calls 15 = .ok (.istore 7, 2) := by decide +kernel
theorem dX8_calls_17 : decode cX8_calls 17 = .ok (.iload 7, 2) := by decide +kernel
theorem dX8_calls_19 : decode cX8_calls 19 = .ok (.ifCond .eq 6, 3) := by decide +kernel
theorem dX8_calls_22 : decode cX8_calls 22 = .ok (.iload 7, 2) := by decide +kernel
theorem dX8_calls_24 : decode cX8_calls 24 = .ok (.ireturn, 1) := by decide +kernel
theorem dX8_calls_25 : decode cX8_calls 25 = .ok (.aload_n 0, 1) := by decide +kernel
theorem dX8_calls_26 : decode cX8_calls 26 = .ok (.getfield 220, 3) := by decide +kernel
theorem dX8_calls_29 : decode cX8_calls 29 = .ok (.istore 8, 2) := by decide +kernel
theorem dX8_calls_31 : decode cX8_calls 31 = .ok (.aload_n 0, 1) := by decide +kernel
theorem dX8_calls_32 : decode cX8_calls 32 = .ok (.getfield 223, 3) := by decide +kernel
theorem dX8_calls_35 : decode cX8_calls 35 = .ok (.istore 9, 2) := by decide +kernel
theorem dX8_calls_37 : decode cX8_calls 37 = .ok (.aload_n 0, 1) := by decide +kernel
theorem dX8_calls_38 : decode cX8_calls 38 = .ok (.getfield 217, 3) := by decide +kernel
theorem dX8_calls_41 : decode cX8_calls 41 = .ok (.istore 10, 2) := by decide +kernel
theorem dX8_calls_43 : decode cX8_calls 43 = .ok (.aload_n 0, 1) := by decide +kernel
theorem dX8_calls_44 : decode cX8_calls 44 = .ok (.aload_n 1, 1) := by decide +kernel
theorem dX8_calls_45 : decode cX8_calls 45 = .ok (.iload 8, 2) := by decide +kernel
theorem dX8_calls_47 : decode cX8_calls 47 = .ok (.iload 9, 2) := by decide +kernel
theorem dX8_calls_49 : decode cX8_calls 49 = .ok (.iload 10, 2) := by decide +kernel
theorem dX8_calls_51 : decode cX8_calls 51 = .ok (.invokevirtual 247, 3) := by decide +kernel
theorem dX8_calls_54 : decode cX8_calls 54 = .ok (.istore 11, 2) := by decide +kernel
theorem dX8_calls_56 : decode cX8_calls 56 = .ok (.iload 11, 2) := by decide +kernel
theorem dX8_calls_58 : decode cX8_calls 58 = .ok (.ifCond .ge 6, 3) := by decide +kernel
theorem dX8_calls_61 : decode cX8_calls 61 = .ok (.iload 11, 2) := by decide +kernel
theorem dX8_calls_63 : decode cX8_calls 63 = .ok (.ireturn, 1) := by decide +kernel
theorem dX8_calls_64 : decode cX8_calls 64 = .ok (.iload 10, 2) := by decide +kernel
theorem dX8_calls_66 : decode cX8_calls 66 = .ok (.aload_n 1, 1) := by decide +kernel
theorem dX8_calls_67 : decode cX8_calls 67 = .ok (.bipush 112, 2) := by decide +kernel
theorem dX8_calls_69 : decode cX8_calls 69 = .ok (.iload 8, 2) := by decide +kernel
theorem dX8_calls_71 : decode cX8_calls 71 = .ok (.iadd, 1) := by decide +kernel
theorem dX8_calls_72 : decode cX8_calls 72 = .ok (.iaload, 1) := by decide +kernel
theorem dX8_calls_73 : decode cX8_calls 73 = .ok (.if_icmp .ge 7, 3) := by decide +kernel
theorem dX8_calls_76 : decode cX8_calls 76 = .ok (.iconst 1, 1) := by decide +kernel
theorem dX8_calls_77 : decode cX8_calls 77 = .ok (.goto 4, 3) := by decide +kernel
theorem dX8_calls_80 : decode cX8_calls 80 = .ok (.iconst 0, 1) := by decide +kernel
theorem dX8_calls_81 : decode cX8_calls 81 = .ok (.istore 12, 2) := by decide +kernel
theorem dX8_calls_83 : decode cX8_calls 83 = .ok (.iconst 0, 1) := by decide +kernel
theorem dX8_calls_84 : decode cX8_calls 84 = .ok (.istore 13, 2) := by decide +kernel
theorem dX8_calls_86 : decode cX8_calls 86 = .ok (.iload 13, 2) := by decide +kernel
theorem dX8_calls_88 : decode cX8_calls 88 = .ok (.iload 5, 2) := by decide +kernel
theorem dX8_calls_90 : decode cX8_calls 90 = .ok (.if_icmp .ge 89, 3) := by decide +kernel
theorem dX8_calls_93 : decode cX8_calls 93 = .ok (.aload_n 0, 1) := by decide +kernel
theorem dX8_calls_94 : decode cX8_calls 94 = .ok (.aload_n 1, 1) := by decide +kernel
theorem dX8_calls_95 : decode cX8_calls 95 = .ok (.iload_n 2, 1) := by decide +kernel
theorem dX8_calls_96 : decode cX8_calls 96 = .ok (.iload 4, 2) := by decide +kernel
theorem dX8_calls_98 : decode cX8_calls 98 = .ok (.iconst 1, 1) := by decide +kernel
theorem dX8_calls_99 : decode cX8_calls 99 = .ok (.iadd, 1) := by decide +kernel
theorem dX8_calls_100 : decode cX8_calls 100 = .ok (.iload 13, 2) := by decide +kernel
theorem dX8_calls_102 : decode cX8_calls 102 = .ok (.iadd, 1) := by decide +kernel
theorem dX8_calls_103 : decode cX8_calls 103 = .ok (.iload 6, 2) := by decide +kernel
theorem dX8_calls_105 : decode cX8_calls 105 = .ok (.invokevirtual 244, 3) := by decide +kernel
theorem dX8_calls_108 : decode cX8_calls 108 = .ok (.istore 7, 2) := by decide +kernel
theorem dX8_calls_110 : decode cX8_calls 110 = .ok (.iload 7, 2) := by decide +kernel
theorem dX8_calls_112 : decode cX8_calls 112 = .ok (.ifCond .eq 6, 3) := by decide +kernel
theorem dX8_calls_115 : decode cX8_calls 115 = .ok (.iload 7, 2) := by decide +kernel
theorem dX8_calls_117 : decode cX8_calls 117 = .ok (.ireturn, 1) := by decide +kernel
theorem dX8_calls_118 : decode cX8_calls 118 = .ok (.aload_n 0, 1) := by decide +kernel
theorem dX8_calls_119 : decode cX8_calls 119 = .ok (.getfield 51, 3) := by decide +kernel
theorem dX8_calls_122 : decode cX8_calls 122 = .ok (.iconst 4, 1) := by decide +kernel
theorem dX8_calls_123 : decode cX8_calls 123 = .ok (.iload 13, 2) := by decide +kernel
theorem dX8_calls_125 : decode cX8_calls 125 = .ok (.imul, 1) := by decide +kernel
theorem dX8_calls_126 : decode cX8_calls 126 = .ok (.aload_n 0, 1) := by decide +kernel
theorem dX8_calls_127 : decode cX8_calls 127 = .ok (.getfield 217, 3) := by decide +kernel
theorem dX8_calls_130 : decode cX8_calls 130 = .ok (.iastore, 1) := by decide +kernel
theorem dX8_calls_131 : decode cX8_calls 131 = .ok (.aload_n 0, 1) := by decide +kernel
theorem dX8_calls_132 : decode cX8_calls 132 = .ok (.getfield 51, 3) := by decide +kernel
theorem dX8_calls_135 : decode cX8_calls 135 = .ok (.iconst 4, 1) := by decide +kernel
theorem dX8_calls_136 : decode cX8_calls 136 = .ok (.iload 13, 2) := by decide +kernel
theorem dX8_calls_138 : decode cX8_calls 138 = .ok (.imul, 1) := by decide +kernel
theorem dX8_calls_139 : decode cX8_calls 139 = .ok (.iconst 1, 1) := by decide +kernel
theorem dX8_calls_140 : decode cX8_calls 140 = .ok (.iadd, 1) := by decide +kernel
theorem dX8_calls_141 : decode cX8_calls 141 = .ok (.aload_n 0, 1) := by decide +kernel
theorem dX8_calls_142 : decode cX8_calls 142 = .ok (.getfield 220, 3) := by decide +kernel
theorem dX8_calls_145 : decode cX8_calls 145 = .ok (.iastore, 1) := by decide +kernel
theorem dX8_calls_146 : decode cX8_calls 146 = .ok (.aload_n 0, 1) := by decide +kernel
theorem dX8_calls_147 : decode cX8_calls 147 = .ok (.getfield 51, 3) := by decide +kernel
theorem dX8_calls_150 : decode cX8_calls 150 = .ok (.iconst 4, 1) := by decide +kernel
theorem dX8_calls_151 : decode cX8_calls 151 = .ok (.iload 13, 2) := by decide +kernel
theorem dX8_calls_153 : decode cX8_calls 153 = .ok (.imul, 1) := by decide +kernel
theorem dX8_calls_154 : decode cX8_calls 154 = .ok (.iconst 2, 1) := by decide +kernel
theorem dX8_calls_155 : decode cX8_calls 155 = .ok (.iadd, 1) := by decide +kernel
theorem dX8_calls_156 : decode cX8_calls 156 = .ok (.aload_n 0, 1) := by decide +kernel
theorem dX8_calls_157 : decode cX8_calls 157 = .ok (.getfield 223, 3) := by decide +kernel
theorem dX8_calls_160 : decode cX8_calls 160 = .ok (.iastore, 1) := by decide +kernel
theorem dX8_calls_161 : decode cX8_calls 161 = .ok (.aload_n 0, 1) := by decide +kernel
theorem dX8_calls_162 : decode cX8_calls 162 = .ok (.getfield 51, 3) := by decide +kernel
theorem dX8_calls_165 : decode cX8_calls 165 = .ok (.iconst 4, 1) := by decide +kernel
theorem dX8_calls_166 : decode cX8_calls 166 = .ok (.iload 13, 2) := by decide +kernel
theorem dX8_calls_168 : decode cX8_calls 168 = .ok (.imul, 1) := by decide +kernel
theorem dX8_calls_169 : decode cX8_calls 169 = .ok (.iconst 3, 1) := by decide +kernel
theorem dX8_calls_170 : decode cX8_calls 170 = .ok (.iadd, 1) := by decide +kernel
theorem dX8_calls_171 : decode cX8_calls 171 = .ok (.iconst 0, 1) := by decide +kernel
theorem dX8_calls_172 : decode cX8_calls 172 = .ok (.iastore, 1) := by decide +kernel
theorem dX8_calls_173 : decode cX8_calls 173 = .ok (.iinc 13 1, 3) := by decide +kernel
theorem dX8_calls_176 : decode cX8_calls 176 = .ok (.goto (-90), 3) := by decide +kernel
theorem dX8_calls_179 : decode cX8_calls 179 = .ok (.iconst 0, 1) := by decide +kernel
theorem dX8_calls_180 : decode cX8_calls 180 = .ok (.istore 13, 2) := by decide +kernel
theorem dX8_calls_182 : decode cX8_calls 182 = .ok (.iload 12, 2) := by decide +kernel
theorem dX8_calls_184 : decode cX8_calls 184 = .ok (.ifCond .eq 100, 3) := by decide +kernel
theorem dX8_calls_187 : decode cX8_calls 187 = .ok (.iload 13, 2) := by decide +kernel
theorem dX8_calls_189 : decode cX8_calls 189 = .ok (.iload 5, 2) := by decide +kernel
theorem dX8_calls_191 : decode cX8_calls 191 = .ok (.if_icmp .ge 93, 3) := by decide +kernel
theorem dX8_calls_194 : decode cX8_calls 194 = .ok (.aload_n 0, 1) := by decide +kernel
theorem dX8_calls_195 : decode cX8_calls 195 = .ok (.aload_n 1, 1) := by decide +kernel
theorem dX8_calls_196 : decode cX8_calls 196 = .ok (.aload_n 0, 1) := by decide +kernel
theorem dX8_calls_197 : decode cX8_calls 197 = .ok (.getfield 51, 3) := by decide +kernel
theorem dX8_calls_200 : decode cX8_calls 200 = .ok (.iconst 4, 1) := by decide +kernel
theorem dX8_calls_201 : decode cX8_calls 201 = .ok (.iload 13, 2) := by decide +kernel
theorem dX8_calls_203 : decode cX8_calls 203 = .ok (.imul, 1) := by decide +kernel
theorem dX8_calls_204 : decode cX8_calls 204 = .ok (.iconst 1, 1) := by decide +kernel
theorem dX8_calls_205 : decode cX8_calls 205 = .ok (.iadd, 1) := by decide +kernel
theorem dX8_calls_206 : decode cX8_calls 206 = .ok (.iaload, 1) := by decide +kernel
theorem dX8_calls_207 : decode cX8_calls 207 = .ok (.aload_n 0, 1) := by decide +kernel
theorem dX8_calls_208 : decode cX8_calls 208 = .ok (.getfield 51, 3) := by decide +kernel
theorem dX8_calls_211 : decode cX8_calls 211 = .ok (.iconst 4, 1) := by decide +kernel
theorem dX8_calls_212 : decode cX8_calls 212 = .ok (.iload 13, 2) := by decide +kernel
theorem dX8_calls_214 : decode cX8_calls 214 = .ok (.imul, 1) := by decide +kernel
theorem dX8_calls_215 : decode cX8_calls 215 = .ok (.iconst 2, 1) := by decide +kernel
theorem dX8_calls_216 : decode cX8_calls 216 = .ok (.iadd, 1) := by decide +kernel
theorem dX8_calls_217 : decode cX8_calls 217 = .ok (.iaload, 1) := by decide +kernel
theorem dX8_calls_218 : decode cX8_calls 218 = .ok (.aload_n 0, 1) := by decide +kernel
theorem dX8_calls_219 : decode cX8_calls 219 = .ok (.getfield 51, 3) := by decide +kernel
theorem dX8_calls_222 : decode cX8_calls 222 = .ok (.iconst 4, 1) := by decide +kernel
theorem dX8_calls_223 : decode cX8_calls 223 = .ok (.iload 13, 2) := by decide +kernel
theorem dX8_calls_225 : decode cX8_calls 225 = .ok (.imul, 1) := by decide +kernel
theorem dX8_calls_226 : decode cX8_calls 226 = .ok (.iaload, 1) := by decide +kernel
theorem dX8_calls_227 : decode cX8_calls 227 = .ok (.invokevirtual 250, 3) := by decide +kernel
theorem dX8_calls_230 : decode cX8_calls 230 = .ok (.istore 7, 2) := by decide +kernel
theorem dX8_calls_232 : decode cX8_calls 232 = .ok (.iload 7, 2) := by decide +kernel
theorem dX8_calls_234 : decode cX8_calls 234 = .ok (.ifCond .eq 6, 3) := by decide +kernel
theorem dX8_calls_237 : decode cX8_calls 237 = .ok (.iload 7, 2) := by decide +kernel
theorem dX8_calls_239 : decode cX8_calls 239 = .ok (.ireturn, 1) := by decide +kernel
theorem dX8_calls_240 : decode cX8_calls 240 = .ok (.aload_n 0, 1) := by decide +kernel
theorem dX8_calls_241 : decode cX8_calls 241 = .ok (.getfield 51, 3) := by decide +kernel
theorem dX8_calls_244 : decode cX8_calls 244 = .ok (.iconst 4, 1) := by decide +kernel
theorem dX8_calls_245 : decode cX8_calls 245 = .ok (.iload 13, 2) := by decide +kernel
theorem dX8_calls_247 : decode cX8_calls 247 = .ok (.imul, 1) := by decide +kernel
theorem dX8_calls_248 : decode cX8_calls 248 = .ok (.iconst 3, 1) := by decide +kernel
theorem dX8_calls_249 : decode cX8_calls 249 = .ok (.iadd, 1) := by decide +kernel
theorem dX8_calls_250 : decode cX8_calls 250 = .ok (.aload_n 1, 1) := by decide +kernel
theorem dX8_calls_251 : decode cX8_calls 251 = .ok (.aload_n 0, 1) := by decide +kernel
theorem dX8_calls_252 : decode cX8_calls 252 = .ok (.getfield 51, 3) := by decide +kernel
theorem dX8_calls_255 : decode cX8_calls 255 = .ok (.iconst 4, 1) := by decide +kernel
theorem dX8_calls_256 : decode cX8_calls 256 = .ok (.iload 13, 2) := by decide +kernel
theorem dX8_calls_258 : decode cX8_calls 258 = .ok (.imul, 1) := by decide +kernel
theorem dX8_calls_259 : decode cX8_calls 259 = .ok (.iconst 1, 1) := by decide +kernel
theorem dX8_calls_260 : decode cX8_calls 260 = .ok (.iadd, 1) := by decide +kernel
theorem dX8_calls_261 : decode cX8_calls 261 = .ok (.iaload, 1) := by decide +kernel
theorem dX8_calls_262 : decode cX8_calls 262 = .ok (.aload_n 0, 1) := by decide +kernel
theorem dX8_calls_263 : decode cX8_calls 263 = .ok (.getfield 51, 3) := by decide +kernel
theorem dX8_calls_266 : decode cX8_calls 266 = .ok (.iconst 4, 1) := by decide +kernel
theorem dX8_calls_267 : decode cX8_calls 267 = .ok (.iload 13, 2) := by decide +kernel
theorem dX8_calls_269 : decode cX8_calls 269 = .ok (.imul, 1) := by decide +kernel
theorem dX8_calls_270 : decode cX8_calls 270 = .ok (.iconst 2, 1) := by decide +kernel
theorem dX8_calls_271 : decode cX8_calls 271 = .ok (.iadd, 1) := by decide +kernel
theorem dX8_calls_272 : decode cX8_calls 272 = .ok (.iaload, 1) := by decide +kernel
theorem dX8_calls_273 : decode cX8_calls 273 = .ok (.iconst 1, 1) := by decide +kernel
theorem dX8_calls_274 : decode cX8_calls 274 = .ok (.invokestatic 136, 3) := by decide +kernel
theorem dX8_calls_277 : decode cX8_calls 277 = .ok (.iastore, 1) := by decide +kernel
theorem dX8_calls_278 : decode cX8_calls 278 = .ok (.iinc 13 1, 3) := by decide +kernel
theorem dX8_calls_281 : decode cX8_calls 281 = .ok (.goto (-99), 3) := by decide +kernel
theorem dX8_calls_284 : decode cX8_calls 284 = .ok (.aload_n 1, 1) := by decide +kernel
theorem dX8_calls_285 : decode cX8_calls 285 = .ok (.sipush 192, 3) := by decide +kernel
theorem dX8_calls_288 : decode cX8_calls 288 = .ok (.iload 11, 2) := by decide +kernel
theorem dX8_calls_290 : decode cX8_calls 290 = .ok (.iadd, 1) := by decide +kernel
theorem dX8_calls_291 : decode cX8_calls 291 = .ok (.iaload, 1) := by decide +kernel
theorem dX8_calls_292 : decode cX8_calls 292 = .ok (.istore 13, 2) := by decide +kernel
theorem dX8_calls_294 : decode cX8_calls 294 = .ok (.iload 13, 2) := by decide +kernel
theorem dX8_calls_296 : decode cX8_calls 296 = .ok (.bipush 6, 2) := by decide +kernel
theorem dX8_calls_298 : decode cX8_calls 298 = .ok (.if_icmp .ne 6, 3) := by decide +kernel
theorem dX8_calls_301 : decode cX8_calls 301 = .ok (.bipush (-29), 2) := by decide +kernel
theorem dX8_calls_303 : decode cX8_calls 303 = .ok (.ireturn, 1) := by decide +kernel
theorem dX8_calls_304 : decode cX8_calls 304 = .ok (.iload 11, 2) := by decide +kernel
theorem dX8_calls_306 : decode cX8_calls 306 = .ok (.iload 13, 2) := by decide +kernel
theorem dX8_calls_308 : decode cX8_calls 308 = .ok (.invokestatic 253, 3) := by decide +kernel
theorem dX8_calls_311 : decode cX8_calls 311 = .ok (.istore 14, 2) := by decide +kernel
theorem dX8_calls_313 : decode cX8_calls 313 = .ok (.aload_n 1, 1) := by decide +kernel
theorem dX8_calls_314 : decode cX8_calls 314 = .ok (.iload 14, 2) := by decide +kernel
theorem dX8_calls_316 : decode cX8_calls 316 = .ok (.iload_n 2, 1) := by decide +kernel
theorem dX8_calls_317 : decode cX8_calls 317 = .ok (.iastore, 1) := by decide +kernel
theorem dX8_calls_318 : decode cX8_calls 318 = .ok (.aload_n 1, 1) := by decide +kernel
theorem dX8_calls_319 : decode cX8_calls 319 = .ok (.iload 14, 2) := by decide +kernel
theorem dX8_calls_321 : decode cX8_calls 321 = .ok (.iconst 1, 1) := by decide +kernel
theorem dX8_calls_322 : decode cX8_calls 322 = .ok (.iadd, 1) := by decide +kernel
theorem dX8_calls_323 : decode cX8_calls 323 = .ok (.iload_n 3, 1) := by decide +kernel
theorem dX8_calls_324 : decode cX8_calls 324 = .ok (.iconst 1, 1) := by decide +kernel
theorem dX8_calls_325 : decode cX8_calls 325 = .ok (.iadd, 1) := by decide +kernel
theorem dX8_calls_326 : decode cX8_calls 326 = .ok (.iastore, 1) := by decide +kernel
theorem dX8_calls_327 : decode cX8_calls 327 = .ok (.aload_n 1, 1) := by decide +kernel
theorem dX8_calls_328 : decode cX8_calls 328 = .ok (.iload 14, 2) := by decide +kernel
theorem dX8_calls_330 : decode cX8_calls 330 = .ok (.iconst 2, 1) := by decide +kernel
theorem dX8_calls_331 : decode cX8_calls 331 = .ok (.iadd, 1) := by decide +kernel
theorem dX8_calls_332 : decode cX8_calls 332 = .ok (.iload 6, 2) := by decide +kernel
theorem dX8_calls_334 : decode cX8_calls 334 = .ok (.iastore, 1) := by decide +kernel
theorem dX8_calls_335 : decode cX8_calls 335 = .ok (.aload_n 1, 1) := by decide +kernel
theorem dX8_calls_336 : decode cX8_calls 336 = .ok (.iload 14, 2) := by decide +kernel
theorem dX8_calls_338 : decode cX8_calls 338 = .ok (.iconst 3, 1) := by decide +kernel
theorem dX8_calls_339 : decode cX8_calls 339 = .ok (.iadd, 1) := by decide +kernel
theorem dX8_calls_340 : decode cX8_calls 340 = .ok (.iload 5, 2) := by decide +kernel
theorem dX8_calls_342 : decode cX8_calls 342 = .ok (.iastore, 1) := by decide +kernel
theorem dX8_calls_343 : decode cX8_calls 343 = .ok (.aload_n 1, 1) := by decide +kernel
theorem dX8_calls_344 : decode cX8_calls 344 = .ok (.iload 14, 2) := by decide +kernel
theorem dX8_calls_346 : decode cX8_calls 346 = .ok (.iconst 4, 1) := by decide +kernel
theorem dX8_calls_347 : decode cX8_calls 347 = .ok (.iadd, 1) := by decide +kernel
theorem dX8_calls_348 : decode cX8_calls 348 = .ok (.iload 12, 2) := by decide +kernel
theorem dX8_calls_350 : decode cX8_calls 350 = .ok (.ifCond .eq 7, 3) := by decide +kernel
theorem dX8_calls_353 : decode cX8_calls 353 = .ok (.iconst 1, 1) := by decide +kernel
theorem dX8_calls_354 : decode cX8_calls 354 = .ok (.goto 4, 3) := by decide +kernel
theorem dX8_calls_357 : decode cX8_calls 357 = .ok (.iconst 0, 1) := by decide +kernel
theorem dX8_calls_358 : decode cX8_calls 358 = .ok (.iastore, 1) := by decide +kernel
theorem dX8_calls_359 : decode cX8_calls 359 = .ok (.iconst 0, 1) := by decide +kernel
theorem dX8_calls_360 : decode cX8_calls 360 = .ok (.istore 15, 2) := by decide +kernel
theorem dX8_calls_362 : decode cX8_calls 362 = .ok (.iload 15, 2) := by decide +kernel
theorem dX8_calls_364 : decode cX8_calls 364 = .ok (.iload 5, 2) := by decide +kernel
theorem dX8_calls_366 : decode cX8_calls 366 = .ok (.if_icmp .ge 63, 3) := by decide +kernel
theorem dX8_calls_369 : decode cX8_calls 369 = .ok (.iconst 0, 1) := by decide +kernel
theorem dX8_calls_370 : decode cX8_calls 370 = .ok (.istore 16, 2) := by decide +kernel
theorem dX8_calls_372 : decode cX8_calls 372 = .ok (.iload 16, 2) := by decide +kernel
theorem dX8_calls_374 : decode cX8_calls 374 = .ok (.iconst 4, 1) := by decide +kernel
theorem dX8_calls_375 : decode cX8_calls 375 = .ok (.if_icmp .ge 35, 3) := by decide +kernel
theorem dX8_calls_378 : decode cX8_calls 378 = .ok (.aload_n 1, 1) := by decide +kernel
theorem dX8_calls_379 : decode cX8_calls 379 = .ok (.iload 14, 2) := by decide +kernel
theorem dX8_calls_381 : decode cX8_calls 381 = .ok (.iconst 5, 1) := by decide +kernel
theorem dX8_calls_382 : decode cX8_calls 382 = .ok (.iadd, 1) := by decide +kernel
theorem dX8_calls_383 : decode cX8_calls 383 = .ok (.iconst 5, 1) := by decide +kernel
theorem dX8_calls_384 : decode cX8_calls 384 = .ok (.iload 15, 2) := by decide +kernel
theorem dX8_calls_386 : decode cX8_calls 386 = .ok (.imul, 1) := by decide +kernel
theorem dX8_calls_387 : decode cX8_calls 387 = .ok (.iadd, 1) := by decide +kernel
theorem dX8_calls_388 : decode cX8_calls 388 = .ok (.iload 16, 2) := by decide +kernel
theorem dX8_calls_390 : decode cX8_calls 390 = .ok (.iadd, 1) := by decide +kernel
theorem dX8_calls_391 : decode cX8_calls 391 = .ok (.aload_n 0, 1) := by decide +kernel
theorem dX8_calls_392 : decode cX8_calls 392 = .ok (.getfield 51, 3) := by decide +kernel
theorem dX8_calls_395 : decode cX8_calls 395 = .ok (.iconst 4, 1) := by decide +kernel
theorem dX8_calls_396 : decode cX8_calls 396 = .ok (.iload 15, 2) := by decide +kernel
theorem dX8_calls_398 : decode cX8_calls 398 = .ok (.imul, 1) := by decide +kernel
theorem dX8_calls_399 : decode cX8_calls 399 = .ok (.iload 16, 2) := by decide +kernel
theorem dX8_calls_401 : decode cX8_calls 401 = .ok (.iadd, 1) := by decide +kernel
theorem dX8_calls_402 : decode cX8_calls 402 = .ok (.iaload, 1) := by decide +kernel
theorem dX8_calls_403 : decode cX8_calls 403 = .ok (.iastore, 1) := by decide +kernel
theorem dX8_calls_404 : decode cX8_calls 404 = .ok (.iinc 16 1, 3) := by decide +kernel
theorem dX8_calls_407 : decode cX8_calls 407 = .ok (.goto (-35), 3) := by decide +kernel
theorem dX8_calls_410 : decode cX8_calls 410 = .ok (.aload_n 1, 1) := by decide +kernel
theorem dX8_calls_411 : decode cX8_calls 411 = .ok (.iload 14, 2) := by decide +kernel
theorem dX8_calls_413 : decode cX8_calls 413 = .ok (.bipush 9, 2) := by decide +kernel
theorem dX8_calls_415 : decode cX8_calls 415 = .ok (.iadd, 1) := by decide +kernel
theorem dX8_calls_416 : decode cX8_calls 416 = .ok (.iconst 5, 1) := by decide +kernel
theorem dX8_calls_417 : decode cX8_calls 417 = .ok (.iload 15, 2) := by decide +kernel
theorem dX8_calls_419 : decode cX8_calls 419 = .ok (.imul, 1) := by decide +kernel
theorem dX8_calls_420 : decode cX8_calls 420 = .ok (.iadd, 1) := by decide +kernel
theorem dX8_calls_421 : decode cX8_calls 421 = .ok (.iconst 0, 1) := by decide +kernel
theorem dX8_calls_422 : decode cX8_calls 422 = .ok (.iastore, 1) := by decide +kernel
theorem dX8_calls_423 : decode cX8_calls 423 = .ok (.iinc 15 1, 3) := by decide +kernel
theorem dX8_calls_426 : decode cX8_calls 426 = .ok (.goto (-64), 3) := by decide +kernel
theorem dX8_calls_429 : decode cX8_calls 429 = .ok (.aload_n 1, 1) := by decide +kernel
theorem dX8_calls_430 : decode cX8_calls 430 = .ok (.sipush 192, 3) := by decide +kernel
theorem dX8_calls_433 : decode cX8_calls 433 = .ok (.iload 11, 2) := by decide +kernel
theorem dX8_calls_435 : decode cX8_calls 435 = .ok (.iadd, 1) := by decide +kernel
theorem dX8_calls_436 : decode cX8_calls 436 = .ok (.iload 13, 2) := by decide +kernel
theorem dX8_calls_438 : decode cX8_calls 438 = .ok (.iconst 1, 1) := by decide +kernel
theorem dX8_calls_439 : decode cX8_calls 439 = .ok (.iadd, 1) := by decide +kernel
theorem dX8_calls_440 : decode cX8_calls 440 = .ok (.iastore, 1) := by decide +kernel
theorem dX8_calls_441 : decode cX8_calls 441 = .ok (.aload_n 1, 1) := by decide +kernel
theorem dX8_calls_442 : decode cX8_calls 442 = .ok (.iconst 3, 1) := by decide +kernel
theorem dX8_calls_443 : decode cX8_calls 443 = .ok (.iload 8, 2) := by decide +kernel
theorem dX8_calls_445 : decode cX8_calls 445 = .ok (.iastore, 1) := by decide +kernel
theorem dX8_calls_446 : decode cX8_calls 446 = .ok (.aload_n 1, 1) := by decide +kernel
theorem dX8_calls_447 : decode cX8_calls 447 = .ok (.iconst 4, 1) := by decide +kernel
theorem dX8_calls_448 : decode cX8_calls 448 = .ok (.iload 9, 2) := by decide +kernel
theorem dX8_calls_450 : decode cX8_calls 450 = .ok (.iastore, 1) := by decide +kernel
theorem dX8_calls_451 : decode cX8_calls 451 = .ok (.aload_n 1, 1) := by decide +kernel
theorem dX8_calls_452 : decode cX8_calls 452 = .ok (.iconst 5, 1) := by decide +kernel
theorem dX8_calls_453 : decode cX8_calls 453 = .ok (.iload 11, 2) := by decide +kernel
theorem dX8_calls_455 : decode cX8_calls 455 = .ok (.iastore, 1) := by decide +kernel
theorem dX8_calls_456 : decode cX8_calls 456 = .ok (.iconst 0, 1) := by decide +kernel
theorem dX8_calls_457 : decode cX8_calls 457 = .ok (.ireturn, 1) := by decide +kernel
def F_X8_calls_l372 (k1 : Nat) (x2 : Int32) (x3 : Int32) (x4 : Int32) (x5 : Int32)  (post : Int32 → VP → Prop) (X362 : Int32 → VP → Prop) (v8 : Int32) (v9 : Int32) (v11 : Int32) (v13 : Int32) (v14 : Int32) (v15 : Int32) (X : Int32 → VP → Prop) (v16 : Int32) (Q : VP) : Prop :=
  (v16 < 4 → (0 ≤ (4 * v15) + v16 ∧ (4 * v15) + v16 < 12) ∧ ((0 ≤ ((v14 + 5) + (5 * v15)) + v16 ∧ ((v14 + 5) + (5 * v15)) + v16 < vlI k1) ∧ (∀ Q403 : VP, Q403 = vup Q k1 0 (ix (((v14 + 5) + (5 * v15)) + v16)) (Q 28 0 (ix ((4 * v15) + v16))) → (X (v16 + 1) Q403)))) ∧ (¬ v16 < 4 → (0 ≤ (v14 + 9) + (5 * v15) ∧ (v14 + 9) + (5 * v15) < vlI k1) ∧ (∀ Q422 : VP, Q422 = vup Q k1 0 (ix ((v14 + 9) + (5 * v15))) 0 → (X362 (v15 + 1) Q422)))
set_option maxRecDepth 4000 in
theorem s_X8_calls_l372 {l : Launch} {g : vG} {k1 : Nat} {x2 : Int32} {x3 : Int32} {x4 : Int32} {x5 : Int32} {P : VP} {post : Int32 → VP → Prop} {X362 : Int32 → VP → Prop} {v8 : Int32} {v9 : Int32} {v11 : Int32} {v13 : Int32} {v14 : Int32} {v15 : Int32}  {v16 : Int32} {Q : VP} (hk1 : vQA k1 0) (hX362 : ∀ v15_ Q_, X362 v15_ Q_ → VM l g RX8 cX8_calls 17 (some .int) 4 (vmI P post) 362 [(0, vR 22 0), (1, vR k1 0), (5, vI x5), (8, vI v8), (9, vI v9), (11, vI v11), (13, vI v13), (14, vI v14), (15, vI v15_)] [] (vjn P Q_)) (h : vL2 (F_X8_calls_l372 k1 x2 x3 x4 x5  post X362 v8 v9 v11 v13 v14 v15) v16 Q) : VM l g RX8 cX8_calls 17 (some .int) 4 (vmI P post) 372 [(0, vR 22 0), (1, vR k1 0), (5, vI x5), (8, vI v8), (9, vI v9), (11, vI v11), (13, vI v13), (14, vI v14), (15, vI v15), (16, vI v16)] [] (vjn P Q) := by
  refine vL2_s (T := fun v16 Q => VM l g RX8 cX8_calls 17 (some .int) 4 (vmI P post) 372 [(0, vR 22 0), (1, vR k1 0), (5, vI x5), (8, vI v8), (9, vI v9), (11, vI v11), (13, vI v13), (14, vI v14), (15, vI v15), (16, vI v16)] [] (vjn P Q)) ?_ h
  clear h
  intro X hX v16 Q h
  unfold F_X8_calls_l372 at h
  refine vr_iload 9 dX8_calls_372 rfl ?_
  refine vr_iconst 4 dX8_calls_374 (by decide) ?_
  refine vr_icmpge 410 dX8_calls_375 (by decide) (fun c375 => ?_) (fun c375 => ?_)
  · have h := h.1 c375
    refine vr_aload_n 1 1 dX8_calls_378 rfl rfl ?_
    refine vr_iload 7 dX8_calls_379 rfl ?_
    refine vr_iconst 5 dX8_calls_381 (by decide) ?_
    refine vr_iadd dX8_calls_382 ?_
    refine vr_iconst 5 dX8_calls_383 (by decide) ?_
    refine vr_iload 8 dX8_calls_384 rfl ?_
    refine vr_imul dX8_calls_386 ?_
    refine vr_iadd dX8_calls_387 ?_
    refine vr_iload 9 dX8_calls_388 rfl ?_
    refine vr_iadd dX8_calls_390 ?_
    refine vr_aload_n 0 0 dX8_calls_391 rfl rfl ?_
    refine vg_22_16 RX8 rfl (by decide) fl_8_51 dX8_calls_392 ?_
    refine vr_iconst 4 dX8_calls_395 (by decide) ?_
    refine vr_iload 8 dX8_calls_396 rfl ?_
    refine vr_imul dX8_calls_398 ?_
    refine vr_iload 9 dX8_calls_399 rfl ?_
    refine vr_iadd dX8_calls_401 ?_
    have hi := h.1
    have h := h.2
    refine vr_ialdQ 12 ia_28 rfl hi dX8_calls_402 ?_
    have hi := h.1
    have h := h.2
    obtain ⟨Q403, eQ403⟩ : ∃ y : VP, y = vup Q k1 0 (ix (((v14 + 5) + (5 * v15)) + v16)) (Q 28 0 (ix ((4 * v15) + v16))) := ⟨_, rfl⟩
    have h := h Q403 eQ403
    refine vr_iastQ (vlI k1) hk1 rfl hi eQ403 dX8_calls_403 ?_
    refine vr_iinc (v16 + 1) 9 [(16, vI (v16 + 1)), (0, vR 22 0), (1, vR k1 0), (5, vI x5), (8, vI v8), (9, vI v9), (11, vI v11), (13, vI v13), (14, vI v14), (15, vI v15)] dX8_calls_404 rfl rfl (by decide) rfl ?_
    refine vr_goto 372 dX8_calls_407 (by decide) ?_
    refine vr_sub [1, 2, 3, 4, 5, 6, 7, 8, 9, 0] [(0, vR 22 0), (1, vR k1 0), (5, vI x5), (8, vI v8), (9, vI v9), (11, vI v11), (13, vI v13), (14, vI v14), (15, vI v15), (16, vI (v16 + 1))] rfl ?_
    exact hX _ _ h
  · have h := h.2 c375
    refine vr_aload_n 1 1 dX8_calls_410 rfl rfl ?_
    refine vr_iload 7 dX8_calls_411 rfl ?_
    refine vr_bipush 9 dX8_calls_413 (by decide) ?_
    refine vr_iadd dX8_calls_415 ?_
    refine vr_iconst 5 dX8_calls_416 (by decide) ?_
    refine vr_iload 8 dX8_calls_417 rfl ?_
    refine vr_imul dX8_calls_419 ?_
    refine vr_iadd dX8_calls_420 ?_
    refine vr_iconst 0 dX8_calls_421 (by decide) ?_
    have hi := h.1
    have h := h.2
    obtain ⟨Q422, eQ422⟩ : ∃ y : VP, y = vup Q k1 0 (ix ((v14 + 9) + (5 * v15))) 0 := ⟨_, rfl⟩
    have h := h Q422 eQ422
    refine vr_iastQ (vlI k1) hk1 rfl hi eQ422 dX8_calls_422 ?_
    refine vr_iinc (v15 + 1) 8 [(15, vI (v15 + 1)), (0, vR 22 0), (1, vR k1 0), (5, vI x5), (8, vI v8), (9, vI v9), (11, vI v11), (13, vI v13), (14, vI v14), (16, vI v16)] dX8_calls_423 rfl rfl (by decide) rfl ?_
    refine vr_goto 362 dX8_calls_426 (by decide) ?_
    refine vr_sub [1, 2, 3, 4, 5, 6, 7, 8, 0] [(0, vR 22 0), (1, vR k1 0), (5, vI x5), (8, vI v8), (9, vI v9), (11, vI v11), (13, vI v13), (14, vI v14), (15, vI (v15 + 1))] rfl ?_
    exact hX362 _ _ h
def F_X8_calls_l362 (k1 : Nat) (x2 : Int32) (x3 : Int32) (x4 : Int32) (x5 : Int32)  (post : Int32 → VP → Prop)  (v8 : Int32) (v9 : Int32) (v11 : Int32) (v13 : Int32) (v14 : Int32) (X : Int32 → VP → Prop) (v15 : Int32) (Q : VP) : Prop :=
  (v15 < x5 → vL2 (F_X8_calls_l372 k1 x2 x3 x4 x5  post X  v8 v9 v11 v13 v14 v15) ((0 : Int32)) Q) ∧ (¬ v15 < x5 → (0 ≤ 192 + v11 ∧ 192 + v11 < vlI k1) ∧ (∀ Q440 : VP, Q440 = vup Q k1 0 (ix (192 + v11)) (v13 + 1) → ((0 ≤ (3 : Int32) ∧ (3 : Int32) < vlI k1) ∧ (∀ Q445 : VP, Q445 = vup Q440 k1 0 (ix ((3 : Int32))) v8 → ((0 ≤ (4 : Int32) ∧ (4 : Int32) < vlI k1) ∧ (∀ Q450 : VP, Q450 = vup Q445 k1 0 (ix ((4 : Int32))) v9 → ((0 ≤ (5 : Int32) ∧ (5 : Int32) < vlI k1) ∧ (∀ Q455 : VP, Q455 = vup Q450 k1 0 (ix ((5 : Int32))) v11 → (post ((0 : Int32)) Q455)))))))))
set_option maxRecDepth 4000 in
theorem s_X8_calls_l362 {l : Launch} {g : vG} {k1 : Nat} {x2 : Int32} {x3 : Int32} {x4 : Int32} {x5 : Int32} {P : VP} {post : Int32 → VP → Prop}  {v8 : Int32} {v9 : Int32} {v11 : Int32} {v13 : Int32} {v14 : Int32}  {v15 : Int32} {Q : VP} (hk1 : vQA k1 0)  (h : vL2 (F_X8_calls_l362 k1 x2 x3 x4 x5  post  v8 v9 v11 v13 v14) v15 Q) : VM l g RX8 cX8_calls 17 (some .int) 4 (vmI P post) 362 [(0, vR 22 0), (1, vR k1 0), (5, vI x5), (8, vI v8), (9, vI v9), (11, vI v11), (13, vI v13), (14, vI v14), (15, vI v15)] [] (vjn P Q) := by
  refine vL2_s (T := fun v15 Q => VM l g RX8 cX8_calls 17 (some .int) 4 (vmI P post) 362 [(0, vR 22 0), (1, vR k1 0), (5, vI x5), (8, vI v8), (9, vI v9), (11, vI v11), (13, vI v13), (14, vI v14), (15, vI v15)] [] (vjn P Q)) ?_ h
  clear h
  intro X hX v15 Q h
  unfold F_X8_calls_l362 at h
  refine vr_iload 8 dX8_calls_362 rfl ?_
  refine vr_iload 2 dX8_calls_364 rfl ?_
  refine vr_icmpge 429 dX8_calls_366 (by decide) (fun c366 => ?_) (fun c366 => ?_)
  · have h := h.1 c366
    refine vr_iconst 0 dX8_calls_369 (by decide) ?_
    refine vr_istore [(16, vI 0), (0, vR 22 0), (1, vR k1 0), (5, vI x5), (8, vI v8), (9, vI v9), (11, vI v11), (13, vI v13), (14, vI v14), (15, vI v15)] dX8_calls_370 (by decide) rfl ?_
    refine vr_sub [1, 2, 3, 4, 5, 6, 7, 8, 9, 0] [(0, vR 22 0), (1, vR k1 0), (5, vI x5), (8, vI v8), (9, vI v9), (11, vI v11), (13, vI v13), (14, vI v14), (15, vI v15), (16, vI 0)] rfl ?_
    exact s_X8_calls_l372 hk1 hX  h
  · have h := h.2 c366
    refine vr_aload_n 1 1 dX8_calls_429 rfl rfl ?_
    refine vr_sipush 192 dX8_calls_430 (by decide) ?_
    refine vr_iload 5 dX8_calls_433 rfl ?_
    refine vr_iadd dX8_calls_435 ?_
    refine vr_iload 6 dX8_calls_436 rfl ?_
    refine vr_iconst 1 dX8_calls_438 (by decide) ?_
    refine vr_iadd dX8_calls_439 ?_
    have hi := h.1
    have h := h.2
    obtain ⟨Q440, eQ440⟩ : ∃ y : VP, y = vup Q k1 0 (ix (192 + v11)) (v13 + 1) := ⟨_, rfl⟩
    have h := h Q440 eQ440
    refine vr_iastQ (vlI k1) hk1 rfl hi eQ440 dX8_calls_440 ?_
    refine vr_aload_n 1 1 dX8_calls_441 rfl rfl ?_
    refine vr_iconst 3 dX8_calls_442 (by decide) ?_
    refine vr_iload 3 dX8_calls_443 rfl ?_
    have hi := h.1
    have h := h.2
    obtain ⟨Q445, eQ445⟩ : ∃ y : VP, y = vup Q440 k1 0 (ix ((3 : Int32))) v8 := ⟨_, rfl⟩
    have h := h Q445 eQ445
    refine vr_iastQ (vlI k1) hk1 rfl hi eQ445 dX8_calls_445 ?_
    refine vr_aload_n 1 1 dX8_calls_446 rfl rfl ?_
    refine vr_iconst 4 dX8_calls_447 (by decide) ?_
    refine vr_iload 4 dX8_calls_448 rfl ?_
    have hi := h.1
    have h := h.2
    obtain ⟨Q450, eQ450⟩ : ∃ y : VP, y = vup Q445 k1 0 (ix ((4 : Int32))) v9 := ⟨_, rfl⟩
    have h := h Q450 eQ450
    refine vr_iastQ (vlI k1) hk1 rfl hi eQ450 dX8_calls_450 ?_
    refine vr_aload_n 1 1 dX8_calls_451 rfl rfl ?_
    refine vr_iconst 5 dX8_calls_452 (by decide) ?_
    refine vr_iload 5 dX8_calls_453 rfl ?_
    have hi := h.1
    have h := h.2
    obtain ⟨Q455, eQ455⟩ : ∃ y : VP, y = vup Q450 k1 0 (ix ((5 : Int32))) v11 := ⟨_, rfl⟩
    have h := h Q455 eQ455
    refine vr_iastQ (vlI k1) hk1 rfl hi eQ455 dX8_calls_455 ?_
    refine vr_iconst 0 dX8_calls_456 (by decide) ?_
    exact vr_iret rfl ⟨_, _, rfl, rfl, h⟩ dX8_calls_457
def F_X8_calls_b284 (k1 : Nat) (x2 : Int32) (x3 : Int32) (x4 : Int32) (x5 : Int32) (Q : VP) (post : Int32 → VP → Prop)  (v6 : Int32) (v8 : Int32) (v9 : Int32) (v11 : Int32) (v12 : Int32) : Prop :=
  (0 ≤ 192 + v11 ∧ 192 + v11 < vlI k1) ∧ ((Q k1 0 (ix (192 + v11)) = 6 → post (((-29) : Int32)) Q) ∧ (¬ Q k1 0 (ix (192 + v11)) = 6 → F_X8_frameAt v11 (Q k1 0 (ix (192 + v11))) Q (fun r308 => (0 ≤ r308 ∧ r308 < vlI k1) ∧ (∀ Q317 : VP, Q317 = vup Q k1 0 (ix r308) x2 → ((0 ≤ r308 + 1 ∧ r308 + 1 < vlI k1) ∧ (∀ Q326 : VP, Q326 = vup Q317 k1 0 (ix (r308 + 1)) (x3 + 1) → ((0 ≤ r308 + 2 ∧ r308 + 2 < vlI k1) ∧ (∀ Q334 : VP, Q334 = vup Q326 k1 0 (ix (r308 + 2)) v6 → ((0 ≤ r308 + 3 ∧ r308 + 3 < vlI k1) ∧ (∀ Q342 : VP, Q342 = vup Q334 k1 0 (ix (r308 + 3)) x5 → ((v12 = 0 → (0 ≤ r308 + 4 ∧ r308 + 4 < vlI k1) ∧ (∀ Q358 : VP, Q358 = vup Q342 k1 0 (ix (r308 + 4)) 0 → (vL2 (F_X8_calls_l362 k1 x2 x3 x4 x5  post  v8 v9 v11 (Q k1 0 (ix (192 + v11))) r308) ((0 : Int32)) Q358))) ∧ (¬ v12 = 0 → (0 ≤ r308 + 4 ∧ r308 + 4 < vlI k1) ∧ (∀ Q358 : VP, Q358 = vup Q342 k1 0 (ix (r308 + 4)) 1 → (vL2 (F_X8_calls_l362 k1 x2 x3 x4 x5  post  v8 v9 v11 (Q k1 0 (ix (192 + v11))) r308) ((0 : Int32)) Q358))))))))))))))
set_option maxRecDepth 4000 in
theorem s_X8_calls_b284 {l : Launch} {g : vG} {k1 : Nat} {x2 : Int32} {x3 : Int32} {x4 : Int32} {x5 : Int32} {P Q : VP} {post : Int32 → VP → Prop}  {v6 : Int32} {v8 : Int32} {v9 : Int32} {v11 : Int32} {v12 : Int32}  (hk1 : vQA k1 0)  (h : F_X8_calls_b284 k1 x2 x3 x4 x5 Q post  v6 v8 v9 v11 v12) : VM l g RX8 cX8_calls 17 (some .int) 4 (vmI P post) 284 [(0, vR 22 0), (1, vR k1 0), (2, vI x2), (3, vI x3), (5, vI x5), (6, vI v6), (8, vI v8), (9, vI v9), (11, vI v11), (12, vI v12)] [] (vjn P Q) := by
  unfold F_X8_calls_b284 at h
  refine vr_aload_n 1 1 dX8_calls_284 rfl rfl ?_
  refine vr_sipush 192 dX8_calls_285 (by decide) ?_
  refine vr_iload 8 dX8_calls_288 rfl ?_
  refine vr_iadd dX8_calls_290 ?_
  have hi := h.1
  have h := h.2
  refine vr_ialdQ (vlI k1) hk1 rfl hi dX8_calls_291 ?_
  refine vr_istore [(13, vI (Q k1 0 (ix (192 + v11)))), (0, vR 22 0), (1, vR k1 0), (2, vI x2), (3, vI x3), (5, vI x5), (6, vI v6), (8, vI v8), (9, vI v9), (11, vI v11), (12, vI v12)] dX8_calls_292 (by decide) rfl ?_
  refine vr_iload 0 dX8_calls_294 rfl ?_
  refine vr_bipush 6 dX8_calls_296 (by decide) ?_
  refine vr_icmpne 304 dX8_calls_298 (by decide) (fun c298 => ?_) (fun c298 => ?_)
  · have h := h.1 c298
    refine vr_bipush (-29) dX8_calls_301 (by decide) ?_
    exact vr_iret rfl ⟨_, _, rfl, rfl, h⟩ dX8_calls_303
  · have h := h.2 c298
    refine vr_iload 9 dX8_calls_304 rfl ?_
    refine vr_iload 0 dX8_calls_306 rfl ?_
    refine vr_callS RX8 (s_X8_frameAt h) rfl rfl ml_8_253 rfl yh_X8_frameAt rfl ⟨Nat.le_of_ble_eq_true rfl, Nat.le_of_ble_eq_true rfl⟩ (Nat.le_of_ble_eq_true rfl) ⟨Nat.zero_le _, Nat.zero_le _⟩ dX8_calls_308 (ki fun r308 h => ?_)
    refine vr_istore [(14, vI r308), (13, vI (Q k1 0 (ix (192 + v11)))), (0, vR 22 0), (1, vR k1 0), (2, vI x2), (3, vI x3), (5, vI x5), (6, vI v6), (8, vI v8), (9, vI v9), (11, vI v11), (12, vI v12)] dX8_calls_311 (by decide) rfl ?_
    refine vr_aload_n 1 3 dX8_calls_313 rfl rfl ?_
    refine vr_iload 0 dX8_calls_314 rfl ?_
    refine vr_iload_n 2 4 dX8_calls_316 rfl rfl ?_
    have hi := h.1
    have h := h.2
    obtain ⟨Q317, eQ317⟩ : ∃ y : VP, y = vup Q k1 0 (ix r308) x2 := ⟨_, rfl⟩
    have h := h Q317 eQ317
    refine vr_iastQ (vlI k1) hk1 rfl hi eQ317 dX8_calls_317 ?_
    refine vr_aload_n 1 3 dX8_calls_318 rfl rfl ?_
    refine vr_iload 0 dX8_calls_319 rfl ?_
    refine vr_iconst 1 dX8_calls_321 (by decide) ?_
    refine vr_iadd dX8_calls_322 ?_
    refine vr_iload_n 3 5 dX8_calls_323 rfl rfl ?_
    refine vr_iconst 1 dX8_calls_324 (by decide) ?_
    refine vr_iadd dX8_calls_325 ?_
    have hi := h.1
    have h := h.2
    obtain ⟨Q326, eQ326⟩ : ∃ y : VP, y = vup Q317 k1 0 (ix (r308 + 1)) (x3 + 1) := ⟨_, rfl⟩
    have h := h Q326 eQ326
    refine vr_iastQ (vlI k1) hk1 rfl hi eQ326 dX8_calls_326 ?_
    refine vr_aload_n 1 3 dX8_calls_327 rfl rfl ?_
    refine vr_iload 0 dX8_calls_328 rfl ?_
    refine vr_iconst 2 dX8_calls_330 (by decide) ?_
    refine vr_iadd dX8_calls_331 ?_
    refine vr_iload 7 dX8_calls_332 rfl ?_
    have hi := h.1
    have h := h.2
    obtain ⟨Q334, eQ334⟩ : ∃ y : VP, y = vup Q326 k1 0 (ix (r308 + 2)) v6 := ⟨_, rfl⟩
    have h := h Q334 eQ334
    refine vr_iastQ (vlI k1) hk1 rfl hi eQ334 dX8_calls_334 ?_
    refine vr_aload_n 1 3 dX8_calls_335 rfl rfl ?_
    refine vr_iload 0 dX8_calls_336 rfl ?_
    refine vr_iconst 3 dX8_calls_338 (by decide) ?_
    refine vr_iadd dX8_calls_339 ?_
    refine vr_iload 6 dX8_calls_340 rfl ?_
    have hi := h.1
    have h := h.2
    obtain ⟨Q342, eQ342⟩ : ∃ y : VP, y = vup Q334 k1 0 (ix (r308 + 3)) x5 := ⟨_, rfl⟩
    have h := h Q342 eQ342
    refine vr_iastQ (vlI k1) hk1 rfl hi eQ342 dX8_calls_342 ?_
    refine vr_aload_n 1 3 dX8_calls_343 rfl rfl ?_
    refine vr_iload 0 dX8_calls_344 rfl ?_
    refine vr_iconst 4 dX8_calls_346 (by decide) ?_
    refine vr_iadd dX8_calls_347 ?_
    refine vr_iload 11 dX8_calls_348 rfl ?_
    refine vr_ifeq 357 dX8_calls_350 (by decide) (fun c350 => ?_) (fun c350 => ?_)
    · have h := h.1 c350
      refine vr_iconst 0 dX8_calls_357 (by decide) ?_
      have hi := h.1
      have h := h.2
      obtain ⟨Q358, eQ358⟩ : ∃ y : VP, y = vup Q342 k1 0 (ix (r308 + 4)) 0 := ⟨_, rfl⟩
      have h := h Q358 eQ358
      refine vr_iastQ (vlI k1) hk1 rfl hi eQ358 dX8_calls_358 ?_
      refine vr_iconst 0 dX8_calls_359 (by decide) ?_
      refine vr_istore [(15, vI 0), (14, vI r308), (13, vI (Q k1 0 (ix (192 + v11)))), (0, vR 22 0), (1, vR k1 0), (2, vI x2), (3, vI x3), (5, vI x5), (6, vI v6), (8, vI v8), (9, vI v9), (11, vI v11), (12, vI v12)] dX8_calls_360 (by decide) rfl ?_
      refine vr_sub [3, 4, 7, 9, 10, 11, 2, 1, 0] [(0, vR 22 0), (1, vR k1 0), (5, vI x5), (8, vI v8), (9, vI v9), (11, vI v11), (13, vI (Q k1 0 (ix (192 + v11)))), (14, vI r308), (15, vI 0)] rfl ?_
      exact s_X8_calls_l362 hk1  h
    · have h := h.2 c350
      refine vr_iconst 1 dX8_calls_353 (by decide) ?_
      refine vr_goto 358 dX8_calls_354 (by decide) ?_
      have hi := h.1
      have h := h.2
      obtain ⟨Q358, eQ358⟩ : ∃ y : VP, y = vup Q342 k1 0 (ix (r308 + 4)) 1 := ⟨_, rfl⟩
      have h := h Q358 eQ358
      refine vr_iastQ (vlI k1) hk1 rfl hi eQ358 dX8_calls_358 ?_
      refine vr_iconst 0 dX8_calls_359 (by decide) ?_
      refine vr_istore [(15, vI 0), (14, vI r308), (13, vI (Q k1 0 (ix (192 + v11)))), (0, vR 22 0), (1, vR k1 0), (2, vI x2), (3, vI x3), (5, vI x5), (6, vI v6), (8, vI v8), (9, vI v9), (11, vI v11), (12, vI v12)] dX8_calls_360 (by decide) rfl ?_
      refine vr_sub [3, 4, 7, 9, 10, 11, 2, 1, 0] [(0, vR 22 0), (1, vR k1 0), (5, vI x5), (8, vI v8), (9, vI v9), (11, vI v11), (13, vI (Q k1 0 (ix (192 + v11)))), (14, vI r308), (15, vI 0)] rfl ?_
      exact s_X8_calls_l362 hk1  h
def F_X8_calls_l182 (k1 : Nat) (x2 : Int32) (x3 : Int32) (x4 : Int32) (x5 : Int32)  (post : Int32 → VP → Prop)  (v6 : Int32) (v8 : Int32) (v9 : Int32) (v11 : Int32) (v12 : Int32) (X : Int32 → VP → Prop) (v13 : Int32) (Q : VP) : Prop :=
  (v12 = 0 → F_X8_calls_b284 k1 x2 x3 x4 x5 Q post  v6 v8 v9 v11 v12) ∧ (¬ v12 = 0 → (v13 < x5 → (0 ≤ (4 * v13) + 1 ∧ (4 * v13) + 1 < 12) ∧ ((0 ≤ (4 * v13) + 2 ∧ (4 * v13) + 2 < 12) ∧ ((0 ≤ 4 * v13 ∧ 4 * v13 < 12) ∧ (F_X8_numberAt k1 (Q 28 0 (ix ((4 * v13) + 1))) (Q 28 0 (ix ((4 * v13) + 2))) (Q 28 0 (ix (4 * v13))) Q (fun r227 => (r227 = 0 → (0 ≤ (4 * v13) + 1 ∧ (4 * v13) + 1 < 12) ∧ ((0 ≤ (4 * v13) + 2 ∧ (4 * v13) + 2 < 12) ∧ (F_X8_told k1 (Q 28 0 (ix ((4 * v13) + 1))) (Q 28 0 (ix ((4 * v13) + 2))) ((1 : Int32)) Q (fun r274 => (0 ≤ (4 * v13) + 3 ∧ (4 * v13) + 3 < 12) ∧ (∀ Q277 : VP, Q277 = vup Q 28 0 (ix ((4 * v13) + 3)) r274 → (X (v13 + 1) Q277)))))) ∧ (¬ r227 = 0 → post r227 Q)))))) ∧ (¬ v13 < x5 → F_X8_calls_b284 k1 x2 x3 x4 x5 Q post  v6 v8 v9 v11 v12))
set_option maxRecDepth 4000 in
theorem s_X8_calls_l182 {l : Launch} {g : vG} {k1 : Nat} {x2 : Int32} {x3 : Int32} {x4 : Int32} {x5 : Int32} {P : VP} {post : Int32 → VP → Prop}  {v6 : Int32} {v8 : Int32} {v9 : Int32} {v11 : Int32} {v12 : Int32}  {v13 : Int32} {Q : VP} (hk1 : vQA k1 0)  (h : vL2 (F_X8_calls_l182 k1 x2 x3 x4 x5  post  v6 v8 v9 v11 v12) v13 Q) : VM l g RX8 cX8_calls 17 (some .int) 4 (vmI P post) 182 [(0, vR 22 0), (1, vR k1 0), (2, vI x2), (3, vI x3), (5, vI x5), (6, vI v6), (8, vI v8), (9, vI v9), (11, vI v11), (12, vI v12), (13, vI v13)] [] (vjn P Q) := by
  refine vL2_s (T := fun v13 Q => VM l g RX8 cX8_calls 17 (some .int) 4 (vmI P post) 182 [(0, vR 22 0), (1, vR k1 0), (2, vI x2), (3, vI x3), (5, vI x5), (6, vI v6), (8, vI v8), (9, vI v9), (11, vI v11), (12, vI v12), (13, vI v13)] [] (vjn P Q)) ?_ h
  clear h
  intro X hX v13 Q h
  unfold F_X8_calls_l182 at h
  refine vr_iload 9 dX8_calls_182 rfl ?_
  refine vr_ifeq 284 dX8_calls_184 (by decide) (fun c184 => ?_) (fun c184 => ?_)
  · have h := h.1 c184
    refine vr_sub [0, 1, 2, 3, 4, 5, 6, 7, 8, 9] [(0, vR 22 0), (1, vR k1 0), (2, vI x2), (3, vI x3), (5, vI x5), (6, vI v6), (8, vI v8), (9, vI v9), (11, vI v11), (12, vI v12)] rfl ?_
    exact s_X8_calls_b284 hk1  h
  · have h := h.2 c184
    refine vr_iload 10 dX8_calls_187 rfl ?_
    refine vr_iload 4 dX8_calls_189 rfl ?_
    refine vr_icmpge 284 dX8_calls_191 (by decide) (fun c191 => ?_) (fun c191 => ?_)
    · have h := h.1 c191
      refine vr_aload_n 0 0 dX8_calls_194 rfl rfl ?_
      refine vr_aload_n 1 1 dX8_calls_195 rfl rfl ?_
      refine vr_aload_n 0 0 dX8_calls_196 rfl rfl ?_
      refine vg_22_16 RX8 rfl (by decide) fl_8_51 dX8_calls_197 ?_
      refine vr_iconst 4 dX8_calls_200 (by decide) ?_
      refine vr_iload 10 dX8_calls_201 rfl ?_
      refine vr_imul dX8_calls_203 ?_
      refine vr_iconst 1 dX8_calls_204 (by decide) ?_
      refine vr_iadd dX8_calls_205 ?_
      have hi := h.1
      have h := h.2
      refine vr_ialdQ 12 ia_28 rfl hi dX8_calls_206 ?_
      refine vr_aload_n 0 0 dX8_calls_207 rfl rfl ?_
      refine vg_22_16 RX8 rfl (by decide) fl_8_51 dX8_calls_208 ?_
      refine vr_iconst 4 dX8_calls_211 (by decide) ?_
      refine vr_iload 10 dX8_calls_212 rfl ?_
      refine vr_imul dX8_calls_214 ?_
      refine vr_iconst 2 dX8_calls_215 (by decide) ?_
      refine vr_iadd dX8_calls_216 ?_
      have hi := h.1
      have h := h.2
      refine vr_ialdQ 12 ia_28 rfl hi dX8_calls_217 ?_
      refine vr_aload_n 0 0 dX8_calls_218 rfl rfl ?_
      refine vg_22_16 RX8 rfl (by decide) fl_8_51 dX8_calls_219 ?_
      refine vr_iconst 4 dX8_calls_222 (by decide) ?_
      refine vr_iload 10 dX8_calls_223 rfl ?_
      refine vr_imul dX8_calls_225 ?_
      have hi := h.1
      have h := h.2
      refine vr_ialdQ 12 ia_28 rfl hi dX8_calls_226 ?_
      refine vr_callV RX8 (s_X8_numberAt hk1 h) rfl (by decide) rfl rfl rfl ml_8_250 rfl yh_X8_numberAt rfl ⟨Nat.le_of_ble_eq_true rfl, Nat.le_of_ble_eq_true rfl⟩ (Nat.le_of_ble_eq_true rfl) ⟨Nat.zero_le _, Nat.zero_le _⟩ dX8_calls_227 (ki fun r227 h => ?_)
      refine vr_istore [(7, vI r227), (0, vR 22 0), (1, vR k1 0), (2, vI x2), (3, vI x3), (5, vI x5), (6, vI v6), (8, vI v8), (9, vI v9), (11, vI v11), (12, vI v12), (13, vI v13)] dX8_calls_230 (by decide) rfl ?_
      refine vr_iload 0 dX8_calls_232 rfl ?_
      refine vr_ifeq 240 dX8_calls_234 (by decide) (fun c234 => ?_) (fun c234 => ?_)
      · have h := h.1 c234
        refine vr_aload_n 0 1 dX8_calls_240 rfl rfl ?_
        refine vg_22_16 RX8 rfl (by decide) fl_8_51 dX8_calls_241 ?_
        refine vr_iconst 4 dX8_calls_244 (by decide) ?_
        refine vr_iload 11 dX8_calls_245 rfl ?_
        refine vr_imul dX8_calls_247 ?_
        refine vr_iconst 3 dX8_calls_248 (by decide) ?_
        refine vr_iadd dX8_calls_249 ?_
        refine vr_aload_n 1 2 dX8_calls_250 rfl rfl ?_
        refine vr_aload_n 0 1 dX8_calls_251 rfl rfl ?_
        refine vg_22_16 RX8 rfl (by decide) fl_8_51 dX8_calls_252 ?_
        refine vr_iconst 4 dX8_calls_255 (by decide) ?_
        refine vr_iload 11 dX8_calls_256 rfl ?_
        refine vr_imul dX8_calls_258 ?_
        refine vr_iconst 1 dX8_calls_259 (by decide) ?_
        refine vr_iadd dX8_calls_260 ?_
        have hi := h.1
        have h := h.2
        refine vr_ialdQ 12 ia_28 rfl hi dX8_calls_261 ?_
        refine vr_aload_n 0 1 dX8_calls_262 rfl rfl ?_
        refine vg_22_16 RX8 rfl (by decide) fl_8_51 dX8_calls_263 ?_
        refine vr_iconst 4 dX8_calls_266 (by decide) ?_
        refine vr_iload 11 dX8_calls_267 rfl ?_
        refine vr_imul dX8_calls_269 ?_
        refine vr_iconst 2 dX8_calls_270 (by decide) ?_
        refine vr_iadd dX8_calls_271 ?_
        have hi := h.1
        have h := h.2
        refine vr_ialdQ 12 ia_28 rfl hi dX8_calls_272 ?_
        refine vr_iconst 1 dX8_calls_273 (by decide) ?_
        refine vr_callS RX8 (s_X8_told hk1 h) rfl rfl ml_8_136 rfl yh_X8_told rfl ⟨Nat.le_of_ble_eq_true rfl, Nat.le_of_ble_eq_true rfl⟩ (Nat.le_of_ble_eq_true rfl) ⟨Nat.zero_le _, Nat.zero_le _⟩ dX8_calls_274 (ki fun r274 h => ?_)
        have hi := h.1
        have h := h.2
        obtain ⟨Q277, eQ277⟩ : ∃ y : VP, y = vup Q 28 0 (ix ((4 * v13) + 3)) r274 := ⟨_, rfl⟩
        have h := h Q277 eQ277
        refine vr_iastQ 12 ia_28 rfl hi eQ277 dX8_calls_277 ?_
        refine vr_iinc (v13 + 1) 11 [(13, vI (v13 + 1)), (7, vI r227), (0, vR 22 0), (1, vR k1 0), (2, vI x2), (3, vI x3), (5, vI x5), (6, vI v6), (8, vI v8), (9, vI v9), (11, vI v11), (12, vI v12)] dX8_calls_278 rfl rfl (by decide) rfl ?_
        refine vr_goto 182 dX8_calls_281 (by decide) ?_
        refine vr_sub [2, 3, 4, 5, 6, 7, 8, 9, 10, 11, 0] [(0, vR 22 0), (1, vR k1 0), (2, vI x2), (3, vI x3), (5, vI x5), (6, vI v6), (8, vI v8), (9, vI v9), (11, vI v11), (12, vI v12), (13, vI (v13 + 1))] rfl ?_
        exact hX _ _ h
      · have h := h.2 c234
        refine vr_iload 0 dX8_calls_237 rfl ?_
        exact vr_iret rfl ⟨_, _, rfl, rfl, h⟩ dX8_calls_239
    · have h := h.2 c191
      refine vr_sub [0, 1, 2, 3, 4, 5, 6, 7, 8, 9] [(0, vR 22 0), (1, vR k1 0), (2, vI x2), (3, vI x3), (5, vI x5), (6, vI v6), (8, vI v8), (9, vI v9), (11, vI v11), (12, vI v12)] rfl ?_
      exact s_X8_calls_b284 hk1  h
def F_X8_calls_l86 (k1 : Nat) (x2 : Int32) (x3 : Int32) (x4 : Int32) (x5 : Int32)  (post : Int32 → VP → Prop)  (v6 : Int32) (v8 : Int32) (v9 : Int32) (v11 : Int32) (v12 : Int32) (X : Int32 → VP → Prop) (v13 : Int32) (Q : VP) : Prop :=
  (v13 < x5 → F_X8_comes k1 x2 ((x4 + 1) + v13) v6 Q (fun r105 Q105 => (r105 = 0 → (0 ≤ 4 * v13 ∧ 4 * v13 < 12) ∧ (∀ Q130 : VP, Q130 = vup Q105 28 0 (ix (4 * v13)) (Q105 22 0 13) → ((0 ≤ (4 * v13) + 1 ∧ (4 * v13) + 1 < 12) ∧ (∀ Q145 : VP, Q145 = vup Q130 28 0 (ix ((4 * v13) + 1)) (Q130 22 0 14) → ((0 ≤ (4 * v13) + 2 ∧ (4 * v13) + 2 < 12) ∧ (∀ Q160 : VP, Q160 = vup Q145 28 0 (ix ((4 * v13) + 2)) (Q145 22 0 15) → ((0 ≤ (4 * v13) + 3 ∧ (4 * v13) + 3 < 12) ∧ (∀ Q172 : VP, Q172 = vup Q160 28 0 (ix ((4 * v13) + 3)) 0 → (X (v13 + 1) Q172))))))))) ∧ (¬ r105 = 0 → post r105 Q105))) ∧ (¬ v13 < x5 → vL2 (F_X8_calls_l182 k1 x2 x3 x4 x5  post  v6 v8 v9 v11 v12) ((0 : Int32)) Q)
set_option maxRecDepth 4000 in
theorem s_X8_calls_l86 {l : Launch} {g : vG} {k1 : Nat} {x2 : Int32} {x3 : Int32} {x4 : Int32} {x5 : Int32} {P : VP} {post : Int32 → VP → Prop}  {v6 : Int32} {v8 : Int32} {v9 : Int32} {v11 : Int32} {v12 : Int32}  {v13 : Int32} {Q : VP} (hk1 : vQA k1 0)  (h : vL2 (F_X8_calls_l86 k1 x2 x3 x4 x5  post  v6 v8 v9 v11 v12) v13 Q) : VM l g RX8 cX8_calls 17 (some .int) 4 (vmI P post) 86 [(0, vR 22 0), (1, vR k1 0), (2, vI x2), (3, vI x3), (4, vI x4), (5, vI x5), (6, vI v6), (8, vI v8), (9, vI v9), (11, vI v11), (12, vI v12), (13, vI v13)] [] (vjn P Q) := by
  refine vL2_s (T := fun v13 Q => VM l g RX8 cX8_calls 17 (some .int) 4 (vmI P post) 86 [(0, vR 22 0), (1, vR k1 0), (2, vI x2), (3, vI x3), (4, vI x4), (5, vI x5), (6, vI v6), (8, vI v8), (9, vI v9), (11, vI v11), (12, vI v12), (13, vI v13)] [] (vjn P Q)) ?_ h
  clear h
  intro X hX v13 Q h
  unfold F_X8_calls_l86 at h
  refine vr_iload 11 dX8_calls_86 rfl ?_
  refine vr_iload 5 dX8_calls_88 rfl ?_
  refine vr_icmpge 179 dX8_calls_90 (by decide) (fun c90 => ?_) (fun c90 => ?_)
  · have h := h.1 c90
    refine vr_aload_n 0 0 dX8_calls_93 rfl rfl ?_
    refine vr_aload_n 1 1 dX8_calls_94 rfl rfl ?_
    refine vr_iload_n 2 2 dX8_calls_95 rfl rfl ?_
    refine vr_iload 4 dX8_calls_96 rfl ?_
    refine vr_iconst 1 dX8_calls_98 (by decide) ?_
    refine vr_iadd dX8_calls_99 ?_
    refine vr_iload 11 dX8_calls_100 rfl ?_
    refine vr_iadd dX8_calls_102 ?_
    refine vr_iload 6 dX8_calls_103 rfl ?_
    refine vr_callV RX8 (s_X8_comes hk1 h) rfl (by decide) rfl rfl rfl ml_8_244 rfl yh_X8_comes rfl ⟨Nat.le_of_ble_eq_true rfl, Nat.le_of_ble_eq_true rfl⟩ (Nat.le_of_ble_eq_true rfl) ⟨Nat.zero_le _, Nat.zero_le _⟩ dX8_calls_105 (kmi fun r105 Q105 h => ?_)
    refine vr_istore [(7, vI r105), (0, vR 22 0), (1, vR k1 0), (2, vI x2), (3, vI x3), (4, vI x4), (5, vI x5), (6, vI v6), (8, vI v8), (9, vI v9), (11, vI v11), (12, vI v12), (13, vI v13)] dX8_calls_108 (by decide) rfl ?_
    refine vr_iload 0 dX8_calls_110 rfl ?_
    refine vr_ifeq 118 dX8_calls_112 (by decide) (fun c112 => ?_) (fun c112 => ?_)
    · have h := h.1 c112
      refine vr_aload_n 0 1 dX8_calls_118 rfl rfl ?_
      refine vg_22_16 RX8 rfl (by decide) fl_8_51 dX8_calls_119 ?_
      refine vr_iconst 4 dX8_calls_122 (by decide) ?_
      refine vr_iload 12 dX8_calls_123 rfl ?_
      refine vr_imul dX8_calls_125 ?_
      refine vr_aload_n 0 1 dX8_calls_126 rfl rfl ?_
      refine vg_22_13 RX8 rfl (by decide) fl_8_217 dX8_calls_127 ?_
      have hi := h.1
      have h := h.2
      obtain ⟨Q130, eQ130⟩ : ∃ y : VP, y = vup Q105 28 0 (ix (4 * v13)) (Q105 22 0 13) := ⟨_, rfl⟩
      have h := h Q130 eQ130
      refine vr_iastQ 12 ia_28 rfl hi eQ130 dX8_calls_130 ?_
      refine vr_aload_n 0 1 dX8_calls_131 rfl rfl ?_
      refine vg_22_16 RX8 rfl (by decide) fl_8_51 dX8_calls_132 ?_
      refine vr_iconst 4 dX8_calls_135 (by decide) ?_
      refine vr_iload 12 dX8_calls_136 rfl ?_
      refine vr_imul dX8_calls_138 ?_
      refine vr_iconst 1 dX8_calls_139 (by decide) ?_
      refine vr_iadd dX8_calls_140 ?_
      refine vr_aload_n 0 1 dX8_calls_141 rfl rfl ?_
      refine vg_22_14 RX8 rfl (by decide) fl_8_220 dX8_calls_142 ?_
      have hi := h.1
      have h := h.2
      obtain ⟨Q145, eQ145⟩ : ∃ y : VP, y = vup Q130 28 0 (ix ((4 * v13) + 1)) (Q130 22 0 14) := ⟨_, rfl⟩
      have h := h Q145 eQ145
      refine vr_iastQ 12 ia_28 rfl hi eQ145 dX8_calls_145 ?_
      refine vr_aload_n 0 1 dX8_calls_146 rfl rfl ?_
      refine vg_22_16 RX8 rfl (by decide) fl_8_51 dX8_calls_147 ?_
      refine vr_iconst 4 dX8_calls_150 (by decide) ?_
      refine vr_iload 12 dX8_calls_151 rfl ?_
      refine vr_imul dX8_calls_153 ?_
      refine vr_iconst 2 dX8_calls_154 (by decide) ?_
      refine vr_iadd dX8_calls_155 ?_
      refine vr_aload_n 0 1 dX8_calls_156 rfl rfl ?_
      refine vg_22_15 RX8 rfl (by decide) fl_8_223 dX8_calls_157 ?_
      have hi := h.1
      have h := h.2
      obtain ⟨Q160, eQ160⟩ : ∃ y : VP, y = vup Q145 28 0 (ix ((4 * v13) + 2)) (Q145 22 0 15) := ⟨_, rfl⟩
      have h := h Q160 eQ160
      refine vr_iastQ 12 ia_28 rfl hi eQ160 dX8_calls_160 ?_
      refine vr_aload_n 0 1 dX8_calls_161 rfl rfl ?_
      refine vg_22_16 RX8 rfl (by decide) fl_8_51 dX8_calls_162 ?_
      refine vr_iconst 4 dX8_calls_165 (by decide) ?_
      refine vr_iload 12 dX8_calls_166 rfl ?_
      refine vr_imul dX8_calls_168 ?_
      refine vr_iconst 3 dX8_calls_169 (by decide) ?_
      refine vr_iadd dX8_calls_170 ?_
      refine vr_iconst 0 dX8_calls_171 (by decide) ?_
      have hi := h.1
      have h := h.2
      obtain ⟨Q172, eQ172⟩ : ∃ y : VP, y = vup Q160 28 0 (ix ((4 * v13) + 3)) 0 := ⟨_, rfl⟩
      have h := h Q172 eQ172
      refine vr_iastQ 12 ia_28 rfl hi eQ172 dX8_calls_172 ?_
      refine vr_iinc (v13 + 1) 12 [(13, vI (v13 + 1)), (7, vI r105), (0, vR 22 0), (1, vR k1 0), (2, vI x2), (3, vI x3), (4, vI x4), (5, vI x5), (6, vI v6), (8, vI v8), (9, vI v9), (11, vI v11), (12, vI v12)] dX8_calls_173 rfl rfl (by decide) rfl ?_
      refine vr_goto 86 dX8_calls_176 (by decide) ?_
      refine vr_sub [2, 3, 4, 5, 6, 7, 8, 9, 10, 11, 12, 0] [(0, vR 22 0), (1, vR k1 0), (2, vI x2), (3, vI x3), (4, vI x4), (5, vI x5), (6, vI v6), (8, vI v8), (9, vI v9), (11, vI v11), (12, vI v12), (13, vI (v13 + 1))] rfl ?_
      exact hX _ _ h
    · have h := h.2 c112
      refine vr_iload 0 dX8_calls_115 rfl ?_
      exact vr_iret rfl ⟨_, _, rfl, rfl, h⟩ dX8_calls_117
  · have h := h.2 c90
    refine vr_iconst 0 dX8_calls_179 (by decide) ?_
    refine vr_istore [(13, vI 0), (0, vR 22 0), (1, vR k1 0), (2, vI x2), (3, vI x3), (4, vI x4), (5, vI x5), (6, vI v6), (8, vI v8), (9, vI v9), (11, vI v11), (12, vI v12)] dX8_calls_180 (by decide) rfl ?_
    refine vr_sub [1, 2, 3, 4, 6, 7, 8, 9, 10, 11, 0] [(0, vR 22 0), (1, vR k1 0), (2, vI x2), (3, vI x3), (5, vI x5), (6, vI v6), (8, vI v8), (9, vI v9), (11, vI v11), (12, vI v12), (13, vI 0)] rfl ?_
    exact s_X8_calls_l182 hk1  h
def F_X8_calls (k1 : Nat) (x2 : Int32) (x3 : Int32) (x4 : Int32) (x5 : Int32) (Q : VP) (post : Int32 → VP → Prop) : Prop :=
  (0 ≤ (5 : Int32) ∧ (5 : Int32) < vlI k1) ∧ (F_X8_comes k1 x2 x4 (Q k1 0 (ix ((5 : Int32)))) Q (fun r12 Q12 => (r12 = 0 → F_X8_entered k1 (Q12 22 0 14) (Q12 22 0 15) (Q12 22 0 13) Q12 (fun r51 => (r51 < 0 → post r51 Q12) ∧ (¬ r51 < 0 → (0 ≤ 112 + (Q12 22 0 14) ∧ 112 + (Q12 22 0 14) < vlI k1) ∧ ((Q12 22 0 13 < Q12 k1 0 (ix (112 + (Q12 22 0 14))) → vL2 (F_X8_calls_l86 k1 x2 x3 x4 x5  post  (Q k1 0 (ix ((5 : Int32)))) (Q12 22 0 14) (Q12 22 0 15) r51 ((1 : Int32))) ((0 : Int32)) Q12) ∧ (¬ Q12 22 0 13 < Q12 k1 0 (ix (112 + (Q12 22 0 14))) → vL2 (F_X8_calls_l86 k1 x2 x3 x4 x5  post  (Q k1 0 (ix ((5 : Int32)))) (Q12 22 0 14) (Q12 22 0 15) r51 ((0 : Int32))) ((0 : Int32)) Q12))))) ∧ (¬ r12 = 0 → post r12 Q12)))
set_option maxRecDepth 4000 in
theorem s_X8_calls {l : Launch} {g : vG} {k1 : Nat} {x2 : Int32} {x3 : Int32} {x4 : Int32} {x5 : Int32} {P Q : VP} {post : Int32 → VP → Prop} (hk1 : vQA k1 0) (h : F_X8_calls k1 x2 x3 x4 x5 Q post) : VC l g yX8_calls cX8_calls 17 (some .int) 4 [vR 22 0, vR k1 0, vI x2, vI x3, vI x4, vI x5] (vjn P Q) (vmI P post) := by
  refine VC.of (by decide +kernel) (Nat.le_of_ble_eq_true rfl) (show VM l g RX8 cX8_calls 17 (some .int) 4 (vmI P post) 0 [(0, vR 22 0), (1, vR k1 0), (2, vI x2), (3, vI x3), (4, vI x4), (5, vI x5)] [] (vjn P Q) from ?_)
  unfold F_X8_calls at h
  refine vr_aload_n 1 1 dX8_calls_0 rfl rfl ?_
  refine vr_iconst 5 dX8_calls_1 (by decide) ?_
  have hi := h.1
  have h := h.2
  refine vr_ialdQ (vlI k1) hk1 rfl hi dX8_calls_2 ?_
  refine vr_istore [(6, vI (Q k1 0 (ix ((5 : Int32))))), (0, vR 22 0), (1, vR k1 0), (2, vI x2), (3, vI x3), (4, vI x4), (5, vI x5)] dX8_calls_3 (by decide) rfl ?_
  refine vr_aload_n 0 1 dX8_calls_5 rfl rfl ?_
  refine vr_aload_n 1 2 dX8_calls_6 rfl rfl ?_
  refine vr_iload_n 2 3 dX8_calls_7 rfl rfl ?_
  refine vr_iload 5 dX8_calls_8 rfl ?_
  refine vr_iload 0 dX8_calls_10 rfl ?_
  refine vr_callV RX8 (s_X8_comes hk1 h) rfl (by decide) rfl rfl rfl ml_8_244 rfl yh_X8_comes rfl ⟨Nat.le_of_ble_eq_true rfl, Nat.le_of_ble_eq_true rfl⟩ (Nat.le_of_ble_eq_true rfl) ⟨Nat.zero_le _, Nat.zero_le _⟩ dX8_calls_12 (kmi fun r12 Q12 h => ?_)
  refine vr_istore [(7, vI r12), (6, vI (Q k1 0 (ix ((5 : Int32))))), (0, vR 22 0), (1, vR k1 0), (2, vI x2), (3, vI x3), (4, vI x4), (5, vI x5)] dX8_calls_15 (by decide) rfl ?_
  refine vr_iload 0 dX8_calls_17 rfl ?_
  refine vr_ifeq 25 dX8_calls_19 (by decide) (fun c19 => ?_) (fun c19 => ?_)
  · have h := h.1 c19
    refine vr_aload_n 0 2 dX8_calls_25 rfl rfl ?_
    refine vg_22_14 RX8 rfl (by decide) fl_8_220 dX8_calls_26 ?_
    refine vr_istore [(8, vI (Q12 22 0 14)), (7, vI r12), (6, vI (Q k1 0 (ix ((5 : Int32))))), (0, vR 22 0), (1, vR k1 0), (2, vI x2), (3, vI x3), (4, vI x4), (5, vI x5)] dX8_calls_29 (by decide) rfl ?_
    refine vr_aload_n 0 3 dX8_calls_31 rfl rfl ?_
    refine vg_22_15 RX8 rfl (by decide) fl_8_223 dX8_calls_32 ?_
    refine vr_istore [(9, vI (Q12 22 0 15)), (8, vI (Q12 22 0 14)), (7, vI r12), (6, vI (Q k1 0 (ix ((5 : Int32))))), (0, vR 22 0), (1, vR k1 0), (2, vI x2), (3, vI x3), (4, vI x4), (5, vI x5)] dX8_calls_35 (by decide) rfl ?_
    refine vr_aload_n 0 4 dX8_calls_37 rfl rfl ?_
    refine vg_22_13 RX8 rfl (by decide) fl_8_217 dX8_calls_38 ?_
    refine vr_istore [(10, vI (Q12 22 0 13)), (9, vI (Q12 22 0 15)), (8, vI (Q12 22 0 14)), (7, vI r12), (6, vI (Q k1 0 (ix ((5 : Int32))))), (0, vR 22 0), (1, vR k1 0), (2, vI x2), (3, vI x3), (4, vI x4), (5, vI x5)] dX8_calls_41 (by decide) rfl ?_
    refine vr_aload_n 0 5 dX8_calls_43 rfl rfl ?_
    refine vr_aload_n 1 6 dX8_calls_44 rfl rfl ?_
    refine vr_iload 2 dX8_calls_45 rfl ?_
    refine vr_iload 1 dX8_calls_47 rfl ?_
    refine vr_iload 0 dX8_calls_49 rfl ?_
    refine vr_callV RX8 (s_X8_entered hk1 h) rfl (by decide) rfl rfl rfl ml_8_247 rfl yh_X8_entered rfl ⟨Nat.le_of_ble_eq_true rfl, Nat.le_of_ble_eq_true rfl⟩ (Nat.le_of_ble_eq_true rfl) ⟨Nat.zero_le _, Nat.zero_le _⟩ dX8_calls_51 (ki fun r51 h => ?_)
    refine vr_istore [(11, vI r51), (10, vI (Q12 22 0 13)), (9, vI (Q12 22 0 15)), (8, vI (Q12 22 0 14)), (7, vI r12), (6, vI (Q k1 0 (ix ((5 : Int32))))), (0, vR 22 0), (1, vR k1 0), (2, vI x2), (3, vI x3), (4, vI x4), (5, vI x5)] dX8_calls_54 (by decide) rfl ?_
    refine vr_iload 0 dX8_calls_56 rfl ?_
    refine vr_ifge 64 dX8_calls_58 (by decide) (fun c58 => ?_) (fun c58 => ?_)
    · have h := h.1 c58
      refine vr_iload 0 dX8_calls_61 rfl ?_
      exact vr_iret rfl ⟨_, _, rfl, rfl, h⟩ dX8_calls_63
    · have h := h.2 c58
      refine vr_iload 1 dX8_calls_64 rfl ?_
      refine vr_aload_n 1 7 dX8_calls_66 rfl rfl ?_
      refine vr_bipush 112 dX8_calls_67 (by decide) ?_
      refine vr_iload 3 dX8_calls_69 rfl ?_
      refine vr_iadd dX8_calls_71 ?_
      have hi := h.1
      have h := h.2
      refine vr_ialdQ (vlI k1) hk1 rfl hi dX8_calls_72 ?_
      refine vr_icmpge 80 dX8_calls_73 (by decide) (fun c73 => ?_) (fun c73 => ?_)
      · have h := h.1 c73
        refine vr_iconst 1 dX8_calls_76 (by decide) ?_
        refine vr_goto 81 dX8_calls_77 (by decide) ?_
        refine vr_istore [(12, vI 1), (11, vI r51), (10, vI (Q12 22 0 13)), (9, vI (Q12 22 0 15)), (8, vI (Q12 22 0 14)), (7, vI r12), (6, vI (Q k1 0 (ix ((5 : Int32))))), (0, vR 22 0), (1, vR k1 0), (2, vI x2), (3, vI x3), (4, vI x4), (5, vI x5)] dX8_calls_81 (by decide) rfl ?_
        refine vr_iconst 0 dX8_calls_83 (by decide) ?_
        refine vr_istore [(13, vI 0), (12, vI 1), (11, vI r51), (10, vI (Q12 22 0 13)), (9, vI (Q12 22 0 15)), (8, vI (Q12 22 0 14)), (7, vI r12), (6, vI (Q k1 0 (ix ((5 : Int32))))), (0, vR 22 0), (1, vR k1 0), (2, vI x2), (3, vI x3), (4, vI x4), (5, vI x5)] dX8_calls_84 (by decide) rfl ?_
        refine vr_sub [8, 9, 10, 11, 12, 13, 7, 5, 4, 2, 1, 0] [(0, vR 22 0), (1, vR k1 0), (2, vI x2), (3, vI x3), (4, vI x4), (5, vI x5), (6, vI (Q k1 0 (ix ((5 : Int32))))), (8, vI (Q12 22 0 14)), (9, vI (Q12 22 0 15)), (11, vI r51), (12, vI 1), (13, vI 0)] rfl ?_
        exact s_X8_calls_l86 hk1  h
      · have h := h.2 c73
        refine vr_iconst 0 dX8_calls_80 (by decide) ?_
        refine vr_istore [(12, vI 0), (11, vI r51), (10, vI (Q12 22 0 13)), (9, vI (Q12 22 0 15)), (8, vI (Q12 22 0 14)), (7, vI r12), (6, vI (Q k1 0 (ix ((5 : Int32))))), (0, vR 22 0), (1, vR k1 0), (2, vI x2), (3, vI x3), (4, vI x4), (5, vI x5)] dX8_calls_81 (by decide) rfl ?_
        refine vr_iconst 0 dX8_calls_83 (by decide) ?_
        refine vr_istore [(13, vI 0), (12, vI 0), (11, vI r51), (10, vI (Q12 22 0 13)), (9, vI (Q12 22 0 15)), (8, vI (Q12 22 0 14)), (7, vI r12), (6, vI (Q k1 0 (ix ((5 : Int32))))), (0, vR 22 0), (1, vR k1 0), (2, vI x2), (3, vI x3), (4, vI x4), (5, vI x5)] dX8_calls_84 (by decide) rfl ?_
        refine vr_sub [8, 9, 10, 11, 12, 13, 7, 5, 4, 2, 1, 0] [(0, vR 22 0), (1, vR k1 0), (2, vI x2), (3, vI x3), (4, vI x4), (5, vI x5), (6, vI (Q k1 0 (ix ((5 : Int32))))), (8, vI (Q12 22 0 14)), (9, vI (Q12 22 0 15)), (11, vI r51), (12, vI 0), (13, vI 0)] rfl ?_
        exact s_X8_calls_l86 hk1  h
  · have h := h.2 c19
    refine vr_iload 0 dX8_calls_22 rfl ?_
    exact vr_iret rfl ⟨_, _, rfl, rfl, h⟩ dX8_calls_24
theorem dX8_backs_0 : decode cX8_backs 0 = .ok (.aload_n 1, 1) := by decide +kernel
theorem dX8_backs_1 : decode cX8_backs 1 = .ok (.iconst 5, 1) := by decide +kernel
theorem dX8_backs_2 : decode cX8_backs 2 = .ok (.iaload, 1) := by decide +kernel
theorem dX8_backs_3 : decode cX8_backs 3 = .ok (.istore_n 2, 1) := by decide +kernel
theorem dX8_backs_4 : decode cX8_backs 4 = .ok (.aload_n 1, 1) := by decide +kernel
theorem dX8_backs_5 : decode cX8_backs 5 = .ok (.sipush 192, 3) := by decide +kernel
theorem dX8_backs_8 : decode cX8_backs 8 = .ok (.iload_n 2, 1) := by decide +kernel
theorem dX8_backs_9 : decode cX8_backs 9 = .ok (.iadd, 1) := by decide +kernel
theorem dX8_backs_10 : decode cX8_backs 10 = .ok (.iaload, 1) := by decide +kernel
theorem dX8_backs_11 : decode cX8_backs 11 = .ok (.istore_n 3, 1) := by decide +kernel
theorem dX8_backs_12 : decode cX8_backs 12 = .ok (.iload_n 3, 1) := by decide +kernel
theorem dX8_backs_13 : decode cX8_backs 13 = .ok (.ifCond .ne 6, 3) := by decide +kernel
theorem dX8_backs_16 : decode cX8_backs 16 = .ok (.bipush (-30), 2) := by decide +kernel
theorem dX8_backs_18 : decode cX8_backs 18 = .ok (.ireturn, 1) := by decide +kernel
theorem dX8_backs_19 : decode cX8_backs 19 = .ok (.iload_n 2, 1) := by decide +kernel
theorem dX8_backs_20 : decode cX8_backs 20 = .ok (.iload_n 3, 1) := by decide +kernel
theorem dX8_backs_21 : decode cX8_backs 21 = .ok (.iconst 1, 1) := by decide +kernel
theorem dX8_backs_22 : decode cX8_backs 22 = .ok (.isub, 1) := by decide +kernel
theorem dX8_backs_23 : decode cX8_backs 23 = .ok (.invokestatic 253, 3) := by decide +kernel
theorem dX8_backs_26 : decode cX8_backs 26 = .ok (.istore 4, 2) := by decide +kernel
theorem dX8_backs_28 : decode cX8_backs 28 = .ok (.iconst 0, 1) := by decide +kernel
theorem dX8_backs_29 : decode cX8_backs 29 = .ok (.istore 5, 2) := by decide +kernel
theorem dX8_backs_31 : decode cX8_backs 31 = .ok (.iload 5, 2) := by decide +kernel
theorem dX8_backs_33 : decode cX8_backs 33 = .ok (.aload_n 1, 1) := by decide +kernel
theorem dX8_backs_34 : decode cX8_backs 34 = .ok (.iload 4, 2) := by decide +kernel
theorem dX8_backs_36 : decode cX8_backs 36 = .ok (.iconst 3, 1) := by decide +kernel
theorem dX8_backs_37 : decode cX8_backs 37 = .ok (.iadd, 1) := by decide +kernel
theorem dX8_backs_38 : decode cX8_backs 38 = .ok (.iaload, 1) := by decide +kernel
theorem dX8_backs_39 : decode cX8_backs 39 = .ok (.if_icmp .ge 64, 3) := by decide +kernel
theorem dX8_backs_42 : decode cX8_backs 42 = .ok (.iload 4, 2) := by decide +kernel
theorem dX8_backs_44 : decode cX8_backs 44 = .ok (.iconst 5, 1) := by decide +kernel
theorem dX8_backs_45 : decode cX8_backs 45 = .ok (.iadd, 1) := by decide +kernel
theorem dX8_backs_46 : decode cX8_backs 46 = .ok (.iconst 5, 1) := by decide +kernel
theorem dX8_backs_47 : decode cX8_backs 47 = .ok (.iload 5, 2) := by decide +kernel
theorem dX8_backs_49 : decode cX8_backs 49 = .ok (.imul, 1) := by decide +kernel
theorem dX8_backs_50 : decode cX8_backs 50 = .ok (.iadd, 1) := by decide +kernel
theorem dX8_backs_51 : decode cX8_backs 51 = .ok (.istore 6, 2) := by decide +kernel
theorem dX8_backs_53 : decode cX8_backs 53 = .ok (.aload_n 1, 1) := by decide +kernel
theorem dX8_backs_54 : decode cX8_backs 54 = .ok (.iload 6, 2) := by decide +kernel
theorem dX8_backs_56 : decode cX8_backs 56 = .ok (.iconst 4, 1) := by decide +kernel
theorem dX8_backs_57 : decode cX8_backs 57 = .ok (.iadd, 1) := by decide +kernel
theorem dX8_backs_58 : decode cX8_backs 58 = .ok (.iaload, 1) := by decide +kernel
theorem dX8_backs_59 : decode cX8_backs 59 = .ok (.iconst 1, 1) := by decide +kernel
theorem dX8_backs_60 : decode cX8_backs 60 = .ok (.if_icmp .ne 26, 3) := by decide +kernel
theorem dX8_backs_63 : decode cX8_backs 63 = .ok (.aload_n 1, 1) := by decide +kernel
theorem dX8_backs_64 : decode cX8_backs 64 = .ok (.aload_n 1, 1) := by decide +kernel
theorem dX8_backs_65 : decode cX8_backs 65 = .ok (.iload 6, 2) := by decide +kernel
theorem dX8_backs_67 : decode cX8_backs 67 = .ok (.iconst 1, 1) := by decide +kernel
theorem dX8_backs_68 : decode cX8_backs 68 = .ok (.iadd, 1) := by decide +kernel
theorem dX8_backs_69 : decode cX8_backs 69 = .ok (.iaload, 1) := by decide +kernel
theorem dX8_backs_70 : decode cX8_backs 70 = .ok (.aload_n 1, 1) := by decide +kernel
theorem dX8_backs_71 : decode cX8_backs 71 = .ok (.iload 6, 2) := by decide +kernel
theorem dX8_backs_73 : decode cX8_backs 73 = .ok (.iconst 2, 1) := by decide +kernel
theorem dX8_backs_74 : decode cX8_backs 74 = .ok (.iadd, 1) := by decide +kernel
theorem dX8_backs_75 : decode cX8_backs 75 = .ok (.iaload, 1) := by decide +kernel
theorem dX8_backs_76 : decode cX8_backs 76 = .ok (.aload_n 1, 1) := by decide +kernel
theorem dX8_backs_77 : decode cX8_backs 77 = .ok (.iload 6, 2) := by decide +kernel
theorem dX8_backs_79 : decode cX8_backs 79 = .ok (.iaload, 1) := by decide +kernel
theorem dX8_backs_80 : decode cX8_backs 80 = .ok (.invokestatic 256, 3) := by decide +kernel
theorem dX8_backs_83 : decode cX8_backs 83 = .ok (.goto 4, 3) := by decide +kernel
theorem dX8_backs_86 : decode cX8_backs 86 = .ok (.iconst 0, 1) := by decide +kernel
theorem dX8_backs_87 : decode cX8_backs 87 = .ok (.istore 7, 2) := by decide +kernel
theorem dX8_backs_89 : decode cX8_backs 89 = .ok (.iload 7, 2) := by decide +kernel
theorem dX8_backs_91 : decode cX8_backs 91 = .ok (.ifCond .eq 6, 3) := by decide +kernel
theorem dX8_backs_94 : decode cX8_backs 94 = .ok (.iload 7, 2) := by decide +kernel
theorem dX8_backs_96 : decode cX8_backs 96 = .ok (.ireturn, 1) := by decide +kernel
theorem dX8_backs_97 : decode cX8_backs 97 = .ok (.iinc 5 1, 3) := by decide +kernel
theorem dX8_backs_100 : decode cX8_backs 100 = .ok (.goto (-69), 3) := by decide +kernel
theorem dX8_backs_103 : decode cX8_backs 103 = .ok (.iconst 0, 1) := by decide +kernel
theorem dX8_backs_104 : decode cX8_backs 104 = .ok (.istore 5, 2) := by decide +kernel
theorem dX8_backs_106 : decode cX8_backs 106 = .ok (.iload 5, 2) := by decide +kernel
theorem dX8_backs_108 : decode cX8_backs 108 = .ok (.aload_n 1, 1) := by decide +kernel
theorem dX8_backs_109 : decode cX8_backs 109 = .ok (.iload 4, 2) := by decide +kernel
theorem dX8_backs_111 : decode cX8_backs 111 = .ok (.iconst 3, 1) := by decide +kernel
theorem dX8_backs_112 : decode cX8_backs 112 = .ok (.iadd, 1) := by decide +kernel
theorem dX8_backs_113 : decode cX8_backs 113 = .ok (.iaload, 1) := by decide +kernel
theorem dX8_backs_114 : decode cX8_backs 114 = .ok (.if_icmp .ge 57, 3) := by decide +kernel
theorem dX8_backs_117 : decode cX8_backs 117 = .ok (.iload 4, 2) := by decide +kernel
theorem dX8_backs_119 : decode cX8_backs 119 = .ok (.iconst 5, 1) := by decide +kernel
theorem dX8_backs_120 : decode cX8_backs 120 = .ok (.iadd, 1) := by decide +kernel
theorem dX8_backs_121 : decode cX8_backs 121 = .ok (.iconst 5, 1) := by decide +kernel
theorem dX8_backs_122 : decode cX8_backs 122 = .ok (.iload 5, 2) := by decide +kernel
theorem dX8_backs_124 : decode cX8_backs 124 = .ok (.imul, 1) := by decide +kernel
theorem dX8_backs_125 : decode cX8_backs 125 = .ok (.iadd, 1) := by decide +kernel
theorem dX8_backs_126 : decode cX8_backs 126 = .ok (.istore 6, 2) := by decide +kernel
theorem dX8_backs_128 : decode cX8_backs 128 = .ok (.aload_n 1, 1) := by decide +kernel
theorem dX8_backs_129 : decode cX8_backs 129 = .ok (.iload 6, 2) := by decide +kernel
theorem dX8_backs_131 : decode cX8_backs 131 = .ok (.iconst 4, 1) := by decide +kernel
theorem dX8_backs_132 : decode cX8_backs 132 = .ok (.iadd, 1) := by decide +kernel
theorem dX8_backs_133 : decode cX8_backs 133 = .ok (.iaload, 1) := by decide +kernel
theorem dX8_backs_134 : decode cX8_backs 134 = .ok (.iconst 1, 1) := by decide +kernel
theorem dX8_backs_135 : decode cX8_backs 135 = .ok (.if_icmp .ne 30, 3) := by decide +kernel
theorem dX8_backs_138 : decode cX8_backs 138 = .ok (.aload_n 1, 1) := by decide +kernel
theorem dX8_backs_139 : decode cX8_backs 139 = .ok (.aload_n 1, 1) := by decide +kernel
theorem dX8_backs_140 : decode cX8_backs 140 = .ok (.iload 6, 2) := by decide +kernel
theorem dX8_backs_142 : decode cX8_backs 142 = .ok (.iconst 1, 1) := by decide +kernel
theorem dX8_backs_143 : decode cX8_backs 143 = .ok (.iadd, 1) := by decide +kernel
theorem dX8_backs_144 : decode cX8_backs 144 = .ok (.iaload, 1) := by decide +kernel
theorem dX8_backs_145 : decode cX8_backs 145 = .ok (.aload_n 1, 1) := by decide +kernel
theorem dX8_backs_146 : decode cX8_backs 146 = .ok (.iload 6, 2) := by decide +kernel
theorem dX8_backs_148 : decode cX8_backs 148 = .ok (.iconst 2, 1) := by decide +kernel
theorem dX8_backs_149 : decode cX8_backs 149 = .ok (.iadd, 1) := by decide +kernel
theorem dX8_backs_150 : decode cX8_backs 150 = .ok (.iaload, 1) := by decide +kernel
theorem dX8_backs_151 : decode cX8_backs 151 = .ok (.iconst 1, 1) := by decide +kernel
theorem dX8_backs_152 : decode cX8_backs 152 = .ok (.aload_n 1, 1) := by decide +kernel
theorem dX8_backs_153 : decode cX8_backs 153 = .ok (.iload 6, 2) := by decide +kernel
theorem dX8_backs_155 : decode cX8_backs 155 = .ok (.iconst 3, 1) := by decide +kernel
theorem dX8_backs_156 : decode cX8_backs 156 = .ok (.iadd, 1) := by decide +kernel
theorem dX8_backs_157 : decode cX8_backs 157 = .ok (.iaload, 1) := by decide +kernel
theorem dX8_backs_158 : decode cX8_backs 158 = .ok (.iconst 0, 1) := by decide +kernel
theorem dX8_backs_159 : decode cX8_backs 159 = .ok (.iconst 0, 1) := by decide +kernel
theorem dX8_backs_160 : decode cX8_backs 160 = .ok (.iconst 0, 1) := by decide +kernel
theorem dX8_backs_161 : decode cX8_backs 161 = .ok (.iconst 0, 1) := by decide +kernel
theorem dX8_backs_162 : decode cX8_backs 162 = .ok (.invokestatic 91, 3) := by decide +kernel
theorem dX8_backs_165 : decode cX8_backs 165 = .ok (.iinc 5 1, 3) := by decide +kernel
theorem dX8_backs_168 : decode cX8_backs 168 = .ok (.goto (-62), 3) := by decide +kernel
theorem dX8_backs_171 : decode cX8_backs 171 = .ok (.aload_n 1, 1) := by decide +kernel
theorem dX8_backs_172 : decode cX8_backs 172 = .ok (.sipush 192, 3) := by decide +kernel
theorem dX8_backs_175 : decode cX8_backs 175 = .ok (.iload_n 2, 1) := by decide +kernel
theorem dX8_backs_176 : decode cX8_backs 176 = .ok (.iadd, 1) := by decide +kernel
theorem dX8_backs_177 : decode cX8_backs 177 = .ok (.iload_n 3, 1) := by decide +kernel
theorem dX8_backs_178 : decode cX8_backs 178 = .ok (.iconst 1, 1) := by decide +kernel
theorem dX8_backs_179 : decode cX8_backs 179 = .ok (.isub, 1) := by decide +kernel
theorem dX8_backs_180 : decode cX8_backs 180 = .ok (.iastore, 1) := by decide +kernel
theorem dX8_backs_181 : decode cX8_backs 181 = .ok (.aload_n 1, 1) := by decide +kernel
theorem dX8_backs_182 : decode cX8_backs 182 = .ok (.iconst 3, 1) := by decide +kernel
theorem dX8_backs_183 : decode cX8_backs 183 = .ok (.aload_n 1, 1) := by decide +kernel
theorem dX8_backs_184 : decode cX8_backs 184 = .ok (.iload 4, 2) := by decide +kernel
theorem dX8_backs_186 : decode cX8_backs 186 = .ok (.iaload, 1) := by decide +kernel
theorem dX8_backs_187 : decode cX8_backs 187 = .ok (.iastore, 1) := by decide +kernel
theorem dX8_backs_188 : decode cX8_backs 188 = .ok (.aload_n 1, 1) := by decide +kernel
theorem dX8_backs_189 : decode cX8_backs 189 = .ok (.iconst 4, 1) := by decide +kernel
theorem dX8_backs_190 : decode cX8_backs 190 = .ok (.aload_n 1, 1) := by decide +kernel
theorem dX8_backs_191 : decode cX8_backs 191 = .ok (.iload 4, 2) := by decide +kernel
theorem dX8_backs_193 : decode cX8_backs 193 = .ok (.iconst 1, 1) := by decide +kernel
theorem dX8_backs_194 : decode cX8_backs 194 = .ok (.iadd, 1) := by decide +kernel
theorem dX8_backs_195 : decode cX8_backs 195 = .ok (.iaload, 1) := by decide +kernel
theorem dX8_backs_196 : decode cX8_backs 196 = .ok (.iastore, 1) := by decide +kernel
theorem dX8_backs_197 : decode cX8_backs 197 = .ok (.aload_n 1, 1) := by decide +kernel
theorem dX8_backs_198 : decode cX8_backs 198 = .ok (.iconst 5, 1) := by decide +kernel
theorem dX8_backs_199 : decode cX8_backs 199 = .ok (.aload_n 1, 1) := by decide +kernel
theorem dX8_backs_200 : decode cX8_backs 200 = .ok (.iload 4, 2) := by decide +kernel
theorem dX8_backs_202 : decode cX8_backs 202 = .ok (.iconst 2, 1) := by decide +kernel
theorem dX8_backs_203 : decode cX8_backs 203 = .ok (.iadd, 1) := by decide +kernel
theorem dX8_backs_204 : decode cX8_backs 204 = .ok (.iaload, 1) := by decide +kernel
theorem dX8_backs_205 : decode cX8_backs 205 = .ok (.iastore, 1) := by decide +kernel
theorem dX8_backs_206 : decode cX8_backs 206 = .ok (.iconst 0, 1) := by decide +kernel
theorem dX8_backs_207 : decode cX8_backs 207 = .ok (.ireturn, 1) := by decide +kernel
def F_X8_backs_l106 (k1 : Nat)  (post : Int32 → VP → Prop)  (v2 : Int32) (v3 : Int32) (v4 : Int32) (X : Int32 → VP → Prop) (v5 : Int32) (Q : VP) : Prop :=
  (0 ≤ v4 + 3 ∧ v4 + 3 < vlI k1) ∧ ((v5 < Q k1 0 (ix (v4 + 3)) → (0 ≤ ((v4 + 5) + (5 * v5)) + 4 ∧ ((v4 + 5) + (5 * v5)) + 4 < vlI k1) ∧ ((Q k1 0 (ix (((v4 + 5) + (5 * v5)) + 4)) = 1 → (0 ≤ ((v4 + 5) + (5 * v5)) + 1 ∧ ((v4 + 5) + (5 * v5)) + 1 < vlI k1) ∧ ((0 ≤ ((v4 + 5) + (5 * v5)) + 2 ∧ ((v4 + 5) + (5 * v5)) + 2 < vlI k1) ∧ ((0 ≤ ((v4 + 5) + (5 * v5)) + 3 ∧ ((v4 + 5) + (5 * v5)) + 3 < vlI k1) ∧ (F_X8_writes k1 (Q k1 0 (ix (((v4 + 5) + (5 * v5)) + 1))) (Q k1 0 (ix (((v4 + 5) + (5 * v5)) + 2))) ((1 : Int32)) (Q k1 0 (ix (((v4 + 5) + (5 * v5)) + 3))) ((0 : Int32)) ((0 : Int32)) ((0 : Int32)) ((0 : Int32)) Q (fun Q162 => X (v5 + 1) Q162))))) ∧ (¬ Q k1 0 (ix (((v4 + 5) + (5 * v5)) + 4)) = 1 → X (v5 + 1) Q))) ∧ (¬ v5 < Q k1 0 (ix (v4 + 3)) → (0 ≤ 192 + v2 ∧ 192 + v2 < vlI k1) ∧ (∀ Q180 : VP, Q180 = vup Q k1 0 (ix (192 + v2)) (v3 - 1) → ((0 ≤ v4 ∧ v4 < vlI k1) ∧ ((0 ≤ (3 : Int32) ∧ (3 : Int32) < vlI k1) ∧ (∀ Q187 : VP, Q187 = vup Q180 k1 0 (ix ((3 : Int32))) (Q180 k1 0 (ix v4)) → ((0 ≤ v4 + 1 ∧ v4 + 1 < vlI k1) ∧ ((0 ≤ (4 : Int32) ∧ (4 : Int32) < vlI k1) ∧ (∀ Q196 : VP, Q196 = vup Q187 k1 0 (ix ((4 : Int32))) (Q187 k1 0 (ix (v4 + 1))) → ((0 ≤ v4 + 2 ∧ v4 + 2 < vlI k1) ∧ ((0 ≤ (5 : Int32) ∧ (5 : Int32) < vlI k1) ∧ (∀ Q205 : VP, Q205 = vup Q196 k1 0 (ix ((5 : Int32))) (Q196 k1 0 (ix (v4 + 2))) → (post ((0 : Int32)) Q205)))))))))))))
set_option maxRecDepth 4000 in
theorem s_X8_backs_l106 {l : Launch} {g : vG} {k1 : Nat} {P : VP} {post : Int32 → VP → Prop}  {v2 : Int32} {v3 : Int32} {v4 : Int32}  {v5 : Int32} {Q : VP} (hk1 : vQA k1 0)  (h : vL2 (F_X8_backs_l106 k1  post  v2 v3 v4) v5 Q) : VM l g RX8 cX8_backs 8 (some .int) 4 (vmI P post) 106 [(1, vR k1 0), (2, vI v2), (3, vI v3), (4, vI v4), (5, vI v5)] [] (vjn P Q) := by
  refine vL2_s (T := fun v5 Q => VM l g RX8 cX8_backs 8 (some .int) 4 (vmI P post) 106 [(1, vR k1 0), (2, vI v2), (3, vI v3), (4, vI v4), (5, vI v5)] [] (vjn P Q)) ?_ h
  clear h
  intro X hX v5 Q h
  unfold F_X8_backs_l106 at h
  refine vr_iload 4 dX8_backs_106 rfl ?_
  refine vr_aload_n 1 0 dX8_backs_108 rfl rfl ?_
  refine vr_iload 3 dX8_backs_109 rfl ?_
  refine vr_iconst 3 dX8_backs_111 (by decide) ?_
  refine vr_iadd dX8_backs_112 ?_
  have hi := h.1
  have h := h.2
  refine vr_ialdQ (vlI k1) hk1 rfl hi dX8_backs_113 ?_
  refine vr_icmpge 171 dX8_backs_114 (by decide) (fun c114 => ?_) (fun c114 => ?_)
  · have h := h.1 c114
    refine vr_iload 3 dX8_backs_117 rfl ?_
    refine vr_iconst 5 dX8_backs_119 (by decide) ?_
    refine vr_iadd dX8_backs_120 ?_
    refine vr_iconst 5 dX8_backs_121 (by decide) ?_
    refine vr_iload 4 dX8_backs_122 rfl ?_
    refine vr_imul dX8_backs_124 ?_
    refine vr_iadd dX8_backs_125 ?_
    refine vr_istore [(6, vI ((v4 + 5) + (5 * v5))), (1, vR k1 0), (2, vI v2), (3, vI v3), (4, vI v4), (5, vI v5)] dX8_backs_126 (by decide) rfl ?_
    refine vr_aload_n 1 1 dX8_backs_128 rfl rfl ?_
    refine vr_iload 0 dX8_backs_129 rfl ?_
    refine vr_iconst 4 dX8_backs_131 (by decide) ?_
    refine vr_iadd dX8_backs_132 ?_
    have hi := h.1
    have h := h.2
    refine vr_ialdQ (vlI k1) hk1 rfl hi dX8_backs_133 ?_
    refine vr_iconst 1 dX8_backs_134 (by decide) ?_
    refine vr_icmpne 165 dX8_backs_135 (by decide) (fun c135 => ?_) (fun c135 => ?_)
    · have h := h.1 c135
      refine vr_aload_n 1 1 dX8_backs_138 rfl rfl ?_
      refine vr_aload_n 1 1 dX8_backs_139 rfl rfl ?_
      refine vr_iload 0 dX8_backs_140 rfl ?_
      refine vr_iconst 1 dX8_backs_142 (by decide) ?_
      refine vr_iadd dX8_backs_143 ?_
      have hi := h.1
      have h := h.2
      refine vr_ialdQ (vlI k1) hk1 rfl hi dX8_backs_144 ?_
      refine vr_aload_n 1 1 dX8_backs_145 rfl rfl ?_
      refine vr_iload 0 dX8_backs_146 rfl ?_
      refine vr_iconst 2 dX8_backs_148 (by decide) ?_
      refine vr_iadd dX8_backs_149 ?_
      have hi := h.1
      have h := h.2
      refine vr_ialdQ (vlI k1) hk1 rfl hi dX8_backs_150 ?_
      refine vr_iconst 1 dX8_backs_151 (by decide) ?_
      refine vr_aload_n 1 1 dX8_backs_152 rfl rfl ?_
      refine vr_iload 0 dX8_backs_153 rfl ?_
      refine vr_iconst 3 dX8_backs_155 (by decide) ?_
      refine vr_iadd dX8_backs_156 ?_
      have hi := h.1
      have h := h.2
      refine vr_ialdQ (vlI k1) hk1 rfl hi dX8_backs_157 ?_
      refine vr_iconst 0 dX8_backs_158 (by decide) ?_
      refine vr_iconst 0 dX8_backs_159 (by decide) ?_
      refine vr_iconst 0 dX8_backs_160 (by decide) ?_
      refine vr_iconst 0 dX8_backs_161 (by decide) ?_
      refine vr_callS RX8 (s_X8_writes hk1 h) rfl rfl ml_8_91 rfl yh_X8_writes rfl ⟨Nat.le_of_ble_eq_true rfl, Nat.le_of_ble_eq_true rfl⟩ (Nat.le_of_ble_eq_true rfl) ⟨Nat.zero_le _, Nat.zero_le _⟩ dX8_backs_162 (kmv fun Q162 h => ?_)
      refine vr_iinc (v5 + 1) 5 [(5, vI (v5 + 1)), (6, vI ((v4 + 5) + (5 * v5))), (1, vR k1 0), (2, vI v2), (3, vI v3), (4, vI v4)] dX8_backs_165 rfl rfl (by decide) rfl ?_
      refine vr_goto 106 dX8_backs_168 (by decide) ?_
      refine vr_sub [2, 3, 4, 5, 0] [(1, vR k1 0), (2, vI v2), (3, vI v3), (4, vI v4), (5, vI (v5 + 1))] rfl ?_
      exact hX _ _ h
    · have h := h.2 c135
      refine vr_iinc (v5 + 1) 5 [(5, vI (v5 + 1)), (6, vI ((v4 + 5) + (5 * v5))), (1, vR k1 0), (2, vI v2), (3, vI v3), (4, vI v4)] dX8_backs_165 rfl rfl (by decide) rfl ?_
      refine vr_goto 106 dX8_backs_168 (by decide) ?_
      refine vr_sub [2, 3, 4, 5, 0] [(1, vR k1 0), (2, vI v2), (3, vI v3), (4, vI v4), (5, vI (v5 + 1))] rfl ?_
      exact hX _ _ h
  · have h := h.2 c114
    refine vr_aload_n 1 0 dX8_backs_171 rfl rfl ?_
    refine vr_sipush 192 dX8_backs_172 (by decide) ?_
    refine vr_iload_n 2 1 dX8_backs_175 rfl rfl ?_
    refine vr_iadd dX8_backs_176 ?_
    refine vr_iload_n 3 2 dX8_backs_177 rfl rfl ?_
    refine vr_iconst 1 dX8_backs_178 (by decide) ?_
    refine vr_isub dX8_backs_179 ?_
    have hi := h.1
    have h := h.2
    obtain ⟨Q180, eQ180⟩ : ∃ y : VP, y = vup Q k1 0 (ix (192 + v2)) (v3 - 1) := ⟨_, rfl⟩
    have h := h Q180 eQ180
    refine vr_iastQ (vlI k1) hk1 rfl hi eQ180 dX8_backs_180 ?_
    refine vr_aload_n 1 0 dX8_backs_181 rfl rfl ?_
    refine vr_iconst 3 dX8_backs_182 (by decide) ?_
    refine vr_aload_n 1 0 dX8_backs_183 rfl rfl ?_
    refine vr_iload 3 dX8_backs_184 rfl ?_
    have hi := h.1
    have h := h.2
    refine vr_ialdQ (vlI k1) hk1 rfl hi dX8_backs_186 ?_
    have hi := h.1
    have h := h.2
    obtain ⟨Q187, eQ187⟩ : ∃ y : VP, y = vup Q180 k1 0 (ix ((3 : Int32))) (Q180 k1 0 (ix v4)) := ⟨_, rfl⟩
    have h := h Q187 eQ187
    refine vr_iastQ (vlI k1) hk1 rfl hi eQ187 dX8_backs_187 ?_
    refine vr_aload_n 1 0 dX8_backs_188 rfl rfl ?_
    refine vr_iconst 4 dX8_backs_189 (by decide) ?_
    refine vr_aload_n 1 0 dX8_backs_190 rfl rfl ?_
    refine vr_iload 3 dX8_backs_191 rfl ?_
    refine vr_iconst 1 dX8_backs_193 (by decide) ?_
    refine vr_iadd dX8_backs_194 ?_
    have hi := h.1
    have h := h.2
    refine vr_ialdQ (vlI k1) hk1 rfl hi dX8_backs_195 ?_
    have hi := h.1
    have h := h.2
    obtain ⟨Q196, eQ196⟩ : ∃ y : VP, y = vup Q187 k1 0 (ix ((4 : Int32))) (Q187 k1 0 (ix (v4 + 1))) := ⟨_, rfl⟩
    have h := h Q196 eQ196
    refine vr_iastQ (vlI k1) hk1 rfl hi eQ196 dX8_backs_196 ?_
    refine vr_aload_n 1 0 dX8_backs_197 rfl rfl ?_
    refine vr_iconst 5 dX8_backs_198 (by decide) ?_
    refine vr_aload_n 1 0 dX8_backs_199 rfl rfl ?_
    refine vr_iload 3 dX8_backs_200 rfl ?_
    refine vr_iconst 2 dX8_backs_202 (by decide) ?_
    refine vr_iadd dX8_backs_203 ?_
    have hi := h.1
    have h := h.2
    refine vr_ialdQ (vlI k1) hk1 rfl hi dX8_backs_204 ?_
    have hi := h.1
    have h := h.2
    obtain ⟨Q205, eQ205⟩ : ∃ y : VP, y = vup Q196 k1 0 (ix ((5 : Int32))) (Q196 k1 0 (ix (v4 + 2))) := ⟨_, rfl⟩
    have h := h Q205 eQ205
    refine vr_iastQ (vlI k1) hk1 rfl hi eQ205 dX8_backs_205 ?_
    refine vr_iconst 0 dX8_backs_206 (by decide) ?_
    exact vr_iret rfl ⟨_, _, rfl, rfl, h⟩ dX8_backs_207
def F_X8_backs_l31 (k1 : Nat) (Q : VP) (post : Int32 → VP → Prop)  (v2 : Int32) (v3 : Int32) (v4 : Int32) (X : Int32 → Prop) (v5 : Int32) : Prop :=
  (0 ≤ v4 + 3 ∧ v4 + 3 < vlI k1) ∧ ((v5 < Q k1 0 (ix (v4 + 3)) → (0 ≤ ((v4 + 5) + (5 * v5)) + 4 ∧ ((v4 + 5) + (5 * v5)) + 4 < vlI k1) ∧ ((Q k1 0 (ix (((v4 + 5) + (5 * v5)) + 4)) = 1 → (0 ≤ ((v4 + 5) + (5 * v5)) + 1 ∧ ((v4 + 5) + (5 * v5)) + 1 < vlI k1) ∧ ((0 ≤ ((v4 + 5) + (5 * v5)) + 2 ∧ ((v4 + 5) + (5 * v5)) + 2 < vlI k1) ∧ ((0 ≤ (v4 + 5) + (5 * v5) ∧ (v4 + 5) + (5 * v5) < vlI k1) ∧ (F_X8_putAt k1 (Q k1 0 (ix (((v4 + 5) + (5 * v5)) + 1))) (Q k1 0 (ix (((v4 + 5) + (5 * v5)) + 2))) (Q k1 0 (ix ((v4 + 5) + (5 * v5)))) Q (fun r80 => (r80 = 0 → X (v5 + 1)) ∧ (¬ r80 = 0 → post r80 Q)))))) ∧ (¬ Q k1 0 (ix (((v4 + 5) + (5 * v5)) + 4)) = 1 → ((0 : Int32) = 0 → X (v5 + 1)) ∧ (¬ (0 : Int32) = 0 → post ((0 : Int32)) Q)))) ∧ (¬ v5 < Q k1 0 (ix (v4 + 3)) → vL2 (F_X8_backs_l106 k1  post  v2 v3 v4) ((0 : Int32)) Q))
set_option maxRecDepth 4000 in
theorem s_X8_backs_l31 {l : Launch} {g : vG} {k1 : Nat} {P Q : VP} {post : Int32 → VP → Prop}  {v2 : Int32} {v3 : Int32} {v4 : Int32}  {v5 : Int32} (hk1 : vQA k1 0)  (h : vL1 (F_X8_backs_l31 k1 Q post  v2 v3 v4) v5) : VM l g RX8 cX8_backs 8 (some .int) 4 (vmI P post) 31 [(1, vR k1 0), (2, vI v2), (3, vI v3), (4, vI v4), (5, vI v5)] [] (vjn P Q) := by
  refine vL1_s (T := fun v5 => VM l g RX8 cX8_backs 8 (some .int) 4 (vmI P post) 31 [(1, vR k1 0), (2, vI v2), (3, vI v3), (4, vI v4), (5, vI v5)] [] (vjn P Q)) ?_ h
  clear h
  intro X hX v5 h
  unfold F_X8_backs_l31 at h
  refine vr_iload 4 dX8_backs_31 rfl ?_
  refine vr_aload_n 1 0 dX8_backs_33 rfl rfl ?_
  refine vr_iload 3 dX8_backs_34 rfl ?_
  refine vr_iconst 3 dX8_backs_36 (by decide) ?_
  refine vr_iadd dX8_backs_37 ?_
  have hi := h.1
  have h := h.2
  refine vr_ialdQ (vlI k1) hk1 rfl hi dX8_backs_38 ?_
  refine vr_icmpge 103 dX8_backs_39 (by decide) (fun c39 => ?_) (fun c39 => ?_)
  · have h := h.1 c39
    refine vr_iload 3 dX8_backs_42 rfl ?_
    refine vr_iconst 5 dX8_backs_44 (by decide) ?_
    refine vr_iadd dX8_backs_45 ?_
    refine vr_iconst 5 dX8_backs_46 (by decide) ?_
    refine vr_iload 4 dX8_backs_47 rfl ?_
    refine vr_imul dX8_backs_49 ?_
    refine vr_iadd dX8_backs_50 ?_
    refine vr_istore [(6, vI ((v4 + 5) + (5 * v5))), (1, vR k1 0), (2, vI v2), (3, vI v3), (4, vI v4), (5, vI v5)] dX8_backs_51 (by decide) rfl ?_
    refine vr_aload_n 1 1 dX8_backs_53 rfl rfl ?_
    refine vr_iload 0 dX8_backs_54 rfl ?_
    refine vr_iconst 4 dX8_backs_56 (by decide) ?_
    refine vr_iadd dX8_backs_57 ?_
    have hi := h.1
    have h := h.2
    refine vr_ialdQ (vlI k1) hk1 rfl hi dX8_backs_58 ?_
    refine vr_iconst 1 dX8_backs_59 (by decide) ?_
    refine vr_icmpne 86 dX8_backs_60 (by decide) (fun c60 => ?_) (fun c60 => ?_)
    · have h := h.1 c60
      refine vr_aload_n 1 1 dX8_backs_63 rfl rfl ?_
      refine vr_aload_n 1 1 dX8_backs_64 rfl rfl ?_
      refine vr_iload 0 dX8_backs_65 rfl ?_
      refine vr_iconst 1 dX8_backs_67 (by decide) ?_
      refine vr_iadd dX8_backs_68 ?_
      have hi := h.1
      have h := h.2
      refine vr_ialdQ (vlI k1) hk1 rfl hi dX8_backs_69 ?_
      refine vr_aload_n 1 1 dX8_backs_70 rfl rfl ?_
      refine vr_iload 0 dX8_backs_71 rfl ?_
      refine vr_iconst 2 dX8_backs_73 (by decide) ?_
      refine vr_iadd dX8_backs_74 ?_
      have hi := h.1
      have h := h.2
      refine vr_ialdQ (vlI k1) hk1 rfl hi dX8_backs_75 ?_
      refine vr_aload_n 1 1 dX8_backs_76 rfl rfl ?_
      refine vr_iload 0 dX8_backs_77 rfl ?_
      have hi := h.1
      have h := h.2
      refine vr_ialdQ (vlI k1) hk1 rfl hi dX8_backs_79 ?_
      refine vr_callS RX8 (s_X8_putAt hk1 h) rfl rfl ml_8_256 rfl yh_X8_putAt rfl ⟨Nat.le_of_ble_eq_true rfl, Nat.le_of_ble_eq_true rfl⟩ (Nat.le_of_ble_eq_true rfl) ⟨Nat.zero_le _, Nat.zero_le _⟩ dX8_backs_80 (ki fun r80 h => ?_)
      refine vr_goto 87 dX8_backs_83 (by decide) ?_
      refine vr_istore [(7, vI r80), (6, vI ((v4 + 5) + (5 * v5))), (1, vR k1 0), (2, vI v2), (3, vI v3), (4, vI v4), (5, vI v5)] dX8_backs_87 (by decide) rfl ?_
      refine vr_iload 0 dX8_backs_89 rfl ?_
      refine vr_ifeq 97 dX8_backs_91 (by decide) (fun c91 => ?_) (fun c91 => ?_)
      · have h := h.1 c91
        refine vr_iinc (v5 + 1) 6 [(5, vI (v5 + 1)), (7, vI r80), (6, vI ((v4 + 5) + (5 * v5))), (1, vR k1 0), (2, vI v2), (3, vI v3), (4, vI v4)] dX8_backs_97 rfl rfl (by decide) rfl ?_
        refine vr_goto 31 dX8_backs_100 (by decide) ?_
        refine vr_sub [3, 4, 5, 6, 0] [(1, vR k1 0), (2, vI v2), (3, vI v3), (4, vI v4), (5, vI (v5 + 1))] rfl ?_
        exact hX _ h
      · have h := h.2 c91
        refine vr_iload 0 dX8_backs_94 rfl ?_
        exact vr_iret rfl ⟨_, _, rfl, rfl, h⟩ dX8_backs_96
    · have h := h.2 c60
      refine vr_iconst 0 dX8_backs_86 (by decide) ?_
      refine vr_istore [(7, vI 0), (6, vI ((v4 + 5) + (5 * v5))), (1, vR k1 0), (2, vI v2), (3, vI v3), (4, vI v4), (5, vI v5)] dX8_backs_87 (by decide) rfl ?_
      refine vr_iload 0 dX8_backs_89 rfl ?_
      refine vr_ifeq 97 dX8_backs_91 (by decide) (fun c91 => ?_) (fun c91 => ?_)
      · have h := h.1 c91
        refine vr_iinc (v5 + 1) 6 [(5, vI (v5 + 1)), (7, vI 0), (6, vI ((v4 + 5) + (5 * v5))), (1, vR k1 0), (2, vI v2), (3, vI v3), (4, vI v4)] dX8_backs_97 rfl rfl (by decide) rfl ?_
        refine vr_goto 31 dX8_backs_100 (by decide) ?_
        refine vr_sub [3, 4, 5, 6, 0] [(1, vR k1 0), (2, vI v2), (3, vI v3), (4, vI v4), (5, vI (v5 + 1))] rfl ?_
        exact hX _ h
      · have h := h.2 c91
        refine vr_iload 0 dX8_backs_94 rfl ?_
        exact vr_iret rfl ⟨_, _, rfl, rfl, h⟩ dX8_backs_96
  · have h := h.2 c39
    refine vr_iconst 0 dX8_backs_103 (by decide) ?_
    refine vr_istore [(5, vI 0), (1, vR k1 0), (2, vI v2), (3, vI v3), (4, vI v4)] dX8_backs_104 (by decide) rfl ?_
    refine vr_sub [1, 2, 3, 4, 0] [(1, vR k1 0), (2, vI v2), (3, vI v3), (4, vI v4), (5, vI 0)] rfl ?_
    exact s_X8_backs_l106 hk1  h
def F_X8_backs (k1 : Nat) (Q : VP) (post : Int32 → VP → Prop) : Prop :=
  (0 ≤ (5 : Int32) ∧ (5 : Int32) < vlI k1) ∧ ((0 ≤ 192 + (Q k1 0 (ix ((5 : Int32)))) ∧ 192 + (Q k1 0 (ix ((5 : Int32)))) < vlI k1) ∧ (∀ v3_11 : Int32, v3_11 = Q k1 0 (ix (192 + (Q k1 0 (ix ((5 : Int32)))))) → ((v3_11 = 0 → post (((-30) : Int32)) Q) ∧ (¬ v3_11 = 0 → F_X8_frameAt (Q k1 0 (ix ((5 : Int32)))) (v3_11 - 1) Q (fun r23 => vL1 (F_X8_backs_l31 k1 Q post  (Q k1 0 (ix ((5 : Int32)))) v3_11 r23) ((0 : Int32)))))))
set_option maxRecDepth 4000 in
theorem s_X8_backs {l : Launch} {g : vG} {k1 : Nat} {P Q : VP} {post : Int32 → VP → Prop} (hk1 : vQA k1 0) (h : F_X8_backs k1 Q post) : VC l g yX8_backs cX8_backs 8 (some .int) 4 [vR 22 0, vR k1 0] (vjn P Q) (vmI P post) := by
  refine VC.of (by decide +kernel) (Nat.le_of_ble_eq_true rfl) (show VM l g RX8 cX8_backs 8 (some .int) 4 (vmI P post) 0 [(0, vR 22 0), (1, vR k1 0)] [] (vjn P Q) from ?_)
  unfold F_X8_backs at h
  refine vr_aload_n 1 1 dX8_backs_0 rfl rfl ?_
  refine vr_iconst 5 dX8_backs_1 (by decide) ?_
  have hi := h.1
  have h := h.2
  refine vr_ialdQ (vlI k1) hk1 rfl hi dX8_backs_2 ?_
  refine vr_istore_n 2 [(2, vI (Q k1 0 (ix ((5 : Int32))))), (0, vR 22 0), (1, vR k1 0)] dX8_backs_3 rfl (by decide) rfl ?_
  refine vr_aload_n 1 2 dX8_backs_4 rfl rfl ?_
  refine vr_sipush 192 dX8_backs_5 (by decide) ?_
  refine vr_iload_n 2 0 dX8_backs_8 rfl rfl ?_
  refine vr_iadd dX8_backs_9 ?_
  have hi := h.1
  have h := h.2
  refine vr_ialdQ (vlI k1) hk1 rfl hi dX8_backs_10 ?_
  obtain ⟨v3_11, ev3_11⟩ : ∃ y : Int32, y = Q k1 0 (ix (192 + (Q k1 0 (ix ((5 : Int32)))))) := ⟨_, rfl⟩
  have h := h v3_11 ev3_11
  refine vr_nm ev3_11 ?_
  refine vr_istore_n 3 [(3, vI v3_11), (2, vI (Q k1 0 (ix ((5 : Int32))))), (0, vR 22 0), (1, vR k1 0)] dX8_backs_11 rfl (by decide) rfl ?_
  refine vr_iload_n 3 0 dX8_backs_12 rfl rfl ?_
  refine vr_ifne 19 dX8_backs_13 (by decide) (fun c13 => ?_) (fun c13 => ?_)
  · have h := h.1 c13
    refine vr_bipush (-30) dX8_backs_16 (by decide) ?_
    exact vr_iret rfl ⟨_, _, rfl, rfl, h⟩ dX8_backs_18
  · have h := h.2 c13
    refine vr_iload_n 2 1 dX8_backs_19 rfl rfl ?_
    refine vr_iload_n 3 0 dX8_backs_20 rfl rfl ?_
    refine vr_iconst 1 dX8_backs_21 (by decide) ?_
    refine vr_isub dX8_backs_22 ?_
    refine vr_callS RX8 (s_X8_frameAt h) rfl rfl ml_8_253 rfl yh_X8_frameAt rfl ⟨Nat.le_of_ble_eq_true rfl, Nat.le_of_ble_eq_true rfl⟩ (Nat.le_of_ble_eq_true rfl) ⟨Nat.zero_le _, Nat.zero_le _⟩ dX8_backs_23 (ki fun r23 h => ?_)
    refine vr_istore [(4, vI r23), (3, vI v3_11), (2, vI (Q k1 0 (ix ((5 : Int32))))), (0, vR 22 0), (1, vR k1 0)] dX8_backs_26 (by decide) rfl ?_
    refine vr_iconst 0 dX8_backs_28 (by decide) ?_
    refine vr_istore [(5, vI 0), (4, vI r23), (3, vI v3_11), (2, vI (Q k1 0 (ix ((5 : Int32))))), (0, vR 22 0), (1, vR k1 0)] dX8_backs_29 (by decide) rfl ?_
    refine vr_sub [5, 3, 2, 1, 0] [(1, vR k1 0), (2, vI (Q k1 0 (ix ((5 : Int32))))), (3, vI v3_11), (4, vI r23), (5, vI 0)] rfl ?_
    exact s_X8_backs_l31 hk1  h
