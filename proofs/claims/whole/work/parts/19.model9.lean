/-! X8_act, X8_toldOf, X8_word, X8_unsnap, X8_feed, X8_byteAt, X8_many, X8_is, X8_stops, X8_sign, X8_digits, X8_value, X8_letter, X8_actLine -/
theorem dX8_act_0 : decode cX8_act 0 = .ok (.aload_n 0, 1) := by decide +kernel
theorem dX8_act_1 : decode cX8_act 1 = .ok (.iload_n 1, 1) := by decide +kernel
theorem dX8_act_2 : decode cX8_act 2 = .ok (.invokevirtual 95, 3) := by decide +kernel
theorem dX8_act_5 : decode cX8_act 5 = .ok (.ifCond .eq 57, 3) := by decide +kernel
theorem dX8_act_8 : decode cX8_act 8 = .ok (.iload_n 3, 1) := by decide +kernel
theorem dX8_act_9 : decode cX8_act 9 = .ok (.i2l, 1) := by decide +kernel
theorem dX8_act_10 : decode cX8_act 10 = .ok (.lconst 0, 1) := by decide +kernel
theorem dX8_act_11 : decode cX8_act 11 = .ok (.ldc2_w 132, 3) := by decide +kernel
theorem dX8_act_14 : decode cX8_act 14 = .ok (.invokestatic 54, 3) := by decide +kernel
theorem dX8_act_17 : decode cX8_act 17 = .ok (.ifCond .eq 45, 3) := by decide +kernel
theorem dX8_act_20 : decode cX8_act 20 = .ok (.iload 4, 2) := by decide +kernel
theorem dX8_act_22 : decode cX8_act 22 = .ok (.i2l, 1) := by decide +kernel
theorem dX8_act_23 : decode cX8_act 23 = .ok (.lconst 0, 1) := by decide +kernel
theorem dX8_act_24 : decode cX8_act 24 = .ok (.ldc2_w 130, 3) := by decide +kernel
theorem dX8_act_27 : decode cX8_act 27 = .ok (.invokestatic 54, 3) := by decide +kernel
theorem dX8_act_30 : decode cX8_act 30 = .ok (.ifCond .eq 32, 3) := by decide +kernel
theorem dX8_act_33 : decode cX8_act 33 = .ok (.iload 5, 2) := by decide +kernel
theorem dX8_act_35 : decode cX8_act 35 = .ok (.i2l, 1) := by decide +kernel
theorem dX8_act_36 : decode cX8_act 36 = .ok (.lconst 0, 1) := by decide +kernel
theorem dX8_act_37 : decode cX8_act 37 = .ok (.ldc2_w 134, 3) := by decide +kernel
theorem dX8_act_40 : decode cX8_act 40 = .ok (.invokestatic 54, 3) := by decide +kernel
theorem dX8_act_43 : decode cX8_act 43 = .ok (.ifCond .eq 19, 3) := by decide +kernel
theorem dX8_act_46 : decode cX8_act 46 = .ok (.aload_n 0, 1) := by decide +kernel
theorem dX8_act_47 : decode cX8_act 47 = .ok (.iload_n 1, 1) := by decide +kernel
theorem dX8_act_48 : decode cX8_act 48 = .ok (.iload_n 2, 1) := by decide +kernel
theorem dX8_act_49 : decode cX8_act 49 = .ok (.bipush 6, 2) := by decide +kernel
theorem dX8_act_51 : decode cX8_act 51 = .ok (.iload_n 3, 1) := by decide +kernel
theorem dX8_act_52 : decode cX8_act 52 = .ok (.iload 4, 2) := by decide +kernel
theorem dX8_act_54 : decode cX8_act 54 = .ok (.iload 5, 2) := by decide +kernel
theorem dX8_act_56 : decode cX8_act 56 = .ok (.invokevirtual 123, 3) := by decide +kernel
theorem dX8_act_59 : decode cX8_act 59 = .ok (.goto 4, 3) := by decide +kernel
theorem dX8_act_62 : decode cX8_act 62 = .ok (.iconst (-1), 1) := by decide +kernel
theorem dX8_act_63 : decode cX8_act 63 = .ok (.ireturn, 1) := by decide +kernel
def F_X8_act (x1 : Int32) (x2 : Int32) (x3 : Int32) (x4 : Int32) (x5 : Int32) (Q : VP) (post : Int32 → VP → Prop) : Prop :=
  F_X8_isSegment x1 Q (fun r2 => (r2 = 0 → post (((-1) : Int32)) Q) ∧ (¬ r2 = 0 → F_X8_in (Int32.toInt64 x3) 0 9 Q (fun r14 => (r14 = 0 → post (((-1) : Int32)) Q) ∧ (¬ r14 = 0 → F_X8_in (Int32.toInt64 x4) 0 23 Q (fun r27 => (r27 = 0 → post (((-1) : Int32)) Q) ∧ (¬ r27 = 0 → F_X8_in (Int32.toInt64 x5) 0 3 Q (fun r40 => (r40 = 0 → post (((-1) : Int32)) Q) ∧ (¬ r40 = 0 → F_X8_becomes x1 x2 ((6 : Int32)) x3 x4 x5 Q (fun r56 Q56 => post r56 Q56)))))))))
set_option maxRecDepth 4000 in
theorem s_X8_act {l : Launch} {g : vG} {x1 : Int32} {x2 : Int32} {x3 : Int32} {x4 : Int32} {x5 : Int32} {P Q : VP} {post : Int32 → VP → Prop}  (h : F_X8_act x1 x2 x3 x4 x5 Q post) : VC l g yX8_act cX8_act 6 (some .int) 3 [vR 22 0, vI x1, vI x2, vI x3, vI x4, vI x5] (vjn P Q) (vmI P post) := by
  refine VC.of (by decide +kernel) (Nat.le_of_ble_eq_true rfl) (show VM l g RX8 cX8_act 6 (some .int) 3 (vmI P post) 0 [(0, vR 22 0), (1, vI x1), (2, vI x2), (3, vI x3), (4, vI x4), (5, vI x5)] [] (vjn P Q) from ?_)
  unfold F_X8_act at h
  refine vr_aload_n 0 0 dX8_act_0 rfl rfl ?_
  refine vr_iload_n 1 1 dX8_act_1 rfl rfl ?_
  refine vr_callV RX8 (s_X8_isSegment h) rfl (by decide) rfl rfl rfl ml_8_95 rfl yh_X8_isSegment rfl ⟨Nat.le_of_ble_eq_true rfl, Nat.le_of_ble_eq_true rfl⟩ (Nat.le_of_ble_eq_true rfl) ⟨Nat.zero_le _, Nat.zero_le _⟩ dX8_act_2 (ki fun r2 h => ?_)
  refine vr_ifeq 62 dX8_act_5 (by decide) (fun c5 => ?_) (fun c5 => ?_)
  · have h := h.1 c5
    refine vr_iconst (-1) dX8_act_62 (by decide) ?_
    exact vr_iret rfl ⟨_, _, rfl, rfl, h⟩ dX8_act_63
  · have h := h.2 c5
    refine vr_iload_n 3 3 dX8_act_8 rfl rfl ?_
    refine vr_i2l dX8_act_9 ?_
    refine vr_lconst 0 dX8_act_10 (by decide) ?_
    refine vr_ldc2 9 ct_8_132 dX8_act_11 ?_
    refine vr_callS RX8 (s_X8_in h) rfl rfl ml_8_54 rfl yh_X8_in rfl ⟨Nat.le_of_ble_eq_true rfl, Nat.le_of_ble_eq_true rfl⟩ (Nat.le_of_ble_eq_true rfl) ⟨Nat.zero_le _, Nat.zero_le _⟩ dX8_act_14 (ki fun r14 h => ?_)
    refine vr_ifeq 62 dX8_act_17 (by decide) (fun c17 => ?_) (fun c17 => ?_)
    · have h := h.1 c17
      refine vr_iconst (-1) dX8_act_62 (by decide) ?_
      exact vr_iret rfl ⟨_, _, rfl, rfl, h⟩ dX8_act_63
    · have h := h.2 c17
      refine vr_iload 4 dX8_act_20 rfl ?_
      refine vr_i2l dX8_act_22 ?_
      refine vr_lconst 0 dX8_act_23 (by decide) ?_
      refine vr_ldc2 23 ct_8_130 dX8_act_24 ?_
      refine vr_callS RX8 (s_X8_in h) rfl rfl ml_8_54 rfl yh_X8_in rfl ⟨Nat.le_of_ble_eq_true rfl, Nat.le_of_ble_eq_true rfl⟩ (Nat.le_of_ble_eq_true rfl) ⟨Nat.zero_le _, Nat.zero_le _⟩ dX8_act_27 (ki fun r27 h => ?_)
      refine vr_ifeq 62 dX8_act_30 (by decide) (fun c30 => ?_) (fun c30 => ?_)
      · have h := h.1 c30
        refine vr_iconst (-1) dX8_act_62 (by decide) ?_
        exact vr_iret rfl ⟨_, _, rfl, rfl, h⟩ dX8_act_63
      · have h := h.2 c30
        refine vr_iload 5 dX8_act_33 rfl ?_
        refine vr_i2l dX8_act_35 ?_
        refine vr_lconst 0 dX8_act_36 (by decide) ?_
        refine vr_ldc2 3 ct_8_134 dX8_act_37 ?_
        refine vr_callS RX8 (s_X8_in h) rfl rfl ml_8_54 rfl yh_X8_in rfl ⟨Nat.le_of_ble_eq_true rfl, Nat.le_of_ble_eq_true rfl⟩ (Nat.le_of_ble_eq_true rfl) ⟨Nat.zero_le _, Nat.zero_le _⟩ dX8_act_40 (ki fun r40 h => ?_)
        refine vr_ifeq 62 dX8_act_43 (by decide) (fun c43 => ?_) (fun c43 => ?_)
        · have h := h.1 c43
          refine vr_iconst (-1) dX8_act_62 (by decide) ?_
          exact vr_iret rfl ⟨_, _, rfl, rfl, h⟩ dX8_act_63
        · have h := h.2 c43
          refine vr_aload_n 0 0 dX8_act_46 rfl rfl ?_
          refine vr_iload_n 1 1 dX8_act_47 rfl rfl ?_
          refine vr_iload_n 2 2 dX8_act_48 rfl rfl ?_
          refine vr_bipush 6 dX8_act_49 (by decide) ?_
          refine vr_iload_n 3 3 dX8_act_51 rfl rfl ?_
          refine vr_iload 4 dX8_act_52 rfl ?_
          refine vr_iload 5 dX8_act_54 rfl ?_
          refine vr_callV RX8 (s_X8_becomes h) rfl (by decide) rfl rfl rfl ml_8_123 rfl yh_X8_becomes rfl ⟨Nat.le_of_ble_eq_true rfl, Nat.le_of_ble_eq_true rfl⟩ (Nat.le_of_ble_eq_true rfl) ⟨Nat.zero_le _, Nat.zero_le _⟩ dX8_act_56 (kmi fun r56 Q56 h => ?_)
          refine vr_goto 63 dX8_act_59 (by decide) ?_
          exact vr_iret rfl ⟨_, _, rfl, rfl, h⟩ dX8_act_63
theorem dX8_toldOf_0 : decode cX8_toldOf 0 = .ok (.aload_n 0, 1) := by decide +kernel
theorem dX8_toldOf_1 : decode cX8_toldOf 1 = .ok (.getfield 9, 3) := by decide +kernel
theorem dX8_toldOf_4 : decode cX8_toldOf 4 = .ok (.iload_n 1, 1) := by decide +kernel
theorem dX8_toldOf_5 : decode cX8_toldOf 5 = .ok (.iload_n 2, 1) := by decide +kernel
theorem dX8_toldOf_6 : decode cX8_toldOf 6 = .ok (.iconst 1, 1) := by decide +kernel
theorem dX8_toldOf_7 : decode cX8_toldOf 7 = .ok (.invokestatic 136, 3) := by decide +kernel
theorem dX8_toldOf_10 : decode cX8_toldOf 10 = .ok (.istore_n 3, 1) := by decide +kernel
theorem dX8_toldOf_11 : decode cX8_toldOf 11 = .ok (.aload_n 0, 1) := by decide +kernel
theorem dX8_toldOf_12 : decode cX8_toldOf 12 = .ok (.getfield 9, 3) := by decide +kernel
theorem dX8_toldOf_15 : decode cX8_toldOf 15 = .ok (.iload_n 1, 1) := by decide +kernel
theorem dX8_toldOf_16 : decode cX8_toldOf 16 = .ok (.iload_n 2, 1) := by decide +kernel
theorem dX8_toldOf_17 : decode cX8_toldOf 17 = .ok (.iconst 2, 1) := by decide +kernel
theorem dX8_toldOf_18 : decode cX8_toldOf 18 = .ok (.invokestatic 136, 3) := by decide +kernel
theorem dX8_toldOf_21 : decode cX8_toldOf 21 = .ok (.istore 4, 2) := by decide +kernel
theorem dX8_toldOf_23 : decode cX8_toldOf 23 = .ok (.aload_n 0, 1) := by decide +kernel
theorem dX8_toldOf_24 : decode cX8_toldOf 24 = .ok (.getfield 9, 3) := by decide +kernel
theorem dX8_toldOf_27 : decode cX8_toldOf 27 = .ok (.iload_n 1, 1) := by decide +kernel
theorem dX8_toldOf_28 : decode cX8_toldOf 28 = .ok (.iload_n 2, 1) := by decide +kernel
theorem dX8_toldOf_29 : decode cX8_toldOf 29 = .ok (.iconst 3, 1) := by decide +kernel
theorem dX8_toldOf_30 : decode cX8_toldOf 30 = .ok (.invokestatic 136, 3) := by decide +kernel
theorem dX8_toldOf_33 : decode cX8_toldOf 33 = .ok (.istore 5, 2) := by decide +kernel
theorem dX8_toldOf_35 : decode cX8_toldOf 35 = .ok (.aload_n 0, 1) := by decide +kernel
theorem dX8_toldOf_36 : decode cX8_toldOf 36 = .ok (.getfield 9, 3) := by decide +kernel
theorem dX8_toldOf_39 : decode cX8_toldOf 39 = .ok (.iload_n 1, 1) := by decide +kernel
theorem dX8_toldOf_40 : decode cX8_toldOf 40 = .ok (.iload_n 2, 1) := by decide +kernel
theorem dX8_toldOf_41 : decode cX8_toldOf 41 = .ok (.iconst 0, 1) := by decide +kernel
theorem dX8_toldOf_42 : decode cX8_toldOf 42 = .ok (.invokestatic 136, 3) := by decide +kernel
theorem dX8_toldOf_45 : decode cX8_toldOf 45 = .ok (.tableswitch 79 1 6 #[39, 41, 41, 56, 41, 64], 39) := by decide +kernel
theorem dX8_toldOf_84 : decode cX8_toldOf 84 = .ok (.iload_n 3, 1) := by decide +kernel
theorem dX8_toldOf_85 : decode cX8_toldOf 85 = .ok (.ireturn, 1) := by decide +kernel
theorem dX8_toldOf_86 : decode cX8_toldOf 86 = .ok (.sipush 1000, 3) := by decide +kernel
theorem dX8_toldOf_89 : decode cX8_toldOf 89 = .ok (.iload 4, 2) := by decide +kernel
theorem dX8_toldOf_91 : decode cX8_toldOf 91 = .ok (.imul, 1) := by decide +kernel
theorem dX8_toldOf_92 : decode cX8_toldOf 92 = .ok (.bipush 100, 2) := by decide +kernel
theorem dX8_toldOf_94 : decode cX8_toldOf 94 = .ok (.iload_n 3, 1) := by decide +kernel
theorem dX8_toldOf_95 : decode cX8_toldOf 95 = .ok (.imul, 1) := by decide +kernel
theorem dX8_toldOf_96 : decode cX8_toldOf 96 = .ok (.iadd, 1) := by decide +kernel
theorem dX8_toldOf_97 : decode cX8_toldOf 97 = .ok (.iload 5, 2) := by decide +kernel
theorem dX8_toldOf_99 : decode cX8_toldOf 99 = .ok (.iadd, 1) := by decide +kernel
theorem dX8_toldOf_100 : decode cX8_toldOf 100 = .ok (.ireturn, 1) := by decide +kernel
theorem dX8_toldOf_101 : decode cX8_toldOf 101 = .ok (.bipush 100, 2) := by decide +kernel
theorem dX8_toldOf_103 : decode cX8_toldOf 103 = .ok (.iload_n 3, 1) := by decide +kernel
theorem dX8_toldOf_104 : decode cX8_toldOf 104 = .ok (.imul, 1) := by decide +kernel
theorem dX8_toldOf_105 : decode cX8_toldOf 105 = .ok (.iload 4, 2) := by decide +kernel
theorem dX8_toldOf_107 : decode cX8_toldOf 107 = .ok (.iadd, 1) := by decide +kernel
theorem dX8_toldOf_108 : decode cX8_toldOf 108 = .ok (.ireturn, 1) := by decide +kernel
theorem dX8_toldOf_109 : decode cX8_toldOf 109 = .ok (.sipush 1000, 3) := by decide +kernel
theorem dX8_toldOf_112 : decode cX8_toldOf 112 = .ok (.iload_n 3, 1) := by decide +kernel
theorem dX8_toldOf_113 : decode cX8_toldOf 113 = .ok (.imul, 1) := by decide +kernel
theorem dX8_toldOf_114 : decode cX8_toldOf 114 = .ok (.bipush 10, 2) := by decide +kernel
theorem dX8_toldOf_116 : decode cX8_toldOf 116 = .ok (.iload 4, 2) := by decide +kernel
theorem dX8_toldOf_118 : decode cX8_toldOf 118 = .ok (.imul, 1) := by decide +kernel
theorem dX8_toldOf_119 : decode cX8_toldOf 119 = .ok (.iadd, 1) := by decide +kernel
theorem dX8_toldOf_120 : decode cX8_toldOf 120 = .ok (.iload 5, 2) := by decide +kernel
theorem dX8_toldOf_122 : decode cX8_toldOf 122 = .ok (.iadd, 1) := by decide +kernel
theorem dX8_toldOf_123 : decode cX8_toldOf 123 = .ok (.ireturn, 1) := by decide +kernel
theorem dX8_toldOf_124 : decode cX8_toldOf 124 = .ok (.iconst 0, 1) := by decide +kernel
theorem dX8_toldOf_125 : decode cX8_toldOf 125 = .ok (.ireturn, 1) := by decide +kernel
def F_X8_toldOf (x1 : Int32) (x2 : Int32) (Q : VP) (post : Int32 → Prop) : Prop :=
  F_X8_told 23 x1 x2 ((1 : Int32)) Q (fun r7 => F_X8_told 23 x1 x2 ((2 : Int32)) Q (fun r18 => F_X8_told 23 x1 x2 ((3 : Int32)) Q (fun r30 => F_X8_told 23 x1 x2 ((0 : Int32)) Q (fun r42 => (r42 = 1 → post r7) ∧ (¬ r42 = 1 → (r42 = 2 → post (((1000 * r18) + (100 * r7)) + r30)) ∧ (¬ r42 = 2 → (r42 = 3 → post (((1000 * r18) + (100 * r7)) + r30)) ∧ (¬ r42 = 3 → (r42 = 4 → post ((100 * r7) + r18)) ∧ (¬ r42 = 4 → (r42 = 5 → post (((1000 * r18) + (100 * r7)) + r30)) ∧ (¬ r42 = 5 → (r42 = 6 → post (((1000 * r7) + (10 * r18)) + r30)) ∧ (¬ r42 = 6 → post ((0 : Int32))))))))))))
set_option maxRecDepth 4000 in
theorem s_X8_toldOf {l : Launch} {g : vG} {x1 : Int32} {x2 : Int32} {P Q : VP} {post : Int32 → Prop}  (h : F_X8_toldOf x1 x2 Q post) : VC l g yX8_toldOf cX8_toldOf 6 (some .int) 1 [vR 22 0, vI x1, vI x2] (vjn P Q) (vpI (vjn P Q) post) := by
  refine VC.of (by decide +kernel) (Nat.le_of_ble_eq_true rfl) (show VM l g RX8 cX8_toldOf 6 (some .int) 1 (vpI (vjn P Q) post) 0 [(0, vR 22 0), (1, vI x1), (2, vI x2)] [] (vjn P Q) from ?_)
  unfold F_X8_toldOf at h
  refine vr_aload_n 0 0 dX8_toldOf_0 rfl rfl ?_
  refine vg_22_0 RX8 rfl (by decide) fl_8_9 dX8_toldOf_1 ?_
  refine vr_iload_n 1 1 dX8_toldOf_4 rfl rfl ?_
  refine vr_iload_n 2 2 dX8_toldOf_5 rfl rfl ?_
  refine vr_iconst 1 dX8_toldOf_6 (by decide) ?_
  refine vr_callS RX8 (s_X8_told ia_23 h) rfl rfl ml_8_136 rfl yh_X8_told rfl ⟨Nat.le_of_ble_eq_true rfl, Nat.le_of_ble_eq_true rfl⟩ (Nat.le_of_ble_eq_true rfl) ⟨Nat.zero_le _, Nat.zero_le _⟩ dX8_toldOf_7 (ki fun r7 h => ?_)
  refine vr_istore_n 3 [(3, vI r7), (0, vR 22 0), (1, vI x1), (2, vI x2)] dX8_toldOf_10 rfl (by decide) rfl ?_
  refine vr_aload_n 0 1 dX8_toldOf_11 rfl rfl ?_
  refine vg_22_0 RX8 rfl (by decide) fl_8_9 dX8_toldOf_12 ?_
  refine vr_iload_n 1 2 dX8_toldOf_15 rfl rfl ?_
  refine vr_iload_n 2 3 dX8_toldOf_16 rfl rfl ?_
  refine vr_iconst 2 dX8_toldOf_17 (by decide) ?_
  refine vr_callS RX8 (s_X8_told ia_23 h) rfl rfl ml_8_136 rfl yh_X8_told rfl ⟨Nat.le_of_ble_eq_true rfl, Nat.le_of_ble_eq_true rfl⟩ (Nat.le_of_ble_eq_true rfl) ⟨Nat.zero_le _, Nat.zero_le _⟩ dX8_toldOf_18 (ki fun r18 h => ?_)
  refine vr_istore [(4, vI r18), (3, vI r7), (0, vR 22 0), (1, vI x1), (2, vI x2)] dX8_toldOf_21 (by decide) rfl ?_
  refine vr_aload_n 0 2 dX8_toldOf_23 rfl rfl ?_
  refine vg_22_0 RX8 rfl (by decide) fl_8_9 dX8_toldOf_24 ?_
  refine vr_iload_n 1 3 dX8_toldOf_27 rfl rfl ?_
  refine vr_iload_n 2 4 dX8_toldOf_28 rfl rfl ?_
  refine vr_iconst 3 dX8_toldOf_29 (by decide) ?_
  refine vr_callS RX8 (s_X8_told ia_23 h) rfl rfl ml_8_136 rfl yh_X8_told rfl ⟨Nat.le_of_ble_eq_true rfl, Nat.le_of_ble_eq_true rfl⟩ (Nat.le_of_ble_eq_true rfl) ⟨Nat.zero_le _, Nat.zero_le _⟩ dX8_toldOf_30 (ki fun r30 h => ?_)
  refine vr_istore [(5, vI r30), (4, vI r18), (3, vI r7), (0, vR 22 0), (1, vI x1), (2, vI x2)] dX8_toldOf_33 (by decide) rfl ?_
  refine vr_aload_n 0 3 dX8_toldOf_35 rfl rfl ?_
  refine vg_22_0 RX8 rfl (by decide) fl_8_9 dX8_toldOf_36 ?_
  refine vr_iload_n 1 4 dX8_toldOf_39 rfl rfl ?_
  refine vr_iload_n 2 5 dX8_toldOf_40 rfl rfl ?_
  refine vr_iconst 0 dX8_toldOf_41 (by decide) ?_
  refine vr_callS RX8 (s_X8_told ia_23 h) rfl rfl ml_8_136 rfl yh_X8_told rfl ⟨Nat.le_of_ble_eq_true rfl, Nat.le_of_ble_eq_true rfl⟩ (Nat.le_of_ble_eq_true rfl) ⟨Nat.zero_le _, Nat.zero_le _⟩ dX8_toldOf_42 (ki fun r42 h => ?_)
  by_cases c45_0 : r42 = 1
  · have h := h.1 c45_0
    refine vr_tswIn 1 84 dX8_toldOf_45 c45_0 (by decide) rfl (by decide) ?_
    refine vr_iload_n 3 2 dX8_toldOf_84 rfl rfl ?_
    exact vr_iret rfl ⟨rfl, _, rfl, h⟩ dX8_toldOf_85
  · have h := h.2 c45_0
    by_cases c45_1 : r42 = 2
    · have h := h.1 c45_1
      refine vr_tswIn 2 86 dX8_toldOf_45 c45_1 (by decide) rfl (by decide) ?_
      refine vr_sipush 1000 dX8_toldOf_86 (by decide) ?_
      refine vr_iload 1 dX8_toldOf_89 rfl ?_
      refine vr_imul dX8_toldOf_91 ?_
      refine vr_bipush 100 dX8_toldOf_92 (by decide) ?_
      refine vr_iload_n 3 2 dX8_toldOf_94 rfl rfl ?_
      refine vr_imul dX8_toldOf_95 ?_
      refine vr_iadd dX8_toldOf_96 ?_
      refine vr_iload 0 dX8_toldOf_97 rfl ?_
      refine vr_iadd dX8_toldOf_99 ?_
      exact vr_iret rfl ⟨rfl, _, rfl, h⟩ dX8_toldOf_100
    · have h := h.2 c45_1
      by_cases c45_2 : r42 = 3
      · have h := h.1 c45_2
        refine vr_tswIn 3 86 dX8_toldOf_45 c45_2 (by decide) rfl (by decide) ?_
        refine vr_sipush 1000 dX8_toldOf_86 (by decide) ?_
        refine vr_iload 1 dX8_toldOf_89 rfl ?_
        refine vr_imul dX8_toldOf_91 ?_
        refine vr_bipush 100 dX8_toldOf_92 (by decide) ?_
        refine vr_iload_n 3 2 dX8_toldOf_94 rfl rfl ?_
        refine vr_imul dX8_toldOf_95 ?_
        refine vr_iadd dX8_toldOf_96 ?_
        refine vr_iload 0 dX8_toldOf_97 rfl ?_
        refine vr_iadd dX8_toldOf_99 ?_
        exact vr_iret rfl ⟨rfl, _, rfl, h⟩ dX8_toldOf_100
      · have h := h.2 c45_2
        by_cases c45_3 : r42 = 4
        · have h := h.1 c45_3
          refine vr_tswIn 4 101 dX8_toldOf_45 c45_3 (by decide) rfl (by decide) ?_
          refine vr_bipush 100 dX8_toldOf_101 (by decide) ?_
          refine vr_iload_n 3 2 dX8_toldOf_103 rfl rfl ?_
          refine vr_imul dX8_toldOf_104 ?_
          refine vr_iload 1 dX8_toldOf_105 rfl ?_
          refine vr_iadd dX8_toldOf_107 ?_
          exact vr_iret rfl ⟨rfl, _, rfl, h⟩ dX8_toldOf_108
        · have h := h.2 c45_3
          by_cases c45_4 : r42 = 5
          · have h := h.1 c45_4
            refine vr_tswIn 5 86 dX8_toldOf_45 c45_4 (by decide) rfl (by decide) ?_
            refine vr_sipush 1000 dX8_toldOf_86 (by decide) ?_
            refine vr_iload 1 dX8_toldOf_89 rfl ?_
            refine vr_imul dX8_toldOf_91 ?_
            refine vr_bipush 100 dX8_toldOf_92 (by decide) ?_
            refine vr_iload_n 3 2 dX8_toldOf_94 rfl rfl ?_
            refine vr_imul dX8_toldOf_95 ?_
            refine vr_iadd dX8_toldOf_96 ?_
            refine vr_iload 0 dX8_toldOf_97 rfl ?_
            refine vr_iadd dX8_toldOf_99 ?_
            exact vr_iret rfl ⟨rfl, _, rfl, h⟩ dX8_toldOf_100
          · have h := h.2 c45_4
            by_cases c45_5 : r42 = 6
            · have h := h.1 c45_5
              refine vr_tswIn 6 109 dX8_toldOf_45 c45_5 (by decide) rfl (by decide) ?_
              refine vr_sipush 1000 dX8_toldOf_109 (by decide) ?_
              refine vr_iload_n 3 2 dX8_toldOf_112 rfl rfl ?_
              refine vr_imul dX8_toldOf_113 ?_
              refine vr_bipush 10 dX8_toldOf_114 (by decide) ?_
              refine vr_iload 1 dX8_toldOf_116 rfl ?_
              refine vr_imul dX8_toldOf_118 ?_
              refine vr_iadd dX8_toldOf_119 ?_
              refine vr_iload 0 dX8_toldOf_120 rfl ?_
              refine vr_iadd dX8_toldOf_122 ?_
              exact vr_iret rfl ⟨rfl, _, rfl, h⟩ dX8_toldOf_123
            · have h := h.2 c45_5
              refine vr_tswOut 124 dX8_toldOf_45 (by have q0 := lv_neT c45_0 (a := 1) (by decide); have q1 := lv_neT c45_1 (a := 2) (by decide); have q2 := lv_neT c45_2 (a := 3) (by decide); have q3 := lv_neT c45_3 (a := 4) (by decide); have q4 := lv_neT c45_4 (a := 5) (by decide); have q5 := lv_neT c45_5 (a := 6) (by decide); omega) (by decide) ?_
              refine vr_iconst 0 dX8_toldOf_124 (by decide) ?_
              exact vr_iret rfl ⟨rfl, _, rfl, h⟩ dX8_toldOf_125
theorem dX8_word_0 : decode cX8_word 0 = .ok (.aload_n 0, 1) := by decide +kernel
theorem dX8_word_1 : decode cX8_word 1 = .ok (.iload_n 1, 1) := by decide +kernel
theorem dX8_word_2 : decode cX8_word 2 = .ok (.invokevirtual 95, 3) := by decide +kernel
theorem dX8_word_5 : decode cX8_word 5 = .ok (.ifCond .eq 24, 3) := by decide +kernel
theorem dX8_word_8 : decode cX8_word 8 = .ok (.aload_n 0, 1) := by decide +kernel
theorem dX8_word_9 : decode cX8_word 9 = .ok (.iload_n 1, 1) := by decide +kernel
theorem dX8_word_10 : decode cX8_word 10 = .ok (.iload_n 2, 1) := by decide +kernel
theorem dX8_word_11 : decode cX8_word 11 = .ok (.invokevirtual 120, 3) := by decide +kernel
theorem dX8_word_14 : decode cX8_word 14 = .ok (.ifCond .eq 15, 3) := by decide +kernel
theorem dX8_word_17 : decode cX8_word 17 = .ok (.iload_n 3, 1) := by decide +kernel
theorem dX8_word_18 : decode cX8_word 18 = .ok (.i2l, 1) := by decide +kernel
theorem dX8_word_19 : decode cX8_word 19 = .ok (.lconst 0, 1) := by decide +kernel
theorem dX8_word_20 : decode cX8_word 20 = .ok (.ldc2_w 140, 3) := by decide +kernel
theorem dX8_word_23 : decode cX8_word 23 = .ok (.invokestatic 54, 3) := by decide +kernel
theorem dX8_word_26 : decode cX8_word 26 = .ok (.ifCond .ne 6, 3) := by decide +kernel
theorem dX8_word_29 : decode cX8_word 29 = .ok (.ldc 142, 2) := by decide +kernel
theorem dX8_word_31 : decode cX8_word 31 = .ok (.ireturn, 1) := by decide +kernel
theorem dX8_word_32 : decode cX8_word 32 = .ok (.aload_n 0, 1) := by decide +kernel
theorem dX8_word_33 : decode cX8_word 33 = .ok (.getfield 9, 3) := by decide +kernel
theorem dX8_word_36 : decode cX8_word 36 = .ok (.iload_n 1, 1) := by decide +kernel
theorem dX8_word_37 : decode cX8_word 37 = .ok (.iload_n 2, 1) := by decide +kernel
theorem dX8_word_38 : decode cX8_word 38 = .ok (.iconst 0, 1) := by decide +kernel
theorem dX8_word_39 : decode cX8_word 39 = .ok (.invokestatic 136, 3) := by decide +kernel
theorem dX8_word_42 : decode cX8_word 42 = .ok (.istore 4, 2) := by decide +kernel
theorem dX8_word_44 : decode cX8_word 44 = .ok (.iload_n 3, 1) := by decide +kernel
theorem dX8_word_45 : decode cX8_word 45 = .ok (.ifCond .ne 6, 3) := by decide +kernel
theorem dX8_word_48 : decode cX8_word 48 = .ok (.iload 4, 2) := by decide +kernel
theorem dX8_word_50 : decode cX8_word 50 = .ok (.ireturn, 1) := by decide +kernel
theorem dX8_word_51 : decode cX8_word 51 = .ok (.iload_n 3, 1) := by decide +kernel
theorem dX8_word_52 : decode cX8_word 52 = .ok (.iconst 1, 1) := by decide +kernel
theorem dX8_word_53 : decode cX8_word 53 = .ok (.if_icmp .ne 12, 3) := by decide +kernel
theorem dX8_word_56 : decode cX8_word 56 = .ok (.aload_n 0, 1) := by decide +kernel
theorem dX8_word_57 : decode cX8_word 57 = .ok (.iload_n 1, 1) := by decide +kernel
theorem dX8_word_58 : decode cX8_word 58 = .ok (.iload_n 2, 1) := by decide +kernel
theorem dX8_word_59 : decode cX8_word 59 = .ok (.invokevirtual 143, 3) := by decide +kernel
theorem dX8_word_62 : decode cX8_word 62 = .ok (.goto 37, 3) := by decide +kernel
theorem dX8_word_65 : decode cX8_word 65 = .ok (.iload 4, 2) := by decide +kernel
theorem dX8_word_67 : decode cX8_word 67 = .ok (.iconst 5, 1) := by decide +kernel
theorem dX8_word_68 : decode cX8_word 68 = .ok (.if_icmp .ne 30, 3) := by decide +kernel
theorem dX8_word_71 : decode cX8_word 71 = .ok (.bipush 100, 2) := by decide +kernel
theorem dX8_word_73 : decode cX8_word 73 = .ok (.aload_n 0, 1) := by decide +kernel
theorem dX8_word_74 : decode cX8_word 74 = .ok (.getfield 9, 3) := by decide +kernel
theorem dX8_word_77 : decode cX8_word 77 = .ok (.iload_n 1, 1) := by decide +kernel
theorem dX8_word_78 : decode cX8_word 78 = .ok (.iload_n 2, 1) := by decide +kernel
theorem dX8_word_79 : decode cX8_word 79 = .ok (.iconst 4, 1) := by decide +kernel
theorem dX8_word_80 : decode cX8_word 80 = .ok (.invokestatic 136, 3) := by decide +kernel
theorem dX8_word_83 : decode cX8_word 83 = .ok (.imul, 1) := by decide +kernel
theorem dX8_word_84 : decode cX8_word 84 = .ok (.aload_n 0, 1) := by decide +kernel
theorem dX8_word_85 : decode cX8_word 85 = .ok (.getfield 9, 3) := by decide +kernel
theorem dX8_word_88 : decode cX8_word 88 = .ok (.iload_n 1, 1) := by decide +kernel
theorem dX8_word_89 : decode cX8_word 89 = .ok (.iload_n 2, 1) := by decide +kernel
theorem dX8_word_90 : decode cX8_word 90 = .ok (.iconst 5, 1) := by decide +kernel
theorem dX8_word_91 : decode cX8_word 91 = .ok (.invokestatic 136, 3) := by decide +kernel
theorem dX8_word_94 : decode cX8_word 94 = .ok (.iadd, 1) := by decide +kernel
theorem dX8_word_95 : decode cX8_word 95 = .ok (.goto 4, 3) := by decide +kernel
theorem dX8_word_98 : decode cX8_word 98 = .ok (.iconst 0, 1) := by decide +kernel
theorem dX8_word_99 : decode cX8_word 99 = .ok (.ireturn, 1) := by decide +kernel
def F_X8_word (x1 : Int32) (x2 : Int32) (x3 : Int32) (Q : VP) (post : Int32 → Prop) : Prop :=
  F_X8_isSegment x1 Q (fun r2 => (r2 = 0 → post (((-2000000000) : Int32))) ∧ (¬ r2 = 0 → F_X8_isWord x1 x2 Q (fun r11 => (r11 = 0 → post (((-2000000000) : Int32))) ∧ (¬ r11 = 0 → F_X8_in (Int32.toInt64 x3) 0 2 Q (fun r23 => (r23 = 0 → post (((-2000000000) : Int32))) ∧ (¬ r23 = 0 → F_X8_told 23 x1 x2 ((0 : Int32)) Q (fun r39 => (x3 = 0 → post r39) ∧ (¬ x3 = 0 → (x3 = 1 → F_X8_toldOf x1 x2 Q (fun r59 => post r59)) ∧ (¬ x3 = 1 → (r39 = 5 → F_X8_told 23 x1 x2 ((4 : Int32)) Q (fun r80 => F_X8_told 23 x1 x2 ((5 : Int32)) Q (fun r91 => post ((100 * r80) + r91)))) ∧ (¬ r39 = 5 → post ((0 : Int32))))))))))))
set_option maxRecDepth 4000 in
theorem s_X8_word {l : Launch} {g : vG} {x1 : Int32} {x2 : Int32} {x3 : Int32} {P Q : VP} {post : Int32 → Prop}  (h : F_X8_word x1 x2 x3 Q post) : VC l g yX8_word cX8_word 5 (some .int) 3 [vR 22 0, vI x1, vI x2, vI x3] (vjn P Q) (vpI (vjn P Q) post) := by
  refine VC.of (by decide +kernel) (Nat.le_of_ble_eq_true rfl) (show VM l g RX8 cX8_word 5 (some .int) 3 (vpI (vjn P Q) post) 0 [(0, vR 22 0), (1, vI x1), (2, vI x2), (3, vI x3)] [] (vjn P Q) from ?_)
  unfold F_X8_word at h
  refine vr_aload_n 0 0 dX8_word_0 rfl rfl ?_
  refine vr_iload_n 1 1 dX8_word_1 rfl rfl ?_
  refine vr_callV RX8 (s_X8_isSegment h) rfl (by decide) rfl rfl rfl ml_8_95 rfl yh_X8_isSegment rfl ⟨Nat.le_of_ble_eq_true rfl, Nat.le_of_ble_eq_true rfl⟩ (Nat.le_of_ble_eq_true rfl) ⟨Nat.zero_le _, Nat.zero_le _⟩ dX8_word_2 (ki fun r2 h => ?_)
  refine vr_ifeq 29 dX8_word_5 (by decide) (fun c5 => ?_) (fun c5 => ?_)
  · have h := h.1 c5
    refine vr_ldc (-2000000000) ct_8_142 dX8_word_29 ?_
    exact vr_iret rfl ⟨rfl, _, rfl, h⟩ dX8_word_31
  · have h := h.2 c5
    refine vr_aload_n 0 0 dX8_word_8 rfl rfl ?_
    refine vr_iload_n 1 1 dX8_word_9 rfl rfl ?_
    refine vr_iload_n 2 2 dX8_word_10 rfl rfl ?_
    refine vr_callV RX8 (s_X8_isWord h) rfl (by decide) rfl rfl rfl ml_8_120 rfl yh_X8_isWord rfl ⟨Nat.le_of_ble_eq_true rfl, Nat.le_of_ble_eq_true rfl⟩ (Nat.le_of_ble_eq_true rfl) ⟨Nat.zero_le _, Nat.zero_le _⟩ dX8_word_11 (ki fun r11 h => ?_)
    refine vr_ifeq 29 dX8_word_14 (by decide) (fun c14 => ?_) (fun c14 => ?_)
    · have h := h.1 c14
      refine vr_ldc (-2000000000) ct_8_142 dX8_word_29 ?_
      exact vr_iret rfl ⟨rfl, _, rfl, h⟩ dX8_word_31
    · have h := h.2 c14
      refine vr_iload_n 3 3 dX8_word_17 rfl rfl ?_
      refine vr_i2l dX8_word_18 ?_
      refine vr_lconst 0 dX8_word_19 (by decide) ?_
      refine vr_ldc2 2 ct_8_140 dX8_word_20 ?_
      refine vr_callS RX8 (s_X8_in h) rfl rfl ml_8_54 rfl yh_X8_in rfl ⟨Nat.le_of_ble_eq_true rfl, Nat.le_of_ble_eq_true rfl⟩ (Nat.le_of_ble_eq_true rfl) ⟨Nat.zero_le _, Nat.zero_le _⟩ dX8_word_23 (ki fun r23 h => ?_)
      refine vr_ifne 32 dX8_word_26 (by decide) (fun c26 => ?_) (fun c26 => ?_)
      · have h := h.1 c26
        refine vr_ldc (-2000000000) ct_8_142 dX8_word_29 ?_
        exact vr_iret rfl ⟨rfl, _, rfl, h⟩ dX8_word_31
      · have h := h.2 c26
        refine vr_aload_n 0 0 dX8_word_32 rfl rfl ?_
        refine vg_22_0 RX8 rfl (by decide) fl_8_9 dX8_word_33 ?_
        refine vr_iload_n 1 1 dX8_word_36 rfl rfl ?_
        refine vr_iload_n 2 2 dX8_word_37 rfl rfl ?_
        refine vr_iconst 0 dX8_word_38 (by decide) ?_
        refine vr_callS RX8 (s_X8_told ia_23 h) rfl rfl ml_8_136 rfl yh_X8_told rfl ⟨Nat.le_of_ble_eq_true rfl, Nat.le_of_ble_eq_true rfl⟩ (Nat.le_of_ble_eq_true rfl) ⟨Nat.zero_le _, Nat.zero_le _⟩ dX8_word_39 (ki fun r39 h => ?_)
        refine vr_istore [(4, vI r39), (0, vR 22 0), (1, vI x1), (2, vI x2), (3, vI x3)] dX8_word_42 (by decide) rfl ?_
        refine vr_iload_n 3 4 dX8_word_44 rfl rfl ?_
        refine vr_ifne 51 dX8_word_45 (by decide) (fun c45 => ?_) (fun c45 => ?_)
        · have h := h.1 c45
          refine vr_iload 0 dX8_word_48 rfl ?_
          exact vr_iret rfl ⟨rfl, _, rfl, h⟩ dX8_word_50
        · have h := h.2 c45
          refine vr_iload_n 3 4 dX8_word_51 rfl rfl ?_
          refine vr_iconst 1 dX8_word_52 (by decide) ?_
          refine vr_icmpne 65 dX8_word_53 (by decide) (fun c53 => ?_) (fun c53 => ?_)
          · have h := h.1 c53
            refine vr_aload_n 0 1 dX8_word_56 rfl rfl ?_
            refine vr_iload_n 1 2 dX8_word_57 rfl rfl ?_
            refine vr_iload_n 2 3 dX8_word_58 rfl rfl ?_
            refine vr_callV RX8 (s_X8_toldOf h) rfl (by decide) rfl rfl rfl ml_8_143 rfl yh_X8_toldOf rfl ⟨Nat.le_of_ble_eq_true rfl, Nat.le_of_ble_eq_true rfl⟩ (Nat.le_of_ble_eq_true rfl) ⟨Nat.zero_le _, Nat.zero_le _⟩ dX8_word_59 (ki fun r59 h => ?_)
            refine vr_goto 99 dX8_word_62 (by decide) ?_
            exact vr_iret rfl ⟨rfl, _, rfl, h⟩ dX8_word_99
          · have h := h.2 c53
            refine vr_iload 0 dX8_word_65 rfl ?_
            refine vr_iconst 5 dX8_word_67 (by decide) ?_
            refine vr_icmpne 98 dX8_word_68 (by decide) (fun c68 => ?_) (fun c68 => ?_)
            · have h := h.1 c68
              refine vr_bipush 100 dX8_word_71 (by decide) ?_
              refine vr_aload_n 0 1 dX8_word_73 rfl rfl ?_
              refine vg_22_0 RX8 rfl (by decide) fl_8_9 dX8_word_74 ?_
              refine vr_iload_n 1 2 dX8_word_77 rfl rfl ?_
              refine vr_iload_n 2 3 dX8_word_78 rfl rfl ?_
              refine vr_iconst 4 dX8_word_79 (by decide) ?_
              refine vr_callS RX8 (s_X8_told ia_23 h) rfl rfl ml_8_136 rfl yh_X8_told rfl ⟨Nat.le_of_ble_eq_true rfl, Nat.le_of_ble_eq_true rfl⟩ (Nat.le_of_ble_eq_true rfl) ⟨Nat.zero_le _, Nat.zero_le _⟩ dX8_word_80 (ki fun r80 h => ?_)
              refine vr_imul dX8_word_83 ?_
              refine vr_aload_n 0 1 dX8_word_84 rfl rfl ?_
              refine vg_22_0 RX8 rfl (by decide) fl_8_9 dX8_word_85 ?_
              refine vr_iload_n 1 2 dX8_word_88 rfl rfl ?_
              refine vr_iload_n 2 3 dX8_word_89 rfl rfl ?_
              refine vr_iconst 5 dX8_word_90 (by decide) ?_
              refine vr_callS RX8 (s_X8_told ia_23 h) rfl rfl ml_8_136 rfl yh_X8_told rfl ⟨Nat.le_of_ble_eq_true rfl, Nat.le_of_ble_eq_true rfl⟩ (Nat.le_of_ble_eq_true rfl) ⟨Nat.zero_le _, Nat.zero_le _⟩ dX8_word_91 (ki fun r91 h => ?_)
              refine vr_iadd dX8_word_94 ?_
              refine vr_goto 99 dX8_word_95 (by decide) ?_
              exact vr_iret rfl ⟨rfl, _, rfl, h⟩ dX8_word_99
            · have h := h.2 c68
              refine vr_iconst 0 dX8_word_98 (by decide) ?_
              exact vr_iret rfl ⟨rfl, _, rfl, h⟩ dX8_word_99
theorem dX8_unsnap_0 : decode cX8_unsnap 0 = .ok (.aload_n 0, 1) := by decide +kernel
theorem dX8_unsnap_1 : decode cX8_unsnap 1 = .ok (.iload_n 1, 1) := by decide +kernel
theorem dX8_unsnap_2 : decode cX8_unsnap 2 = .ok (.invokevirtual 95, 3) := by decide +kernel
theorem dX8_unsnap_5 : decode cX8_unsnap 5 = .ok (.ifCond .ne 5, 3) := by decide +kernel
theorem dX8_unsnap_8 : decode cX8_unsnap 8 = .ok (.iconst (-1), 1) := by decide +kernel
theorem dX8_unsnap_9 : decode cX8_unsnap 9 = .ok (.ireturn, 1) := by decide +kernel
theorem dX8_unsnap_10 : decode cX8_unsnap 10 = .ok (.iconst 0, 1) := by decide +kernel
theorem dX8_unsnap_11 : decode cX8_unsnap 11 = .ok (.istore_n 2, 1) := by decide +kernel
theorem dX8_unsnap_12 : decode cX8_unsnap 12 = .ok (.iconst 0, 1) := by decide +kernel
theorem dX8_unsnap_13 : decode cX8_unsnap 13 = .ok (.istore_n 3, 1) := by decide +kernel
theorem dX8_unsnap_14 : decode cX8_unsnap 14 = .ok (.iload_n 3, 1) := by decide +kernel
theorem dX8_unsnap_15 : decode cX8_unsnap 15 = .ok (.bipush 24, 2) := by decide +kernel
theorem dX8_unsnap_17 : decode cX8_unsnap 17 = .ok (.if_icmp .ge 59, 3) := by decide +kernel
theorem dX8_unsnap_20 : decode cX8_unsnap 20 = .ok (.aload_n 0, 1) := by decide +kernel
theorem dX8_unsnap_21 : decode cX8_unsnap 21 = .ok (.getfield 9, 3) := by decide +kernel
theorem dX8_unsnap_24 : decode cX8_unsnap 24 = .ok (.iload_n 1, 1) := by decide +kernel
theorem dX8_unsnap_25 : decode cX8_unsnap 25 = .ok (.iload_n 3, 1) := by decide +kernel
theorem dX8_unsnap_26 : decode cX8_unsnap 26 = .ok (.iconst 0, 1) := by decide +kernel
theorem dX8_unsnap_27 : decode cX8_unsnap 27 = .ok (.invokestatic 136, 3) := by decide +kernel
theorem dX8_unsnap_30 : decode cX8_unsnap 30 = .ok (.iconst 5, 1) := by decide +kernel
theorem dX8_unsnap_31 : decode cX8_unsnap 31 = .ok (.if_icmp .ne 39, 3) := by decide +kernel
theorem dX8_unsnap_34 : decode cX8_unsnap 34 = .ok (.aload_n 0, 1) := by decide +kernel
theorem dX8_unsnap_35 : decode cX8_unsnap 35 = .ok (.getfield 9, 3) := by decide +kernel
theorem dX8_unsnap_38 : decode cX8_unsnap 38 = .ok (.iload_n 1, 1) := by decide +kernel
theorem dX8_unsnap_39 : decode cX8_unsnap 39 = .ok (.iload_n 3, 1) := by decide +kernel
theorem dX8_unsnap_40 : decode cX8_unsnap 40 = .ok (.iconst 4, 1) := by decide +kernel
theorem dX8_unsnap_41 : decode cX8_unsnap 41 = .ok (.aload_n 0, 1) := by decide +kernel
theorem dX8_unsnap_42 : decode cX8_unsnap 42 = .ok (.getfield 9, 3) := by decide +kernel
theorem dX8_unsnap_45 : decode cX8_unsnap 45 = .ok (.iload_n 1, 1) := by decide +kernel
theorem dX8_unsnap_46 : decode cX8_unsnap 46 = .ok (.iload_n 3, 1) := by decide +kernel
theorem dX8_unsnap_47 : decode cX8_unsnap 47 = .ok (.iconst 4, 1) := by decide +kernel
theorem dX8_unsnap_48 : decode cX8_unsnap 48 = .ok (.invokestatic 136, 3) := by decide +kernel
theorem dX8_unsnap_51 : decode cX8_unsnap 51 = .ok (.aload_n 0, 1) := by decide +kernel
theorem dX8_unsnap_52 : decode cX8_unsnap 52 = .ok (.getfield 9, 3) := by decide +kernel
theorem dX8_unsnap_55 : decode cX8_unsnap 55 = .ok (.iload_n 1, 1) := by decide +kernel
theorem dX8_unsnap_56 : decode cX8_unsnap 56 = .ok (.iload_n 3, 1) := by decide +kernel
theorem dX8_unsnap_57 : decode cX8_unsnap 57 = .ok (.iconst 5, 1) := by decide +kernel
theorem dX8_unsnap_58 : decode cX8_unsnap 58 = .ok (.invokestatic 136, 3) := by decide +kernel
theorem dX8_unsnap_61 : decode cX8_unsnap 61 = .ok (.iconst 0, 1) := by decide +kernel
theorem dX8_unsnap_62 : decode cX8_unsnap 62 = .ok (.iconst 0, 1) := by decide +kernel
theorem dX8_unsnap_63 : decode cX8_unsnap 63 = .ok (.iconst 0, 1) := by decide +kernel
theorem dX8_unsnap_64 : decode cX8_unsnap 64 = .ok (.invokestatic 91, 3) := by decide +kernel
theorem dX8_unsnap_67 : decode cX8_unsnap 67 = .ok (.iinc 2 1, 3) := by decide +kernel
theorem dX8_unsnap_70 : decode cX8_unsnap 70 = .ok (.iinc 3 1, 3) := by decide +kernel
theorem dX8_unsnap_73 : decode cX8_unsnap 73 = .ok (.goto (-59), 3) := by decide +kernel
theorem dX8_unsnap_76 : decode cX8_unsnap 76 = .ok (.iload_n 2, 1) := by decide +kernel
theorem dX8_unsnap_77 : decode cX8_unsnap 77 = .ok (.ireturn, 1) := by decide +kernel
def F_X8_unsnap_l14 (x1 : Int32)  (post : Int32 → VP → Prop)   (X : Int32 → Int32 → VP → Prop) (v2 : Int32) (v3 : Int32) (Q : VP) : Prop :=
  (v3 < 24 → F_X8_told 23 x1 v3 ((0 : Int32)) Q (fun r27 => (r27 = 5 → F_X8_told 23 x1 v3 ((4 : Int32)) Q (fun r48 => F_X8_told 23 x1 v3 ((5 : Int32)) Q (fun r58 => F_X8_writes 23 x1 v3 ((4 : Int32)) r48 r58 ((0 : Int32)) ((0 : Int32)) ((0 : Int32)) Q (fun Q64 => X (v2 + 1) (v3 + 1) Q64)))) ∧ (¬ r27 = 5 → X v2 (v3 + 1) Q))) ∧ (¬ v3 < 24 → post v2 Q)
set_option maxRecDepth 4000 in
theorem s_X8_unsnap_l14 {l : Launch} {g : vG} {x1 : Int32} {P : VP} {post : Int32 → VP → Prop}    {v2 : Int32} {v3 : Int32} {Q : VP}   (h : vL3 (F_X8_unsnap_l14 x1  post  ) v2 v3 Q) : VM l g RX8 cX8_unsnap 4 (some .int) 3 (vmI P post) 14 [(0, vR 22 0), (1, vI x1), (2, vI v2), (3, vI v3)] [] (vjn P Q) := by
  refine vL3_s (T := fun v2 v3 Q => VM l g RX8 cX8_unsnap 4 (some .int) 3 (vmI P post) 14 [(0, vR 22 0), (1, vI x1), (2, vI v2), (3, vI v3)] [] (vjn P Q)) ?_ h
  clear h
  intro X hX v2 v3 Q h
  unfold F_X8_unsnap_l14 at h
  refine vr_iload_n 3 3 dX8_unsnap_14 rfl rfl ?_
  refine vr_bipush 24 dX8_unsnap_15 (by decide) ?_
  refine vr_icmpge 76 dX8_unsnap_17 (by decide) (fun c17 => ?_) (fun c17 => ?_)
  · have h := h.1 c17
    refine vr_aload_n 0 0 dX8_unsnap_20 rfl rfl ?_
    refine vg_22_0 RX8 rfl (by decide) fl_8_9 dX8_unsnap_21 ?_
    refine vr_iload_n 1 1 dX8_unsnap_24 rfl rfl ?_
    refine vr_iload_n 3 3 dX8_unsnap_25 rfl rfl ?_
    refine vr_iconst 0 dX8_unsnap_26 (by decide) ?_
    refine vr_callS RX8 (s_X8_told ia_23 h) rfl rfl ml_8_136 rfl yh_X8_told rfl ⟨Nat.le_of_ble_eq_true rfl, Nat.le_of_ble_eq_true rfl⟩ (Nat.le_of_ble_eq_true rfl) ⟨Nat.zero_le _, Nat.zero_le _⟩ dX8_unsnap_27 (ki fun r27 h => ?_)
    refine vr_iconst 5 dX8_unsnap_30 (by decide) ?_
    refine vr_icmpne 70 dX8_unsnap_31 (by decide) (fun c31 => ?_) (fun c31 => ?_)
    · have h := h.1 c31
      refine vr_aload_n 0 0 dX8_unsnap_34 rfl rfl ?_
      refine vg_22_0 RX8 rfl (by decide) fl_8_9 dX8_unsnap_35 ?_
      refine vr_iload_n 1 1 dX8_unsnap_38 rfl rfl ?_
      refine vr_iload_n 3 3 dX8_unsnap_39 rfl rfl ?_
      refine vr_iconst 4 dX8_unsnap_40 (by decide) ?_
      refine vr_aload_n 0 0 dX8_unsnap_41 rfl rfl ?_
      refine vg_22_0 RX8 rfl (by decide) fl_8_9 dX8_unsnap_42 ?_
      refine vr_iload_n 1 1 dX8_unsnap_45 rfl rfl ?_
      refine vr_iload_n 3 3 dX8_unsnap_46 rfl rfl ?_
      refine vr_iconst 4 dX8_unsnap_47 (by decide) ?_
      refine vr_callS RX8 (s_X8_told ia_23 h) rfl rfl ml_8_136 rfl yh_X8_told rfl ⟨Nat.le_of_ble_eq_true rfl, Nat.le_of_ble_eq_true rfl⟩ (Nat.le_of_ble_eq_true rfl) ⟨Nat.zero_le _, Nat.zero_le _⟩ dX8_unsnap_48 (ki fun r48 h => ?_)
      refine vr_aload_n 0 0 dX8_unsnap_51 rfl rfl ?_
      refine vg_22_0 RX8 rfl (by decide) fl_8_9 dX8_unsnap_52 ?_
      refine vr_iload_n 1 1 dX8_unsnap_55 rfl rfl ?_
      refine vr_iload_n 3 3 dX8_unsnap_56 rfl rfl ?_
      refine vr_iconst 5 dX8_unsnap_57 (by decide) ?_
      refine vr_callS RX8 (s_X8_told ia_23 h) rfl rfl ml_8_136 rfl yh_X8_told rfl ⟨Nat.le_of_ble_eq_true rfl, Nat.le_of_ble_eq_true rfl⟩ (Nat.le_of_ble_eq_true rfl) ⟨Nat.zero_le _, Nat.zero_le _⟩ dX8_unsnap_58 (ki fun r58 h => ?_)
      refine vr_iconst 0 dX8_unsnap_61 (by decide) ?_
      refine vr_iconst 0 dX8_unsnap_62 (by decide) ?_
      refine vr_iconst 0 dX8_unsnap_63 (by decide) ?_
      refine vr_callS RX8 (s_X8_writes ia_23 h) rfl rfl ml_8_91 rfl yh_X8_writes rfl ⟨Nat.le_of_ble_eq_true rfl, Nat.le_of_ble_eq_true rfl⟩ (Nat.le_of_ble_eq_true rfl) ⟨Nat.zero_le _, Nat.zero_le _⟩ dX8_unsnap_64 (kmv fun Q64 h => ?_)
      refine vr_iinc (v2 + 1) 2 [(2, vI (v2 + 1)), (0, vR 22 0), (1, vI x1), (3, vI v3)] dX8_unsnap_67 rfl rfl (by decide) rfl ?_
      refine vr_iinc (v3 + 1) 3 [(3, vI (v3 + 1)), (2, vI (v2 + 1)), (0, vR 22 0), (1, vI x1)] dX8_unsnap_70 rfl rfl (by decide) rfl ?_
      refine vr_goto 14 dX8_unsnap_73 (by decide) ?_
      refine vr_sub [2, 3, 1, 0] [(0, vR 22 0), (1, vI x1), (2, vI (v2 + 1)), (3, vI (v3 + 1))] rfl ?_
      exact hX _ _ _ h
    · have h := h.2 c31
      refine vr_iinc (v3 + 1) 3 [(3, vI (v3 + 1)), (0, vR 22 0), (1, vI x1), (2, vI v2)] dX8_unsnap_70 rfl rfl (by decide) rfl ?_
      refine vr_goto 14 dX8_unsnap_73 (by decide) ?_
      refine vr_sub [1, 2, 3, 0] [(0, vR 22 0), (1, vI x1), (2, vI v2), (3, vI (v3 + 1))] rfl ?_
      exact hX _ _ _ h
  · have h := h.2 c17
    refine vr_iload_n 2 2 dX8_unsnap_76 rfl rfl ?_
    exact vr_iret rfl ⟨_, _, rfl, rfl, h⟩ dX8_unsnap_77
def F_X8_unsnap (x1 : Int32) (Q : VP) (post : Int32 → VP → Prop) : Prop :=
  F_X8_isSegment x1 Q (fun r2 => (r2 = 0 → post (((-1) : Int32)) Q) ∧ (¬ r2 = 0 → vL3 (F_X8_unsnap_l14 x1  post  ) ((0 : Int32)) ((0 : Int32)) Q))
set_option maxRecDepth 4000 in
theorem s_X8_unsnap {l : Launch} {g : vG} {x1 : Int32} {P Q : VP} {post : Int32 → VP → Prop}  (h : F_X8_unsnap x1 Q post) : VC l g yX8_unsnap cX8_unsnap 4 (some .int) 3 [vR 22 0, vI x1] (vjn P Q) (vmI P post) := by
  refine VC.of (by decide +kernel) (Nat.le_of_ble_eq_true rfl) (show VM l g RX8 cX8_unsnap 4 (some .int) 3 (vmI P post) 0 [(0, vR 22 0), (1, vI x1)] [] (vjn P Q) from ?_)
  unfold F_X8_unsnap at h
  refine vr_aload_n 0 0 dX8_unsnap_0 rfl rfl ?_
  refine vr_iload_n 1 1 dX8_unsnap_1 rfl rfl ?_
  refine vr_callV RX8 (s_X8_isSegment h) rfl (by decide) rfl rfl rfl ml_8_95 rfl yh_X8_isSegment rfl ⟨Nat.le_of_ble_eq_true rfl, Nat.le_of_ble_eq_true rfl⟩ (Nat.le_of_ble_eq_true rfl) ⟨Nat.zero_le _, Nat.zero_le _⟩ dX8_unsnap_2 (ki fun r2 h => ?_)
  refine vr_ifne 10 dX8_unsnap_5 (by decide) (fun c5 => ?_) (fun c5 => ?_)
  · have h := h.1 c5
    refine vr_iconst (-1) dX8_unsnap_8 (by decide) ?_
    exact vr_iret rfl ⟨_, _, rfl, rfl, h⟩ dX8_unsnap_9
  · have h := h.2 c5
    refine vr_iconst 0 dX8_unsnap_10 (by decide) ?_
    refine vr_istore_n 2 [(2, vI 0), (0, vR 22 0), (1, vI x1)] dX8_unsnap_11 rfl (by decide) rfl ?_
    refine vr_iconst 0 dX8_unsnap_12 (by decide) ?_
    refine vr_istore_n 3 [(3, vI 0), (2, vI 0), (0, vR 22 0), (1, vI x1)] dX8_unsnap_13 rfl (by decide) rfl ?_
    refine vr_sub [2, 3, 1, 0] [(0, vR 22 0), (1, vI x1), (2, vI 0), (3, vI 0)] rfl ?_
    exact s_X8_unsnap_l14   h
theorem dX8_feed_0 : decode cX8_feed 0 = .ok (.iload_n 1, 1) := by decide +kernel
theorem dX8_feed_1 : decode cX8_feed 1 = .ok (.i2l, 1) := by decide +kernel
theorem dX8_feed_2 : decode cX8_feed 2 = .ok (.lconst 0, 1) := by decide +kernel
theorem dX8_feed_3 : decode cX8_feed 3 = .ok (.ldc2_w 146, 3) := by decide +kernel
theorem dX8_feed_6 : decode cX8_feed 6 = .ok (.invokestatic 54, 3) := by decide +kernel
theorem dX8_feed_9 : decode cX8_feed 9 = .ok (.ifCond .ne 5, 3) := by decide +kernel
theorem dX8_feed_12 : decode cX8_feed 12 = .ok (.iconst (-1), 1) := by decide +kernel
theorem dX8_feed_13 : decode cX8_feed 13 = .ok (.ireturn, 1) := by decide +kernel
theorem dX8_feed_14 : decode cX8_feed 14 = .ok (.aload_n 0, 1) := by decide +kernel
theorem dX8_feed_15 : decode cX8_feed 15 = .ok (.getfield 148, 3) := by decide +kernel
theorem dX8_feed_18 : decode cX8_feed 18 = .ok (.bipush 120, 2) := by decide +kernel
theorem dX8_feed_20 : decode cX8_feed 20 = .ok (.if_icmp .ne 6, 3) := by decide +kernel
theorem dX8_feed_23 : decode cX8_feed 23 = .ok (.bipush (-3), 2) := by decide +kernel
theorem dX8_feed_25 : decode cX8_feed 25 = .ok (.ireturn, 1) := by decide +kernel
theorem dX8_feed_26 : decode cX8_feed 26 = .ok (.aload_n 0, 1) := by decide +kernel
theorem dX8_feed_27 : decode cX8_feed 27 = .ok (.getfield 19, 3) := by decide +kernel
theorem dX8_feed_30 : decode cX8_feed 30 = .ok (.aload_n 0, 1) := by decide +kernel
theorem dX8_feed_31 : decode cX8_feed 31 = .ok (.getfield 148, 3) := by decide +kernel
theorem dX8_feed_34 : decode cX8_feed 34 = .ok (.iload_n 1, 1) := by decide +kernel
theorem dX8_feed_35 : decode cX8_feed 35 = .ok (.iastore, 1) := by decide +kernel
theorem dX8_feed_36 : decode cX8_feed 36 = .ok (.aload_n 0, 1) := by decide +kernel
theorem dX8_feed_37 : decode cX8_feed 37 = .ok (.dup, 1) := by decide +kernel
theorem dX8_feed_38 : decode cX8_feed 38 = .ok (.getfield 148, 3) := by decide +kernel
theorem dX8_feed_41 : decode cX8_feed 41 = .ok (.iconst 1, 1) := by decide +kernel
theorem dX8_feed_42 : decode cX8_feed 42 = .ok (.iadd, 1) := by decide +kernel
theorem dX8_feed_43 : decode cX8_feed 43 = .ok (.putfield 148, 3) := by decide +kernel
theorem dX8_feed_46 : decode cX8_feed 46 = .ok (.aload_n 0, 1) := by decide +kernel
theorem dX8_feed_47 : decode cX8_feed 47 = .ok (.getfield 148, 3) := by decide +kernel
theorem dX8_feed_50 : decode cX8_feed 50 = .ok (.ireturn, 1) := by decide +kernel
def F_X8_feed (x1 : Int32) (Q : VP) (post : Int32 → VP → Prop) : Prop :=
  F_X8_in (Int32.toInt64 x1) 0 255 Q (fun r6 => (r6 = 0 → post (((-1) : Int32)) Q) ∧ (¬ r6 = 0 → (Q 22 0 6 = 120 → post (((-3) : Int32)) Q) ∧ (¬ Q 22 0 6 = 120 → (0 ≤ Q 22 0 6 ∧ Q 22 0 6 < 120) ∧ (∀ Q35 : VP, Q35 = vup Q 26 0 (ix (Q 22 0 6)) x1 → (∀ Q43 : VP, Q43 = vup Q35 22 0 6 ((Q35 22 0 6) + 1) → (post (Q43 22 0 6) Q43))))))
set_option maxRecDepth 4000 in
theorem s_X8_feed {l : Launch} {g : vG} {x1 : Int32} {P Q : VP} {post : Int32 → VP → Prop}  (h : F_X8_feed x1 Q post) : VC l g yX8_feed cX8_feed 2 (some .int) 1 [vR 22 0, vI x1] (vjn P Q) (vmI P post) := by
  refine VC.of (by decide +kernel) (Nat.le_of_ble_eq_true rfl) (show VM l g RX8 cX8_feed 2 (some .int) 1 (vmI P post) 0 [(0, vR 22 0), (1, vI x1)] [] (vjn P Q) from ?_)
  unfold F_X8_feed at h
  refine vr_iload_n 1 1 dX8_feed_0 rfl rfl ?_
  refine vr_i2l dX8_feed_1 ?_
  refine vr_lconst 0 dX8_feed_2 (by decide) ?_
  refine vr_ldc2 255 ct_8_146 dX8_feed_3 ?_
  refine vr_callS RX8 (s_X8_in h) rfl rfl ml_8_54 rfl yh_X8_in rfl ⟨Nat.le_of_ble_eq_true rfl, Nat.le_of_ble_eq_true rfl⟩ (Nat.le_of_ble_eq_true rfl) ⟨Nat.zero_le _, Nat.zero_le _⟩ dX8_feed_6 (ki fun r6 h => ?_)
  refine vr_ifne 14 dX8_feed_9 (by decide) (fun c9 => ?_) (fun c9 => ?_)
  · have h := h.1 c9
    refine vr_iconst (-1) dX8_feed_12 (by decide) ?_
    exact vr_iret rfl ⟨_, _, rfl, rfl, h⟩ dX8_feed_13
  · have h := h.2 c9
    refine vr_aload_n 0 0 dX8_feed_14 rfl rfl ?_
    refine vg_22_6 RX8 rfl (by decide) fl_8_148 dX8_feed_15 ?_
    refine vr_bipush 120 dX8_feed_18 (by decide) ?_
    refine vr_icmpne 26 dX8_feed_20 (by decide) (fun c20 => ?_) (fun c20 => ?_)
    · have h := h.1 c20
      refine vr_bipush (-3) dX8_feed_23 (by decide) ?_
      exact vr_iret rfl ⟨_, _, rfl, rfl, h⟩ dX8_feed_25
    · have h := h.2 c20
      refine vr_aload_n 0 0 dX8_feed_26 rfl rfl ?_
      refine vg_22_5 RX8 rfl (by decide) fl_8_19 dX8_feed_27 ?_
      refine vr_aload_n 0 0 dX8_feed_30 rfl rfl ?_
      refine vg_22_6 RX8 rfl (by decide) fl_8_148 dX8_feed_31 ?_
      refine vr_iload_n 1 1 dX8_feed_34 rfl rfl ?_
      have hi := h.1
      have h := h.2
      obtain ⟨Q35, eQ35⟩ : ∃ y : VP, y = vup Q 26 0 (ix (Q 22 0 6)) x1 := ⟨_, rfl⟩
      have h := h Q35 eQ35
      refine vr_iastQ 120 ia_26 rfl hi eQ35 dX8_feed_35 ?_
      refine vr_aload_n 0 0 dX8_feed_36 rfl rfl ?_
      refine vr_dup dX8_feed_37 rfl ?_
      refine vg_22_6 RX8 rfl (by decide) fl_8_148 dX8_feed_38 ?_
      refine vr_iconst 1 dX8_feed_41 (by decide) ?_
      refine vr_iadd dX8_feed_42 ?_
      obtain ⟨Q43, eQ43⟩ : ∃ y : VP, y = vup Q35 22 0 6 ((Q35 22 0 6) + 1) := ⟨_, rfl⟩
      have h := h Q43 eQ43
      refine vp_22_6 RX8 rfl (by decide) fl_8_148 eQ43 dX8_feed_43 ?_
      refine vr_aload_n 0 0 dX8_feed_46 rfl rfl ?_
      refine vg_22_6 RX8 rfl (by decide) fl_8_148 dX8_feed_47 ?_
      exact vr_iret rfl ⟨_, _, rfl, rfl, h⟩ dX8_feed_50
theorem dX8_byteAt_0 : decode cX8_byteAt 0 = .ok (.iload_n 1, 1) := by decide +kernel
theorem dX8_byteAt_1 : decode cX8_byteAt 1 = .ok (.aload_n 0, 1) := by decide +kernel
theorem dX8_byteAt_2 : decode cX8_byteAt 2 = .ok (.getfield 152, 3) := by decide +kernel
theorem dX8_byteAt_5 : decode cX8_byteAt 5 = .ok (.if_icmp .ge 12, 3) := by decide +kernel
theorem dX8_byteAt_8 : decode cX8_byteAt 8 = .ok (.aload_n 0, 1) := by decide +kernel
theorem dX8_byteAt_9 : decode cX8_byteAt 9 = .ok (.getfield 19, 3) := by decide +kernel
theorem dX8_byteAt_12 : decode cX8_byteAt 12 = .ok (.iload_n 1, 1) := by decide +kernel
theorem dX8_byteAt_13 : decode cX8_byteAt 13 = .ok (.iaload, 1) := by decide +kernel
theorem dX8_byteAt_14 : decode cX8_byteAt 14 = .ok (.goto 4, 3) := by decide +kernel
theorem dX8_byteAt_17 : decode cX8_byteAt 17 = .ok (.iconst (-1), 1) := by decide +kernel
theorem dX8_byteAt_18 : decode cX8_byteAt 18 = .ok (.ireturn, 1) := by decide +kernel
def F_X8_byteAt (x1 : Int32) (Q : VP) (post : Int32 → Prop) : Prop :=
  (x1 < Q 22 0 7 → (0 ≤ x1 ∧ x1 < 120) ∧ (post (Q 26 0 (ix x1)))) ∧ (¬ x1 < Q 22 0 7 → post (((-1) : Int32)))
set_option maxRecDepth 4000 in
theorem s_X8_byteAt {l : Launch} {g : vG} {x1 : Int32} {P Q : VP} {post : Int32 → Prop}  (h : F_X8_byteAt x1 Q post) : VC l g yX8_byteAt cX8_byteAt 2 (some .int) 0 [vR 22 0, vI x1] (vjn P Q) (vpI (vjn P Q) post) := by
  refine VC.of (by decide +kernel) (Nat.le_of_ble_eq_true rfl) (show VM l g RX8 cX8_byteAt 2 (some .int) 0 (vpI (vjn P Q) post) 0 [(0, vR 22 0), (1, vI x1)] [] (vjn P Q) from ?_)
  unfold F_X8_byteAt at h
  refine vr_iload_n 1 1 dX8_byteAt_0 rfl rfl ?_
  refine vr_aload_n 0 0 dX8_byteAt_1 rfl rfl ?_
  refine vg_22_7 RX8 rfl (by decide) fl_8_152 dX8_byteAt_2 ?_
  refine vr_icmpge 17 dX8_byteAt_5 (by decide) (fun c5 => ?_) (fun c5 => ?_)
  · have h := h.1 c5
    refine vr_aload_n 0 0 dX8_byteAt_8 rfl rfl ?_
    refine vg_22_5 RX8 rfl (by decide) fl_8_19 dX8_byteAt_9 ?_
    refine vr_iload_n 1 1 dX8_byteAt_12 rfl rfl ?_
    have hi := h.1
    have h := h.2
    refine vr_ialdQ 120 ia_26 rfl hi dX8_byteAt_13 ?_
    refine vr_goto 18 dX8_byteAt_14 (by decide) ?_
    exact vr_iret rfl ⟨rfl, _, rfl, h⟩ dX8_byteAt_18
  · have h := h.2 c5
    refine vr_iconst (-1) dX8_byteAt_17 (by decide) ?_
    exact vr_iret rfl ⟨rfl, _, rfl, h⟩ dX8_byteAt_18
theorem dX8_many_0 : decode cX8_many 0 = .ok (.iload_n 1, 1) := by decide +kernel
theorem dX8_many_1 : decode cX8_many 1 = .ok (.istore 4, 2) := by decide +kernel
theorem dX8_many_3 : decode cX8_many 3 = .ok (.aload_n 0, 1) := by decide +kernel
theorem dX8_many_4 : decode cX8_many 4 = .ok (.iload 4, 2) := by decide +kernel
theorem dX8_many_6 : decode cX8_many 6 = .ok (.invokevirtual 155, 3) := by decide +kernel
theorem dX8_many_9 : decode cX8_many 9 = .ok (.i2l, 1) := by decide +kernel
theorem dX8_many_10 : decode cX8_many 10 = .ok (.iload_n 2, 1) := by decide +kernel
theorem dX8_many_11 : decode cX8_many 11 = .ok (.i2l, 1) := by decide +kernel
theorem dX8_many_12 : decode cX8_many 12 = .ok (.iload_n 3, 1) := by decide +kernel
theorem dX8_many_13 : decode cX8_many 13 = .ok (.i2l, 1) := by decide +kernel
theorem dX8_many_14 : decode cX8_many 14 = .ok (.invokestatic 54, 3) := by decide +kernel
theorem dX8_many_17 : decode cX8_many 17 = .ok (.ifCond .eq 9, 3) := by decide +kernel
theorem dX8_many_20 : decode cX8_many 20 = .ok (.iinc 4 1, 3) := by decide +kernel
theorem dX8_many_23 : decode cX8_many 23 = .ok (.goto (-20), 3) := by decide +kernel
theorem dX8_many_26 : decode cX8_many 26 = .ok (.iload 4, 2) := by decide +kernel
theorem dX8_many_28 : decode cX8_many 28 = .ok (.iload_n 1, 1) := by decide +kernel
theorem dX8_many_29 : decode cX8_many 29 = .ok (.isub, 1) := by decide +kernel
theorem dX8_many_30 : decode cX8_many 30 = .ok (.ireturn, 1) := by decide +kernel
def F_X8_many_l3 (x1 : Int32) (x2 : Int32) (x3 : Int32) (Q : VP) (post : Int32 → Prop)   (X : Int32 → Prop) (v4 : Int32) : Prop :=
  F_X8_byteAt v4 Q (fun r6 => F_X8_in (Int32.toInt64 r6) (Int32.toInt64 x2) (Int32.toInt64 x3) Q (fun r14 => (r14 = 0 → post (v4 - x1)) ∧ (¬ r14 = 0 → X (v4 + 1))))
set_option maxRecDepth 4000 in
theorem s_X8_many_l3 {l : Launch} {g : vG} {x1 : Int32} {x2 : Int32} {x3 : Int32} {P Q : VP} {post : Int32 → Prop}    {v4 : Int32}   (h : vL1 (F_X8_many_l3 x1 x2 x3 Q post  ) v4) : VM l g RX8 cX8_many 5 (some .int) 1 (vpI (vjn P Q) post) 3 [(0, vR 22 0), (1, vI x1), (2, vI x2), (3, vI x3), (4, vI v4)] [] (vjn P Q) := by
  refine vL1_s (T := fun v4 => VM l g RX8 cX8_many 5 (some .int) 1 (vpI (vjn P Q) post) 3 [(0, vR 22 0), (1, vI x1), (2, vI x2), (3, vI x3), (4, vI v4)] [] (vjn P Q)) ?_ h
  clear h
  intro X hX v4 h
  unfold F_X8_many_l3 at h
  refine vr_aload_n 0 0 dX8_many_3 rfl rfl ?_
  refine vr_iload 4 dX8_many_4 rfl ?_
  refine vr_callV RX8 (s_X8_byteAt h) rfl (by decide) rfl rfl rfl ml_8_155 rfl yh_X8_byteAt rfl ⟨Nat.le_of_ble_eq_true rfl, Nat.le_of_ble_eq_true rfl⟩ (Nat.le_of_ble_eq_true rfl) ⟨Nat.zero_le _, Nat.zero_le _⟩ dX8_many_6 (ki fun r6 h => ?_)
  refine vr_i2l dX8_many_9 ?_
  refine vr_iload_n 2 2 dX8_many_10 rfl rfl ?_
  refine vr_i2l dX8_many_11 ?_
  refine vr_iload_n 3 3 dX8_many_12 rfl rfl ?_
  refine vr_i2l dX8_many_13 ?_
  refine vr_callS RX8 (s_X8_in h) rfl rfl ml_8_54 rfl yh_X8_in rfl ⟨Nat.le_of_ble_eq_true rfl, Nat.le_of_ble_eq_true rfl⟩ (Nat.le_of_ble_eq_true rfl) ⟨Nat.zero_le _, Nat.zero_le _⟩ dX8_many_14 (ki fun r14 h => ?_)
  refine vr_ifeq 26 dX8_many_17 (by decide) (fun c17 => ?_) (fun c17 => ?_)
  · have h := h.1 c17
    refine vr_iload 4 dX8_many_26 rfl ?_
    refine vr_iload_n 1 1 dX8_many_28 rfl rfl ?_
    refine vr_isub dX8_many_29 ?_
    exact vr_iret rfl ⟨rfl, _, rfl, h⟩ dX8_many_30
  · have h := h.2 c17
    refine vr_iinc (v4 + 1) 4 [(4, vI (v4 + 1)), (0, vR 22 0), (1, vI x1), (2, vI x2), (3, vI x3)] dX8_many_20 rfl rfl (by decide) rfl ?_
    refine vr_goto 3 dX8_many_23 (by decide) ?_
    refine vr_sub [1, 2, 3, 4, 0] [(0, vR 22 0), (1, vI x1), (2, vI x2), (3, vI x3), (4, vI (v4 + 1))] rfl ?_
    exact hX _ h
def F_X8_many (x1 : Int32) (x2 : Int32) (x3 : Int32) (Q : VP) (post : Int32 → Prop) : Prop :=
  vL1 (F_X8_many_l3 x1 x2 x3 Q post  ) x1
set_option maxRecDepth 4000 in
theorem s_X8_many {l : Launch} {g : vG} {x1 : Int32} {x2 : Int32} {x3 : Int32} {P Q : VP} {post : Int32 → Prop}  (h : F_X8_many x1 x2 x3 Q post) : VC l g yX8_many cX8_many 5 (some .int) 1 [vR 22 0, vI x1, vI x2, vI x3] (vjn P Q) (vpI (vjn P Q) post) := by
  refine VC.of (by decide +kernel) (Nat.le_of_ble_eq_true rfl) (show VM l g RX8 cX8_many 5 (some .int) 1 (vpI (vjn P Q) post) 0 [(0, vR 22 0), (1, vI x1), (2, vI x2), (3, vI x3)] [] (vjn P Q) from ?_)
  unfold F_X8_many at h
  refine vr_iload_n 1 1 dX8_many_0 rfl rfl ?_
  refine vr_istore [(4, vI x1), (0, vR 22 0), (1, vI x1), (2, vI x2), (3, vI x3)] dX8_many_1 (by decide) rfl ?_
  refine vr_sub [1, 2, 3, 4, 0] [(0, vR 22 0), (1, vI x1), (2, vI x2), (3, vI x3), (4, vI x1)] rfl ?_
  exact s_X8_many_l3   h
theorem dX8_is_0 : decode cX8_is 0 = .ok (.iload_n 2, 1) := by decide +kernel
theorem dX8_is_1 : decode cX8_is 1 = .ok (.aload_n 3, 1) := by decide +kernel
theorem dX8_is_2 : decode cX8_is 2 = .ok (.invokevirtual 158, 3) := by decide +kernel
theorem dX8_is_5 : decode cX8_is 5 = .ok (.if_icmp .ne 7, 3) := by decide +kernel
theorem dX8_is_8 : decode cX8_is 8 = .ok (.iconst 1, 1) := by decide +kernel
theorem dX8_is_9 : decode cX8_is 9 = .ok (.goto 4, 3) := by decide +kernel
theorem dX8_is_12 : decode cX8_is 12 = .ok (.iconst 0, 1) := by decide +kernel
theorem dX8_is_13 : decode cX8_is 13 = .ok (.istore 4, 2) := by decide +kernel
theorem dX8_is_15 : decode cX8_is 15 = .ok (.iconst 0, 1) := by decide +kernel
theorem dX8_is_16 : decode cX8_is 16 = .ok (.istore 5, 2) := by decide +kernel
theorem dX8_is_18 : decode cX8_is 18 = .ok (.iload 5, 2) := by decide +kernel
theorem dX8_is_20 : decode cX8_is 20 = .ok (.iload_n 2, 1) := by decide +kernel
theorem dX8_is_21 : decode cX8_is 21 = .ok (.if_icmp .ge 38, 3) := by decide +kernel
theorem dX8_is_24 : decode cX8_is 24 = .ok (.iload 4, 2) := by decide +kernel
theorem dX8_is_26 : decode cX8_is 26 = .ok (.ifCond .eq 33, 3) := by decide +kernel
theorem dX8_is_29 : decode cX8_is 29 = .ok (.aload_n 0, 1) := by decide +kernel
theorem dX8_is_30 : decode cX8_is 30 = .ok (.iload_n 1, 1) := by decide +kernel
theorem dX8_is_31 : decode cX8_is 31 = .ok (.iload 5, 2) := by decide +kernel
theorem dX8_is_33 : decode cX8_is 33 = .ok (.iadd, 1) := by decide +kernel
theorem dX8_is_34 : decode cX8_is 34 = .ok (.invokevirtual 155, 3) := by decide +kernel
theorem dX8_is_37 : decode cX8_is 37 = .ok (.aload_n 3, 1) := by decide +kernel
theorem dX8_is_38 : decode cX8_is 38 = .ok (.iload 5, 2) := by decide +kernel
theorem dX8_is_40 : decode cX8_is 40 = .ok (.invokevirtual 161, 3) := by decide +kernel
theorem dX8_is_43 : decode cX8_is 43 = .ok (.if_icmp .ne 7, 3) := by decide +kernel
theorem dX8_is_46 : decode cX8_is 46 = .ok (.iconst 1, 1) := by decide +kernel
theorem dX8_is_47 : decode cX8_is 47 = .ok (.goto 4, 3) := by decide +kernel
theorem dX8_is_50 : decode cX8_is 50 = .ok (.iconst 0, 1) := by decide +kernel
theorem dX8_is_51 : decode cX8_is 51 = .ok (.istore 4, 2) := by decide +kernel
theorem dX8_is_53 : decode cX8_is 53 = .ok (.iinc 5 1, 3) := by decide +kernel
theorem dX8_is_56 : decode cX8_is 56 = .ok (.goto (-38), 3) := by decide +kernel
theorem dX8_is_59 : decode cX8_is 59 = .ok (.iload 4, 2) := by decide +kernel
theorem dX8_is_61 : decode cX8_is 61 = .ok (.ireturn, 1) := by decide +kernel
def F_X8_is_l18 (x1 : Int32) (x2 : Int32) (j3 : Nat) (Q : VP) (post : Int32 → Prop)   (X : Int32 → Int32 → Prop) (v4 : Int32) (v5 : Int32) : Prop :=
  (v5 < x2 → (v4 = 0 → (v4 = 0 ∨ v4 = 1) ∧ (post v4)) ∧ (¬ v4 = 0 → F_X8_byteAt (x1 + v5) Q (fun r34 => (0 ≤ v5 ∧ v5 < slen j3) ∧ ((r34 = sch j3 (ix v5) → X ((1 : Int32)) (v5 + 1)) ∧ (¬ r34 = sch j3 (ix v5) → X ((0 : Int32)) (v5 + 1)))))) ∧ (¬ v5 < x2 → (v4 = 0 ∨ v4 = 1) ∧ (post v4))
set_option maxRecDepth 4000 in
theorem s_X8_is_l18 {l : Launch} {g : vG} {x1 : Int32} {x2 : Int32} {j3 : Nat} {P Q : VP} {post : Int32 → Prop}    {v4 : Int32} {v5 : Int32} (hj3 : j3 < 22)  (h : vL2 (F_X8_is_l18 x1 x2 j3 Q post  ) v4 v5) : VM l g RX8 cX8_is 6 (some .boolean) 4 (vpI (vjn P Q) post) 18 [(0, vR 22 0), (1, vI x1), (2, vI x2), (3, vT j3), (4, vI v4), (5, vI v5)] [] (vjn P Q) := by
  refine vL2_s (T := fun v4 v5 => VM l g RX8 cX8_is 6 (some .boolean) 4 (vpI (vjn P Q) post) 18 [(0, vR 22 0), (1, vI x1), (2, vI x2), (3, vT j3), (4, vI v4), (5, vI v5)] [] (vjn P Q)) ?_ h
  clear h
  intro X hX v4 v5 h
  unfold F_X8_is_l18 at h
  refine vr_iload 5 dX8_is_18 rfl ?_
  refine vr_iload_n 2 2 dX8_is_20 rfl rfl ?_
  refine vr_icmpge 59 dX8_is_21 (by decide) (fun c21 => ?_) (fun c21 => ?_)
  · have h := h.1 c21
    refine vr_iload 4 dX8_is_24 rfl ?_
    refine vr_ifeq 59 dX8_is_26 (by decide) (fun c26 => ?_) (fun c26 => ?_)
    · have h := h.1 c26
      refine vr_iload 4 dX8_is_59 rfl ?_
      have hb := h.1
      have h := h.2
      exact vr_zret rfl hb ⟨rfl, _, rfl, h⟩ dX8_is_61
    · have h := h.2 c26
      refine vr_aload_n 0 0 dX8_is_29 rfl rfl ?_
      refine vr_iload_n 1 1 dX8_is_30 rfl rfl ?_
      refine vr_iload 5 dX8_is_31 rfl ?_
      refine vr_iadd dX8_is_33 ?_
      refine vr_callV RX8 (s_X8_byteAt h) rfl (by decide) rfl rfl rfl ml_8_155 rfl yh_X8_byteAt rfl ⟨Nat.le_of_ble_eq_true rfl, Nat.le_of_ble_eq_true rfl⟩ (Nat.le_of_ble_eq_true rfl) ⟨Nat.zero_le _, Nat.zero_le _⟩ dX8_is_34 (ki fun r34 h => ?_)
      refine vr_aload_n 3 3 dX8_is_37 rfl rfl ?_
      refine vr_iload 5 dX8_is_38 rfl ?_
      have hi := h.1
      have h := h.2
      refine vr_sch RX8 rfl ms_8_161 hj3 hi ⟨Nat.le_of_ble_eq_true rfl, Nat.le_of_ble_eq_true rfl⟩ (Nat.le_of_ble_eq_true rfl) ⟨Nat.zero_le _, Nat.zero_le _⟩ dX8_is_40 ?_
      refine vr_icmpne 50 dX8_is_43 (by decide) (fun c43 => ?_) (fun c43 => ?_)
      · have h := h.1 c43
        refine vr_iconst 1 dX8_is_46 (by decide) ?_
        refine vr_goto 51 dX8_is_47 (by decide) ?_
        refine vr_istore [(4, vI 1), (0, vR 22 0), (1, vI x1), (2, vI x2), (3, vT j3), (5, vI v5)] dX8_is_51 (by decide) rfl ?_
        refine vr_iinc (v5 + 1) 5 [(5, vI (v5 + 1)), (4, vI 1), (0, vR 22 0), (1, vI x1), (2, vI x2), (3, vT j3)] dX8_is_53 rfl rfl (by decide) rfl ?_
        refine vr_goto 18 dX8_is_56 (by decide) ?_
        refine vr_sub [2, 3, 4, 5, 1, 0] [(0, vR 22 0), (1, vI x1), (2, vI x2), (3, vT j3), (4, vI 1), (5, vI (v5 + 1))] rfl ?_
        exact hX _ _ h
      · have h := h.2 c43
        refine vr_iconst 0 dX8_is_50 (by decide) ?_
        refine vr_istore [(4, vI 0), (0, vR 22 0), (1, vI x1), (2, vI x2), (3, vT j3), (5, vI v5)] dX8_is_51 (by decide) rfl ?_
        refine vr_iinc (v5 + 1) 5 [(5, vI (v5 + 1)), (4, vI 0), (0, vR 22 0), (1, vI x1), (2, vI x2), (3, vT j3)] dX8_is_53 rfl rfl (by decide) rfl ?_
        refine vr_goto 18 dX8_is_56 (by decide) ?_
        refine vr_sub [2, 3, 4, 5, 1, 0] [(0, vR 22 0), (1, vI x1), (2, vI x2), (3, vT j3), (4, vI 0), (5, vI (v5 + 1))] rfl ?_
        exact hX _ _ h
  · have h := h.2 c21
    refine vr_iload 4 dX8_is_59 rfl ?_
    have hb := h.1
    have h := h.2
    exact vr_zret rfl hb ⟨rfl, _, rfl, h⟩ dX8_is_61
def F_X8_is (x1 : Int32) (x2 : Int32) (j3 : Nat) (Q : VP) (post : Int32 → Prop) : Prop :=
  (x2 = slen j3 → vL2 (F_X8_is_l18 x1 x2 j3 Q post  ) ((1 : Int32)) ((0 : Int32))) ∧ (¬ x2 = slen j3 → vL2 (F_X8_is_l18 x1 x2 j3 Q post  ) ((0 : Int32)) ((0 : Int32)))
set_option maxRecDepth 4000 in
theorem s_X8_is {l : Launch} {g : vG} {x1 : Int32} {x2 : Int32} {j3 : Nat} {P Q : VP} {post : Int32 → Prop} (hj3 : j3 < 22) (h : F_X8_is x1 x2 j3 Q post) : VC l g yX8_is cX8_is 6 (some .boolean) 4 [vR 22 0, vI x1, vI x2, vT j3] (vjn P Q) (vpI (vjn P Q) post) := by
  refine VC.of (by decide +kernel) (Nat.le_of_ble_eq_true rfl) (show VM l g RX8 cX8_is 6 (some .boolean) 4 (vpI (vjn P Q) post) 0 [(0, vR 22 0), (1, vI x1), (2, vI x2), (3, vT j3)] [] (vjn P Q) from ?_)
  unfold F_X8_is at h
  refine vr_iload_n 2 2 dX8_is_0 rfl rfl ?_
  refine vr_aload_n 3 3 dX8_is_1 rfl rfl ?_
  refine vr_slen RX8 rfl ms_8_158 hj3 ⟨Nat.le_of_ble_eq_true rfl, Nat.le_of_ble_eq_true rfl⟩ (Nat.le_of_ble_eq_true rfl) ⟨Nat.zero_le _, Nat.zero_le _⟩ dX8_is_2 ?_
  refine vr_icmpne 12 dX8_is_5 (by decide) (fun c5 => ?_) (fun c5 => ?_)
  · have h := h.1 c5
    refine vr_iconst 1 dX8_is_8 (by decide) ?_
    refine vr_goto 13 dX8_is_9 (by decide) ?_
    refine vr_istore [(4, vI 1), (0, vR 22 0), (1, vI x1), (2, vI x2), (3, vT j3)] dX8_is_13 (by decide) rfl ?_
    refine vr_iconst 0 dX8_is_15 (by decide) ?_
    refine vr_istore [(5, vI 0), (4, vI 1), (0, vR 22 0), (1, vI x1), (2, vI x2), (3, vT j3)] dX8_is_16 (by decide) rfl ?_
    refine vr_sub [2, 3, 4, 5, 1, 0] [(0, vR 22 0), (1, vI x1), (2, vI x2), (3, vT j3), (4, vI 1), (5, vI 0)] rfl ?_
    exact s_X8_is_l18 hj3  h
  · have h := h.2 c5
    refine vr_iconst 0 dX8_is_12 (by decide) ?_
    refine vr_istore [(4, vI 0), (0, vR 22 0), (1, vI x1), (2, vI x2), (3, vT j3)] dX8_is_13 (by decide) rfl ?_
    refine vr_iconst 0 dX8_is_15 (by decide) ?_
    refine vr_istore [(5, vI 0), (4, vI 0), (0, vR 22 0), (1, vI x1), (2, vI x2), (3, vT j3)] dX8_is_16 (by decide) rfl ?_
    refine vr_sub [2, 3, 4, 5, 1, 0] [(0, vR 22 0), (1, vI x1), (2, vI x2), (3, vT j3), (4, vI 0), (5, vI 0)] rfl ?_
    exact s_X8_is_l18 hj3  h
theorem dX8_stops_0 : decode cX8_stops 0 = .ok (.aload_n 0, 1) := by decide +kernel
theorem dX8_stops_1 : decode cX8_stops 1 = .ok (.aload_n 0, 1) := by decide +kernel
theorem dX8_stops_2 : decode cX8_stops 2 = .ok (.getfield 165, 3) := by decide +kernel
theorem dX8_stops_5 : decode cX8_stops 5 = .ok (.ifCond .ge 10, 3) := by decide +kernel
theorem dX8_stops_8 : decode cX8_stops 8 = .ok (.aload_n 0, 1) := by decide +kernel
theorem dX8_stops_9 : decode cX8_stops 9 = .ok (.getfield 168, 3) := by decide +kernel
theorem dX8_stops_12 : decode cX8_stops 12 = .ok (.goto 7, 3) := by decide +kernel
theorem dX8_stops_15 : decode cX8_stops 15 = .ok (.aload_n 0, 1) := by decide +kernel
theorem dX8_stops_16 : decode cX8_stops 16 = .ok (.getfield 165, 3) := by decide +kernel
theorem dX8_stops_19 : decode cX8_stops 19 = .ok (.putfield 165, 3) := by decide +kernel
theorem dX8_stops_22 : decode cX8_stops 22 = .ok (.iconst 0, 1) := by decide +kernel
theorem dX8_stops_23 : decode cX8_stops 23 = .ok (.ireturn, 1) := by decide +kernel
def F_X8_stops  (Q : VP) (post : Int32 → VP → Prop) : Prop :=
  (Q 22 0 9 < 0 → ∀ Q19 : VP, Q19 = vup Q 22 0 9 (Q 22 0 8) → (post ((0 : Int32)) Q19)) ∧ (¬ Q 22 0 9 < 0 → ∀ Q19 : VP, Q19 = vup Q 22 0 9 (Q 22 0 9) → (post ((0 : Int32)) Q19))
set_option maxRecDepth 4000 in
theorem s_X8_stops {l : Launch} {g : vG}  {P Q : VP} {post : Int32 → VP → Prop}  (h : F_X8_stops  Q post) : VC l g yX8_stops cX8_stops 1 (some .boolean) 0 [vR 22 0] (vjn P Q) (vmI P post) := by
  refine VC.of (by decide +kernel) (Nat.le_of_ble_eq_true rfl) (show VM l g RX8 cX8_stops 1 (some .boolean) 0 (vmI P post) 0 [(0, vR 22 0)] [] (vjn P Q) from ?_)
  unfold F_X8_stops at h
  refine vr_aload_n 0 0 dX8_stops_0 rfl rfl ?_
  refine vr_aload_n 0 0 dX8_stops_1 rfl rfl ?_
  refine vg_22_9 RX8 rfl (by decide) fl_8_165 dX8_stops_2 ?_
  refine vr_ifge 15 dX8_stops_5 (by decide) (fun c5 => ?_) (fun c5 => ?_)
  · have h := h.1 c5
    refine vr_aload_n 0 0 dX8_stops_8 rfl rfl ?_
    refine vg_22_8 RX8 rfl (by decide) fl_8_168 dX8_stops_9 ?_
    refine vr_goto 19 dX8_stops_12 (by decide) ?_
    obtain ⟨Q19, eQ19⟩ : ∃ y : VP, y = vup Q 22 0 9 (Q 22 0 8) := ⟨_, rfl⟩
    have h := h Q19 eQ19
    refine vp_22_9 RX8 rfl (by decide) fl_8_165 eQ19 dX8_stops_19 ?_
    refine vr_iconst 0 dX8_stops_22 (by decide) ?_
    exact vr_zret rfl (Or.inl rfl) ⟨_, _, rfl, rfl, h⟩ dX8_stops_23
  · have h := h.2 c5
    refine vr_aload_n 0 0 dX8_stops_15 rfl rfl ?_
    refine vg_22_9 RX8 rfl (by decide) fl_8_165 dX8_stops_16 ?_
    obtain ⟨Q19, eQ19⟩ : ∃ y : VP, y = vup Q 22 0 9 (Q 22 0 9) := ⟨_, rfl⟩
    have h := h Q19 eQ19
    refine vp_22_9 RX8 rfl (by decide) fl_8_165 eQ19 dX8_stops_19 ?_
    refine vr_iconst 0 dX8_stops_22 (by decide) ?_
    exact vr_zret rfl (Or.inl rfl) ⟨_, _, rfl, rfl, h⟩ dX8_stops_23
theorem dX8_sign_0 : decode cX8_sign 0 = .ok (.aload_n 0, 1) := by decide +kernel
theorem dX8_sign_1 : decode cX8_sign 1 = .ok (.aload_n 0, 1) := by decide +kernel
theorem dX8_sign_2 : decode cX8_sign 2 = .ok (.getfield 168, 3) := by decide +kernel
theorem dX8_sign_5 : decode cX8_sign 5 = .ok (.invokevirtual 155, 3) := by decide +kernel
theorem dX8_sign_8 : decode cX8_sign 8 = .ok (.iload_n 1, 1) := by decide +kernel
theorem dX8_sign_9 : decode cX8_sign 9 = .ok (.if_icmp .eq 8, 3) := by decide +kernel
theorem dX8_sign_12 : decode cX8_sign 12 = .ok (.aload_n 0, 1) := by decide +kernel
theorem dX8_sign_13 : decode cX8_sign 13 = .ok (.invokevirtual 171, 3) := by decide +kernel
theorem dX8_sign_16 : decode cX8_sign 16 = .ok (.ireturn, 1) := by decide +kernel
theorem dX8_sign_17 : decode cX8_sign 17 = .ok (.aload_n 0, 1) := by decide +kernel
theorem dX8_sign_18 : decode cX8_sign 18 = .ok (.dup, 1) := by decide +kernel
theorem dX8_sign_19 : decode cX8_sign 19 = .ok (.getfield 168, 3) := by decide +kernel
theorem dX8_sign_22 : decode cX8_sign 22 = .ok (.iconst 1, 1) := by decide +kernel
theorem dX8_sign_23 : decode cX8_sign 23 = .ok (.iadd, 1) := by decide +kernel
theorem dX8_sign_24 : decode cX8_sign 24 = .ok (.putfield 168, 3) := by decide +kernel
theorem dX8_sign_27 : decode cX8_sign 27 = .ok (.iconst 1, 1) := by decide +kernel
theorem dX8_sign_28 : decode cX8_sign 28 = .ok (.ireturn, 1) := by decide +kernel
def F_X8_sign (x1 : Int32) (Q : VP) (post : Int32 → VP → Prop) : Prop :=
  F_X8_byteAt (Q 22 0 8) Q (fun r5 => (r5 = x1 → ∀ Q24 : VP, Q24 = vup Q 22 0 8 ((Q 22 0 8) + 1) → (post ((1 : Int32)) Q24)) ∧ (¬ r5 = x1 → F_X8_stops  Q (fun r13 Q13 => (r13 = 0 ∨ r13 = 1) ∧ (post r13 Q13))))
set_option maxRecDepth 4000 in
theorem s_X8_sign {l : Launch} {g : vG} {x1 : Int32} {P Q : VP} {post : Int32 → VP → Prop}  (h : F_X8_sign x1 Q post) : VC l g yX8_sign cX8_sign 2 (some .boolean) 1 [vR 22 0, vI x1] (vjn P Q) (vmI P post) := by
  refine VC.of (by decide +kernel) (Nat.le_of_ble_eq_true rfl) (show VM l g RX8 cX8_sign 2 (some .boolean) 1 (vmI P post) 0 [(0, vR 22 0), (1, vI x1)] [] (vjn P Q) from ?_)
  unfold F_X8_sign at h
  refine vr_aload_n 0 0 dX8_sign_0 rfl rfl ?_
  refine vr_aload_n 0 0 dX8_sign_1 rfl rfl ?_
  refine vg_22_8 RX8 rfl (by decide) fl_8_168 dX8_sign_2 ?_
  refine vr_callV RX8 (s_X8_byteAt h) rfl (by decide) rfl rfl rfl ml_8_155 rfl yh_X8_byteAt rfl ⟨Nat.le_of_ble_eq_true rfl, Nat.le_of_ble_eq_true rfl⟩ (Nat.le_of_ble_eq_true rfl) ⟨Nat.zero_le _, Nat.zero_le _⟩ dX8_sign_5 (ki fun r5 h => ?_)
  refine vr_iload_n 1 1 dX8_sign_8 rfl rfl ?_
  refine vr_icmpeq 17 dX8_sign_9 (by decide) (fun c9 => ?_) (fun c9 => ?_)
  · have h := h.1 c9
    refine vr_aload_n 0 0 dX8_sign_17 rfl rfl ?_
    refine vr_dup dX8_sign_18 rfl ?_
    refine vg_22_8 RX8 rfl (by decide) fl_8_168 dX8_sign_19 ?_
    refine vr_iconst 1 dX8_sign_22 (by decide) ?_
    refine vr_iadd dX8_sign_23 ?_
    obtain ⟨Q24, eQ24⟩ : ∃ y : VP, y = vup Q 22 0 8 ((Q 22 0 8) + 1) := ⟨_, rfl⟩
    have h := h Q24 eQ24
    refine vp_22_8 RX8 rfl (by decide) fl_8_168 eQ24 dX8_sign_24 ?_
    refine vr_iconst 1 dX8_sign_27 (by decide) ?_
    exact vr_zret rfl (Or.inr rfl) ⟨_, _, rfl, rfl, h⟩ dX8_sign_28
  · have h := h.2 c9
    refine vr_aload_n 0 0 dX8_sign_12 rfl rfl ?_
    refine vr_callV RX8 (s_X8_stops h) rfl (by decide) rfl rfl rfl ml_8_171 rfl yh_X8_stops rfl ⟨Nat.le_of_ble_eq_true rfl, Nat.le_of_ble_eq_true rfl⟩ (Nat.le_of_ble_eq_true rfl) ⟨Nat.zero_le _, Nat.zero_le _⟩ dX8_sign_13 (kmi fun r13 Q13 h => ?_)
    have hb := h.1
    have h := h.2
    exact vr_zret rfl hb ⟨_, _, rfl, rfl, h⟩ dX8_sign_16
theorem dX8_digits_0 : decode cX8_digits 0 = .ok (.aload_n 0, 1) := by decide +kernel
theorem dX8_digits_1 : decode cX8_digits 1 = .ok (.bipush 32, 2) := by decide +kernel
theorem dX8_digits_3 : decode cX8_digits 3 = .ok (.invokevirtual 175, 3) := by decide +kernel
theorem dX8_digits_6 : decode cX8_digits 6 = .ok (.ifCond .ne 5, 3) := by decide +kernel
theorem dX8_digits_9 : decode cX8_digits 9 = .ok (.iconst 0, 1) := by decide +kernel
theorem dX8_digits_10 : decode cX8_digits 10 = .ok (.ireturn, 1) := by decide +kernel
theorem dX8_digits_11 : decode cX8_digits 11 = .ok (.aload_n 0, 1) := by decide +kernel
theorem dX8_digits_12 : decode cX8_digits 12 = .ok (.aload_n 0, 1) := by decide +kernel
theorem dX8_digits_13 : decode cX8_digits 13 = .ok (.getfield 168, 3) := by decide +kernel
theorem dX8_digits_16 : decode cX8_digits 16 = .ok (.bipush 48, 2) := by decide +kernel
theorem dX8_digits_18 : decode cX8_digits 18 = .ok (.bipush 57, 2) := by decide +kernel
theorem dX8_digits_20 : decode cX8_digits 20 = .ok (.invokevirtual 178, 3) := by decide +kernel
theorem dX8_digits_23 : decode cX8_digits 23 = .ok (.istore_n 3, 1) := by decide +kernel
theorem dX8_digits_24 : decode cX8_digits 24 = .ok (.iconst 0, 1) := by decide +kernel
theorem dX8_digits_25 : decode cX8_digits 25 = .ok (.istore 4, 2) := by decide +kernel
theorem dX8_digits_27 : decode cX8_digits 27 = .ok (.iconst 0, 1) := by decide +kernel
theorem dX8_digits_28 : decode cX8_digits 28 = .ok (.istore 5, 2) := by decide +kernel
theorem dX8_digits_30 : decode cX8_digits 30 = .ok (.iload 5, 2) := by decide +kernel
theorem dX8_digits_32 : decode cX8_digits 32 = .ok (.iload_n 3, 1) := by decide +kernel
theorem dX8_digits_33 : decode cX8_digits 33 = .ok (.if_icmp .ge 37, 3) := by decide +kernel
theorem dX8_digits_36 : decode cX8_digits 36 = .ok (.iload 5, 2) := by decide +kernel
theorem dX8_digits_38 : decode cX8_digits 38 = .ok (.iconst 3, 1) := by decide +kernel
theorem dX8_digits_39 : decode cX8_digits 39 = .ok (.if_icmp .ge 31, 3) := by decide +kernel
theorem dX8_digits_42 : decode cX8_digits 42 = .ok (.bipush 10, 2) := by decide +kernel
theorem dX8_digits_44 : decode cX8_digits 44 = .ok (.iload 4, 2) := by decide +kernel
theorem dX8_digits_46 : decode cX8_digits 46 = .ok (.imul, 1) := by decide +kernel
theorem dX8_digits_47 : decode cX8_digits 47 = .ok (.aload_n 0, 1) := by decide +kernel
theorem dX8_digits_48 : decode cX8_digits 48 = .ok (.aload_n 0, 1) := by decide +kernel
theorem dX8_digits_49 : decode cX8_digits 49 = .ok (.getfield 168, 3) := by decide +kernel
theorem dX8_digits_52 : decode cX8_digits 52 = .ok (.iload 5, 2) := by decide +kernel
theorem dX8_digits_54 : decode cX8_digits 54 = .ok (.iadd, 1) := by decide +kernel
theorem dX8_digits_55 : decode cX8_digits 55 = .ok (.invokevirtual 155, 3) := by decide +kernel
theorem dX8_digits_58 : decode cX8_digits 58 = .ok (.iadd, 1) := by decide +kernel
theorem dX8_digits_59 : decode cX8_digits 59 = .ok (.bipush 48, 2) := by decide +kernel
theorem dX8_digits_61 : decode cX8_digits 61 = .ok (.isub, 1) := by decide +kernel
theorem dX8_digits_62 : decode cX8_digits 62 = .ok (.istore 4, 2) := by decide +kernel
theorem dX8_digits_64 : decode cX8_digits 64 = .ok (.iinc 5 1, 3) := by decide +kernel
theorem dX8_digits_67 : decode cX8_digits 67 = .ok (.goto (-37), 3) := by decide +kernel
theorem dX8_digits_70 : decode cX8_digits 70 = .ok (.iload_n 3, 1) := by decide +kernel
theorem dX8_digits_71 : decode cX8_digits 71 = .ok (.iconst 1, 1) := by decide +kernel
theorem dX8_digits_72 : decode cX8_digits 72 = .ok (.if_icmp .lt 14, 3) := by decide +kernel
theorem dX8_digits_75 : decode cX8_digits 75 = .ok (.iload_n 3, 1) := by decide +kernel
theorem dX8_digits_76 : decode cX8_digits 76 = .ok (.iconst 2, 1) := by decide +kernel
theorem dX8_digits_77 : decode cX8_digits 77 = .ok (.if_icmp .gt 9, 3) := by decide +kernel
theorem dX8_digits_80 : decode cX8_digits 80 = .ok (.iload 4, 2) := by decide +kernel
theorem dX8_digits_82 : decode cX8_digits 82 = .ok (.iload_n 2, 1) := by decide +kernel
theorem dX8_digits_83 : decode cX8_digits 83 = .ok (.if_icmp .le 8, 3) := by decide +kernel
theorem dX8_digits_86 : decode cX8_digits 86 = .ok (.aload_n 0, 1) := by decide +kernel
theorem dX8_digits_87 : decode cX8_digits 87 = .ok (.invokevirtual 171, 3) := by decide +kernel
theorem dX8_digits_90 : decode cX8_digits 90 = .ok (.ireturn, 1) := by decide +kernel
theorem dX8_digits_91 : decode cX8_digits 91 = .ok (.aload_n 0, 1) := by decide +kernel
theorem dX8_digits_92 : decode cX8_digits 92 = .ok (.dup, 1) := by decide +kernel
theorem dX8_digits_93 : decode cX8_digits 93 = .ok (.getfield 168, 3) := by decide +kernel
theorem dX8_digits_96 : decode cX8_digits 96 = .ok (.iload_n 3, 1) := by decide +kernel
theorem dX8_digits_97 : decode cX8_digits 97 = .ok (.iadd, 1) := by decide +kernel
theorem dX8_digits_98 : decode cX8_digits 98 = .ok (.putfield 168, 3) := by decide +kernel
theorem dX8_digits_101 : decode cX8_digits 101 = .ok (.aload_n 0, 1) := by decide +kernel
theorem dX8_digits_102 : decode cX8_digits 102 = .ok (.getfield 22, 3) := by decide +kernel
theorem dX8_digits_105 : decode cX8_digits 105 = .ok (.iconst 4, 1) := by decide +kernel
theorem dX8_digits_106 : decode cX8_digits 106 = .ok (.aload_n 0, 1) := by decide +kernel
theorem dX8_digits_107 : decode cX8_digits 107 = .ok (.getfield 182, 3) := by decide +kernel
theorem dX8_digits_110 : decode cX8_digits 110 = .ok (.imul, 1) := by decide +kernel
theorem dX8_digits_111 : decode cX8_digits 111 = .ok (.iload_n 1, 1) := by decide +kernel
theorem dX8_digits_112 : decode cX8_digits 112 = .ok (.iadd, 1) := by decide +kernel
theorem dX8_digits_113 : decode cX8_digits 113 = .ok (.iload 4, 2) := by decide +kernel
theorem dX8_digits_115 : decode cX8_digits 115 = .ok (.iastore, 1) := by decide +kernel
theorem dX8_digits_116 : decode cX8_digits 116 = .ok (.iconst 1, 1) := by decide +kernel
theorem dX8_digits_117 : decode cX8_digits 117 = .ok (.ireturn, 1) := by decide +kernel
def F_X8_digits_b70 (x1 : Int32) (x2 : Int32) (Q : VP) (post : Int32 → VP → Prop)  (v3 : Int32) (v4 : Int32) : Prop :=
  (v3 < 1 → F_X8_stops  Q (fun r87 Q87 => (r87 = 0 ∨ r87 = 1) ∧ (post r87 Q87))) ∧ (¬ v3 < 1 → ((2 : Int32) < v3 → F_X8_stops  Q (fun r87 Q87 => (r87 = 0 ∨ r87 = 1) ∧ (post r87 Q87))) ∧ (¬ (2 : Int32) < v3 → (x2 < v4 → F_X8_stops  Q (fun r87 Q87 => (r87 = 0 ∨ r87 = 1) ∧ (post r87 Q87))) ∧ (¬ x2 < v4 → ∀ Q98 : VP, Q98 = vup Q 22 0 8 ((Q 22 0 8) + v3) → ((0 ≤ (4 * (Q98 22 0 11)) + x1 ∧ (4 * (Q98 22 0 11)) + x1 < 480) ∧ (∀ Q115 : VP, Q115 = vup Q98 27 0 (ix ((4 * (Q98 22 0 11)) + x1)) v4 → (post ((1 : Int32)) Q115))))))
set_option maxRecDepth 4000 in
theorem s_X8_digits_b70 {l : Launch} {g : vG} {x1 : Int32} {x2 : Int32} {P Q : VP} {post : Int32 → VP → Prop}  {v3 : Int32} {v4 : Int32}    (h : F_X8_digits_b70 x1 x2 Q post  v3 v4) : VM l g RX8 cX8_digits 6 (some .boolean) 2 (vmI P post) 70 [(0, vR 22 0), (1, vI x1), (2, vI x2), (3, vI v3), (4, vI v4)] [] (vjn P Q) := by
  unfold F_X8_digits_b70 at h
  refine vr_iload_n 3 3 dX8_digits_70 rfl rfl ?_
  refine vr_iconst 1 dX8_digits_71 (by decide) ?_
  refine vr_icmplt 86 dX8_digits_72 (by decide) (fun c72 => ?_) (fun c72 => ?_)
  · have h := h.1 c72
    refine vr_aload_n 0 0 dX8_digits_86 rfl rfl ?_
    refine vr_callV RX8 (s_X8_stops h) rfl (by decide) rfl rfl rfl ml_8_171 rfl yh_X8_stops rfl ⟨Nat.le_of_ble_eq_true rfl, Nat.le_of_ble_eq_true rfl⟩ (Nat.le_of_ble_eq_true rfl) ⟨Nat.zero_le _, Nat.zero_le _⟩ dX8_digits_87 (kmi fun r87 Q87 h => ?_)
    have hb := h.1
    have h := h.2
    exact vr_zret rfl hb ⟨_, _, rfl, rfl, h⟩ dX8_digits_90
  · have h := h.2 c72
    refine vr_iload_n 3 3 dX8_digits_75 rfl rfl ?_
    refine vr_iconst 2 dX8_digits_76 (by decide) ?_
    refine vr_icmpgt 86 dX8_digits_77 (by decide) (fun c77 => ?_) (fun c77 => ?_)
    · have h := h.1 c77
      refine vr_aload_n 0 0 dX8_digits_86 rfl rfl ?_
      refine vr_callV RX8 (s_X8_stops h) rfl (by decide) rfl rfl rfl ml_8_171 rfl yh_X8_stops rfl ⟨Nat.le_of_ble_eq_true rfl, Nat.le_of_ble_eq_true rfl⟩ (Nat.le_of_ble_eq_true rfl) ⟨Nat.zero_le _, Nat.zero_le _⟩ dX8_digits_87 (kmi fun r87 Q87 h => ?_)
      have hb := h.1
      have h := h.2
      exact vr_zret rfl hb ⟨_, _, rfl, rfl, h⟩ dX8_digits_90
    · have h := h.2 c77
      refine vr_iload 4 dX8_digits_80 rfl ?_
      refine vr_iload_n 2 2 dX8_digits_82 rfl rfl ?_
      refine vr_icmple 91 dX8_digits_83 (by decide) (fun c83 => ?_) (fun c83 => ?_)
      · have h := h.1 c83
        refine vr_aload_n 0 0 dX8_digits_86 rfl rfl ?_
        refine vr_callV RX8 (s_X8_stops h) rfl (by decide) rfl rfl rfl ml_8_171 rfl yh_X8_stops rfl ⟨Nat.le_of_ble_eq_true rfl, Nat.le_of_ble_eq_true rfl⟩ (Nat.le_of_ble_eq_true rfl) ⟨Nat.zero_le _, Nat.zero_le _⟩ dX8_digits_87 (kmi fun r87 Q87 h => ?_)
        have hb := h.1
        have h := h.2
        exact vr_zret rfl hb ⟨_, _, rfl, rfl, h⟩ dX8_digits_90
      · have h := h.2 c83
        refine vr_aload_n 0 0 dX8_digits_91 rfl rfl ?_
        refine vr_dup dX8_digits_92 rfl ?_
        refine vg_22_8 RX8 rfl (by decide) fl_8_168 dX8_digits_93 ?_
        refine vr_iload_n 3 3 dX8_digits_96 rfl rfl ?_
        refine vr_iadd dX8_digits_97 ?_
        obtain ⟨Q98, eQ98⟩ : ∃ y : VP, y = vup Q 22 0 8 ((Q 22 0 8) + v3) := ⟨_, rfl⟩
        have h := h Q98 eQ98
        refine vp_22_8 RX8 rfl (by decide) fl_8_168 eQ98 dX8_digits_98 ?_
        refine vr_aload_n 0 0 dX8_digits_101 rfl rfl ?_
        refine vg_22_10 RX8 rfl (by decide) fl_8_22 dX8_digits_102 ?_
        refine vr_iconst 4 dX8_digits_105 (by decide) ?_
        refine vr_aload_n 0 0 dX8_digits_106 rfl rfl ?_
        refine vg_22_11 RX8 rfl (by decide) fl_8_182 dX8_digits_107 ?_
        refine vr_imul dX8_digits_110 ?_
        refine vr_iload_n 1 1 dX8_digits_111 rfl rfl ?_
        refine vr_iadd dX8_digits_112 ?_
        refine vr_iload 4 dX8_digits_113 rfl ?_
        have hi := h.1
        have h := h.2
        obtain ⟨Q115, eQ115⟩ : ∃ y : VP, y = vup Q98 27 0 (ix ((4 * (Q98 22 0 11)) + x1)) v4 := ⟨_, rfl⟩
        have h := h Q115 eQ115
        refine vr_iastQ 480 ia_27 rfl hi eQ115 dX8_digits_115 ?_
        refine vr_iconst 1 dX8_digits_116 (by decide) ?_
        exact vr_zret rfl (Or.inr rfl) ⟨_, _, rfl, rfl, h⟩ dX8_digits_117
def F_X8_digits_l30 (x1 : Int32) (x2 : Int32) (Q : VP) (post : Int32 → VP → Prop)  (v3 : Int32) (X : Int32 → Int32 → Prop) (v4 : Int32) (v5 : Int32) : Prop :=
  (v5 < v3 → (v5 < 3 → F_X8_byteAt ((Q 22 0 8) + v5) Q (fun r55 => X (((10 * v4) + r55) - 48) (v5 + 1))) ∧ (¬ v5 < 3 → F_X8_digits_b70 x1 x2 Q post  v3 v4)) ∧ (¬ v5 < v3 → F_X8_digits_b70 x1 x2 Q post  v3 v4)
set_option maxRecDepth 4000 in
theorem s_X8_digits_l30 {l : Launch} {g : vG} {x1 : Int32} {x2 : Int32} {P Q : VP} {post : Int32 → VP → Prop}  {v3 : Int32}  {v4 : Int32} {v5 : Int32}   (h : vL2 (F_X8_digits_l30 x1 x2 Q post  v3) v4 v5) : VM l g RX8 cX8_digits 6 (some .boolean) 2 (vmI P post) 30 [(0, vR 22 0), (1, vI x1), (2, vI x2), (3, vI v3), (4, vI v4), (5, vI v5)] [] (vjn P Q) := by
  refine vL2_s (T := fun v4 v5 => VM l g RX8 cX8_digits 6 (some .boolean) 2 (vmI P post) 30 [(0, vR 22 0), (1, vI x1), (2, vI x2), (3, vI v3), (4, vI v4), (5, vI v5)] [] (vjn P Q)) ?_ h
  clear h
  intro X hX v4 v5 h
  unfold F_X8_digits_l30 at h
  refine vr_iload 5 dX8_digits_30 rfl ?_
  refine vr_iload_n 3 3 dX8_digits_32 rfl rfl ?_
  refine vr_icmpge 70 dX8_digits_33 (by decide) (fun c33 => ?_) (fun c33 => ?_)
  · have h := h.1 c33
    refine vr_iload 5 dX8_digits_36 rfl ?_
    refine vr_iconst 3 dX8_digits_38 (by decide) ?_
    refine vr_icmpge 70 dX8_digits_39 (by decide) (fun c39 => ?_) (fun c39 => ?_)
    · have h := h.1 c39
      refine vr_bipush 10 dX8_digits_42 (by decide) ?_
      refine vr_iload 4 dX8_digits_44 rfl ?_
      refine vr_imul dX8_digits_46 ?_
      refine vr_aload_n 0 0 dX8_digits_47 rfl rfl ?_
      refine vr_aload_n 0 0 dX8_digits_48 rfl rfl ?_
      refine vg_22_8 RX8 rfl (by decide) fl_8_168 dX8_digits_49 ?_
      refine vr_iload 5 dX8_digits_52 rfl ?_
      refine vr_iadd dX8_digits_54 ?_
      refine vr_callV RX8 (s_X8_byteAt h) rfl (by decide) rfl rfl rfl ml_8_155 rfl yh_X8_byteAt rfl ⟨Nat.le_of_ble_eq_true rfl, Nat.le_of_ble_eq_true rfl⟩ (Nat.le_of_ble_eq_true rfl) ⟨Nat.zero_le _, Nat.zero_le _⟩ dX8_digits_55 (ki fun r55 h => ?_)
      refine vr_iadd dX8_digits_58 ?_
      refine vr_bipush 48 dX8_digits_59 (by decide) ?_
      refine vr_isub dX8_digits_61 ?_
      refine vr_istore [(4, vI (((10 * v4) + r55) - 48)), (0, vR 22 0), (1, vI x1), (2, vI x2), (3, vI v3), (5, vI v5)] dX8_digits_62 (by decide) rfl ?_
      refine vr_iinc (v5 + 1) 5 [(5, vI (v5 + 1)), (4, vI (((10 * v4) + r55) - 48)), (0, vR 22 0), (1, vI x1), (2, vI x2), (3, vI v3)] dX8_digits_64 rfl rfl (by decide) rfl ?_
      refine vr_goto 30 dX8_digits_67 (by decide) ?_
      refine vr_sub [2, 3, 4, 5, 1, 0] [(0, vR 22 0), (1, vI x1), (2, vI x2), (3, vI v3), (4, vI (((10 * v4) + r55) - 48)), (5, vI (v5 + 1))] rfl ?_
      exact hX _ _ h
    · have h := h.2 c39
      refine vr_sub [0, 1, 2, 3, 4] [(0, vR 22 0), (1, vI x1), (2, vI x2), (3, vI v3), (4, vI v4)] rfl ?_
      exact s_X8_digits_b70   h
  · have h := h.2 c33
    refine vr_sub [0, 1, 2, 3, 4] [(0, vR 22 0), (1, vI x1), (2, vI x2), (3, vI v3), (4, vI v4)] rfl ?_
    exact s_X8_digits_b70   h
def F_X8_digits (x1 : Int32) (x2 : Int32) (Q : VP) (post : Int32 → VP → Prop) : Prop :=
  F_X8_sign ((32 : Int32)) Q (fun r3 Q3 => (r3 = 0 → post ((0 : Int32)) Q3) ∧ (¬ r3 = 0 → F_X8_many (Q3 22 0 8) ((48 : Int32)) ((57 : Int32)) Q3 (fun r20 => vL2 (F_X8_digits_l30 x1 x2 Q3 post  r20) ((0 : Int32)) ((0 : Int32)))))
set_option maxRecDepth 4000 in
theorem s_X8_digits {l : Launch} {g : vG} {x1 : Int32} {x2 : Int32} {P Q : VP} {post : Int32 → VP → Prop}  (h : F_X8_digits x1 x2 Q post) : VC l g yX8_digits cX8_digits 6 (some .boolean) 2 [vR 22 0, vI x1, vI x2] (vjn P Q) (vmI P post) := by
  refine VC.of (by decide +kernel) (Nat.le_of_ble_eq_true rfl) (show VM l g RX8 cX8_digits 6 (some .boolean) 2 (vmI P post) 0 [(0, vR 22 0), (1, vI x1), (2, vI x2)] [] (vjn P Q) from ?_)
  unfold F_X8_digits at h
  refine vr_aload_n 0 0 dX8_digits_0 rfl rfl ?_
  refine vr_bipush 32 dX8_digits_1 (by decide) ?_
  refine vr_callV RX8 (s_X8_sign h) rfl (by decide) rfl rfl rfl ml_8_175 rfl yh_X8_sign rfl ⟨Nat.le_of_ble_eq_true rfl, Nat.le_of_ble_eq_true rfl⟩ (Nat.le_of_ble_eq_true rfl) ⟨Nat.zero_le _, Nat.zero_le _⟩ dX8_digits_3 (kmi fun r3 Q3 h => ?_)
  refine vr_ifne 11 dX8_digits_6 (by decide) (fun c6 => ?_) (fun c6 => ?_)
  · have h := h.1 c6
    refine vr_iconst 0 dX8_digits_9 (by decide) ?_
    exact vr_zret rfl (Or.inl rfl) ⟨_, _, rfl, rfl, h⟩ dX8_digits_10
  · have h := h.2 c6
    refine vr_aload_n 0 0 dX8_digits_11 rfl rfl ?_
    refine vr_aload_n 0 0 dX8_digits_12 rfl rfl ?_
    refine vg_22_8 RX8 rfl (by decide) fl_8_168 dX8_digits_13 ?_
    refine vr_bipush 48 dX8_digits_16 (by decide) ?_
    refine vr_bipush 57 dX8_digits_18 (by decide) ?_
    refine vr_callV RX8 (s_X8_many h) rfl (by decide) rfl rfl rfl ml_8_178 rfl yh_X8_many rfl ⟨Nat.le_of_ble_eq_true rfl, Nat.le_of_ble_eq_true rfl⟩ (Nat.le_of_ble_eq_true rfl) ⟨Nat.zero_le _, Nat.zero_le _⟩ dX8_digits_20 (ki fun r20 h => ?_)
    refine vr_istore_n 3 [(3, vI r20), (0, vR 22 0), (1, vI x1), (2, vI x2)] dX8_digits_23 rfl (by decide) rfl ?_
    refine vr_iconst 0 dX8_digits_24 (by decide) ?_
    refine vr_istore [(4, vI 0), (3, vI r20), (0, vR 22 0), (1, vI x1), (2, vI x2)] dX8_digits_25 (by decide) rfl ?_
    refine vr_iconst 0 dX8_digits_27 (by decide) ?_
    refine vr_istore [(5, vI 0), (4, vI 0), (3, vI r20), (0, vR 22 0), (1, vI x1), (2, vI x2)] dX8_digits_28 (by decide) rfl ?_
    refine vr_sub [3, 4, 5, 2, 1, 0] [(0, vR 22 0), (1, vI x1), (2, vI x2), (3, vI r20), (4, vI 0), (5, vI 0)] rfl ?_
    exact s_X8_digits_l30   h
theorem dX8_value_0 : decode cX8_value 0 = .ok (.aload_n 0, 1) := by decide +kernel
theorem dX8_value_1 : decode cX8_value 1 = .ok (.bipush 32, 2) := by decide +kernel
theorem dX8_value_3 : decode cX8_value 3 = .ok (.invokevirtual 175, 3) := by decide +kernel
theorem dX8_value_6 : decode cX8_value 6 = .ok (.ifCond .ne 5, 3) := by decide +kernel
theorem dX8_value_9 : decode cX8_value 9 = .ok (.iconst 0, 1) := by decide +kernel
theorem dX8_value_10 : decode cX8_value 10 = .ok (.ireturn, 1) := by decide +kernel
theorem dX8_value_11 : decode cX8_value 11 = .ok (.aload_n 0, 1) := by decide +kernel
theorem dX8_value_12 : decode cX8_value 12 = .ok (.aload_n 0, 1) := by decide +kernel
theorem dX8_value_13 : decode cX8_value 13 = .ok (.getfield 168, 3) := by decide +kernel
theorem dX8_value_16 : decode cX8_value 16 = .ok (.invokevirtual 155, 3) := by decide +kernel
theorem dX8_value_19 : decode cX8_value 19 = .ok (.bipush 45, 2) := by decide +kernel
theorem dX8_value_21 : decode cX8_value 21 = .ok (.if_icmp .ne 7, 3) := by decide +kernel
theorem dX8_value_24 : decode cX8_value 24 = .ok (.iconst 1, 1) := by decide +kernel
theorem dX8_value_25 : decode cX8_value 25 = .ok (.goto 4, 3) := by decide +kernel
theorem dX8_value_28 : decode cX8_value 28 = .ok (.iconst 0, 1) := by decide +kernel
theorem dX8_value_29 : decode cX8_value 29 = .ok (.istore_n 1, 1) := by decide +kernel
theorem dX8_value_30 : decode cX8_value 30 = .ok (.aload_n 0, 1) := by decide +kernel
theorem dX8_value_31 : decode cX8_value 31 = .ok (.dup, 1) := by decide +kernel
theorem dX8_value_32 : decode cX8_value 32 = .ok (.getfield 168, 3) := by decide +kernel
theorem dX8_value_35 : decode cX8_value 35 = .ok (.iload_n 1, 1) := by decide +kernel
theorem dX8_value_36 : decode cX8_value 36 = .ok (.ifCond .eq 7, 3) := by decide +kernel
theorem dX8_value_39 : decode cX8_value 39 = .ok (.iconst 1, 1) := by decide +kernel
theorem dX8_value_40 : decode cX8_value 40 = .ok (.goto 4, 3) := by decide +kernel
theorem dX8_value_43 : decode cX8_value 43 = .ok (.iconst 0, 1) := by decide +kernel
theorem dX8_value_44 : decode cX8_value 44 = .ok (.iadd, 1) := by decide +kernel
theorem dX8_value_45 : decode cX8_value 45 = .ok (.putfield 168, 3) := by decide +kernel
theorem dX8_value_48 : decode cX8_value 48 = .ok (.aload_n 0, 1) := by decide +kernel
theorem dX8_value_49 : decode cX8_value 49 = .ok (.aload_n 0, 1) := by decide +kernel
theorem dX8_value_50 : decode cX8_value 50 = .ok (.getfield 168, 3) := by decide +kernel
theorem dX8_value_53 : decode cX8_value 53 = .ok (.bipush 48, 2) := by decide +kernel
theorem dX8_value_55 : decode cX8_value 55 = .ok (.bipush 57, 2) := by decide +kernel
theorem dX8_value_57 : decode cX8_value 57 = .ok (.invokevirtual 178, 3) := by decide +kernel
theorem dX8_value_60 : decode cX8_value 60 = .ok (.istore_n 2, 1) := by decide +kernel
theorem dX8_value_61 : decode cX8_value 61 = .ok (.iload_n 2, 1) := by decide +kernel
theorem dX8_value_62 : decode cX8_value 62 = .ok (.iconst 1, 1) := by decide +kernel
theorem dX8_value_63 : decode cX8_value 63 = .ok (.if_icmp .lt 8, 3) := by decide +kernel
theorem dX8_value_66 : decode cX8_value 66 = .ok (.iload_n 2, 1) := by decide +kernel
theorem dX8_value_67 : decode cX8_value 67 = .ok (.iconst 4, 1) := by decide +kernel
theorem dX8_value_68 : decode cX8_value 68 = .ok (.if_icmp .le 8, 3) := by decide +kernel
theorem dX8_value_71 : decode cX8_value 71 = .ok (.aload_n 0, 1) := by decide +kernel
theorem dX8_value_72 : decode cX8_value 72 = .ok (.invokevirtual 171, 3) := by decide +kernel
theorem dX8_value_75 : decode cX8_value 75 = .ok (.ireturn, 1) := by decide +kernel
theorem dX8_value_76 : decode cX8_value 76 = .ok (.iconst 0, 1) := by decide +kernel
theorem dX8_value_77 : decode cX8_value 77 = .ok (.istore_n 3, 1) := by decide +kernel
theorem dX8_value_78 : decode cX8_value 78 = .ok (.iconst 0, 1) := by decide +kernel
theorem dX8_value_79 : decode cX8_value 79 = .ok (.istore 4, 2) := by decide +kernel
theorem dX8_value_81 : decode cX8_value 81 = .ok (.iload 4, 2) := by decide +kernel
theorem dX8_value_83 : decode cX8_value 83 = .ok (.iload_n 2, 1) := by decide +kernel
theorem dX8_value_84 : decode cX8_value 84 = .ok (.if_icmp .ge 29, 3) := by decide +kernel
theorem dX8_value_87 : decode cX8_value 87 = .ok (.bipush 10, 2) := by decide +kernel
theorem dX8_value_89 : decode cX8_value 89 = .ok (.iload_n 3, 1) := by decide +kernel
theorem dX8_value_90 : decode cX8_value 90 = .ok (.imul, 1) := by decide +kernel
theorem dX8_value_91 : decode cX8_value 91 = .ok (.aload_n 0, 1) := by decide +kernel
theorem dX8_value_92 : decode cX8_value 92 = .ok (.aload_n 0, 1) := by decide +kernel
theorem dX8_value_93 : decode cX8_value 93 = .ok (.getfield 168, 3) := by decide +kernel
theorem dX8_value_96 : decode cX8_value 96 = .ok (.iload 4, 2) := by decide +kernel
theorem dX8_value_98 : decode cX8_value 98 = .ok (.iadd, 1) := by decide +kernel
theorem dX8_value_99 : decode cX8_value 99 = .ok (.invokevirtual 155, 3) := by decide +kernel
theorem dX8_value_102 : decode cX8_value 102 = .ok (.iadd, 1) := by decide +kernel
theorem dX8_value_103 : decode cX8_value 103 = .ok (.bipush 48, 2) := by decide +kernel
theorem dX8_value_105 : decode cX8_value 105 = .ok (.isub, 1) := by decide +kernel
theorem dX8_value_106 : decode cX8_value 106 = .ok (.istore_n 3, 1) := by decide +kernel
theorem dX8_value_107 : decode cX8_value 107 = .ok (.iinc 4 1, 3) := by decide +kernel
theorem dX8_value_110 : decode cX8_value 110 = .ok (.goto (-29), 3) := by decide +kernel
theorem dX8_value_113 : decode cX8_value 113 = .ok (.aload_n 0, 1) := by decide +kernel
theorem dX8_value_114 : decode cX8_value 114 = .ok (.dup, 1) := by decide +kernel
theorem dX8_value_115 : decode cX8_value 115 = .ok (.getfield 168, 3) := by decide +kernel
theorem dX8_value_118 : decode cX8_value 118 = .ok (.iload_n 2, 1) := by decide +kernel
theorem dX8_value_119 : decode cX8_value 119 = .ok (.iadd, 1) := by decide +kernel
theorem dX8_value_120 : decode cX8_value 120 = .ok (.putfield 168, 3) := by decide +kernel
theorem dX8_value_123 : decode cX8_value 123 = .ok (.aload_n 0, 1) := by decide +kernel
theorem dX8_value_124 : decode cX8_value 124 = .ok (.getfield 22, 3) := by decide +kernel
theorem dX8_value_127 : decode cX8_value 127 = .ok (.iconst 4, 1) := by decide +kernel
theorem dX8_value_128 : decode cX8_value 128 = .ok (.aload_n 0, 1) := by decide +kernel
theorem dX8_value_129 : decode cX8_value 129 = .ok (.getfield 182, 3) := by decide +kernel
theorem dX8_value_132 : decode cX8_value 132 = .ok (.imul, 1) := by decide +kernel
theorem dX8_value_133 : decode cX8_value 133 = .ok (.iconst 1, 1) := by decide +kernel
theorem dX8_value_134 : decode cX8_value 134 = .ok (.iadd, 1) := by decide +kernel
theorem dX8_value_135 : decode cX8_value 135 = .ok (.iload_n 1, 1) := by decide +kernel
theorem dX8_value_136 : decode cX8_value 136 = .ok (.ifCond .eq 8, 3) := by decide +kernel
theorem dX8_value_139 : decode cX8_value 139 = .ok (.iload_n 3, 1) := by decide +kernel
theorem dX8_value_140 : decode cX8_value 140 = .ok (.ineg, 1) := by decide +kernel
theorem dX8_value_141 : decode cX8_value 141 = .ok (.goto 4, 3) := by decide +kernel
theorem dX8_value_144 : decode cX8_value 144 = .ok (.iload_n 3, 1) := by decide +kernel
theorem dX8_value_145 : decode cX8_value 145 = .ok (.iastore, 1) := by decide +kernel
theorem dX8_value_146 : decode cX8_value 146 = .ok (.iconst 1, 1) := by decide +kernel
theorem dX8_value_147 : decode cX8_value 147 = .ok (.ireturn, 1) := by decide +kernel
def F_X8_value_l81  (Q : VP) (post : Int32 → VP → Prop)  (v1 : Int32) (v2 : Int32) (X : Int32 → Int32 → Prop) (v3 : Int32) (v4 : Int32) : Prop :=
  (v4 < v2 → F_X8_byteAt ((Q 22 0 8) + v4) Q (fun r99 => X (((10 * v3) + r99) - 48) (v4 + 1))) ∧ (¬ v4 < v2 → ∀ Q120 : VP, Q120 = vup Q 22 0 8 ((Q 22 0 8) + v2) → ((v1 = 0 → (0 ≤ (4 * (Q120 22 0 11)) + 1 ∧ (4 * (Q120 22 0 11)) + 1 < 480) ∧ (∀ Q145 : VP, Q145 = vup Q120 27 0 (ix ((4 * (Q120 22 0 11)) + 1)) v3 → (post ((1 : Int32)) Q145))) ∧ (¬ v1 = 0 → (0 ≤ (4 * (Q120 22 0 11)) + 1 ∧ (4 * (Q120 22 0 11)) + 1 < 480) ∧ (∀ Q145 : VP, Q145 = vup Q120 27 0 (ix ((4 * (Q120 22 0 11)) + 1)) (-v3) → (post ((1 : Int32)) Q145)))))
set_option maxRecDepth 4000 in
theorem s_X8_value_l81 {l : Launch} {g : vG}  {P Q : VP} {post : Int32 → VP → Prop}  {v1 : Int32} {v2 : Int32}  {v3 : Int32} {v4 : Int32}   (h : vL2 (F_X8_value_l81  Q post  v1 v2) v3 v4) : VM l g RX8 cX8_value 5 (some .boolean) 2 (vmI P post) 81 [(0, vR 22 0), (1, vI v1), (2, vI v2), (3, vI v3), (4, vI v4)] [] (vjn P Q) := by
  refine vL2_s (T := fun v3 v4 => VM l g RX8 cX8_value 5 (some .boolean) 2 (vmI P post) 81 [(0, vR 22 0), (1, vI v1), (2, vI v2), (3, vI v3), (4, vI v4)] [] (vjn P Q)) ?_ h
  clear h
  intro X hX v3 v4 h
  unfold F_X8_value_l81 at h
  refine vr_iload 4 dX8_value_81 rfl ?_
  refine vr_iload_n 2 2 dX8_value_83 rfl rfl ?_
  refine vr_icmpge 113 dX8_value_84 (by decide) (fun c84 => ?_) (fun c84 => ?_)
  · have h := h.1 c84
    refine vr_bipush 10 dX8_value_87 (by decide) ?_
    refine vr_iload_n 3 3 dX8_value_89 rfl rfl ?_
    refine vr_imul dX8_value_90 ?_
    refine vr_aload_n 0 0 dX8_value_91 rfl rfl ?_
    refine vr_aload_n 0 0 dX8_value_92 rfl rfl ?_
    refine vg_22_8 RX8 rfl (by decide) fl_8_168 dX8_value_93 ?_
    refine vr_iload 4 dX8_value_96 rfl ?_
    refine vr_iadd dX8_value_98 ?_
    refine vr_callV RX8 (s_X8_byteAt h) rfl (by decide) rfl rfl rfl ml_8_155 rfl yh_X8_byteAt rfl ⟨Nat.le_of_ble_eq_true rfl, Nat.le_of_ble_eq_true rfl⟩ (Nat.le_of_ble_eq_true rfl) ⟨Nat.zero_le _, Nat.zero_le _⟩ dX8_value_99 (ki fun r99 h => ?_)
    refine vr_iadd dX8_value_102 ?_
    refine vr_bipush 48 dX8_value_103 (by decide) ?_
    refine vr_isub dX8_value_105 ?_
    refine vr_istore_n 3 [(3, vI (((10 * v3) + r99) - 48)), (0, vR 22 0), (1, vI v1), (2, vI v2), (4, vI v4)] dX8_value_106 rfl (by decide) rfl ?_
    refine vr_iinc (v4 + 1) 4 [(4, vI (v4 + 1)), (3, vI (((10 * v3) + r99) - 48)), (0, vR 22 0), (1, vI v1), (2, vI v2)] dX8_value_107 rfl rfl (by decide) rfl ?_
    refine vr_goto 81 dX8_value_110 (by decide) ?_
    refine vr_sub [2, 3, 4, 1, 0] [(0, vR 22 0), (1, vI v1), (2, vI v2), (3, vI (((10 * v3) + r99) - 48)), (4, vI (v4 + 1))] rfl ?_
    exact hX _ _ h
  · have h := h.2 c84
    refine vr_aload_n 0 0 dX8_value_113 rfl rfl ?_
    refine vr_dup dX8_value_114 rfl ?_
    refine vg_22_8 RX8 rfl (by decide) fl_8_168 dX8_value_115 ?_
    refine vr_iload_n 2 2 dX8_value_118 rfl rfl ?_
    refine vr_iadd dX8_value_119 ?_
    obtain ⟨Q120, eQ120⟩ : ∃ y : VP, y = vup Q 22 0 8 ((Q 22 0 8) + v2) := ⟨_, rfl⟩
    have h := h Q120 eQ120
    refine vp_22_8 RX8 rfl (by decide) fl_8_168 eQ120 dX8_value_120 ?_
    refine vr_aload_n 0 0 dX8_value_123 rfl rfl ?_
    refine vg_22_10 RX8 rfl (by decide) fl_8_22 dX8_value_124 ?_
    refine vr_iconst 4 dX8_value_127 (by decide) ?_
    refine vr_aload_n 0 0 dX8_value_128 rfl rfl ?_
    refine vg_22_11 RX8 rfl (by decide) fl_8_182 dX8_value_129 ?_
    refine vr_imul dX8_value_132 ?_
    refine vr_iconst 1 dX8_value_133 (by decide) ?_
    refine vr_iadd dX8_value_134 ?_
    refine vr_iload_n 1 1 dX8_value_135 rfl rfl ?_
    refine vr_ifeq 144 dX8_value_136 (by decide) (fun c136 => ?_) (fun c136 => ?_)
    · have h := h.1 c136
      refine vr_iload_n 3 3 dX8_value_144 rfl rfl ?_
      have hi := h.1
      have h := h.2
      obtain ⟨Q145, eQ145⟩ : ∃ y : VP, y = vup Q120 27 0 (ix ((4 * (Q120 22 0 11)) + 1)) v3 := ⟨_, rfl⟩
      have h := h Q145 eQ145
      refine vr_iastQ 480 ia_27 rfl hi eQ145 dX8_value_145 ?_
      refine vr_iconst 1 dX8_value_146 (by decide) ?_
      exact vr_zret rfl (Or.inr rfl) ⟨_, _, rfl, rfl, h⟩ dX8_value_147
    · have h := h.2 c136
      refine vr_iload_n 3 3 dX8_value_139 rfl rfl ?_
      refine vr_ineg dX8_value_140 ?_
      refine vr_goto 145 dX8_value_141 (by decide) ?_
      have hi := h.1
      have h := h.2
      obtain ⟨Q145, eQ145⟩ : ∃ y : VP, y = vup Q120 27 0 (ix ((4 * (Q120 22 0 11)) + 1)) (-v3) := ⟨_, rfl⟩
      have h := h Q145 eQ145
      refine vr_iastQ 480 ia_27 rfl hi eQ145 dX8_value_145 ?_
      refine vr_iconst 1 dX8_value_146 (by decide) ?_
      exact vr_zret rfl (Or.inr rfl) ⟨_, _, rfl, rfl, h⟩ dX8_value_147
def F_X8_value_b44  (Q : VP) (post : Int32 → VP → Prop)  (v1 : Int32) (t0 : Int32) (t1 : Int32) : Prop :=
  ∀ Q45 : VP, Q45 = vup Q 22 0 8 (t1 + t0) → (F_X8_many (Q45 22 0 8) ((48 : Int32)) ((57 : Int32)) Q45 (fun r57 => (r57 < 1 → F_X8_stops  Q45 (fun r72 Q72 => (r72 = 0 ∨ r72 = 1) ∧ (post r72 Q72))) ∧ (¬ r57 < 1 → ((4 : Int32) < r57 → F_X8_stops  Q45 (fun r72 Q72 => (r72 = 0 ∨ r72 = 1) ∧ (post r72 Q72))) ∧ (¬ (4 : Int32) < r57 → vL2 (F_X8_value_l81  Q45 post  v1 r57) ((0 : Int32)) ((0 : Int32))))))
set_option maxRecDepth 4000 in
theorem s_X8_value_b44 {l : Launch} {g : vG}  {P Q : VP} {post : Int32 → VP → Prop}  {v1 : Int32} {t0 : Int32} {t1 : Int32}    (h : F_X8_value_b44  Q post  v1 t0 t1) : VM l g RX8 cX8_value 5 (some .boolean) 2 (vmI P post) 44 [(0, vR 22 0), (1, vI v1)] [vI t0, vI t1, vR 22 0] (vjn P Q) := by
  unfold F_X8_value_b44 at h
  refine vr_iadd dX8_value_44 ?_
  obtain ⟨Q45, eQ45⟩ : ∃ y : VP, y = vup Q 22 0 8 (t1 + t0) := ⟨_, rfl⟩
  have h := h Q45 eQ45
  refine vp_22_8 RX8 rfl (by decide) fl_8_168 eQ45 dX8_value_45 ?_
  refine vr_aload_n 0 0 dX8_value_48 rfl rfl ?_
  refine vr_aload_n 0 0 dX8_value_49 rfl rfl ?_
  refine vg_22_8 RX8 rfl (by decide) fl_8_168 dX8_value_50 ?_
  refine vr_bipush 48 dX8_value_53 (by decide) ?_
  refine vr_bipush 57 dX8_value_55 (by decide) ?_
  refine vr_callV RX8 (s_X8_many h) rfl (by decide) rfl rfl rfl ml_8_178 rfl yh_X8_many rfl ⟨Nat.le_of_ble_eq_true rfl, Nat.le_of_ble_eq_true rfl⟩ (Nat.le_of_ble_eq_true rfl) ⟨Nat.zero_le _, Nat.zero_le _⟩ dX8_value_57 (ki fun r57 h => ?_)
  refine vr_istore_n 2 [(2, vI r57), (0, vR 22 0), (1, vI v1)] dX8_value_60 rfl (by decide) rfl ?_
  refine vr_iload_n 2 0 dX8_value_61 rfl rfl ?_
  refine vr_iconst 1 dX8_value_62 (by decide) ?_
  refine vr_icmplt 71 dX8_value_63 (by decide) (fun c63 => ?_) (fun c63 => ?_)
  · have h := h.1 c63
    refine vr_aload_n 0 1 dX8_value_71 rfl rfl ?_
    refine vr_callV RX8 (s_X8_stops h) rfl (by decide) rfl rfl rfl ml_8_171 rfl yh_X8_stops rfl ⟨Nat.le_of_ble_eq_true rfl, Nat.le_of_ble_eq_true rfl⟩ (Nat.le_of_ble_eq_true rfl) ⟨Nat.zero_le _, Nat.zero_le _⟩ dX8_value_72 (kmi fun r72 Q72 h => ?_)
    have hb := h.1
    have h := h.2
    exact vr_zret rfl hb ⟨_, _, rfl, rfl, h⟩ dX8_value_75
  · have h := h.2 c63
    refine vr_iload_n 2 0 dX8_value_66 rfl rfl ?_
    refine vr_iconst 4 dX8_value_67 (by decide) ?_
    refine vr_icmple 76 dX8_value_68 (by decide) (fun c68 => ?_) (fun c68 => ?_)
    · have h := h.1 c68
      refine vr_aload_n 0 1 dX8_value_71 rfl rfl ?_
      refine vr_callV RX8 (s_X8_stops h) rfl (by decide) rfl rfl rfl ml_8_171 rfl yh_X8_stops rfl ⟨Nat.le_of_ble_eq_true rfl, Nat.le_of_ble_eq_true rfl⟩ (Nat.le_of_ble_eq_true rfl) ⟨Nat.zero_le _, Nat.zero_le _⟩ dX8_value_72 (kmi fun r72 Q72 h => ?_)
      have hb := h.1
      have h := h.2
      exact vr_zret rfl hb ⟨_, _, rfl, rfl, h⟩ dX8_value_75
    · have h := h.2 c68
      refine vr_iconst 0 dX8_value_76 (by decide) ?_
      refine vr_istore_n 3 [(3, vI 0), (2, vI r57), (0, vR 22 0), (1, vI v1)] dX8_value_77 rfl (by decide) rfl ?_
      refine vr_iconst 0 dX8_value_78 (by decide) ?_
      refine vr_istore [(4, vI 0), (3, vI 0), (2, vI r57), (0, vR 22 0), (1, vI v1)] dX8_value_79 (by decide) rfl ?_
      refine vr_sub [3, 4, 2, 1, 0] [(0, vR 22 0), (1, vI v1), (2, vI r57), (3, vI 0), (4, vI 0)] rfl ?_
      exact s_X8_value_l81   h
def F_X8_value  (Q : VP) (post : Int32 → VP → Prop) : Prop :=
  F_X8_sign ((32 : Int32)) Q (fun r3 Q3 => (r3 = 0 → post ((0 : Int32)) Q3) ∧ (¬ r3 = 0 → F_X8_byteAt (Q3 22 0 8) Q3 (fun r16 => (r16 = 45 → ((1 : Int32) = 0 → F_X8_value_b44  Q3 post  ((1 : Int32)) ((0 : Int32)) (Q3 22 0 8)) ∧ (¬ (1 : Int32) = 0 → F_X8_value_b44  Q3 post  ((1 : Int32)) ((1 : Int32)) (Q3 22 0 8))) ∧ (¬ r16 = 45 → ((0 : Int32) = 0 → F_X8_value_b44  Q3 post  ((0 : Int32)) ((0 : Int32)) (Q3 22 0 8)) ∧ (¬ (0 : Int32) = 0 → F_X8_value_b44  Q3 post  ((0 : Int32)) ((1 : Int32)) (Q3 22 0 8))))))
set_option maxRecDepth 4000 in
theorem s_X8_value {l : Launch} {g : vG}  {P Q : VP} {post : Int32 → VP → Prop}  (h : F_X8_value  Q post) : VC l g yX8_value cX8_value 5 (some .boolean) 2 [vR 22 0] (vjn P Q) (vmI P post) := by
  refine VC.of (by decide +kernel) (Nat.le_of_ble_eq_true rfl) (show VM l g RX8 cX8_value 5 (some .boolean) 2 (vmI P post) 0 [(0, vR 22 0)] [] (vjn P Q) from ?_)
  unfold F_X8_value at h
  refine vr_aload_n 0 0 dX8_value_0 rfl rfl ?_
  refine vr_bipush 32 dX8_value_1 (by decide) ?_
  refine vr_callV RX8 (s_X8_sign h) rfl (by decide) rfl rfl rfl ml_8_175 rfl yh_X8_sign rfl ⟨Nat.le_of_ble_eq_true rfl, Nat.le_of_ble_eq_true rfl⟩ (Nat.le_of_ble_eq_true rfl) ⟨Nat.zero_le _, Nat.zero_le _⟩ dX8_value_3 (kmi fun r3 Q3 h => ?_)
  refine vr_ifne 11 dX8_value_6 (by decide) (fun c6 => ?_) (fun c6 => ?_)
  · have h := h.1 c6
    refine vr_iconst 0 dX8_value_9 (by decide) ?_
    exact vr_zret rfl (Or.inl rfl) ⟨_, _, rfl, rfl, h⟩ dX8_value_10
  · have h := h.2 c6
    refine vr_aload_n 0 0 dX8_value_11 rfl rfl ?_
    refine vr_aload_n 0 0 dX8_value_12 rfl rfl ?_
    refine vg_22_8 RX8 rfl (by decide) fl_8_168 dX8_value_13 ?_
    refine vr_callV RX8 (s_X8_byteAt h) rfl (by decide) rfl rfl rfl ml_8_155 rfl yh_X8_byteAt rfl ⟨Nat.le_of_ble_eq_true rfl, Nat.le_of_ble_eq_true rfl⟩ (Nat.le_of_ble_eq_true rfl) ⟨Nat.zero_le _, Nat.zero_le _⟩ dX8_value_16 (ki fun r16 h => ?_)
    refine vr_bipush 45 dX8_value_19 (by decide) ?_
    refine vr_icmpne 28 dX8_value_21 (by decide) (fun c21 => ?_) (fun c21 => ?_)
    · have h := h.1 c21
      refine vr_iconst 1 dX8_value_24 (by decide) ?_
      refine vr_goto 29 dX8_value_25 (by decide) ?_
      refine vr_istore_n 1 [(1, vI 1), (0, vR 22 0)] dX8_value_29 rfl (by decide) rfl ?_
      refine vr_aload_n 0 1 dX8_value_30 rfl rfl ?_
      refine vr_dup dX8_value_31 rfl ?_
      refine vg_22_8 RX8 rfl (by decide) fl_8_168 dX8_value_32 ?_
      refine vr_iload_n 1 0 dX8_value_35 rfl rfl ?_
      refine vr_ifeq 43 dX8_value_36 (by decide) (fun c36 => ?_) (fun c36 => ?_)
      · have h := h.1 c36
        refine vr_iconst 0 dX8_value_43 (by decide) ?_
        refine vr_sub [1, 0] [(0, vR 22 0), (1, vI 1)] rfl ?_
        exact s_X8_value_b44   h
      · have h := h.2 c36
        refine vr_iconst 1 dX8_value_39 (by decide) ?_
        refine vr_goto 44 dX8_value_40 (by decide) ?_
        refine vr_sub [1, 0] [(0, vR 22 0), (1, vI 1)] rfl ?_
        exact s_X8_value_b44   h
    · have h := h.2 c21
      refine vr_iconst 0 dX8_value_28 (by decide) ?_
      refine vr_istore_n 1 [(1, vI 0), (0, vR 22 0)] dX8_value_29 rfl (by decide) rfl ?_
      refine vr_aload_n 0 1 dX8_value_30 rfl rfl ?_
      refine vr_dup dX8_value_31 rfl ?_
      refine vg_22_8 RX8 rfl (by decide) fl_8_168 dX8_value_32 ?_
      refine vr_iload_n 1 0 dX8_value_35 rfl rfl ?_
      refine vr_ifeq 43 dX8_value_36 (by decide) (fun c36 => ?_) (fun c36 => ?_)
      · have h := h.1 c36
        refine vr_iconst 0 dX8_value_43 (by decide) ?_
        refine vr_sub [1, 0] [(0, vR 22 0), (1, vI 0)] rfl ?_
        exact s_X8_value_b44   h
      · have h := h.2 c36
        refine vr_iconst 1 dX8_value_39 (by decide) ?_
        refine vr_goto 44 dX8_value_40 (by decide) ?_
        refine vr_sub [1, 0] [(0, vR 22 0), (1, vI 0)] rfl ?_
        exact s_X8_value_b44   h
theorem dX8_letter_0 : decode cX8_letter 0 = .ok (.aload_n 0, 1) := by decide +kernel
theorem dX8_letter_1 : decode cX8_letter 1 = .ok (.bipush 32, 2) := by decide +kernel
theorem dX8_letter_3 : decode cX8_letter 3 = .ok (.invokevirtual 175, 3) := by decide +kernel
theorem dX8_letter_6 : decode cX8_letter 6 = .ok (.ifCond .ne 5, 3) := by decide +kernel
theorem dX8_letter_9 : decode cX8_letter 9 = .ok (.iconst 0, 1) := by decide +kernel
theorem dX8_letter_10 : decode cX8_letter 10 = .ok (.ireturn, 1) := by decide +kernel
theorem dX8_letter_11 : decode cX8_letter 11 = .ok (.aload_n 0, 1) := by decide +kernel
theorem dX8_letter_12 : decode cX8_letter 12 = .ok (.aload_n 0, 1) := by decide +kernel
theorem dX8_letter_13 : decode cX8_letter 13 = .ok (.getfield 168, 3) := by decide +kernel
theorem dX8_letter_16 : decode cX8_letter 16 = .ok (.bipush 97, 2) := by decide +kernel
theorem dX8_letter_18 : decode cX8_letter 18 = .ok (.bipush 122, 2) := by decide +kernel
theorem dX8_letter_20 : decode cX8_letter 20 = .ok (.invokevirtual 178, 3) := by decide +kernel
theorem dX8_letter_23 : decode cX8_letter 23 = .ok (.iconst 1, 1) := by decide +kernel
theorem dX8_letter_24 : decode cX8_letter 24 = .ok (.if_icmp .eq 8, 3) := by decide +kernel
theorem dX8_letter_27 : decode cX8_letter 27 = .ok (.aload_n 0, 1) := by decide +kernel
theorem dX8_letter_28 : decode cX8_letter 28 = .ok (.invokevirtual 171, 3) := by decide +kernel
theorem dX8_letter_31 : decode cX8_letter 31 = .ok (.ireturn, 1) := by decide +kernel
theorem dX8_letter_32 : decode cX8_letter 32 = .ok (.aload_n 0, 1) := by decide +kernel
theorem dX8_letter_33 : decode cX8_letter 33 = .ok (.getfield 22, 3) := by decide +kernel
theorem dX8_letter_36 : decode cX8_letter 36 = .ok (.iconst 4, 1) := by decide +kernel
theorem dX8_letter_37 : decode cX8_letter 37 = .ok (.aload_n 0, 1) := by decide +kernel
theorem dX8_letter_38 : decode cX8_letter 38 = .ok (.getfield 182, 3) := by decide +kernel
theorem dX8_letter_41 : decode cX8_letter 41 = .ok (.imul, 1) := by decide +kernel
theorem dX8_letter_42 : decode cX8_letter 42 = .ok (.iconst 1, 1) := by decide +kernel
theorem dX8_letter_43 : decode cX8_letter 43 = .ok (.iadd, 1) := by decide +kernel
theorem dX8_letter_44 : decode cX8_letter 44 = .ok (.aload_n 0, 1) := by decide +kernel
theorem dX8_letter_45 : decode cX8_letter 45 = .ok (.aload_n 0, 1) := by decide +kernel
theorem dX8_letter_46 : decode cX8_letter 46 = .ok (.getfield 168, 3) := by decide +kernel
theorem dX8_letter_49 : decode cX8_letter 49 = .ok (.invokevirtual 155, 3) := by decide +kernel
theorem dX8_letter_52 : decode cX8_letter 52 = .ok (.bipush 97, 2) := by decide +kernel
theorem dX8_letter_54 : decode cX8_letter 54 = .ok (.isub, 1) := by decide +kernel
theorem dX8_letter_55 : decode cX8_letter 55 = .ok (.iastore, 1) := by decide +kernel
theorem dX8_letter_56 : decode cX8_letter 56 = .ok (.aload_n 0, 1) := by decide +kernel
theorem dX8_letter_57 : decode cX8_letter 57 = .ok (.dup, 1) := by decide +kernel
theorem dX8_letter_58 : decode cX8_letter 58 = .ok (.getfield 168, 3) := by decide +kernel
theorem dX8_letter_61 : decode cX8_letter 61 = .ok (.iconst 1, 1) := by decide +kernel
theorem dX8_letter_62 : decode cX8_letter 62 = .ok (.iadd, 1) := by decide +kernel
theorem dX8_letter_63 : decode cX8_letter 63 = .ok (.putfield 168, 3) := by decide +kernel
theorem dX8_letter_66 : decode cX8_letter 66 = .ok (.iconst 1, 1) := by decide +kernel
theorem dX8_letter_67 : decode cX8_letter 67 = .ok (.ireturn, 1) := by decide +kernel
def F_X8_letter  (Q : VP) (post : Int32 → VP → Prop) : Prop :=
  F_X8_sign ((32 : Int32)) Q (fun r3 Q3 => (r3 = 0 → post ((0 : Int32)) Q3) ∧ (¬ r3 = 0 → F_X8_many (Q3 22 0 8) ((97 : Int32)) ((122 : Int32)) Q3 (fun r20 => (r20 = 1 → F_X8_byteAt (Q3 22 0 8) Q3 (fun r49 => (0 ≤ (4 * (Q3 22 0 11)) + 1 ∧ (4 * (Q3 22 0 11)) + 1 < 480) ∧ (∀ Q55 : VP, Q55 = vup Q3 27 0 (ix ((4 * (Q3 22 0 11)) + 1)) (r49 - 97) → (∀ Q63 : VP, Q63 = vup Q55 22 0 8 ((Q55 22 0 8) + 1) → (post ((1 : Int32)) Q63))))) ∧ (¬ r20 = 1 → F_X8_stops  Q3 (fun r28 Q28 => (r28 = 0 ∨ r28 = 1) ∧ (post r28 Q28))))))
set_option maxRecDepth 4000 in
theorem s_X8_letter {l : Launch} {g : vG}  {P Q : VP} {post : Int32 → VP → Prop}  (h : F_X8_letter  Q post) : VC l g yX8_letter cX8_letter 1 (some .boolean) 2 [vR 22 0] (vjn P Q) (vmI P post) := by
  refine VC.of (by decide +kernel) (Nat.le_of_ble_eq_true rfl) (show VM l g RX8 cX8_letter 1 (some .boolean) 2 (vmI P post) 0 [(0, vR 22 0)] [] (vjn P Q) from ?_)
  unfold F_X8_letter at h
  refine vr_aload_n 0 0 dX8_letter_0 rfl rfl ?_
  refine vr_bipush 32 dX8_letter_1 (by decide) ?_
  refine vr_callV RX8 (s_X8_sign h) rfl (by decide) rfl rfl rfl ml_8_175 rfl yh_X8_sign rfl ⟨Nat.le_of_ble_eq_true rfl, Nat.le_of_ble_eq_true rfl⟩ (Nat.le_of_ble_eq_true rfl) ⟨Nat.zero_le _, Nat.zero_le _⟩ dX8_letter_3 (kmi fun r3 Q3 h => ?_)
  refine vr_ifne 11 dX8_letter_6 (by decide) (fun c6 => ?_) (fun c6 => ?_)
  · have h := h.1 c6
    refine vr_iconst 0 dX8_letter_9 (by decide) ?_
    exact vr_zret rfl (Or.inl rfl) ⟨_, _, rfl, rfl, h⟩ dX8_letter_10
  · have h := h.2 c6
    refine vr_aload_n 0 0 dX8_letter_11 rfl rfl ?_
    refine vr_aload_n 0 0 dX8_letter_12 rfl rfl ?_
    refine vg_22_8 RX8 rfl (by decide) fl_8_168 dX8_letter_13 ?_
    refine vr_bipush 97 dX8_letter_16 (by decide) ?_
    refine vr_bipush 122 dX8_letter_18 (by decide) ?_
    refine vr_callV RX8 (s_X8_many h) rfl (by decide) rfl rfl rfl ml_8_178 rfl yh_X8_many rfl ⟨Nat.le_of_ble_eq_true rfl, Nat.le_of_ble_eq_true rfl⟩ (Nat.le_of_ble_eq_true rfl) ⟨Nat.zero_le _, Nat.zero_le _⟩ dX8_letter_20 (ki fun r20 h => ?_)
    refine vr_iconst 1 dX8_letter_23 (by decide) ?_
    refine vr_icmpeq 32 dX8_letter_24 (by decide) (fun c24 => ?_) (fun c24 => ?_)
    · have h := h.1 c24
      refine vr_aload_n 0 0 dX8_letter_32 rfl rfl ?_
      refine vg_22_10 RX8 rfl (by decide) fl_8_22 dX8_letter_33 ?_
      refine vr_iconst 4 dX8_letter_36 (by decide) ?_
      refine vr_aload_n 0 0 dX8_letter_37 rfl rfl ?_
      refine vg_22_11 RX8 rfl (by decide) fl_8_182 dX8_letter_38 ?_
      refine vr_imul dX8_letter_41 ?_
      refine vr_iconst 1 dX8_letter_42 (by decide) ?_
      refine vr_iadd dX8_letter_43 ?_
      refine vr_aload_n 0 0 dX8_letter_44 rfl rfl ?_
      refine vr_aload_n 0 0 dX8_letter_45 rfl rfl ?_
      refine vg_22_8 RX8 rfl (by decide) fl_8_168 dX8_letter_46 ?_
      refine vr_callV RX8 (s_X8_byteAt h) rfl (by decide) rfl rfl rfl ml_8_155 rfl yh_X8_byteAt rfl ⟨Nat.le_of_ble_eq_true rfl, Nat.le_of_ble_eq_true rfl⟩ (Nat.le_of_ble_eq_true rfl) ⟨Nat.zero_le _, Nat.zero_le _⟩ dX8_letter_49 (ki fun r49 h => ?_)
      refine vr_bipush 97 dX8_letter_52 (by decide) ?_
      refine vr_isub dX8_letter_54 ?_
      have hi := h.1
      have h := h.2
      obtain ⟨Q55, eQ55⟩ : ∃ y : VP, y = vup Q3 27 0 (ix ((4 * (Q3 22 0 11)) + 1)) (r49 - 97) := ⟨_, rfl⟩
      have h := h Q55 eQ55
      refine vr_iastQ 480 ia_27 rfl hi eQ55 dX8_letter_55 ?_
      refine vr_aload_n 0 0 dX8_letter_56 rfl rfl ?_
      refine vr_dup dX8_letter_57 rfl ?_
      refine vg_22_8 RX8 rfl (by decide) fl_8_168 dX8_letter_58 ?_
      refine vr_iconst 1 dX8_letter_61 (by decide) ?_
      refine vr_iadd dX8_letter_62 ?_
      obtain ⟨Q63, eQ63⟩ : ∃ y : VP, y = vup Q55 22 0 8 ((Q55 22 0 8) + 1) := ⟨_, rfl⟩
      have h := h Q63 eQ63
      refine vp_22_8 RX8 rfl (by decide) fl_8_168 eQ63 dX8_letter_63 ?_
      refine vr_iconst 1 dX8_letter_66 (by decide) ?_
      exact vr_zret rfl (Or.inr rfl) ⟨_, _, rfl, rfl, h⟩ dX8_letter_67
    · have h := h.2 c24
      refine vr_aload_n 0 0 dX8_letter_27 rfl rfl ?_
      refine vr_callV RX8 (s_X8_stops h) rfl (by decide) rfl rfl rfl ml_8_171 rfl yh_X8_stops rfl ⟨Nat.le_of_ble_eq_true rfl, Nat.le_of_ble_eq_true rfl⟩ (Nat.le_of_ble_eq_true rfl) ⟨Nat.zero_le _, Nat.zero_le _⟩ dX8_letter_28 (kmi fun r28 Q28 h => ?_)
      have hb := h.1
      have h := h.2
      exact vr_zret rfl hb ⟨_, _, rfl, rfl, h⟩ dX8_letter_31
theorem dX8_actLine_0 : decode cX8_actLine 0 = .ok (.iconst 0, 1) := by decide +kernel
theorem dX8_actLine_1 : decode cX8_actLine 1 = .ok (.istore_n 3, 1) := by decide +kernel
theorem dX8_actLine_2 : decode cX8_actLine 2 = .ok (.iload_n 3, 1) := by decide +kernel
theorem dX8_actLine_3 : decode cX8_actLine 3 = .ok (.bipush 10, 2) := by decide +kernel
theorem dX8_actLine_5 : decode cX8_actLine 5 = .ok (.if_icmp .ge 24, 3) := by decide +kernel
theorem dX8_actLine_8 : decode cX8_actLine 8 = .ok (.aload_n 0, 1) := by decide +kernel
theorem dX8_actLine_9 : decode cX8_actLine 9 = .ok (.iload_n 1, 1) := by decide +kernel
theorem dX8_actLine_10 : decode cX8_actLine 10 = .ok (.iload_n 2, 1) := by decide +kernel
theorem dX8_actLine_11 : decode cX8_actLine 11 = .ok (.aload_n 0, 1) := by decide +kernel
theorem dX8_actLine_12 : decode cX8_actLine 12 = .ok (.getfield 47, 3) := by decide +kernel
theorem dX8_actLine_15 : decode cX8_actLine 15 = .ok (.iload_n 3, 1) := by decide +kernel
theorem dX8_actLine_16 : decode cX8_actLine 16 = .ok (.aaload, 1) := by decide +kernel
theorem dX8_actLine_17 : decode cX8_actLine 17 = .ok (.invokevirtual 185, 3) := by decide +kernel
theorem dX8_actLine_20 : decode cX8_actLine 20 = .ok (.ifCond .ne 9, 3) := by decide +kernel
theorem dX8_actLine_23 : decode cX8_actLine 23 = .ok (.iinc 3 1, 3) := by decide +kernel
theorem dX8_actLine_26 : decode cX8_actLine 26 = .ok (.goto (-24), 3) := by decide +kernel
theorem dX8_actLine_29 : decode cX8_actLine 29 = .ok (.iload_n 3, 1) := by decide +kernel
theorem dX8_actLine_30 : decode cX8_actLine 30 = .ok (.bipush 10, 2) := by decide +kernel
theorem dX8_actLine_32 : decode cX8_actLine 32 = .ok (.if_icmp .ne 8, 3) := by decide +kernel
theorem dX8_actLine_35 : decode cX8_actLine 35 = .ok (.aload_n 0, 1) := by decide +kernel
theorem dX8_actLine_36 : decode cX8_actLine 36 = .ok (.invokevirtual 171, 3) := by decide +kernel
theorem dX8_actLine_39 : decode cX8_actLine 39 = .ok (.ireturn, 1) := by decide +kernel
theorem dX8_actLine_40 : decode cX8_actLine 40 = .ok (.aload_n 0, 1) := by decide +kernel
theorem dX8_actLine_41 : decode cX8_actLine 41 = .ok (.dup, 1) := by decide +kernel
theorem dX8_actLine_42 : decode cX8_actLine 42 = .ok (.getfield 168, 3) := by decide +kernel
theorem dX8_actLine_45 : decode cX8_actLine 45 = .ok (.iload_n 2, 1) := by decide +kernel
theorem dX8_actLine_46 : decode cX8_actLine 46 = .ok (.iadd, 1) := by decide +kernel
theorem dX8_actLine_47 : decode cX8_actLine 47 = .ok (.putfield 168, 3) := by decide +kernel
theorem dX8_actLine_50 : decode cX8_actLine 50 = .ok (.aload_n 0, 1) := by decide +kernel
theorem dX8_actLine_51 : decode cX8_actLine 51 = .ok (.getfield 22, 3) := by decide +kernel
theorem dX8_actLine_54 : decode cX8_actLine 54 = .ok (.iconst 4, 1) := by decide +kernel
theorem dX8_actLine_55 : decode cX8_actLine 55 = .ok (.aload_n 0, 1) := by decide +kernel
theorem dX8_actLine_56 : decode cX8_actLine 56 = .ok (.getfield 182, 3) := by decide +kernel
theorem dX8_actLine_59 : decode cX8_actLine 59 = .ok (.imul, 1) := by decide +kernel
theorem dX8_actLine_60 : decode cX8_actLine 60 = .ok (.bipush 6, 2) := by decide +kernel
theorem dX8_actLine_62 : decode cX8_actLine 62 = .ok (.iastore, 1) := by decide +kernel
theorem dX8_actLine_63 : decode cX8_actLine 63 = .ok (.aload_n 0, 1) := by decide +kernel
theorem dX8_actLine_64 : decode cX8_actLine 64 = .ok (.getfield 22, 3) := by decide +kernel
theorem dX8_actLine_67 : decode cX8_actLine 67 = .ok (.iconst 4, 1) := by decide +kernel
theorem dX8_actLine_68 : decode cX8_actLine 68 = .ok (.aload_n 0, 1) := by decide +kernel
theorem dX8_actLine_69 : decode cX8_actLine 69 = .ok (.getfield 182, 3) := by decide +kernel
theorem dX8_actLine_72 : decode cX8_actLine 72 = .ok (.imul, 1) := by decide +kernel
theorem dX8_actLine_73 : decode cX8_actLine 73 = .ok (.iconst 1, 1) := by decide +kernel
theorem dX8_actLine_74 : decode cX8_actLine 74 = .ok (.iadd, 1) := by decide +kernel
theorem dX8_actLine_75 : decode cX8_actLine 75 = .ok (.iload_n 3, 1) := by decide +kernel
theorem dX8_actLine_76 : decode cX8_actLine 76 = .ok (.iastore, 1) := by decide +kernel
theorem dX8_actLine_77 : decode cX8_actLine 77 = .ok (.iload_n 3, 1) := by decide +kernel
theorem dX8_actLine_78 : decode cX8_actLine 78 = .ok (.ifCond .eq 9, 3) := by decide +kernel
theorem dX8_actLine_81 : decode cX8_actLine 81 = .ok (.iload_n 3, 1) := by decide +kernel
theorem dX8_actLine_82 : decode cX8_actLine 82 = .ok (.bipush 6, 2) := by decide +kernel
theorem dX8_actLine_84 : decode cX8_actLine 84 = .ok (.if_icmp .ne 5, 3) := by decide +kernel
theorem dX8_actLine_87 : decode cX8_actLine 87 = .ok (.iconst 1, 1) := by decide +kernel
theorem dX8_actLine_88 : decode cX8_actLine 88 = .ok (.ireturn, 1) := by decide +kernel
theorem dX8_actLine_89 : decode cX8_actLine 89 = .ok (.aload_n 0, 1) := by decide +kernel
theorem dX8_actLine_90 : decode cX8_actLine 90 = .ok (.iconst 2, 1) := by decide +kernel
theorem dX8_actLine_91 : decode cX8_actLine 91 = .ok (.iload_n 3, 1) := by decide +kernel
theorem dX8_actLine_92 : decode cX8_actLine 92 = .ok (.bipush 7, 2) := by decide +kernel
theorem dX8_actLine_94 : decode cX8_actLine 94 = .ok (.if_icmp .eq 9, 3) := by decide +kernel
theorem dX8_actLine_97 : decode cX8_actLine 97 = .ok (.iload_n 3, 1) := by decide +kernel
theorem dX8_actLine_98 : decode cX8_actLine 98 = .ok (.bipush 8, 2) := by decide +kernel
theorem dX8_actLine_100 : decode cX8_actLine 100 = .ok (.if_icmp .ne 7, 3) := by decide +kernel
theorem dX8_actLine_103 : decode cX8_actLine 103 = .ok (.iconst 2, 1) := by decide +kernel
theorem dX8_actLine_104 : decode cX8_actLine 104 = .ok (.goto 5, 3) := by decide +kernel
theorem dX8_actLine_107 : decode cX8_actLine 107 = .ok (.bipush 23, 2) := by decide +kernel
theorem dX8_actLine_109 : decode cX8_actLine 109 = .ok (.invokevirtual 189, 3) := by decide +kernel
theorem dX8_actLine_112 : decode cX8_actLine 112 = .ok (.ifCond .eq 21, 3) := by decide +kernel
theorem dX8_actLine_115 : decode cX8_actLine 115 = .ok (.iload_n 3, 1) := by decide +kernel
theorem dX8_actLine_116 : decode cX8_actLine 116 = .ok (.iconst 5, 1) := by decide +kernel
theorem dX8_actLine_117 : decode cX8_actLine 117 = .ok (.if_icmp .ne 12, 3) := by decide +kernel
theorem dX8_actLine_120 : decode cX8_actLine 120 = .ok (.aload_n 0, 1) := by decide +kernel
theorem dX8_actLine_121 : decode cX8_actLine 121 = .ok (.iconst 3, 1) := by decide +kernel
theorem dX8_actLine_122 : decode cX8_actLine 122 = .ok (.iconst 3, 1) := by decide +kernel
theorem dX8_actLine_123 : decode cX8_actLine 123 = .ok (.invokevirtual 189, 3) := by decide +kernel
theorem dX8_actLine_126 : decode cX8_actLine 126 = .ok (.ifCond .eq 7, 3) := by decide +kernel
theorem dX8_actLine_129 : decode cX8_actLine 129 = .ok (.iconst 1, 1) := by decide +kernel
theorem dX8_actLine_130 : decode cX8_actLine 130 = .ok (.goto 4, 3) := by decide +kernel
theorem dX8_actLine_133 : decode cX8_actLine 133 = .ok (.iconst 0, 1) := by decide +kernel
theorem dX8_actLine_134 : decode cX8_actLine 134 = .ok (.ireturn, 1) := by decide +kernel
def F_X8_actLine_b109 (x1 : Int32) (x2 : Int32) (Q : VP) (post : Int32 → VP → Prop)  (v3 : Int32) (t0 : Int32) : Prop :=
  F_X8_digits ((2 : Int32)) t0 Q (fun r109 Q109 => (r109 = 0 → post ((0 : Int32)) Q109) ∧ (¬ r109 = 0 → (v3 = 5 → F_X8_digits ((3 : Int32)) ((3 : Int32)) Q109 (fun r123 Q123 => (r123 = 0 → post ((0 : Int32)) Q123) ∧ (¬ r123 = 0 → post ((1 : Int32)) Q123))) ∧ (¬ v3 = 5 → post ((1 : Int32)) Q109)))
set_option maxRecDepth 4000 in
theorem s_X8_actLine_b109 {l : Launch} {g : vG} {x1 : Int32} {x2 : Int32} {P Q : VP} {post : Int32 → VP → Prop}  {v3 : Int32} {t0 : Int32}    (h : F_X8_actLine_b109 x1 x2 Q post  v3 t0) : VM l g RX8 cX8_actLine 4 (some .boolean) 5 (vmI P post) 109 [(0, vR 22 0), (3, vI v3)] [vI t0, vI 2, vR 22 0] (vjn P Q) := by
  unfold F_X8_actLine_b109 at h
  refine vr_callV RX8 (s_X8_digits h) rfl (by decide) rfl rfl rfl ml_8_189 rfl yh_X8_digits rfl ⟨Nat.le_of_ble_eq_true rfl, Nat.le_of_ble_eq_true rfl⟩ (Nat.le_of_ble_eq_true rfl) ⟨Nat.zero_le _, Nat.zero_le _⟩ dX8_actLine_109 (kmi fun r109 Q109 h => ?_)
  refine vr_ifeq 133 dX8_actLine_112 (by decide) (fun c112 => ?_) (fun c112 => ?_)
  · have h := h.1 c112
    refine vr_iconst 0 dX8_actLine_133 (by decide) ?_
    exact vr_zret rfl (Or.inl rfl) ⟨_, _, rfl, rfl, h⟩ dX8_actLine_134
  · have h := h.2 c112
    refine vr_iload_n 3 1 dX8_actLine_115 rfl rfl ?_
    refine vr_iconst 5 dX8_actLine_116 (by decide) ?_
    refine vr_icmpne 129 dX8_actLine_117 (by decide) (fun c117 => ?_) (fun c117 => ?_)
    · have h := h.1 c117
      refine vr_aload_n 0 0 dX8_actLine_120 rfl rfl ?_
      refine vr_iconst 3 dX8_actLine_121 (by decide) ?_
      refine vr_iconst 3 dX8_actLine_122 (by decide) ?_
      refine vr_callV RX8 (s_X8_digits h) rfl (by decide) rfl rfl rfl ml_8_189 rfl yh_X8_digits rfl ⟨Nat.le_of_ble_eq_true rfl, Nat.le_of_ble_eq_true rfl⟩ (Nat.le_of_ble_eq_true rfl) ⟨Nat.zero_le _, Nat.zero_le _⟩ dX8_actLine_123 (kmi fun r123 Q123 h => ?_)
      refine vr_ifeq 133 dX8_actLine_126 (by decide) (fun c126 => ?_) (fun c126 => ?_)
      · have h := h.1 c126
        refine vr_iconst 0 dX8_actLine_133 (by decide) ?_
        exact vr_zret rfl (Or.inl rfl) ⟨_, _, rfl, rfl, h⟩ dX8_actLine_134
      · have h := h.2 c126
        refine vr_iconst 1 dX8_actLine_129 (by decide) ?_
        refine vr_goto 134 dX8_actLine_130 (by decide) ?_
        exact vr_zret rfl (Or.inr rfl) ⟨_, _, rfl, rfl, h⟩ dX8_actLine_134
    · have h := h.2 c117
      refine vr_iconst 1 dX8_actLine_129 (by decide) ?_
      refine vr_goto 134 dX8_actLine_130 (by decide) ?_
      exact vr_zret rfl (Or.inr rfl) ⟨_, _, rfl, rfl, h⟩ dX8_actLine_134
def F_X8_actLine_b29 (x1 : Int32) (x2 : Int32) (Q : VP) (post : Int32 → VP → Prop)  (v3 : Int32) : Prop :=
  (v3 = 10 → F_X8_stops  Q (fun r36 Q36 => (r36 = 0 ∨ r36 = 1) ∧ (post r36 Q36))) ∧ (¬ v3 = 10 → ∀ Q47 : VP, Q47 = vup Q 22 0 8 ((Q 22 0 8) + x2) → ((0 ≤ 4 * (Q47 22 0 11) ∧ 4 * (Q47 22 0 11) < 480) ∧ (∀ Q62 : VP, Q62 = vup Q47 27 0 (ix (4 * (Q47 22 0 11))) 6 → ((0 ≤ (4 * (Q62 22 0 11)) + 1 ∧ (4 * (Q62 22 0 11)) + 1 < 480) ∧ (∀ Q76 : VP, Q76 = vup Q62 27 0 (ix ((4 * (Q62 22 0 11)) + 1)) v3 → ((v3 = 0 → post ((1 : Int32)) Q76) ∧ (¬ v3 = 0 → (v3 = 6 → post ((1 : Int32)) Q76) ∧ (¬ v3 = 6 → (v3 = 7 → F_X8_actLine_b109 x1 x2 Q76 post  v3 ((2 : Int32))) ∧ (¬ v3 = 7 → (v3 = 8 → F_X8_actLine_b109 x1 x2 Q76 post  v3 ((2 : Int32))) ∧ (¬ v3 = 8 → F_X8_actLine_b109 x1 x2 Q76 post  v3 ((23 : Int32))))))))))))
set_option maxRecDepth 4000 in
theorem s_X8_actLine_b29 {l : Launch} {g : vG} {x1 : Int32} {x2 : Int32} {P Q : VP} {post : Int32 → VP → Prop}  {v3 : Int32}    (h : F_X8_actLine_b29 x1 x2 Q post  v3) : VM l g RX8 cX8_actLine 4 (some .boolean) 5 (vmI P post) 29 [(0, vR 22 0), (2, vI x2), (3, vI v3)] [] (vjn P Q) := by
  unfold F_X8_actLine_b29 at h
  refine vr_iload_n 3 2 dX8_actLine_29 rfl rfl ?_
  refine vr_bipush 10 dX8_actLine_30 (by decide) ?_
  refine vr_icmpne 40 dX8_actLine_32 (by decide) (fun c32 => ?_) (fun c32 => ?_)
  · have h := h.1 c32
    refine vr_aload_n 0 0 dX8_actLine_35 rfl rfl ?_
    refine vr_callV RX8 (s_X8_stops h) rfl (by decide) rfl rfl rfl ml_8_171 rfl yh_X8_stops rfl ⟨Nat.le_of_ble_eq_true rfl, Nat.le_of_ble_eq_true rfl⟩ (Nat.le_of_ble_eq_true rfl) ⟨Nat.zero_le _, Nat.zero_le _⟩ dX8_actLine_36 (kmi fun r36 Q36 h => ?_)
    have hb := h.1
    have h := h.2
    exact vr_zret rfl hb ⟨_, _, rfl, rfl, h⟩ dX8_actLine_39
  · have h := h.2 c32
    refine vr_aload_n 0 0 dX8_actLine_40 rfl rfl ?_
    refine vr_dup dX8_actLine_41 rfl ?_
    refine vg_22_8 RX8 rfl (by decide) fl_8_168 dX8_actLine_42 ?_
    refine vr_iload_n 2 1 dX8_actLine_45 rfl rfl ?_
    refine vr_iadd dX8_actLine_46 ?_
    obtain ⟨Q47, eQ47⟩ : ∃ y : VP, y = vup Q 22 0 8 ((Q 22 0 8) + x2) := ⟨_, rfl⟩
    have h := h Q47 eQ47
    refine vp_22_8 RX8 rfl (by decide) fl_8_168 eQ47 dX8_actLine_47 ?_
    refine vr_aload_n 0 0 dX8_actLine_50 rfl rfl ?_
    refine vg_22_10 RX8 rfl (by decide) fl_8_22 dX8_actLine_51 ?_
    refine vr_iconst 4 dX8_actLine_54 (by decide) ?_
    refine vr_aload_n 0 0 dX8_actLine_55 rfl rfl ?_
    refine vg_22_11 RX8 rfl (by decide) fl_8_182 dX8_actLine_56 ?_
    refine vr_imul dX8_actLine_59 ?_
    refine vr_bipush 6 dX8_actLine_60 (by decide) ?_
    have hi := h.1
    have h := h.2
    obtain ⟨Q62, eQ62⟩ : ∃ y : VP, y = vup Q47 27 0 (ix (4 * (Q47 22 0 11))) 6 := ⟨_, rfl⟩
    have h := h Q62 eQ62
    refine vr_iastQ 480 ia_27 rfl hi eQ62 dX8_actLine_62 ?_
    refine vr_aload_n 0 0 dX8_actLine_63 rfl rfl ?_
    refine vg_22_10 RX8 rfl (by decide) fl_8_22 dX8_actLine_64 ?_
    refine vr_iconst 4 dX8_actLine_67 (by decide) ?_
    refine vr_aload_n 0 0 dX8_actLine_68 rfl rfl ?_
    refine vg_22_11 RX8 rfl (by decide) fl_8_182 dX8_actLine_69 ?_
    refine vr_imul dX8_actLine_72 ?_
    refine vr_iconst 1 dX8_actLine_73 (by decide) ?_
    refine vr_iadd dX8_actLine_74 ?_
    refine vr_iload_n 3 2 dX8_actLine_75 rfl rfl ?_
    have hi := h.1
    have h := h.2
    obtain ⟨Q76, eQ76⟩ : ∃ y : VP, y = vup Q62 27 0 (ix ((4 * (Q62 22 0 11)) + 1)) v3 := ⟨_, rfl⟩
    have h := h Q76 eQ76
    refine vr_iastQ 480 ia_27 rfl hi eQ76 dX8_actLine_76 ?_
    refine vr_iload_n 3 2 dX8_actLine_77 rfl rfl ?_
    refine vr_ifeq 87 dX8_actLine_78 (by decide) (fun c78 => ?_) (fun c78 => ?_)
    · have h := h.1 c78
      refine vr_iconst 1 dX8_actLine_87 (by decide) ?_
      exact vr_zret rfl (Or.inr rfl) ⟨_, _, rfl, rfl, h⟩ dX8_actLine_88
    · have h := h.2 c78
      refine vr_iload_n 3 2 dX8_actLine_81 rfl rfl ?_
      refine vr_bipush 6 dX8_actLine_82 (by decide) ?_
      refine vr_icmpne 89 dX8_actLine_84 (by decide) (fun c84 => ?_) (fun c84 => ?_)
      · have h := h.1 c84
        refine vr_iconst 1 dX8_actLine_87 (by decide) ?_
        exact vr_zret rfl (Or.inr rfl) ⟨_, _, rfl, rfl, h⟩ dX8_actLine_88
      · have h := h.2 c84
        refine vr_aload_n 0 0 dX8_actLine_89 rfl rfl ?_
        refine vr_iconst 2 dX8_actLine_90 (by decide) ?_
        refine vr_iload_n 3 2 dX8_actLine_91 rfl rfl ?_
        refine vr_bipush 7 dX8_actLine_92 (by decide) ?_
        refine vr_icmpeq 103 dX8_actLine_94 (by decide) (fun c94 => ?_) (fun c94 => ?_)
        · have h := h.1 c94
          refine vr_iconst 2 dX8_actLine_103 (by decide) ?_
          refine vr_goto 109 dX8_actLine_104 (by decide) ?_
          refine vr_sub [0, 2] [(0, vR 22 0), (3, vI v3)] rfl ?_
          exact s_X8_actLine_b109   h
        · have h := h.2 c94
          refine vr_iload_n 3 2 dX8_actLine_97 rfl rfl ?_
          refine vr_bipush 8 dX8_actLine_98 (by decide) ?_
          refine vr_icmpne 107 dX8_actLine_100 (by decide) (fun c100 => ?_) (fun c100 => ?_)
          · have h := h.1 c100
            refine vr_iconst 2 dX8_actLine_103 (by decide) ?_
            refine vr_goto 109 dX8_actLine_104 (by decide) ?_
            refine vr_sub [0, 2] [(0, vR 22 0), (3, vI v3)] rfl ?_
            exact s_X8_actLine_b109   h
          · have h := h.2 c100
            refine vr_bipush 23 dX8_actLine_107 (by decide) ?_
            refine vr_sub [0, 2] [(0, vR 22 0), (3, vI v3)] rfl ?_
            exact s_X8_actLine_b109   h
def F_X8_actLine_l2 (x1 : Int32) (x2 : Int32) (Q : VP) (post : Int32 → VP → Prop)   (X : Int32 → Prop) (v3 : Int32) : Prop :=
  (v3 < 10 → (0 ≤ v3 ∧ v3 < 10) ∧ (F_X8_is x1 x2 ((ix v3)) Q (fun r17 => (r17 = 0 → X (v3 + 1)) ∧ (¬ r17 = 0 → F_X8_actLine_b29 x1 x2 Q post  v3)))) ∧ (¬ v3 < 10 → F_X8_actLine_b29 x1 x2 Q post  v3)
set_option maxRecDepth 4000 in
theorem s_X8_actLine_l2 {l : Launch} {g : vG} {x1 : Int32} {x2 : Int32} {P Q : VP} {post : Int32 → VP → Prop}    {v3 : Int32}   (h : vL1 (F_X8_actLine_l2 x1 x2 Q post  ) v3) : VM l g RX8 cX8_actLine 4 (some .boolean) 5 (vmI P post) 2 [(0, vR 22 0), (1, vI x1), (2, vI x2), (3, vI v3)] [] (vjn P Q) := by
  refine vL1_s (T := fun v3 => VM l g RX8 cX8_actLine 4 (some .boolean) 5 (vmI P post) 2 [(0, vR 22 0), (1, vI x1), (2, vI x2), (3, vI v3)] [] (vjn P Q)) ?_ h
  clear h
  intro X hX v3 h
  unfold F_X8_actLine_l2 at h
  refine vr_iload_n 3 3 dX8_actLine_2 rfl rfl ?_
  refine vr_bipush 10 dX8_actLine_3 (by decide) ?_
  refine vr_icmpge 29 dX8_actLine_5 (by decide) (fun c5 => ?_) (fun c5 => ?_)
  · have h := h.1 c5
    refine vr_aload_n 0 0 dX8_actLine_8 rfl rfl ?_
    refine vr_iload_n 1 1 dX8_actLine_9 rfl rfl ?_
    refine vr_iload_n 2 2 dX8_actLine_10 rfl rfl ?_
    refine vr_aload_n 0 0 dX8_actLine_11 rfl rfl ?_
    refine vg_22_12 RX8 rfl (by decide) fl_8_47 dX8_actLine_12 ?_
    refine vr_iload_n 3 3 dX8_actLine_15 rfl rfl ?_
    have hi := h.1
    have h := h.2
    refine vq_29 (by decide) hi dX8_actLine_16 (fun hq16 => ?_)
    refine vr_callV RX8 (s_X8_is hq16 h) rfl (by decide) rfl rfl rfl ml_8_185 rfl yh_X8_is rfl ⟨Nat.le_of_ble_eq_true rfl, Nat.le_of_ble_eq_true rfl⟩ (Nat.le_of_ble_eq_true rfl) ⟨Nat.zero_le _, Nat.zero_le _⟩ dX8_actLine_17 (ki fun r17 h => ?_)
    refine vr_ifne 29 dX8_actLine_20 (by decide) (fun c20 => ?_) (fun c20 => ?_)
    · have h := h.1 c20
      refine vr_iinc (v3 + 1) 3 [(3, vI (v3 + 1)), (0, vR 22 0), (1, vI x1), (2, vI x2)] dX8_actLine_23 rfl rfl (by decide) rfl ?_
      refine vr_goto 2 dX8_actLine_26 (by decide) ?_
      refine vr_sub [1, 2, 3, 0] [(0, vR 22 0), (1, vI x1), (2, vI x2), (3, vI (v3 + 1))] rfl ?_
      exact hX _ h
    · have h := h.2 c20
      refine vr_sub [0, 2, 3] [(0, vR 22 0), (2, vI x2), (3, vI v3)] rfl ?_
      exact s_X8_actLine_b29   h
  · have h := h.2 c5
    refine vr_sub [0, 2, 3] [(0, vR 22 0), (2, vI x2), (3, vI v3)] rfl ?_
    exact s_X8_actLine_b29   h
def F_X8_actLine (x1 : Int32) (x2 : Int32) (Q : VP) (post : Int32 → VP → Prop) : Prop :=
  vL1 (F_X8_actLine_l2 x1 x2 Q post  ) ((0 : Int32))
set_option maxRecDepth 4000 in
theorem s_X8_actLine {l : Launch} {g : vG} {x1 : Int32} {x2 : Int32} {P Q : VP} {post : Int32 → VP → Prop}  (h : F_X8_actLine x1 x2 Q post) : VC l g yX8_actLine cX8_actLine 4 (some .boolean) 5 [vR 22 0, vI x1, vI x2] (vjn P Q) (vmI P post) := by
  refine VC.of (by decide +kernel) (Nat.le_of_ble_eq_true rfl) (show VM l g RX8 cX8_actLine 4 (some .boolean) 5 (vmI P post) 0 [(0, vR 22 0), (1, vI x1), (2, vI x2)] [] (vjn P Q) from ?_)
  unfold F_X8_actLine at h
  refine vr_iconst 0 dX8_actLine_0 (by decide) ?_
  refine vr_istore_n 3 [(3, vI 0), (0, vR 22 0), (1, vI x1), (2, vI x2)] dX8_actLine_1 rfl (by decide) rfl ?_
  refine vr_sub [1, 2, 3, 0] [(0, vR 22 0), (1, vI x1), (2, vI x2), (3, vI 0)] rfl ?_
  exact s_X8_actLine_l2   h
