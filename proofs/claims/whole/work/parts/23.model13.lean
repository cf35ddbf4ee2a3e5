/-! X8_operand, X8_enters, X8_access, X8_further, X8_ways, X8_snapped, X8_stale, X8_drawn, X8_segments, X8_image, X8_back, X8_recordsAll, X8_cells, X8_count -/
theorem dX8_operand_0 : decode cX8_operand 0 = .ok (.aload_n 0, 1) := by decide +kernel
theorem dX8_operand_1 : decode cX8_operand 1 = .ok (.iload_n 1, 1) := by decide +kernel
theorem dX8_operand_2 : decode cX8_operand 2 = .ok (.invokevirtual 95, 3) := by decide +kernel
theorem dX8_operand_5 : decode cX8_operand 5 = .ok (.ifCond .eq 37, 3) := by decide +kernel
theorem dX8_operand_8 : decode cX8_operand 8 = .ok (.aload_n 0, 1) := by decide +kernel
theorem dX8_operand_9 : decode cX8_operand 9 = .ok (.iload_n 1, 1) := by decide +kernel
theorem dX8_operand_10 : decode cX8_operand 10 = .ok (.iload_n 2, 1) := by decide +kernel
theorem dX8_operand_11 : decode cX8_operand 11 = .ok (.invokevirtual 120, 3) := by decide +kernel
theorem dX8_operand_14 : decode cX8_operand 14 = .ok (.ifCond .eq 28, 3) := by decide +kernel
theorem dX8_operand_17 : decode cX8_operand 17 = .ok (.iload_n 3, 1) := by decide +kernel
theorem dX8_operand_18 : decode cX8_operand 18 = .ok (.i2l, 1) := by decide +kernel
theorem dX8_operand_19 : decode cX8_operand 19 = .ok (.lconst 0, 1) := by decide +kernel
theorem dX8_operand_20 : decode cX8_operand 20 = .ok (.ldc2_w 103, 3) := by decide +kernel
theorem dX8_operand_23 : decode cX8_operand 23 = .ok (.invokestatic 54, 3) := by decide +kernel
theorem dX8_operand_26 : decode cX8_operand 26 = .ok (.ifCond .eq 16, 3) := by decide +kernel
theorem dX8_operand_29 : decode cX8_operand 29 = .ok (.iload 4, 2) := by decide +kernel
theorem dX8_operand_31 : decode cX8_operand 31 = .ok (.i2l, 1) := by decide +kernel
theorem dX8_operand_32 : decode cX8_operand 32 = .ok (.lconst 0, 1) := by decide +kernel
theorem dX8_operand_33 : decode cX8_operand 33 = .ok (.ldc2_w 140, 3) := by decide +kernel
theorem dX8_operand_36 : decode cX8_operand 36 = .ok (.invokestatic 54, 3) := by decide +kernel
theorem dX8_operand_39 : decode cX8_operand 39 = .ok (.ifCond .ne 5, 3) := by decide +kernel
theorem dX8_operand_42 : decode cX8_operand 42 = .ok (.iconst (-1), 1) := by decide +kernel
theorem dX8_operand_43 : decode cX8_operand 43 = .ok (.ireturn, 1) := by decide +kernel
theorem dX8_operand_44 : decode cX8_operand 44 = .ok (.aload_n 0, 1) := by decide +kernel
theorem dX8_operand_45 : decode cX8_operand 45 = .ok (.getfield 9, 3) := by decide +kernel
theorem dX8_operand_48 : decode cX8_operand 48 = .ok (.aload_n 0, 1) := by decide +kernel
theorem dX8_operand_49 : decode cX8_operand 49 = .ok (.getfield 13, 3) := by decide +kernel
theorem dX8_operand_52 : decode cX8_operand 52 = .ok (.invokestatic 105, 3) := by decide +kernel
theorem dX8_operand_55 : decode cX8_operand 55 = .ok (.aload_n 0, 1) := by decide +kernel
theorem dX8_operand_56 : decode cX8_operand 56 = .ok (.aload_n 0, 1) := by decide +kernel
theorem dX8_operand_57 : decode cX8_operand 57 = .ok (.getfield 13, 3) := by decide +kernel
theorem dX8_operand_60 : decode cX8_operand 60 = .ok (.iload_n 1, 1) := by decide +kernel
theorem dX8_operand_61 : decode cX8_operand 61 = .ok (.iload_n 2, 1) := by decide +kernel
theorem dX8_operand_62 : decode cX8_operand 62 = .ok (.iload_n 3, 1) := by decide +kernel
theorem dX8_operand_63 : decode cX8_operand 63 = .ok (.invokevirtual 244, 3) := by decide +kernel
theorem dX8_operand_66 : decode cX8_operand 66 = .ok (.istore 5, 2) := by decide +kernel
theorem dX8_operand_68 : decode cX8_operand 68 = .ok (.iload 5, 2) := by decide +kernel
theorem dX8_operand_70 : decode cX8_operand 70 = .ok (.ifCond .eq 8, 3) := by decide +kernel
theorem dX8_operand_73 : decode cX8_operand 73 = .ok (.iload 5, 2) := by decide +kernel
theorem dX8_operand_75 : decode cX8_operand 75 = .ok (.goto 32, 3) := by decide +kernel
theorem dX8_operand_78 : decode cX8_operand 78 = .ok (.iload 4, 2) := by decide +kernel
theorem dX8_operand_80 : decode cX8_operand 80 = .ok (.ifCond .ne 10, 3) := by decide +kernel
theorem dX8_operand_83 : decode cX8_operand 83 = .ok (.aload_n 0, 1) := by decide +kernel
theorem dX8_operand_84 : decode cX8_operand 84 = .ok (.getfield 217, 3) := by decide +kernel
theorem dX8_operand_87 : decode cX8_operand 87 = .ok (.goto 20, 3) := by decide +kernel
theorem dX8_operand_90 : decode cX8_operand 90 = .ok (.iload 4, 2) := by decide +kernel
theorem dX8_operand_92 : decode cX8_operand 92 = .ok (.iconst 1, 1) := by decide +kernel
theorem dX8_operand_93 : decode cX8_operand 93 = .ok (.if_icmp .ne 10, 3) := by decide +kernel
theorem dX8_operand_96 : decode cX8_operand 96 = .ok (.aload_n 0, 1) := by decide +kernel
theorem dX8_operand_97 : decode cX8_operand 97 = .ok (.getfield 220, 3) := by decide +kernel
theorem dX8_operand_100 : decode cX8_operand 100 = .ok (.goto 7, 3) := by decide +kernel
theorem dX8_operand_103 : decode cX8_operand 103 = .ok (.aload_n 0, 1) := by decide +kernel
theorem dX8_operand_104 : decode cX8_operand 104 = .ok (.getfield 223, 3) := by decide +kernel
theorem dX8_operand_107 : decode cX8_operand 107 = .ok (.ireturn, 1) := by decide +kernel
def F_X8_operand (x1 : Int32) (x2 : Int32) (x3 : Int32) (x4 : Int32) (Q : VP) (post : Int32 → VP → Prop) : Prop :=
  F_X8_isSegment x1 Q (fun r2 => (r2 = 0 → post (((-1) : Int32)) Q) ∧ (¬ r2 = 0 → F_X8_isWord x1 x2 Q (fun r11 => (r11 = 0 → post (((-1) : Int32)) Q) ∧ (¬ r11 = 0 → F_X8_in (Int32.toInt64 x3) 0 7 Q (fun r23 => (r23 = 0 → post (((-1) : Int32)) Q) ∧ (¬ r23 = 0 → F_X8_in (Int32.toInt64 x4) 0 2 Q (fun r36 => (r36 = 0 → post (((-1) : Int32)) Q) ∧ (¬ r36 = 0 → F_X8_copies 23 24 Q (fun Q52 => F_X8_comes 24 x1 x2 x3 Q52 (fun r63 Q63 => (r63 = 0 → (x4 = 0 → post (Q63 22 0 13) Q63) ∧ (¬ x4 = 0 → (x4 = 1 → post (Q63 22 0 14) Q63) ∧ (¬ x4 = 1 → post (Q63 22 0 15) Q63))) ∧ (¬ r63 = 0 → post r63 Q63)))))))))))
set_option maxRecDepth 4000 in
theorem s_X8_operand {l : Launch} {g : vG} {x1 : Int32} {x2 : Int32} {x3 : Int32} {x4 : Int32} {P Q : VP} {post : Int32 → VP → Prop}  (h : F_X8_operand x1 x2 x3 x4 Q post) : VC l g yX8_operand cX8_operand 6 (some .int) 4 [vR 22 0, vI x1, vI x2, vI x3, vI x4] (vjn P Q) (vmI P post) := by
  refine VC.of (by decide +kernel) (Nat.le_of_ble_eq_true rfl) (show VM l g RX8 cX8_operand 6 (some .int) 4 (vmI P post) 0 [(0, vR 22 0), (1, vI x1), (2, vI x2), (3, vI x3), (4, vI x4)] [] (vjn P Q) from ?_)
  unfold F_X8_operand at h
  refine vr_aload_n 0 0 dX8_operand_0 rfl rfl ?_
  refine vr_iload_n 1 1 dX8_operand_1 rfl rfl ?_
  refine vr_callV RX8 (s_X8_isSegment h) rfl (by decide) rfl rfl rfl ml_8_95 rfl yh_X8_isSegment rfl ⟨Nat.le_of_ble_eq_true rfl, Nat.le_of_ble_eq_true rfl⟩ (Nat.le_of_ble_eq_true rfl) ⟨Nat.zero_le _, Nat.zero_le _⟩ dX8_operand_2 (ki fun r2 h => ?_)
  refine vr_ifeq 42 dX8_operand_5 (by decide) (fun c5 => ?_) (fun c5 => ?_)
  · have h := h.1 c5
    refine vr_iconst (-1) dX8_operand_42 (by decide) ?_
    exact vr_iret rfl ⟨_, _, rfl, rfl, h⟩ dX8_operand_43
  · have h := h.2 c5
    refine vr_aload_n 0 0 dX8_operand_8 rfl rfl ?_
    refine vr_iload_n 1 1 dX8_operand_9 rfl rfl ?_
    refine vr_iload_n 2 2 dX8_operand_10 rfl rfl ?_
    refine vr_callV RX8 (s_X8_isWord h) rfl (by decide) rfl rfl rfl ml_8_120 rfl yh_X8_isWord rfl ⟨Nat.le_of_ble_eq_true rfl, Nat.le_of_ble_eq_true rfl⟩ (Nat.le_of_ble_eq_true rfl) ⟨Nat.zero_le _, Nat.zero_le _⟩ dX8_operand_11 (ki fun r11 h => ?_)
    refine vr_ifeq 42 dX8_operand_14 (by decide) (fun c14 => ?_) (fun c14 => ?_)
    · have h := h.1 c14
      refine vr_iconst (-1) dX8_operand_42 (by decide) ?_
      exact vr_iret rfl ⟨_, _, rfl, rfl, h⟩ dX8_operand_43
    · have h := h.2 c14
      refine vr_iload_n 3 3 dX8_operand_17 rfl rfl ?_
      refine vr_i2l dX8_operand_18 ?_
      refine vr_lconst 0 dX8_operand_19 (by decide) ?_
      refine vr_ldc2 7 ct_8_103 dX8_operand_20 ?_
      refine vr_callS RX8 (s_X8_in h) rfl rfl ml_8_54 rfl yh_X8_in rfl ⟨Nat.le_of_ble_eq_true rfl, Nat.le_of_ble_eq_true rfl⟩ (Nat.le_of_ble_eq_true rfl) ⟨Nat.zero_le _, Nat.zero_le _⟩ dX8_operand_23 (ki fun r23 h => ?_)
      refine vr_ifeq 42 dX8_operand_26 (by decide) (fun c26 => ?_) (fun c26 => ?_)
      · have h := h.1 c26
        refine vr_iconst (-1) dX8_operand_42 (by decide) ?_
        exact vr_iret rfl ⟨_, _, rfl, rfl, h⟩ dX8_operand_43
      · have h := h.2 c26
        refine vr_iload 4 dX8_operand_29 rfl ?_
        refine vr_i2l dX8_operand_31 ?_
        refine vr_lconst 0 dX8_operand_32 (by decide) ?_
        refine vr_ldc2 2 ct_8_140 dX8_operand_33 ?_
        refine vr_callS RX8 (s_X8_in h) rfl rfl ml_8_54 rfl yh_X8_in rfl ⟨Nat.le_of_ble_eq_true rfl, Nat.le_of_ble_eq_true rfl⟩ (Nat.le_of_ble_eq_true rfl) ⟨Nat.zero_le _, Nat.zero_le _⟩ dX8_operand_36 (ki fun r36 h => ?_)
        refine vr_ifne 44 dX8_operand_39 (by decide) (fun c39 => ?_) (fun c39 => ?_)
        · have h := h.1 c39
          refine vr_iconst (-1) dX8_operand_42 (by decide) ?_
          exact vr_iret rfl ⟨_, _, rfl, rfl, h⟩ dX8_operand_43
        · have h := h.2 c39
          refine vr_aload_n 0 0 dX8_operand_44 rfl rfl ?_
          refine vg_22_0 RX8 rfl (by decide) fl_8_9 dX8_operand_45 ?_
          refine vr_aload_n 0 0 dX8_operand_48 rfl rfl ?_
          refine vg_22_1 RX8 rfl (by decide) fl_8_13 dX8_operand_49 ?_
          refine vr_callS RX8 (s_X8_copies ia_23 ia_24 h) rfl rfl ml_8_105 rfl yh_X8_copies rfl ⟨Nat.le_of_ble_eq_true rfl, Nat.le_of_ble_eq_true rfl⟩ (Nat.le_of_ble_eq_true rfl) ⟨Nat.zero_le _, Nat.zero_le _⟩ dX8_operand_52 (kmv fun Q52 h => ?_)
          refine vr_aload_n 0 0 dX8_operand_55 rfl rfl ?_
          refine vr_aload_n 0 0 dX8_operand_56 rfl rfl ?_
          refine vg_22_1 RX8 rfl (by decide) fl_8_13 dX8_operand_57 ?_
          refine vr_iload_n 1 1 dX8_operand_60 rfl rfl ?_
          refine vr_iload_n 2 2 dX8_operand_61 rfl rfl ?_
          refine vr_iload_n 3 3 dX8_operand_62 rfl rfl ?_
          refine vr_callV RX8 (s_X8_comes ia_24 h) rfl (by decide) rfl rfl rfl ml_8_244 rfl yh_X8_comes rfl ⟨Nat.le_of_ble_eq_true rfl, Nat.le_of_ble_eq_true rfl⟩ (Nat.le_of_ble_eq_true rfl) ⟨Nat.zero_le _, Nat.zero_le _⟩ dX8_operand_63 (kmi fun r63 Q63 h => ?_)
          refine vr_istore [(5, vI r63), (0, vR 22 0), (1, vI x1), (2, vI x2), (3, vI x3), (4, vI x4)] dX8_operand_66 (by decide) rfl ?_
          refine vr_iload 0 dX8_operand_68 rfl ?_
          refine vr_ifeq 78 dX8_operand_70 (by decide) (fun c70 => ?_) (fun c70 => ?_)
          · have h := h.1 c70
            refine vr_iload 5 dX8_operand_78 rfl ?_
            refine vr_ifne 90 dX8_operand_80 (by decide) (fun c80 => ?_) (fun c80 => ?_)
            · have h := h.1 c80
              refine vr_aload_n 0 1 dX8_operand_83 rfl rfl ?_
              refine vg_22_13 RX8 rfl (by decide) fl_8_217 dX8_operand_84 ?_
              refine vr_goto 107 dX8_operand_87 (by decide) ?_
              exact vr_iret rfl ⟨_, _, rfl, rfl, h⟩ dX8_operand_107
            · have h := h.2 c80
              refine vr_iload 5 dX8_operand_90 rfl ?_
              refine vr_iconst 1 dX8_operand_92 (by decide) ?_
              refine vr_icmpne 103 dX8_operand_93 (by decide) (fun c93 => ?_) (fun c93 => ?_)
              · have h := h.1 c93
                refine vr_aload_n 0 1 dX8_operand_96 rfl rfl ?_
                refine vg_22_14 RX8 rfl (by decide) fl_8_220 dX8_operand_97 ?_
                refine vr_goto 107 dX8_operand_100 (by decide) ?_
                exact vr_iret rfl ⟨_, _, rfl, rfl, h⟩ dX8_operand_107
              · have h := h.2 c93
                refine vr_aload_n 0 1 dX8_operand_103 rfl rfl ?_
                refine vg_22_15 RX8 rfl (by decide) fl_8_223 dX8_operand_104 ?_
                exact vr_iret rfl ⟨_, _, rfl, rfl, h⟩ dX8_operand_107
          · have h := h.2 c70
            refine vr_iload 0 dX8_operand_73 rfl ?_
            refine vr_goto 107 dX8_operand_75 (by decide) ?_
            exact vr_iret rfl ⟨_, _, rfl, rfl, h⟩ dX8_operand_107
theorem dX8_enters_0 : decode cX8_enters 0 = .ok (.iload_n 1, 1) := by decide +kernel
theorem dX8_enters_1 : decode cX8_enters 1 = .ok (.i2l, 1) := by decide +kernel
theorem dX8_enters_2 : decode cX8_enters 2 = .ok (.lconst 0, 1) := by decide +kernel
theorem dX8_enters_3 : decode cX8_enters 3 = .ok (.ldc2_w 58, 3) := by decide +kernel
theorem dX8_enters_6 : decode cX8_enters 6 = .ok (.invokestatic 54, 3) := by decide +kernel
theorem dX8_enters_9 : decode cX8_enters 9 = .ok (.ifCond .eq 41, 3) := by decide +kernel
theorem dX8_enters_12 : decode cX8_enters 12 = .ok (.iload_n 2, 1) := by decide +kernel
theorem dX8_enters_13 : decode cX8_enters 13 = .ok (.i2l, 1) := by decide +kernel
theorem dX8_enters_14 : decode cX8_enters 14 = .ok (.lconst 0, 1) := by decide +kernel
theorem dX8_enters_15 : decode cX8_enters 15 = .ok (.ldc2_w 130, 3) := by decide +kernel
theorem dX8_enters_18 : decode cX8_enters 18 = .ok (.invokestatic 54, 3) := by decide +kernel
theorem dX8_enters_21 : decode cX8_enters 21 = .ok (.ifCond .eq 29, 3) := by decide +kernel
theorem dX8_enters_24 : decode cX8_enters 24 = .ok (.iload_n 3, 1) := by decide +kernel
theorem dX8_enters_25 : decode cX8_enters 25 = .ok (.i2l, 1) := by decide +kernel
theorem dX8_enters_26 : decode cX8_enters 26 = .ok (.lconst 0, 1) := by decide +kernel
theorem dX8_enters_27 : decode cX8_enters 27 = .ok (.ldc2_w 103, 3) := by decide +kernel
theorem dX8_enters_30 : decode cX8_enters 30 = .ok (.invokestatic 54, 3) := by decide +kernel
theorem dX8_enters_33 : decode cX8_enters 33 = .ok (.ifCond .eq 17, 3) := by decide +kernel
theorem dX8_enters_36 : decode cX8_enters 36 = .ok (.aload_n 0, 1) := by decide +kernel
theorem dX8_enters_37 : decode cX8_enters 37 = .ok (.aload_n 0, 1) := by decide +kernel
theorem dX8_enters_38 : decode cX8_enters 38 = .ok (.getfield 9, 3) := by decide +kernel
theorem dX8_enters_41 : decode cX8_enters 41 = .ok (.iload_n 1, 1) := by decide +kernel
theorem dX8_enters_42 : decode cX8_enters 42 = .ok (.iload_n 2, 1) := by decide +kernel
theorem dX8_enters_43 : decode cX8_enters 43 = .ok (.iload_n 3, 1) := by decide +kernel
theorem dX8_enters_44 : decode cX8_enters 44 = .ok (.invokevirtual 247, 3) := by decide +kernel
theorem dX8_enters_47 : decode cX8_enters 47 = .ok (.goto 4, 3) := by decide +kernel
theorem dX8_enters_50 : decode cX8_enters 50 = .ok (.iconst (-1), 1) := by decide +kernel
theorem dX8_enters_51 : decode cX8_enters 51 = .ok (.ireturn, 1) := by decide +kernel
def F_X8_enters (x1 : Int32) (x2 : Int32) (x3 : Int32) (Q : VP) (post : Int32 → Prop) : Prop :=
  F_X8_in (Int32.toInt64 x1) 0 15 Q (fun r6 => (r6 = 0 → post (((-1) : Int32))) ∧ (¬ r6 = 0 → F_X8_in (Int32.toInt64 x2) 0 23 Q (fun r18 => (r18 = 0 → post (((-1) : Int32))) ∧ (¬ r18 = 0 → F_X8_in (Int32.toInt64 x3) 0 7 Q (fun r30 => (r30 = 0 → post (((-1) : Int32))) ∧ (¬ r30 = 0 → F_X8_entered 23 x1 x2 x3 Q (fun r44 => post r44)))))))
set_option maxRecDepth 4000 in
theorem s_X8_enters {l : Launch} {g : vG} {x1 : Int32} {x2 : Int32} {x3 : Int32} {P Q : VP} {post : Int32 → Prop}  (h : F_X8_enters x1 x2 x3 Q post) : VC l g yX8_enters cX8_enters 4 (some .int) 4 [vR 22 0, vI x1, vI x2, vI x3] (vjn P Q) (vpI (vjn P Q) post) := by
  refine VC.of (by decide +kernel) (Nat.le_of_ble_eq_true rfl) (show VM l g RX8 cX8_enters 4 (some .int) 4 (vpI (vjn P Q) post) 0 [(0, vR 22 0), (1, vI x1), (2, vI x2), (3, vI x3)] [] (vjn P Q) from ?_)
  unfold F_X8_enters at h
  refine vr_iload_n 1 1 dX8_enters_0 rfl rfl ?_
  refine vr_i2l dX8_enters_1 ?_
  refine vr_lconst 0 dX8_enters_2 (by decide) ?_
  refine vr_ldc2 15 ct_8_58 dX8_enters_3 ?_
  refine vr_callS RX8 (s_X8_in h) rfl rfl ml_8_54 rfl yh_X8_in rfl ⟨Nat.le_of_ble_eq_true rfl, Nat.le_of_ble_eq_true rfl⟩ (Nat.le_of_ble_eq_true rfl) ⟨Nat.zero_le _, Nat.zero_le _⟩ dX8_enters_6 (ki fun r6 h => ?_)
  refine vr_ifeq 50 dX8_enters_9 (by decide) (fun c9 => ?_) (fun c9 => ?_)
  · have h := h.1 c9
    refine vr_iconst (-1) dX8_enters_50 (by decide) ?_
    exact vr_iret rfl ⟨rfl, _, rfl, h⟩ dX8_enters_51
  · have h := h.2 c9
    refine vr_iload_n 2 2 dX8_enters_12 rfl rfl ?_
    refine vr_i2l dX8_enters_13 ?_
    refine vr_lconst 0 dX8_enters_14 (by decide) ?_
    refine vr_ldc2 23 ct_8_130 dX8_enters_15 ?_
    refine vr_callS RX8 (s_X8_in h) rfl rfl ml_8_54 rfl yh_X8_in rfl ⟨Nat.le_of_ble_eq_true rfl, Nat.le_of_ble_eq_true rfl⟩ (Nat.le_of_ble_eq_true rfl) ⟨Nat.zero_le _, Nat.zero_le _⟩ dX8_enters_18 (ki fun r18 h => ?_)
    refine vr_ifeq 50 dX8_enters_21 (by decide) (fun c21 => ?_) (fun c21 => ?_)
    · have h := h.1 c21
      refine vr_iconst (-1) dX8_enters_50 (by decide) ?_
      exact vr_iret rfl ⟨rfl, _, rfl, h⟩ dX8_enters_51
    · have h := h.2 c21
      refine vr_iload_n 3 3 dX8_enters_24 rfl rfl ?_
      refine vr_i2l dX8_enters_25 ?_
      refine vr_lconst 0 dX8_enters_26 (by decide) ?_
      refine vr_ldc2 7 ct_8_103 dX8_enters_27 ?_
      refine vr_callS RX8 (s_X8_in h) rfl rfl ml_8_54 rfl yh_X8_in rfl ⟨Nat.le_of_ble_eq_true rfl, Nat.le_of_ble_eq_true rfl⟩ (Nat.le_of_ble_eq_true rfl) ⟨Nat.zero_le _, Nat.zero_le _⟩ dX8_enters_30 (ki fun r30 h => ?_)
      refine vr_ifeq 50 dX8_enters_33 (by decide) (fun c33 => ?_) (fun c33 => ?_)
      · have h := h.1 c33
        refine vr_iconst (-1) dX8_enters_50 (by decide) ?_
        exact vr_iret rfl ⟨rfl, _, rfl, h⟩ dX8_enters_51
      · have h := h.2 c33
        refine vr_aload_n 0 0 dX8_enters_36 rfl rfl ?_
        refine vr_aload_n 0 0 dX8_enters_37 rfl rfl ?_
        refine vg_22_0 RX8 rfl (by decide) fl_8_9 dX8_enters_38 ?_
        refine vr_iload_n 1 1 dX8_enters_41 rfl rfl ?_
        refine vr_iload_n 2 2 dX8_enters_42 rfl rfl ?_
        refine vr_iload_n 3 3 dX8_enters_43 rfl rfl ?_
        refine vr_callV RX8 (s_X8_entered ia_23 h) rfl (by decide) rfl rfl rfl ml_8_247 rfl yh_X8_entered rfl ⟨Nat.le_of_ble_eq_true rfl, Nat.le_of_ble_eq_true rfl⟩ (Nat.le_of_ble_eq_true rfl) ⟨Nat.zero_le _, Nat.zero_le _⟩ dX8_enters_44 (ki fun r44 h => ?_)
        refine vr_goto 51 dX8_enters_47 (by decide) ?_
        exact vr_iret rfl ⟨rfl, _, rfl, h⟩ dX8_enters_51
theorem dX8_access_0 : decode cX8_access 0 = .ok (.aload_n 0, 1) := by decide +kernel
theorem dX8_access_1 : decode cX8_access 1 = .ok (.iload_n 1, 1) := by decide +kernel
theorem dX8_access_2 : decode cX8_access 2 = .ok (.invokevirtual 95, 3) := by decide +kernel
theorem dX8_access_5 : decode cX8_access 5 = .ok (.ifCond .eq 15, 3) := by decide +kernel
theorem dX8_access_8 : decode cX8_access 8 = .ok (.iload_n 2, 1) := by decide +kernel
theorem dX8_access_9 : decode cX8_access 9 = .ok (.i2l, 1) := by decide +kernel
theorem dX8_access_10 : decode cX8_access 10 = .ok (.lconst 0, 1) := by decide +kernel
theorem dX8_access_11 : decode cX8_access 11 = .ok (.ldc2_w 103, 3) := by decide +kernel
theorem dX8_access_14 : decode cX8_access 14 = .ok (.invokestatic 54, 3) := by decide +kernel
theorem dX8_access_17 : decode cX8_access 17 = .ok (.ifCond .ne 5, 3) := by decide +kernel
theorem dX8_access_20 : decode cX8_access 20 = .ok (.iconst (-1), 1) := by decide +kernel
theorem dX8_access_21 : decode cX8_access 21 = .ok (.ireturn, 1) := by decide +kernel
theorem dX8_access_22 : decode cX8_access 22 = .ok (.aload_n 0, 1) := by decide +kernel
theorem dX8_access_23 : decode cX8_access 23 = .ok (.getfield 9, 3) := by decide +kernel
theorem dX8_access_26 : decode cX8_access 26 = .ok (.iload_n 1, 1) := by decide +kernel
theorem dX8_access_27 : decode cX8_access 27 = .ok (.iload_n 2, 1) := by decide +kernel
theorem dX8_access_28 : decode cX8_access 28 = .ok (.invokestatic 231, 3) := by decide +kernel
theorem dX8_access_31 : decode cX8_access 31 = .ok (.ifCond .eq 7, 3) := by decide +kernel
theorem dX8_access_34 : decode cX8_access 34 = .ok (.iconst 1, 1) := by decide +kernel
theorem dX8_access_35 : decode cX8_access 35 = .ok (.goto 4, 3) := by decide +kernel
theorem dX8_access_38 : decode cX8_access 38 = .ok (.iconst 0, 1) := by decide +kernel
theorem dX8_access_39 : decode cX8_access 39 = .ok (.aload_n 0, 1) := by decide +kernel
theorem dX8_access_40 : decode cX8_access 40 = .ok (.getfield 9, 3) := by decide +kernel
theorem dX8_access_43 : decode cX8_access 43 = .ok (.iload_n 1, 1) := by decide +kernel
theorem dX8_access_44 : decode cX8_access 44 = .ok (.iload_n 2, 1) := by decide +kernel
theorem dX8_access_45 : decode cX8_access 45 = .ok (.invokestatic 241, 3) := by decide +kernel
theorem dX8_access_48 : decode cX8_access 48 = .ok (.ifCond .eq 7, 3) := by decide +kernel
theorem dX8_access_51 : decode cX8_access 51 = .ok (.iconst 2, 1) := by decide +kernel
theorem dX8_access_52 : decode cX8_access 52 = .ok (.goto 4, 3) := by decide +kernel
theorem dX8_access_55 : decode cX8_access 55 = .ok (.iconst 0, 1) := by decide +kernel
theorem dX8_access_56 : decode cX8_access 56 = .ok (.iadd, 1) := by decide +kernel
theorem dX8_access_57 : decode cX8_access 57 = .ok (.aload_n 0, 1) := by decide +kernel
theorem dX8_access_58 : decode cX8_access 58 = .ok (.getfield 9, 3) := by decide +kernel
theorem dX8_access_61 : decode cX8_access 61 = .ok (.iload_n 1, 1) := by decide +kernel
theorem dX8_access_62 : decode cX8_access 62 = .ok (.iload_n 2, 1) := by decide +kernel
theorem dX8_access_63 : decode cX8_access 63 = .ok (.invokestatic 259, 3) := by decide +kernel
theorem dX8_access_66 : decode cX8_access 66 = .ok (.ifCond .eq 7, 3) := by decide +kernel
theorem dX8_access_69 : decode cX8_access 69 = .ok (.iconst 4, 1) := by decide +kernel
theorem dX8_access_70 : decode cX8_access 70 = .ok (.goto 4, 3) := by decide +kernel
theorem dX8_access_73 : decode cX8_access 73 = .ok (.iconst 0, 1) := by decide +kernel
theorem dX8_access_74 : decode cX8_access 74 = .ok (.iadd, 1) := by decide +kernel
theorem dX8_access_75 : decode cX8_access 75 = .ok (.ireturn, 1) := by decide +kernel
def F_X8_access_b56 (x1 : Int32) (x2 : Int32) (Q : VP) (post : Int32 → Prop)  (t0 : Int32) (t1 : Int32) : Prop :=
  F_X8_mayGo 23 x1 x2 Q (fun r63 => (r63 = 0 → post ((t1 + t0) + 0)) ∧ (¬ r63 = 0 → post ((t1 + t0) + 4)))
set_option maxRecDepth 4000 in
theorem s_X8_access_b56 {l : Launch} {g : vG} {x1 : Int32} {x2 : Int32} {P Q : VP} {post : Int32 → Prop}  {t0 : Int32} {t1 : Int32}    (h : F_X8_access_b56 x1 x2 Q post  t0 t1) : VM l g RX8 cX8_access 3 (some .int) 3 (vpI (vjn P Q) post) 56 [(0, vR 22 0), (1, vI x1), (2, vI x2)] [vI t0, vI t1] (vjn P Q) := by
  unfold F_X8_access_b56 at h
  refine vr_iadd dX8_access_56 ?_
  refine vr_aload_n 0 0 dX8_access_57 rfl rfl ?_
  refine vg_22_0 RX8 rfl (by decide) fl_8_9 dX8_access_58 ?_
  refine vr_iload_n 1 1 dX8_access_61 rfl rfl ?_
  refine vr_iload_n 2 2 dX8_access_62 rfl rfl ?_
  refine vr_callS RX8 (s_X8_mayGo ia_23 h) rfl rfl ml_8_259 rfl yh_X8_mayGo rfl ⟨Nat.le_of_ble_eq_true rfl, Nat.le_of_ble_eq_true rfl⟩ (Nat.le_of_ble_eq_true rfl) ⟨Nat.zero_le _, Nat.zero_le _⟩ dX8_access_63 (ki fun r63 h => ?_)
  refine vr_ifeq 73 dX8_access_66 (by decide) (fun c66 => ?_) (fun c66 => ?_)
  · have h := h.1 c66
    refine vr_iconst 0 dX8_access_73 (by decide) ?_
    refine vr_iadd dX8_access_74 ?_
    exact vr_iret rfl ⟨rfl, _, rfl, h⟩ dX8_access_75
  · have h := h.2 c66
    refine vr_iconst 4 dX8_access_69 (by decide) ?_
    refine vr_goto 74 dX8_access_70 (by decide) ?_
    refine vr_iadd dX8_access_74 ?_
    exact vr_iret rfl ⟨rfl, _, rfl, h⟩ dX8_access_75
def F_X8_access_b39 (x1 : Int32) (x2 : Int32) (Q : VP) (post : Int32 → Prop)  (t0 : Int32) : Prop :=
  F_X8_mayWrite 23 x1 x2 Q (fun r45 => (r45 = 0 → F_X8_access_b56 x1 x2 Q post  ((0 : Int32)) t0) ∧ (¬ r45 = 0 → F_X8_access_b56 x1 x2 Q post  ((2 : Int32)) t0))
set_option maxRecDepth 4000 in
theorem s_X8_access_b39 {l : Launch} {g : vG} {x1 : Int32} {x2 : Int32} {P Q : VP} {post : Int32 → Prop}  {t0 : Int32}    (h : F_X8_access_b39 x1 x2 Q post  t0) : VM l g RX8 cX8_access 3 (some .int) 3 (vpI (vjn P Q) post) 39 [(0, vR 22 0), (1, vI x1), (2, vI x2)] [vI t0] (vjn P Q) := by
  unfold F_X8_access_b39 at h
  refine vr_aload_n 0 0 dX8_access_39 rfl rfl ?_
  refine vg_22_0 RX8 rfl (by decide) fl_8_9 dX8_access_40 ?_
  refine vr_iload_n 1 1 dX8_access_43 rfl rfl ?_
  refine vr_iload_n 2 2 dX8_access_44 rfl rfl ?_
  refine vr_callS RX8 (s_X8_mayWrite ia_23 h) rfl rfl ml_8_241 rfl yh_X8_mayWrite rfl ⟨Nat.le_of_ble_eq_true rfl, Nat.le_of_ble_eq_true rfl⟩ (Nat.le_of_ble_eq_true rfl) ⟨Nat.zero_le _, Nat.zero_le _⟩ dX8_access_45 (ki fun r45 h => ?_)
  refine vr_ifeq 55 dX8_access_48 (by decide) (fun c48 => ?_) (fun c48 => ?_)
  · have h := h.1 c48
    refine vr_iconst 0 dX8_access_55 (by decide) ?_
    exact s_X8_access_b56   h
  · have h := h.2 c48
    refine vr_iconst 2 dX8_access_51 (by decide) ?_
    refine vr_goto 56 dX8_access_52 (by decide) ?_
    exact s_X8_access_b56   h
def F_X8_access (x1 : Int32) (x2 : Int32) (Q : VP) (post : Int32 → Prop) : Prop :=
  F_X8_isSegment x1 Q (fun r2 => (r2 = 0 → post (((-1) : Int32))) ∧ (¬ r2 = 0 → F_X8_in (Int32.toInt64 x2) 0 7 Q (fun r14 => (r14 = 0 → post (((-1) : Int32))) ∧ (¬ r14 = 0 → F_X8_mayRead 23 x1 x2 Q (fun r28 => (r28 = 0 → F_X8_access_b39 x1 x2 Q post  ((0 : Int32))) ∧ (¬ r28 = 0 → F_X8_access_b39 x1 x2 Q post  ((1 : Int32))))))))
set_option maxRecDepth 4000 in
theorem s_X8_access {l : Launch} {g : vG} {x1 : Int32} {x2 : Int32} {P Q : VP} {post : Int32 → Prop}  (h : F_X8_access x1 x2 Q post) : VC l g yX8_access cX8_access 3 (some .int) 3 [vR 22 0, vI x1, vI x2] (vjn P Q) (vpI (vjn P Q) post) := by
  refine VC.of (by decide +kernel) (Nat.le_of_ble_eq_true rfl) (show VM l g RX8 cX8_access 3 (some .int) 3 (vpI (vjn P Q) post) 0 [(0, vR 22 0), (1, vI x1), (2, vI x2)] [] (vjn P Q) from ?_)
  unfold F_X8_access at h
  refine vr_aload_n 0 0 dX8_access_0 rfl rfl ?_
  refine vr_iload_n 1 1 dX8_access_1 rfl rfl ?_
  refine vr_callV RX8 (s_X8_isSegment h) rfl (by decide) rfl rfl rfl ml_8_95 rfl yh_X8_isSegment rfl ⟨Nat.le_of_ble_eq_true rfl, Nat.le_of_ble_eq_true rfl⟩ (Nat.le_of_ble_eq_true rfl) ⟨Nat.zero_le _, Nat.zero_le _⟩ dX8_access_2 (ki fun r2 h => ?_)
  refine vr_ifeq 20 dX8_access_5 (by decide) (fun c5 => ?_) (fun c5 => ?_)
  · have h := h.1 c5
    refine vr_iconst (-1) dX8_access_20 (by decide) ?_
    exact vr_iret rfl ⟨rfl, _, rfl, h⟩ dX8_access_21
  · have h := h.2 c5
    refine vr_iload_n 2 2 dX8_access_8 rfl rfl ?_
    refine vr_i2l dX8_access_9 ?_
    refine vr_lconst 0 dX8_access_10 (by decide) ?_
    refine vr_ldc2 7 ct_8_103 dX8_access_11 ?_
    refine vr_callS RX8 (s_X8_in h) rfl rfl ml_8_54 rfl yh_X8_in rfl ⟨Nat.le_of_ble_eq_true rfl, Nat.le_of_ble_eq_true rfl⟩ (Nat.le_of_ble_eq_true rfl) ⟨Nat.zero_le _, Nat.zero_le _⟩ dX8_access_14 (ki fun r14 h => ?_)
    refine vr_ifne 22 dX8_access_17 (by decide) (fun c17 => ?_) (fun c17 => ?_)
    · have h := h.1 c17
      refine vr_iconst (-1) dX8_access_20 (by decide) ?_
      exact vr_iret rfl ⟨rfl, _, rfl, h⟩ dX8_access_21
    · have h := h.2 c17
      refine vr_aload_n 0 0 dX8_access_22 rfl rfl ?_
      refine vg_22_0 RX8 rfl (by decide) fl_8_9 dX8_access_23 ?_
      refine vr_iload_n 1 1 dX8_access_26 rfl rfl ?_
      refine vr_iload_n 2 2 dX8_access_27 rfl rfl ?_
      refine vr_callS RX8 (s_X8_mayRead ia_23 h) rfl rfl ml_8_231 rfl yh_X8_mayRead rfl ⟨Nat.le_of_ble_eq_true rfl, Nat.le_of_ble_eq_true rfl⟩ (Nat.le_of_ble_eq_true rfl) ⟨Nat.zero_le _, Nat.zero_le _⟩ dX8_access_28 (ki fun r28 h => ?_)
      refine vr_ifeq 38 dX8_access_31 (by decide) (fun c31 => ?_) (fun c31 => ?_)
      · have h := h.1 c31
        refine vr_iconst 0 dX8_access_38 (by decide) ?_
        exact s_X8_access_b39   h
      · have h := h.2 c31
        refine vr_iconst 1 dX8_access_34 (by decide) ?_
        refine vr_goto 39 dX8_access_35 (by decide) ?_
        exact s_X8_access_b39   h
theorem dX8_further_0 : decode cX8_further 0 = .ok (.iload_n 1, 1) := by decide +kernel
theorem dX8_further_1 : decode cX8_further 1 = .ok (.istore_n 2, 1) := by decide +kernel
theorem dX8_further_2 : decode cX8_further 2 = .ok (.iconst 0, 1) := by decide +kernel
theorem dX8_further_3 : decode cX8_further 3 = .ok (.istore_n 3, 1) := by decide +kernel
theorem dX8_further_4 : decode cX8_further 4 = .ok (.iload_n 3, 1) := by decide +kernel
theorem dX8_further_5 : decode cX8_further 5 = .ok (.bipush 8, 2) := by decide +kernel
theorem dX8_further_7 : decode cX8_further 7 = .ok (.if_icmp .ge 81, 3) := by decide +kernel
theorem dX8_further_10 : decode cX8_further 10 = .ok (.iconst 0, 1) := by decide +kernel
theorem dX8_further_11 : decode cX8_further 11 = .ok (.istore 4, 2) := by decide +kernel
theorem dX8_further_13 : decode cX8_further 13 = .ok (.iload 4, 2) := by decide +kernel
theorem dX8_further_15 : decode cX8_further 15 = .ok (.bipush 16, 2) := by decide +kernel
theorem dX8_further_17 : decode cX8_further 17 = .ok (.if_icmp .ge 65, 3) := by decide +kernel
theorem dX8_further_20 : decode cX8_further 20 = .ok (.iconst 0, 1) := by decide +kernel
theorem dX8_further_21 : decode cX8_further 21 = .ok (.istore 5, 2) := by decide +kernel
theorem dX8_further_23 : decode cX8_further 23 = .ok (.iload 5, 2) := by decide +kernel
theorem dX8_further_25 : decode cX8_further 25 = .ok (.bipush 24, 2) := by decide +kernel
theorem dX8_further_27 : decode cX8_further 27 = .ok (.if_icmp .ge 49, 3) := by decide +kernel
theorem dX8_further_30 : decode cX8_further 30 = .ok (.iload_n 1, 1) := by decide +kernel
theorem dX8_further_31 : decode cX8_further 31 = .ok (.iload_n 3, 1) := by decide +kernel
theorem dX8_further_32 : decode cX8_further 32 = .ok (.ishr, 1) := by decide +kernel
theorem dX8_further_33 : decode cX8_further 33 = .ok (.iconst 1, 1) := by decide +kernel
theorem dX8_further_34 : decode cX8_further 34 = .ok (.iand, 1) := by decide +kernel
theorem dX8_further_35 : decode cX8_further 35 = .ok (.iconst 1, 1) := by decide +kernel
theorem dX8_further_36 : decode cX8_further 36 = .ok (.if_icmp .ne 40, 3) := by decide +kernel
theorem dX8_further_39 : decode cX8_further 39 = .ok (.aload_n 0, 1) := by decide +kernel
theorem dX8_further_40 : decode cX8_further 40 = .ok (.aload_n 0, 1) := by decide +kernel
theorem dX8_further_41 : decode cX8_further 41 = .ok (.getfield 9, 3) := by decide +kernel
theorem dX8_further_44 : decode cX8_further 44 = .ok (.iload 4, 2) := by decide +kernel
theorem dX8_further_46 : decode cX8_further 46 = .ok (.iload 5, 2) := by decide +kernel
theorem dX8_further_48 : decode cX8_further 48 = .ok (.iload_n 3, 1) := by decide +kernel
theorem dX8_further_49 : decode cX8_further 49 = .ok (.invokevirtual 247, 3) := by decide +kernel
theorem dX8_further_52 : decode cX8_further 52 = .ok (.istore 6, 2) := by decide +kernel
theorem dX8_further_54 : decode cX8_further 54 = .ok (.iload_n 2, 1) := by decide +kernel
theorem dX8_further_55 : decode cX8_further 55 = .ok (.iload 6, 2) := by decide +kernel
theorem dX8_further_57 : decode cX8_further 57 = .ok (.ifCond .lt 10, 3) := by decide +kernel
theorem dX8_further_60 : decode cX8_further 60 = .ok (.iconst 1, 1) := by decide +kernel
theorem dX8_further_61 : decode cX8_further 61 = .ok (.iload 6, 2) := by decide +kernel
theorem dX8_further_63 : decode cX8_further 63 = .ok (.ishl, 1) := by decide +kernel
theorem dX8_further_64 : decode cX8_further 64 = .ok (.goto 4, 3) := by decide +kernel
theorem dX8_further_67 : decode cX8_further 67 = .ok (.iconst 0, 1) := by decide +kernel
theorem dX8_further_68 : decode cX8_further 68 = .ok (.ior, 1) := by decide +kernel
theorem dX8_further_69 : decode cX8_further 69 = .ok (.istore_n 2, 1) := by decide +kernel
theorem dX8_further_70 : decode cX8_further 70 = .ok (.iinc 5 1, 3) := by decide +kernel
theorem dX8_further_73 : decode cX8_further 73 = .ok (.goto (-50), 3) := by decide +kernel
theorem dX8_further_76 : decode cX8_further 76 = .ok (.iinc 4 1, 3) := by decide +kernel
theorem dX8_further_79 : decode cX8_further 79 = .ok (.goto (-66), 3) := by decide +kernel
theorem dX8_further_82 : decode cX8_further 82 = .ok (.iinc 3 1, 3) := by decide +kernel
theorem dX8_further_85 : decode cX8_further 85 = .ok (.goto (-81), 3) := by decide +kernel
theorem dX8_further_88 : decode cX8_further 88 = .ok (.iload_n 2, 1) := by decide +kernel
theorem dX8_further_89 : decode cX8_further 89 = .ok (.ireturn, 1) := by decide +kernel
def F_X8_further_l23 (x1 : Int32) (Q : VP) (post : Int32 → Prop) (X4 : Int32 → Int32 → Prop) (X13 : Int32 → Int32 → Prop) (v3 : Int32) (v4 : Int32) (X : Int32 → Int32 → Prop) (v2 : Int32) (v5 : Int32) : Prop :=
  (v5 < 24 → ((x1 >>> (v3 &&& 31)) &&& 1 = 1 → F_X8_entered 23 v4 v5 v3 Q (fun r49 => (r49 < 0 → X (v2 ||| 0) (v5 + 1)) ∧ (¬ r49 < 0 → X (v2 ||| (1 <<< (r49 &&& 31))) (v5 + 1)))) ∧ (¬ (x1 >>> (v3 &&& 31)) &&& 1 = 1 → X13 v2 (v4 + 1))) ∧ (¬ v5 < 24 → X13 v2 (v4 + 1))
set_option maxRecDepth 4000 in
theorem s_X8_further_l23 {l : Launch} {g : vG} {x1 : Int32} {P Q : VP} {post : Int32 → Prop} {X4 : Int32 → Int32 → Prop} {X13 : Int32 → Int32 → Prop} {v3 : Int32} {v4 : Int32}  {v2 : Int32} {v5 : Int32}  (hX4 : ∀ v2_ v3_, X4 v2_ v3_ → VM l g RX8 cX8_further 7 (some .int) 4 (vpI (vjn P Q) post) 4 [(0, vR 22 0), (1, vI x1), (2, vI v2_), (3, vI v3_)] [] (vjn P Q)) (hX13 : ∀ v2_ v4_, X13 v2_ v4_ → VM l g RX8 cX8_further 7 (some .int) 4 (vpI (vjn P Q) post) 13 [(0, vR 22 0), (1, vI x1), (2, vI v2_), (3, vI v3), (4, vI v4_)] [] (vjn P Q)) (h : vL2 (F_X8_further_l23 x1 Q post X4 X13 v3 v4) v2 v5) : VM l g RX8 cX8_further 7 (some .int) 4 (vpI (vjn P Q) post) 23 [(0, vR 22 0), (1, vI x1), (2, vI v2), (3, vI v3), (4, vI v4), (5, vI v5)] [] (vjn P Q) := by
  refine vL2_s (T := fun v2 v5 => VM l g RX8 cX8_further 7 (some .int) 4 (vpI (vjn P Q) post) 23 [(0, vR 22 0), (1, vI x1), (2, vI v2), (3, vI v3), (4, vI v4), (5, vI v5)] [] (vjn P Q)) ?_ h
  clear h
  intro X hX v2 v5 h
  unfold F_X8_further_l23 at h
  refine vr_iload 5 dX8_further_23 rfl ?_
  refine vr_bipush 24 dX8_further_25 (by decide) ?_
  refine vr_icmpge 76 dX8_further_27 (by decide) (fun c27 => ?_) (fun c27 => ?_)
  · have h := h.1 c27
    refine vr_iload_n 1 1 dX8_further_30 rfl rfl ?_
    refine vr_iload_n 3 3 dX8_further_31 rfl rfl ?_
    refine vr_ishr dX8_further_32 ?_
    refine vr_iconst 1 dX8_further_33 (by decide) ?_
    refine vr_iand dX8_further_34 ?_
    refine vr_iconst 1 dX8_further_35 (by decide) ?_
    refine vr_icmpne 76 dX8_further_36 (by decide) (fun c36 => ?_) (fun c36 => ?_)
    · have h := h.1 c36
      refine vr_aload_n 0 0 dX8_further_39 rfl rfl ?_
      refine vr_aload_n 0 0 dX8_further_40 rfl rfl ?_
      refine vg_22_0 RX8 rfl (by decide) fl_8_9 dX8_further_41 ?_
      refine vr_iload 4 dX8_further_44 rfl ?_
      refine vr_iload 5 dX8_further_46 rfl ?_
      refine vr_iload_n 3 3 dX8_further_48 rfl rfl ?_
      refine vr_callV RX8 (s_X8_entered ia_23 h) rfl (by decide) rfl rfl rfl ml_8_247 rfl yh_X8_entered rfl ⟨Nat.le_of_ble_eq_true rfl, Nat.le_of_ble_eq_true rfl⟩ (Nat.le_of_ble_eq_true rfl) ⟨Nat.zero_le _, Nat.zero_le _⟩ dX8_further_49 (ki fun r49 h => ?_)
      refine vr_istore [(6, vI r49), (0, vR 22 0), (1, vI x1), (2, vI v2), (3, vI v3), (4, vI v4), (5, vI v5)] dX8_further_52 (by decide) rfl ?_
      refine vr_iload_n 2 3 dX8_further_54 rfl rfl ?_
      refine vr_iload 0 dX8_further_55 rfl ?_
      refine vr_iflt 67 dX8_further_57 (by decide) (fun c57 => ?_) (fun c57 => ?_)
      · have h := h.1 c57
        refine vr_iconst 0 dX8_further_67 (by decide) ?_
        refine vr_ior dX8_further_68 ?_
        refine vr_istore_n 2 [(2, vI (v2 ||| 0)), (6, vI r49), (0, vR 22 0), (1, vI x1), (3, vI v3), (4, vI v4), (5, vI v5)] dX8_further_69 rfl (by decide) rfl ?_
        refine vr_iinc (v5 + 1) 6 [(5, vI (v5 + 1)), (2, vI (v2 ||| 0)), (6, vI r49), (0, vR 22 0), (1, vI x1), (3, vI v3), (4, vI v4)] dX8_further_70 rfl rfl (by decide) rfl ?_
        refine vr_goto 23 dX8_further_73 (by decide) ?_
        refine vr_sub [3, 4, 1, 5, 6, 0] [(0, vR 22 0), (1, vI x1), (2, vI (v2 ||| 0)), (3, vI v3), (4, vI v4), (5, vI (v5 + 1))] rfl ?_
        exact hX _ _ h
      · have h := h.2 c57
        refine vr_iconst 1 dX8_further_60 (by decide) ?_
        refine vr_iload 0 dX8_further_61 rfl ?_
        refine vr_ishl dX8_further_63 ?_
        refine vr_goto 68 dX8_further_64 (by decide) ?_
        refine vr_ior dX8_further_68 ?_
        refine vr_istore_n 2 [(2, vI (v2 ||| (1 <<< (r49 &&& 31)))), (6, vI r49), (0, vR 22 0), (1, vI x1), (3, vI v3), (4, vI v4), (5, vI v5)] dX8_further_69 rfl (by decide) rfl ?_
        refine vr_iinc (v5 + 1) 6 [(5, vI (v5 + 1)), (2, vI (v2 ||| (1 <<< (r49 &&& 31)))), (6, vI r49), (0, vR 22 0), (1, vI x1), (3, vI v3), (4, vI v4)] dX8_further_70 rfl rfl (by decide) rfl ?_
        refine vr_goto 23 dX8_further_73 (by decide) ?_
        refine vr_sub [3, 4, 1, 5, 6, 0] [(0, vR 22 0), (1, vI x1), (2, vI (v2 ||| (1 <<< (r49 &&& 31)))), (3, vI v3), (4, vI v4), (5, vI (v5 + 1))] rfl ?_
        exact hX _ _ h
    · have h := h.2 c36
      refine vr_iinc (v4 + 1) 4 [(4, vI (v4 + 1)), (0, vR 22 0), (1, vI x1), (2, vI v2), (3, vI v3), (5, vI v5)] dX8_further_76 rfl rfl (by decide) rfl ?_
      refine vr_goto 13 dX8_further_79 (by decide) ?_
      refine vr_sub [1, 2, 3, 4, 0] [(0, vR 22 0), (1, vI x1), (2, vI v2), (3, vI v3), (4, vI (v4 + 1))] rfl ?_
      exact hX13 _ _ h
  · have h := h.2 c27
    refine vr_iinc (v4 + 1) 4 [(4, vI (v4 + 1)), (0, vR 22 0), (1, vI x1), (2, vI v2), (3, vI v3), (5, vI v5)] dX8_further_76 rfl rfl (by decide) rfl ?_
    refine vr_goto 13 dX8_further_79 (by decide) ?_
    refine vr_sub [1, 2, 3, 4, 0] [(0, vR 22 0), (1, vI x1), (2, vI v2), (3, vI v3), (4, vI (v4 + 1))] rfl ?_
    exact hX13 _ _ h
def F_X8_further_l13 (x1 : Int32) (Q : VP) (post : Int32 → Prop) (X4 : Int32 → Int32 → Prop) (v3 : Int32) (X : Int32 → Int32 → Prop) (v2 : Int32) (v4 : Int32) : Prop :=
  (v4 < 16 → vL2 (F_X8_further_l23 x1 Q post X4  X  v3 v4) v2 ((0 : Int32))) ∧ (¬ v4 < 16 → X4 v2 (v3 + 1))
set_option maxRecDepth 4000 in
theorem s_X8_further_l13 {l : Launch} {g : vG} {x1 : Int32} {P Q : VP} {post : Int32 → Prop} {X4 : Int32 → Int32 → Prop} {v3 : Int32}  {v2 : Int32} {v4 : Int32}  (hX4 : ∀ v2_ v3_, X4 v2_ v3_ → VM l g RX8 cX8_further 7 (some .int) 4 (vpI (vjn P Q) post) 4 [(0, vR 22 0), (1, vI x1), (2, vI v2_), (3, vI v3_)] [] (vjn P Q)) (h : vL2 (F_X8_further_l13 x1 Q post X4 v3) v2 v4) : VM l g RX8 cX8_further 7 (some .int) 4 (vpI (vjn P Q) post) 13 [(0, vR 22 0), (1, vI x1), (2, vI v2), (3, vI v3), (4, vI v4)] [] (vjn P Q) := by
  refine vL2_s (T := fun v2 v4 => VM l g RX8 cX8_further 7 (some .int) 4 (vpI (vjn P Q) post) 13 [(0, vR 22 0), (1, vI x1), (2, vI v2), (3, vI v3), (4, vI v4)] [] (vjn P Q)) ?_ h
  clear h
  intro X hX v2 v4 h
  unfold F_X8_further_l13 at h
  refine vr_iload 4 dX8_further_13 rfl ?_
  refine vr_bipush 16 dX8_further_15 (by decide) ?_
  refine vr_icmpge 82 dX8_further_17 (by decide) (fun c17 => ?_) (fun c17 => ?_)
  · have h := h.1 c17
    refine vr_iconst 0 dX8_further_20 (by decide) ?_
    refine vr_istore [(5, vI 0), (0, vR 22 0), (1, vI x1), (2, vI v2), (3, vI v3), (4, vI v4)] dX8_further_21 (by decide) rfl ?_
    refine vr_sub [1, 2, 3, 4, 5, 0] [(0, vR 22 0), (1, vI x1), (2, vI v2), (3, vI v3), (4, vI v4), (5, vI 0)] rfl ?_
    exact s_X8_further_l23  hX4  hX  h
  · have h := h.2 c17
    refine vr_iinc (v3 + 1) 3 [(3, vI (v3 + 1)), (0, vR 22 0), (1, vI x1), (2, vI v2), (4, vI v4)] dX8_further_82 rfl rfl (by decide) rfl ?_
    refine vr_goto 4 dX8_further_85 (by decide) ?_
    refine vr_sub [1, 2, 3, 0] [(0, vR 22 0), (1, vI x1), (2, vI v2), (3, vI (v3 + 1))] rfl ?_
    exact hX4 _ _ h
def F_X8_further_l4 (x1 : Int32) (Q : VP) (post : Int32 → Prop)   (X : Int32 → Int32 → Prop) (v2 : Int32) (v3 : Int32) : Prop :=
  (v3 < 8 → vL2 (F_X8_further_l13 x1 Q post X  v3) v2 ((0 : Int32))) ∧ (¬ v3 < 8 → post v2)
set_option maxRecDepth 4000 in
theorem s_X8_further_l4 {l : Launch} {g : vG} {x1 : Int32} {P Q : VP} {post : Int32 → Prop}    {v2 : Int32} {v3 : Int32}   (h : vL2 (F_X8_further_l4 x1 Q post  ) v2 v3) : VM l g RX8 cX8_further 7 (some .int) 4 (vpI (vjn P Q) post) 4 [(0, vR 22 0), (1, vI x1), (2, vI v2), (3, vI v3)] [] (vjn P Q) := by
  refine vL2_s (T := fun v2 v3 => VM l g RX8 cX8_further 7 (some .int) 4 (vpI (vjn P Q) post) 4 [(0, vR 22 0), (1, vI x1), (2, vI v2), (3, vI v3)] [] (vjn P Q)) ?_ h
  clear h
  intro X hX v2 v3 h
  unfold F_X8_further_l4 at h
  refine vr_iload_n 3 3 dX8_further_4 rfl rfl ?_
  refine vr_bipush 8 dX8_further_5 (by decide) ?_
  refine vr_icmpge 88 dX8_further_7 (by decide) (fun c7 => ?_) (fun c7 => ?_)
  · have h := h.1 c7
    refine vr_iconst 0 dX8_further_10 (by decide) ?_
    refine vr_istore [(4, vI 0), (0, vR 22 0), (1, vI x1), (2, vI v2), (3, vI v3)] dX8_further_11 (by decide) rfl ?_
    refine vr_sub [1, 2, 3, 4, 0] [(0, vR 22 0), (1, vI x1), (2, vI v2), (3, vI v3), (4, vI 0)] rfl ?_
    exact s_X8_further_l13  hX  h
  · have h := h.2 c7
    refine vr_iload_n 2 2 dX8_further_88 rfl rfl ?_
    exact vr_iret rfl ⟨rfl, _, rfl, h⟩ dX8_further_89
def F_X8_further (x1 : Int32) (Q : VP) (post : Int32 → Prop) : Prop :=
  vL2 (F_X8_further_l4 x1 Q post  ) x1 ((0 : Int32))
set_option maxRecDepth 4000 in
theorem s_X8_further {l : Launch} {g : vG} {x1 : Int32} {P Q : VP} {post : Int32 → Prop}  (h : F_X8_further x1 Q post) : VC l g yX8_further cX8_further 7 (some .int) 4 [vR 22 0, vI x1] (vjn P Q) (vpI (vjn P Q) post) := by
  refine VC.of (by decide +kernel) (Nat.le_of_ble_eq_true rfl) (show VM l g RX8 cX8_further 7 (some .int) 4 (vpI (vjn P Q) post) 0 [(0, vR 22 0), (1, vI x1)] [] (vjn P Q) from ?_)
  unfold F_X8_further at h
  refine vr_iload_n 1 1 dX8_further_0 rfl rfl ?_
  refine vr_istore_n 2 [(2, vI x1), (0, vR 22 0), (1, vI x1)] dX8_further_1 rfl (by decide) rfl ?_
  refine vr_iconst 0 dX8_further_2 (by decide) ?_
  refine vr_istore_n 3 [(3, vI 0), (2, vI x1), (0, vR 22 0), (1, vI x1)] dX8_further_3 rfl (by decide) rfl ?_
  refine vr_sub [2, 3, 1, 0] [(0, vR 22 0), (1, vI x1), (2, vI x1), (3, vI 0)] rfl ?_
  exact s_X8_further_l4   h
theorem dX8_ways_0 : decode cX8_ways 0 = .ok (.iload_n 1, 1) := by decide +kernel
theorem dX8_ways_1 : decode cX8_ways 1 = .ok (.i2l, 1) := by decide +kernel
theorem dX8_ways_2 : decode cX8_ways 2 = .ok (.lconst 0, 1) := by decide +kernel
theorem dX8_ways_3 : decode cX8_ways 3 = .ok (.ldc2_w 103, 3) := by decide +kernel
theorem dX8_ways_6 : decode cX8_ways 6 = .ok (.invokestatic 54, 3) := by decide +kernel
theorem dX8_ways_9 : decode cX8_ways 9 = .ok (.ifCond .eq 17, 3) := by decide +kernel
theorem dX8_ways_12 : decode cX8_ways 12 = .ok (.iload_n 2, 1) := by decide +kernel
theorem dX8_ways_13 : decode cX8_ways 13 = .ok (.i2l, 1) := by decide +kernel
theorem dX8_ways_14 : decode cX8_ways 14 = .ok (.ldc2_w 297, 3) := by decide +kernel
theorem dX8_ways_17 : decode cX8_ways 17 = .ok (.ldc2_w 103, 3) := by decide +kernel
theorem dX8_ways_20 : decode cX8_ways 20 = .ok (.invokestatic 54, 3) := by decide +kernel
theorem dX8_ways_23 : decode cX8_ways 23 = .ok (.ifCond .ne 5, 3) := by decide +kernel
theorem dX8_ways_26 : decode cX8_ways 26 = .ok (.iconst (-1), 1) := by decide +kernel
theorem dX8_ways_27 : decode cX8_ways 27 = .ok (.ireturn, 1) := by decide +kernel
theorem dX8_ways_28 : decode cX8_ways 28 = .ok (.iconst 1, 1) := by decide +kernel
theorem dX8_ways_29 : decode cX8_ways 29 = .ok (.iload_n 1, 1) := by decide +kernel
theorem dX8_ways_30 : decode cX8_ways 30 = .ok (.ishl, 1) := by decide +kernel
theorem dX8_ways_31 : decode cX8_ways 31 = .ok (.istore_n 3, 1) := by decide +kernel
theorem dX8_ways_32 : decode cX8_ways 32 = .ok (.iconst 0, 1) := by decide +kernel
theorem dX8_ways_33 : decode cX8_ways 33 = .ok (.istore 4, 2) := by decide +kernel
theorem dX8_ways_35 : decode cX8_ways 35 = .ok (.iload 4, 2) := by decide +kernel
theorem dX8_ways_37 : decode cX8_ways 37 = .ok (.bipush 8, 2) := by decide +kernel
theorem dX8_ways_39 : decode cX8_ways 39 = .ok (.if_icmp .ge 31, 3) := by decide +kernel
theorem dX8_ways_42 : decode cX8_ways 42 = .ok (.iload_n 2, 1) := by decide +kernel
theorem dX8_ways_43 : decode cX8_ways 43 = .ok (.ifCond .lt 15, 3) := by decide +kernel
theorem dX8_ways_46 : decode cX8_ways 46 = .ok (.iload_n 3, 1) := by decide +kernel
theorem dX8_ways_47 : decode cX8_ways 47 = .ok (.iload_n 2, 1) := by decide +kernel
theorem dX8_ways_48 : decode cX8_ways 48 = .ok (.ishr, 1) := by decide +kernel
theorem dX8_ways_49 : decode cX8_ways 49 = .ok (.iconst 1, 1) := by decide +kernel
theorem dX8_ways_50 : decode cX8_ways 50 = .ok (.iand, 1) := by decide +kernel
theorem dX8_ways_51 : decode cX8_ways 51 = .ok (.iconst 1, 1) := by decide +kernel
theorem dX8_ways_52 : decode cX8_ways 52 = .ok (.if_icmp .ne 6, 3) := by decide +kernel
theorem dX8_ways_55 : decode cX8_ways 55 = .ok (.iload 4, 2) := by decide +kernel
theorem dX8_ways_57 : decode cX8_ways 57 = .ok (.ireturn, 1) := by decide +kernel
theorem dX8_ways_58 : decode cX8_ways 58 = .ok (.aload_n 0, 1) := by decide +kernel
theorem dX8_ways_59 : decode cX8_ways 59 = .ok (.iload_n 3, 1) := by decide +kernel
theorem dX8_ways_60 : decode cX8_ways 60 = .ok (.invokevirtual 299, 3) := by decide +kernel
theorem dX8_ways_63 : decode cX8_ways 63 = .ok (.istore_n 3, 1) := by decide +kernel
theorem dX8_ways_64 : decode cX8_ways 64 = .ok (.iinc 4 1, 3) := by decide +kernel
theorem dX8_ways_67 : decode cX8_ways 67 = .ok (.goto (-32), 3) := by decide +kernel
theorem dX8_ways_70 : decode cX8_ways 70 = .ok (.iload_n 2, 1) := by decide +kernel
theorem dX8_ways_71 : decode cX8_ways 71 = .ok (.ifCond .lt 6, 3) := by decide +kernel
theorem dX8_ways_74 : decode cX8_ways 74 = .ok (.bipush (-2), 2) := by decide +kernel
theorem dX8_ways_76 : decode cX8_ways 76 = .ok (.ireturn, 1) := by decide +kernel
theorem dX8_ways_77 : decode cX8_ways 77 = .ok (.iconst 0, 1) := by decide +kernel
theorem dX8_ways_78 : decode cX8_ways 78 = .ok (.istore 4, 2) := by decide +kernel
theorem dX8_ways_80 : decode cX8_ways 80 = .ok (.iload_n 3, 1) := by decide +kernel
theorem dX8_ways_81 : decode cX8_ways 81 = .ok (.iload 4, 2) := by decide +kernel
theorem dX8_ways_83 : decode cX8_ways 83 = .ok (.ishr, 1) := by decide +kernel
theorem dX8_ways_84 : decode cX8_ways 84 = .ok (.iconst 1, 1) := by decide +kernel
theorem dX8_ways_85 : decode cX8_ways 85 = .ok (.iand, 1) := by decide +kernel
theorem dX8_ways_86 : decode cX8_ways 86 = .ok (.ifCond .ne 9, 3) := by decide +kernel
theorem dX8_ways_89 : decode cX8_ways 89 = .ok (.iinc 4 1, 3) := by decide +kernel
theorem dX8_ways_92 : decode cX8_ways 92 = .ok (.goto (-12), 3) := by decide +kernel
theorem dX8_ways_95 : decode cX8_ways 95 = .ok (.iload 4, 2) := by decide +kernel
theorem dX8_ways_97 : decode cX8_ways 97 = .ok (.ireturn, 1) := by decide +kernel
def F_X8_ways_b58 (x1 : Int32) (x2 : Int32) (Q : VP) (post : Int32 → Prop) (X35 : Int32 → Int32 → Prop) (v3 : Int32) (v4 : Int32) : Prop :=
  F_X8_further v3 Q (fun r60 => X35 r60 (v4 + 1))
set_option maxRecDepth 4000 in
theorem s_X8_ways_b58 {l : Launch} {g : vG} {x1 : Int32} {x2 : Int32} {P Q : VP} {post : Int32 → Prop} {X35 : Int32 → Int32 → Prop} {v3 : Int32} {v4 : Int32}   (hX35 : ∀ v3_ v4_, X35 v3_ v4_ → VM l g RX8 cX8_ways 5 (some .int) 5 (vpI (vjn P Q) post) 35 [(0, vR 22 0), (2, vI x2), (3, vI v3_), (4, vI v4_)] [] (vjn P Q)) (h : F_X8_ways_b58 x1 x2 Q post X35 v3 v4) : VM l g RX8 cX8_ways 5 (some .int) 5 (vpI (vjn P Q) post) 58 [(0, vR 22 0), (2, vI x2), (3, vI v3), (4, vI v4)] [] (vjn P Q) := by
  unfold F_X8_ways_b58 at h
  refine vr_aload_n 0 0 dX8_ways_58 rfl rfl ?_
  refine vr_iload_n 3 2 dX8_ways_59 rfl rfl ?_
  refine vr_callV RX8 (s_X8_further h) rfl (by decide) rfl rfl rfl ml_8_299 rfl yh_X8_further rfl ⟨Nat.le_of_ble_eq_true rfl, Nat.le_of_ble_eq_true rfl⟩ (Nat.le_of_ble_eq_true rfl) ⟨Nat.zero_le _, Nat.zero_le _⟩ dX8_ways_60 (ki fun r60 h => ?_)
  refine vr_istore_n 3 [(3, vI r60), (0, vR 22 0), (2, vI x2), (4, vI v4)] dX8_ways_63 rfl (by decide) rfl ?_
  refine vr_iinc (v4 + 1) 3 [(4, vI (v4 + 1)), (3, vI r60), (0, vR 22 0), (2, vI x2)] dX8_ways_64 rfl rfl (by decide) rfl ?_
  refine vr_goto 35 dX8_ways_67 (by decide) ?_
  refine vr_sub [2, 3, 1, 0] [(0, vR 22 0), (2, vI x2), (3, vI r60), (4, vI (v4 + 1))] rfl ?_
  exact hX35 _ _ h
def F_X8_ways_l80 (x1 : Int32) (x2 : Int32) (Q : VP) (post : Int32 → Prop)  (v3 : Int32) (X : Int32 → Prop) (v4 : Int32) : Prop :=
  ((v3 >>> (v4 &&& 31)) &&& 1 = 0 → X (v4 + 1)) ∧ (¬ (v3 >>> (v4 &&& 31)) &&& 1 = 0 → post v4)
set_option maxRecDepth 4000 in
theorem s_X8_ways_l80 {l : Launch} {g : vG} {x1 : Int32} {x2 : Int32} {P Q : VP} {post : Int32 → Prop}  {v3 : Int32}  {v4 : Int32}   (h : vL1 (F_X8_ways_l80 x1 x2 Q post  v3) v4) : VM l g RX8 cX8_ways 5 (some .int) 5 (vpI (vjn P Q) post) 80 [(3, vI v3), (4, vI v4)] [] (vjn P Q) := by
  refine vL1_s (T := fun v4 => VM l g RX8 cX8_ways 5 (some .int) 5 (vpI (vjn P Q) post) 80 [(3, vI v3), (4, vI v4)] [] (vjn P Q)) ?_ h
  clear h
  intro X hX v4 h
  unfold F_X8_ways_l80 at h
  refine vr_iload_n 3 0 dX8_ways_80 rfl rfl ?_
  refine vr_iload 1 dX8_ways_81 rfl ?_
  refine vr_ishr dX8_ways_83 ?_
  refine vr_iconst 1 dX8_ways_84 (by decide) ?_
  refine vr_iand dX8_ways_85 ?_
  refine vr_ifne 95 dX8_ways_86 (by decide) (fun c86 => ?_) (fun c86 => ?_)
  · have h := h.1 c86
    refine vr_iinc (v4 + 1) 1 [(4, vI (v4 + 1)), (3, vI v3)] dX8_ways_89 rfl rfl (by decide) rfl ?_
    refine vr_goto 80 dX8_ways_92 (by decide) ?_
    refine vr_sub [1, 0] [(3, vI v3), (4, vI (v4 + 1))] rfl ?_
    exact hX _ h
  · have h := h.2 c86
    refine vr_iload 1 dX8_ways_95 rfl ?_
    exact vr_iret rfl ⟨rfl, _, rfl, h⟩ dX8_ways_97
def F_X8_ways_l35 (x1 : Int32) (x2 : Int32) (Q : VP) (post : Int32 → Prop)   (X : Int32 → Int32 → Prop) (v3 : Int32) (v4 : Int32) : Prop :=
  (v4 < 8 → (x2 < 0 → F_X8_ways_b58 x1 x2 Q post X  v3 v4) ∧ (¬ x2 < 0 → ((v3 >>> (x2 &&& 31)) &&& 1 = 1 → post v4) ∧ (¬ (v3 >>> (x2 &&& 31)) &&& 1 = 1 → F_X8_ways_b58 x1 x2 Q post X  v3 v4))) ∧ (¬ v4 < 8 → (x2 < 0 → vL1 (F_X8_ways_l80 x1 x2 Q post  v3) ((0 : Int32))) ∧ (¬ x2 < 0 → post (((-2) : Int32))))
set_option maxRecDepth 4000 in
theorem s_X8_ways_l35 {l : Launch} {g : vG} {x1 : Int32} {x2 : Int32} {P Q : VP} {post : Int32 → Prop}    {v3 : Int32} {v4 : Int32}   (h : vL2 (F_X8_ways_l35 x1 x2 Q post  ) v3 v4) : VM l g RX8 cX8_ways 5 (some .int) 5 (vpI (vjn P Q) post) 35 [(0, vR 22 0), (2, vI x2), (3, vI v3), (4, vI v4)] [] (vjn P Q) := by
  refine vL2_s (T := fun v3 v4 => VM l g RX8 cX8_ways 5 (some .int) 5 (vpI (vjn P Q) post) 35 [(0, vR 22 0), (2, vI x2), (3, vI v3), (4, vI v4)] [] (vjn P Q)) ?_ h
  clear h
  intro X hX v3 v4 h
  unfold F_X8_ways_l35 at h
  refine vr_iload 3 dX8_ways_35 rfl ?_
  refine vr_bipush 8 dX8_ways_37 (by decide) ?_
  refine vr_icmpge 70 dX8_ways_39 (by decide) (fun c39 => ?_) (fun c39 => ?_)
  · have h := h.1 c39
    refine vr_iload_n 2 1 dX8_ways_42 rfl rfl ?_
    refine vr_iflt 58 dX8_ways_43 (by decide) (fun c43 => ?_) (fun c43 => ?_)
    · have h := h.1 c43
      exact s_X8_ways_b58  hX  h
    · have h := h.2 c43
      refine vr_iload_n 3 2 dX8_ways_46 rfl rfl ?_
      refine vr_iload_n 2 1 dX8_ways_47 rfl rfl ?_
      refine vr_ishr dX8_ways_48 ?_
      refine vr_iconst 1 dX8_ways_49 (by decide) ?_
      refine vr_iand dX8_ways_50 ?_
      refine vr_iconst 1 dX8_ways_51 (by decide) ?_
      refine vr_icmpne 58 dX8_ways_52 (by decide) (fun c52 => ?_) (fun c52 => ?_)
      · have h := h.1 c52
        refine vr_iload 3 dX8_ways_55 rfl ?_
        exact vr_iret rfl ⟨rfl, _, rfl, h⟩ dX8_ways_57
      · have h := h.2 c52
        exact s_X8_ways_b58  hX  h
  · have h := h.2 c39
    refine vr_iload_n 2 1 dX8_ways_70 rfl rfl ?_
    refine vr_iflt 77 dX8_ways_71 (by decide) (fun c71 => ?_) (fun c71 => ?_)
    · have h := h.1 c71
      refine vr_iconst 0 dX8_ways_77 (by decide) ?_
      refine vr_istore [(4, vI 0), (0, vR 22 0), (2, vI x2), (3, vI v3)] dX8_ways_78 (by decide) rfl ?_
      refine vr_sub [3, 0] [(3, vI v3), (4, vI 0)] rfl ?_
      exact s_X8_ways_l80   h
    · have h := h.2 c71
      refine vr_bipush (-2) dX8_ways_74 (by decide) ?_
      exact vr_iret rfl ⟨rfl, _, rfl, h⟩ dX8_ways_76
def F_X8_ways (x1 : Int32) (x2 : Int32) (Q : VP) (post : Int32 → Prop) : Prop :=
  F_X8_in (Int32.toInt64 x1) 0 7 Q (fun r6 => (r6 = 0 → post (((-1) : Int32))) ∧ (¬ r6 = 0 → F_X8_in (Int32.toInt64 x2) ((-1)) 7 Q (fun r20 => (r20 = 0 → post (((-1) : Int32))) ∧ (¬ r20 = 0 → vL2 (F_X8_ways_l35 x1 x2 Q post  ) (1 <<< (x1 &&& 31)) ((0 : Int32))))))
set_option maxRecDepth 4000 in
theorem s_X8_ways {l : Launch} {g : vG} {x1 : Int32} {x2 : Int32} {P Q : VP} {post : Int32 → Prop}  (h : F_X8_ways x1 x2 Q post) : VC l g yX8_ways cX8_ways 5 (some .int) 5 [vR 22 0, vI x1, vI x2] (vjn P Q) (vpI (vjn P Q) post) := by
  refine VC.of (by decide +kernel) (Nat.le_of_ble_eq_true rfl) (show VM l g RX8 cX8_ways 5 (some .int) 5 (vpI (vjn P Q) post) 0 [(0, vR 22 0), (1, vI x1), (2, vI x2)] [] (vjn P Q) from ?_)
  unfold F_X8_ways at h
  refine vr_iload_n 1 1 dX8_ways_0 rfl rfl ?_
  refine vr_i2l dX8_ways_1 ?_
  refine vr_lconst 0 dX8_ways_2 (by decide) ?_
  refine vr_ldc2 7 ct_8_103 dX8_ways_3 ?_
  refine vr_callS RX8 (s_X8_in h) rfl rfl ml_8_54 rfl yh_X8_in rfl ⟨Nat.le_of_ble_eq_true rfl, Nat.le_of_ble_eq_true rfl⟩ (Nat.le_of_ble_eq_true rfl) ⟨Nat.zero_le _, Nat.zero_le _⟩ dX8_ways_6 (ki fun r6 h => ?_)
  refine vr_ifeq 26 dX8_ways_9 (by decide) (fun c9 => ?_) (fun c9 => ?_)
  · have h := h.1 c9
    refine vr_iconst (-1) dX8_ways_26 (by decide) ?_
    exact vr_iret rfl ⟨rfl, _, rfl, h⟩ dX8_ways_27
  · have h := h.2 c9
    refine vr_iload_n 2 2 dX8_ways_12 rfl rfl ?_
    refine vr_i2l dX8_ways_13 ?_
    refine vr_ldc2 (-1) ct_8_297 dX8_ways_14 ?_
    refine vr_ldc2 7 ct_8_103 dX8_ways_17 ?_
    refine vr_callS RX8 (s_X8_in h) rfl rfl ml_8_54 rfl yh_X8_in rfl ⟨Nat.le_of_ble_eq_true rfl, Nat.le_of_ble_eq_true rfl⟩ (Nat.le_of_ble_eq_true rfl) ⟨Nat.zero_le _, Nat.zero_le _⟩ dX8_ways_20 (ki fun r20 h => ?_)
    refine vr_ifne 28 dX8_ways_23 (by decide) (fun c23 => ?_) (fun c23 => ?_)
    · have h := h.1 c23
      refine vr_iconst (-1) dX8_ways_26 (by decide) ?_
      exact vr_iret rfl ⟨rfl, _, rfl, h⟩ dX8_ways_27
    · have h := h.2 c23
      refine vr_iconst 1 dX8_ways_28 (by decide) ?_
      refine vr_iload_n 1 1 dX8_ways_29 rfl rfl ?_
      refine vr_ishl dX8_ways_30 ?_
      refine vr_istore_n 3 [(3, vI (1 <<< (x1 &&& 31))), (0, vR 22 0), (1, vI x1), (2, vI x2)] dX8_ways_31 rfl (by decide) rfl ?_
      refine vr_iconst 0 dX8_ways_32 (by decide) ?_
      refine vr_istore [(4, vI 0), (3, vI (1 <<< (x1 &&& 31))), (0, vR 22 0), (1, vI x1), (2, vI x2)] dX8_ways_33 (by decide) rfl ?_
      refine vr_sub [2, 4, 1, 0] [(0, vR 22 0), (2, vI x2), (3, vI (1 <<< (x1 &&& 31))), (4, vI 0)] rfl ?_
      exact s_X8_ways_l35   h
theorem dX8_snapped_0 : decode cX8_snapped 0 = .ok (.iconst 0, 1) := by decide +kernel
theorem dX8_snapped_1 : decode cX8_snapped 1 = .ok (.istore_n 2, 1) := by decide +kernel
theorem dX8_snapped_2 : decode cX8_snapped 2 = .ok (.iconst 0, 1) := by decide +kernel
theorem dX8_snapped_3 : decode cX8_snapped 3 = .ok (.istore_n 3, 1) := by decide +kernel
theorem dX8_snapped_4 : decode cX8_snapped 4 = .ok (.iload_n 3, 1) := by decide +kernel
theorem dX8_snapped_5 : decode cX8_snapped 5 = .ok (.bipush 16, 2) := by decide +kernel
theorem dX8_snapped_7 : decode cX8_snapped 7 = .ok (.if_icmp .ge 117, 3) := by decide +kernel
theorem dX8_snapped_10 : decode cX8_snapped 10 = .ok (.iconst 0, 1) := by decide +kernel
theorem dX8_snapped_11 : decode cX8_snapped 11 = .ok (.istore 4, 2) := by decide +kernel
theorem dX8_snapped_13 : decode cX8_snapped 13 = .ok (.aload_n 0, 1) := by decide +kernel
theorem dX8_snapped_14 : decode cX8_snapped 14 = .ok (.getfield 9, 3) := by decide +kernel
theorem dX8_snapped_17 : decode cX8_snapped 17 = .ok (.bipush 32, 2) := by decide +kernel
theorem dX8_snapped_19 : decode cX8_snapped 19 = .ok (.iload_n 3, 1) := by decide +kernel
theorem dX8_snapped_20 : decode cX8_snapped 20 = .ok (.iadd, 1) := by decide +kernel
theorem dX8_snapped_21 : decode cX8_snapped 21 = .ok (.iaload, 1) := by decide +kernel
theorem dX8_snapped_22 : decode cX8_snapped 22 = .ok (.iconst 1, 1) := by decide +kernel
theorem dX8_snapped_23 : decode cX8_snapped 23 = .ok (.if_icmp .ne 95, 3) := by decide +kernel
theorem dX8_snapped_26 : decode cX8_snapped 26 = .ok (.iload 4, 2) := by decide +kernel
theorem dX8_snapped_28 : decode cX8_snapped 28 = .ok (.aload_n 0, 1) := by decide +kernel
theorem dX8_snapped_29 : decode cX8_snapped 29 = .ok (.getfield 9, 3) := by decide +kernel
theorem dX8_snapped_32 : decode cX8_snapped 32 = .ok (.bipush 96, 2) := by decide +kernel
theorem dX8_snapped_34 : decode cX8_snapped 34 = .ok (.iload_n 3, 1) := by decide +kernel
theorem dX8_snapped_35 : decode cX8_snapped 35 = .ok (.iadd, 1) := by decide +kernel
theorem dX8_snapped_36 : decode cX8_snapped 36 = .ok (.iaload, 1) := by decide +kernel
theorem dX8_snapped_37 : decode cX8_snapped 37 = .ok (.if_icmp .ge 81, 3) := by decide +kernel
theorem dX8_snapped_40 : decode cX8_snapped 40 = .ok (.aload_n 0, 1) := by decide +kernel
theorem dX8_snapped_41 : decode cX8_snapped 41 = .ok (.getfield 9, 3) := by decide +kernel
theorem dX8_snapped_44 : decode cX8_snapped 44 = .ok (.iload_n 3, 1) := by decide +kernel
theorem dX8_snapped_45 : decode cX8_snapped 45 = .ok (.iload 4, 2) := by decide +kernel
theorem dX8_snapped_47 : decode cX8_snapped 47 = .ok (.iconst 0, 1) := by decide +kernel
theorem dX8_snapped_48 : decode cX8_snapped 48 = .ok (.invokestatic 136, 3) := by decide +kernel
theorem dX8_snapped_51 : decode cX8_snapped 51 = .ok (.iconst 5, 1) := by decide +kernel
theorem dX8_snapped_52 : decode cX8_snapped 52 = .ok (.if_icmp .ne 7, 3) := by decide +kernel
theorem dX8_snapped_55 : decode cX8_snapped 55 = .ok (.iconst 1, 1) := by decide +kernel
theorem dX8_snapped_56 : decode cX8_snapped 56 = .ok (.goto 4, 3) := by decide +kernel
theorem dX8_snapped_59 : decode cX8_snapped 59 = .ok (.iconst 0, 1) := by decide +kernel
theorem dX8_snapped_60 : decode cX8_snapped 60 = .ok (.istore 5, 2) := by decide +kernel
theorem dX8_snapped_62 : decode cX8_snapped 62 = .ok (.iload_n 2, 1) := by decide +kernel
theorem dX8_snapped_63 : decode cX8_snapped 63 = .ok (.iload 5, 2) := by decide +kernel
theorem dX8_snapped_65 : decode cX8_snapped 65 = .ok (.ifCond .eq 44, 3) := by decide +kernel
theorem dX8_snapped_68 : decode cX8_snapped 68 = .ok (.iload_n 1, 1) := by decide +kernel
theorem dX8_snapped_69 : decode cX8_snapped 69 = .ok (.ifCond .eq 36, 3) := by decide +kernel
theorem dX8_snapped_72 : decode cX8_snapped 72 = .ok (.aload_n 0, 1) := by decide +kernel
theorem dX8_snapped_73 : decode cX8_snapped 73 = .ok (.getfield 9, 3) := by decide +kernel
theorem dX8_snapped_76 : decode cX8_snapped 76 = .ok (.iload_n 3, 1) := by decide +kernel
theorem dX8_snapped_77 : decode cX8_snapped 77 = .ok (.aload_n 0, 1) := by decide +kernel
theorem dX8_snapped_78 : decode cX8_snapped 78 = .ok (.getfield 9, 3) := by decide +kernel
theorem dX8_snapped_81 : decode cX8_snapped 81 = .ok (.iload_n 3, 1) := by decide +kernel
theorem dX8_snapped_82 : decode cX8_snapped 82 = .ok (.iload 4, 2) := by decide +kernel
theorem dX8_snapped_84 : decode cX8_snapped 84 = .ok (.iconst 4, 1) := by decide +kernel
theorem dX8_snapped_85 : decode cX8_snapped 85 = .ok (.invokestatic 136, 3) := by decide +kernel
theorem dX8_snapped_88 : decode cX8_snapped 88 = .ok (.invokestatic 116, 3) := by decide +kernel
theorem dX8_snapped_91 : decode cX8_snapped 91 = .ok (.aload_n 0, 1) := by decide +kernel
theorem dX8_snapped_92 : decode cX8_snapped 92 = .ok (.getfield 9, 3) := by decide +kernel
theorem dX8_snapped_95 : decode cX8_snapped 95 = .ok (.iload_n 3, 1) := by decide +kernel
theorem dX8_snapped_96 : decode cX8_snapped 96 = .ok (.iload 4, 2) := by decide +kernel
theorem dX8_snapped_98 : decode cX8_snapped 98 = .ok (.iconst 2, 1) := by decide +kernel
theorem dX8_snapped_99 : decode cX8_snapped 99 = .ok (.invokestatic 136, 3) := by decide +kernel
theorem dX8_snapped_102 : decode cX8_snapped 102 = .ok (.if_icmp .eq 7, 3) := by decide +kernel
theorem dX8_snapped_105 : decode cX8_snapped 105 = .ok (.iconst 1, 1) := by decide +kernel
theorem dX8_snapped_106 : decode cX8_snapped 106 = .ok (.goto 4, 3) := by decide +kernel
theorem dX8_snapped_109 : decode cX8_snapped 109 = .ok (.iconst 0, 1) := by decide +kernel
theorem dX8_snapped_110 : decode cX8_snapped 110 = .ok (.iadd, 1) := by decide +kernel
theorem dX8_snapped_111 : decode cX8_snapped 111 = .ok (.istore_n 2, 1) := by decide +kernel
theorem dX8_snapped_112 : decode cX8_snapped 112 = .ok (.iinc 4 1, 3) := by decide +kernel
theorem dX8_snapped_115 : decode cX8_snapped 115 = .ok (.goto (-102), 3) := by decide +kernel
theorem dX8_snapped_118 : decode cX8_snapped 118 = .ok (.iinc 3 1, 3) := by decide +kernel
theorem dX8_snapped_121 : decode cX8_snapped 121 = .ok (.goto (-117), 3) := by decide +kernel
theorem dX8_snapped_124 : decode cX8_snapped 124 = .ok (.iload_n 2, 1) := by decide +kernel
theorem dX8_snapped_125 : decode cX8_snapped 125 = .ok (.ireturn, 1) := by decide +kernel
def F_X8_snapped_b60 (x1 : Int32) (Q : VP) (post : Int32 → Prop) (X4 : Int32 → Int32 → Prop) (X13 : Int32 → Int32 → Prop) (v2 : Int32) (v3 : Int32) (v4 : Int32) (t0 : Int32) : Prop :=
  (t0 = 0 → X13 (v2 + 0) (v4 + 1)) ∧ (¬ t0 = 0 → (x1 = 0 → X13 (v2 + 1) (v4 + 1)) ∧ (¬ x1 = 0 → F_X8_told 23 v3 v4 ((4 : Int32)) Q (fun r85 => F_X8_found 23 v3 r85 Q (fun r88 => F_X8_told 23 v3 v4 ((2 : Int32)) Q (fun r99 => (r88 = r99 → X13 (v2 + 0) (v4 + 1)) ∧ (¬ r88 = r99 → X13 (v2 + 1) (v4 + 1)))))))
set_option maxRecDepth 4000 in
theorem s_X8_snapped_b60 {l : Launch} {g : vG} {x1 : Int32} {P Q : VP} {post : Int32 → Prop} {X4 : Int32 → Int32 → Prop} {X13 : Int32 → Int32 → Prop} {v2 : Int32} {v3 : Int32} {v4 : Int32} {t0 : Int32}   (hX4 : ∀ v2_ v3_, X4 v2_ v3_ → VM l g RX8 cX8_snapped 6 (some .int) 1 (vpI (vjn P Q) post) 4 [(0, vR 22 0), (1, vI x1), (2, vI v2_), (3, vI v3_)] [] (vjn P Q)) (hX13 : ∀ v2_ v4_, X13 v2_ v4_ → VM l g RX8 cX8_snapped 6 (some .int) 1 (vpI (vjn P Q) post) 13 [(0, vR 22 0), (1, vI x1), (2, vI v2_), (3, vI v3), (4, vI v4_)] [] (vjn P Q)) (h : F_X8_snapped_b60 x1 Q post X4 X13 v2 v3 v4 t0) : VM l g RX8 cX8_snapped 6 (some .int) 1 (vpI (vjn P Q) post) 60 [(0, vR 22 0), (1, vI x1), (2, vI v2), (3, vI v3), (4, vI v4)] [vI t0] (vjn P Q) := by
  unfold F_X8_snapped_b60 at h
  refine vr_istore [(5, vI t0), (0, vR 22 0), (1, vI x1), (2, vI v2), (3, vI v3), (4, vI v4)] dX8_snapped_60 (by decide) rfl ?_
  refine vr_iload_n 2 3 dX8_snapped_62 rfl rfl ?_
  refine vr_iload 0 dX8_snapped_63 rfl ?_
  refine vr_ifeq 109 dX8_snapped_65 (by decide) (fun c65 => ?_) (fun c65 => ?_)
  · have h := h.1 c65
    refine vr_iconst 0 dX8_snapped_109 (by decide) ?_
    refine vr_iadd dX8_snapped_110 ?_
    refine vr_istore_n 2 [(2, vI (v2 + 0)), (5, vI t0), (0, vR 22 0), (1, vI x1), (3, vI v3), (4, vI v4)] dX8_snapped_111 rfl (by decide) rfl ?_
    refine vr_iinc (v4 + 1) 5 [(4, vI (v4 + 1)), (2, vI (v2 + 0)), (5, vI t0), (0, vR 22 0), (1, vI x1), (3, vI v3)] dX8_snapped_112 rfl rfl (by decide) rfl ?_
    refine vr_goto 13 dX8_snapped_115 (by decide) ?_
    refine vr_sub [3, 4, 1, 5, 0] [(0, vR 22 0), (1, vI x1), (2, vI (v2 + 0)), (3, vI v3), (4, vI (v4 + 1))] rfl ?_
    exact hX13 _ _ h
  · have h := h.2 c65
    refine vr_iload_n 1 2 dX8_snapped_68 rfl rfl ?_
    refine vr_ifeq 105 dX8_snapped_69 (by decide) (fun c69 => ?_) (fun c69 => ?_)
    · have h := h.1 c69
      refine vr_iconst 1 dX8_snapped_105 (by decide) ?_
      refine vr_goto 110 dX8_snapped_106 (by decide) ?_
      refine vr_iadd dX8_snapped_110 ?_
      refine vr_istore_n 2 [(2, vI (v2 + 1)), (5, vI t0), (0, vR 22 0), (1, vI x1), (3, vI v3), (4, vI v4)] dX8_snapped_111 rfl (by decide) rfl ?_
      refine vr_iinc (v4 + 1) 5 [(4, vI (v4 + 1)), (2, vI (v2 + 1)), (5, vI t0), (0, vR 22 0), (1, vI x1), (3, vI v3)] dX8_snapped_112 rfl rfl (by decide) rfl ?_
      refine vr_goto 13 dX8_snapped_115 (by decide) ?_
      refine vr_sub [3, 4, 1, 5, 0] [(0, vR 22 0), (1, vI x1), (2, vI (v2 + 1)), (3, vI v3), (4, vI (v4 + 1))] rfl ?_
      exact hX13 _ _ h
    · have h := h.2 c69
      refine vr_aload_n 0 1 dX8_snapped_72 rfl rfl ?_
      refine vg_22_0 RX8 rfl (by decide) fl_8_9 dX8_snapped_73 ?_
      refine vr_iload_n 3 4 dX8_snapped_76 rfl rfl ?_
      refine vr_aload_n 0 1 dX8_snapped_77 rfl rfl ?_
      refine vg_22_0 RX8 rfl (by decide) fl_8_9 dX8_snapped_78 ?_
      refine vr_iload_n 3 4 dX8_snapped_81 rfl rfl ?_
      refine vr_iload 5 dX8_snapped_82 rfl ?_
      refine vr_iconst 4 dX8_snapped_84 (by decide) ?_
      refine vr_callS RX8 (s_X8_told ia_23 h) rfl rfl ml_8_136 rfl yh_X8_told rfl ⟨Nat.le_of_ble_eq_true rfl, Nat.le_of_ble_eq_true rfl⟩ (Nat.le_of_ble_eq_true rfl) ⟨Nat.zero_le _, Nat.zero_le _⟩ dX8_snapped_85 (ki fun r85 h => ?_)
      refine vr_callS RX8 (s_X8_found ia_23 h) rfl rfl ml_8_116 rfl yh_X8_found rfl ⟨Nat.le_of_ble_eq_true rfl, Nat.le_of_ble_eq_true rfl⟩ (Nat.le_of_ble_eq_true rfl) ⟨Nat.zero_le _, Nat.zero_le _⟩ dX8_snapped_88 (ki fun r88 h => ?_)
      refine vr_aload_n 0 1 dX8_snapped_91 rfl rfl ?_
      refine vg_22_0 RX8 rfl (by decide) fl_8_9 dX8_snapped_92 ?_
      refine vr_iload_n 3 4 dX8_snapped_95 rfl rfl ?_
      refine vr_iload 5 dX8_snapped_96 rfl ?_
      refine vr_iconst 2 dX8_snapped_98 (by decide) ?_
      refine vr_callS RX8 (s_X8_told ia_23 h) rfl rfl ml_8_136 rfl yh_X8_told rfl ⟨Nat.le_of_ble_eq_true rfl, Nat.le_of_ble_eq_true rfl⟩ (Nat.le_of_ble_eq_true rfl) ⟨Nat.zero_le _, Nat.zero_le _⟩ dX8_snapped_99 (ki fun r99 h => ?_)
      refine vr_icmpeq 109 dX8_snapped_102 (by decide) (fun c102 => ?_) (fun c102 => ?_)
      · have h := h.1 c102
        refine vr_iconst 0 dX8_snapped_109 (by decide) ?_
        refine vr_iadd dX8_snapped_110 ?_
        refine vr_istore_n 2 [(2, vI (v2 + 0)), (5, vI t0), (0, vR 22 0), (1, vI x1), (3, vI v3), (4, vI v4)] dX8_snapped_111 rfl (by decide) rfl ?_
        refine vr_iinc (v4 + 1) 5 [(4, vI (v4 + 1)), (2, vI (v2 + 0)), (5, vI t0), (0, vR 22 0), (1, vI x1), (3, vI v3)] dX8_snapped_112 rfl rfl (by decide) rfl ?_
        refine vr_goto 13 dX8_snapped_115 (by decide) ?_
        refine vr_sub [3, 4, 1, 5, 0] [(0, vR 22 0), (1, vI x1), (2, vI (v2 + 0)), (3, vI v3), (4, vI (v4 + 1))] rfl ?_
        exact hX13 _ _ h
      · have h := h.2 c102
        refine vr_iconst 1 dX8_snapped_105 (by decide) ?_
        refine vr_goto 110 dX8_snapped_106 (by decide) ?_
        refine vr_iadd dX8_snapped_110 ?_
        refine vr_istore_n 2 [(2, vI (v2 + 1)), (5, vI t0), (0, vR 22 0), (1, vI x1), (3, vI v3), (4, vI v4)] dX8_snapped_111 rfl (by decide) rfl ?_
        refine vr_iinc (v4 + 1) 5 [(4, vI (v4 + 1)), (2, vI (v2 + 1)), (5, vI t0), (0, vR 22 0), (1, vI x1), (3, vI v3)] dX8_snapped_112 rfl rfl (by decide) rfl ?_
        refine vr_goto 13 dX8_snapped_115 (by decide) ?_
        refine vr_sub [3, 4, 1, 5, 0] [(0, vR 22 0), (1, vI x1), (2, vI (v2 + 1)), (3, vI v3), (4, vI (v4 + 1))] rfl ?_
        exact hX13 _ _ h
def F_X8_snapped_l13 (x1 : Int32) (Q : VP) (post : Int32 → Prop) (X4 : Int32 → Int32 → Prop) (v3 : Int32) (X : Int32 → Int32 → Prop) (v2 : Int32) (v4 : Int32) : Prop :=
  (0 ≤ 32 + v3 ∧ 32 + v3 < 3464) ∧ ((Q 23 0 (ix (32 + v3)) = 1 → (0 ≤ 96 + v3 ∧ 96 + v3 < 3464) ∧ ((v4 < Q 23 0 (ix (96 + v3)) → F_X8_told 23 v3 v4 ((0 : Int32)) Q (fun r48 => (r48 = 5 → F_X8_snapped_b60 x1 Q post X4  X  v2 v3 v4 ((1 : Int32))) ∧ (¬ r48 = 5 → F_X8_snapped_b60 x1 Q post X4  X  v2 v3 v4 ((0 : Int32))))) ∧ (¬ v4 < Q 23 0 (ix (96 + v3)) → X4 v2 (v3 + 1)))) ∧ (¬ Q 23 0 (ix (32 + v3)) = 1 → X4 v2 (v3 + 1)))
set_option maxRecDepth 4000 in
theorem s_X8_snapped_l13 {l : Launch} {g : vG} {x1 : Int32} {P Q : VP} {post : Int32 → Prop} {X4 : Int32 → Int32 → Prop} {v3 : Int32}  {v2 : Int32} {v4 : Int32}  (hX4 : ∀ v2_ v3_, X4 v2_ v3_ → VM l g RX8 cX8_snapped 6 (some .int) 1 (vpI (vjn P Q) post) 4 [(0, vR 22 0), (1, vI x1), (2, vI v2_), (3, vI v3_)] [] (vjn P Q)) (h : vL2 (F_X8_snapped_l13 x1 Q post X4 v3) v2 v4) : VM l g RX8 cX8_snapped 6 (some .int) 1 (vpI (vjn P Q) post) 13 [(0, vR 22 0), (1, vI x1), (2, vI v2), (3, vI v3), (4, vI v4)] [] (vjn P Q) := by
  refine vL2_s (T := fun v2 v4 => VM l g RX8 cX8_snapped 6 (some .int) 1 (vpI (vjn P Q) post) 13 [(0, vR 22 0), (1, vI x1), (2, vI v2), (3, vI v3), (4, vI v4)] [] (vjn P Q)) ?_ h
  clear h
  intro X hX v2 v4 h
  unfold F_X8_snapped_l13 at h
  refine vr_aload_n 0 0 dX8_snapped_13 rfl rfl ?_
  refine vg_22_0 RX8 rfl (by decide) fl_8_9 dX8_snapped_14 ?_
  refine vr_bipush 32 dX8_snapped_17 (by decide) ?_
  refine vr_iload_n 3 3 dX8_snapped_19 rfl rfl ?_
  refine vr_iadd dX8_snapped_20 ?_
  have hi := h.1
  have h := h.2
  refine vr_ialdQ 3464 ia_23 rfl hi dX8_snapped_21 ?_
  refine vr_iconst 1 dX8_snapped_22 (by decide) ?_
  refine vr_icmpne 118 dX8_snapped_23 (by decide) (fun c23 => ?_) (fun c23 => ?_)
  · have h := h.1 c23
    refine vr_iload 4 dX8_snapped_26 rfl ?_
    refine vr_aload_n 0 0 dX8_snapped_28 rfl rfl ?_
    refine vg_22_0 RX8 rfl (by decide) fl_8_9 dX8_snapped_29 ?_
    refine vr_bipush 96 dX8_snapped_32 (by decide) ?_
    refine vr_iload_n 3 3 dX8_snapped_34 rfl rfl ?_
    refine vr_iadd dX8_snapped_35 ?_
    have hi := h.1
    have h := h.2
    refine vr_ialdQ 3464 ia_23 rfl hi dX8_snapped_36 ?_
    refine vr_icmpge 118 dX8_snapped_37 (by decide) (fun c37 => ?_) (fun c37 => ?_)
    · have h := h.1 c37
      refine vr_aload_n 0 0 dX8_snapped_40 rfl rfl ?_
      refine vg_22_0 RX8 rfl (by decide) fl_8_9 dX8_snapped_41 ?_
      refine vr_iload_n 3 3 dX8_snapped_44 rfl rfl ?_
      refine vr_iload 4 dX8_snapped_45 rfl ?_
      refine vr_iconst 0 dX8_snapped_47 (by decide) ?_
      refine vr_callS RX8 (s_X8_told ia_23 h) rfl rfl ml_8_136 rfl yh_X8_told rfl ⟨Nat.le_of_ble_eq_true rfl, Nat.le_of_ble_eq_true rfl⟩ (Nat.le_of_ble_eq_true rfl) ⟨Nat.zero_le _, Nat.zero_le _⟩ dX8_snapped_48 (ki fun r48 h => ?_)
      refine vr_iconst 5 dX8_snapped_51 (by decide) ?_
      refine vr_icmpne 59 dX8_snapped_52 (by decide) (fun c52 => ?_) (fun c52 => ?_)
      · have h := h.1 c52
        refine vr_iconst 1 dX8_snapped_55 (by decide) ?_
        refine vr_goto 60 dX8_snapped_56 (by decide) ?_
        exact s_X8_snapped_b60  hX4  hX  h
      · have h := h.2 c52
        refine vr_iconst 0 dX8_snapped_59 (by decide) ?_
        exact s_X8_snapped_b60  hX4  hX  h
    · have h := h.2 c37
      refine vr_iinc (v3 + 1) 3 [(3, vI (v3 + 1)), (0, vR 22 0), (1, vI x1), (2, vI v2), (4, vI v4)] dX8_snapped_118 rfl rfl (by decide) rfl ?_
      refine vr_goto 4 dX8_snapped_121 (by decide) ?_
      refine vr_sub [1, 2, 3, 0] [(0, vR 22 0), (1, vI x1), (2, vI v2), (3, vI (v3 + 1))] rfl ?_
      exact hX4 _ _ h
  · have h := h.2 c23
    refine vr_iinc (v3 + 1) 3 [(3, vI (v3 + 1)), (0, vR 22 0), (1, vI x1), (2, vI v2), (4, vI v4)] dX8_snapped_118 rfl rfl (by decide) rfl ?_
    refine vr_goto 4 dX8_snapped_121 (by decide) ?_
    refine vr_sub [1, 2, 3, 0] [(0, vR 22 0), (1, vI x1), (2, vI v2), (3, vI (v3 + 1))] rfl ?_
    exact hX4 _ _ h
def F_X8_snapped_l4 (x1 : Int32) (Q : VP) (post : Int32 → Prop)   (X : Int32 → Int32 → Prop) (v2 : Int32) (v3 : Int32) : Prop :=
  (v3 < 16 → vL2 (F_X8_snapped_l13 x1 Q post X  v3) v2 ((0 : Int32))) ∧ (¬ v3 < 16 → post v2)
set_option maxRecDepth 4000 in
theorem s_X8_snapped_l4 {l : Launch} {g : vG} {x1 : Int32} {P Q : VP} {post : Int32 → Prop}    {v2 : Int32} {v3 : Int32}   (h : vL2 (F_X8_snapped_l4 x1 Q post  ) v2 v3) : VM l g RX8 cX8_snapped 6 (some .int) 1 (vpI (vjn P Q) post) 4 [(0, vR 22 0), (1, vI x1), (2, vI v2), (3, vI v3)] [] (vjn P Q) := by
  refine vL2_s (T := fun v2 v3 => VM l g RX8 cX8_snapped 6 (some .int) 1 (vpI (vjn P Q) post) 4 [(0, vR 22 0), (1, vI x1), (2, vI v2), (3, vI v3)] [] (vjn P Q)) ?_ h
  clear h
  intro X hX v2 v3 h
  unfold F_X8_snapped_l4 at h
  refine vr_iload_n 3 3 dX8_snapped_4 rfl rfl ?_
  refine vr_bipush 16 dX8_snapped_5 (by decide) ?_
  refine vr_icmpge 124 dX8_snapped_7 (by decide) (fun c7 => ?_) (fun c7 => ?_)
  · have h := h.1 c7
    refine vr_iconst 0 dX8_snapped_10 (by decide) ?_
    refine vr_istore [(4, vI 0), (0, vR 22 0), (1, vI x1), (2, vI v2), (3, vI v3)] dX8_snapped_11 (by decide) rfl ?_
    refine vr_sub [1, 2, 3, 4, 0] [(0, vR 22 0), (1, vI x1), (2, vI v2), (3, vI v3), (4, vI 0)] rfl ?_
    exact s_X8_snapped_l13  hX  h
  · have h := h.2 c7
    refine vr_iload_n 2 2 dX8_snapped_124 rfl rfl ?_
    exact vr_iret rfl ⟨rfl, _, rfl, h⟩ dX8_snapped_125
def F_X8_snapped (x1 : Int32) (Q : VP) (post : Int32 → Prop) : Prop :=
  vL2 (F_X8_snapped_l4 x1 Q post  ) ((0 : Int32)) ((0 : Int32))
set_option maxRecDepth 4000 in
theorem s_X8_snapped {l : Launch} {g : vG} {x1 : Int32} {P Q : VP} {post : Int32 → Prop}  (h : F_X8_snapped x1 Q post) : VC l g yX8_snapped cX8_snapped 6 (some .int) 1 [vR 22 0, vI x1] (vjn P Q) (vpI (vjn P Q) post) := by
  refine VC.of (by decide +kernel) (Nat.le_of_ble_eq_true rfl) (show VM l g RX8 cX8_snapped 6 (some .int) 1 (vpI (vjn P Q) post) 0 [(0, vR 22 0), (1, vI x1)] [] (vjn P Q) from ?_)
  unfold F_X8_snapped at h
  refine vr_iconst 0 dX8_snapped_0 (by decide) ?_
  refine vr_istore_n 2 [(2, vI 0), (0, vR 22 0), (1, vI x1)] dX8_snapped_1 rfl (by decide) rfl ?_
  refine vr_iconst 0 dX8_snapped_2 (by decide) ?_
  refine vr_istore_n 3 [(3, vI 0), (2, vI 0), (0, vR 22 0), (1, vI x1)] dX8_snapped_3 rfl (by decide) rfl ?_
  refine vr_sub [2, 3, 1, 0] [(0, vR 22 0), (1, vI x1), (2, vI 0), (3, vI 0)] rfl ?_
  exact s_X8_snapped_l4   h
theorem dX8_stale_0 : decode cX8_stale 0 = .ok (.aload_n 0, 1) := by decide +kernel
theorem dX8_stale_1 : decode cX8_stale 1 = .ok (.iconst 1, 1) := by decide +kernel
theorem dX8_stale_2 : decode cX8_stale 2 = .ok (.invokevirtual 302, 3) := by decide +kernel
theorem dX8_stale_5 : decode cX8_stale 5 = .ok (.ireturn, 1) := by decide +kernel
def F_X8_stale  (Q : VP) (post : Int32 → Prop) : Prop :=
  F_X8_snapped ((1 : Int32)) Q (fun r2 => post r2)
set_option maxRecDepth 4000 in
theorem s_X8_stale {l : Launch} {g : vG}  {P Q : VP} {post : Int32 → Prop}  (h : F_X8_stale  Q post) : VC l g yX8_stale cX8_stale 1 (some .int) 2 [vR 22 0] (vjn P Q) (vpI (vjn P Q) post) := by
  refine VC.of (by decide +kernel) (Nat.le_of_ble_eq_true rfl) (show VM l g RX8 cX8_stale 1 (some .int) 2 (vpI (vjn P Q) post) 0 [(0, vR 22 0)] [] (vjn P Q) from ?_)
  unfold F_X8_stale at h
  refine vr_aload_n 0 0 dX8_stale_0 rfl rfl ?_
  refine vr_iconst 1 dX8_stale_1 (by decide) ?_
  refine vr_callV RX8 (s_X8_snapped h) rfl (by decide) rfl rfl rfl ml_8_302 rfl yh_X8_snapped rfl ⟨Nat.le_of_ble_eq_true rfl, Nat.le_of_ble_eq_true rfl⟩ (Nat.le_of_ble_eq_true rfl) ⟨Nat.zero_le _, Nat.zero_le _⟩ dX8_stale_2 (ki fun r2 h => ?_)
  exact vr_iret rfl ⟨rfl, _, rfl, h⟩ dX8_stale_5
theorem dX8_drawn_0 : decode cX8_drawn 0 = .ok (.iload_n 2, 1) := by decide +kernel
theorem dX8_drawn_1 : decode cX8_drawn 1 = .ok (.i2l, 1) := by decide +kernel
theorem dX8_drawn_2 : decode cX8_drawn 2 = .ok (.lconst 1, 1) := by decide +kernel
theorem dX8_drawn_3 : decode cX8_drawn 3 = .ok (.ldc2_w 283, 3) := by decide +kernel
theorem dX8_drawn_6 : decode cX8_drawn 6 = .ok (.invokestatic 54, 3) := by decide +kernel
theorem dX8_drawn_9 : decode cX8_drawn 9 = .ok (.ifCond .ne 5, 3) := by decide +kernel
theorem dX8_drawn_12 : decode cX8_drawn 12 = .ok (.iconst (-1), 1) := by decide +kernel
theorem dX8_drawn_13 : decode cX8_drawn 13 = .ok (.ireturn, 1) := by decide +kernel
theorem dX8_drawn_14 : decode cX8_drawn 14 = .ok (.iload_n 1, 1) := by decide +kernel
theorem dX8_drawn_15 : decode cX8_drawn 15 = .ok (.istore_n 3, 1) := by decide +kernel
theorem dX8_drawn_16 : decode cX8_drawn 16 = .ok (.iconst 0, 1) := by decide +kernel
theorem dX8_drawn_17 : decode cX8_drawn 17 = .ok (.istore 4, 2) := by decide +kernel
theorem dX8_drawn_19 : decode cX8_drawn 19 = .ok (.iconst 0, 1) := by decide +kernel
theorem dX8_drawn_20 : decode cX8_drawn 20 = .ok (.istore 5, 2) := by decide +kernel
theorem dX8_drawn_22 : decode cX8_drawn 22 = .ok (.iload 5, 2) := by decide +kernel
theorem dX8_drawn_24 : decode cX8_drawn 24 = .ok (.iload_n 2, 1) := by decide +kernel
theorem dX8_drawn_25 : decode cX8_drawn 25 = .ok (.if_icmp .ge 135, 3) := by decide +kernel
theorem dX8_drawn_28 : decode cX8_drawn 28 = .ok (.iload_n 3, 1) := by decide +kernel
theorem dX8_drawn_29 : decode cX8_drawn 29 = .ok (.ldc_w 306, 3) := by decide +kernel
theorem dX8_drawn_32 : decode cX8_drawn 32 = .ok (.imul, 1) := by decide +kernel
theorem dX8_drawn_33 : decode cX8_drawn 33 = .ok (.sipush 12345, 3) := by decide +kernel
theorem dX8_drawn_36 : decode cX8_drawn 36 = .ok (.iadd, 1) := by decide +kernel
theorem dX8_drawn_37 : decode cX8_drawn 37 = .ok (.istore_n 3, 1) := by decide +kernel
theorem dX8_drawn_38 : decode cX8_drawn 38 = .ok (.iload_n 3, 1) := by decide +kernel
theorem dX8_drawn_39 : decode cX8_drawn 39 = .ok (.bipush 8, 2) := by decide +kernel
theorem dX8_drawn_41 : decode cX8_drawn 41 = .ok (.iushr, 1) := by decide +kernel
theorem dX8_drawn_42 : decode cX8_drawn 42 = .ok (.bipush 7, 2) := by decide +kernel
theorem dX8_drawn_44 : decode cX8_drawn 44 = .ok (.iand, 1) := by decide +kernel
theorem dX8_drawn_45 : decode cX8_drawn 45 = .ok (.istore 6, 2) := by decide +kernel
theorem dX8_drawn_47 : decode cX8_drawn 47 = .ok (.iload_n 3, 1) := by decide +kernel
theorem dX8_drawn_48 : decode cX8_drawn 48 = .ok (.bipush 11, 2) := by decide +kernel
theorem dX8_drawn_50 : decode cX8_drawn 50 = .ok (.iushr, 1) := by decide +kernel
theorem dX8_drawn_51 : decode cX8_drawn 51 = .ok (.bipush 15, 2) := by decide +kernel
theorem dX8_drawn_53 : decode cX8_drawn 53 = .ok (.iand, 1) := by decide +kernel
theorem dX8_drawn_54 : decode cX8_drawn 54 = .ok (.istore 7, 2) := by decide +kernel
theorem dX8_drawn_56 : decode cX8_drawn 56 = .ok (.iload_n 3, 1) := by decide +kernel
theorem dX8_drawn_57 : decode cX8_drawn 57 = .ok (.bipush 16, 2) := by decide +kernel
theorem dX8_drawn_59 : decode cX8_drawn 59 = .ok (.iushr, 1) := by decide +kernel
theorem dX8_drawn_60 : decode cX8_drawn 60 = .ok (.iconst 3, 1) := by decide +kernel
theorem dX8_drawn_61 : decode cX8_drawn 61 = .ok (.irem, 1) := by decide +kernel
theorem dX8_drawn_62 : decode cX8_drawn 62 = .ok (.istore 8, 2) := by decide +kernel
theorem dX8_drawn_64 : decode cX8_drawn 64 = .ok (.aload_n 0, 1) := by decide +kernel
theorem dX8_drawn_65 : decode cX8_drawn 65 = .ok (.iload 7, 2) := by decide +kernel
theorem dX8_drawn_67 : decode cX8_drawn 67 = .ok (.invokevirtual 95, 3) := by decide +kernel
theorem dX8_drawn_70 : decode cX8_drawn 70 = .ok (.ifCond .eq 66, 3) := by decide +kernel
theorem dX8_drawn_73 : decode cX8_drawn 73 = .ok (.iload 8, 2) := by decide +kernel
theorem dX8_drawn_75 : decode cX8_drawn 75 = .ok (.ifCond .ne 20, 3) := by decide +kernel
theorem dX8_drawn_78 : decode cX8_drawn 78 = .ok (.aload_n 0, 1) := by decide +kernel
theorem dX8_drawn_79 : decode cX8_drawn 79 = .ok (.getfield 9, 3) := by decide +kernel
theorem dX8_drawn_82 : decode cX8_drawn 82 = .ok (.iload 7, 2) := by decide +kernel
theorem dX8_drawn_84 : decode cX8_drawn 84 = .ok (.iload 6, 2) := by decide +kernel
theorem dX8_drawn_86 : decode cX8_drawn 86 = .ok (.invokestatic 231, 3) := by decide +kernel
theorem dX8_drawn_89 : decode cX8_drawn 89 = .ok (.ifCond .eq 47, 3) := by decide +kernel
theorem dX8_drawn_92 : decode cX8_drawn 92 = .ok (.goto 40, 3) := by decide +kernel
theorem dX8_drawn_95 : decode cX8_drawn 95 = .ok (.iload 8, 2) := by decide +kernel
theorem dX8_drawn_97 : decode cX8_drawn 97 = .ok (.iconst 1, 1) := by decide +kernel
theorem dX8_drawn_98 : decode cX8_drawn 98 = .ok (.if_icmp .ne 20, 3) := by decide +kernel
theorem dX8_drawn_101 : decode cX8_drawn 101 = .ok (.aload_n 0, 1) := by decide +kernel
theorem dX8_drawn_102 : decode cX8_drawn 102 = .ok (.getfield 9, 3) := by decide +kernel
theorem dX8_drawn_105 : decode cX8_drawn 105 = .ok (.iload 7, 2) := by decide +kernel
theorem dX8_drawn_107 : decode cX8_drawn 107 = .ok (.iload 6, 2) := by decide +kernel
theorem dX8_drawn_109 : decode cX8_drawn 109 = .ok (.invokestatic 241, 3) := by decide +kernel
theorem dX8_drawn_112 : decode cX8_drawn 112 = .ok (.ifCond .eq 24, 3) := by decide +kernel
theorem dX8_drawn_115 : decode cX8_drawn 115 = .ok (.goto 17, 3) := by decide +kernel
theorem dX8_drawn_118 : decode cX8_drawn 118 = .ok (.aload_n 0, 1) := by decide +kernel
theorem dX8_drawn_119 : decode cX8_drawn 119 = .ok (.getfield 9, 3) := by decide +kernel
theorem dX8_drawn_122 : decode cX8_drawn 122 = .ok (.iload 7, 2) := by decide +kernel
theorem dX8_drawn_124 : decode cX8_drawn 124 = .ok (.iload 6, 2) := by decide +kernel
theorem dX8_drawn_126 : decode cX8_drawn 126 = .ok (.invokestatic 259, 3) := by decide +kernel
theorem dX8_drawn_129 : decode cX8_drawn 129 = .ok (.ifCond .eq 7, 3) := by decide +kernel
theorem dX8_drawn_132 : decode cX8_drawn 132 = .ok (.iconst 1, 1) := by decide +kernel
theorem dX8_drawn_133 : decode cX8_drawn 133 = .ok (.goto 4, 3) := by decide +kernel
theorem dX8_drawn_136 : decode cX8_drawn 136 = .ok (.iconst 0, 1) := by decide +kernel
theorem dX8_drawn_137 : decode cX8_drawn 137 = .ok (.istore 9, 2) := by decide +kernel
theorem dX8_drawn_139 : decode cX8_drawn 139 = .ok (.iload 4, 2) := by decide +kernel
theorem dX8_drawn_141 : decode cX8_drawn 141 = .ok (.iload 9, 2) := by decide +kernel
theorem dX8_drawn_143 : decode cX8_drawn 143 = .ok (.ifCond .eq 7, 3) := by decide +kernel
theorem dX8_drawn_146 : decode cX8_drawn 146 = .ok (.iconst 1, 1) := by decide +kernel
theorem dX8_drawn_147 : decode cX8_drawn 147 = .ok (.goto 4, 3) := by decide +kernel
theorem dX8_drawn_150 : decode cX8_drawn 150 = .ok (.iconst 0, 1) := by decide +kernel
theorem dX8_drawn_151 : decode cX8_drawn 151 = .ok (.iadd, 1) := by decide +kernel
theorem dX8_drawn_152 : decode cX8_drawn 152 = .ok (.istore 4, 2) := by decide +kernel
theorem dX8_drawn_154 : decode cX8_drawn 154 = .ok (.iinc 5 1, 3) := by decide +kernel
theorem dX8_drawn_157 : decode cX8_drawn 157 = .ok (.goto (-135), 3) := by decide +kernel
theorem dX8_drawn_160 : decode cX8_drawn 160 = .ok (.iload 4, 2) := by decide +kernel
theorem dX8_drawn_162 : decode cX8_drawn 162 = .ok (.ireturn, 1) := by decide +kernel
def F_X8_drawn_b137 (x1 : Int32) (x2 : Int32) (Q : VP) (post : Int32 → Prop) (X22 : Int32 → Int32 → Int32 → Prop) (v3 : Int32) (v4 : Int32) (v5 : Int32) (t0 : Int32) : Prop :=
  (t0 = 0 → X22 v3 (v4 + 0) (v5 + 1)) ∧ (¬ t0 = 0 → X22 v3 (v4 + 1) (v5 + 1))
set_option maxRecDepth 4000 in
theorem s_X8_drawn_b137 {l : Launch} {g : vG} {x1 : Int32} {x2 : Int32} {P Q : VP} {post : Int32 → Prop} {X22 : Int32 → Int32 → Int32 → Prop} {v3 : Int32} {v4 : Int32} {v5 : Int32} {t0 : Int32}   (hX22 : ∀ v3_ v4_ v5_, X22 v3_ v4_ v5_ → VM l g RX8 cX8_drawn 10 (some .int) 3 (vpI (vjn P Q) post) 22 [(0, vR 22 0), (2, vI x2), (3, vI v3_), (4, vI v4_), (5, vI v5_)] [] (vjn P Q)) (h : F_X8_drawn_b137 x1 x2 Q post X22 v3 v4 v5 t0) : VM l g RX8 cX8_drawn 10 (some .int) 3 (vpI (vjn P Q) post) 137 [(0, vR 22 0), (2, vI x2), (3, vI v3), (4, vI v4), (5, vI v5)] [vI t0] (vjn P Q) := by
  unfold F_X8_drawn_b137 at h
  refine vr_istore [(9, vI t0), (0, vR 22 0), (2, vI x2), (3, vI v3), (4, vI v4), (5, vI v5)] dX8_drawn_137 (by decide) rfl ?_
  refine vr_iload 4 dX8_drawn_139 rfl ?_
  refine vr_iload 0 dX8_drawn_141 rfl ?_
  refine vr_ifeq 150 dX8_drawn_143 (by decide) (fun c143 => ?_) (fun c143 => ?_)
  · have h := h.1 c143
    refine vr_iconst 0 dX8_drawn_150 (by decide) ?_
    refine vr_iadd dX8_drawn_151 ?_
    refine vr_istore [(4, vI (v4 + 0)), (9, vI t0), (0, vR 22 0), (2, vI x2), (3, vI v3), (5, vI v5)] dX8_drawn_152 (by decide) rfl ?_
    refine vr_iinc (v5 + 1) 5 [(5, vI (v5 + 1)), (4, vI (v4 + 0)), (9, vI t0), (0, vR 22 0), (2, vI x2), (3, vI v3)] dX8_drawn_154 rfl rfl (by decide) rfl ?_
    refine vr_goto 22 dX8_drawn_157 (by decide) ?_
    refine vr_sub [3, 4, 5, 1, 0] [(0, vR 22 0), (2, vI x2), (3, vI v3), (4, vI (v4 + 0)), (5, vI (v5 + 1))] rfl ?_
    exact hX22 _ _ _ h
  · have h := h.2 c143
    refine vr_iconst 1 dX8_drawn_146 (by decide) ?_
    refine vr_goto 151 dX8_drawn_147 (by decide) ?_
    refine vr_iadd dX8_drawn_151 ?_
    refine vr_istore [(4, vI (v4 + 1)), (9, vI t0), (0, vR 22 0), (2, vI x2), (3, vI v3), (5, vI v5)] dX8_drawn_152 (by decide) rfl ?_
    refine vr_iinc (v5 + 1) 5 [(5, vI (v5 + 1)), (4, vI (v4 + 1)), (9, vI t0), (0, vR 22 0), (2, vI x2), (3, vI v3)] dX8_drawn_154 rfl rfl (by decide) rfl ?_
    refine vr_goto 22 dX8_drawn_157 (by decide) ?_
    refine vr_sub [3, 4, 5, 1, 0] [(0, vR 22 0), (2, vI x2), (3, vI v3), (4, vI (v4 + 1)), (5, vI (v5 + 1))] rfl ?_
    exact hX22 _ _ _ h
def F_X8_drawn_l22 (x1 : Int32) (x2 : Int32) (Q : VP) (post : Int32 → Prop)   (X : Int32 → Int32 → Int32 → Prop) (v3 : Int32) (v4 : Int32) (v5 : Int32) : Prop :=
  (v5 < x2 → ∀ v6_45 : Int32, v6_45 = (vush ((v3 * 1103515245) + 12345) 8) &&& 7 → (∀ v7_54 : Int32, v7_54 = (vush ((v3 * 1103515245) + 12345) 11) &&& 15 → (∀ v8_62 : Int32, v8_62 = (vush ((v3 * 1103515245) + 12345) 16) - (vush ((v3 * 1103515245) + 12345) 16) / 3 * 3 → (F_X8_isSegment v7_54 Q (fun r67 => (r67 = 0 → F_X8_drawn_b137 x1 x2 Q post X  ((v3 * 1103515245) + 12345) v4 v5 ((0 : Int32))) ∧ (¬ r67 = 0 → (v8_62 = 0 → F_X8_mayRead 23 v7_54 v6_45 Q (fun r86 => (r86 = 0 → F_X8_drawn_b137 x1 x2 Q post X  ((v3 * 1103515245) + 12345) v4 v5 ((0 : Int32))) ∧ (¬ r86 = 0 → F_X8_drawn_b137 x1 x2 Q post X  ((v3 * 1103515245) + 12345) v4 v5 ((1 : Int32))))) ∧ (¬ v8_62 = 0 → (v8_62 = 1 → F_X8_mayWrite 23 v7_54 v6_45 Q (fun r109 => (r109 = 0 → F_X8_drawn_b137 x1 x2 Q post X  ((v3 * 1103515245) + 12345) v4 v5 ((0 : Int32))) ∧ (¬ r109 = 0 → F_X8_drawn_b137 x1 x2 Q post X  ((v3 * 1103515245) + 12345) v4 v5 ((1 : Int32))))) ∧ (¬ v8_62 = 1 → F_X8_mayGo 23 v7_54 v6_45 Q (fun r126 => (r126 = 0 → F_X8_drawn_b137 x1 x2 Q post X  ((v3 * 1103515245) + 12345) v4 v5 ((0 : Int32))) ∧ (¬ r126 = 0 → F_X8_drawn_b137 x1 x2 Q post X  ((v3 * 1103515245) + 12345) v4 v5 ((1 : Int32)))))))))))) ∧ (¬ v5 < x2 → post v4)
set_option maxRecDepth 4000 in
theorem s_X8_drawn_l22 {l : Launch} {g : vG} {x1 : Int32} {x2 : Int32} {P Q : VP} {post : Int32 → Prop}    {v3 : Int32} {v4 : Int32} {v5 : Int32}   (h : vL3 (F_X8_drawn_l22 x1 x2 Q post  ) v3 v4 v5) : VM l g RX8 cX8_drawn 10 (some .int) 3 (vpI (vjn P Q) post) 22 [(0, vR 22 0), (2, vI x2), (3, vI v3), (4, vI v4), (5, vI v5)] [] (vjn P Q) := by
  refine vL3_s (T := fun v3 v4 v5 => VM l g RX8 cX8_drawn 10 (some .int) 3 (vpI (vjn P Q) post) 22 [(0, vR 22 0), (2, vI x2), (3, vI v3), (4, vI v4), (5, vI v5)] [] (vjn P Q)) ?_ h
  clear h
  intro X hX v3 v4 v5 h
  unfold F_X8_drawn_l22 at h
  refine vr_iload 4 dX8_drawn_22 rfl ?_
  refine vr_iload_n 2 1 dX8_drawn_24 rfl rfl ?_
  refine vr_icmpge 160 dX8_drawn_25 (by decide) (fun c25 => ?_) (fun c25 => ?_)
  · have h := h.1 c25
    refine vr_iload_n 3 2 dX8_drawn_28 rfl rfl ?_
    refine vr_ldcw 1103515245 ct_8_306 dX8_drawn_29 ?_
    refine vr_imul dX8_drawn_32 ?_
    refine vr_sipush 12345 dX8_drawn_33 (by decide) ?_
    refine vr_iadd dX8_drawn_36 ?_
    refine vr_istore_n 3 [(3, vI ((v3 * 1103515245) + 12345)), (0, vR 22 0), (2, vI x2), (4, vI v4), (5, vI v5)] dX8_drawn_37 rfl (by decide) rfl ?_
    refine vr_iload_n 3 0 dX8_drawn_38 rfl rfl ?_
    refine vr_bipush 8 dX8_drawn_39 (by decide) ?_
    refine vr_iushr dX8_drawn_41 ?_
    refine vr_bipush 7 dX8_drawn_42 (by decide) ?_
    refine vr_iand dX8_drawn_44 ?_
    obtain ⟨v6_45, ev6_45⟩ : ∃ y : Int32, y = (vush ((v3 * 1103515245) + 12345) 8) &&& 7 := ⟨_, rfl⟩
    have h := h v6_45 ev6_45
    refine vr_nm ev6_45 ?_
    refine vr_istore [(6, vI v6_45), (3, vI ((v3 * 1103515245) + 12345)), (0, vR 22 0), (2, vI x2), (4, vI v4), (5, vI v5)] dX8_drawn_45 (by decide) rfl ?_
    refine vr_iload_n 3 1 dX8_drawn_47 rfl rfl ?_
    refine vr_bipush 11 dX8_drawn_48 (by decide) ?_
    refine vr_iushr dX8_drawn_50 ?_
    refine vr_bipush 15 dX8_drawn_51 (by decide) ?_
    refine vr_iand dX8_drawn_53 ?_
    obtain ⟨v7_54, ev7_54⟩ : ∃ y : Int32, y = (vush ((v3 * 1103515245) + 12345) 11) &&& 15 := ⟨_, rfl⟩
    have h := h v7_54 ev7_54
    refine vr_nm ev7_54 ?_
    refine vr_istore [(7, vI v7_54), (6, vI v6_45), (3, vI ((v3 * 1103515245) + 12345)), (0, vR 22 0), (2, vI x2), (4, vI v4), (5, vI v5)] dX8_drawn_54 (by decide) rfl ?_
    refine vr_iload_n 3 2 dX8_drawn_56 rfl rfl ?_
    refine vr_bipush 16 dX8_drawn_57 (by decide) ?_
    refine vr_iushr dX8_drawn_59 ?_
    refine vr_iconst 3 dX8_drawn_60 (by decide) ?_
    refine vr_irem dX8_drawn_61 (by decide) ?_
    obtain ⟨v8_62, ev8_62⟩ : ∃ y : Int32, y = (vush ((v3 * 1103515245) + 12345) 16) - (vush ((v3 * 1103515245) + 12345) 16) / 3 * 3 := ⟨_, rfl⟩
    have h := h v8_62 ev8_62
    refine vr_nm ev8_62 ?_
    refine vr_istore [(8, vI v8_62), (7, vI v7_54), (6, vI v6_45), (3, vI ((v3 * 1103515245) + 12345)), (0, vR 22 0), (2, vI x2), (4, vI v4), (5, vI v5)] dX8_drawn_62 (by decide) rfl ?_
    refine vr_aload_n 0 4 dX8_drawn_64 rfl rfl ?_
    refine vr_iload 1 dX8_drawn_65 rfl ?_
    refine vr_callV RX8 (s_X8_isSegment h) rfl (by decide) rfl rfl rfl ml_8_95 rfl yh_X8_isSegment rfl ⟨Nat.le_of_ble_eq_true rfl, Nat.le_of_ble_eq_true rfl⟩ (Nat.le_of_ble_eq_true rfl) ⟨Nat.zero_le _, Nat.zero_le _⟩ dX8_drawn_67 (ki fun r67 h => ?_)
    refine vr_ifeq 136 dX8_drawn_70 (by decide) (fun c70 => ?_) (fun c70 => ?_)
    · have h := h.1 c70
      refine vr_iconst 0 dX8_drawn_136 (by decide) ?_
      refine vr_sub [4, 5, 3, 6, 7] [(0, vR 22 0), (2, vI x2), (3, vI ((v3 * 1103515245) + 12345)), (4, vI v4), (5, vI v5)] rfl ?_
      exact s_X8_drawn_b137  hX  h
    · have h := h.2 c70
      refine vr_iload 0 dX8_drawn_73 rfl ?_
      refine vr_ifne 95 dX8_drawn_75 (by decide) (fun c75 => ?_) (fun c75 => ?_)
      · have h := h.1 c75
        refine vr_aload_n 0 4 dX8_drawn_78 rfl rfl ?_
        refine vg_22_0 RX8 rfl (by decide) fl_8_9 dX8_drawn_79 ?_
        refine vr_iload 1 dX8_drawn_82 rfl ?_
        refine vr_iload 2 dX8_drawn_84 rfl ?_
        refine vr_callS RX8 (s_X8_mayRead ia_23 h) rfl rfl ml_8_231 rfl yh_X8_mayRead rfl ⟨Nat.le_of_ble_eq_true rfl, Nat.le_of_ble_eq_true rfl⟩ (Nat.le_of_ble_eq_true rfl) ⟨Nat.zero_le _, Nat.zero_le _⟩ dX8_drawn_86 (ki fun r86 h => ?_)
        refine vr_ifeq 136 dX8_drawn_89 (by decide) (fun c89 => ?_) (fun c89 => ?_)
        · have h := h.1 c89
          refine vr_iconst 0 dX8_drawn_136 (by decide) ?_
          refine vr_sub [4, 5, 3, 6, 7] [(0, vR 22 0), (2, vI x2), (3, vI ((v3 * 1103515245) + 12345)), (4, vI v4), (5, vI v5)] rfl ?_
          exact s_X8_drawn_b137  hX  h
        · have h := h.2 c89
          refine vr_goto 132 dX8_drawn_92 (by decide) ?_
          refine vr_iconst 1 dX8_drawn_132 (by decide) ?_
          refine vr_goto 137 dX8_drawn_133 (by decide) ?_
          refine vr_sub [4, 5, 3, 6, 7] [(0, vR 22 0), (2, vI x2), (3, vI ((v3 * 1103515245) + 12345)), (4, vI v4), (5, vI v5)] rfl ?_
          exact s_X8_drawn_b137  hX  h
      · have h := h.2 c75
        refine vr_iload 0 dX8_drawn_95 rfl ?_
        refine vr_iconst 1 dX8_drawn_97 (by decide) ?_
        refine vr_icmpne 118 dX8_drawn_98 (by decide) (fun c98 => ?_) (fun c98 => ?_)
        · have h := h.1 c98
          refine vr_aload_n 0 4 dX8_drawn_101 rfl rfl ?_
          refine vg_22_0 RX8 rfl (by decide) fl_8_9 dX8_drawn_102 ?_
          refine vr_iload 1 dX8_drawn_105 rfl ?_
          refine vr_iload 2 dX8_drawn_107 rfl ?_
          refine vr_callS RX8 (s_X8_mayWrite ia_23 h) rfl rfl ml_8_241 rfl yh_X8_mayWrite rfl ⟨Nat.le_of_ble_eq_true rfl, Nat.le_of_ble_eq_true rfl⟩ (Nat.le_of_ble_eq_true rfl) ⟨Nat.zero_le _, Nat.zero_le _⟩ dX8_drawn_109 (ki fun r109 h => ?_)
          refine vr_ifeq 136 dX8_drawn_112 (by decide) (fun c112 => ?_) (fun c112 => ?_)
          · have h := h.1 c112
            refine vr_iconst 0 dX8_drawn_136 (by decide) ?_
            refine vr_sub [4, 5, 3, 6, 7] [(0, vR 22 0), (2, vI x2), (3, vI ((v3 * 1103515245) + 12345)), (4, vI v4), (5, vI v5)] rfl ?_
            exact s_X8_drawn_b137  hX  h
          · have h := h.2 c112
            refine vr_goto 132 dX8_drawn_115 (by decide) ?_
            refine vr_iconst 1 dX8_drawn_132 (by decide) ?_
            refine vr_goto 137 dX8_drawn_133 (by decide) ?_
            refine vr_sub [4, 5, 3, 6, 7] [(0, vR 22 0), (2, vI x2), (3, vI ((v3 * 1103515245) + 12345)), (4, vI v4), (5, vI v5)] rfl ?_
            exact s_X8_drawn_b137  hX  h
        · have h := h.2 c98
          refine vr_aload_n 0 4 dX8_drawn_118 rfl rfl ?_
          refine vg_22_0 RX8 rfl (by decide) fl_8_9 dX8_drawn_119 ?_
          refine vr_iload 1 dX8_drawn_122 rfl ?_
          refine vr_iload 2 dX8_drawn_124 rfl ?_
          refine vr_callS RX8 (s_X8_mayGo ia_23 h) rfl rfl ml_8_259 rfl yh_X8_mayGo rfl ⟨Nat.le_of_ble_eq_true rfl, Nat.le_of_ble_eq_true rfl⟩ (Nat.le_of_ble_eq_true rfl) ⟨Nat.zero_le _, Nat.zero_le _⟩ dX8_drawn_126 (ki fun r126 h => ?_)
          refine vr_ifeq 136 dX8_drawn_129 (by decide) (fun c129 => ?_) (fun c129 => ?_)
          · have h := h.1 c129
            refine vr_iconst 0 dX8_drawn_136 (by decide) ?_
            refine vr_sub [4, 5, 3, 6, 7] [(0, vR 22 0), (2, vI x2), (3, vI ((v3 * 1103515245) + 12345)), (4, vI v4), (5, vI v5)] rfl ?_
            exact s_X8_drawn_b137  hX  h
          · have h := h.2 c129
            refine vr_iconst 1 dX8_drawn_132 (by decide) ?_
            refine vr_goto 137 dX8_drawn_133 (by decide) ?_
            refine vr_sub [4, 5, 3, 6, 7] [(0, vR 22 0), (2, vI x2), (3, vI ((v3 * 1103515245) + 12345)), (4, vI v4), (5, vI v5)] rfl ?_
            exact s_X8_drawn_b137  hX  h
  · have h := h.2 c25
    refine vr_iload 3 dX8_drawn_160 rfl ?_
    exact vr_iret rfl ⟨rfl, _, rfl, h⟩ dX8_drawn_162
def F_X8_drawn (x1 : Int32) (x2 : Int32) (Q : VP) (post : Int32 → Prop) : Prop :=
  F_X8_in (Int32.toInt64 x2) 1 200 Q (fun r6 => (r6 = 0 → post (((-1) : Int32))) ∧ (¬ r6 = 0 → vL3 (F_X8_drawn_l22 x1 x2 Q post  ) x1 ((0 : Int32)) ((0 : Int32))))
set_option maxRecDepth 4000 in
theorem s_X8_drawn {l : Launch} {g : vG} {x1 : Int32} {x2 : Int32} {P Q : VP} {post : Int32 → Prop}  (h : F_X8_drawn x1 x2 Q post) : VC l g yX8_drawn cX8_drawn 10 (some .int) 3 [vR 22 0, vI x1, vI x2] (vjn P Q) (vpI (vjn P Q) post) := by
  refine VC.of (by decide +kernel) (Nat.le_of_ble_eq_true rfl) (show VM l g RX8 cX8_drawn 10 (some .int) 3 (vpI (vjn P Q) post) 0 [(0, vR 22 0), (1, vI x1), (2, vI x2)] [] (vjn P Q) from ?_)
  unfold F_X8_drawn at h
  refine vr_iload_n 2 2 dX8_drawn_0 rfl rfl ?_
  refine vr_i2l dX8_drawn_1 ?_
  refine vr_lconst 1 dX8_drawn_2 (by decide) ?_
  refine vr_ldc2 200 ct_8_283 dX8_drawn_3 ?_
  refine vr_callS RX8 (s_X8_in h) rfl rfl ml_8_54 rfl yh_X8_in rfl ⟨Nat.le_of_ble_eq_true rfl, Nat.le_of_ble_eq_true rfl⟩ (Nat.le_of_ble_eq_true rfl) ⟨Nat.zero_le _, Nat.zero_le _⟩ dX8_drawn_6 (ki fun r6 h => ?_)
  refine vr_ifne 14 dX8_drawn_9 (by decide) (fun c9 => ?_) (fun c9 => ?_)
  · have h := h.1 c9
    refine vr_iconst (-1) dX8_drawn_12 (by decide) ?_
    exact vr_iret rfl ⟨rfl, _, rfl, h⟩ dX8_drawn_13
  · have h := h.2 c9
    refine vr_iload_n 1 1 dX8_drawn_14 rfl rfl ?_
    refine vr_istore_n 3 [(3, vI x1), (0, vR 22 0), (1, vI x1), (2, vI x2)] dX8_drawn_15 rfl (by decide) rfl ?_
    refine vr_iconst 0 dX8_drawn_16 (by decide) ?_
    refine vr_istore [(4, vI 0), (3, vI x1), (0, vR 22 0), (1, vI x1), (2, vI x2)] dX8_drawn_17 (by decide) rfl ?_
    refine vr_iconst 0 dX8_drawn_19 (by decide) ?_
    refine vr_istore [(5, vI 0), (4, vI 0), (3, vI x1), (0, vR 22 0), (1, vI x1), (2, vI x2)] dX8_drawn_20 (by decide) rfl ?_
    refine vr_sub [3, 5, 2, 1, 0] [(0, vR 22 0), (2, vI x2), (3, vI x1), (4, vI 0), (5, vI 0)] rfl ?_
    exact s_X8_drawn_l22   h
theorem dX8_segments_0 : decode cX8_segments 0 = .ok (.iconst 0, 1) := by decide +kernel
theorem dX8_segments_1 : decode cX8_segments 1 = .ok (.istore_n 1, 1) := by decide +kernel
theorem dX8_segments_2 : decode cX8_segments 2 = .ok (.iconst 0, 1) := by decide +kernel
theorem dX8_segments_3 : decode cX8_segments 3 = .ok (.istore_n 2, 1) := by decide +kernel
theorem dX8_segments_4 : decode cX8_segments 4 = .ok (.iload_n 2, 1) := by decide +kernel
theorem dX8_segments_5 : decode cX8_segments 5 = .ok (.bipush 16, 2) := by decide +kernel
theorem dX8_segments_7 : decode cX8_segments 7 = .ok (.if_icmp .ge 21, 3) := by decide +kernel
theorem dX8_segments_10 : decode cX8_segments 10 = .ok (.iload_n 1, 1) := by decide +kernel
theorem dX8_segments_11 : decode cX8_segments 11 = .ok (.aload_n 0, 1) := by decide +kernel
theorem dX8_segments_12 : decode cX8_segments 12 = .ok (.getfield 9, 3) := by decide +kernel
theorem dX8_segments_15 : decode cX8_segments 15 = .ok (.bipush 32, 2) := by decide +kernel
theorem dX8_segments_17 : decode cX8_segments 17 = .ok (.iload_n 2, 1) := by decide +kernel
theorem dX8_segments_18 : decode cX8_segments 18 = .ok (.iadd, 1) := by decide +kernel
theorem dX8_segments_19 : decode cX8_segments 19 = .ok (.iaload, 1) := by decide +kernel
theorem dX8_segments_20 : decode cX8_segments 20 = .ok (.iadd, 1) := by decide +kernel
theorem dX8_segments_21 : decode cX8_segments 21 = .ok (.istore_n 1, 1) := by decide +kernel
theorem dX8_segments_22 : decode cX8_segments 22 = .ok (.iinc 2 1, 3) := by decide +kernel
theorem dX8_segments_25 : decode cX8_segments 25 = .ok (.goto (-21), 3) := by decide +kernel
theorem dX8_segments_28 : decode cX8_segments 28 = .ok (.iload_n 1, 1) := by decide +kernel
theorem dX8_segments_29 : decode cX8_segments 29 = .ok (.ireturn, 1) := by decide +kernel
def F_X8_segments_l4  (Q : VP) (post : Int32 → Prop)   (X : Int32 → Int32 → Prop) (v1 : Int32) (v2 : Int32) : Prop :=
  (v2 < 16 → (0 ≤ 32 + v2 ∧ 32 + v2 < 3464) ∧ (X (v1 + (Q 23 0 (ix (32 + v2)))) (v2 + 1))) ∧ (¬ v2 < 16 → post v1)
set_option maxRecDepth 4000 in
theorem s_X8_segments_l4 {l : Launch} {g : vG}  {P Q : VP} {post : Int32 → Prop}    {v1 : Int32} {v2 : Int32}   (h : vL2 (F_X8_segments_l4  Q post  ) v1 v2) : VM l g RX8 cX8_segments 3 (some .int) 0 (vpI (vjn P Q) post) 4 [(0, vR 22 0), (1, vI v1), (2, vI v2)] [] (vjn P Q) := by
  refine vL2_s (T := fun v1 v2 => VM l g RX8 cX8_segments 3 (some .int) 0 (vpI (vjn P Q) post) 4 [(0, vR 22 0), (1, vI v1), (2, vI v2)] [] (vjn P Q)) ?_ h
  clear h
  intro X hX v1 v2 h
  unfold F_X8_segments_l4 at h
  refine vr_iload_n 2 2 dX8_segments_4 rfl rfl ?_
  refine vr_bipush 16 dX8_segments_5 (by decide) ?_
  refine vr_icmpge 28 dX8_segments_7 (by decide) (fun c7 => ?_) (fun c7 => ?_)
  · have h := h.1 c7
    refine vr_iload_n 1 1 dX8_segments_10 rfl rfl ?_
    refine vr_aload_n 0 0 dX8_segments_11 rfl rfl ?_
    refine vg_22_0 RX8 rfl (by decide) fl_8_9 dX8_segments_12 ?_
    refine vr_bipush 32 dX8_segments_15 (by decide) ?_
    refine vr_iload_n 2 2 dX8_segments_17 rfl rfl ?_
    refine vr_iadd dX8_segments_18 ?_
    have hi := h.1
    have h := h.2
    refine vr_ialdQ 3464 ia_23 rfl hi dX8_segments_19 ?_
    refine vr_iadd dX8_segments_20 ?_
    refine vr_istore_n 1 [(1, vI (v1 + (Q 23 0 (ix (32 + v2))))), (0, vR 22 0), (2, vI v2)] dX8_segments_21 rfl (by decide) rfl ?_
    refine vr_iinc (v2 + 1) 2 [(2, vI (v2 + 1)), (1, vI (v1 + (Q 23 0 (ix (32 + v2))))), (0, vR 22 0)] dX8_segments_22 rfl rfl (by decide) rfl ?_
    refine vr_goto 4 dX8_segments_25 (by decide) ?_
    refine vr_sub [2, 1, 0] [(0, vR 22 0), (1, vI (v1 + (Q 23 0 (ix (32 + v2))))), (2, vI (v2 + 1))] rfl ?_
    exact hX _ _ h
  · have h := h.2 c7
    refine vr_iload_n 1 1 dX8_segments_28 rfl rfl ?_
    exact vr_iret rfl ⟨rfl, _, rfl, h⟩ dX8_segments_29
def F_X8_segments  (Q : VP) (post : Int32 → Prop) : Prop :=
  vL2 (F_X8_segments_l4  Q post  ) ((0 : Int32)) ((0 : Int32))
set_option maxRecDepth 4000 in
theorem s_X8_segments {l : Launch} {g : vG}  {P Q : VP} {post : Int32 → Prop}  (h : F_X8_segments  Q post) : VC l g yX8_segments cX8_segments 3 (some .int) 0 [vR 22 0] (vjn P Q) (vpI (vjn P Q) post) := by
  refine VC.of (by decide +kernel) (Nat.le_of_ble_eq_true rfl) (show VM l g RX8 cX8_segments 3 (some .int) 0 (vpI (vjn P Q) post) 0 [(0, vR 22 0)] [] (vjn P Q) from ?_)
  unfold F_X8_segments at h
  refine vr_iconst 0 dX8_segments_0 (by decide) ?_
  refine vr_istore_n 1 [(1, vI 0), (0, vR 22 0)] dX8_segments_1 rfl (by decide) rfl ?_
  refine vr_iconst 0 dX8_segments_2 (by decide) ?_
  refine vr_istore_n 2 [(2, vI 0), (1, vI 0), (0, vR 22 0)] dX8_segments_3 rfl (by decide) rfl ?_
  refine vr_sub [2, 1, 0] [(0, vR 22 0), (1, vI 0), (2, vI 0)] rfl ?_
  exact s_X8_segments_l4   h
theorem dX8_image_0 : decode cX8_image 0 = .ok (.aload_n 0, 1) := by decide +kernel
theorem dX8_image_1 : decode cX8_image 1 = .ok (.getfield 9, 3) := by decide +kernel
theorem dX8_image_4 : decode cX8_image 4 = .ok (.aload_n 0, 1) := by decide +kernel
theorem dX8_image_5 : decode cX8_image 5 = .ok (.getfield 16, 3) := by decide +kernel
theorem dX8_image_8 : decode cX8_image 8 = .ok (.invokestatic 105, 3) := by decide +kernel
theorem dX8_image_11 : decode cX8_image 11 = .ok (.aload_n 0, 1) := by decide +kernel
theorem dX8_image_12 : decode cX8_image 12 = .ok (.iconst 1, 1) := by decide +kernel
theorem dX8_image_13 : decode cX8_image 13 = .ok (.putfield 307, 3) := by decide +kernel
theorem dX8_image_16 : decode cX8_image 16 = .ok (.aload_n 0, 1) := by decide +kernel
theorem dX8_image_17 : decode cX8_image 17 = .ok (.invokevirtual 311, 3) := by decide +kernel
theorem dX8_image_20 : decode cX8_image 20 = .ok (.ireturn, 1) := by decide +kernel
def F_X8_image  (Q : VP) (post : Int32 → VP → Prop) : Prop :=
  F_X8_copies 23 25 Q (fun Q8 => ∀ Q13 : VP, Q13 = vup Q8 22 0 3 1 → (F_X8_segments  Q13 (fun r17 => post r17 Q13)))
set_option maxRecDepth 4000 in
theorem s_X8_image {l : Launch} {g : vG}  {P Q : VP} {post : Int32 → VP → Prop}  (h : F_X8_image  Q post) : VC l g yX8_image cX8_image 1 (some .int) 1 [vR 22 0] (vjn P Q) (vmI P post) := by
  refine VC.of (by decide +kernel) (Nat.le_of_ble_eq_true rfl) (show VM l g RX8 cX8_image 1 (some .int) 1 (vmI P post) 0 [(0, vR 22 0)] [] (vjn P Q) from ?_)
  unfold F_X8_image at h
  refine vr_aload_n 0 0 dX8_image_0 rfl rfl ?_
  refine vg_22_0 RX8 rfl (by decide) fl_8_9 dX8_image_1 ?_
  refine vr_aload_n 0 0 dX8_image_4 rfl rfl ?_
  refine vg_22_2 RX8 rfl (by decide) fl_8_16 dX8_image_5 ?_
  refine vr_callS RX8 (s_X8_copies ia_23 ia_25 h) rfl rfl ml_8_105 rfl yh_X8_copies rfl ⟨Nat.le_of_ble_eq_true rfl, Nat.le_of_ble_eq_true rfl⟩ (Nat.le_of_ble_eq_true rfl) ⟨Nat.zero_le _, Nat.zero_le _⟩ dX8_image_8 (kmv fun Q8 h => ?_)
  refine vr_aload_n 0 0 dX8_image_11 rfl rfl ?_
  refine vr_iconst 1 dX8_image_12 (by decide) ?_
  obtain ⟨Q13, eQ13⟩ : ∃ y : VP, y = vup Q8 22 0 3 1 := ⟨_, rfl⟩
  have h := h Q13 eQ13
  refine vp_22_3 RX8 rfl (by decide) fl_8_307 (Or.inr rfl) eQ13 dX8_image_13 ?_
  refine vr_aload_n 0 0 dX8_image_16 rfl rfl ?_
  refine vr_callV RX8 (s_X8_segments h) rfl (by decide) rfl rfl rfl ml_8_311 rfl yh_X8_segments rfl ⟨Nat.le_of_ble_eq_true rfl, Nat.le_of_ble_eq_true rfl⟩ (Nat.le_of_ble_eq_true rfl) ⟨Nat.zero_le _, Nat.zero_le _⟩ dX8_image_17 (ki fun r17 h => ?_)
  exact vr_iret rfl ⟨_, _, rfl, rfl, h⟩ dX8_image_20
theorem dX8_back_0 : decode cX8_back 0 = .ok (.aload_n 0, 1) := by decide +kernel
theorem dX8_back_1 : decode cX8_back 1 = .ok (.getfield 307, 3) := by decide +kernel
theorem dX8_back_4 : decode cX8_back 4 = .ok (.ifCond .ne 6, 3) := by decide +kernel
theorem dX8_back_7 : decode cX8_back 7 = .ok (.bipush (-5), 2) := by decide +kernel
theorem dX8_back_9 : decode cX8_back 9 = .ok (.ireturn, 1) := by decide +kernel
theorem dX8_back_10 : decode cX8_back 10 = .ok (.aload_n 0, 1) := by decide +kernel
theorem dX8_back_11 : decode cX8_back 11 = .ok (.getfield 16, 3) := by decide +kernel
theorem dX8_back_14 : decode cX8_back 14 = .ok (.aload_n 0, 1) := by decide +kernel
theorem dX8_back_15 : decode cX8_back 15 = .ok (.getfield 9, 3) := by decide +kernel
theorem dX8_back_18 : decode cX8_back 18 = .ok (.invokestatic 105, 3) := by decide +kernel
theorem dX8_back_21 : decode cX8_back 21 = .ok (.aload_n 0, 1) := by decide +kernel
theorem dX8_back_22 : decode cX8_back 22 = .ok (.invokevirtual 311, 3) := by decide +kernel
theorem dX8_back_25 : decode cX8_back 25 = .ok (.ireturn, 1) := by decide +kernel
def F_X8_back  (Q : VP) (post : Int32 → VP → Prop) : Prop :=
  (Q 22 0 3 = 0 → post (((-5) : Int32)) Q) ∧ (¬ Q 22 0 3 = 0 → F_X8_copies 25 23 Q (fun Q18 => F_X8_segments  Q18 (fun r22 => post r22 Q18)))
set_option maxRecDepth 4000 in
theorem s_X8_back {l : Launch} {g : vG}  {P Q : VP} {post : Int32 → VP → Prop}  (h : F_X8_back  Q post) : VC l g yX8_back cX8_back 1 (some .int) 1 [vR 22 0] (vjn P Q) (vmI P post) := by
  refine VC.of (by decide +kernel) (Nat.le_of_ble_eq_true rfl) (show VM l g RX8 cX8_back 1 (some .int) 1 (vmI P post) 0 [(0, vR 22 0)] [] (vjn P Q) from ?_)
  unfold F_X8_back at h
  refine vr_aload_n 0 0 dX8_back_0 rfl rfl ?_
  refine vg_22_3 RX8 rfl (by decide) fl_8_307 dX8_back_1 ?_
  refine vr_ifne 10 dX8_back_4 (by decide) (fun c4 => ?_) (fun c4 => ?_)
  · have h := h.1 c4
    refine vr_bipush (-5) dX8_back_7 (by decide) ?_
    exact vr_iret rfl ⟨_, _, rfl, rfl, h⟩ dX8_back_9
  · have h := h.2 c4
    refine vr_aload_n 0 0 dX8_back_10 rfl rfl ?_
    refine vg_22_2 RX8 rfl (by decide) fl_8_16 dX8_back_11 ?_
    refine vr_aload_n 0 0 dX8_back_14 rfl rfl ?_
    refine vg_22_0 RX8 rfl (by decide) fl_8_9 dX8_back_15 ?_
    refine vr_callS RX8 (s_X8_copies ia_25 ia_23 h) rfl rfl ml_8_105 rfl yh_X8_copies rfl ⟨Nat.le_of_ble_eq_true rfl, Nat.le_of_ble_eq_true rfl⟩ (Nat.le_of_ble_eq_true rfl) ⟨Nat.zero_le _, Nat.zero_le _⟩ dX8_back_18 (kmv fun Q18 h => ?_)
    refine vr_aload_n 0 0 dX8_back_21 rfl rfl ?_
    refine vr_callV RX8 (s_X8_segments h) rfl (by decide) rfl rfl rfl ml_8_311 rfl yh_X8_segments rfl ⟨Nat.le_of_ble_eq_true rfl, Nat.le_of_ble_eq_true rfl⟩ (Nat.le_of_ble_eq_true rfl) ⟨Nat.zero_le _, Nat.zero_le _⟩ dX8_back_22 (ki fun r22 h => ?_)
    exact vr_iret rfl ⟨_, _, rfl, rfl, h⟩ dX8_back_25
theorem dX8_recordsAll_0 : decode cX8_recordsAll 0 = .ok (.iconst 0, 1) := by decide +kernel
theorem dX8_recordsAll_1 : decode cX8_recordsAll 1 = .ok (.istore_n 1, 1) := by decide +kernel
theorem dX8_recordsAll_2 : decode cX8_recordsAll 2 = .ok (.iconst 0, 1) := by decide +kernel
theorem dX8_recordsAll_3 : decode cX8_recordsAll 3 = .ok (.istore_n 2, 1) := by decide +kernel
theorem dX8_recordsAll_4 : decode cX8_recordsAll 4 = .ok (.iload_n 2, 1) := by decide +kernel
theorem dX8_recordsAll_5 : decode cX8_recordsAll 5 = .ok (.bipush 16, 2) := by decide +kernel
theorem dX8_recordsAll_7 : decode cX8_recordsAll 7 = .ok (.if_icmp .ge 41, 3) := by decide +kernel
theorem dX8_recordsAll_10 : decode cX8_recordsAll 10 = .ok (.iload_n 1, 1) := by decide +kernel
theorem dX8_recordsAll_11 : decode cX8_recordsAll 11 = .ok (.aload_n 0, 1) := by decide +kernel
theorem dX8_recordsAll_12 : decode cX8_recordsAll 12 = .ok (.getfield 9, 3) := by decide +kernel
theorem dX8_recordsAll_15 : decode cX8_recordsAll 15 = .ok (.bipush 32, 2) := by decide +kernel
theorem dX8_recordsAll_17 : decode cX8_recordsAll 17 = .ok (.iload_n 2, 1) := by decide +kernel
theorem dX8_recordsAll_18 : decode cX8_recordsAll 18 = .ok (.iadd, 1) := by decide +kernel
theorem dX8_recordsAll_19 : decode cX8_recordsAll 19 = .ok (.iaload, 1) := by decide +kernel
theorem dX8_recordsAll_20 : decode cX8_recordsAll 20 = .ok (.iconst 1, 1) := by decide +kernel
theorem dX8_recordsAll_21 : decode cX8_recordsAll 21 = .ok (.if_icmp .ne 18, 3) := by decide +kernel
theorem dX8_recordsAll_24 : decode cX8_recordsAll 24 = .ok (.aload_n 0, 1) := by decide +kernel
theorem dX8_recordsAll_25 : decode cX8_recordsAll 25 = .ok (.getfield 9, 3) := by decide +kernel
theorem dX8_recordsAll_28 : decode cX8_recordsAll 28 = .ok (.bipush 96, 2) := by decide +kernel
theorem dX8_recordsAll_30 : decode cX8_recordsAll 30 = .ok (.iload_n 2, 1) := by decide +kernel
theorem dX8_recordsAll_31 : decode cX8_recordsAll 31 = .ok (.iadd, 1) := by decide +kernel
theorem dX8_recordsAll_32 : decode cX8_recordsAll 32 = .ok (.iaload, 1) := by decide +kernel
theorem dX8_recordsAll_33 : decode cX8_recordsAll 33 = .ok (.invokestatic 68, 3) := by decide +kernel
theorem dX8_recordsAll_36 : decode cX8_recordsAll 36 = .ok (.goto 4, 3) := by decide +kernel
theorem dX8_recordsAll_39 : decode cX8_recordsAll 39 = .ok (.iconst 0, 1) := by decide +kernel
theorem dX8_recordsAll_40 : decode cX8_recordsAll 40 = .ok (.iadd, 1) := by decide +kernel
theorem dX8_recordsAll_41 : decode cX8_recordsAll 41 = .ok (.istore_n 1, 1) := by decide +kernel
theorem dX8_recordsAll_42 : decode cX8_recordsAll 42 = .ok (.iinc 2 1, 3) := by decide +kernel
theorem dX8_recordsAll_45 : decode cX8_recordsAll 45 = .ok (.goto (-41), 3) := by decide +kernel
theorem dX8_recordsAll_48 : decode cX8_recordsAll 48 = .ok (.iload_n 1, 1) := by decide +kernel
theorem dX8_recordsAll_49 : decode cX8_recordsAll 49 = .ok (.ireturn, 1) := by decide +kernel
def F_X8_recordsAll_l4  (Q : VP) (post : Int32 → Prop)   (X : Int32 → Int32 → Prop) (v1 : Int32) (v2 : Int32) : Prop :=
  (v2 < 16 → (0 ≤ 32 + v2 ∧ 32 + v2 < 3464) ∧ ((Q 23 0 (ix (32 + v2)) = 1 → (0 ≤ 96 + v2 ∧ 96 + v2 < 3464) ∧ (F_X8_records (Q 23 0 (ix (96 + v2))) Q (fun r33 => X (v1 + r33) (v2 + 1)))) ∧ (¬ Q 23 0 (ix (32 + v2)) = 1 → X (v1 + 0) (v2 + 1)))) ∧ (¬ v2 < 16 → post v1)
set_option maxRecDepth 4000 in
theorem s_X8_recordsAll_l4 {l : Launch} {g : vG}  {P Q : VP} {post : Int32 → Prop}    {v1 : Int32} {v2 : Int32}   (h : vL2 (F_X8_recordsAll_l4  Q post  ) v1 v2) : VM l g RX8 cX8_recordsAll 3 (some .int) 1 (vpI (vjn P Q) post) 4 [(0, vR 22 0), (1, vI v1), (2, vI v2)] [] (vjn P Q) := by
  refine vL2_s (T := fun v1 v2 => VM l g RX8 cX8_recordsAll 3 (some .int) 1 (vpI (vjn P Q) post) 4 [(0, vR 22 0), (1, vI v1), (2, vI v2)] [] (vjn P Q)) ?_ h
  clear h
  intro X hX v1 v2 h
  unfold F_X8_recordsAll_l4 at h
  refine vr_iload_n 2 2 dX8_recordsAll_4 rfl rfl ?_
  refine vr_bipush 16 dX8_recordsAll_5 (by decide) ?_
  refine vr_icmpge 48 dX8_recordsAll_7 (by decide) (fun c7 => ?_) (fun c7 => ?_)
  · have h := h.1 c7
    refine vr_iload_n 1 1 dX8_recordsAll_10 rfl rfl ?_
    refine vr_aload_n 0 0 dX8_recordsAll_11 rfl rfl ?_
    refine vg_22_0 RX8 rfl (by decide) fl_8_9 dX8_recordsAll_12 ?_
    refine vr_bipush 32 dX8_recordsAll_15 (by decide) ?_
    refine vr_iload_n 2 2 dX8_recordsAll_17 rfl rfl ?_
    refine vr_iadd dX8_recordsAll_18 ?_
    have hi := h.1
    have h := h.2
    refine vr_ialdQ 3464 ia_23 rfl hi dX8_recordsAll_19 ?_
    refine vr_iconst 1 dX8_recordsAll_20 (by decide) ?_
    refine vr_icmpne 39 dX8_recordsAll_21 (by decide) (fun c21 => ?_) (fun c21 => ?_)
    · have h := h.1 c21
      refine vr_aload_n 0 0 dX8_recordsAll_24 rfl rfl ?_
      refine vg_22_0 RX8 rfl (by decide) fl_8_9 dX8_recordsAll_25 ?_
      refine vr_bipush 96 dX8_recordsAll_28 (by decide) ?_
      refine vr_iload_n 2 2 dX8_recordsAll_30 rfl rfl ?_
      refine vr_iadd dX8_recordsAll_31 ?_
      have hi := h.1
      have h := h.2
      refine vr_ialdQ 3464 ia_23 rfl hi dX8_recordsAll_32 ?_
      refine vr_callS RX8 (s_X8_records h) rfl rfl ml_8_68 rfl yh_X8_records rfl ⟨Nat.le_of_ble_eq_true rfl, Nat.le_of_ble_eq_true rfl⟩ (Nat.le_of_ble_eq_true rfl) ⟨Nat.zero_le _, Nat.zero_le _⟩ dX8_recordsAll_33 (ki fun r33 h => ?_)
      refine vr_goto 40 dX8_recordsAll_36 (by decide) ?_
      refine vr_iadd dX8_recordsAll_40 ?_
      refine vr_istore_n 1 [(1, vI (v1 + r33)), (0, vR 22 0), (2, vI v2)] dX8_recordsAll_41 rfl (by decide) rfl ?_
      refine vr_iinc (v2 + 1) 2 [(2, vI (v2 + 1)), (1, vI (v1 + r33)), (0, vR 22 0)] dX8_recordsAll_42 rfl rfl (by decide) rfl ?_
      refine vr_goto 4 dX8_recordsAll_45 (by decide) ?_
      refine vr_sub [2, 1, 0] [(0, vR 22 0), (1, vI (v1 + r33)), (2, vI (v2 + 1))] rfl ?_
      exact hX _ _ h
    · have h := h.2 c21
      refine vr_iconst 0 dX8_recordsAll_39 (by decide) ?_
      refine vr_iadd dX8_recordsAll_40 ?_
      refine vr_istore_n 1 [(1, vI (v1 + 0)), (0, vR 22 0), (2, vI v2)] dX8_recordsAll_41 rfl (by decide) rfl ?_
      refine vr_iinc (v2 + 1) 2 [(2, vI (v2 + 1)), (1, vI (v1 + 0)), (0, vR 22 0)] dX8_recordsAll_42 rfl rfl (by decide) rfl ?_
      refine vr_goto 4 dX8_recordsAll_45 (by decide) ?_
      refine vr_sub [2, 1, 0] [(0, vR 22 0), (1, vI (v1 + 0)), (2, vI (v2 + 1))] rfl ?_
      exact hX _ _ h
  · have h := h.2 c7
    refine vr_iload_n 1 1 dX8_recordsAll_48 rfl rfl ?_
    exact vr_iret rfl ⟨rfl, _, rfl, h⟩ dX8_recordsAll_49
def F_X8_recordsAll  (Q : VP) (post : Int32 → Prop) : Prop :=
  vL2 (F_X8_recordsAll_l4  Q post  ) ((0 : Int32)) ((0 : Int32))
set_option maxRecDepth 4000 in
theorem s_X8_recordsAll {l : Launch} {g : vG}  {P Q : VP} {post : Int32 → Prop}  (h : F_X8_recordsAll  Q post) : VC l g yX8_recordsAll cX8_recordsAll 3 (some .int) 1 [vR 22 0] (vjn P Q) (vpI (vjn P Q) post) := by
  refine VC.of (by decide +kernel) (Nat.le_of_ble_eq_true rfl) (show VM l g RX8 cX8_recordsAll 3 (some .int) 1 (vpI (vjn P Q) post) 0 [(0, vR 22 0)] [] (vjn P Q) from ?_)
  unfold F_X8_recordsAll at h
  refine vr_iconst 0 dX8_recordsAll_0 (by decide) ?_
  refine vr_istore_n 1 [(1, vI 0), (0, vR 22 0)] dX8_recordsAll_1 rfl (by decide) rfl ?_
  refine vr_iconst 0 dX8_recordsAll_2 (by decide) ?_
  refine vr_istore_n 2 [(2, vI 0), (1, vI 0), (0, vR 22 0)] dX8_recordsAll_3 rfl (by decide) rfl ?_
  refine vr_sub [2, 1, 0] [(0, vR 22 0), (1, vI 0), (2, vI 0)] rfl ?_
  exact s_X8_recordsAll_l4   h
theorem dX8_cells_0 : decode cX8_cells 0 = .ok (.iconst 0, 1) := by decide +kernel
theorem dX8_cells_1 : decode cX8_cells 1 = .ok (.istore_n 2, 1) := by decide +kernel
theorem dX8_cells_2 : decode cX8_cells 2 = .ok (.iconst 0, 1) := by decide +kernel
theorem dX8_cells_3 : decode cX8_cells 3 = .ok (.istore_n 3, 1) := by decide +kernel
theorem dX8_cells_4 : decode cX8_cells 4 = .ok (.iload_n 3, 1) := by decide +kernel
theorem dX8_cells_5 : decode cX8_cells 5 = .ok (.aload_n 0, 1) := by decide +kernel
theorem dX8_cells_6 : decode cX8_cells 6 = .ok (.getfield 9, 3) := by decide +kernel
theorem dX8_cells_9 : decode cX8_cells 9 = .ok (.iconst 0, 1) := by decide +kernel
theorem dX8_cells_10 : decode cX8_cells 10 = .ok (.iaload, 1) := by decide +kernel
theorem dX8_cells_11 : decode cX8_cells 11 = .ok (.if_icmp .ge 45, 3) := by decide +kernel
theorem dX8_cells_14 : decode cX8_cells 14 = .ok (.iload_n 2, 1) := by decide +kernel
theorem dX8_cells_15 : decode cX8_cells 15 = .ok (.iload_n 1, 1) := by decide +kernel
theorem dX8_cells_16 : decode cX8_cells 16 = .ok (.ifCond .eq 15, 3) := by decide +kernel
theorem dX8_cells_19 : decode cX8_cells 19 = .ok (.aload_n 0, 1) := by decide +kernel
theorem dX8_cells_20 : decode cX8_cells 20 = .ok (.getfield 9, 3) := by decide +kernel
theorem dX8_cells_23 : decode cX8_cells 23 = .ok (.bipush 24, 2) := by decide +kernel
theorem dX8_cells_25 : decode cX8_cells 25 = .ok (.iload_n 3, 1) := by decide +kernel
theorem dX8_cells_26 : decode cX8_cells 26 = .ok (.iadd, 1) := by decide +kernel
theorem dX8_cells_27 : decode cX8_cells 27 = .ok (.iaload, 1) := by decide +kernel
theorem dX8_cells_28 : decode cX8_cells 28 = .ok (.goto 20, 3) := by decide +kernel
theorem dX8_cells_31 : decode cX8_cells 31 = .ok (.aload_n 0, 1) := by decide +kernel
theorem dX8_cells_32 : decode cX8_cells 32 = .ok (.getfield 9, 3) := by decide +kernel
theorem dX8_cells_35 : decode cX8_cells 35 = .ok (.bipush 24, 2) := by decide +kernel
theorem dX8_cells_37 : decode cX8_cells 37 = .ok (.iload_n 3, 1) := by decide +kernel
theorem dX8_cells_38 : decode cX8_cells 38 = .ok (.iadd, 1) := by decide +kernel
theorem dX8_cells_39 : decode cX8_cells 39 = .ok (.iaload, 1) := by decide +kernel
theorem dX8_cells_40 : decode cX8_cells 40 = .ok (.ifCond .le 7, 3) := by decide +kernel
theorem dX8_cells_43 : decode cX8_cells 43 = .ok (.iconst 1, 1) := by decide +kernel
theorem dX8_cells_44 : decode cX8_cells 44 = .ok (.goto 4, 3) := by decide +kernel
theorem dX8_cells_47 : decode cX8_cells 47 = .ok (.iconst 0, 1) := by decide +kernel
theorem dX8_cells_48 : decode cX8_cells 48 = .ok (.iadd, 1) := by decide +kernel
theorem dX8_cells_49 : decode cX8_cells 49 = .ok (.istore_n 2, 1) := by decide +kernel
theorem dX8_cells_50 : decode cX8_cells 50 = .ok (.iinc 3 1, 3) := by decide +kernel
theorem dX8_cells_53 : decode cX8_cells 53 = .ok (.goto (-49), 3) := by decide +kernel
theorem dX8_cells_56 : decode cX8_cells 56 = .ok (.iload_n 2, 1) := by decide +kernel
theorem dX8_cells_57 : decode cX8_cells 57 = .ok (.ireturn, 1) := by decide +kernel
def F_X8_cells_l4 (x1 : Int32) (Q : VP) (post : Int32 → Prop)   (X : Int32 → Int32 → Prop) (v2 : Int32) (v3 : Int32) : Prop :=
  (0 ≤ (0 : Int32) ∧ (0 : Int32) < 3464) ∧ ((v3 < Q 23 0 (ix ((0 : Int32))) → (x1 = 0 → (0 ≤ 24 + v3 ∧ 24 + v3 < 3464) ∧ ((0 < Q 23 0 (ix (24 + v3)) → X (v2 + 1) (v3 + 1)) ∧ (¬ 0 < Q 23 0 (ix (24 + v3)) → X (v2 + 0) (v3 + 1)))) ∧ (¬ x1 = 0 → (0 ≤ 24 + v3 ∧ 24 + v3 < 3464) ∧ (X (v2 + (Q 23 0 (ix (24 + v3)))) (v3 + 1)))) ∧ (¬ v3 < Q 23 0 (ix ((0 : Int32))) → post v2))
set_option maxRecDepth 4000 in
theorem s_X8_cells_l4 {l : Launch} {g : vG} {x1 : Int32} {P Q : VP} {post : Int32 → Prop}    {v2 : Int32} {v3 : Int32}   (h : vL2 (F_X8_cells_l4 x1 Q post  ) v2 v3) : VM l g RX8 cX8_cells 4 (some .int) 0 (vpI (vjn P Q) post) 4 [(0, vR 22 0), (1, vI x1), (2, vI v2), (3, vI v3)] [] (vjn P Q) := by
  refine vL2_s (T := fun v2 v3 => VM l g RX8 cX8_cells 4 (some .int) 0 (vpI (vjn P Q) post) 4 [(0, vR 22 0), (1, vI x1), (2, vI v2), (3, vI v3)] [] (vjn P Q)) ?_ h
  clear h
  intro X hX v2 v3 h
  unfold F_X8_cells_l4 at h
  refine vr_iload_n 3 3 dX8_cells_4 rfl rfl ?_
  refine vr_aload_n 0 0 dX8_cells_5 rfl rfl ?_
  refine vg_22_0 RX8 rfl (by decide) fl_8_9 dX8_cells_6 ?_
  refine vr_iconst 0 dX8_cells_9 (by decide) ?_
  have hi := h.1
  have h := h.2
  refine vr_ialdQ 3464 ia_23 rfl hi dX8_cells_10 ?_
  refine vr_icmpge 56 dX8_cells_11 (by decide) (fun c11 => ?_) (fun c11 => ?_)
  · have h := h.1 c11
    refine vr_iload_n 2 2 dX8_cells_14 rfl rfl ?_
    refine vr_iload_n 1 1 dX8_cells_15 rfl rfl ?_
    refine vr_ifeq 31 dX8_cells_16 (by decide) (fun c16 => ?_) (fun c16 => ?_)
    · have h := h.1 c16
      refine vr_aload_n 0 0 dX8_cells_31 rfl rfl ?_
      refine vg_22_0 RX8 rfl (by decide) fl_8_9 dX8_cells_32 ?_
      refine vr_bipush 24 dX8_cells_35 (by decide) ?_
      refine vr_iload_n 3 3 dX8_cells_37 rfl rfl ?_
      refine vr_iadd dX8_cells_38 ?_
      have hi := h.1
      have h := h.2
      refine vr_ialdQ 3464 ia_23 rfl hi dX8_cells_39 ?_
      refine vr_ifle 47 dX8_cells_40 (by decide) (fun c40 => ?_) (fun c40 => ?_)
      · have h := h.1 c40
        refine vr_iconst 1 dX8_cells_43 (by decide) ?_
        refine vr_goto 48 dX8_cells_44 (by decide) ?_
        refine vr_iadd dX8_cells_48 ?_
        refine vr_istore_n 2 [(2, vI (v2 + 1)), (0, vR 22 0), (1, vI x1), (3, vI v3)] dX8_cells_49 rfl (by decide) rfl ?_
        refine vr_iinc (v3 + 1) 3 [(3, vI (v3 + 1)), (2, vI (v2 + 1)), (0, vR 22 0), (1, vI x1)] dX8_cells_50 rfl rfl (by decide) rfl ?_
        refine vr_goto 4 dX8_cells_53 (by decide) ?_
        refine vr_sub [2, 3, 1, 0] [(0, vR 22 0), (1, vI x1), (2, vI (v2 + 1)), (3, vI (v3 + 1))] rfl ?_
        exact hX _ _ h
      · have h := h.2 c40
        refine vr_iconst 0 dX8_cells_47 (by decide) ?_
        refine vr_iadd dX8_cells_48 ?_
        refine vr_istore_n 2 [(2, vI (v2 + 0)), (0, vR 22 0), (1, vI x1), (3, vI v3)] dX8_cells_49 rfl (by decide) rfl ?_
        refine vr_iinc (v3 + 1) 3 [(3, vI (v3 + 1)), (2, vI (v2 + 0)), (0, vR 22 0), (1, vI x1)] dX8_cells_50 rfl rfl (by decide) rfl ?_
        refine vr_goto 4 dX8_cells_53 (by decide) ?_
        refine vr_sub [2, 3, 1, 0] [(0, vR 22 0), (1, vI x1), (2, vI (v2 + 0)), (3, vI (v3 + 1))] rfl ?_
        exact hX _ _ h
    · have h := h.2 c16
      refine vr_aload_n 0 0 dX8_cells_19 rfl rfl ?_
      refine vg_22_0 RX8 rfl (by decide) fl_8_9 dX8_cells_20 ?_
      refine vr_bipush 24 dX8_cells_23 (by decide) ?_
      refine vr_iload_n 3 3 dX8_cells_25 rfl rfl ?_
      refine vr_iadd dX8_cells_26 ?_
      have hi := h.1
      have h := h.2
      refine vr_ialdQ 3464 ia_23 rfl hi dX8_cells_27 ?_
      refine vr_goto 48 dX8_cells_28 (by decide) ?_
      refine vr_iadd dX8_cells_48 ?_
      refine vr_istore_n 2 [(2, vI (v2 + (Q 23 0 (ix (24 + v3))))), (0, vR 22 0), (1, vI x1), (3, vI v3)] dX8_cells_49 rfl (by decide) rfl ?_
      refine vr_iinc (v3 + 1) 3 [(3, vI (v3 + 1)), (2, vI (v2 + (Q 23 0 (ix (24 + v3))))), (0, vR 22 0), (1, vI x1)] dX8_cells_50 rfl rfl (by decide) rfl ?_
      refine vr_goto 4 dX8_cells_53 (by decide) ?_
      refine vr_sub [2, 3, 1, 0] [(0, vR 22 0), (1, vI x1), (2, vI (v2 + (Q 23 0 (ix (24 + v3))))), (3, vI (v3 + 1))] rfl ?_
      exact hX _ _ h
  · have h := h.2 c11
    refine vr_iload_n 2 2 dX8_cells_56 rfl rfl ?_
    exact vr_iret rfl ⟨rfl, _, rfl, h⟩ dX8_cells_57
def F_X8_cells (x1 : Int32) (Q : VP) (post : Int32 → Prop) : Prop :=
  vL2 (F_X8_cells_l4 x1 Q post  ) ((0 : Int32)) ((0 : Int32))
set_option maxRecDepth 4000 in
theorem s_X8_cells {l : Launch} {g : vG} {x1 : Int32} {P Q : VP} {post : Int32 → Prop}  (h : F_X8_cells x1 Q post) : VC l g yX8_cells cX8_cells 4 (some .int) 0 [vR 22 0, vI x1] (vjn P Q) (vpI (vjn P Q) post) := by
  refine VC.of (by decide +kernel) (Nat.le_of_ble_eq_true rfl) (show VM l g RX8 cX8_cells 4 (some .int) 0 (vpI (vjn P Q) post) 0 [(0, vR 22 0), (1, vI x1)] [] (vjn P Q) from ?_)
  unfold F_X8_cells at h
  refine vr_iconst 0 dX8_cells_0 (by decide) ?_
  refine vr_istore_n 2 [(2, vI 0), (0, vR 22 0), (1, vI x1)] dX8_cells_1 rfl (by decide) rfl ?_
  refine vr_iconst 0 dX8_cells_2 (by decide) ?_
  refine vr_istore_n 3 [(3, vI 0), (2, vI 0), (0, vR 22 0), (1, vI x1)] dX8_cells_3 rfl (by decide) rfl ?_
  refine vr_sub [2, 3, 1, 0] [(0, vR 22 0), (1, vI x1), (2, vI 0), (3, vI 0)] rfl ?_
  exact s_X8_cells_l4   h
theorem dX8_count_0 : decode cX8_count 0 = .ok (.iload_n 1, 1) := by decide +kernel
theorem dX8_count_1 : decode cX8_count 1 = .ok (.tableswitch 105 0 8 #[51, 58, 63, 70, 75, 81, 87, 92, 98], 51) := by decide +kernel
theorem dX8_count_52 : decode cX8_count 52 = .ok (.aload_n 0, 1) := by decide +kernel
theorem dX8_count_53 : decode cX8_count 53 = .ok (.getfield 9, 3) := by decide +kernel
theorem dX8_count_56 : decode cX8_count 56 = .ok (.iconst 0, 1) := by decide +kernel
theorem dX8_count_57 : decode cX8_count 57 = .ok (.iaload, 1) := by decide +kernel
theorem dX8_count_58 : decode cX8_count 58 = .ok (.ireturn, 1) := by decide +kernel
theorem dX8_count_59 : decode cX8_count 59 = .ok (.aload_n 0, 1) := by decide +kernel
theorem dX8_count_60 : decode cX8_count 60 = .ok (.invokevirtual 311, 3) := by decide +kernel
theorem dX8_count_63 : decode cX8_count 63 = .ok (.ireturn, 1) := by decide +kernel
theorem dX8_count_64 : decode cX8_count 64 = .ok (.aload_n 0, 1) := by decide +kernel
theorem dX8_count_65 : decode cX8_count 65 = .ok (.getfield 9, 3) := by decide +kernel
theorem dX8_count_68 : decode cX8_count 68 = .ok (.iconst 2, 1) := by decide +kernel
theorem dX8_count_69 : decode cX8_count 69 = .ok (.iaload, 1) := by decide +kernel
theorem dX8_count_70 : decode cX8_count 70 = .ok (.ireturn, 1) := by decide +kernel
theorem dX8_count_71 : decode cX8_count 71 = .ok (.aload_n 0, 1) := by decide +kernel
theorem dX8_count_72 : decode cX8_count 72 = .ok (.getfield 148, 3) := by decide +kernel
theorem dX8_count_75 : decode cX8_count 75 = .ok (.ireturn, 1) := by decide +kernel
theorem dX8_count_76 : decode cX8_count 76 = .ok (.aload_n 0, 1) := by decide +kernel
theorem dX8_count_77 : decode cX8_count 77 = .ok (.iconst 0, 1) := by decide +kernel
theorem dX8_count_78 : decode cX8_count 78 = .ok (.invokevirtual 314, 3) := by decide +kernel
theorem dX8_count_81 : decode cX8_count 81 = .ok (.ireturn, 1) := by decide +kernel
theorem dX8_count_82 : decode cX8_count 82 = .ok (.aload_n 0, 1) := by decide +kernel
theorem dX8_count_83 : decode cX8_count 83 = .ok (.iconst 1, 1) := by decide +kernel
theorem dX8_count_84 : decode cX8_count 84 = .ok (.invokevirtual 314, 3) := by decide +kernel
theorem dX8_count_87 : decode cX8_count 87 = .ok (.ireturn, 1) := by decide +kernel
theorem dX8_count_88 : decode cX8_count 88 = .ok (.aload_n 0, 1) := by decide +kernel
theorem dX8_count_89 : decode cX8_count 89 = .ok (.invokevirtual 317, 3) := by decide +kernel
theorem dX8_count_92 : decode cX8_count 92 = .ok (.ireturn, 1) := by decide +kernel
theorem dX8_count_93 : decode cX8_count 93 = .ok (.aload_n 0, 1) := by decide +kernel
theorem dX8_count_94 : decode cX8_count 94 = .ok (.iconst 0, 1) := by decide +kernel
theorem dX8_count_95 : decode cX8_count 95 = .ok (.invokevirtual 302, 3) := by decide +kernel
theorem dX8_count_98 : decode cX8_count 98 = .ok (.ireturn, 1) := by decide +kernel
theorem dX8_count_99 : decode cX8_count 99 = .ok (.aload_n 0, 1) := by decide +kernel
theorem dX8_count_100 : decode cX8_count 100 = .ok (.getfield 9, 3) := by decide +kernel
theorem dX8_count_103 : decode cX8_count 103 = .ok (.iconst 1, 1) := by decide +kernel
theorem dX8_count_104 : decode cX8_count 104 = .ok (.iaload, 1) := by decide +kernel
theorem dX8_count_105 : decode cX8_count 105 = .ok (.ireturn, 1) := by decide +kernel
theorem dX8_count_106 : decode cX8_count 106 = .ok (.iconst (-1), 1) := by decide +kernel
theorem dX8_count_107 : decode cX8_count 107 = .ok (.ireturn, 1) := by decide +kernel
def F_X8_count (x1 : Int32) (Q : VP) (post : Int32 → Prop) : Prop :=
  (x1 = 0 → (0 ≤ (0 : Int32) ∧ (0 : Int32) < 3464) ∧ (post (Q 23 0 (ix ((0 : Int32)))))) ∧ (¬ x1 = 0 → (x1 = 1 → F_X8_segments  Q (fun r60 => post r60)) ∧ (¬ x1 = 1 → (x1 = 2 → (0 ≤ (2 : Int32) ∧ (2 : Int32) < 3464) ∧ (post (Q 23 0 (ix ((2 : Int32)))))) ∧ (¬ x1 = 2 → (x1 = 3 → post (Q 22 0 6)) ∧ (¬ x1 = 3 → (x1 = 4 → F_X8_cells ((0 : Int32)) Q (fun r78 => post r78)) ∧ (¬ x1 = 4 → (x1 = 5 → F_X8_cells ((1 : Int32)) Q (fun r84 => post r84)) ∧ (¬ x1 = 5 → (x1 = 6 → F_X8_recordsAll  Q (fun r89 => post r89)) ∧ (¬ x1 = 6 → (x1 = 7 → F_X8_snapped ((0 : Int32)) Q (fun r95 => post r95)) ∧ (¬ x1 = 7 → (x1 = 8 → (0 ≤ (1 : Int32) ∧ (1 : Int32) < 3464) ∧ (post (Q 23 0 (ix ((1 : Int32)))))) ∧ (¬ x1 = 8 → post (((-1) : Int32)))))))))))
set_option maxRecDepth 4000 in
theorem s_X8_count {l : Launch} {g : vG} {x1 : Int32} {P Q : VP} {post : Int32 → Prop}  (h : F_X8_count x1 Q post) : VC l g yX8_count cX8_count 2 (some .int) 2 [vR 22 0, vI x1] (vjn P Q) (vpI (vjn P Q) post) := by
  refine VC.of (by decide +kernel) (Nat.le_of_ble_eq_true rfl) (show VM l g RX8 cX8_count 2 (some .int) 2 (vpI (vjn P Q) post) 0 [(0, vR 22 0), (1, vI x1)] [] (vjn P Q) from ?_)
  unfold F_X8_count at h
  refine vr_iload_n 1 1 dX8_count_0 rfl rfl ?_
  by_cases c1_0 : x1 = 0
  · have h := h.1 c1_0
    refine vr_tswIn 0 52 dX8_count_1 c1_0 (by decide) rfl (by decide) ?_
    refine vr_aload_n 0 0 dX8_count_52 rfl rfl ?_
    refine vg_22_0 RX8 rfl (by decide) fl_8_9 dX8_count_53 ?_
    refine vr_iconst 0 dX8_count_56 (by decide) ?_
    have hi := h.1
    have h := h.2
    refine vr_ialdQ 3464 ia_23 rfl hi dX8_count_57 ?_
    exact vr_iret rfl ⟨rfl, _, rfl, h⟩ dX8_count_58
  · have h := h.2 c1_0
    by_cases c1_1 : x1 = 1
    · have h := h.1 c1_1
      refine vr_tswIn 1 59 dX8_count_1 c1_1 (by decide) rfl (by decide) ?_
      refine vr_aload_n 0 0 dX8_count_59 rfl rfl ?_
      refine vr_callV RX8 (s_X8_segments h) rfl (by decide) rfl rfl rfl ml_8_311 rfl yh_X8_segments rfl ⟨Nat.le_of_ble_eq_true rfl, Nat.le_of_ble_eq_true rfl⟩ (Nat.le_of_ble_eq_true rfl) ⟨Nat.zero_le _, Nat.zero_le _⟩ dX8_count_60 (ki fun r60 h => ?_)
      exact vr_iret rfl ⟨rfl, _, rfl, h⟩ dX8_count_63
    · have h := h.2 c1_1
      by_cases c1_2 : x1 = 2
      · have h := h.1 c1_2
        refine vr_tswIn 2 64 dX8_count_1 c1_2 (by decide) rfl (by decide) ?_
        refine vr_aload_n 0 0 dX8_count_64 rfl rfl ?_
        refine vg_22_0 RX8 rfl (by decide) fl_8_9 dX8_count_65 ?_
        refine vr_iconst 2 dX8_count_68 (by decide) ?_
        have hi := h.1
        have h := h.2
        refine vr_ialdQ 3464 ia_23 rfl hi dX8_count_69 ?_
        exact vr_iret rfl ⟨rfl, _, rfl, h⟩ dX8_count_70
      · have h := h.2 c1_2
        by_cases c1_3 : x1 = 3
        · have h := h.1 c1_3
          refine vr_tswIn 3 71 dX8_count_1 c1_3 (by decide) rfl (by decide) ?_
          refine vr_aload_n 0 0 dX8_count_71 rfl rfl ?_
          refine vg_22_6 RX8 rfl (by decide) fl_8_148 dX8_count_72 ?_
          exact vr_iret rfl ⟨rfl, _, rfl, h⟩ dX8_count_75
        · have h := h.2 c1_3
          by_cases c1_4 : x1 = 4
          · have h := h.1 c1_4
            refine vr_tswIn 4 76 dX8_count_1 c1_4 (by decide) rfl (by decide) ?_
            refine vr_aload_n 0 0 dX8_count_76 rfl rfl ?_
            refine vr_iconst 0 dX8_count_77 (by decide) ?_
            refine vr_callV RX8 (s_X8_cells h) rfl (by decide) rfl rfl rfl ml_8_314 rfl yh_X8_cells rfl ⟨Nat.le_of_ble_eq_true rfl, Nat.le_of_ble_eq_true rfl⟩ (Nat.le_of_ble_eq_true rfl) ⟨Nat.zero_le _, Nat.zero_le _⟩ dX8_count_78 (ki fun r78 h => ?_)
            exact vr_iret rfl ⟨rfl, _, rfl, h⟩ dX8_count_81
          · have h := h.2 c1_4
            by_cases c1_5 : x1 = 5
            · have h := h.1 c1_5
              refine vr_tswIn 5 82 dX8_count_1 c1_5 (by decide) rfl (by decide) ?_
              refine vr_aload_n 0 0 dX8_count_82 rfl rfl ?_
              refine vr_iconst 1 dX8_count_83 (by decide) ?_
              refine vr_callV RX8 (s_X8_cells h) rfl (by decide) rfl rfl rfl ml_8_314 rfl yh_X8_cells rfl ⟨Nat.le_of_ble_eq_true rfl, Nat.le_of_ble_eq_true rfl⟩ (Nat.le_of_ble_eq_true rfl) ⟨Nat.zero_le _, Nat.zero_le _⟩ dX8_count_84 (ki fun r84 h => ?_)
              exact vr_iret rfl ⟨rfl, _, rfl, h⟩ dX8_count_87
            · have h := h.2 c1_5
              by_cases c1_6 : x1 = 6
              · have h := h.1 c1_6
                refine vr_tswIn 6 88 dX8_count_1 c1_6 (by decide) rfl (by decide) ?_
                refine vr_aload_n 0 0 dX8_count_88 rfl rfl ?_
                refine vr_callV RX8 (s_X8_recordsAll h) rfl (by decide) rfl rfl rfl ml_8_317 rfl yh_X8_recordsAll rfl ⟨Nat.le_of_ble_eq_true rfl, Nat.le_of_ble_eq_true rfl⟩ (Nat.le_of_ble_eq_true rfl) ⟨Nat.zero_le _, Nat.zero_le _⟩ dX8_count_89 (ki fun r89 h => ?_)
                exact vr_iret rfl ⟨rfl, _, rfl, h⟩ dX8_count_92
              · have h := h.2 c1_6
                by_cases c1_7 : x1 = 7
                · have h := h.1 c1_7
                  refine vr_tswIn 7 93 dX8_count_1 c1_7 (by decide) rfl (by decide) ?_
                  refine vr_aload_n 0 0 dX8_count_93 rfl rfl ?_
                  refine vr_iconst 0 dX8_count_94 (by decide) ?_
                  refine vr_callV RX8 (s_X8_snapped h) rfl (by decide) rfl rfl rfl ml_8_302 rfl yh_X8_snapped rfl ⟨Nat.le_of_ble_eq_true rfl, Nat.le_of_ble_eq_true rfl⟩ (Nat.le_of_ble_eq_true rfl) ⟨Nat.zero_le _, Nat.zero_le _⟩ dX8_count_95 (ki fun r95 h => ?_)
                  exact vr_iret rfl ⟨rfl, _, rfl, h⟩ dX8_count_98
                · have h := h.2 c1_7
                  by_cases c1_8 : x1 = 8
                  · have h := h.1 c1_8
                    refine vr_tswIn 8 99 dX8_count_1 c1_8 (by decide) rfl (by decide) ?_
                    refine vr_aload_n 0 0 dX8_count_99 rfl rfl ?_
                    refine vg_22_0 RX8 rfl (by decide) fl_8_9 dX8_count_100 ?_
                    refine vr_iconst 1 dX8_count_103 (by decide) ?_
                    have hi := h.1
                    have h := h.2
                    refine vr_ialdQ 3464 ia_23 rfl hi dX8_count_104 ?_
                    exact vr_iret rfl ⟨rfl, _, rfl, h⟩ dX8_count_105
                  · have h := h.2 c1_8
                    refine vr_tswOut 106 dX8_count_1 (by have q0 := lv_neT c1_0 (a := 0) (by decide); have q1 := lv_neT c1_1 (a := 1) (by decide); have q2 := lv_neT c1_2 (a := 2) (by decide); have q3 := lv_neT c1_3 (a := 3) (by decide); have q4 := lv_neT c1_4 (a := 4) (by decide); have q5 := lv_neT c1_5 (a := 5) (by decide); have q6 := lv_neT c1_6 (a := 6) (by decide); have q7 := lv_neT c1_7 (a := 7) (by decide); have q8 := lv_neT c1_8 (a := 8) (by decide); omega) (by decide) ?_
                    refine vr_iconst (-1) dX8_count_106 (by decide) ?_
                    exact vr_iret rfl ⟨rfl, _, rfl, h⟩ dX8_count_107
