/-! X7_of, X7_rule, X7_lookup, X7_write, X7_number, X7_pointer, X7_link, X7_act, X7_word, X7_feed, X7_load, X7_unsnap, X7_start, X7_run, X7_why, X7_machine, X7_frame, X7_dry, X7_operand, X7_enters, X7_access, X7_lowestBit -/
theorem dX7_of_0 : decode cX7_of 0 = .ok (.aload_n 0, 1) := by decide +kernel
theorem dX7_of_1 : decode cX7_of 1 = .ok (.getfield 10, 3) := by decide +kernel
theorem dX7_of_4 : decode cX7_of 4 = .ok (.getfield 29, 3) := by decide +kernel
theorem dX7_of_7 : decode cX7_of 7 = .ok (.iload_n 1, 1) := by decide +kernel
theorem dX7_of_8 : decode cX7_of 8 = .ok (.invokevirtual 65, 3) := by decide +kernel
theorem dX7_of_11 : decode cX7_of 11 = .ok (.astore_n 3, 1) := by decide +kernel
theorem dX7_of_12 : decode cX7_of 12 = .ok (.aload_n 3, 1) := by decide +kernel
theorem dX7_of_13 : decode cX7_of 13 = .ok (.ifnonnull 5, 3) := by decide +kernel
theorem dX7_of_16 : decode cX7_of 16 = .ok (.iconst (-1), 1) := by decide +kernel
theorem dX7_of_17 : decode cX7_of 17 = .ok (.ireturn, 1) := by decide +kernel
theorem dX7_of_18 : decode cX7_of 18 = .ok (.iload_n 2, 1) := by decide +kernel
theorem dX7_of_19 : decode cX7_of 19 = .ok (.tableswitch 106 0 9 #[53, 58, 63, 68, 73, 78, 83, 88, 93, 98], 53) := by decide +kernel
theorem dX7_of_72 : decode cX7_of 72 = .ok (.aload_n 3, 1) := by decide +kernel
theorem dX7_of_73 : decode cX7_of 73 = .ok (.getfield 79, 3) := by decide +kernel
theorem dX7_of_76 : decode cX7_of 76 = .ok (.ireturn, 1) := by decide +kernel
theorem dX7_of_77 : decode cX7_of 77 = .ok (.aload_n 3, 1) := by decide +kernel
theorem dX7_of_78 : decode cX7_of 78 = .ok (.getfield 86, 3) := by decide +kernel
theorem dX7_of_81 : decode cX7_of 81 = .ok (.ireturn, 1) := by decide +kernel
theorem dX7_of_82 : decode cX7_of 82 = .ok (.aload_n 3, 1) := by decide +kernel
theorem dX7_of_83 : decode cX7_of 83 = .ok (.getfield 75, 3) := by decide +kernel
theorem dX7_of_86 : decode cX7_of 86 = .ok (.ireturn, 1) := by decide +kernel
theorem dX7_of_87 : decode cX7_of 87 = .ok (.aload_n 3, 1) := by decide +kernel
theorem dX7_of_88 : decode cX7_of 88 = .ok (.getfield 89, 3) := by decide +kernel
theorem dX7_of_91 : decode cX7_of 91 = .ok (.ireturn, 1) := by decide +kernel
theorem dX7_of_92 : decode cX7_of 92 = .ok (.aload_n 3, 1) := by decide +kernel
theorem dX7_of_93 : decode cX7_of 93 = .ok (.getfield 92, 3) := by decide +kernel
theorem dX7_of_96 : decode cX7_of 96 = .ok (.ireturn, 1) := by decide +kernel
theorem dX7_of_97 : decode cX7_of 97 = .ok (.aload_n 3, 1) := by decide +kernel
theorem dX7_of_98 : decode cX7_of 98 = .ok (.getfield 95, 3) := by decide +kernel
theorem dX7_of_101 : decode cX7_of 101 = .ok (.ireturn, 1) := by decide +kernel
theorem dX7_of_102 : decode cX7_of 102 = .ok (.aload_n 3, 1) := by decide +kernel
theorem dX7_of_103 : decode cX7_of 103 = .ok (.getfield 98, 3) := by decide +kernel
theorem dX7_of_106 : decode cX7_of 106 = .ok (.ireturn, 1) := by decide +kernel
theorem dX7_of_107 : decode cX7_of 107 = .ok (.aload_n 3, 1) := by decide +kernel
theorem dX7_of_108 : decode cX7_of 108 = .ok (.getfield 101, 3) := by decide +kernel
theorem dX7_of_111 : decode cX7_of 111 = .ok (.ireturn, 1) := by decide +kernel
theorem dX7_of_112 : decode cX7_of 112 = .ok (.aload_n 3, 1) := by decide +kernel
theorem dX7_of_113 : decode cX7_of 113 = .ok (.getfield 122, 3) := by decide +kernel
theorem dX7_of_116 : decode cX7_of 116 = .ok (.ireturn, 1) := by decide +kernel
theorem dX7_of_117 : decode cX7_of 117 = .ok (.aload_n 3, 1) := by decide +kernel
theorem dX7_of_118 : decode cX7_of 118 = .ok (.getfield 75, 3) := by decide +kernel
theorem dX7_of_121 : decode cX7_of 121 = .ok (.invokestatic 55, 3) := by decide +kernel
theorem dX7_of_124 : decode cX7_of 124 = .ok (.ireturn, 1) := by decide +kernel
theorem dX7_of_125 : decode cX7_of 125 = .ok (.iconst (-1), 1) := by decide +kernel
theorem dX7_of_126 : decode cX7_of 126 = .ok (.ireturn, 1) := by decide +kernel
def F_X7_of (x1 : Int32) (x2 : Int32) (P : VP) (post : Int32 → Prop) : Prop :=
  (F_X6_find 0 x1 P (fun r8 => match r8 with | none => (post (((-1) : Int32))) | some yr8 => ((x2 = 0 → post (P 7 yr8 1)) ∧ (¬ x2 = 0 → (x2 = 1 → post (P 7 yr8 2)) ∧ (¬ x2 = 1 → (x2 = 2 → post (P 7 yr8 4)) ∧ (¬ x2 = 2 → (x2 = 3 → post (P 7 yr8 5)) ∧ (¬ x2 = 3 → (x2 = 4 → post (P 7 yr8 6)) ∧ (¬ x2 = 4 → (x2 = 5 → post (P 7 yr8 7)) ∧ (¬ x2 = 5 → (x2 = 6 → post (P 7 yr8 8)) ∧ (¬ x2 = 6 → (x2 = 7 → post (P 7 yr8 9)) ∧ (¬ x2 = 7 → (x2 = 8 → post (P 7 yr8 3)) ∧ (¬ x2 = 8 → (x2 = 9 → F_X7_recordsOf (P 7 yr8 4) P (fun r121 => post r121)) ∧ (¬ x2 = 9 → post (((-1) : Int32)))))))))))))))
set_option maxRecDepth 4000 in
theorem s_X7_of {l : Launch} {g : vG} {x1 : Int32} {x2 : Int32} {P Q : VP} {post : Int32 → Prop}  (h : F_X7_of x1 x2 P post) : VC l g yX7_of cX7_of 4 (some .int) 1 [vR 0 0, vI x1, vI x2] (vjn P Q) (vpI (vjn P Q) post) := by
  refine VC.of (by decide +kernel) (Nat.le_of_ble_eq_true rfl) (show VM l g RX7 cX7_of 4 (some .int) 1 (vpI (vjn P Q) post) 0 [(0, vR 0 0), (1, vI x1), (2, vI x2)] [] (vjn P Q) from ?_)
  unfold F_X7_of at h
  refine vr_aload_n 0 0 dX7_of_0 rfl rfl ?_
  refine vg_0_0 RX7 rfl (by decide) fl_7_10 dX7_of_1 ?_
  refine vg_1_0 RX7 rfl (by decide) fl_7_29 dX7_of_4 ?_
  refine vr_iload_n 1 1 dX7_of_7 rfl rfl ?_
  refine vr_callV RX7 (s_X6_find (by decide) h) rfl (by decide) rfl rfl rfl ml_7_65 rfl yh_X6_find rfl ⟨Nat.le_of_ble_eq_true rfl, Nat.le_of_ble_eq_true rfl⟩ (Nat.le_of_ble_eq_true rfl) ⟨Nat.zero_le _, Nat.zero_le _⟩ dX7_of_8 (ko fun r8 hvr8 h => ?_)
  refine vr_astore_n 3 [(3, vO 7 r8), (0, vR 0 0), (1, vI x1), (2, vI x2)] dX7_of_11 rfl (by decide) rfl ?_
  refine vr_aload_n 3 0 dX7_of_12 rfl rfl ?_
  rcases r8 with _ | yr8
  · refine vr_ifnonnullN dX7_of_13 ?_
    refine vr_iconst (-1) dX7_of_16 (by decide) ?_
    exact vr_iret rfl ⟨rfl, _, rfl, h⟩ dX7_of_17
  · refine vr_ifnonnullR 18 dX7_of_13 (by decide) ?_
    refine vr_iload_n 2 3 dX7_of_18 rfl rfl ?_
    by_cases c19_0 : x2 = 0
    · have h := h.1 c19_0
      refine vr_tswIn 0 72 dX7_of_19 c19_0 (by decide) rfl (by decide) ?_
      refine vr_aload_n 3 0 dX7_of_72 rfl rfl ?_
      refine vg_7_1 RX7 rfl (hvr8 _ rfl) fl_7_79 dX7_of_73 ?_
      exact vr_iret rfl ⟨rfl, _, rfl, h⟩ dX7_of_76
    · have h := h.2 c19_0
      by_cases c19_1 : x2 = 1
      · have h := h.1 c19_1
        refine vr_tswIn 1 77 dX7_of_19 c19_1 (by decide) rfl (by decide) ?_
        refine vr_aload_n 3 0 dX7_of_77 rfl rfl ?_
        refine vg_7_2 RX7 rfl (hvr8 _ rfl) fl_7_86 dX7_of_78 ?_
        exact vr_iret rfl ⟨rfl, _, rfl, h⟩ dX7_of_81
      · have h := h.2 c19_1
        by_cases c19_2 : x2 = 2
        · have h := h.1 c19_2
          refine vr_tswIn 2 82 dX7_of_19 c19_2 (by decide) rfl (by decide) ?_
          refine vr_aload_n 3 0 dX7_of_82 rfl rfl ?_
          refine vg_7_4 RX7 rfl (hvr8 _ rfl) fl_7_75 dX7_of_83 ?_
          exact vr_iret rfl ⟨rfl, _, rfl, h⟩ dX7_of_86
        · have h := h.2 c19_2
          by_cases c19_3 : x2 = 3
          · have h := h.1 c19_3
            refine vr_tswIn 3 87 dX7_of_19 c19_3 (by decide) rfl (by decide) ?_
            refine vr_aload_n 3 0 dX7_of_87 rfl rfl ?_
            refine vg_7_5 RX7 rfl (hvr8 _ rfl) fl_7_89 dX7_of_88 ?_
            exact vr_iret rfl ⟨rfl, _, rfl, h⟩ dX7_of_91
          · have h := h.2 c19_3
            by_cases c19_4 : x2 = 4
            · have h := h.1 c19_4
              refine vr_tswIn 4 92 dX7_of_19 c19_4 (by decide) rfl (by decide) ?_
              refine vr_aload_n 3 0 dX7_of_92 rfl rfl ?_
              refine vg_7_6 RX7 rfl (hvr8 _ rfl) fl_7_92 dX7_of_93 ?_
              exact vr_iret rfl ⟨rfl, _, rfl, h⟩ dX7_of_96
            · have h := h.2 c19_4
              by_cases c19_5 : x2 = 5
              · have h := h.1 c19_5
                refine vr_tswIn 5 97 dX7_of_19 c19_5 (by decide) rfl (by decide) ?_
                refine vr_aload_n 3 0 dX7_of_97 rfl rfl ?_
                refine vg_7_7 RX7 rfl (hvr8 _ rfl) fl_7_95 dX7_of_98 ?_
                exact vr_iret rfl ⟨rfl, _, rfl, h⟩ dX7_of_101
              · have h := h.2 c19_5
                by_cases c19_6 : x2 = 6
                · have h := h.1 c19_6
                  refine vr_tswIn 6 102 dX7_of_19 c19_6 (by decide) rfl (by decide) ?_
                  refine vr_aload_n 3 0 dX7_of_102 rfl rfl ?_
                  refine vg_7_8 RX7 rfl (hvr8 _ rfl) fl_7_98 dX7_of_103 ?_
                  exact vr_iret rfl ⟨rfl, _, rfl, h⟩ dX7_of_106
                · have h := h.2 c19_6
                  by_cases c19_7 : x2 = 7
                  · have h := h.1 c19_7
                    refine vr_tswIn 7 107 dX7_of_19 c19_7 (by decide) rfl (by decide) ?_
                    refine vr_aload_n 3 0 dX7_of_107 rfl rfl ?_
                    refine vg_7_9 RX7 rfl (hvr8 _ rfl) fl_7_101 dX7_of_108 ?_
                    exact vr_iret rfl ⟨rfl, _, rfl, h⟩ dX7_of_111
                  · have h := h.2 c19_7
                    by_cases c19_8 : x2 = 8
                    · have h := h.1 c19_8
                      refine vr_tswIn 8 112 dX7_of_19 c19_8 (by decide) rfl (by decide) ?_
                      refine vr_aload_n 3 0 dX7_of_112 rfl rfl ?_
                      refine vg_7_3 RX7 rfl (hvr8 _ rfl) fl_7_122 dX7_of_113 ?_
                      exact vr_iret rfl ⟨rfl, _, rfl, h⟩ dX7_of_116
                    · have h := h.2 c19_8
                      by_cases c19_9 : x2 = 9
                      · have h := h.1 c19_9
                        refine vr_tswIn 9 117 dX7_of_19 c19_9 (by decide) rfl (by decide) ?_
                        refine vr_aload_n 3 0 dX7_of_117 rfl rfl ?_
                        refine vg_7_4 RX7 rfl (hvr8 _ rfl) fl_7_75 dX7_of_118 ?_
                        refine vr_callS RX7 (s_X7_recordsOf h) rfl rfl ml_7_55 rfl yh_X7_recordsOf rfl ⟨Nat.le_of_ble_eq_true rfl, Nat.le_of_ble_eq_true rfl⟩ (Nat.le_of_ble_eq_true rfl) ⟨Nat.zero_le _, Nat.zero_le _⟩ dX7_of_121 (ki fun r121 h => ?_)
                        exact vr_iret rfl ⟨rfl, _, rfl, h⟩ dX7_of_124
                      · have h := h.2 c19_9
                        refine vr_tswOut 125 dX7_of_19 (by have q0 := lv_neT c19_0 (a := 0) (by decide); have q1 := lv_neT c19_1 (a := 1) (by decide); have q2 := lv_neT c19_2 (a := 2) (by decide); have q3 := lv_neT c19_3 (a := 3) (by decide); have q4 := lv_neT c19_4 (a := 4) (by decide); have q5 := lv_neT c19_5 (a := 5) (by decide); have q6 := lv_neT c19_6 (a := 6) (by decide); have q7 := lv_neT c19_7 (a := 7) (by decide); have q8 := lv_neT c19_8 (a := 8) (by decide); have q9 := lv_neT c19_9 (a := 9) (by decide); omega) (by decide) ?_
                        refine vr_iconst (-1) dX7_of_125 (by decide) ?_
                        exact vr_iret rfl ⟨rfl, _, rfl, h⟩ dX7_of_126
theorem dX7_rule_0 : decode cX7_rule 0 = .ok (.aload_n 0, 1) := by decide +kernel
theorem dX7_rule_1 : decode cX7_rule 1 = .ok (.getfield 10, 3) := by decide +kernel
theorem dX7_rule_4 : decode cX7_rule 4 = .ok (.getfield 29, 3) := by decide +kernel
theorem dX7_rule_7 : decode cX7_rule 7 = .ok (.astore_n 2, 1) := by decide +kernel
theorem dX7_rule_8 : decode cX7_rule 8 = .ok (.iload_n 1, 1) := by decide +kernel
theorem dX7_rule_9 : decode cX7_rule 9 = .ok (.iconst (-1), 1) := by decide +kernel
theorem dX7_rule_10 : decode cX7_rule 10 = .ok (.if_icmp .ne 10, 3) := by decide +kernel
theorem dX7_rule_13 : decode cX7_rule 13 = .ok (.aload_n 2, 1) := by decide +kernel
theorem dX7_rule_14 : decode cX7_rule 14 = .ok (.iconst 0, 1) := by decide +kernel
theorem dX7_rule_15 : decode cX7_rule 15 = .ok (.putfield 125, 3) := by decide +kernel
theorem dX7_rule_18 : decode cX7_rule 18 = .ok (.iconst 0, 1) := by decide +kernel
theorem dX7_rule_19 : decode cX7_rule 19 = .ok (.ireturn, 1) := by decide +kernel
theorem dX7_rule_20 : decode cX7_rule 20 = .ok (.aload_n 2, 1) := by decide +kernel
theorem dX7_rule_21 : decode cX7_rule 21 = .ok (.iload_n 1, 1) := by decide +kernel
theorem dX7_rule_22 : decode cX7_rule 22 = .ok (.invokevirtual 33, 3) := by decide +kernel
theorem dX7_rule_25 : decode cX7_rule 25 = .ok (.ifCond .ne 5, 3) := by decide +kernel
theorem dX7_rule_28 : decode cX7_rule 28 = .ok (.iconst (-1), 1) := by decide +kernel
theorem dX7_rule_29 : decode cX7_rule 29 = .ok (.ireturn, 1) := by decide +kernel
theorem dX7_rule_30 : decode cX7_rule 30 = .ok (.aload_n 2, 1) := by decide +kernel
theorem dX7_rule_31 : decode cX7_rule 31 = .ok (.iload_n 1, 1) := by decide +kernel
theorem dX7_rule_32 : decode cX7_rule 32 = .ok (.invokevirtual 128, 3) := by decide +kernel
theorem dX7_rule_35 : decode cX7_rule 35 = .ok (.ireturn, 1) := by decide +kernel
def F_X7_rule (x1 : Int32) (P : VP) (post : Int32 → VP → Prop) : Prop :=
  (x1 = (-1) → ∀ P15 : VP, P15 = vup P 2 0 3 0 → (post ((0 : Int32)) P15)) ∧ (¬ x1 = (-1) → F_X6_hasDirectory 0 x1 P (fun r22 => (r22 = 0 → post (((-1) : Int32)) P) ∧ (¬ r22 = 0 → F_X6_addRule 0 x1 P (fun r32 P32 => post r32 P32))))
set_option maxRecDepth 4000 in
theorem s_X7_rule {l : Launch} {g : vG} {x1 : Int32} {P Q : VP} {post : Int32 → VP → Prop}  (h : F_X7_rule x1 P post) : VC l g yX7_rule cX7_rule 3 (some .int) 1 [vR 0 0, vI x1] (vjn P Q) (vcI Q post) := by
  refine VC.of (by decide +kernel) (Nat.le_of_ble_eq_true rfl) (show VM l g RX7 cX7_rule 3 (some .int) 1 (vcI Q post) 0 [(0, vR 0 0), (1, vI x1)] [] (vjn P Q) from ?_)
  unfold F_X7_rule at h
  refine vr_aload_n 0 0 dX7_rule_0 rfl rfl ?_
  refine vg_0_0 RX7 rfl (by decide) fl_7_10 dX7_rule_1 ?_
  refine vg_1_0 RX7 rfl (by decide) fl_7_29 dX7_rule_4 ?_
  refine vr_astore_n 2 [(2, vR 2 0), (0, vR 0 0), (1, vI x1)] dX7_rule_7 rfl (by decide) rfl ?_
  refine vr_iload_n 1 2 dX7_rule_8 rfl rfl ?_
  refine vr_iconst (-1) dX7_rule_9 (by decide) ?_
  refine vr_icmpne 20 dX7_rule_10 (by decide) (fun c10 => ?_) (fun c10 => ?_)
  · have h := h.1 c10
    refine vr_aload_n 2 0 dX7_rule_13 rfl rfl ?_
    refine vr_iconst 0 dX7_rule_14 (by decide) ?_
    obtain ⟨P15, eP15⟩ : ∃ y : VP, y = vup P 2 0 3 0 := ⟨_, rfl⟩
    have h := h P15 eP15
    refine vp_2_3 RX7 rfl (by decide) fl_7_125 eP15 dX7_rule_15 ?_
    refine vr_iconst 0 dX7_rule_18 (by decide) ?_
    exact vr_iret rfl ⟨_, _, rfl, rfl, h⟩ dX7_rule_19
  · have h := h.2 c10
    refine vr_aload_n 2 0 dX7_rule_20 rfl rfl ?_
    refine vr_iload_n 1 2 dX7_rule_21 rfl rfl ?_
    refine vr_callV RX7 (s_X6_hasDirectory (by decide) h) rfl (by decide) rfl rfl rfl ml_7_33 rfl yh_X6_hasDirectory rfl ⟨Nat.le_of_ble_eq_true rfl, Nat.le_of_ble_eq_true rfl⟩ (Nat.le_of_ble_eq_true rfl) ⟨Nat.zero_le _, Nat.zero_le _⟩ dX7_rule_22 (ki fun r22 h => ?_)
    refine vr_ifne 30 dX7_rule_25 (by decide) (fun c25 => ?_) (fun c25 => ?_)
    · have h := h.1 c25
      refine vr_iconst (-1) dX7_rule_28 (by decide) ?_
      exact vr_iret rfl ⟨_, _, rfl, rfl, h⟩ dX7_rule_29
    · have h := h.2 c25
      refine vr_aload_n 2 0 dX7_rule_30 rfl rfl ?_
      refine vr_iload_n 1 2 dX7_rule_31 rfl rfl ?_
      refine vr_callV RX7 (s_X6_addRule (by decide) h) rfl (by decide) rfl rfl rfl ml_7_128 rfl yh_X6_addRule rfl ⟨Nat.le_of_ble_eq_true rfl, Nat.le_of_ble_eq_true rfl⟩ (Nat.le_of_ble_eq_true rfl) ⟨Nat.zero_le _, Nat.zero_le _⟩ dX7_rule_32 (kci fun r32 P32 h => ?_)
      exact vr_iret rfl ⟨_, _, rfl, rfl, h⟩ dX7_rule_35
theorem dX7_lookup_0 : decode cX7_lookup 0 = .ok (.aload_n 0, 1) := by decide +kernel
theorem dX7_lookup_1 : decode cX7_lookup 1 = .ok (.getfield 10, 3) := by decide +kernel
theorem dX7_lookup_4 : decode cX7_lookup 4 = .ok (.getfield 29, 3) := by decide +kernel
theorem dX7_lookup_7 : decode cX7_lookup 7 = .ok (.astore_n 3, 1) := by decide +kernel
theorem dX7_lookup_8 : decode cX7_lookup 8 = .ok (.aload_n 3, 1) := by decide +kernel
theorem dX7_lookup_9 : decode cX7_lookup 9 = .ok (.iload_n 1, 1) := by decide +kernel
theorem dX7_lookup_10 : decode cX7_lookup 10 = .ok (.invokevirtual 65, 3) := by decide +kernel
theorem dX7_lookup_13 : decode cX7_lookup 13 = .ok (.astore 4, 2) := by decide +kernel
theorem dX7_lookup_15 : decode cX7_lookup 15 = .ok (.aload 4, 2) := by decide +kernel
theorem dX7_lookup_17 : decode cX7_lookup 17 = .ok (.ifnull 12, 3) := by decide +kernel
theorem dX7_lookup_20 : decode cX7_lookup 20 = .ok (.iload_n 2, 1) := by decide +kernel
theorem dX7_lookup_21 : decode cX7_lookup 21 = .ok (.bipush 26, 2) := by decide +kernel
theorem dX7_lookup_23 : decode cX7_lookup 23 = .ok (.invokestatic 43, 3) := by decide +kernel
theorem dX7_lookup_26 : decode cX7_lookup 26 = .ok (.ifCond .ne 5, 3) := by decide +kernel
theorem dX7_lookup_29 : decode cX7_lookup 29 = .ok (.iconst (-1), 1) := by decide +kernel
theorem dX7_lookup_30 : decode cX7_lookup 30 = .ok (.ireturn, 1) := by decide +kernel
theorem dX7_lookup_31 : decode cX7_lookup 31 = .ok (.aload_n 3, 1) := by decide +kernel
theorem dX7_lookup_32 : decode cX7_lookup 32 = .ok (.aload 4, 2) := by decide +kernel
theorem dX7_lookup_34 : decode cX7_lookup 34 = .ok (.iload_n 2, 1) := by decide +kernel
theorem dX7_lookup_35 : decode cX7_lookup 35 = .ok (.invokevirtual 131, 3) := by decide +kernel
theorem dX7_lookup_38 : decode cX7_lookup 38 = .ok (.istore 5, 2) := by decide +kernel
theorem dX7_lookup_40 : decode cX7_lookup 40 = .ok (.iload 5, 2) := by decide +kernel
theorem dX7_lookup_42 : decode cX7_lookup 42 = .ok (.ifCond .ge 8, 3) := by decide +kernel
theorem dX7_lookup_45 : decode cX7_lookup 45 = .ok (.bipush (-2), 2) := by decide +kernel
theorem dX7_lookup_47 : decode cX7_lookup 47 = .ok (.goto 5, 3) := by decide +kernel
theorem dX7_lookup_50 : decode cX7_lookup 50 = .ok (.iload 5, 2) := by decide +kernel
theorem dX7_lookup_52 : decode cX7_lookup 52 = .ok (.ireturn, 1) := by decide +kernel
def F_X7_lookup (x1 : Int32) (x2 : Int32) (P : VP) (post : Int32 → Prop) : Prop :=
  (F_X6_find 0 x1 P (fun r10 => match r10 with | none => (post (((-1) : Int32))) | some yr10 => (F_X7_isBelow x2 ((26 : Int32)) P (fun r23 => (r23 = 0 → post (((-1) : Int32))) ∧ (¬ r23 = 0 → F_X6_seek 0 yr10 x2 P (fun r35 => (r35 < 0 → post (((-2) : Int32))) ∧ (¬ r35 < 0 → post r35)))))))
set_option maxRecDepth 4000 in
theorem s_X7_lookup {l : Launch} {g : vG} {x1 : Int32} {x2 : Int32} {P Q : VP} {post : Int32 → Prop}  (h : F_X7_lookup x1 x2 P post) : VC l g yX7_lookup cX7_lookup 6 (some .int) 2 [vR 0 0, vI x1, vI x2] (vjn P Q) (vpI (vjn P Q) post) := by
  refine VC.of (by decide +kernel) (Nat.le_of_ble_eq_true rfl) (show VM l g RX7 cX7_lookup 6 (some .int) 2 (vpI (vjn P Q) post) 0 [(0, vR 0 0), (1, vI x1), (2, vI x2)] [] (vjn P Q) from ?_)
  unfold F_X7_lookup at h
  refine vr_aload_n 0 0 dX7_lookup_0 rfl rfl ?_
  refine vg_0_0 RX7 rfl (by decide) fl_7_10 dX7_lookup_1 ?_
  refine vg_1_0 RX7 rfl (by decide) fl_7_29 dX7_lookup_4 ?_
  refine vr_astore_n 3 [(3, vR 2 0), (0, vR 0 0), (1, vI x1), (2, vI x2)] dX7_lookup_7 rfl (by decide) rfl ?_
  refine vr_aload_n 3 0 dX7_lookup_8 rfl rfl ?_
  refine vr_iload_n 1 2 dX7_lookup_9 rfl rfl ?_
  refine vr_callV RX7 (s_X6_find (by decide) h) rfl (by decide) rfl rfl rfl ml_7_65 rfl yh_X6_find rfl ⟨Nat.le_of_ble_eq_true rfl, Nat.le_of_ble_eq_true rfl⟩ (Nat.le_of_ble_eq_true rfl) ⟨Nat.zero_le _, Nat.zero_le _⟩ dX7_lookup_10 (ko fun r10 hvr10 h => ?_)
  refine vr_astore [(4, vO 7 r10), (3, vR 2 0), (0, vR 0 0), (1, vI x1), (2, vI x2)] dX7_lookup_13 (by decide) rfl ?_
  refine vr_aload 0 dX7_lookup_15 rfl ?_
  rcases r10 with _ | yr10
  · refine vr_ifnullN 29 dX7_lookup_17 (by decide) ?_
    refine vr_iconst (-1) dX7_lookup_29 (by decide) ?_
    exact vr_iret rfl ⟨rfl, _, rfl, h⟩ dX7_lookup_30
  · refine vr_ifnullR dX7_lookup_17 ?_
    refine vr_iload_n 2 4 dX7_lookup_20 rfl rfl ?_
    refine vr_bipush 26 dX7_lookup_21 (by decide) ?_
    refine vr_callS RX7 (s_X7_isBelow h) rfl rfl ml_7_43 rfl yh_X7_isBelow rfl ⟨Nat.le_of_ble_eq_true rfl, Nat.le_of_ble_eq_true rfl⟩ (Nat.le_of_ble_eq_true rfl) ⟨Nat.zero_le _, Nat.zero_le _⟩ dX7_lookup_23 (ki fun r23 h => ?_)
    refine vr_ifne 31 dX7_lookup_26 (by decide) (fun c26 => ?_) (fun c26 => ?_)
    · have h := h.1 c26
      refine vr_iconst (-1) dX7_lookup_29 (by decide) ?_
      exact vr_iret rfl ⟨rfl, _, rfl, h⟩ dX7_lookup_30
    · have h := h.2 c26
      refine vr_aload_n 3 1 dX7_lookup_31 rfl rfl ?_
      refine vr_aload 0 dX7_lookup_32 rfl ?_
      refine vr_iload_n 2 4 dX7_lookup_34 rfl rfl ?_
      refine vr_callV RX7 (s_X6_seek (by decide) (hvr10 _ rfl) h) rfl (by decide) rfl rfl rfl ml_7_131 rfl yh_X6_seek rfl ⟨Nat.le_of_ble_eq_true rfl, Nat.le_of_ble_eq_true rfl⟩ (Nat.le_of_ble_eq_true rfl) ⟨Nat.zero_le _, Nat.zero_le _⟩ dX7_lookup_35 (ki fun r35 h => ?_)
      refine vr_istore [(5, vI r35), (4, vR 7 yr10), (3, vR 2 0), (0, vR 0 0), (1, vI x1), (2, vI x2)] dX7_lookup_38 (by decide) rfl ?_
      refine vr_iload 0 dX7_lookup_40 rfl ?_
      refine vr_ifge 50 dX7_lookup_42 (by decide) (fun c42 => ?_) (fun c42 => ?_)
      · have h := h.1 c42
        refine vr_bipush (-2) dX7_lookup_45 (by decide) ?_
        refine vr_goto 52 dX7_lookup_47 (by decide) ?_
        exact vr_iret rfl ⟨rfl, _, rfl, h⟩ dX7_lookup_52
      · have h := h.2 c42
        refine vr_iload 0 dX7_lookup_50 rfl ?_
        exact vr_iret rfl ⟨rfl, _, rfl, h⟩ dX7_lookup_52
theorem dX7_write_0 : decode cX7_write 0 = .ok (.aload_n 0, 1) := by decide +kernel
theorem dX7_write_1 : decode cX7_write 1 = .ok (.ifnonnull 5, 3) := by decide +kernel
theorem dX7_write_4 : decode cX7_write 4 = .ok (.iconst (-1), 1) := by decide +kernel
theorem dX7_write_5 : decode cX7_write 5 = .ok (.ireturn, 1) := by decide +kernel
theorem dX7_write_6 : decode cX7_write 6 = .ok (.aload_n 0, 1) := by decide +kernel
theorem dX7_write_7 : decode cX7_write 7 = .ok (.iload_n 1, 1) := by decide +kernel
theorem dX7_write_8 : decode cX7_write 8 = .ok (.invokevirtual 148, 3) := by decide +kernel
theorem dX7_write_11 : decode cX7_write 11 = .ok (.ifCond .ne 6, 3) := by decide +kernel
theorem dX7_write_14 : decode cX7_write 14 = .ok (.bipush (-13), 2) := by decide +kernel
theorem dX7_write_16 : decode cX7_write 16 = .ok (.ireturn, 1) := by decide +kernel
theorem dX7_write_17 : decode cX7_write 17 = .ok (.aload_n 0, 1) := by decide +kernel
theorem dX7_write_18 : decode cX7_write 18 = .ok (.iload_n 1, 1) := by decide +kernel
theorem dX7_write_19 : decode cX7_write 19 = .ok (.iload_n 2, 1) := by decide +kernel
theorem dX7_write_20 : decode cX7_write 20 = .ok (.iload_n 3, 1) := by decide +kernel
theorem dX7_write_21 : decode cX7_write 21 = .ok (.iconst 0, 1) := by decide +kernel
theorem dX7_write_22 : decode cX7_write 22 = .ok (.invokevirtual 180, 3) := by decide +kernel
theorem dX7_write_25 : decode cX7_write 25 = .ok (.iconst 1, 1) := by decide +kernel
theorem dX7_write_26 : decode cX7_write 26 = .ok (.ireturn, 1) := by decide +kernel
def F_X7_write (o0 : Option Nat) (x1 : Int32) (x2 : Int32) (x3 : Int32) (P : VP) (post : Int32 → VP → Prop) : Prop :=
  (match o0 with | none => (post (((-1) : Int32)) P) | some yo0 => (F_X3_has yo0 x1 P (fun r8 => (r8 = 0 → post (((-13) : Int32)) P) ∧ (¬ r8 = 0 → F_X3_become yo0 x1 x2 x3 ((0 : Int32)) P (fun P22 => post ((1 : Int32)) P22)))))
set_option maxRecDepth 4000 in
theorem s_X7_write {l : Launch} {g : vG} {o0 : Option Nat} {x1 : Int32} {x2 : Int32} {x3 : Int32} {P Q : VP} {post : Int32 → VP → Prop} (ho0 : ∀ x, o0 = some x → x < vcnt 7) (h : F_X7_write o0 x1 x2 x3 P post) : VC l g yX7_write cX7_write 4 (some .int) 2 [vO 7 o0, vI x1, vI x2, vI x3] (vjn P Q) (vcI Q post) := by
  refine VC.of (by decide +kernel) (Nat.le_of_ble_eq_true rfl) (show VM l g RX7 cX7_write 4 (some .int) 2 (vcI Q post) 0 [(0, vO 7 o0), (1, vI x1), (2, vI x2), (3, vI x3)] [] (vjn P Q) from ?_)
  unfold F_X7_write at h
  refine vr_aload_n 0 0 dX7_write_0 rfl rfl ?_
  rcases o0 with _ | yo0
  · refine vr_ifnonnullN dX7_write_1 ?_
    refine vr_iconst (-1) dX7_write_4 (by decide) ?_
    exact vr_iret rfl ⟨_, _, rfl, rfl, h⟩ dX7_write_5
  · refine vr_ifnonnullR 6 dX7_write_1 (by decide) ?_
    refine vr_aload_n 0 0 dX7_write_6 rfl rfl ?_
    refine vr_iload_n 1 1 dX7_write_7 rfl rfl ?_
    refine vr_callV RX7 (s_X3_has (ho0 _ rfl) h) rfl (ho0 _ rfl) rfl rfl rfl ml_7_148 rfl yh_X3_has rfl ⟨Nat.le_of_ble_eq_true rfl, Nat.le_of_ble_eq_true rfl⟩ (Nat.le_of_ble_eq_true rfl) ⟨Nat.zero_le _, Nat.zero_le _⟩ dX7_write_8 (ki fun r8 h => ?_)
    refine vr_ifne 17 dX7_write_11 (by decide) (fun c11 => ?_) (fun c11 => ?_)
    · have h := h.1 c11
      refine vr_bipush (-13) dX7_write_14 (by decide) ?_
      exact vr_iret rfl ⟨_, _, rfl, rfl, h⟩ dX7_write_16
    · have h := h.2 c11
      refine vr_aload_n 0 0 dX7_write_17 rfl rfl ?_
      refine vr_iload_n 1 1 dX7_write_18 rfl rfl ?_
      refine vr_iload_n 2 2 dX7_write_19 rfl rfl ?_
      refine vr_iload_n 3 3 dX7_write_20 rfl rfl ?_
      refine vr_iconst 0 dX7_write_21 (by decide) ?_
      refine vr_callV RX7 (s_X3_become (ho0 _ rfl) h) rfl (ho0 _ rfl) rfl rfl rfl ml_7_180 rfl yh_X3_become rfl ⟨Nat.le_of_ble_eq_true rfl, Nat.le_of_ble_eq_true rfl⟩ (Nat.le_of_ble_eq_true rfl) ⟨Nat.zero_le _, Nat.zero_le _⟩ dX7_write_22 (kcv fun P22 h => ?_)
      refine vr_iconst 1 dX7_write_25 (by decide) ?_
      exact vr_iret rfl ⟨_, _, rfl, rfl, h⟩ dX7_write_26
theorem dX7_number_0 : decode cX7_number 0 = .ok (.aload_n 0, 1) := by decide +kernel
theorem dX7_number_1 : decode cX7_number 1 = .ok (.getfield 10, 3) := by decide +kernel
theorem dX7_number_4 : decode cX7_number 4 = .ok (.getfield 29, 3) := by decide +kernel
theorem dX7_number_7 : decode cX7_number 7 = .ok (.iload_n 1, 1) := by decide +kernel
theorem dX7_number_8 : decode cX7_number 8 = .ok (.invokevirtual 65, 3) := by decide +kernel
theorem dX7_number_11 : decode cX7_number 11 = .ok (.iload_n 2, 1) := by decide +kernel
theorem dX7_number_12 : decode cX7_number 12 = .ok (.iconst 1, 1) := by decide +kernel
theorem dX7_number_13 : decode cX7_number 13 = .ok (.iload_n 3, 1) := by decide +kernel
theorem dX7_number_14 : decode cX7_number 14 = .ok (.invokestatic 135, 3) := by decide +kernel
theorem dX7_number_17 : decode cX7_number 17 = .ok (.ireturn, 1) := by decide +kernel
def F_X7_number (x1 : Int32) (x2 : Int32) (x3 : Int32) (P : VP) (post : Int32 → VP → Prop) : Prop :=
  F_X6_find 0 x1 P (fun r8 => F_X7_write r8 x2 ((1 : Int32)) x3 P (fun r14 P14 => post r14 P14))
set_option maxRecDepth 4000 in
theorem s_X7_number {l : Launch} {g : vG} {x1 : Int32} {x2 : Int32} {x3 : Int32} {P Q : VP} {post : Int32 → VP → Prop}  (h : F_X7_number x1 x2 x3 P post) : VC l g yX7_number cX7_number 4 (some .int) 3 [vR 0 0, vI x1, vI x2, vI x3] (vjn P Q) (vcI Q post) := by
  refine VC.of (by decide +kernel) (Nat.le_of_ble_eq_true rfl) (show VM l g RX7 cX7_number 4 (some .int) 3 (vcI Q post) 0 [(0, vR 0 0), (1, vI x1), (2, vI x2), (3, vI x3)] [] (vjn P Q) from ?_)
  unfold F_X7_number at h
  refine vr_aload_n 0 0 dX7_number_0 rfl rfl ?_
  refine vg_0_0 RX7 rfl (by decide) fl_7_10 dX7_number_1 ?_
  refine vg_1_0 RX7 rfl (by decide) fl_7_29 dX7_number_4 ?_
  refine vr_iload_n 1 1 dX7_number_7 rfl rfl ?_
  refine vr_callV RX7 (s_X6_find (by decide) h) rfl (by decide) rfl rfl rfl ml_7_65 rfl yh_X6_find rfl ⟨Nat.le_of_ble_eq_true rfl, Nat.le_of_ble_eq_true rfl⟩ (Nat.le_of_ble_eq_true rfl) ⟨Nat.zero_le _, Nat.zero_le _⟩ dX7_number_8 (ko fun r8 hvr8 h => ?_)
  refine vr_iload_n 2 2 dX7_number_11 rfl rfl ?_
  refine vr_iconst 1 dX7_number_12 (by decide) ?_
  refine vr_iload_n 3 3 dX7_number_13 rfl rfl ?_
  refine vr_callS RX7 (s_X7_write hvr8 h) rfl rfl ml_7_135 rfl yh_X7_write rfl ⟨Nat.le_of_ble_eq_true rfl, Nat.le_of_ble_eq_true rfl⟩ (Nat.le_of_ble_eq_true rfl) ⟨Nat.zero_le _, Nat.zero_le _⟩ dX7_number_14 (kci fun r14 P14 h => ?_)
  exact vr_iret rfl ⟨_, _, rfl, rfl, h⟩ dX7_number_17
theorem dX7_pointer_0 : decode cX7_pointer 0 = .ok (.iload_n 3, 1) := by decide +kernel
theorem dX7_pointer_1 : decode cX7_pointer 1 = .ok (.ifCond .lt 30, 3) := by decide +kernel
theorem dX7_pointer_4 : decode cX7_pointer 4 = .ok (.iload_n 3, 1) := by decide +kernel
theorem dX7_pointer_5 : decode cX7_pointer 5 = .ok (.invokestatic 139, 3) := by decide +kernel
theorem dX7_pointer_8 : decode cX7_pointer 8 = .ok (.bipush 16, 2) := by decide +kernel
theorem dX7_pointer_10 : decode cX7_pointer 10 = .ok (.if_icmp .ge 21, 3) := by decide +kernel
theorem dX7_pointer_13 : decode cX7_pointer 13 = .ok (.iload_n 3, 1) := by decide +kernel
theorem dX7_pointer_14 : decode cX7_pointer 14 = .ok (.invokestatic 142, 3) := by decide +kernel
theorem dX7_pointer_17 : decode cX7_pointer 17 = .ok (.bipush 8, 2) := by decide +kernel
theorem dX7_pointer_19 : decode cX7_pointer 19 = .ok (.if_icmp .ge 12, 3) := by decide +kernel
theorem dX7_pointer_22 : decode cX7_pointer 22 = .ok (.iload_n 3, 1) := by decide +kernel
theorem dX7_pointer_23 : decode cX7_pointer 23 = .ok (.invokestatic 145, 3) := by decide +kernel
theorem dX7_pointer_26 : decode cX7_pointer 26 = .ok (.bipush 24, 2) := by decide +kernel
theorem dX7_pointer_28 : decode cX7_pointer 28 = .ok (.if_icmp .lt 5, 3) := by decide +kernel
theorem dX7_pointer_31 : decode cX7_pointer 31 = .ok (.iconst (-1), 1) := by decide +kernel
theorem dX7_pointer_32 : decode cX7_pointer 32 = .ok (.ireturn, 1) := by decide +kernel
theorem dX7_pointer_33 : decode cX7_pointer 33 = .ok (.aload_n 0, 1) := by decide +kernel
theorem dX7_pointer_34 : decode cX7_pointer 34 = .ok (.getfield 10, 3) := by decide +kernel
theorem dX7_pointer_37 : decode cX7_pointer 37 = .ok (.getfield 29, 3) := by decide +kernel
theorem dX7_pointer_40 : decode cX7_pointer 40 = .ok (.iload_n 1, 1) := by decide +kernel
theorem dX7_pointer_41 : decode cX7_pointer 41 = .ok (.invokevirtual 65, 3) := by decide +kernel
theorem dX7_pointer_44 : decode cX7_pointer 44 = .ok (.iload_n 2, 1) := by decide +kernel
theorem dX7_pointer_45 : decode cX7_pointer 45 = .ok (.iload 4, 2) := by decide +kernel
theorem dX7_pointer_47 : decode cX7_pointer 47 = .ok (.ifCond .eq 7, 3) := by decide +kernel
theorem dX7_pointer_50 : decode cX7_pointer 50 = .ok (.iconst 3, 1) := by decide +kernel
theorem dX7_pointer_51 : decode cX7_pointer 51 = .ok (.goto 4, 3) := by decide +kernel
theorem dX7_pointer_54 : decode cX7_pointer 54 = .ok (.iconst 2, 1) := by decide +kernel
theorem dX7_pointer_55 : decode cX7_pointer 55 = .ok (.iload_n 3, 1) := by decide +kernel
theorem dX7_pointer_56 : decode cX7_pointer 56 = .ok (.invokestatic 135, 3) := by decide +kernel
theorem dX7_pointer_59 : decode cX7_pointer 59 = .ok (.ireturn, 1) := by decide +kernel
def F_X7_pointer (x1 : Int32) (x2 : Int32) (x3 : Int32) (x4 : Int32) (P : VP) (post : Int32 → VP → Prop) : Prop :=
  (x3 < 0 → post (((-1) : Int32)) P) ∧ (¬ x3 < 0 → F_X7_segmentIn x3 P (fun r5 => (r5 < 16 → F_X7_ringIn x3 P (fun r14 => (r14 < 8 → F_X7_wordIn x3 P (fun r23 => (r23 < 24 → F_X6_find 0 x1 P (fun r41 => (x4 = 0 → F_X7_write r41 x2 ((2 : Int32)) x3 P (fun r56 P56 => post r56 P56)) ∧ (¬ x4 = 0 → F_X7_write r41 x2 ((3 : Int32)) x3 P (fun r56 P56 => post r56 P56)))) ∧ (¬ r23 < 24 → post (((-1) : Int32)) P))) ∧ (¬ r14 < 8 → post (((-1) : Int32)) P))) ∧ (¬ r5 < 16 → post (((-1) : Int32)) P)))
set_option maxRecDepth 4000 in
theorem s_X7_pointer {l : Launch} {g : vG} {x1 : Int32} {x2 : Int32} {x3 : Int32} {x4 : Int32} {P Q : VP} {post : Int32 → VP → Prop}  (h : F_X7_pointer x1 x2 x3 x4 P post) : VC l g yX7_pointer cX7_pointer 5 (some .int) 3 [vR 0 0, vI x1, vI x2, vI x3, vI x4] (vjn P Q) (vcI Q post) := by
  refine VC.of (by decide +kernel) (Nat.le_of_ble_eq_true rfl) (show VM l g RX7 cX7_pointer 5 (some .int) 3 (vcI Q post) 0 [(0, vR 0 0), (1, vI x1), (2, vI x2), (3, vI x3), (4, vI x4)] [] (vjn P Q) from ?_)
  unfold F_X7_pointer at h
  refine vr_iload_n 3 3 dX7_pointer_0 rfl rfl ?_
  refine vr_iflt 31 dX7_pointer_1 (by decide) (fun c1 => ?_) (fun c1 => ?_)
  · have h := h.1 c1
    refine vr_iconst (-1) dX7_pointer_31 (by decide) ?_
    exact vr_iret rfl ⟨_, _, rfl, rfl, h⟩ dX7_pointer_32
  · have h := h.2 c1
    refine vr_iload_n 3 3 dX7_pointer_4 rfl rfl ?_
    refine vr_callS RX7 (s_X7_segmentIn h) rfl rfl ml_7_139 rfl yh_X7_segmentIn rfl ⟨Nat.le_of_ble_eq_true rfl, Nat.le_of_ble_eq_true rfl⟩ (Nat.le_of_ble_eq_true rfl) ⟨Nat.zero_le _, Nat.zero_le _⟩ dX7_pointer_5 (ki fun r5 h => ?_)
    refine vr_bipush 16 dX7_pointer_8 (by decide) ?_
    refine vr_icmpge 31 dX7_pointer_10 (by decide) (fun c10 => ?_) (fun c10 => ?_)
    · have h := h.1 c10
      refine vr_iload_n 3 3 dX7_pointer_13 rfl rfl ?_
      refine vr_callS RX7 (s_X7_ringIn h) rfl rfl ml_7_142 rfl yh_X7_ringIn rfl ⟨Nat.le_of_ble_eq_true rfl, Nat.le_of_ble_eq_true rfl⟩ (Nat.le_of_ble_eq_true rfl) ⟨Nat.zero_le _, Nat.zero_le _⟩ dX7_pointer_14 (ki fun r14 h => ?_)
      refine vr_bipush 8 dX7_pointer_17 (by decide) ?_
      refine vr_icmpge 31 dX7_pointer_19 (by decide) (fun c19 => ?_) (fun c19 => ?_)
      · have h := h.1 c19
        refine vr_iload_n 3 3 dX7_pointer_22 rfl rfl ?_
        refine vr_callS RX7 (s_X7_wordIn h) rfl rfl ml_7_145 rfl yh_X7_wordIn rfl ⟨Nat.le_of_ble_eq_true rfl, Nat.le_of_ble_eq_true rfl⟩ (Nat.le_of_ble_eq_true rfl) ⟨Nat.zero_le _, Nat.zero_le _⟩ dX7_pointer_23 (ki fun r23 h => ?_)
        refine vr_bipush 24 dX7_pointer_26 (by decide) ?_
        refine vr_icmplt 33 dX7_pointer_28 (by decide) (fun c28 => ?_) (fun c28 => ?_)
        · have h := h.1 c28
          refine vr_aload_n 0 0 dX7_pointer_33 rfl rfl ?_
          refine vg_0_0 RX7 rfl (by decide) fl_7_10 dX7_pointer_34 ?_
          refine vg_1_0 RX7 rfl (by decide) fl_7_29 dX7_pointer_37 ?_
          refine vr_iload_n 1 1 dX7_pointer_40 rfl rfl ?_
          refine vr_callV RX7 (s_X6_find (by decide) h) rfl (by decide) rfl rfl rfl ml_7_65 rfl yh_X6_find rfl ⟨Nat.le_of_ble_eq_true rfl, Nat.le_of_ble_eq_true rfl⟩ (Nat.le_of_ble_eq_true rfl) ⟨Nat.zero_le _, Nat.zero_le _⟩ dX7_pointer_41 (ko fun r41 hvr41 h => ?_)
          refine vr_iload_n 2 2 dX7_pointer_44 rfl rfl ?_
          refine vr_iload 4 dX7_pointer_45 rfl ?_
          refine vr_ifeq 54 dX7_pointer_47 (by decide) (fun c47 => ?_) (fun c47 => ?_)
          · have h := h.1 c47
            refine vr_iconst 2 dX7_pointer_54 (by decide) ?_
            refine vr_iload_n 3 3 dX7_pointer_55 rfl rfl ?_
            refine vr_callS RX7 (s_X7_write hvr41 h) rfl rfl ml_7_135 rfl yh_X7_write rfl ⟨Nat.le_of_ble_eq_true rfl, Nat.le_of_ble_eq_true rfl⟩ (Nat.le_of_ble_eq_true rfl) ⟨Nat.zero_le _, Nat.zero_le _⟩ dX7_pointer_56 (kci fun r56 P56 h => ?_)
            exact vr_iret rfl ⟨_, _, rfl, rfl, h⟩ dX7_pointer_59
          · have h := h.2 c47
            refine vr_iconst 3 dX7_pointer_50 (by decide) ?_
            refine vr_goto 55 dX7_pointer_51 (by decide) ?_
            refine vr_iload_n 3 3 dX7_pointer_55 rfl rfl ?_
            refine vr_callS RX7 (s_X7_write hvr41 h) rfl rfl ml_7_135 rfl yh_X7_write rfl ⟨Nat.le_of_ble_eq_true rfl, Nat.le_of_ble_eq_true rfl⟩ (Nat.le_of_ble_eq_true rfl) ⟨Nat.zero_le _, Nat.zero_le _⟩ dX7_pointer_56 (kci fun r56 P56 h => ?_)
            exact vr_iret rfl ⟨_, _, rfl, rfl, h⟩ dX7_pointer_59
        · have h := h.2 c28
          refine vr_iconst (-1) dX7_pointer_31 (by decide) ?_
          exact vr_iret rfl ⟨_, _, rfl, rfl, h⟩ dX7_pointer_32
      · have h := h.2 c19
        refine vr_iconst (-1) dX7_pointer_31 (by decide) ?_
        exact vr_iret rfl ⟨_, _, rfl, rfl, h⟩ dX7_pointer_32
    · have h := h.2 c10
      refine vr_iconst (-1) dX7_pointer_31 (by decide) ?_
      exact vr_iret rfl ⟨_, _, rfl, rfl, h⟩ dX7_pointer_32
theorem dX7_link_0 : decode cX7_link 0 = .ok (.iload_n 3, 1) := by decide +kernel
theorem dX7_link_1 : decode cX7_link 1 = .ok (.bipush 26, 2) := by decide +kernel
theorem dX7_link_3 : decode cX7_link 3 = .ok (.invokestatic 43, 3) := by decide +kernel
theorem dX7_link_6 : decode cX7_link 6 = .ok (.ifCond .eq 13, 3) := by decide +kernel
theorem dX7_link_9 : decode cX7_link 9 = .ok (.iload 4, 2) := by decide +kernel
theorem dX7_link_11 : decode cX7_link 11 = .ok (.bipush 24, 2) := by decide +kernel
theorem dX7_link_13 : decode cX7_link 13 = .ok (.invokestatic 43, 3) := by decide +kernel
theorem dX7_link_16 : decode cX7_link 16 = .ok (.ifCond .ne 5, 3) := by decide +kernel
theorem dX7_link_19 : decode cX7_link 19 = .ok (.iconst (-1), 1) := by decide +kernel
theorem dX7_link_20 : decode cX7_link 20 = .ok (.ireturn, 1) := by decide +kernel
theorem dX7_link_21 : decode cX7_link 21 = .ok (.aload_n 0, 1) := by decide +kernel
theorem dX7_link_22 : decode cX7_link 22 = .ok (.getfield 10, 3) := by decide +kernel
theorem dX7_link_25 : decode cX7_link 25 = .ok (.getfield 29, 3) := by decide +kernel
theorem dX7_link_28 : decode cX7_link 28 = .ok (.iload_n 1, 1) := by decide +kernel
theorem dX7_link_29 : decode cX7_link 29 = .ok (.invokevirtual 65, 3) := by decide +kernel
theorem dX7_link_32 : decode cX7_link 32 = .ok (.iload_n 2, 1) := by decide +kernel
theorem dX7_link_33 : decode cX7_link 33 = .ok (.iconst 4, 1) := by decide +kernel
theorem dX7_link_34 : decode cX7_link 34 = .ok (.bipush 100, 2) := by decide +kernel
theorem dX7_link_36 : decode cX7_link 36 = .ok (.iload_n 3, 1) := by decide +kernel
theorem dX7_link_37 : decode cX7_link 37 = .ok (.imul, 1) := by decide +kernel
theorem dX7_link_38 : decode cX7_link 38 = .ok (.iload 4, 2) := by decide +kernel
theorem dX7_link_40 : decode cX7_link 40 = .ok (.iadd, 1) := by decide +kernel
theorem dX7_link_41 : decode cX7_link 41 = .ok (.invokestatic 135, 3) := by decide +kernel
theorem dX7_link_44 : decode cX7_link 44 = .ok (.ireturn, 1) := by decide +kernel
def F_X7_link (x1 : Int32) (x2 : Int32) (x3 : Int32) (x4 : Int32) (P : VP) (post : Int32 → VP → Prop) : Prop :=
  F_X7_isBelow x3 ((26 : Int32)) P (fun r3 => (r3 = 0 → post (((-1) : Int32)) P) ∧ (¬ r3 = 0 → F_X7_isBelow x4 ((24 : Int32)) P (fun r13 => (r13 = 0 → post (((-1) : Int32)) P) ∧ (¬ r13 = 0 → F_X6_find 0 x1 P (fun r29 => F_X7_write r29 x2 ((4 : Int32)) ((100 * x3) + x4) P (fun r41 P41 => post r41 P41))))))
set_option maxRecDepth 4000 in
theorem s_X7_link {l : Launch} {g : vG} {x1 : Int32} {x2 : Int32} {x3 : Int32} {x4 : Int32} {P Q : VP} {post : Int32 → VP → Prop}  (h : F_X7_link x1 x2 x3 x4 P post) : VC l g yX7_link cX7_link 5 (some .int) 3 [vR 0 0, vI x1, vI x2, vI x3, vI x4] (vjn P Q) (vcI Q post) := by
  refine VC.of (by decide +kernel) (Nat.le_of_ble_eq_true rfl) (show VM l g RX7 cX7_link 5 (some .int) 3 (vcI Q post) 0 [(0, vR 0 0), (1, vI x1), (2, vI x2), (3, vI x3), (4, vI x4)] [] (vjn P Q) from ?_)
  unfold F_X7_link at h
  refine vr_iload_n 3 3 dX7_link_0 rfl rfl ?_
  refine vr_bipush 26 dX7_link_1 (by decide) ?_
  refine vr_callS RX7 (s_X7_isBelow h) rfl rfl ml_7_43 rfl yh_X7_isBelow rfl ⟨Nat.le_of_ble_eq_true rfl, Nat.le_of_ble_eq_true rfl⟩ (Nat.le_of_ble_eq_true rfl) ⟨Nat.zero_le _, Nat.zero_le _⟩ dX7_link_3 (ki fun r3 h => ?_)
  refine vr_ifeq 19 dX7_link_6 (by decide) (fun c6 => ?_) (fun c6 => ?_)
  · have h := h.1 c6
    refine vr_iconst (-1) dX7_link_19 (by decide) ?_
    exact vr_iret rfl ⟨_, _, rfl, rfl, h⟩ dX7_link_20
  · have h := h.2 c6
    refine vr_iload 4 dX7_link_9 rfl ?_
    refine vr_bipush 24 dX7_link_11 (by decide) ?_
    refine vr_callS RX7 (s_X7_isBelow h) rfl rfl ml_7_43 rfl yh_X7_isBelow rfl ⟨Nat.le_of_ble_eq_true rfl, Nat.le_of_ble_eq_true rfl⟩ (Nat.le_of_ble_eq_true rfl) ⟨Nat.zero_le _, Nat.zero_le _⟩ dX7_link_13 (ki fun r13 h => ?_)
    refine vr_ifne 21 dX7_link_16 (by decide) (fun c16 => ?_) (fun c16 => ?_)
    · have h := h.1 c16
      refine vr_iconst (-1) dX7_link_19 (by decide) ?_
      exact vr_iret rfl ⟨_, _, rfl, rfl, h⟩ dX7_link_20
    · have h := h.2 c16
      refine vr_aload_n 0 0 dX7_link_21 rfl rfl ?_
      refine vg_0_0 RX7 rfl (by decide) fl_7_10 dX7_link_22 ?_
      refine vg_1_0 RX7 rfl (by decide) fl_7_29 dX7_link_25 ?_
      refine vr_iload_n 1 1 dX7_link_28 rfl rfl ?_
      refine vr_callV RX7 (s_X6_find (by decide) h) rfl (by decide) rfl rfl rfl ml_7_65 rfl yh_X6_find rfl ⟨Nat.le_of_ble_eq_true rfl, Nat.le_of_ble_eq_true rfl⟩ (Nat.le_of_ble_eq_true rfl) ⟨Nat.zero_le _, Nat.zero_le _⟩ dX7_link_29 (ko fun r29 hvr29 h => ?_)
      refine vr_iload_n 2 2 dX7_link_32 rfl rfl ?_
      refine vr_iconst 4 dX7_link_33 (by decide) ?_
      refine vr_bipush 100 dX7_link_34 (by decide) ?_
      refine vr_iload_n 3 3 dX7_link_36 rfl rfl ?_
      refine vr_imul dX7_link_37 ?_
      refine vr_iload 4 dX7_link_38 rfl ?_
      refine vr_iadd dX7_link_40 ?_
      refine vr_callS RX7 (s_X7_write hvr29 h) rfl rfl ml_7_135 rfl yh_X7_write rfl ⟨Nat.le_of_ble_eq_true rfl, Nat.le_of_ble_eq_true rfl⟩ (Nat.le_of_ble_eq_true rfl) ⟨Nat.zero_le _, Nat.zero_le _⟩ dX7_link_41 (kci fun r41 P41 h => ?_)
      exact vr_iret rfl ⟨_, _, rfl, rfl, h⟩ dX7_link_44
theorem dX7_act_0 : decode cX7_act 0 = .ok (.iload_n 3, 1) := by decide +kernel
theorem dX7_act_1 : decode cX7_act 1 = .ok (.bipush 10, 2) := by decide +kernel
theorem dX7_act_3 : decode cX7_act 3 = .ok (.invokestatic 43, 3) := by decide +kernel
theorem dX7_act_6 : decode cX7_act 6 = .ok (.ifCond .eq 22, 3) := by decide +kernel
theorem dX7_act_9 : decode cX7_act 9 = .ok (.iload 4, 2) := by decide +kernel
theorem dX7_act_11 : decode cX7_act 11 = .ok (.bipush 24, 2) := by decide +kernel
theorem dX7_act_13 : decode cX7_act 13 = .ok (.invokestatic 43, 3) := by decide +kernel
theorem dX7_act_16 : decode cX7_act 16 = .ok (.ifCond .eq 12, 3) := by decide +kernel
theorem dX7_act_19 : decode cX7_act 19 = .ok (.iload 5, 2) := by decide +kernel
theorem dX7_act_21 : decode cX7_act 21 = .ok (.iconst 4, 1) := by decide +kernel
theorem dX7_act_22 : decode cX7_act 22 = .ok (.invokestatic 43, 3) := by decide +kernel
theorem dX7_act_25 : decode cX7_act 25 = .ok (.ifCond .ne 5, 3) := by decide +kernel
theorem dX7_act_28 : decode cX7_act 28 = .ok (.iconst (-1), 1) := by decide +kernel
theorem dX7_act_29 : decode cX7_act 29 = .ok (.ireturn, 1) := by decide +kernel
theorem dX7_act_30 : decode cX7_act 30 = .ok (.aload_n 0, 1) := by decide +kernel
theorem dX7_act_31 : decode cX7_act 31 = .ok (.getfield 10, 3) := by decide +kernel
theorem dX7_act_34 : decode cX7_act 34 = .ok (.getfield 29, 3) := by decide +kernel
theorem dX7_act_37 : decode cX7_act 37 = .ok (.iload_n 1, 1) := by decide +kernel
theorem dX7_act_38 : decode cX7_act 38 = .ok (.invokevirtual 65, 3) := by decide +kernel
theorem dX7_act_41 : decode cX7_act 41 = .ok (.iload_n 2, 1) := by decide +kernel
theorem dX7_act_42 : decode cX7_act 42 = .ok (.bipush 6, 2) := by decide +kernel
theorem dX7_act_44 : decode cX7_act 44 = .ok (.sipush 1000, 3) := by decide +kernel
theorem dX7_act_47 : decode cX7_act 47 = .ok (.iload_n 3, 1) := by decide +kernel
theorem dX7_act_48 : decode cX7_act 48 = .ok (.imul, 1) := by decide +kernel
theorem dX7_act_49 : decode cX7_act 49 = .ok (.bipush 10, 2) := by decide +kernel
theorem dX7_act_51 : decode cX7_act 51 = .ok (.iload 4, 2) := by decide +kernel
theorem dX7_act_53 : decode cX7_act 53 = .ok (.imul, 1) := by decide +kernel
theorem dX7_act_54 : decode cX7_act 54 = .ok (.iadd, 1) := by decide +kernel
theorem dX7_act_55 : decode cX7_act 55 = .ok (.iload 5, 2) := by decide +kernel
theorem dX7_act_57 : decode cX7_act 57 = .ok (.iadd, 1) := by decide +kernel
theorem dX7_act_58 : decode cX7_act 58 = .ok (.invokestatic 135, 3) := by decide +kernel
theorem dX7_act_61 : decode cX7_act 61 = .ok (.ireturn, 1) := by decide +kernel
def F_X7_act (x1 : Int32) (x2 : Int32) (x3 : Int32) (x4 : Int32) (x5 : Int32) (P : VP) (post : Int32 → VP → Prop) : Prop :=
  F_X7_isBelow x3 ((10 : Int32)) P (fun r3 => (r3 = 0 → post (((-1) : Int32)) P) ∧ (¬ r3 = 0 → F_X7_isBelow x4 ((24 : Int32)) P (fun r13 => (r13 = 0 → post (((-1) : Int32)) P) ∧ (¬ r13 = 0 → F_X7_isBelow x5 ((4 : Int32)) P (fun r22 => (r22 = 0 → post (((-1) : Int32)) P) ∧ (¬ r22 = 0 → F_X6_find 0 x1 P (fun r38 => F_X7_write r38 x2 ((6 : Int32)) (((1000 * x3) + (10 * x4)) + x5) P (fun r58 P58 => post r58 P58))))))))
set_option maxRecDepth 4000 in
theorem s_X7_act {l : Launch} {g : vG} {x1 : Int32} {x2 : Int32} {x3 : Int32} {x4 : Int32} {x5 : Int32} {P Q : VP} {post : Int32 → VP → Prop}  (h : F_X7_act x1 x2 x3 x4 x5 P post) : VC l g yX7_act cX7_act 6 (some .int) 3 [vR 0 0, vI x1, vI x2, vI x3, vI x4, vI x5] (vjn P Q) (vcI Q post) := by
  refine VC.of (by decide +kernel) (Nat.le_of_ble_eq_true rfl) (show VM l g RX7 cX7_act 6 (some .int) 3 (vcI Q post) 0 [(0, vR 0 0), (1, vI x1), (2, vI x2), (3, vI x3), (4, vI x4), (5, vI x5)] [] (vjn P Q) from ?_)
  unfold F_X7_act at h
  refine vr_iload_n 3 3 dX7_act_0 rfl rfl ?_
  refine vr_bipush 10 dX7_act_1 (by decide) ?_
  refine vr_callS RX7 (s_X7_isBelow h) rfl rfl ml_7_43 rfl yh_X7_isBelow rfl ⟨Nat.le_of_ble_eq_true rfl, Nat.le_of_ble_eq_true rfl⟩ (Nat.le_of_ble_eq_true rfl) ⟨Nat.zero_le _, Nat.zero_le _⟩ dX7_act_3 (ki fun r3 h => ?_)
  refine vr_ifeq 28 dX7_act_6 (by decide) (fun c6 => ?_) (fun c6 => ?_)
  · have h := h.1 c6
    refine vr_iconst (-1) dX7_act_28 (by decide) ?_
    exact vr_iret rfl ⟨_, _, rfl, rfl, h⟩ dX7_act_29
  · have h := h.2 c6
    refine vr_iload 4 dX7_act_9 rfl ?_
    refine vr_bipush 24 dX7_act_11 (by decide) ?_
    refine vr_callS RX7 (s_X7_isBelow h) rfl rfl ml_7_43 rfl yh_X7_isBelow rfl ⟨Nat.le_of_ble_eq_true rfl, Nat.le_of_ble_eq_true rfl⟩ (Nat.le_of_ble_eq_true rfl) ⟨Nat.zero_le _, Nat.zero_le _⟩ dX7_act_13 (ki fun r13 h => ?_)
    refine vr_ifeq 28 dX7_act_16 (by decide) (fun c16 => ?_) (fun c16 => ?_)
    · have h := h.1 c16
      refine vr_iconst (-1) dX7_act_28 (by decide) ?_
      exact vr_iret rfl ⟨_, _, rfl, rfl, h⟩ dX7_act_29
    · have h := h.2 c16
      refine vr_iload 5 dX7_act_19 rfl ?_
      refine vr_iconst 4 dX7_act_21 (by decide) ?_
      refine vr_callS RX7 (s_X7_isBelow h) rfl rfl ml_7_43 rfl yh_X7_isBelow rfl ⟨Nat.le_of_ble_eq_true rfl, Nat.le_of_ble_eq_true rfl⟩ (Nat.le_of_ble_eq_true rfl) ⟨Nat.zero_le _, Nat.zero_le _⟩ dX7_act_22 (ki fun r22 h => ?_)
      refine vr_ifne 30 dX7_act_25 (by decide) (fun c25 => ?_) (fun c25 => ?_)
      · have h := h.1 c25
        refine vr_iconst (-1) dX7_act_28 (by decide) ?_
        exact vr_iret rfl ⟨_, _, rfl, rfl, h⟩ dX7_act_29
      · have h := h.2 c25
        refine vr_aload_n 0 0 dX7_act_30 rfl rfl ?_
        refine vg_0_0 RX7 rfl (by decide) fl_7_10 dX7_act_31 ?_
        refine vg_1_0 RX7 rfl (by decide) fl_7_29 dX7_act_34 ?_
        refine vr_iload_n 1 1 dX7_act_37 rfl rfl ?_
        refine vr_callV RX7 (s_X6_find (by decide) h) rfl (by decide) rfl rfl rfl ml_7_65 rfl yh_X6_find rfl ⟨Nat.le_of_ble_eq_true rfl, Nat.le_of_ble_eq_true rfl⟩ (Nat.le_of_ble_eq_true rfl) ⟨Nat.zero_le _, Nat.zero_le _⟩ dX7_act_38 (ko fun r38 hvr38 h => ?_)
        refine vr_iload_n 2 2 dX7_act_41 rfl rfl ?_
        refine vr_bipush 6 dX7_act_42 (by decide) ?_
        refine vr_sipush 1000 dX7_act_44 (by decide) ?_
        refine vr_iload_n 3 3 dX7_act_47 rfl rfl ?_
        refine vr_imul dX7_act_48 ?_
        refine vr_bipush 10 dX7_act_49 (by decide) ?_
        refine vr_iload 4 dX7_act_51 rfl ?_
        refine vr_imul dX7_act_53 ?_
        refine vr_iadd dX7_act_54 ?_
        refine vr_iload 5 dX7_act_55 rfl ?_
        refine vr_iadd dX7_act_57 ?_
        refine vr_callS RX7 (s_X7_write hvr38 h) rfl rfl ml_7_135 rfl yh_X7_write rfl ⟨Nat.le_of_ble_eq_true rfl, Nat.le_of_ble_eq_true rfl⟩ (Nat.le_of_ble_eq_true rfl) ⟨Nat.zero_le _, Nat.zero_le _⟩ dX7_act_58 (kci fun r58 P58 h => ?_)
        exact vr_iret rfl ⟨_, _, rfl, rfl, h⟩ dX7_act_61
theorem dX7_word_0 : decode cX7_word 0 = .ok (.aload_n 0, 1) := by decide +kernel
theorem dX7_word_1 : decode cX7_word 1 = .ok (.getfield 10, 3) := by decide +kernel
theorem dX7_word_4 : decode cX7_word 4 = .ok (.getfield 29, 3) := by decide +kernel
theorem dX7_word_7 : decode cX7_word 7 = .ok (.iload_n 1, 1) := by decide +kernel
theorem dX7_word_8 : decode cX7_word 8 = .ok (.invokevirtual 65, 3) := by decide +kernel
theorem dX7_word_11 : decode cX7_word 11 = .ok (.astore 4, 2) := by decide +kernel
theorem dX7_word_13 : decode cX7_word 13 = .ok (.aload 4, 2) := by decide +kernel
theorem dX7_word_15 : decode cX7_word 15 = .ok (.ifnull 12, 3) := by decide +kernel
theorem dX7_word_18 : decode cX7_word 18 = .ok (.aload 4, 2) := by decide +kernel
theorem dX7_word_20 : decode cX7_word 20 = .ok (.iload_n 2, 1) := by decide +kernel
theorem dX7_word_21 : decode cX7_word 21 = .ok (.invokevirtual 148, 3) := by decide +kernel
theorem dX7_word_24 : decode cX7_word 24 = .ok (.ifCond .ne 6, 3) := by decide +kernel
theorem dX7_word_27 : decode cX7_word 27 = .ok (.ldc 151, 2) := by decide +kernel
theorem dX7_word_29 : decode cX7_word 29 = .ok (.ireturn, 1) := by decide +kernel
theorem dX7_word_30 : decode cX7_word 30 = .ok (.iload_n 3, 1) := by decide +kernel
theorem dX7_word_31 : decode cX7_word 31 = .ok (.tableswitch 46 0 2 #[25, 32, 39], 25) := by decide +kernel
theorem dX7_word_56 : decode cX7_word 56 = .ok (.aload 4, 2) := by decide +kernel
theorem dX7_word_58 : decode cX7_word 58 = .ok (.iload_n 2, 1) := by decide +kernel
theorem dX7_word_59 : decode cX7_word 59 = .ok (.invokevirtual 152, 3) := by decide +kernel
theorem dX7_word_62 : decode cX7_word 62 = .ok (.ireturn, 1) := by decide +kernel
theorem dX7_word_63 : decode cX7_word 63 = .ok (.aload 4, 2) := by decide +kernel
theorem dX7_word_65 : decode cX7_word 65 = .ok (.iload_n 2, 1) := by decide +kernel
theorem dX7_word_66 : decode cX7_word 66 = .ok (.invokevirtual 155, 3) := by decide +kernel
theorem dX7_word_69 : decode cX7_word 69 = .ok (.ireturn, 1) := by decide +kernel
theorem dX7_word_70 : decode cX7_word 70 = .ok (.aload 4, 2) := by decide +kernel
theorem dX7_word_72 : decode cX7_word 72 = .ok (.iload_n 2, 1) := by decide +kernel
theorem dX7_word_73 : decode cX7_word 73 = .ok (.invokevirtual 158, 3) := by decide +kernel
theorem dX7_word_76 : decode cX7_word 76 = .ok (.ireturn, 1) := by decide +kernel
theorem dX7_word_77 : decode cX7_word 77 = .ok (.ldc 151, 2) := by decide +kernel
theorem dX7_word_79 : decode cX7_word 79 = .ok (.ireturn, 1) := by decide +kernel
def F_X7_word (x1 : Int32) (x2 : Int32) (x3 : Int32) (P : VP) (post : Int32 → Prop) : Prop :=
  (F_X6_find 0 x1 P (fun r8 => match r8 with | none => (post (((-2000000000) : Int32))) | some yr8 => (F_X3_has yr8 x2 P (fun r21 => (r21 = 0 → post (((-2000000000) : Int32))) ∧ (¬ r21 = 0 → (x3 = 0 → F_X3_kindAt yr8 x2 P (fun r59 => post r59)) ∧ (¬ x3 = 0 → (x3 = 1 → F_X3_valueAt yr8 x2 P (fun r66 => post r66)) ∧ (¬ x3 = 1 → (x3 = 2 → F_X3_knownAt yr8 x2 P (fun r73 => post r73)) ∧ (¬ x3 = 2 → post (((-2000000000) : Int32))))))))))
set_option maxRecDepth 4000 in
theorem s_X7_word {l : Launch} {g : vG} {x1 : Int32} {x2 : Int32} {x3 : Int32} {P Q : VP} {post : Int32 → Prop}  (h : F_X7_word x1 x2 x3 P post) : VC l g yX7_word cX7_word 5 (some .int) 2 [vR 0 0, vI x1, vI x2, vI x3] (vjn P Q) (vpI (vjn P Q) post) := by
  refine VC.of (by decide +kernel) (Nat.le_of_ble_eq_true rfl) (show VM l g RX7 cX7_word 5 (some .int) 2 (vpI (vjn P Q) post) 0 [(0, vR 0 0), (1, vI x1), (2, vI x2), (3, vI x3)] [] (vjn P Q) from ?_)
  unfold F_X7_word at h
  refine vr_aload_n 0 0 dX7_word_0 rfl rfl ?_
  refine vg_0_0 RX7 rfl (by decide) fl_7_10 dX7_word_1 ?_
  refine vg_1_0 RX7 rfl (by decide) fl_7_29 dX7_word_4 ?_
  refine vr_iload_n 1 1 dX7_word_7 rfl rfl ?_
  refine vr_callV RX7 (s_X6_find (by decide) h) rfl (by decide) rfl rfl rfl ml_7_65 rfl yh_X6_find rfl ⟨Nat.le_of_ble_eq_true rfl, Nat.le_of_ble_eq_true rfl⟩ (Nat.le_of_ble_eq_true rfl) ⟨Nat.zero_le _, Nat.zero_le _⟩ dX7_word_8 (ko fun r8 hvr8 h => ?_)
  refine vr_astore [(4, vO 7 r8), (0, vR 0 0), (1, vI x1), (2, vI x2), (3, vI x3)] dX7_word_11 (by decide) rfl ?_
  refine vr_aload 0 dX7_word_13 rfl ?_
  rcases r8 with _ | yr8
  · refine vr_ifnullN 27 dX7_word_15 (by decide) ?_
    refine vr_ldc (-2000000000) ct_7_151 dX7_word_27 ?_
    exact vr_iret rfl ⟨rfl, _, rfl, h⟩ dX7_word_29
  · refine vr_ifnullR dX7_word_15 ?_
    refine vr_aload 0 dX7_word_18 rfl ?_
    refine vr_iload_n 2 3 dX7_word_20 rfl rfl ?_
    refine vr_callV RX7 (s_X3_has (hvr8 _ rfl) h) rfl (hvr8 _ rfl) rfl rfl rfl ml_7_148 rfl yh_X3_has rfl ⟨Nat.le_of_ble_eq_true rfl, Nat.le_of_ble_eq_true rfl⟩ (Nat.le_of_ble_eq_true rfl) ⟨Nat.zero_le _, Nat.zero_le _⟩ dX7_word_21 (ki fun r21 h => ?_)
    refine vr_ifne 30 dX7_word_24 (by decide) (fun c24 => ?_) (fun c24 => ?_)
    · have h := h.1 c24
      refine vr_ldc (-2000000000) ct_7_151 dX7_word_27 ?_
      exact vr_iret rfl ⟨rfl, _, rfl, h⟩ dX7_word_29
    · have h := h.2 c24
      refine vr_iload_n 3 4 dX7_word_30 rfl rfl ?_
      by_cases c31_0 : x3 = 0
      · have h := h.1 c31_0
        refine vr_tswIn 0 56 dX7_word_31 c31_0 (by decide) rfl (by decide) ?_
        refine vr_aload 0 dX7_word_56 rfl ?_
        refine vr_iload_n 2 3 dX7_word_58 rfl rfl ?_
        refine vr_callV RX7 (s_X3_kindAt (hvr8 _ rfl) h) rfl (hvr8 _ rfl) rfl rfl rfl ml_7_152 rfl yh_X3_kindAt rfl ⟨Nat.le_of_ble_eq_true rfl, Nat.le_of_ble_eq_true rfl⟩ (Nat.le_of_ble_eq_true rfl) ⟨Nat.zero_le _, Nat.zero_le _⟩ dX7_word_59 (ki fun r59 h => ?_)
        exact vr_iret rfl ⟨rfl, _, rfl, h⟩ dX7_word_62
      · have h := h.2 c31_0
        by_cases c31_1 : x3 = 1
        · have h := h.1 c31_1
          refine vr_tswIn 1 63 dX7_word_31 c31_1 (by decide) rfl (by decide) ?_
          refine vr_aload 0 dX7_word_63 rfl ?_
          refine vr_iload_n 2 3 dX7_word_65 rfl rfl ?_
          refine vr_callV RX7 (s_X3_valueAt (hvr8 _ rfl) h) rfl (hvr8 _ rfl) rfl rfl rfl ml_7_155 rfl yh_X3_valueAt rfl ⟨Nat.le_of_ble_eq_true rfl, Nat.le_of_ble_eq_true rfl⟩ (Nat.le_of_ble_eq_true rfl) ⟨Nat.zero_le _, Nat.zero_le _⟩ dX7_word_66 (ki fun r66 h => ?_)
          exact vr_iret rfl ⟨rfl, _, rfl, h⟩ dX7_word_69
        · have h := h.2 c31_1
          by_cases c31_2 : x3 = 2
          · have h := h.1 c31_2
            refine vr_tswIn 2 70 dX7_word_31 c31_2 (by decide) rfl (by decide) ?_
            refine vr_aload 0 dX7_word_70 rfl ?_
            refine vr_iload_n 2 3 dX7_word_72 rfl rfl ?_
            refine vr_callV RX7 (s_X3_knownAt (hvr8 _ rfl) h) rfl (hvr8 _ rfl) rfl rfl rfl ml_7_158 rfl yh_X3_knownAt rfl ⟨Nat.le_of_ble_eq_true rfl, Nat.le_of_ble_eq_true rfl⟩ (Nat.le_of_ble_eq_true rfl) ⟨Nat.zero_le _, Nat.zero_le _⟩ dX7_word_73 (ki fun r73 h => ?_)
            exact vr_iret rfl ⟨rfl, _, rfl, h⟩ dX7_word_76
          · have h := h.2 c31_2
            refine vr_tswOut 77 dX7_word_31 (by have q0 := lv_neT c31_0 (a := 0) (by decide); have q1 := lv_neT c31_1 (a := 1) (by decide); have q2 := lv_neT c31_2 (a := 2) (by decide); omega) (by decide) ?_
            refine vr_ldc (-2000000000) ct_7_151 dX7_word_77 ?_
            exact vr_iret rfl ⟨rfl, _, rfl, h⟩ dX7_word_79
theorem dX7_feed_0 : decode cX7_feed 0 = .ok (.iload_n 1, 1) := by decide +kernel
theorem dX7_feed_1 : decode cX7_feed 1 = .ok (.sipush 256, 3) := by decide +kernel
theorem dX7_feed_4 : decode cX7_feed 4 = .ok (.invokestatic 43, 3) := by decide +kernel
theorem dX7_feed_7 : decode cX7_feed 7 = .ok (.ifCond .ne 5, 3) := by decide +kernel
theorem dX7_feed_10 : decode cX7_feed 10 = .ok (.iconst (-1), 1) := by decide +kernel
theorem dX7_feed_11 : decode cX7_feed 11 = .ok (.ireturn, 1) := by decide +kernel
theorem dX7_feed_12 : decode cX7_feed 12 = .ok (.aload_n 0, 1) := by decide +kernel
theorem dX7_feed_13 : decode cX7_feed 13 = .ok (.getfield 25, 3) := by decide +kernel
theorem dX7_feed_16 : decode cX7_feed 16 = .ok (.iload_n 1, 1) := by decide +kernel
theorem dX7_feed_17 : decode cX7_feed 17 = .ok (.invokevirtual 161, 3) := by decide +kernel
theorem dX7_feed_20 : decode cX7_feed 20 = .ok (.ifCond .eq 13, 3) := by decide +kernel
theorem dX7_feed_23 : decode cX7_feed 23 = .ok (.aload_n 0, 1) := by decide +kernel
theorem dX7_feed_24 : decode cX7_feed 24 = .ok (.getfield 25, 3) := by decide +kernel
theorem dX7_feed_27 : decode cX7_feed 27 = .ok (.getfield 164, 3) := by decide +kernel
theorem dX7_feed_30 : decode cX7_feed 30 = .ok (.goto 5, 3) := by decide +kernel
theorem dX7_feed_33 : decode cX7_feed 33 = .ok (.bipush (-3), 2) := by decide +kernel
theorem dX7_feed_35 : decode cX7_feed 35 = .ok (.ireturn, 1) := by decide +kernel
def F_X7_feed (x1 : Int32) (P : VP) (post : Int32 → VP → Prop) : Prop :=
  F_X7_isBelow x1 ((256 : Int32)) P (fun r4 => (r4 = 0 → post (((-1) : Int32)) P) ∧ (¬ r4 = 0 → F_X5_append x1 P (fun r17 P17 => (r17 = 0 → post (((-3) : Int32)) P17) ∧ (¬ r17 = 0 → post (P17 17 0 1) P17))))
set_option maxRecDepth 4000 in
theorem s_X7_feed {l : Launch} {g : vG} {x1 : Int32} {P Q : VP} {post : Int32 → VP → Prop}  (h : F_X7_feed x1 P post) : VC l g yX7_feed cX7_feed 2 (some .int) 1 [vR 0 0, vI x1] (vjn P Q) (vcI Q post) := by
  refine VC.of (by decide +kernel) (Nat.le_of_ble_eq_true rfl) (show VM l g RX7 cX7_feed 2 (some .int) 1 (vcI Q post) 0 [(0, vR 0 0), (1, vI x1)] [] (vjn P Q) from ?_)
  unfold F_X7_feed at h
  refine vr_iload_n 1 1 dX7_feed_0 rfl rfl ?_
  refine vr_sipush 256 dX7_feed_1 (by decide) ?_
  refine vr_callS RX7 (s_X7_isBelow h) rfl rfl ml_7_43 rfl yh_X7_isBelow rfl ⟨Nat.le_of_ble_eq_true rfl, Nat.le_of_ble_eq_true rfl⟩ (Nat.le_of_ble_eq_true rfl) ⟨Nat.zero_le _, Nat.zero_le _⟩ dX7_feed_4 (ki fun r4 h => ?_)
  refine vr_ifne 12 dX7_feed_7 (by decide) (fun c7 => ?_) (fun c7 => ?_)
  · have h := h.1 c7
    refine vr_iconst (-1) dX7_feed_10 (by decide) ?_
    exact vr_iret rfl ⟨_, _, rfl, rfl, h⟩ dX7_feed_11
  · have h := h.2 c7
    refine vr_aload_n 0 0 dX7_feed_12 rfl rfl ?_
    refine vg_0_3 RX7 rfl (by decide) fl_7_25 dX7_feed_13 ?_
    refine vr_iload_n 1 1 dX7_feed_16 rfl rfl ?_
    refine vr_callV RX7 (s_X5_append h) rfl (by decide) rfl rfl rfl ml_7_161 rfl yh_X5_append rfl ⟨Nat.le_of_ble_eq_true rfl, Nat.le_of_ble_eq_true rfl⟩ (Nat.le_of_ble_eq_true rfl) ⟨Nat.zero_le _, Nat.zero_le _⟩ dX7_feed_17 (kci fun r17 P17 h => ?_)
    refine vr_ifeq 33 dX7_feed_20 (by decide) (fun c20 => ?_) (fun c20 => ?_)
    · have h := h.1 c20
      refine vr_bipush (-3) dX7_feed_33 (by decide) ?_
      exact vr_iret rfl ⟨_, _, rfl, rfl, h⟩ dX7_feed_35
    · have h := h.2 c20
      refine vr_aload_n 0 0 dX7_feed_23 rfl rfl ?_
      refine vg_0_3 RX7 rfl (by decide) fl_7_25 dX7_feed_24 ?_
      refine vg_17_1 RX7 rfl (by decide) fl_7_164 dX7_feed_27 ?_
      refine vr_goto 35 dX7_feed_30 (by decide) ?_
      exact vr_iret rfl ⟨_, _, rfl, rfl, h⟩ dX7_feed_35
theorem dX7_load_0 : decode cX7_load 0 = .ok (.aload_n 0, 1) := by decide +kernel
theorem dX7_load_1 : decode cX7_load 1 = .ok (.getfield 10, 3) := by decide +kernel
theorem dX7_load_4 : decode cX7_load 4 = .ok (.getfield 29, 3) := by decide +kernel
theorem dX7_load_7 : decode cX7_load 7 = .ok (.iload_n 1, 1) := by decide +kernel
theorem dX7_load_8 : decode cX7_load 8 = .ok (.invokevirtual 65, 3) := by decide +kernel
theorem dX7_load_11 : decode cX7_load 11 = .ok (.astore_n 3, 1) := by decide +kernel
theorem dX7_load_12 : decode cX7_load 12 = .ok (.aload_n 3, 1) := by decide +kernel
theorem dX7_load_13 : decode cX7_load 13 = .ok (.ifnull 7, 3) := by decide +kernel
theorem dX7_load_16 : decode cX7_load 16 = .ok (.iload_n 2, 1) := by decide +kernel
theorem dX7_load_17 : decode cX7_load 17 = .ok (.ifCond .ge 5, 3) := by decide +kernel
theorem dX7_load_20 : decode cX7_load 20 = .ok (.iconst (-1), 1) := by decide +kernel
theorem dX7_load_21 : decode cX7_load 21 = .ok (.ireturn, 1) := by decide +kernel
theorem dX7_load_22 : decode cX7_load 22 = .ok (.aload_n 0, 1) := by decide +kernel
theorem dX7_load_23 : decode cX7_load 23 = .ok (.getfield 25, 3) := by decide +kernel
theorem dX7_load_26 : decode cX7_load 26 = .ok (.invokevirtual 165, 3) := by decide +kernel
theorem dX7_load_29 : decode cX7_load 29 = .ok (.aload_n 0, 1) := by decide +kernel
theorem dX7_load_30 : decode cX7_load 30 = .ok (.getfield 25, 3) := by decide +kernel
theorem dX7_load_33 : decode cX7_load 33 = .ok (.iconst 0, 1) := by decide +kernel
theorem dX7_load_34 : decode cX7_load 34 = .ok (.putfield 164, 3) := by decide +kernel
theorem dX7_load_37 : decode cX7_load 37 = .ok (.aload_n 0, 1) := by decide +kernel
theorem dX7_load_38 : decode cX7_load 38 = .ok (.getfield 25, 3) := by decide +kernel
theorem dX7_load_41 : decode cX7_load 41 = .ok (.getfield 168, 3) := by decide +kernel
theorem dX7_load_44 : decode cX7_load 44 = .ok (.ifCond .lt 14, 3) := by decide +kernel
theorem dX7_load_47 : decode cX7_load 47 = .ok (.bipush (-100), 2) := by decide +kernel
theorem dX7_load_49 : decode cX7_load 49 = .ok (.aload_n 0, 1) := by decide +kernel
theorem dX7_load_50 : decode cX7_load 50 = .ok (.getfield 25, 3) := by decide +kernel
theorem dX7_load_53 : decode cX7_load 53 = .ok (.getfield 168, 3) := by decide +kernel
theorem dX7_load_56 : decode cX7_load 56 = .ok (.isub, 1) := by decide +kernel
theorem dX7_load_57 : decode cX7_load 57 = .ok (.ireturn, 1) := by decide +kernel
theorem dX7_load_58 : decode cX7_load 58 = .ok (.iload_n 2, 1) := by decide +kernel
theorem dX7_load_59 : decode cX7_load 59 = .ok (.aload_n 3, 1) := by decide +kernel
theorem dX7_load_60 : decode cX7_load 60 = .ok (.getfield 75, 3) := by decide +kernel
theorem dX7_load_63 : decode cX7_load 63 = .ok (.aload_n 0, 1) := by decide +kernel
theorem dX7_load_64 : decode cX7_load 64 = .ok (.getfield 25, 3) := by decide +kernel
theorem dX7_load_67 : decode cX7_load 67 = .ok (.getfield 171, 3) := by decide +kernel
theorem dX7_load_70 : decode cX7_load 70 = .ok (.isub, 1) := by decide +kernel
theorem dX7_load_71 : decode cX7_load 71 = .ok (.if_icmp .le 6, 3) := by decide +kernel
theorem dX7_load_74 : decode cX7_load 74 = .ok (.bipush (-13), 2) := by decide +kernel
theorem dX7_load_76 : decode cX7_load 76 = .ok (.ireturn, 1) := by decide +kernel
theorem dX7_load_77 : decode cX7_load 77 = .ok (.iconst 0, 1) := by decide +kernel
theorem dX7_load_78 : decode cX7_load 78 = .ok (.istore 4, 2) := by decide +kernel
theorem dX7_load_80 : decode cX7_load 80 = .ok (.iload 4, 2) := by decide +kernel
theorem dX7_load_82 : decode cX7_load 82 = .ok (.aload_n 0, 1) := by decide +kernel
theorem dX7_load_83 : decode cX7_load 83 = .ok (.getfield 25, 3) := by decide +kernel
theorem dX7_load_86 : decode cX7_load 86 = .ok (.getfield 171, 3) := by decide +kernel
theorem dX7_load_89 : decode cX7_load 89 = .ok (.if_icmp .ge 36, 3) := by decide +kernel
theorem dX7_load_92 : decode cX7_load 92 = .ok (.aload_n 3, 1) := by decide +kernel
theorem dX7_load_93 : decode cX7_load 93 = .ok (.iload_n 2, 1) := by decide +kernel
theorem dX7_load_94 : decode cX7_load 94 = .ok (.iload 4, 2) := by decide +kernel
theorem dX7_load_96 : decode cX7_load 96 = .ok (.iadd, 1) := by decide +kernel
theorem dX7_load_97 : decode cX7_load 97 = .ok (.aload_n 0, 1) := by decide +kernel
theorem dX7_load_98 : decode cX7_load 98 = .ok (.getfield 25, 3) := by decide +kernel
theorem dX7_load_101 : decode cX7_load 101 = .ok (.iload 4, 2) := by decide +kernel
theorem dX7_load_103 : decode cX7_load 103 = .ok (.invokevirtual 174, 3) := by decide +kernel
theorem dX7_load_106 : decode cX7_load 106 = .ok (.aload_n 0, 1) := by decide +kernel
theorem dX7_load_107 : decode cX7_load 107 = .ok (.getfield 25, 3) := by decide +kernel
theorem dX7_load_110 : decode cX7_load 110 = .ok (.iload 4, 2) := by decide +kernel
theorem dX7_load_112 : decode cX7_load 112 = .ok (.invokevirtual 177, 3) := by decide +kernel
theorem dX7_load_115 : decode cX7_load 115 = .ok (.iconst 0, 1) := by decide +kernel
theorem dX7_load_116 : decode cX7_load 116 = .ok (.invokevirtual 180, 3) := by decide +kernel
theorem dX7_load_119 : decode cX7_load 119 = .ok (.iinc 4 1, 3) := by decide +kernel
theorem dX7_load_122 : decode cX7_load 122 = .ok (.goto (-42), 3) := by decide +kernel
theorem dX7_load_125 : decode cX7_load 125 = .ok (.aload_n 0, 1) := by decide +kernel
theorem dX7_load_126 : decode cX7_load 126 = .ok (.getfield 25, 3) := by decide +kernel
theorem dX7_load_129 : decode cX7_load 129 = .ok (.getfield 171, 3) := by decide +kernel
theorem dX7_load_132 : decode cX7_load 132 = .ok (.ireturn, 1) := by decide +kernel
def F_X7_load_l80 (x1 : Int32) (x2 : Int32)  (post : Int32 → VP → Prop)  (v3 : Nat) (X : Int32 → VP → Prop) (v4 : Int32) (P : VP) : Prop :=
  (v4 < P 17 0 2 → F_X5_kindOf v4 P (fun r103 => F_X5_valueOf v4 P (fun r112 => F_X3_become v3 (x2 + v4) r103 r112 ((0 : Int32)) P (fun P116 => X (v4 + 1) P116)))) ∧ (¬ v4 < P 17 0 2 → post (P 17 0 2) P)
set_option maxRecDepth 4000 in
theorem s_X7_load_l80 {l : Launch} {g : vG} {x1 : Int32} {x2 : Int32} {Q : VP} {post : Int32 → VP → Prop}  {v3 : Nat}  {v4 : Int32} {P : VP} (hv3 : v3 < vcnt 7)  (h : vL2 (F_X7_load_l80 x1 x2  post  v3) v4 P) : VM l g RX7 cX7_load 5 (some .int) 8 (vcI Q post) 80 [(0, vR 0 0), (2, vI x2), (3, vR 7 v3), (4, vI v4)] [] (vjn P Q) := by
  refine vL2_s (T := fun v4 P => VM l g RX7 cX7_load 5 (some .int) 8 (vcI Q post) 80 [(0, vR 0 0), (2, vI x2), (3, vR 7 v3), (4, vI v4)] [] (vjn P Q)) ?_ h
  clear h
  intro X hX v4 P h
  unfold F_X7_load_l80 at h
  refine vr_iload 3 dX7_load_80 rfl ?_
  refine vr_aload_n 0 0 dX7_load_82 rfl rfl ?_
  refine vg_0_3 RX7 rfl (by decide) fl_7_25 dX7_load_83 ?_
  refine vg_17_2 RX7 rfl (by decide) fl_7_171 dX7_load_86 ?_
  refine vr_icmpge 125 dX7_load_89 (by decide) (fun c89 => ?_) (fun c89 => ?_)
  · have h := h.1 c89
    refine vr_aload_n 3 2 dX7_load_92 rfl rfl ?_
    refine vr_iload_n 2 1 dX7_load_93 rfl rfl ?_
    refine vr_iload 3 dX7_load_94 rfl ?_
    refine vr_iadd dX7_load_96 ?_
    refine vr_aload_n 0 0 dX7_load_97 rfl rfl ?_
    refine vg_0_3 RX7 rfl (by decide) fl_7_25 dX7_load_98 ?_
    refine vr_iload 3 dX7_load_101 rfl ?_
    refine vr_callV RX7 (s_X5_kindOf h) rfl (by decide) rfl rfl rfl ml_7_174 rfl yh_X5_kindOf rfl ⟨Nat.le_of_ble_eq_true rfl, Nat.le_of_ble_eq_true rfl⟩ (Nat.le_of_ble_eq_true rfl) ⟨Nat.zero_le _, Nat.zero_le _⟩ dX7_load_103 (ki fun r103 h => ?_)
    refine vr_aload_n 0 0 dX7_load_106 rfl rfl ?_
    refine vg_0_3 RX7 rfl (by decide) fl_7_25 dX7_load_107 ?_
    refine vr_iload 3 dX7_load_110 rfl ?_
    refine vr_callV RX7 (s_X5_valueOf h) rfl (by decide) rfl rfl rfl ml_7_177 rfl yh_X5_valueOf rfl ⟨Nat.le_of_ble_eq_true rfl, Nat.le_of_ble_eq_true rfl⟩ (Nat.le_of_ble_eq_true rfl) ⟨Nat.zero_le _, Nat.zero_le _⟩ dX7_load_112 (ki fun r112 h => ?_)
    refine vr_iconst 0 dX7_load_115 (by decide) ?_
    refine vr_callV RX7 (s_X3_become hv3 h) rfl hv3 rfl rfl rfl ml_7_180 rfl yh_X3_become rfl ⟨Nat.le_of_ble_eq_true rfl, Nat.le_of_ble_eq_true rfl⟩ (Nat.le_of_ble_eq_true rfl) ⟨Nat.zero_le _, Nat.zero_le _⟩ dX7_load_116 (kcv fun P116 h => ?_)
    refine vr_iinc (v4 + 1) 3 [(4, vI (v4 + 1)), (0, vR 0 0), (2, vI x2), (3, vR 7 v3)] dX7_load_119 rfl rfl (by decide) rfl ?_
    refine vr_goto 80 dX7_load_122 (by decide) ?_
    refine vr_sub [1, 2, 3, 0] [(0, vR 0 0), (2, vI x2), (3, vR 7 v3), (4, vI (v4 + 1))] rfl ?_
    exact hX _ _ h
  · have h := h.2 c89
    refine vr_aload_n 0 0 dX7_load_125 rfl rfl ?_
    refine vg_0_3 RX7 rfl (by decide) fl_7_25 dX7_load_126 ?_
    refine vg_17_2 RX7 rfl (by decide) fl_7_171 dX7_load_129 ?_
    exact vr_iret rfl ⟨_, _, rfl, rfl, h⟩ dX7_load_132
def F_X7_load (x1 : Int32) (x2 : Int32) (P : VP) (post : Int32 → VP → Prop) : Prop :=
  (F_X6_find 0 x1 P (fun r8 => match r8 with | none => (post (((-1) : Int32)) P) | some yr8 => ((x2 < 0 → post (((-1) : Int32)) P) ∧ (¬ x2 < 0 → F_X5_read  P (fun P26 => ∀ P34 : VP, P34 = vup P26 17 0 1 0 → ((P34 17 0 7 < 0 → ((P34 7 yr8 4) - (P34 17 0 2) < x2 → post (((-13) : Int32)) P34) ∧ (¬ (P34 7 yr8 4) - (P34 17 0 2) < x2 → vL2 (F_X7_load_l80 x1 x2  post  yr8) ((0 : Int32)) P34)) ∧ (¬ P34 17 0 7 < 0 → post (((-100)) - (P34 17 0 7)) P34)))))))
set_option maxRecDepth 4000 in
theorem s_X7_load {l : Launch} {g : vG} {x1 : Int32} {x2 : Int32} {P Q : VP} {post : Int32 → VP → Prop}  (h : F_X7_load x1 x2 P post) : VC l g yX7_load cX7_load 5 (some .int) 8 [vR 0 0, vI x1, vI x2] (vjn P Q) (vcI Q post) := by
  refine VC.of (by decide +kernel) (Nat.le_of_ble_eq_true rfl) (show VM l g RX7 cX7_load 5 (some .int) 8 (vcI Q post) 0 [(0, vR 0 0), (1, vI x1), (2, vI x2)] [] (vjn P Q) from ?_)
  unfold F_X7_load at h
  refine vr_aload_n 0 0 dX7_load_0 rfl rfl ?_
  refine vg_0_0 RX7 rfl (by decide) fl_7_10 dX7_load_1 ?_
  refine vg_1_0 RX7 rfl (by decide) fl_7_29 dX7_load_4 ?_
  refine vr_iload_n 1 1 dX7_load_7 rfl rfl ?_
  refine vr_callV RX7 (s_X6_find (by decide) h) rfl (by decide) rfl rfl rfl ml_7_65 rfl yh_X6_find rfl ⟨Nat.le_of_ble_eq_true rfl, Nat.le_of_ble_eq_true rfl⟩ (Nat.le_of_ble_eq_true rfl) ⟨Nat.zero_le _, Nat.zero_le _⟩ dX7_load_8 (ko fun r8 hvr8 h => ?_)
  refine vr_astore_n 3 [(3, vO 7 r8), (0, vR 0 0), (1, vI x1), (2, vI x2)] dX7_load_11 rfl (by decide) rfl ?_
  refine vr_aload_n 3 0 dX7_load_12 rfl rfl ?_
  rcases r8 with _ | yr8
  · refine vr_ifnullN 20 dX7_load_13 (by decide) ?_
    refine vr_iconst (-1) dX7_load_20 (by decide) ?_
    exact vr_iret rfl ⟨_, _, rfl, rfl, h⟩ dX7_load_21
  · refine vr_ifnullR dX7_load_13 ?_
    refine vr_iload_n 2 3 dX7_load_16 rfl rfl ?_
    refine vr_ifge 22 dX7_load_17 (by decide) (fun c17 => ?_) (fun c17 => ?_)
    · have h := h.1 c17
      refine vr_iconst (-1) dX7_load_20 (by decide) ?_
      exact vr_iret rfl ⟨_, _, rfl, rfl, h⟩ dX7_load_21
    · have h := h.2 c17
      refine vr_aload_n 0 1 dX7_load_22 rfl rfl ?_
      refine vg_0_3 RX7 rfl (by decide) fl_7_25 dX7_load_23 ?_
      refine vr_callV RX7 (s_X5_read h) rfl (by decide) rfl rfl rfl ml_7_165 rfl yh_X5_read rfl ⟨Nat.le_of_ble_eq_true rfl, Nat.le_of_ble_eq_true rfl⟩ (Nat.le_of_ble_eq_true rfl) ⟨Nat.zero_le _, Nat.zero_le _⟩ dX7_load_26 (kcv fun P26 h => ?_)
      refine vr_aload_n 0 1 dX7_load_29 rfl rfl ?_
      refine vg_0_3 RX7 rfl (by decide) fl_7_25 dX7_load_30 ?_
      refine vr_iconst 0 dX7_load_33 (by decide) ?_
      obtain ⟨P34, eP34⟩ : ∃ y : VP, y = vup P26 17 0 1 0 := ⟨_, rfl⟩
      have h := h P34 eP34
      refine vp_17_1 RX7 rfl (by decide) fl_7_164 eP34 dX7_load_34 ?_
      refine vr_aload_n 0 1 dX7_load_37 rfl rfl ?_
      refine vg_0_3 RX7 rfl (by decide) fl_7_25 dX7_load_38 ?_
      refine vg_17_7 RX7 rfl (by decide) fl_7_168 dX7_load_41 ?_
      refine vr_iflt 58 dX7_load_44 (by decide) (fun c44 => ?_) (fun c44 => ?_)
      · have h := h.1 c44
        refine vr_iload_n 2 3 dX7_load_58 rfl rfl ?_
        refine vr_aload_n 3 0 dX7_load_59 rfl rfl ?_
        refine vg_7_4 RX7 rfl (hvr8 _ rfl) fl_7_75 dX7_load_60 ?_
        refine vr_aload_n 0 1 dX7_load_63 rfl rfl ?_
        refine vg_0_3 RX7 rfl (by decide) fl_7_25 dX7_load_64 ?_
        refine vg_17_2 RX7 rfl (by decide) fl_7_171 dX7_load_67 ?_
        refine vr_isub dX7_load_70 ?_
        refine vr_icmple 77 dX7_load_71 (by decide) (fun c71 => ?_) (fun c71 => ?_)
        · have h := h.1 c71
          refine vr_bipush (-13) dX7_load_74 (by decide) ?_
          exact vr_iret rfl ⟨_, _, rfl, rfl, h⟩ dX7_load_76
        · have h := h.2 c71
          refine vr_iconst 0 dX7_load_77 (by decide) ?_
          refine vr_istore [(4, vI 0), (3, vR 7 yr8), (0, vR 0 0), (1, vI x1), (2, vI x2)] dX7_load_78 (by decide) rfl ?_
          refine vr_sub [2, 4, 1, 0] [(0, vR 0 0), (2, vI x2), (3, vR 7 yr8), (4, vI 0)] rfl ?_
          exact s_X7_load_l80 (hvr8 _ rfl)  h
      · have h := h.2 c44
        refine vr_bipush (-100) dX7_load_47 (by decide) ?_
        refine vr_aload_n 0 1 dX7_load_49 rfl rfl ?_
        refine vg_0_3 RX7 rfl (by decide) fl_7_25 dX7_load_50 ?_
        refine vg_17_7 RX7 rfl (by decide) fl_7_168 dX7_load_53 ?_
        refine vr_isub dX7_load_56 ?_
        exact vr_iret rfl ⟨_, _, rfl, rfl, h⟩ dX7_load_57
theorem dX7_unsnap_0 : decode cX7_unsnap 0 = .ok (.aload_n 0, 1) := by decide +kernel
theorem dX7_unsnap_1 : decode cX7_unsnap 1 = .ok (.getfield 10, 3) := by decide +kernel
theorem dX7_unsnap_4 : decode cX7_unsnap 4 = .ok (.getfield 29, 3) := by decide +kernel
theorem dX7_unsnap_7 : decode cX7_unsnap 7 = .ok (.iload_n 1, 1) := by decide +kernel
theorem dX7_unsnap_8 : decode cX7_unsnap 8 = .ok (.invokevirtual 65, 3) := by decide +kernel
theorem dX7_unsnap_11 : decode cX7_unsnap 11 = .ok (.astore_n 2, 1) := by decide +kernel
theorem dX7_unsnap_12 : decode cX7_unsnap 12 = .ok (.aload_n 2, 1) := by decide +kernel
theorem dX7_unsnap_13 : decode cX7_unsnap 13 = .ok (.ifnonnull 7, 3) := by decide +kernel
theorem dX7_unsnap_16 : decode cX7_unsnap 16 = .ok (.iconst (-1), 1) := by decide +kernel
theorem dX7_unsnap_17 : decode cX7_unsnap 17 = .ok (.goto 7, 3) := by decide +kernel
theorem dX7_unsnap_20 : decode cX7_unsnap 20 = .ok (.aload_n 2, 1) := by decide +kernel
theorem dX7_unsnap_21 : decode cX7_unsnap 21 = .ok (.invokevirtual 183, 3) := by decide +kernel
theorem dX7_unsnap_24 : decode cX7_unsnap 24 = .ok (.ireturn, 1) := by decide +kernel
def F_X7_unsnap (x1 : Int32) (P : VP) (post : Int32 → VP → Prop) : Prop :=
  (F_X6_find 0 x1 P (fun r8 => match r8 with | none => (post (((-1) : Int32)) P) | some yr8 => (F_X3_unsnapAll yr8 P (fun r21 P21 => post r21 P21))))
set_option maxRecDepth 4000 in
theorem s_X7_unsnap {l : Launch} {g : vG} {x1 : Int32} {P Q : VP} {post : Int32 → VP → Prop}  (h : F_X7_unsnap x1 P post) : VC l g yX7_unsnap cX7_unsnap 3 (some .int) 3 [vR 0 0, vI x1] (vjn P Q) (vcI Q post) := by
  refine VC.of (by decide +kernel) (Nat.le_of_ble_eq_true rfl) (show VM l g RX7 cX7_unsnap 3 (some .int) 3 (vcI Q post) 0 [(0, vR 0 0), (1, vI x1)] [] (vjn P Q) from ?_)
  unfold F_X7_unsnap at h
  refine vr_aload_n 0 0 dX7_unsnap_0 rfl rfl ?_
  refine vg_0_0 RX7 rfl (by decide) fl_7_10 dX7_unsnap_1 ?_
  refine vg_1_0 RX7 rfl (by decide) fl_7_29 dX7_unsnap_4 ?_
  refine vr_iload_n 1 1 dX7_unsnap_7 rfl rfl ?_
  refine vr_callV RX7 (s_X6_find (by decide) h) rfl (by decide) rfl rfl rfl ml_7_65 rfl yh_X6_find rfl ⟨Nat.le_of_ble_eq_true rfl, Nat.le_of_ble_eq_true rfl⟩ (Nat.le_of_ble_eq_true rfl) ⟨Nat.zero_le _, Nat.zero_le _⟩ dX7_unsnap_8 (ko fun r8 hvr8 h => ?_)
  refine vr_astore_n 2 [(2, vO 7 r8), (0, vR 0 0), (1, vI x1)] dX7_unsnap_11 rfl (by decide) rfl ?_
  refine vr_aload_n 2 0 dX7_unsnap_12 rfl rfl ?_
  rcases r8 with _ | yr8
  · refine vr_ifnonnullN dX7_unsnap_13 ?_
    refine vr_iconst (-1) dX7_unsnap_16 (by decide) ?_
    refine vr_goto 24 dX7_unsnap_17 (by decide) ?_
    exact vr_iret rfl ⟨_, _, rfl, rfl, h⟩ dX7_unsnap_24
  · refine vr_ifnonnullR 20 dX7_unsnap_13 (by decide) ?_
    refine vr_aload_n 2 0 dX7_unsnap_20 rfl rfl ?_
    refine vr_callV RX7 (s_X3_unsnapAll (hvr8 _ rfl) h) rfl (hvr8 _ rfl) rfl rfl rfl ml_7_183 rfl yh_X3_unsnapAll rfl ⟨Nat.le_of_ble_eq_true rfl, Nat.le_of_ble_eq_true rfl⟩ (Nat.le_of_ble_eq_true rfl) ⟨Nat.zero_le _, Nat.zero_le _⟩ dX7_unsnap_21 (kci fun r21 P21 h => ?_)
    exact vr_iret rfl ⟨_, _, rfl, rfl, h⟩ dX7_unsnap_24
theorem dX7_start_0 : decode cX7_start 0 = .ok (.iload_n 1, 1) := by decide +kernel
theorem dX7_start_1 : decode cX7_start 1 = .ok (.bipush 16, 2) := by decide +kernel
theorem dX7_start_3 : decode cX7_start 3 = .ok (.invokestatic 43, 3) := by decide +kernel
theorem dX7_start_6 : decode cX7_start 6 = .ok (.ifCond .eq 21, 3) := by decide +kernel
theorem dX7_start_9 : decode cX7_start 9 = .ok (.iload_n 2, 1) := by decide +kernel
theorem dX7_start_10 : decode cX7_start 10 = .ok (.bipush 24, 2) := by decide +kernel
theorem dX7_start_12 : decode cX7_start 12 = .ok (.invokestatic 43, 3) := by decide +kernel
theorem dX7_start_15 : decode cX7_start 15 = .ok (.ifCond .eq 12, 3) := by decide +kernel
theorem dX7_start_18 : decode cX7_start 18 = .ok (.iload_n 3, 1) := by decide +kernel
theorem dX7_start_19 : decode cX7_start 19 = .ok (.bipush 8, 2) := by decide +kernel
theorem dX7_start_21 : decode cX7_start 21 = .ok (.invokestatic 43, 3) := by decide +kernel
theorem dX7_start_24 : decode cX7_start 24 = .ok (.ifCond .ne 5, 3) := by decide +kernel
theorem dX7_start_27 : decode cX7_start 27 = .ok (.iconst (-1), 1) := by decide +kernel
theorem dX7_start_28 : decode cX7_start 28 = .ok (.ireturn, 1) := by decide +kernel
theorem dX7_start_29 : decode cX7_start 29 = .ok (.aload_n 0, 1) := by decide +kernel
theorem dX7_start_30 : decode cX7_start 30 = .ok (.getfield 10, 3) := by decide +kernel
theorem dX7_start_33 : decode cX7_start 33 = .ok (.iload_n 1, 1) := by decide +kernel
theorem dX7_start_34 : decode cX7_start 34 = .ok (.iload_n 2, 1) := by decide +kernel
theorem dX7_start_35 : decode cX7_start 35 = .ok (.iload_n 3, 1) := by decide +kernel
theorem dX7_start_36 : decode cX7_start 36 = .ok (.invokevirtual 186, 3) := by decide +kernel
theorem dX7_start_39 : decode cX7_start 39 = .ok (.iconst 1, 1) := by decide +kernel
theorem dX7_start_40 : decode cX7_start 40 = .ok (.ireturn, 1) := by decide +kernel
def F_X7_start (x1 : Int32) (x2 : Int32) (x3 : Int32) (P : VP) (post : Int32 → VP → Prop) : Prop :=
  F_X7_isBelow x1 ((16 : Int32)) P (fun r3 => (r3 = 0 → post (((-1) : Int32)) P) ∧ (¬ r3 = 0 → F_X7_isBelow x2 ((24 : Int32)) P (fun r12 => (r12 = 0 → post (((-1) : Int32)) P) ∧ (¬ r12 = 0 → F_X7_isBelow x3 ((8 : Int32)) P (fun r21 => (r21 = 0 → post (((-1) : Int32)) P) ∧ (¬ r21 = 0 → F_X2_begin 0 x1 x2 x3 P (fun P36 => post ((1 : Int32)) P36)))))))
set_option maxRecDepth 4000 in
theorem s_X7_start {l : Launch} {g : vG} {x1 : Int32} {x2 : Int32} {x3 : Int32} {P Q : VP} {post : Int32 → VP → Prop}  (h : F_X7_start x1 x2 x3 P post) : VC l g yX7_start cX7_start 4 (some .int) 2 [vR 0 0, vI x1, vI x2, vI x3] (vjn P Q) (vcI Q post) := by
  refine VC.of (by decide +kernel) (Nat.le_of_ble_eq_true rfl) (show VM l g RX7 cX7_start 4 (some .int) 2 (vcI Q post) 0 [(0, vR 0 0), (1, vI x1), (2, vI x2), (3, vI x3)] [] (vjn P Q) from ?_)
  unfold F_X7_start at h
  refine vr_iload_n 1 1 dX7_start_0 rfl rfl ?_
  refine vr_bipush 16 dX7_start_1 (by decide) ?_
  refine vr_callS RX7 (s_X7_isBelow h) rfl rfl ml_7_43 rfl yh_X7_isBelow rfl ⟨Nat.le_of_ble_eq_true rfl, Nat.le_of_ble_eq_true rfl⟩ (Nat.le_of_ble_eq_true rfl) ⟨Nat.zero_le _, Nat.zero_le _⟩ dX7_start_3 (ki fun r3 h => ?_)
  refine vr_ifeq 27 dX7_start_6 (by decide) (fun c6 => ?_) (fun c6 => ?_)
  · have h := h.1 c6
    refine vr_iconst (-1) dX7_start_27 (by decide) ?_
    exact vr_iret rfl ⟨_, _, rfl, rfl, h⟩ dX7_start_28
  · have h := h.2 c6
    refine vr_iload_n 2 2 dX7_start_9 rfl rfl ?_
    refine vr_bipush 24 dX7_start_10 (by decide) ?_
    refine vr_callS RX7 (s_X7_isBelow h) rfl rfl ml_7_43 rfl yh_X7_isBelow rfl ⟨Nat.le_of_ble_eq_true rfl, Nat.le_of_ble_eq_true rfl⟩ (Nat.le_of_ble_eq_true rfl) ⟨Nat.zero_le _, Nat.zero_le _⟩ dX7_start_12 (ki fun r12 h => ?_)
    refine vr_ifeq 27 dX7_start_15 (by decide) (fun c15 => ?_) (fun c15 => ?_)
    · have h := h.1 c15
      refine vr_iconst (-1) dX7_start_27 (by decide) ?_
      exact vr_iret rfl ⟨_, _, rfl, rfl, h⟩ dX7_start_28
    · have h := h.2 c15
      refine vr_iload_n 3 3 dX7_start_18 rfl rfl ?_
      refine vr_bipush 8 dX7_start_19 (by decide) ?_
      refine vr_callS RX7 (s_X7_isBelow h) rfl rfl ml_7_43 rfl yh_X7_isBelow rfl ⟨Nat.le_of_ble_eq_true rfl, Nat.le_of_ble_eq_true rfl⟩ (Nat.le_of_ble_eq_true rfl) ⟨Nat.zero_le _, Nat.zero_le _⟩ dX7_start_21 (ki fun r21 h => ?_)
      refine vr_ifne 29 dX7_start_24 (by decide) (fun c24 => ?_) (fun c24 => ?_)
      · have h := h.1 c24
        refine vr_iconst (-1) dX7_start_27 (by decide) ?_
        exact vr_iret rfl ⟨_, _, rfl, rfl, h⟩ dX7_start_28
      · have h := h.2 c24
        refine vr_aload_n 0 0 dX7_start_29 rfl rfl ?_
        refine vg_0_0 RX7 rfl (by decide) fl_7_10 dX7_start_30 ?_
        refine vr_iload_n 1 1 dX7_start_33 rfl rfl ?_
        refine vr_iload_n 2 2 dX7_start_34 rfl rfl ?_
        refine vr_iload_n 3 3 dX7_start_35 rfl rfl ?_
        refine vr_callV RX7 (s_X2_begin (by decide) h) rfl (by decide) rfl rfl rfl ml_7_186 rfl yh_X2_begin rfl ⟨Nat.le_of_ble_eq_true rfl, Nat.le_of_ble_eq_true rfl⟩ (Nat.le_of_ble_eq_true rfl) ⟨Nat.zero_le _, Nat.zero_le _⟩ dX7_start_36 (kcv fun P36 h => ?_)
        refine vr_iconst 1 dX7_start_39 (by decide) ?_
        exact vr_iret rfl ⟨_, _, rfl, rfl, h⟩ dX7_start_40
theorem dX7_run_0 : decode cX7_run 0 = .ok (.iload_n 1, 1) := by decide +kernel
theorem dX7_run_1 : decode cX7_run 1 = .ok (.iconst 1, 1) := by decide +kernel
theorem dX7_run_2 : decode cX7_run 2 = .ok (.if_icmp .lt 10, 3) := by decide +kernel
theorem dX7_run_5 : decode cX7_run 5 = .ok (.iload_n 1, 1) := by decide +kernel
theorem dX7_run_6 : decode cX7_run 6 = .ok (.sipush 200, 3) := by decide +kernel
theorem dX7_run_9 : decode cX7_run 9 = .ok (.if_icmp .le 5, 3) := by decide +kernel
theorem dX7_run_12 : decode cX7_run 12 = .ok (.iconst (-1), 1) := by decide +kernel
theorem dX7_run_13 : decode cX7_run 13 = .ok (.ireturn, 1) := by decide +kernel
theorem dX7_run_14 : decode cX7_run 14 = .ok (.aload_n 0, 1) := by decide +kernel
theorem dX7_run_15 : decode cX7_run 15 = .ok (.getfield 10, 3) := by decide +kernel
theorem dX7_run_18 : decode cX7_run 18 = .ok (.iload_n 1, 1) := by decide +kernel
theorem dX7_run_19 : decode cX7_run 19 = .ok (.invokevirtual 190, 3) := by decide +kernel
theorem dX7_run_22 : decode cX7_run 22 = .ok (.istore_n 2, 1) := by decide +kernel
theorem dX7_run_23 : decode cX7_run 23 = .ok (.aload_n 0, 1) := by decide +kernel
theorem dX7_run_24 : decode cX7_run 24 = .ok (.aload_n 0, 1) := by decide +kernel
theorem dX7_run_25 : decode cX7_run 25 = .ok (.getfield 10, 3) := by decide +kernel
theorem dX7_run_28 : decode cX7_run 28 = .ok (.getfield 193, 3) := by decide +kernel
theorem dX7_run_31 : decode cX7_run 31 = .ok (.putfield 196, 3) := by decide +kernel
theorem dX7_run_34 : decode cX7_run 34 = .ok (.iload_n 2, 1) := by decide +kernel
theorem dX7_run_35 : decode cX7_run 35 = .ok (.ireturn, 1) := by decide +kernel
def F_X7_run (x1 : Int32) (P : VP) (post : Int32 → VP → Prop) : Prop :=
  (x1 < 1 → post (((-1) : Int32)) P) ∧ (¬ x1 < 1 → ((200 : Int32) < x1 → post (((-1) : Int32)) P) ∧ (¬ (200 : Int32) < x1 → F_X2_drive 0 x1 P (fun r19 P19 => ∀ P31 : VP, P31 = vup P19 0 0 5 (P19 1 0 11) → (post r19 P31))))
set_option maxRecDepth 4000 in
theorem s_X7_run {l : Launch} {g : vG} {x1 : Int32} {P Q : VP} {post : Int32 → VP → Prop}  (h : F_X7_run x1 P post) : VC l g yX7_run cX7_run 3 (some .int) 7 [vR 0 0, vI x1] (vjn P Q) (vcI Q post) := by
  refine VC.of (by decide +kernel) (Nat.le_of_ble_eq_true rfl) (show VM l g RX7 cX7_run 3 (some .int) 7 (vcI Q post) 0 [(0, vR 0 0), (1, vI x1)] [] (vjn P Q) from ?_)
  unfold F_X7_run at h
  refine vr_iload_n 1 1 dX7_run_0 rfl rfl ?_
  refine vr_iconst 1 dX7_run_1 (by decide) ?_
  refine vr_icmplt 12 dX7_run_2 (by decide) (fun c2 => ?_) (fun c2 => ?_)
  · have h := h.1 c2
    refine vr_iconst (-1) dX7_run_12 (by decide) ?_
    exact vr_iret rfl ⟨_, _, rfl, rfl, h⟩ dX7_run_13
  · have h := h.2 c2
    refine vr_iload_n 1 1 dX7_run_5 rfl rfl ?_
    refine vr_sipush 200 dX7_run_6 (by decide) ?_
    refine vr_icmple 14 dX7_run_9 (by decide) (fun c9 => ?_) (fun c9 => ?_)
    · have h := h.1 c9
      refine vr_iconst (-1) dX7_run_12 (by decide) ?_
      exact vr_iret rfl ⟨_, _, rfl, rfl, h⟩ dX7_run_13
    · have h := h.2 c9
      refine vr_aload_n 0 0 dX7_run_14 rfl rfl ?_
      refine vg_0_0 RX7 rfl (by decide) fl_7_10 dX7_run_15 ?_
      refine vr_iload_n 1 1 dX7_run_18 rfl rfl ?_
      refine vr_callV RX7 (s_X2_drive (by decide) h) rfl (by decide) rfl rfl rfl ml_7_190 rfl yh_X2_drive rfl ⟨Nat.le_of_ble_eq_true rfl, Nat.le_of_ble_eq_true rfl⟩ (Nat.le_of_ble_eq_true rfl) ⟨Nat.zero_le _, Nat.zero_le _⟩ dX7_run_19 (kci fun r19 P19 h => ?_)
      refine vr_istore_n 2 [(2, vI r19), (0, vR 0 0), (1, vI x1)] dX7_run_22 rfl (by decide) rfl ?_
      refine vr_aload_n 0 1 dX7_run_23 rfl rfl ?_
      refine vr_aload_n 0 1 dX7_run_24 rfl rfl ?_
      refine vg_0_0 RX7 rfl (by decide) fl_7_10 dX7_run_25 ?_
      refine vg_1_11 RX7 rfl (by decide) fl_7_193 dX7_run_28 ?_
      obtain ⟨P31, eP31⟩ : ∃ y : VP, y = vup P19 0 0 5 (P19 1 0 11) := ⟨_, rfl⟩
      have h := h P31 eP31
      refine vp_0_5 RX7 rfl (by decide) fl_7_196 eP31 dX7_run_31 ?_
      refine vr_iload_n 2 0 dX7_run_34 rfl rfl ?_
      exact vr_iret rfl ⟨_, _, rfl, rfl, h⟩ dX7_run_35
theorem dX7_why_0 : decode cX7_why 0 = .ok (.aload_n 0, 1) := by decide +kernel
theorem dX7_why_1 : decode cX7_why 1 = .ok (.getfield 196, 3) := by decide +kernel
theorem dX7_why_4 : decode cX7_why 4 = .ok (.ireturn, 1) := by decide +kernel
def F_X7_why  (P : VP) (post : Int32 → Prop) : Prop :=
  post (P 0 0 5)
set_option maxRecDepth 4000 in
theorem s_X7_why {l : Launch} {g : vG}  {P Q : VP} {post : Int32 → Prop}  (h : F_X7_why  P post) : VC l g yX7_why cX7_why 1 (some .int) 0 [vR 0 0] (vjn P Q) (vpI (vjn P Q) post) := by
  refine VC.of (by decide +kernel) (Nat.le_of_ble_eq_true rfl) (show VM l g RX7 cX7_why 1 (some .int) 0 (vpI (vjn P Q) post) 0 [(0, vR 0 0)] [] (vjn P Q) from ?_)
  unfold F_X7_why at h
  refine vr_aload_n 0 0 dX7_why_0 rfl rfl ?_
  refine vg_0_5 RX7 rfl (by decide) fl_7_196 dX7_why_1 ?_
  exact vr_iret rfl ⟨rfl, _, rfl, h⟩ dX7_why_4
theorem dX7_machine_0 : decode cX7_machine 0 = .ok (.iload_n 1, 1) := by decide +kernel
theorem dX7_machine_1 : decode cX7_machine 1 = .ok (.tableswitch 63 0 3 #[31, 39, 47, 55], 31) := by decide +kernel
theorem dX7_machine_32 : decode cX7_machine 32 = .ok (.aload_n 0, 1) := by decide +kernel
theorem dX7_machine_33 : decode cX7_machine 33 = .ok (.getfield 10, 3) := by decide +kernel
theorem dX7_machine_36 : decode cX7_machine 36 = .ok (.getfield 199, 3) := by decide +kernel
theorem dX7_machine_39 : decode cX7_machine 39 = .ok (.ireturn, 1) := by decide +kernel
theorem dX7_machine_40 : decode cX7_machine 40 = .ok (.aload_n 0, 1) := by decide +kernel
theorem dX7_machine_41 : decode cX7_machine 41 = .ok (.getfield 10, 3) := by decide +kernel
theorem dX7_machine_44 : decode cX7_machine 44 = .ok (.getfield 202, 3) := by decide +kernel
theorem dX7_machine_47 : decode cX7_machine 47 = .ok (.ireturn, 1) := by decide +kernel
theorem dX7_machine_48 : decode cX7_machine 48 = .ok (.aload_n 0, 1) := by decide +kernel
theorem dX7_machine_49 : decode cX7_machine 49 = .ok (.getfield 10, 3) := by decide +kernel
theorem dX7_machine_52 : decode cX7_machine 52 = .ok (.getfield 205, 3) := by decide +kernel
theorem dX7_machine_55 : decode cX7_machine 55 = .ok (.ireturn, 1) := by decide +kernel
theorem dX7_machine_56 : decode cX7_machine 56 = .ok (.aload_n 0, 1) := by decide +kernel
theorem dX7_machine_57 : decode cX7_machine 57 = .ok (.getfield 10, 3) := by decide +kernel
theorem dX7_machine_60 : decode cX7_machine 60 = .ok (.getfield 208, 3) := by decide +kernel
theorem dX7_machine_63 : decode cX7_machine 63 = .ok (.ireturn, 1) := by decide +kernel
theorem dX7_machine_64 : decode cX7_machine 64 = .ok (.iload_n 1, 1) := by decide +kernel
theorem dX7_machine_65 : decode cX7_machine 65 = .ok (.bipush 10, 2) := by decide +kernel
theorem dX7_machine_67 : decode cX7_machine 67 = .ok (.if_icmp .lt 26, 3) := by decide +kernel
theorem dX7_machine_70 : decode cX7_machine 70 = .ok (.iload_n 1, 1) := by decide +kernel
theorem dX7_machine_71 : decode cX7_machine 71 = .ok (.bipush 18, 2) := by decide +kernel
theorem dX7_machine_73 : decode cX7_machine 73 = .ok (.if_icmp .ge 20, 3) := by decide +kernel
theorem dX7_machine_76 : decode cX7_machine 76 = .ok (.aload_n 0, 1) := by decide +kernel
theorem dX7_machine_77 : decode cX7_machine 77 = .ok (.getfield 10, 3) := by decide +kernel
theorem dX7_machine_80 : decode cX7_machine 80 = .ok (.getfield 211, 3) := by decide +kernel
theorem dX7_machine_83 : decode cX7_machine 83 = .ok (.iload_n 1, 1) := by decide +kernel
theorem dX7_machine_84 : decode cX7_machine 84 = .ok (.bipush 10, 2) := by decide +kernel
theorem dX7_machine_86 : decode cX7_machine 86 = .ok (.isub, 1) := by decide +kernel
theorem dX7_machine_87 : decode cX7_machine 87 = .ok (.invokevirtual 215, 3) := by decide +kernel
theorem dX7_machine_90 : decode cX7_machine 90 = .ok (.goto 5, 3) := by decide +kernel
theorem dX7_machine_93 : decode cX7_machine 93 = .ok (.ldc 151, 2) := by decide +kernel
theorem dX7_machine_95 : decode cX7_machine 95 = .ok (.ireturn, 1) := by decide +kernel
def F_X7_machine (x1 : Int32) (P : VP) (post : Int32 → Prop) : Prop :=
  (x1 = 0 → post (P 1 0 2)) ∧ (¬ x1 = 0 → (x1 = 1 → post (P 1 0 3)) ∧ (¬ x1 = 1 → (x1 = 2 → post (P 1 0 4)) ∧ (¬ x1 = 2 → (x1 = 3 → post (P 1 0 5)) ∧ (¬ x1 = 3 → (x1 < 10 → post (((-2000000000) : Int32))) ∧ (¬ x1 < 10 → (x1 < 18 → F_X4_heightOf 0 (x1 - 10) P (fun r87 => post r87)) ∧ (¬ x1 < 18 → post (((-2000000000) : Int32))))))))
set_option maxRecDepth 4000 in
theorem s_X7_machine {l : Launch} {g : vG} {x1 : Int32} {P Q : VP} {post : Int32 → Prop}  (h : F_X7_machine x1 P post) : VC l g yX7_machine cX7_machine 2 (some .int) 1 [vR 0 0, vI x1] (vjn P Q) (vpI (vjn P Q) post) := by
  refine VC.of (by decide +kernel) (Nat.le_of_ble_eq_true rfl) (show VM l g RX7 cX7_machine 2 (some .int) 1 (vpI (vjn P Q) post) 0 [(0, vR 0 0), (1, vI x1)] [] (vjn P Q) from ?_)
  unfold F_X7_machine at h
  refine vr_iload_n 1 1 dX7_machine_0 rfl rfl ?_
  by_cases c1_0 : x1 = 0
  · have h := h.1 c1_0
    refine vr_tswIn 0 32 dX7_machine_1 c1_0 (by decide) rfl (by decide) ?_
    refine vr_aload_n 0 0 dX7_machine_32 rfl rfl ?_
    refine vg_0_0 RX7 rfl (by decide) fl_7_10 dX7_machine_33 ?_
    refine vg_1_2 RX7 rfl (by decide) fl_7_199 dX7_machine_36 ?_
    exact vr_iret rfl ⟨rfl, _, rfl, h⟩ dX7_machine_39
  · have h := h.2 c1_0
    by_cases c1_1 : x1 = 1
    · have h := h.1 c1_1
      refine vr_tswIn 1 40 dX7_machine_1 c1_1 (by decide) rfl (by decide) ?_
      refine vr_aload_n 0 0 dX7_machine_40 rfl rfl ?_
      refine vg_0_0 RX7 rfl (by decide) fl_7_10 dX7_machine_41 ?_
      refine vg_1_3 RX7 rfl (by decide) fl_7_202 dX7_machine_44 ?_
      exact vr_iret rfl ⟨rfl, _, rfl, h⟩ dX7_machine_47
    · have h := h.2 c1_1
      by_cases c1_2 : x1 = 2
      · have h := h.1 c1_2
        refine vr_tswIn 2 48 dX7_machine_1 c1_2 (by decide) rfl (by decide) ?_
        refine vr_aload_n 0 0 dX7_machine_48 rfl rfl ?_
        refine vg_0_0 RX7 rfl (by decide) fl_7_10 dX7_machine_49 ?_
        refine vg_1_4 RX7 rfl (by decide) fl_7_205 dX7_machine_52 ?_
        exact vr_iret rfl ⟨rfl, _, rfl, h⟩ dX7_machine_55
      · have h := h.2 c1_2
        by_cases c1_3 : x1 = 3
        · have h := h.1 c1_3
          refine vr_tswIn 3 56 dX7_machine_1 c1_3 (by decide) rfl (by decide) ?_
          refine vr_aload_n 0 0 dX7_machine_56 rfl rfl ?_
          refine vg_0_0 RX7 rfl (by decide) fl_7_10 dX7_machine_57 ?_
          refine vg_1_5 RX7 rfl (by decide) fl_7_208 dX7_machine_60 ?_
          exact vr_iret rfl ⟨rfl, _, rfl, h⟩ dX7_machine_63
        · have h := h.2 c1_3
          refine vr_tswOut 64 dX7_machine_1 (by have q0 := lv_neT c1_0 (a := 0) (by decide); have q1 := lv_neT c1_1 (a := 1) (by decide); have q2 := lv_neT c1_2 (a := 2) (by decide); have q3 := lv_neT c1_3 (a := 3) (by decide); omega) (by decide) ?_
          refine vr_iload_n 1 1 dX7_machine_64 rfl rfl ?_
          refine vr_bipush 10 dX7_machine_65 (by decide) ?_
          refine vr_icmplt 93 dX7_machine_67 (by decide) (fun c67 => ?_) (fun c67 => ?_)
          · have h := h.1 c67
            refine vr_ldc (-2000000000) ct_7_151 dX7_machine_93 ?_
            exact vr_iret rfl ⟨rfl, _, rfl, h⟩ dX7_machine_95
          · have h := h.2 c67
            refine vr_iload_n 1 1 dX7_machine_70 rfl rfl ?_
            refine vr_bipush 18 dX7_machine_71 (by decide) ?_
            refine vr_icmpge 93 dX7_machine_73 (by decide) (fun c73 => ?_) (fun c73 => ?_)
            · have h := h.1 c73
              refine vr_aload_n 0 0 dX7_machine_76 rfl rfl ?_
              refine vg_0_0 RX7 rfl (by decide) fl_7_10 dX7_machine_77 ?_
              refine vg_1_1 RX7 rfl (by decide) fl_7_211 dX7_machine_80 ?_
              refine vr_iload_n 1 1 dX7_machine_83 rfl rfl ?_
              refine vr_bipush 10 dX7_machine_84 (by decide) ?_
              refine vr_isub dX7_machine_86 ?_
              refine vr_callV RX7 (s_X4_heightOf (by decide) h) rfl (by decide) rfl rfl rfl ml_7_215 rfl yh_X4_heightOf rfl ⟨Nat.le_of_ble_eq_true rfl, Nat.le_of_ble_eq_true rfl⟩ (Nat.le_of_ble_eq_true rfl) ⟨Nat.zero_le _, Nat.zero_le _⟩ dX7_machine_87 (ki fun r87 h => ?_)
              refine vr_goto 95 dX7_machine_90 (by decide) ?_
              exact vr_iret rfl ⟨rfl, _, rfl, h⟩ dX7_machine_95
            · have h := h.2 c73
              refine vr_ldc (-2000000000) ct_7_151 dX7_machine_93 ?_
              exact vr_iret rfl ⟨rfl, _, rfl, h⟩ dX7_machine_95
theorem dX7_frame_0 : decode cX7_frame 0 = .ok (.iload_n 1, 1) := by decide +kernel
theorem dX7_frame_1 : decode cX7_frame 1 = .ok (.bipush 8, 2) := by decide +kernel
theorem dX7_frame_3 : decode cX7_frame 3 = .ok (.invokestatic 43, 3) := by decide +kernel
theorem dX7_frame_6 : decode cX7_frame 6 = .ok (.ifCond .eq 15, 3) := by decide +kernel
theorem dX7_frame_9 : decode cX7_frame 9 = .ok (.iload_n 2, 1) := by decide +kernel
theorem dX7_frame_10 : decode cX7_frame 10 = .ok (.ifCond .lt 11, 3) := by decide +kernel
theorem dX7_frame_13 : decode cX7_frame 13 = .ok (.iload_n 3, 1) := by decide +kernel
theorem dX7_frame_14 : decode cX7_frame 14 = .ok (.iconst 5, 1) := by decide +kernel
theorem dX7_frame_15 : decode cX7_frame 15 = .ok (.invokestatic 43, 3) := by decide +kernel
theorem dX7_frame_18 : decode cX7_frame 18 = .ok (.ifCond .ne 5, 3) := by decide +kernel
theorem dX7_frame_21 : decode cX7_frame 21 = .ok (.iconst (-1), 1) := by decide +kernel
theorem dX7_frame_22 : decode cX7_frame 22 = .ok (.ireturn, 1) := by decide +kernel
theorem dX7_frame_23 : decode cX7_frame 23 = .ok (.aload_n 0, 1) := by decide +kernel
theorem dX7_frame_24 : decode cX7_frame 24 = .ok (.getfield 10, 3) := by decide +kernel
theorem dX7_frame_27 : decode cX7_frame 27 = .ok (.getfield 211, 3) := by decide +kernel
theorem dX7_frame_30 : decode cX7_frame 30 = .ok (.iload_n 1, 1) := by decide +kernel
theorem dX7_frame_31 : decode cX7_frame 31 = .ok (.iload_n 2, 1) := by decide +kernel
theorem dX7_frame_32 : decode cX7_frame 32 = .ok (.invokevirtual 220, 3) := by decide +kernel
theorem dX7_frame_35 : decode cX7_frame 35 = .ok (.astore 4, 2) := by decide +kernel
theorem dX7_frame_37 : decode cX7_frame 37 = .ok (.aload 4, 2) := by decide +kernel
theorem dX7_frame_39 : decode cX7_frame 39 = .ok (.ifnonnull 6, 3) := by decide +kernel
theorem dX7_frame_42 : decode cX7_frame 42 = .ok (.bipush (-2), 2) := by decide +kernel
theorem dX7_frame_44 : decode cX7_frame 44 = .ok (.ireturn, 1) := by decide +kernel
theorem dX7_frame_45 : decode cX7_frame 45 = .ok (.iload_n 3, 1) := by decide +kernel
theorem dX7_frame_46 : decode cX7_frame 46 = .ok (.tableswitch 54 0 3 #[30, 36, 42, 48], 30) := by decide +kernel
theorem dX7_frame_76 : decode cX7_frame 76 = .ok (.aload 4, 2) := by decide +kernel
theorem dX7_frame_78 : decode cX7_frame 78 = .ok (.getfield 224, 3) := by decide +kernel
theorem dX7_frame_81 : decode cX7_frame 81 = .ok (.ireturn, 1) := by decide +kernel
theorem dX7_frame_82 : decode cX7_frame 82 = .ok (.aload 4, 2) := by decide +kernel
theorem dX7_frame_84 : decode cX7_frame 84 = .ok (.getfield 227, 3) := by decide +kernel
theorem dX7_frame_87 : decode cX7_frame 87 = .ok (.ireturn, 1) := by decide +kernel
theorem dX7_frame_88 : decode cX7_frame 88 = .ok (.aload 4, 2) := by decide +kernel
theorem dX7_frame_90 : decode cX7_frame 90 = .ok (.getfield 228, 3) := by decide +kernel
theorem dX7_frame_93 : decode cX7_frame 93 = .ok (.ireturn, 1) := by decide +kernel
theorem dX7_frame_94 : decode cX7_frame 94 = .ok (.aload 4, 2) := by decide +kernel
theorem dX7_frame_96 : decode cX7_frame 96 = .ok (.getfield 229, 3) := by decide +kernel
theorem dX7_frame_99 : decode cX7_frame 99 = .ok (.ireturn, 1) := by decide +kernel
theorem dX7_frame_100 : decode cX7_frame 100 = .ok (.aload 4, 2) := by decide +kernel
theorem dX7_frame_102 : decode cX7_frame 102 = .ok (.getfield 232, 3) := by decide +kernel
theorem dX7_frame_105 : decode cX7_frame 105 = .ok (.ifCond .eq 7, 3) := by decide +kernel
theorem dX7_frame_108 : decode cX7_frame 108 = .ok (.iconst 1, 1) := by decide +kernel
theorem dX7_frame_109 : decode cX7_frame 109 = .ok (.goto 4, 3) := by decide +kernel
theorem dX7_frame_112 : decode cX7_frame 112 = .ok (.iconst 0, 1) := by decide +kernel
theorem dX7_frame_113 : decode cX7_frame 113 = .ok (.ireturn, 1) := by decide +kernel
def F_X7_frame (x1 : Int32) (x2 : Int32) (x3 : Int32) (P : VP) (post : Int32 → Prop) : Prop :=
  F_X7_isBelow x1 ((8 : Int32)) P (fun r3 => (r3 = 0 → post (((-1) : Int32))) ∧ (¬ r3 = 0 → (x2 < 0 → post (((-1) : Int32))) ∧ (¬ x2 < 0 → F_X7_isBelow x3 ((5 : Int32)) P (fun r15 => (r15 = 0 → post (((-1) : Int32))) ∧ (¬ r15 = 0 → (F_X4_frameAt 0 x1 x2 P (fun r32 => match r32 with | none => (post (((-2) : Int32))) | some yr32 => ((x3 = 0 → post (P 14 yr32 0)) ∧ (¬ x3 = 0 → (x3 = 1 → post (P 14 yr32 1)) ∧ (¬ x3 = 1 → (x3 = 2 → post (P 14 yr32 2)) ∧ (¬ x3 = 2 → (x3 = 3 → post (P 14 yr32 4)) ∧ (¬ x3 = 3 → (P 14 yr32 3 = 0 → post ((0 : Int32))) ∧ (¬ P 14 yr32 3 = 0 → post ((1 : Int32)))))))))))))))
set_option maxRecDepth 4000 in
theorem s_X7_frame {l : Launch} {g : vG} {x1 : Int32} {x2 : Int32} {x3 : Int32} {P Q : VP} {post : Int32 → Prop}  (h : F_X7_frame x1 x2 x3 P post) : VC l g yX7_frame cX7_frame 5 (some .int) 2 [vR 0 0, vI x1, vI x2, vI x3] (vjn P Q) (vpI (vjn P Q) post) := by
  refine VC.of (by decide +kernel) (Nat.le_of_ble_eq_true rfl) (show VM l g RX7 cX7_frame 5 (some .int) 2 (vpI (vjn P Q) post) 0 [(0, vR 0 0), (1, vI x1), (2, vI x2), (3, vI x3)] [] (vjn P Q) from ?_)
  unfold F_X7_frame at h
  refine vr_iload_n 1 1 dX7_frame_0 rfl rfl ?_
  refine vr_bipush 8 dX7_frame_1 (by decide) ?_
  refine vr_callS RX7 (s_X7_isBelow h) rfl rfl ml_7_43 rfl yh_X7_isBelow rfl ⟨Nat.le_of_ble_eq_true rfl, Nat.le_of_ble_eq_true rfl⟩ (Nat.le_of_ble_eq_true rfl) ⟨Nat.zero_le _, Nat.zero_le _⟩ dX7_frame_3 (ki fun r3 h => ?_)
  refine vr_ifeq 21 dX7_frame_6 (by decide) (fun c6 => ?_) (fun c6 => ?_)
  · have h := h.1 c6
    refine vr_iconst (-1) dX7_frame_21 (by decide) ?_
    exact vr_iret rfl ⟨rfl, _, rfl, h⟩ dX7_frame_22
  · have h := h.2 c6
    refine vr_iload_n 2 2 dX7_frame_9 rfl rfl ?_
    refine vr_iflt 21 dX7_frame_10 (by decide) (fun c10 => ?_) (fun c10 => ?_)
    · have h := h.1 c10
      refine vr_iconst (-1) dX7_frame_21 (by decide) ?_
      exact vr_iret rfl ⟨rfl, _, rfl, h⟩ dX7_frame_22
    · have h := h.2 c10
      refine vr_iload_n 3 3 dX7_frame_13 rfl rfl ?_
      refine vr_iconst 5 dX7_frame_14 (by decide) ?_
      refine vr_callS RX7 (s_X7_isBelow h) rfl rfl ml_7_43 rfl yh_X7_isBelow rfl ⟨Nat.le_of_ble_eq_true rfl, Nat.le_of_ble_eq_true rfl⟩ (Nat.le_of_ble_eq_true rfl) ⟨Nat.zero_le _, Nat.zero_le _⟩ dX7_frame_15 (ki fun r15 h => ?_)
      refine vr_ifne 23 dX7_frame_18 (by decide) (fun c18 => ?_) (fun c18 => ?_)
      · have h := h.1 c18
        refine vr_iconst (-1) dX7_frame_21 (by decide) ?_
        exact vr_iret rfl ⟨rfl, _, rfl, h⟩ dX7_frame_22
      · have h := h.2 c18
        refine vr_aload_n 0 0 dX7_frame_23 rfl rfl ?_
        refine vg_0_0 RX7 rfl (by decide) fl_7_10 dX7_frame_24 ?_
        refine vg_1_1 RX7 rfl (by decide) fl_7_211 dX7_frame_27 ?_
        refine vr_iload_n 1 1 dX7_frame_30 rfl rfl ?_
        refine vr_iload_n 2 2 dX7_frame_31 rfl rfl ?_
        refine vr_callV RX7 (s_X4_frameAt (by decide) h) rfl (by decide) rfl rfl rfl ml_7_220 rfl yh_X4_frameAt rfl ⟨Nat.le_of_ble_eq_true rfl, Nat.le_of_ble_eq_true rfl⟩ (Nat.le_of_ble_eq_true rfl) ⟨Nat.zero_le _, Nat.zero_le _⟩ dX7_frame_32 (ko fun r32 hvr32 h => ?_)
        refine vr_astore [(4, vO 14 r32), (0, vR 0 0), (1, vI x1), (2, vI x2), (3, vI x3)] dX7_frame_35 (by decide) rfl ?_
        refine vr_aload 0 dX7_frame_37 rfl ?_
        rcases r32 with _ | yr32
        · refine vr_ifnonnullN dX7_frame_39 ?_
          refine vr_bipush (-2) dX7_frame_42 (by decide) ?_
          exact vr_iret rfl ⟨rfl, _, rfl, h⟩ dX7_frame_44
        · refine vr_ifnonnullR 45 dX7_frame_39 (by decide) ?_
          refine vr_iload_n 3 4 dX7_frame_45 rfl rfl ?_
          by_cases c46_0 : x3 = 0
          · have h := h.1 c46_0
            refine vr_tswIn 0 76 dX7_frame_46 c46_0 (by decide) rfl (by decide) ?_
            refine vr_aload 0 dX7_frame_76 rfl ?_
            refine vg_14_0 RX7 rfl (hvr32 _ rfl) fl_7_224 dX7_frame_78 ?_
            exact vr_iret rfl ⟨rfl, _, rfl, h⟩ dX7_frame_81
          · have h := h.2 c46_0
            by_cases c46_1 : x3 = 1
            · have h := h.1 c46_1
              refine vr_tswIn 1 82 dX7_frame_46 c46_1 (by decide) rfl (by decide) ?_
              refine vr_aload 0 dX7_frame_82 rfl ?_
              refine vg_14_1 RX7 rfl (hvr32 _ rfl) fl_7_227 dX7_frame_84 ?_
              exact vr_iret rfl ⟨rfl, _, rfl, h⟩ dX7_frame_87
            · have h := h.2 c46_1
              by_cases c46_2 : x3 = 2
              · have h := h.1 c46_2
                refine vr_tswIn 2 88 dX7_frame_46 c46_2 (by decide) rfl (by decide) ?_
                refine vr_aload 0 dX7_frame_88 rfl ?_
                refine vg_14_2 RX7 rfl (hvr32 _ rfl) fl_7_228 dX7_frame_90 ?_
                exact vr_iret rfl ⟨rfl, _, rfl, h⟩ dX7_frame_93
              · have h := h.2 c46_2
                by_cases c46_3 : x3 = 3
                · have h := h.1 c46_3
                  refine vr_tswIn 3 94 dX7_frame_46 c46_3 (by decide) rfl (by decide) ?_
                  refine vr_aload 0 dX7_frame_94 rfl ?_
                  refine vg_14_4 RX7 rfl (hvr32 _ rfl) fl_7_229 dX7_frame_96 ?_
                  exact vr_iret rfl ⟨rfl, _, rfl, h⟩ dX7_frame_99
                · have h := h.2 c46_3
                  refine vr_tswOut 100 dX7_frame_46 (by have q0 := lv_neT c46_0 (a := 0) (by decide); have q1 := lv_neT c46_1 (a := 1) (by decide); have q2 := lv_neT c46_2 (a := 2) (by decide); have q3 := lv_neT c46_3 (a := 3) (by decide); omega) (by decide) ?_
                  refine vr_aload 0 dX7_frame_100 rfl ?_
                  refine vg_14_3 RX7 rfl (hvr32 _ rfl) fl_7_232 dX7_frame_102 ?_
                  refine vr_ifeq 112 dX7_frame_105 (by decide) (fun c105 => ?_) (fun c105 => ?_)
                  · have h := h.1 c105
                    refine vr_iconst 0 dX7_frame_112 (by decide) ?_
                    exact vr_iret rfl ⟨rfl, _, rfl, h⟩ dX7_frame_113
                  · have h := h.2 c105
                    refine vr_iconst 1 dX7_frame_108 (by decide) ?_
                    refine vr_goto 113 dX7_frame_109 (by decide) ?_
                    exact vr_iret rfl ⟨rfl, _, rfl, h⟩ dX7_frame_113
theorem dX7_dry_0 : decode cX7_dry 0 = .ok (.iload_n 1, 1) := by decide +kernel
theorem dX7_dry_1 : decode cX7_dry 1 = .ok (.iconst 1, 1) := by decide +kernel
theorem dX7_dry_2 : decode cX7_dry 2 = .ok (.if_icmp .lt 18, 3) := by decide +kernel
theorem dX7_dry_5 : decode cX7_dry 5 = .ok (.iload_n 1, 1) := by decide +kernel
theorem dX7_dry_6 : decode cX7_dry 6 = .ok (.sipush 200, 3) := by decide +kernel
theorem dX7_dry_9 : decode cX7_dry 9 = .ok (.if_icmp .gt 11, 3) := by decide +kernel
theorem dX7_dry_12 : decode cX7_dry 12 = .ok (.iload_n 2, 1) := by decide +kernel
theorem dX7_dry_13 : decode cX7_dry 13 = .ok (.iconst 5, 1) := by decide +kernel
theorem dX7_dry_14 : decode cX7_dry 14 = .ok (.invokestatic 43, 3) := by decide +kernel
theorem dX7_dry_17 : decode cX7_dry 17 = .ok (.ifCond .ne 6, 3) := by decide +kernel
theorem dX7_dry_20 : decode cX7_dry 20 = .ok (.ldc 151, 2) := by decide +kernel
theorem dX7_dry_22 : decode cX7_dry 22 = .ok (.ireturn, 1) := by decide +kernel
theorem dX7_dry_23 : decode cX7_dry 23 = .ok (.aload_n 0, 1) := by decide +kernel
theorem dX7_dry_24 : decode cX7_dry 24 = .ok (.getfield 19, 3) := by decide +kernel
theorem dX7_dry_27 : decode cX7_dry 27 = .ok (.aload_n 0, 1) := by decide +kernel
theorem dX7_dry_28 : decode cX7_dry 28 = .ok (.getfield 10, 3) := by decide +kernel
theorem dX7_dry_31 : decode cX7_dry 31 = .ok (.invokevirtual 235, 3) := by decide +kernel
theorem dX7_dry_34 : decode cX7_dry 34 = .ok (.aload_n 0, 1) := by decide +kernel
theorem dX7_dry_35 : decode cX7_dry 35 = .ok (.getfield 19, 3) := by decide +kernel
theorem dX7_dry_38 : decode cX7_dry 38 = .ok (.iload_n 1, 1) := by decide +kernel
theorem dX7_dry_39 : decode cX7_dry 39 = .ok (.invokevirtual 190, 3) := by decide +kernel
theorem dX7_dry_42 : decode cX7_dry 42 = .ok (.istore_n 3, 1) := by decide +kernel
theorem dX7_dry_43 : decode cX7_dry 43 = .ok (.iload_n 2, 1) := by decide +kernel
theorem dX7_dry_44 : decode cX7_dry 44 = .ok (.tableswitch 58 0 3 #[32, 34, 42, 50], 32) := by decide +kernel
theorem dX7_dry_76 : decode cX7_dry 76 = .ok (.iload_n 3, 1) := by decide +kernel
theorem dX7_dry_77 : decode cX7_dry 77 = .ok (.ireturn, 1) := by decide +kernel
theorem dX7_dry_78 : decode cX7_dry 78 = .ok (.aload_n 0, 1) := by decide +kernel
theorem dX7_dry_79 : decode cX7_dry 79 = .ok (.getfield 19, 3) := by decide +kernel
theorem dX7_dry_82 : decode cX7_dry 82 = .ok (.getfield 193, 3) := by decide +kernel
theorem dX7_dry_85 : decode cX7_dry 85 = .ok (.ireturn, 1) := by decide +kernel
theorem dX7_dry_86 : decode cX7_dry 86 = .ok (.aload_n 0, 1) := by decide +kernel
theorem dX7_dry_87 : decode cX7_dry 87 = .ok (.getfield 19, 3) := by decide +kernel
theorem dX7_dry_90 : decode cX7_dry 90 = .ok (.getfield 208, 3) := by decide +kernel
theorem dX7_dry_93 : decode cX7_dry 93 = .ok (.ireturn, 1) := by decide +kernel
theorem dX7_dry_94 : decode cX7_dry 94 = .ok (.aload_n 0, 1) := by decide +kernel
theorem dX7_dry_95 : decode cX7_dry 95 = .ok (.getfield 19, 3) := by decide +kernel
theorem dX7_dry_98 : decode cX7_dry 98 = .ok (.getfield 205, 3) := by decide +kernel
theorem dX7_dry_101 : decode cX7_dry 101 = .ok (.ireturn, 1) := by decide +kernel
theorem dX7_dry_102 : decode cX7_dry 102 = .ok (.aload_n 0, 1) := by decide +kernel
theorem dX7_dry_103 : decode cX7_dry 103 = .ok (.getfield 19, 3) := by decide +kernel
theorem dX7_dry_106 : decode cX7_dry 106 = .ok (.getfield 211, 3) := by decide +kernel
theorem dX7_dry_109 : decode cX7_dry 109 = .ok (.invokevirtual 239, 3) := by decide +kernel
theorem dX7_dry_112 : decode cX7_dry 112 = .ok (.ireturn, 1) := by decide +kernel
def F_X7_dry (x1 : Int32) (x2 : Int32) (P : VP) (post : Int32 → VP → Prop) : Prop :=
  (x1 < 1 → post (((-2000000000) : Int32)) P) ∧ (¬ x1 < 1 → ((200 : Int32) < x1 → post (((-2000000000) : Int32)) P) ∧ (¬ (200 : Int32) < x1 → F_X7_isBelow x2 ((5 : Int32)) P (fun r14 => (r14 = 0 → post (((-2000000000) : Int32)) P) ∧ (¬ r14 = 0 → F_X2_copyFrom 2 0 P (fun P31 => F_X2_drive 2 x1 P31 (fun r39 P39 => (x2 = 0 → post r39 P39) ∧ (¬ x2 = 0 → (x2 = 1 → post (P39 1 2 11) P39) ∧ (¬ x2 = 1 → (x2 = 2 → post (P39 1 2 5) P39) ∧ (¬ x2 = 2 → (x2 = 3 → post (P39 1 2 4) P39) ∧ (¬ x2 = 3 → F_X4_framesOfAll 2 P39 (fun r109 => post r109 P39)))))))))))
set_option maxRecDepth 4000 in
theorem s_X7_dry {l : Launch} {g : vG} {x1 : Int32} {x2 : Int32} {P Q : VP} {post : Int32 → VP → Prop}  (h : F_X7_dry x1 x2 P post) : VC l g yX7_dry cX7_dry 4 (some .int) 7 [vR 0 0, vI x1, vI x2] (vjn P Q) (vcI Q post) := by
  refine VC.of (by decide +kernel) (Nat.le_of_ble_eq_true rfl) (show VM l g RX7 cX7_dry 4 (some .int) 7 (vcI Q post) 0 [(0, vR 0 0), (1, vI x1), (2, vI x2)] [] (vjn P Q) from ?_)
  unfold F_X7_dry at h
  refine vr_iload_n 1 1 dX7_dry_0 rfl rfl ?_
  refine vr_iconst 1 dX7_dry_1 (by decide) ?_
  refine vr_icmplt 20 dX7_dry_2 (by decide) (fun c2 => ?_) (fun c2 => ?_)
  · have h := h.1 c2
    refine vr_ldc (-2000000000) ct_7_151 dX7_dry_20 ?_
    exact vr_iret rfl ⟨_, _, rfl, rfl, h⟩ dX7_dry_22
  · have h := h.2 c2
    refine vr_iload_n 1 1 dX7_dry_5 rfl rfl ?_
    refine vr_sipush 200 dX7_dry_6 (by decide) ?_
    refine vr_icmpgt 20 dX7_dry_9 (by decide) (fun c9 => ?_) (fun c9 => ?_)
    · have h := h.1 c9
      refine vr_ldc (-2000000000) ct_7_151 dX7_dry_20 ?_
      exact vr_iret rfl ⟨_, _, rfl, rfl, h⟩ dX7_dry_22
    · have h := h.2 c9
      refine vr_iload_n 2 2 dX7_dry_12 rfl rfl ?_
      refine vr_iconst 5 dX7_dry_13 (by decide) ?_
      refine vr_callS RX7 (s_X7_isBelow h) rfl rfl ml_7_43 rfl yh_X7_isBelow rfl ⟨Nat.le_of_ble_eq_true rfl, Nat.le_of_ble_eq_true rfl⟩ (Nat.le_of_ble_eq_true rfl) ⟨Nat.zero_le _, Nat.zero_le _⟩ dX7_dry_14 (ki fun r14 h => ?_)
      refine vr_ifne 23 dX7_dry_17 (by decide) (fun c17 => ?_) (fun c17 => ?_)
      · have h := h.1 c17
        refine vr_ldc (-2000000000) ct_7_151 dX7_dry_20 ?_
        exact vr_iret rfl ⟨_, _, rfl, rfl, h⟩ dX7_dry_22
      · have h := h.2 c17
        refine vr_aload_n 0 0 dX7_dry_23 rfl rfl ?_
        refine vg_0_2 RX7 rfl (by decide) fl_7_19 dX7_dry_24 ?_
        refine vr_aload_n 0 0 dX7_dry_27 rfl rfl ?_
        refine vg_0_0 RX7 rfl (by decide) fl_7_10 dX7_dry_28 ?_
        refine vr_callV RX7 (s_X2_copyFrom (by decide) (by decide) h) rfl (by decide) rfl rfl rfl ml_7_235 rfl yh_X2_copyFrom rfl ⟨Nat.le_of_ble_eq_true rfl, Nat.le_of_ble_eq_true rfl⟩ (Nat.le_of_ble_eq_true rfl) ⟨Nat.zero_le _, Nat.zero_le _⟩ dX7_dry_31 (kcv fun P31 h => ?_)
        refine vr_aload_n 0 0 dX7_dry_34 rfl rfl ?_
        refine vg_0_2 RX7 rfl (by decide) fl_7_19 dX7_dry_35 ?_
        refine vr_iload_n 1 1 dX7_dry_38 rfl rfl ?_
        refine vr_callV RX7 (s_X2_drive (by decide) h) rfl (by decide) rfl rfl rfl ml_7_190 rfl yh_X2_drive rfl ⟨Nat.le_of_ble_eq_true rfl, Nat.le_of_ble_eq_true rfl⟩ (Nat.le_of_ble_eq_true rfl) ⟨Nat.zero_le _, Nat.zero_le _⟩ dX7_dry_39 (kci fun r39 P39 h => ?_)
        refine vr_istore_n 3 [(3, vI r39), (0, vR 0 0), (1, vI x1), (2, vI x2)] dX7_dry_42 rfl (by decide) rfl ?_
        refine vr_iload_n 2 3 dX7_dry_43 rfl rfl ?_
        by_cases c44_0 : x2 = 0
        · have h := h.1 c44_0
          refine vr_tswIn 0 76 dX7_dry_44 c44_0 (by decide) rfl (by decide) ?_
          refine vr_iload_n 3 0 dX7_dry_76 rfl rfl ?_
          exact vr_iret rfl ⟨_, _, rfl, rfl, h⟩ dX7_dry_77
        · have h := h.2 c44_0
          by_cases c44_1 : x2 = 1
          · have h := h.1 c44_1
            refine vr_tswIn 1 78 dX7_dry_44 c44_1 (by decide) rfl (by decide) ?_
            refine vr_aload_n 0 1 dX7_dry_78 rfl rfl ?_
            refine vg_0_2 RX7 rfl (by decide) fl_7_19 dX7_dry_79 ?_
            refine vg_1_11 RX7 rfl (by decide) fl_7_193 dX7_dry_82 ?_
            exact vr_iret rfl ⟨_, _, rfl, rfl, h⟩ dX7_dry_85
          · have h := h.2 c44_1
            by_cases c44_2 : x2 = 2
            · have h := h.1 c44_2
              refine vr_tswIn 2 86 dX7_dry_44 c44_2 (by decide) rfl (by decide) ?_
              refine vr_aload_n 0 1 dX7_dry_86 rfl rfl ?_
              refine vg_0_2 RX7 rfl (by decide) fl_7_19 dX7_dry_87 ?_
              refine vg_1_5 RX7 rfl (by decide) fl_7_208 dX7_dry_90 ?_
              exact vr_iret rfl ⟨_, _, rfl, rfl, h⟩ dX7_dry_93
            · have h := h.2 c44_2
              by_cases c44_3 : x2 = 3
              · have h := h.1 c44_3
                refine vr_tswIn 3 94 dX7_dry_44 c44_3 (by decide) rfl (by decide) ?_
                refine vr_aload_n 0 1 dX7_dry_94 rfl rfl ?_
                refine vg_0_2 RX7 rfl (by decide) fl_7_19 dX7_dry_95 ?_
                refine vg_1_4 RX7 rfl (by decide) fl_7_205 dX7_dry_98 ?_
                exact vr_iret rfl ⟨_, _, rfl, rfl, h⟩ dX7_dry_101
              · have h := h.2 c44_3
                refine vr_tswOut 102 dX7_dry_44 (by have q0 := lv_neT c44_0 (a := 0) (by decide); have q1 := lv_neT c44_1 (a := 1) (by decide); have q2 := lv_neT c44_2 (a := 2) (by decide); have q3 := lv_neT c44_3 (a := 3) (by decide); omega) (by decide) ?_
                refine vr_aload_n 0 1 dX7_dry_102 rfl rfl ?_
                refine vg_0_2 RX7 rfl (by decide) fl_7_19 dX7_dry_103 ?_
                refine vg_1_1 RX7 rfl (by decide) fl_7_211 dX7_dry_106 ?_
                refine vr_callV RX7 (s_X4_framesOfAll (by decide) h) rfl (by decide) rfl rfl rfl ml_7_239 rfl yh_X4_framesOfAll rfl ⟨Nat.le_of_ble_eq_true rfl, Nat.le_of_ble_eq_true rfl⟩ (Nat.le_of_ble_eq_true rfl) ⟨Nat.zero_le _, Nat.zero_le _⟩ dX7_dry_109 (ki fun r109 h => ?_)
                exact vr_iret rfl ⟨_, _, rfl, rfl, h⟩ dX7_dry_112
theorem dX7_operand_0 : decode cX7_operand 0 = .ok (.aload_n 0, 1) := by decide +kernel
theorem dX7_operand_1 : decode cX7_operand 1 = .ok (.getfield 10, 3) := by decide +kernel
theorem dX7_operand_4 : decode cX7_operand 4 = .ok (.getfield 29, 3) := by decide +kernel
theorem dX7_operand_7 : decode cX7_operand 7 = .ok (.iload_n 1, 1) := by decide +kernel
theorem dX7_operand_8 : decode cX7_operand 8 = .ok (.invokevirtual 65, 3) := by decide +kernel
theorem dX7_operand_11 : decode cX7_operand 11 = .ok (.astore 5, 2) := by decide +kernel
theorem dX7_operand_13 : decode cX7_operand 13 = .ok (.aload 5, 2) := by decide +kernel
theorem dX7_operand_15 : decode cX7_operand 15 = .ok (.ifnull 30, 3) := by decide +kernel
theorem dX7_operand_18 : decode cX7_operand 18 = .ok (.aload 5, 2) := by decide +kernel
theorem dX7_operand_20 : decode cX7_operand 20 = .ok (.iload_n 2, 1) := by decide +kernel
theorem dX7_operand_21 : decode cX7_operand 21 = .ok (.invokevirtual 148, 3) := by decide +kernel
theorem dX7_operand_24 : decode cX7_operand 24 = .ok (.ifCond .eq 21, 3) := by decide +kernel
theorem dX7_operand_27 : decode cX7_operand 27 = .ok (.iload_n 3, 1) := by decide +kernel
theorem dX7_operand_28 : decode cX7_operand 28 = .ok (.bipush 8, 2) := by decide +kernel
theorem dX7_operand_30 : decode cX7_operand 30 = .ok (.invokestatic 43, 3) := by decide +kernel
theorem dX7_operand_33 : decode cX7_operand 33 = .ok (.ifCond .eq 12, 3) := by decide +kernel
theorem dX7_operand_36 : decode cX7_operand 36 = .ok (.iload 4, 2) := by decide +kernel
theorem dX7_operand_38 : decode cX7_operand 38 = .ok (.iconst 3, 1) := by decide +kernel
theorem dX7_operand_39 : decode cX7_operand 39 = .ok (.invokestatic 43, 3) := by decide +kernel
theorem dX7_operand_42 : decode cX7_operand 42 = .ok (.ifCond .ne 5, 3) := by decide +kernel
theorem dX7_operand_45 : decode cX7_operand 45 = .ok (.iconst (-1), 1) := by decide +kernel
theorem dX7_operand_46 : decode cX7_operand 46 = .ok (.ireturn, 1) := by decide +kernel
theorem dX7_operand_47 : decode cX7_operand 47 = .ok (.aload_n 0, 1) := by decide +kernel
theorem dX7_operand_48 : decode cX7_operand 48 = .ok (.getfield 10, 3) := by decide +kernel
theorem dX7_operand_51 : decode cX7_operand 51 = .ok (.iload_n 1, 1) := by decide +kernel
theorem dX7_operand_52 : decode cX7_operand 52 = .ok (.iload_n 2, 1) := by decide +kernel
theorem dX7_operand_53 : decode cX7_operand 53 = .ok (.iload_n 3, 1) := by decide +kernel
theorem dX7_operand_54 : decode cX7_operand 54 = .ok (.iconst 0, 1) := by decide +kernel
theorem dX7_operand_55 : decode cX7_operand 55 = .ok (.invokevirtual 242, 3) := by decide +kernel
theorem dX7_operand_58 : decode cX7_operand 58 = .ok (.istore 6, 2) := by decide +kernel
theorem dX7_operand_60 : decode cX7_operand 60 = .ok (.iload 6, 2) := by decide +kernel
theorem dX7_operand_62 : decode cX7_operand 62 = .ok (.ifCond .eq 6, 3) := by decide +kernel
theorem dX7_operand_65 : decode cX7_operand 65 = .ok (.iload 6, 2) := by decide +kernel
theorem dX7_operand_67 : decode cX7_operand 67 = .ok (.ireturn, 1) := by decide +kernel
theorem dX7_operand_68 : decode cX7_operand 68 = .ok (.iload 4, 2) := by decide +kernel
theorem dX7_operand_70 : decode cX7_operand 70 = .ok (.lookupswitch 42 #[(0, 26), (1, 34)], 26) := by decide +kernel
theorem dX7_operand_96 : decode cX7_operand 96 = .ok (.aload_n 0, 1) := by decide +kernel
theorem dX7_operand_97 : decode cX7_operand 97 = .ok (.getfield 10, 3) := by decide +kernel
theorem dX7_operand_100 : decode cX7_operand 100 = .ok (.getfield 246, 3) := by decide +kernel
theorem dX7_operand_103 : decode cX7_operand 103 = .ok (.ireturn, 1) := by decide +kernel
theorem dX7_operand_104 : decode cX7_operand 104 = .ok (.aload_n 0, 1) := by decide +kernel
theorem dX7_operand_105 : decode cX7_operand 105 = .ok (.getfield 10, 3) := by decide +kernel
theorem dX7_operand_108 : decode cX7_operand 108 = .ok (.getfield 249, 3) := by decide +kernel
theorem dX7_operand_111 : decode cX7_operand 111 = .ok (.ireturn, 1) := by decide +kernel
theorem dX7_operand_112 : decode cX7_operand 112 = .ok (.aload_n 0, 1) := by decide +kernel
theorem dX7_operand_113 : decode cX7_operand 113 = .ok (.getfield 10, 3) := by decide +kernel
theorem dX7_operand_116 : decode cX7_operand 116 = .ok (.getfield 252, 3) := by decide +kernel
theorem dX7_operand_119 : decode cX7_operand 119 = .ok (.ireturn, 1) := by decide +kernel
def F_X7_operand (x1 : Int32) (x2 : Int32) (x3 : Int32) (x4 : Int32) (P : VP) (post : Int32 → VP → Prop) : Prop :=
  (F_X6_find 0 x1 P (fun r8 => match r8 with | none => (post (((-1) : Int32)) P) | some yr8 => (F_X3_has yr8 x2 P (fun r21 => (r21 = 0 → post (((-1) : Int32)) P) ∧ (¬ r21 = 0 → F_X7_isBelow x3 ((8 : Int32)) P (fun r30 => (r30 = 0 → post (((-1) : Int32)) P) ∧ (¬ r30 = 0 → F_X7_isBelow x4 ((3 : Int32)) P (fun r39 => (r39 = 0 → post (((-1) : Int32)) P) ∧ (¬ r39 = 0 → F_X2_seekOperand 0 x1 x2 x3 ((0 : Int32)) P (fun r55 P55 => (r55 = 0 → (x4 = 0 → post (P55 1 0 9) P55) ∧ (¬ x4 = 0 → (x4 = 1 → post (P55 1 0 7) P55) ∧ (¬ x4 = 1 → post (P55 1 0 8) P55))) ∧ (¬ r55 = 0 → post r55 P55)))))))))))
set_option maxRecDepth 4000 in
theorem s_X7_operand {l : Launch} {g : vG} {x1 : Int32} {x2 : Int32} {x3 : Int32} {x4 : Int32} {P Q : VP} {post : Int32 → VP → Prop}  (h : F_X7_operand x1 x2 x3 x4 P post) : VC l g yX7_operand cX7_operand 7 (some .int) 4 [vR 0 0, vI x1, vI x2, vI x3, vI x4] (vjn P Q) (vcI Q post) := by
  refine VC.of (by decide +kernel) (Nat.le_of_ble_eq_true rfl) (show VM l g RX7 cX7_operand 7 (some .int) 4 (vcI Q post) 0 [(0, vR 0 0), (1, vI x1), (2, vI x2), (3, vI x3), (4, vI x4)] [] (vjn P Q) from ?_)
  unfold F_X7_operand at h
  refine vr_aload_n 0 0 dX7_operand_0 rfl rfl ?_
  refine vg_0_0 RX7 rfl (by decide) fl_7_10 dX7_operand_1 ?_
  refine vg_1_0 RX7 rfl (by decide) fl_7_29 dX7_operand_4 ?_
  refine vr_iload_n 1 1 dX7_operand_7 rfl rfl ?_
  refine vr_callV RX7 (s_X6_find (by decide) h) rfl (by decide) rfl rfl rfl ml_7_65 rfl yh_X6_find rfl ⟨Nat.le_of_ble_eq_true rfl, Nat.le_of_ble_eq_true rfl⟩ (Nat.le_of_ble_eq_true rfl) ⟨Nat.zero_le _, Nat.zero_le _⟩ dX7_operand_8 (ko fun r8 hvr8 h => ?_)
  refine vr_astore [(5, vO 7 r8), (0, vR 0 0), (1, vI x1), (2, vI x2), (3, vI x3), (4, vI x4)] dX7_operand_11 (by decide) rfl ?_
  refine vr_aload 0 dX7_operand_13 rfl ?_
  rcases r8 with _ | yr8
  · refine vr_ifnullN 45 dX7_operand_15 (by decide) ?_
    refine vr_iconst (-1) dX7_operand_45 (by decide) ?_
    exact vr_iret rfl ⟨_, _, rfl, rfl, h⟩ dX7_operand_46
  · refine vr_ifnullR dX7_operand_15 ?_
    refine vr_aload 0 dX7_operand_18 rfl ?_
    refine vr_iload_n 2 3 dX7_operand_20 rfl rfl ?_
    refine vr_callV RX7 (s_X3_has (hvr8 _ rfl) h) rfl (hvr8 _ rfl) rfl rfl rfl ml_7_148 rfl yh_X3_has rfl ⟨Nat.le_of_ble_eq_true rfl, Nat.le_of_ble_eq_true rfl⟩ (Nat.le_of_ble_eq_true rfl) ⟨Nat.zero_le _, Nat.zero_le _⟩ dX7_operand_21 (ki fun r21 h => ?_)
    refine vr_ifeq 45 dX7_operand_24 (by decide) (fun c24 => ?_) (fun c24 => ?_)
    · have h := h.1 c24
      refine vr_iconst (-1) dX7_operand_45 (by decide) ?_
      exact vr_iret rfl ⟨_, _, rfl, rfl, h⟩ dX7_operand_46
    · have h := h.2 c24
      refine vr_iload_n 3 4 dX7_operand_27 rfl rfl ?_
      refine vr_bipush 8 dX7_operand_28 (by decide) ?_
      refine vr_callS RX7 (s_X7_isBelow h) rfl rfl ml_7_43 rfl yh_X7_isBelow rfl ⟨Nat.le_of_ble_eq_true rfl, Nat.le_of_ble_eq_true rfl⟩ (Nat.le_of_ble_eq_true rfl) ⟨Nat.zero_le _, Nat.zero_le _⟩ dX7_operand_30 (ki fun r30 h => ?_)
      refine vr_ifeq 45 dX7_operand_33 (by decide) (fun c33 => ?_) (fun c33 => ?_)
      · have h := h.1 c33
        refine vr_iconst (-1) dX7_operand_45 (by decide) ?_
        exact vr_iret rfl ⟨_, _, rfl, rfl, h⟩ dX7_operand_46
      · have h := h.2 c33
        refine vr_iload 5 dX7_operand_36 rfl ?_
        refine vr_iconst 3 dX7_operand_38 (by decide) ?_
        refine vr_callS RX7 (s_X7_isBelow h) rfl rfl ml_7_43 rfl yh_X7_isBelow rfl ⟨Nat.le_of_ble_eq_true rfl, Nat.le_of_ble_eq_true rfl⟩ (Nat.le_of_ble_eq_true rfl) ⟨Nat.zero_le _, Nat.zero_le _⟩ dX7_operand_39 (ki fun r39 h => ?_)
        refine vr_ifne 47 dX7_operand_42 (by decide) (fun c42 => ?_) (fun c42 => ?_)
        · have h := h.1 c42
          refine vr_iconst (-1) dX7_operand_45 (by decide) ?_
          exact vr_iret rfl ⟨_, _, rfl, rfl, h⟩ dX7_operand_46
        · have h := h.2 c42
          refine vr_aload_n 0 1 dX7_operand_47 rfl rfl ?_
          refine vg_0_0 RX7 rfl (by decide) fl_7_10 dX7_operand_48 ?_
          refine vr_iload_n 1 2 dX7_operand_51 rfl rfl ?_
          refine vr_iload_n 2 3 dX7_operand_52 rfl rfl ?_
          refine vr_iload_n 3 4 dX7_operand_53 rfl rfl ?_
          refine vr_iconst 0 dX7_operand_54 (by decide) ?_
          refine vr_callV RX7 (s_X2_seekOperand (by decide) h) rfl (by decide) rfl rfl rfl ml_7_242 rfl yh_X2_seekOperand rfl ⟨Nat.le_of_ble_eq_true rfl, Nat.le_of_ble_eq_true rfl⟩ (Nat.le_of_ble_eq_true rfl) ⟨Nat.zero_le _, Nat.zero_le _⟩ dX7_operand_55 (kci fun r55 P55 h => ?_)
          refine vr_istore [(6, vI r55), (5, vR 7 yr8), (0, vR 0 0), (1, vI x1), (2, vI x2), (3, vI x3), (4, vI x4)] dX7_operand_58 (by decide) rfl ?_
          refine vr_iload 0 dX7_operand_60 rfl ?_
          refine vr_ifeq 68 dX7_operand_62 (by decide) (fun c62 => ?_) (fun c62 => ?_)
          · have h := h.1 c62
            refine vr_iload 6 dX7_operand_68 rfl ?_
            by_cases c70_0 : x4 = 0
            · have h := h.1 c70_0
              refine vr_lsw (off := 26) 96 dX7_operand_70 (by decide) (by rw [c70_0]; decide) (by decide) ?_
              refine vr_aload_n 0 2 dX7_operand_96 rfl rfl ?_
              refine vg_0_0 RX7 rfl (by decide) fl_7_10 dX7_operand_97 ?_
              refine vg_1_9 RX7 rfl (by decide) fl_7_246 dX7_operand_100 ?_
              exact vr_iret rfl ⟨_, _, rfl, rfl, h⟩ dX7_operand_103
            · have h := h.2 c70_0
              by_cases c70_1 : x4 = 1
              · have h := h.1 c70_1
                refine vr_lsw (off := 34) 104 dX7_operand_70 (by decide) (by rw [c70_1]; decide) (by decide) ?_
                refine vr_aload_n 0 2 dX7_operand_104 rfl rfl ?_
                refine vg_0_0 RX7 rfl (by decide) fl_7_10 dX7_operand_105 ?_
                refine vg_1_7 RX7 rfl (by decide) fl_7_249 dX7_operand_108 ?_
                exact vr_iret rfl ⟨_, _, rfl, rfl, h⟩ dX7_operand_111
              · have h := h.2 c70_1
                refine vr_lsw (off := 42) 112 dX7_operand_70 (by decide) (by rw [lv_osw c70_0 (by decide), lv_osw c70_1 (by decide)]; rfl) (by decide) ?_
                refine vr_aload_n 0 2 dX7_operand_112 rfl rfl ?_
                refine vg_0_0 RX7 rfl (by decide) fl_7_10 dX7_operand_113 ?_
                refine vg_1_8 RX7 rfl (by decide) fl_7_252 dX7_operand_116 ?_
                exact vr_iret rfl ⟨_, _, rfl, rfl, h⟩ dX7_operand_119
          · have h := h.2 c62
            refine vr_iload 0 dX7_operand_65 rfl ?_
            exact vr_iret rfl ⟨_, _, rfl, rfl, h⟩ dX7_operand_67
theorem dX7_enters_0 : decode cX7_enters 0 = .ok (.iload_n 1, 1) := by decide +kernel
theorem dX7_enters_1 : decode cX7_enters 1 = .ok (.bipush 16, 2) := by decide +kernel
theorem dX7_enters_3 : decode cX7_enters 3 = .ok (.invokestatic 43, 3) := by decide +kernel
theorem dX7_enters_6 : decode cX7_enters 6 = .ok (.ifCond .eq 21, 3) := by decide +kernel
theorem dX7_enters_9 : decode cX7_enters 9 = .ok (.iload_n 2, 1) := by decide +kernel
theorem dX7_enters_10 : decode cX7_enters 10 = .ok (.bipush 24, 2) := by decide +kernel
theorem dX7_enters_12 : decode cX7_enters 12 = .ok (.invokestatic 43, 3) := by decide +kernel
theorem dX7_enters_15 : decode cX7_enters 15 = .ok (.ifCond .eq 12, 3) := by decide +kernel
theorem dX7_enters_18 : decode cX7_enters 18 = .ok (.iload_n 3, 1) := by decide +kernel
theorem dX7_enters_19 : decode cX7_enters 19 = .ok (.bipush 8, 2) := by decide +kernel
theorem dX7_enters_21 : decode cX7_enters 21 = .ok (.invokestatic 43, 3) := by decide +kernel
theorem dX7_enters_24 : decode cX7_enters 24 = .ok (.ifCond .ne 5, 3) := by decide +kernel
theorem dX7_enters_27 : decode cX7_enters 27 = .ok (.iconst (-1), 1) := by decide +kernel
theorem dX7_enters_28 : decode cX7_enters 28 = .ok (.ireturn, 1) := by decide +kernel
theorem dX7_enters_29 : decode cX7_enters 29 = .ok (.aload_n 0, 1) := by decide +kernel
theorem dX7_enters_30 : decode cX7_enters 30 = .ok (.getfield 10, 3) := by decide +kernel
theorem dX7_enters_33 : decode cX7_enters 33 = .ok (.getfield 29, 3) := by decide +kernel
theorem dX7_enters_36 : decode cX7_enters 36 = .ok (.iload_n 1, 1) := by decide +kernel
theorem dX7_enters_37 : decode cX7_enters 37 = .ok (.iload_n 2, 1) := by decide +kernel
theorem dX7_enters_38 : decode cX7_enters 38 = .ok (.iload_n 3, 1) := by decide +kernel
theorem dX7_enters_39 : decode cX7_enters 39 = .ok (.invokevirtual 255, 3) := by decide +kernel
theorem dX7_enters_42 : decode cX7_enters 42 = .ok (.ireturn, 1) := by decide +kernel
def F_X7_enters (x1 : Int32) (x2 : Int32) (x3 : Int32) (P : VP) (post : Int32 → Prop) : Prop :=
  F_X7_isBelow x1 ((16 : Int32)) P (fun r3 => (r3 = 0 → post (((-1) : Int32))) ∧ (¬ r3 = 0 → F_X7_isBelow x2 ((24 : Int32)) P (fun r12 => (r12 = 0 → post (((-1) : Int32))) ∧ (¬ r12 = 0 → F_X7_isBelow x3 ((8 : Int32)) P (fun r21 => (r21 = 0 → post (((-1) : Int32))) ∧ (¬ r21 = 0 → F_X6_ringEntered 0 x1 x2 x3 P (fun r39 => post r39)))))))
set_option maxRecDepth 4000 in
theorem s_X7_enters {l : Launch} {g : vG} {x1 : Int32} {x2 : Int32} {x3 : Int32} {P Q : VP} {post : Int32 → Prop}  (h : F_X7_enters x1 x2 x3 P post) : VC l g yX7_enters cX7_enters 4 (some .int) 2 [vR 0 0, vI x1, vI x2, vI x3] (vjn P Q) (vpI (vjn P Q) post) := by
  refine VC.of (by decide +kernel) (Nat.le_of_ble_eq_true rfl) (show VM l g RX7 cX7_enters 4 (some .int) 2 (vpI (vjn P Q) post) 0 [(0, vR 0 0), (1, vI x1), (2, vI x2), (3, vI x3)] [] (vjn P Q) from ?_)
  unfold F_X7_enters at h
  refine vr_iload_n 1 1 dX7_enters_0 rfl rfl ?_
  refine vr_bipush 16 dX7_enters_1 (by decide) ?_
  refine vr_callS RX7 (s_X7_isBelow h) rfl rfl ml_7_43 rfl yh_X7_isBelow rfl ⟨Nat.le_of_ble_eq_true rfl, Nat.le_of_ble_eq_true rfl⟩ (Nat.le_of_ble_eq_true rfl) ⟨Nat.zero_le _, Nat.zero_le _⟩ dX7_enters_3 (ki fun r3 h => ?_)
  refine vr_ifeq 27 dX7_enters_6 (by decide) (fun c6 => ?_) (fun c6 => ?_)
  · have h := h.1 c6
    refine vr_iconst (-1) dX7_enters_27 (by decide) ?_
    exact vr_iret rfl ⟨rfl, _, rfl, h⟩ dX7_enters_28
  · have h := h.2 c6
    refine vr_iload_n 2 2 dX7_enters_9 rfl rfl ?_
    refine vr_bipush 24 dX7_enters_10 (by decide) ?_
    refine vr_callS RX7 (s_X7_isBelow h) rfl rfl ml_7_43 rfl yh_X7_isBelow rfl ⟨Nat.le_of_ble_eq_true rfl, Nat.le_of_ble_eq_true rfl⟩ (Nat.le_of_ble_eq_true rfl) ⟨Nat.zero_le _, Nat.zero_le _⟩ dX7_enters_12 (ki fun r12 h => ?_)
    refine vr_ifeq 27 dX7_enters_15 (by decide) (fun c15 => ?_) (fun c15 => ?_)
    · have h := h.1 c15
      refine vr_iconst (-1) dX7_enters_27 (by decide) ?_
      exact vr_iret rfl ⟨rfl, _, rfl, h⟩ dX7_enters_28
    · have h := h.2 c15
      refine vr_iload_n 3 3 dX7_enters_18 rfl rfl ?_
      refine vr_bipush 8 dX7_enters_19 (by decide) ?_
      refine vr_callS RX7 (s_X7_isBelow h) rfl rfl ml_7_43 rfl yh_X7_isBelow rfl ⟨Nat.le_of_ble_eq_true rfl, Nat.le_of_ble_eq_true rfl⟩ (Nat.le_of_ble_eq_true rfl) ⟨Nat.zero_le _, Nat.zero_le _⟩ dX7_enters_21 (ki fun r21 h => ?_)
      refine vr_ifne 29 dX7_enters_24 (by decide) (fun c24 => ?_) (fun c24 => ?_)
      · have h := h.1 c24
        refine vr_iconst (-1) dX7_enters_27 (by decide) ?_
        exact vr_iret rfl ⟨rfl, _, rfl, h⟩ dX7_enters_28
      · have h := h.2 c24
        refine vr_aload_n 0 0 dX7_enters_29 rfl rfl ?_
        refine vg_0_0 RX7 rfl (by decide) fl_7_10 dX7_enters_30 ?_
        refine vg_1_0 RX7 rfl (by decide) fl_7_29 dX7_enters_33 ?_
        refine vr_iload_n 1 1 dX7_enters_36 rfl rfl ?_
        refine vr_iload_n 2 2 dX7_enters_37 rfl rfl ?_
        refine vr_iload_n 3 3 dX7_enters_38 rfl rfl ?_
        refine vr_callV RX7 (s_X6_ringEntered (by decide) h) rfl (by decide) rfl rfl rfl ml_7_255 rfl yh_X6_ringEntered rfl ⟨Nat.le_of_ble_eq_true rfl, Nat.le_of_ble_eq_true rfl⟩ (Nat.le_of_ble_eq_true rfl) ⟨Nat.zero_le _, Nat.zero_le _⟩ dX7_enters_39 (ki fun r39 h => ?_)
        exact vr_iret rfl ⟨rfl, _, rfl, h⟩ dX7_enters_42
theorem dX7_access_0 : decode cX7_access 0 = .ok (.aload_n 0, 1) := by decide +kernel
theorem dX7_access_1 : decode cX7_access 1 = .ok (.getfield 10, 3) := by decide +kernel
theorem dX7_access_4 : decode cX7_access 4 = .ok (.getfield 29, 3) := by decide +kernel
theorem dX7_access_7 : decode cX7_access 7 = .ok (.iload_n 1, 1) := by decide +kernel
theorem dX7_access_8 : decode cX7_access 8 = .ok (.invokevirtual 65, 3) := by decide +kernel
theorem dX7_access_11 : decode cX7_access 11 = .ok (.astore_n 3, 1) := by decide +kernel
theorem dX7_access_12 : decode cX7_access 12 = .ok (.aload_n 3, 1) := by decide +kernel
theorem dX7_access_13 : decode cX7_access 13 = .ok (.ifnull 12, 3) := by decide +kernel
theorem dX7_access_16 : decode cX7_access 16 = .ok (.iload_n 2, 1) := by decide +kernel
theorem dX7_access_17 : decode cX7_access 17 = .ok (.bipush 8, 2) := by decide +kernel
theorem dX7_access_19 : decode cX7_access 19 = .ok (.invokestatic 43, 3) := by decide +kernel
theorem dX7_access_22 : decode cX7_access 22 = .ok (.ifCond .ne 5, 3) := by decide +kernel
theorem dX7_access_25 : decode cX7_access 25 = .ok (.iconst (-1), 1) := by decide +kernel
theorem dX7_access_26 : decode cX7_access 26 = .ok (.ireturn, 1) := by decide +kernel
theorem dX7_access_27 : decode cX7_access 27 = .ok (.aload_n 3, 1) := by decide +kernel
theorem dX7_access_28 : decode cX7_access 28 = .ok (.iload_n 2, 1) := by decide +kernel
theorem dX7_access_29 : decode cX7_access 29 = .ok (.invokevirtual 259, 3) := by decide +kernel
theorem dX7_access_32 : decode cX7_access 32 = .ok (.ifCond .eq 7, 3) := by decide +kernel
theorem dX7_access_35 : decode cX7_access 35 = .ok (.iconst 1, 1) := by decide +kernel
theorem dX7_access_36 : decode cX7_access 36 = .ok (.goto 4, 3) := by decide +kernel
theorem dX7_access_39 : decode cX7_access 39 = .ok (.iconst 0, 1) := by decide +kernel
theorem dX7_access_40 : decode cX7_access 40 = .ok (.aload_n 3, 1) := by decide +kernel
theorem dX7_access_41 : decode cX7_access 41 = .ok (.iload_n 2, 1) := by decide +kernel
theorem dX7_access_42 : decode cX7_access 42 = .ok (.invokevirtual 262, 3) := by decide +kernel
theorem dX7_access_45 : decode cX7_access 45 = .ok (.ifCond .eq 7, 3) := by decide +kernel
theorem dX7_access_48 : decode cX7_access 48 = .ok (.iconst 2, 1) := by decide +kernel
theorem dX7_access_49 : decode cX7_access 49 = .ok (.goto 4, 3) := by decide +kernel
theorem dX7_access_52 : decode cX7_access 52 = .ok (.iconst 0, 1) := by decide +kernel
theorem dX7_access_53 : decode cX7_access 53 = .ok (.iadd, 1) := by decide +kernel
theorem dX7_access_54 : decode cX7_access 54 = .ok (.aload_n 3, 1) := by decide +kernel
theorem dX7_access_55 : decode cX7_access 55 = .ok (.iload_n 2, 1) := by decide +kernel
theorem dX7_access_56 : decode cX7_access 56 = .ok (.invokevirtual 265, 3) := by decide +kernel
theorem dX7_access_59 : decode cX7_access 59 = .ok (.ifCond .eq 7, 3) := by decide +kernel
theorem dX7_access_62 : decode cX7_access 62 = .ok (.iconst 4, 1) := by decide +kernel
theorem dX7_access_63 : decode cX7_access 63 = .ok (.goto 4, 3) := by decide +kernel
theorem dX7_access_66 : decode cX7_access 66 = .ok (.iconst 0, 1) := by decide +kernel
theorem dX7_access_67 : decode cX7_access 67 = .ok (.iadd, 1) := by decide +kernel
theorem dX7_access_68 : decode cX7_access 68 = .ok (.ireturn, 1) := by decide +kernel
def F_X7_access_b53 (x1 : Int32) (x2 : Int32) (P : VP) (post : Int32 → Prop)  (v3 : Nat) (t0 : Int32) (t1 : Int32) : Prop :=
  F_X3_letsGo v3 x2 P (fun r56 => (r56 = 0 → post ((t1 + t0) + 0)) ∧ (¬ r56 = 0 → post ((t1 + t0) + 4)))
set_option maxRecDepth 4000 in
theorem s_X7_access_b53 {l : Launch} {g : vG} {x1 : Int32} {x2 : Int32} {P Q : VP} {post : Int32 → Prop}  {v3 : Nat} {t0 : Int32} {t1 : Int32}  (hv3 : v3 < vcnt 7)  (h : F_X7_access_b53 x1 x2 P post  v3 t0 t1) : VM l g RX7 cX7_access 4 (some .int) 1 (vpI (vjn P Q) post) 53 [(2, vI x2), (3, vR 7 v3)] [vI t0, vI t1] (vjn P Q) := by
  unfold F_X7_access_b53 at h
  refine vr_iadd dX7_access_53 ?_
  refine vr_aload_n 3 1 dX7_access_54 rfl rfl ?_
  refine vr_iload_n 2 0 dX7_access_55 rfl rfl ?_
  refine vr_callV RX7 (s_X3_letsGo hv3 h) rfl hv3 rfl rfl rfl ml_7_265 rfl yh_X3_letsGo rfl ⟨Nat.le_of_ble_eq_true rfl, Nat.le_of_ble_eq_true rfl⟩ (Nat.le_of_ble_eq_true rfl) ⟨Nat.zero_le _, Nat.zero_le _⟩ dX7_access_56 (ki fun r56 h => ?_)
  refine vr_ifeq 66 dX7_access_59 (by decide) (fun c59 => ?_) (fun c59 => ?_)
  · have h := h.1 c59
    refine vr_iconst 0 dX7_access_66 (by decide) ?_
    refine vr_iadd dX7_access_67 ?_
    exact vr_iret rfl ⟨rfl, _, rfl, h⟩ dX7_access_68
  · have h := h.2 c59
    refine vr_iconst 4 dX7_access_62 (by decide) ?_
    refine vr_goto 67 dX7_access_63 (by decide) ?_
    refine vr_iadd dX7_access_67 ?_
    exact vr_iret rfl ⟨rfl, _, rfl, h⟩ dX7_access_68
def F_X7_access_b40 (x1 : Int32) (x2 : Int32) (P : VP) (post : Int32 → Prop)  (v3 : Nat) (t0 : Int32) : Prop :=
  F_X3_letsWrite v3 x2 P (fun r42 => (r42 = 0 → F_X7_access_b53 x1 x2 P post  v3 ((0 : Int32)) t0) ∧ (¬ r42 = 0 → F_X7_access_b53 x1 x2 P post  v3 ((2 : Int32)) t0))
set_option maxRecDepth 4000 in
theorem s_X7_access_b40 {l : Launch} {g : vG} {x1 : Int32} {x2 : Int32} {P Q : VP} {post : Int32 → Prop}  {v3 : Nat} {t0 : Int32}  (hv3 : v3 < vcnt 7)  (h : F_X7_access_b40 x1 x2 P post  v3 t0) : VM l g RX7 cX7_access 4 (some .int) 1 (vpI (vjn P Q) post) 40 [(2, vI x2), (3, vR 7 v3)] [vI t0] (vjn P Q) := by
  unfold F_X7_access_b40 at h
  refine vr_aload_n 3 1 dX7_access_40 rfl rfl ?_
  refine vr_iload_n 2 0 dX7_access_41 rfl rfl ?_
  refine vr_callV RX7 (s_X3_letsWrite hv3 h) rfl hv3 rfl rfl rfl ml_7_262 rfl yh_X3_letsWrite rfl ⟨Nat.le_of_ble_eq_true rfl, Nat.le_of_ble_eq_true rfl⟩ (Nat.le_of_ble_eq_true rfl) ⟨Nat.zero_le _, Nat.zero_le _⟩ dX7_access_42 (ki fun r42 h => ?_)
  refine vr_ifeq 52 dX7_access_45 (by decide) (fun c45 => ?_) (fun c45 => ?_)
  · have h := h.1 c45
    refine vr_iconst 0 dX7_access_52 (by decide) ?_
    exact s_X7_access_b53 hv3  h
  · have h := h.2 c45
    refine vr_iconst 2 dX7_access_48 (by decide) ?_
    refine vr_goto 53 dX7_access_49 (by decide) ?_
    exact s_X7_access_b53 hv3  h
def F_X7_access (x1 : Int32) (x2 : Int32) (P : VP) (post : Int32 → Prop) : Prop :=
  (F_X6_find 0 x1 P (fun r8 => match r8 with | none => (post (((-1) : Int32))) | some yr8 => (F_X7_isBelow x2 ((8 : Int32)) P (fun r19 => (r19 = 0 → post (((-1) : Int32))) ∧ (¬ r19 = 0 → F_X3_letsRead yr8 x2 P (fun r29 => (r29 = 0 → F_X7_access_b40 x1 x2 P post  yr8 ((0 : Int32))) ∧ (¬ r29 = 0 → F_X7_access_b40 x1 x2 P post  yr8 ((1 : Int32)))))))))
set_option maxRecDepth 4000 in
theorem s_X7_access {l : Launch} {g : vG} {x1 : Int32} {x2 : Int32} {P Q : VP} {post : Int32 → Prop}  (h : F_X7_access x1 x2 P post) : VC l g yX7_access cX7_access 4 (some .int) 1 [vR 0 0, vI x1, vI x2] (vjn P Q) (vpI (vjn P Q) post) := by
  refine VC.of (by decide +kernel) (Nat.le_of_ble_eq_true rfl) (show VM l g RX7 cX7_access 4 (some .int) 1 (vpI (vjn P Q) post) 0 [(0, vR 0 0), (1, vI x1), (2, vI x2)] [] (vjn P Q) from ?_)
  unfold F_X7_access at h
  refine vr_aload_n 0 0 dX7_access_0 rfl rfl ?_
  refine vg_0_0 RX7 rfl (by decide) fl_7_10 dX7_access_1 ?_
  refine vg_1_0 RX7 rfl (by decide) fl_7_29 dX7_access_4 ?_
  refine vr_iload_n 1 1 dX7_access_7 rfl rfl ?_
  refine vr_callV RX7 (s_X6_find (by decide) h) rfl (by decide) rfl rfl rfl ml_7_65 rfl yh_X6_find rfl ⟨Nat.le_of_ble_eq_true rfl, Nat.le_of_ble_eq_true rfl⟩ (Nat.le_of_ble_eq_true rfl) ⟨Nat.zero_le _, Nat.zero_le _⟩ dX7_access_8 (ko fun r8 hvr8 h => ?_)
  refine vr_astore_n 3 [(3, vO 7 r8), (0, vR 0 0), (1, vI x1), (2, vI x2)] dX7_access_11 rfl (by decide) rfl ?_
  refine vr_aload_n 3 0 dX7_access_12 rfl rfl ?_
  rcases r8 with _ | yr8
  · refine vr_ifnullN 25 dX7_access_13 (by decide) ?_
    refine vr_iconst (-1) dX7_access_25 (by decide) ?_
    exact vr_iret rfl ⟨rfl, _, rfl, h⟩ dX7_access_26
  · refine vr_ifnullR dX7_access_13 ?_
    refine vr_iload_n 2 3 dX7_access_16 rfl rfl ?_
    refine vr_bipush 8 dX7_access_17 (by decide) ?_
    refine vr_callS RX7 (s_X7_isBelow h) rfl rfl ml_7_43 rfl yh_X7_isBelow rfl ⟨Nat.le_of_ble_eq_true rfl, Nat.le_of_ble_eq_true rfl⟩ (Nat.le_of_ble_eq_true rfl) ⟨Nat.zero_le _, Nat.zero_le _⟩ dX7_access_19 (ki fun r19 h => ?_)
    refine vr_ifne 27 dX7_access_22 (by decide) (fun c22 => ?_) (fun c22 => ?_)
    · have h := h.1 c22
      refine vr_iconst (-1) dX7_access_25 (by decide) ?_
      exact vr_iret rfl ⟨rfl, _, rfl, h⟩ dX7_access_26
    · have h := h.2 c22
      refine vr_aload_n 3 0 dX7_access_27 rfl rfl ?_
      refine vr_iload_n 2 3 dX7_access_28 rfl rfl ?_
      refine vr_callV RX7 (s_X3_letsRead (hvr8 _ rfl) h) rfl (hvr8 _ rfl) rfl rfl rfl ml_7_259 rfl yh_X3_letsRead rfl ⟨Nat.le_of_ble_eq_true rfl, Nat.le_of_ble_eq_true rfl⟩ (Nat.le_of_ble_eq_true rfl) ⟨Nat.zero_le _, Nat.zero_le _⟩ dX7_access_29 (ki fun r29 h => ?_)
      refine vr_ifeq 39 dX7_access_32 (by decide) (fun c32 => ?_) (fun c32 => ?_)
      · have h := h.1 c32
        refine vr_iconst 0 dX7_access_39 (by decide) ?_
        refine vr_sub [3, 0] [(2, vI x2), (3, vR 7 yr8)] rfl ?_
        exact s_X7_access_b40 (hvr8 _ rfl)  h
      · have h := h.2 c32
        refine vr_iconst 1 dX7_access_35 (by decide) ?_
        refine vr_goto 40 dX7_access_36 (by decide) ?_
        refine vr_sub [3, 0] [(2, vI x2), (3, vR 7 yr8)] rfl ?_
        exact s_X7_access_b40 (hvr8 _ rfl)  h
theorem dX7_lowestBit_0 : decode cX7_lowestBit 0 = .ok (.iconst 0, 1) := by decide +kernel
theorem dX7_lowestBit_1 : decode cX7_lowestBit 1 = .ok (.istore_n 1, 1) := by decide +kernel
theorem dX7_lowestBit_2 : decode cX7_lowestBit 2 = .ok (.iload_n 1, 1) := by decide +kernel
theorem dX7_lowestBit_3 : decode cX7_lowestBit 3 = .ok (.bipush 8, 2) := by decide +kernel
theorem dX7_lowestBit_5 : decode cX7_lowestBit 5 = .ok (.if_icmp .ge 19, 3) := by decide +kernel
theorem dX7_lowestBit_8 : decode cX7_lowestBit 8 = .ok (.iload_n 0, 1) := by decide +kernel
theorem dX7_lowestBit_9 : decode cX7_lowestBit 9 = .ok (.iconst 1, 1) := by decide +kernel
theorem dX7_lowestBit_10 : decode cX7_lowestBit 10 = .ok (.iload_n 1, 1) := by decide +kernel
theorem dX7_lowestBit_11 : decode cX7_lowestBit 11 = .ok (.ishl, 1) := by decide +kernel
theorem dX7_lowestBit_12 : decode cX7_lowestBit 12 = .ok (.iand, 1) := by decide +kernel
theorem dX7_lowestBit_13 : decode cX7_lowestBit 13 = .ok (.ifCond .eq 5, 3) := by decide +kernel
theorem dX7_lowestBit_16 : decode cX7_lowestBit 16 = .ok (.iload_n 1, 1) := by decide +kernel
theorem dX7_lowestBit_17 : decode cX7_lowestBit 17 = .ok (.ireturn, 1) := by decide +kernel
theorem dX7_lowestBit_18 : decode cX7_lowestBit 18 = .ok (.iinc 1 1, 3) := by decide +kernel
theorem dX7_lowestBit_21 : decode cX7_lowestBit 21 = .ok (.goto (-19), 3) := by decide +kernel
theorem dX7_lowestBit_24 : decode cX7_lowestBit 24 = .ok (.bipush (-2), 2) := by decide +kernel
theorem dX7_lowestBit_26 : decode cX7_lowestBit 26 = .ok (.ireturn, 1) := by decide +kernel
def F_X7_lowestBit_l2 (x0 : Int32) (P : VP) (post : Int32 → Prop)   (X : Int32 → Prop) (v1 : Int32) : Prop :=
  (v1 < 8 → (x0 &&& (1 <<< (v1 &&& 31)) = 0 → X (v1 + 1)) ∧ (¬ x0 &&& (1 <<< (v1 &&& 31)) = 0 → post v1)) ∧ (¬ v1 < 8 → post (((-2) : Int32)))
set_option maxRecDepth 4000 in
theorem s_X7_lowestBit_l2 {l : Launch} {g : vG} {x0 : Int32} {P Q : VP} {post : Int32 → Prop}    {v1 : Int32}   (h : vL1 (F_X7_lowestBit_l2 x0 P post  ) v1) : VM l g RX7 cX7_lowestBit 2 (some .int) 0 (vpI (vjn P Q) post) 2 [(0, vI x0), (1, vI v1)] [] (vjn P Q) := by
  refine vL1_s (T := fun v1 => VM l g RX7 cX7_lowestBit 2 (some .int) 0 (vpI (vjn P Q) post) 2 [(0, vI x0), (1, vI v1)] [] (vjn P Q)) ?_ h
  clear h
  intro X hX v1 h
  unfold F_X7_lowestBit_l2 at h
  refine vr_iload_n 1 1 dX7_lowestBit_2 rfl rfl ?_
  refine vr_bipush 8 dX7_lowestBit_3 (by decide) ?_
  refine vr_icmpge 24 dX7_lowestBit_5 (by decide) (fun c5 => ?_) (fun c5 => ?_)
  · have h := h.1 c5
    refine vr_iload_n 0 0 dX7_lowestBit_8 rfl rfl ?_
    refine vr_iconst 1 dX7_lowestBit_9 (by decide) ?_
    refine vr_iload_n 1 1 dX7_lowestBit_10 rfl rfl ?_
    refine vr_ishl dX7_lowestBit_11 ?_
    refine vr_iand dX7_lowestBit_12 ?_
    refine vr_ifeq 18 dX7_lowestBit_13 (by decide) (fun c13 => ?_) (fun c13 => ?_)
    · have h := h.1 c13
      refine vr_iinc (v1 + 1) 1 [(1, vI (v1 + 1)), (0, vI x0)] dX7_lowestBit_18 rfl rfl (by decide) rfl ?_
      refine vr_goto 2 dX7_lowestBit_21 (by decide) ?_
      refine vr_sub [1, 0] [(0, vI x0), (1, vI (v1 + 1))] rfl ?_
      exact hX _ h
    · have h := h.2 c13
      refine vr_iload_n 1 1 dX7_lowestBit_16 rfl rfl ?_
      exact vr_iret rfl ⟨rfl, _, rfl, h⟩ dX7_lowestBit_17
  · have h := h.2 c5
    refine vr_bipush (-2) dX7_lowestBit_24 (by decide) ?_
    exact vr_iret rfl ⟨rfl, _, rfl, h⟩ dX7_lowestBit_26
def F_X7_lowestBit (x0 : Int32) (P : VP) (post : Int32 → Prop) : Prop :=
  vL1 (F_X7_lowestBit_l2 x0 P post  ) ((0 : Int32))
set_option maxRecDepth 4000 in
theorem s_X7_lowestBit {l : Launch} {g : vG} {x0 : Int32} {P Q : VP} {post : Int32 → Prop}  (h : F_X7_lowestBit x0 P post) : VC l g yX7_lowestBit cX7_lowestBit 2 (some .int) 0 [vI x0] (vjn P Q) (vpI (vjn P Q) post) := by
  refine VC.of (by decide +kernel) (Nat.le_of_ble_eq_true rfl) (show VM l g RX7 cX7_lowestBit 2 (some .int) 0 (vpI (vjn P Q) post) 0 [(0, vI x0)] [] (vjn P Q) from ?_)
  unfold F_X7_lowestBit at h
  refine vr_iconst 0 dX7_lowestBit_0 (by decide) ?_
  refine vr_istore_n 1 [(1, vI 0), (0, vI x0)] dX7_lowestBit_1 rfl (by decide) rfl ?_
  refine vr_sub [1, 0] [(0, vI x0), (1, vI 0)] rfl ?_
  exact s_X7_lowestBit_l2   h
