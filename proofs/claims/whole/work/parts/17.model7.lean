/-! X8_in, X8_copies, X8_isDirectory, X8_isThere, X8_isSegment, X8_cellOf, X8_records, X8_used, X8_isWithin, X8_directory, X8_named, X8_hasRoom, X8_writes, X8_segment, X8_drop, X8_resize, X8_rename -/
theorem dX8_in_0 : decode cX8_in 0 = .ok (.lload_n 0, 1) := by decide +kernel
theorem dX8_in_1 : decode cX8_in 1 = .ok (.lload_n 2, 1) := by decide +kernel
theorem dX8_in_2 : decode cX8_in 2 = .ok (.lcmp, 1) := by decide +kernel
theorem dX8_in_3 : decode cX8_in 3 = .ok (.ifCond .lt 14, 3) := by decide +kernel
theorem dX8_in_6 : decode cX8_in 6 = .ok (.lload_n 0, 1) := by decide +kernel
theorem dX8_in_7 : decode cX8_in 7 = .ok (.lload 4, 2) := by decide +kernel
theorem dX8_in_9 : decode cX8_in 9 = .ok (.lcmp, 1) := by decide +kernel
theorem dX8_in_10 : decode cX8_in 10 = .ok (.ifCond .gt 7, 3) := by decide +kernel
theorem dX8_in_13 : decode cX8_in 13 = .ok (.iconst 1, 1) := by decide +kernel
theorem dX8_in_14 : decode cX8_in 14 = .ok (.goto 4, 3) := by decide +kernel
theorem dX8_in_17 : decode cX8_in 17 = .ok (.iconst 0, 1) := by decide +kernel
theorem dX8_in_18 : decode cX8_in 18 = .ok (.ireturn, 1) := by decide +kernel
def F_X8_in (z0 : Int64) (z2 : Int64) (z4 : Int64) (Q : VP) (post : Int32 → Prop) : Prop :=
  (lg_cmp z0 z2 < 0 → post ((0 : Int32))) ∧ (¬ lg_cmp z0 z2 < 0 → (0 < lg_cmp z0 z4 → post ((0 : Int32))) ∧ (¬ 0 < lg_cmp z0 z4 → post ((1 : Int32))))
set_option maxRecDepth 4000 in
theorem s_X8_in {l : Launch} {g : vG} {z0 : Int64} {z2 : Int64} {z4 : Int64} {P Q : VP} {post : Int32 → Prop}  (h : F_X8_in z0 z2 z4 Q post) : VC l g yX8_in cX8_in 6 (some .boolean) 0 [vL z0, vL z2, vL z4] (vjn P Q) (vpI (vjn P Q) post) := by
  refine VC.of (by decide +kernel) (Nat.le_of_ble_eq_true rfl) (show VM l g RX8 cX8_in 6 (some .boolean) 0 (vpI (vjn P Q) post) 0 [(0, vL z0), (2, vL z2), (4, vL z4)] [] (vjn P Q) from ?_)
  unfold F_X8_in at h
  refine vr_lload_n 0 0 dX8_in_0 rfl rfl ?_
  refine vr_lload_n 2 1 dX8_in_1 rfl rfl ?_
  refine vr_lcmp dX8_in_2 ?_
  refine vr_iflt 17 dX8_in_3 (by decide) (fun c3 => ?_) (fun c3 => ?_)
  · have h := h.1 c3
    refine vr_iconst 0 dX8_in_17 (by decide) ?_
    exact vr_zret rfl (Or.inl rfl) ⟨rfl, _, rfl, h⟩ dX8_in_18
  · have h := h.2 c3
    refine vr_lload_n 0 0 dX8_in_6 rfl rfl ?_
    refine vr_lload 2 dX8_in_7 rfl ?_
    refine vr_lcmp dX8_in_9 ?_
    refine vr_ifgt 17 dX8_in_10 (by decide) (fun c10 => ?_) (fun c10 => ?_)
    · have h := h.1 c10
      refine vr_iconst 0 dX8_in_17 (by decide) ?_
      exact vr_zret rfl (Or.inl rfl) ⟨rfl, _, rfl, h⟩ dX8_in_18
    · have h := h.2 c10
      refine vr_iconst 1 dX8_in_13 (by decide) ?_
      refine vr_goto 18 dX8_in_14 (by decide) ?_
      exact vr_zret rfl (Or.inr rfl) ⟨rfl, _, rfl, h⟩ dX8_in_18
theorem dX8_copies_0 : decode cX8_copies 0 = .ok (.iconst 0, 1) := by decide +kernel
theorem dX8_copies_1 : decode cX8_copies 1 = .ok (.istore_n 2, 1) := by decide +kernel
theorem dX8_copies_2 : decode cX8_copies 2 = .ok (.iload_n 2, 1) := by decide +kernel
theorem dX8_copies_3 : decode cX8_copies 3 = .ok (.sipush 3464, 3) := by decide +kernel
theorem dX8_copies_6 : decode cX8_copies 6 = .ok (.if_icmp .ge 15, 3) := by decide +kernel
theorem dX8_copies_9 : decode cX8_copies 9 = .ok (.aload_n 1, 1) := by decide +kernel
theorem dX8_copies_10 : decode cX8_copies 10 = .ok (.iload_n 2, 1) := by decide +kernel
theorem dX8_copies_11 : decode cX8_copies 11 = .ok (.aload_n 0, 1) := by decide +kernel
theorem dX8_copies_12 : decode cX8_copies 12 = .ok (.iload_n 2, 1) := by decide +kernel
theorem dX8_copies_13 : decode cX8_copies 13 = .ok (.iaload, 1) := by decide +kernel
theorem dX8_copies_14 : decode cX8_copies 14 = .ok (.iastore, 1) := by decide +kernel
theorem dX8_copies_15 : decode cX8_copies 15 = .ok (.iinc 2 1, 3) := by decide +kernel
theorem dX8_copies_18 : decode cX8_copies 18 = .ok (.goto (-16), 3) := by decide +kernel
theorem dX8_copies_21 : decode cX8_copies 21 = .ok (.return_, 1) := by decide +kernel
def F_X8_copies_l2 (k0 : Nat) (k1 : Nat)  (post : VP → Prop)   (X : Int32 → VP → Prop) (v2 : Int32) (Q : VP) : Prop :=
  (v2 < 3464 → (0 ≤ v2 ∧ v2 < vlI k0) ∧ ((0 ≤ v2 ∧ v2 < vlI k1) ∧ (∀ Q14 : VP, Q14 = vup Q k1 0 (ix v2) (Q k0 0 (ix v2)) → (X (v2 + 1) Q14)))) ∧ (¬ v2 < 3464 → post Q)
set_option maxRecDepth 4000 in
theorem s_X8_copies_l2 {l : Launch} {g : vG} {k0 : Nat} {k1 : Nat} {P : VP} {post : VP → Prop}    {v2 : Int32} {Q : VP} (hk0 : vQA k0 0) (hk1 : vQA k1 0)  (h : vL2 (F_X8_copies_l2 k0 k1  post  ) v2 Q) : VM l g RX8 cX8_copies 3 none 0 (vmV P post) 2 [(0, vR k0 0), (1, vR k1 0), (2, vI v2)] [] (vjn P Q) := by
  refine vL2_s (T := fun v2 Q => VM l g RX8 cX8_copies 3 none 0 (vmV P post) 2 [(0, vR k0 0), (1, vR k1 0), (2, vI v2)] [] (vjn P Q)) ?_ h
  clear h
  intro X hX v2 Q h
  unfold F_X8_copies_l2 at h
  refine vr_iload_n 2 2 dX8_copies_2 rfl rfl ?_
  refine vr_sipush 3464 dX8_copies_3 (by decide) ?_
  refine vr_icmpge 21 dX8_copies_6 (by decide) (fun c6 => ?_) (fun c6 => ?_)
  · have h := h.1 c6
    refine vr_aload_n 1 1 dX8_copies_9 rfl rfl ?_
    refine vr_iload_n 2 2 dX8_copies_10 rfl rfl ?_
    refine vr_aload_n 0 0 dX8_copies_11 rfl rfl ?_
    refine vr_iload_n 2 2 dX8_copies_12 rfl rfl ?_
    have hi := h.1
    have h := h.2
    refine vr_ialdQ (vlI k0) hk0 rfl hi dX8_copies_13 ?_
    have hi := h.1
    have h := h.2
    obtain ⟨Q14, eQ14⟩ : ∃ y : VP, y = vup Q k1 0 (ix v2) (Q k0 0 (ix v2)) := ⟨_, rfl⟩
    have h := h Q14 eQ14
    refine vr_iastQ (vlI k1) hk1 rfl hi eQ14 dX8_copies_14 ?_
    refine vr_iinc (v2 + 1) 2 [(2, vI (v2 + 1)), (0, vR k0 0), (1, vR k1 0)] dX8_copies_15 rfl rfl (by decide) rfl ?_
    refine vr_goto 2 dX8_copies_18 (by decide) ?_
    refine vr_sub [1, 2, 0] [(0, vR k0 0), (1, vR k1 0), (2, vI (v2 + 1))] rfl ?_
    exact hX _ _ h
  · have h := h.2 c6
    exact vr_vret rfl ⟨_, rfl, rfl, h⟩ dX8_copies_21
def F_X8_copies (k0 : Nat) (k1 : Nat) (Q : VP) (post : VP → Prop) : Prop :=
  vL2 (F_X8_copies_l2 k0 k1  post  ) ((0 : Int32)) Q
set_option maxRecDepth 4000 in
theorem s_X8_copies {l : Launch} {g : vG} {k0 : Nat} {k1 : Nat} {P Q : VP} {post : VP → Prop} (hk0 : vQA k0 0) (hk1 : vQA k1 0) (h : F_X8_copies k0 k1 Q post) : VC l g yX8_copies cX8_copies 3 none 0 [vR k0 0, vR k1 0] (vjn P Q) (vmV P post) := by
  refine VC.of (by decide +kernel) (Nat.le_of_ble_eq_true rfl) (show VM l g RX8 cX8_copies 3 none 0 (vmV P post) 0 [(0, vR k0 0), (1, vR k1 0)] [] (vjn P Q) from ?_)
  unfold F_X8_copies at h
  refine vr_iconst 0 dX8_copies_0 (by decide) ?_
  refine vr_istore_n 2 [(2, vI 0), (0, vR k0 0), (1, vR k1 0)] dX8_copies_1 rfl (by decide) rfl ?_
  refine vr_sub [1, 2, 0] [(0, vR k0 0), (1, vR k1 0), (2, vI 0)] rfl ?_
  exact s_X8_copies_l2 hk0 hk1  h
theorem dX8_isDirectory_0 : decode cX8_isDirectory 0 = .ok (.iload_n 1, 1) := by decide +kernel
theorem dX8_isDirectory_1 : decode cX8_isDirectory 1 = .ok (.i2l, 1) := by decide +kernel
theorem dX8_isDirectory_2 : decode cX8_isDirectory 2 = .ok (.lconst 0, 1) := by decide +kernel
theorem dX8_isDirectory_3 : decode cX8_isDirectory 3 = .ok (.aload_n 0, 1) := by decide +kernel
theorem dX8_isDirectory_4 : decode cX8_isDirectory 4 = .ok (.getfield 9, 3) := by decide +kernel
theorem dX8_isDirectory_7 : decode cX8_isDirectory 7 = .ok (.iconst 0, 1) := by decide +kernel
theorem dX8_isDirectory_8 : decode cX8_isDirectory 8 = .ok (.iaload, 1) := by decide +kernel
theorem dX8_isDirectory_9 : decode cX8_isDirectory 9 = .ok (.iconst 1, 1) := by decide +kernel
theorem dX8_isDirectory_10 : decode cX8_isDirectory 10 = .ok (.isub, 1) := by decide +kernel
theorem dX8_isDirectory_11 : decode cX8_isDirectory 11 = .ok (.i2l, 1) := by decide +kernel
theorem dX8_isDirectory_12 : decode cX8_isDirectory 12 = .ok (.invokestatic 54, 3) := by decide +kernel
theorem dX8_isDirectory_15 : decode cX8_isDirectory 15 = .ok (.ireturn, 1) := by decide +kernel
def F_X8_isDirectory (x1 : Int32) (Q : VP) (post : Int32 → Prop) : Prop :=
  (0 ≤ (0 : Int32) ∧ (0 : Int32) < 3464) ∧ (F_X8_in (Int32.toInt64 x1) 0 (Int32.toInt64 ((Q 23 0 (ix ((0 : Int32)))) - 1)) Q (fun r12 => (r12 = 0 ∨ r12 = 1) ∧ (post r12)))
set_option maxRecDepth 4000 in
theorem s_X8_isDirectory {l : Launch} {g : vG} {x1 : Int32} {P Q : VP} {post : Int32 → Prop}  (h : F_X8_isDirectory x1 Q post) : VC l g yX8_isDirectory cX8_isDirectory 2 (some .boolean) 1 [vR 22 0, vI x1] (vjn P Q) (vpI (vjn P Q) post) := by
  refine VC.of (by decide +kernel) (Nat.le_of_ble_eq_true rfl) (show VM l g RX8 cX8_isDirectory 2 (some .boolean) 1 (vpI (vjn P Q) post) 0 [(0, vR 22 0), (1, vI x1)] [] (vjn P Q) from ?_)
  unfold F_X8_isDirectory at h
  refine vr_iload_n 1 1 dX8_isDirectory_0 rfl rfl ?_
  refine vr_i2l dX8_isDirectory_1 ?_
  refine vr_lconst 0 dX8_isDirectory_2 (by decide) ?_
  refine vr_aload_n 0 0 dX8_isDirectory_3 rfl rfl ?_
  refine vg_22_0 RX8 rfl (by decide) fl_8_9 dX8_isDirectory_4 ?_
  refine vr_iconst 0 dX8_isDirectory_7 (by decide) ?_
  have hi := h.1
  have h := h.2
  refine vr_ialdQ 3464 ia_23 rfl hi dX8_isDirectory_8 ?_
  refine vr_iconst 1 dX8_isDirectory_9 (by decide) ?_
  refine vr_isub dX8_isDirectory_10 ?_
  refine vr_i2l dX8_isDirectory_11 ?_
  refine vr_callS RX8 (s_X8_in h) rfl rfl ml_8_54 rfl yh_X8_in rfl ⟨Nat.le_of_ble_eq_true rfl, Nat.le_of_ble_eq_true rfl⟩ (Nat.le_of_ble_eq_true rfl) ⟨Nat.zero_le _, Nat.zero_le _⟩ dX8_isDirectory_12 (ki fun r12 h => ?_)
  have hb := h.1
  have h := h.2
  exact vr_zret rfl hb ⟨rfl, _, rfl, h⟩ dX8_isDirectory_15
theorem dX8_isThere_0 : decode cX8_isThere 0 = .ok (.iload_n 1, 1) := by decide +kernel
theorem dX8_isThere_1 : decode cX8_isThere 1 = .ok (.i2l, 1) := by decide +kernel
theorem dX8_isThere_2 : decode cX8_isThere 2 = .ok (.lconst 0, 1) := by decide +kernel
theorem dX8_isThere_3 : decode cX8_isThere 3 = .ok (.ldc2_w 58, 3) := by decide +kernel
theorem dX8_isThere_6 : decode cX8_isThere 6 = .ok (.invokestatic 54, 3) := by decide +kernel
theorem dX8_isThere_9 : decode cX8_isThere 9 = .ok (.ifCond .eq 17, 3) := by decide +kernel
theorem dX8_isThere_12 : decode cX8_isThere 12 = .ok (.aload_n 0, 1) := by decide +kernel
theorem dX8_isThere_13 : decode cX8_isThere 13 = .ok (.bipush 32, 2) := by decide +kernel
theorem dX8_isThere_15 : decode cX8_isThere 15 = .ok (.iload_n 1, 1) := by decide +kernel
theorem dX8_isThere_16 : decode cX8_isThere 16 = .ok (.iadd, 1) := by decide +kernel
theorem dX8_isThere_17 : decode cX8_isThere 17 = .ok (.iaload, 1) := by decide +kernel
theorem dX8_isThere_18 : decode cX8_isThere 18 = .ok (.iconst 1, 1) := by decide +kernel
theorem dX8_isThere_19 : decode cX8_isThere 19 = .ok (.if_icmp .ne 7, 3) := by decide +kernel
theorem dX8_isThere_22 : decode cX8_isThere 22 = .ok (.iconst 1, 1) := by decide +kernel
theorem dX8_isThere_23 : decode cX8_isThere 23 = .ok (.goto 4, 3) := by decide +kernel
theorem dX8_isThere_26 : decode cX8_isThere 26 = .ok (.iconst 0, 1) := by decide +kernel
theorem dX8_isThere_27 : decode cX8_isThere 27 = .ok (.ireturn, 1) := by decide +kernel
def F_X8_isThere (k0 : Nat) (x1 : Int32) (Q : VP) (post : Int32 → Prop) : Prop :=
  F_X8_in (Int32.toInt64 x1) 0 15 Q (fun r6 => (r6 = 0 → post ((0 : Int32))) ∧ (¬ r6 = 0 → (0 ≤ 32 + x1 ∧ 32 + x1 < vlI k0) ∧ ((Q k0 0 (ix (32 + x1)) = 1 → post ((1 : Int32))) ∧ (¬ Q k0 0 (ix (32 + x1)) = 1 → post ((0 : Int32))))))
set_option maxRecDepth 4000 in
theorem s_X8_isThere {l : Launch} {g : vG} {k0 : Nat} {x1 : Int32} {P Q : VP} {post : Int32 → Prop} (hk0 : vQA k0 0) (h : F_X8_isThere k0 x1 Q post) : VC l g yX8_isThere cX8_isThere 2 (some .boolean) 1 [vR k0 0, vI x1] (vjn P Q) (vpI (vjn P Q) post) := by
  refine VC.of (by decide +kernel) (Nat.le_of_ble_eq_true rfl) (show VM l g RX8 cX8_isThere 2 (some .boolean) 1 (vpI (vjn P Q) post) 0 [(0, vR k0 0), (1, vI x1)] [] (vjn P Q) from ?_)
  unfold F_X8_isThere at h
  refine vr_iload_n 1 1 dX8_isThere_0 rfl rfl ?_
  refine vr_i2l dX8_isThere_1 ?_
  refine vr_lconst 0 dX8_isThere_2 (by decide) ?_
  refine vr_ldc2 15 ct_8_58 dX8_isThere_3 ?_
  refine vr_callS RX8 (s_X8_in h) rfl rfl ml_8_54 rfl yh_X8_in rfl ⟨Nat.le_of_ble_eq_true rfl, Nat.le_of_ble_eq_true rfl⟩ (Nat.le_of_ble_eq_true rfl) ⟨Nat.zero_le _, Nat.zero_le _⟩ dX8_isThere_6 (ki fun r6 h => ?_)
  refine vr_ifeq 26 dX8_isThere_9 (by decide) (fun c9 => ?_) (fun c9 => ?_)
  · have h := h.1 c9
    refine vr_iconst 0 dX8_isThere_26 (by decide) ?_
    exact vr_zret rfl (Or.inl rfl) ⟨rfl, _, rfl, h⟩ dX8_isThere_27
  · have h := h.2 c9
    refine vr_aload_n 0 0 dX8_isThere_12 rfl rfl ?_
    refine vr_bipush 32 dX8_isThere_13 (by decide) ?_
    refine vr_iload_n 1 1 dX8_isThere_15 rfl rfl ?_
    refine vr_iadd dX8_isThere_16 ?_
    have hi := h.1
    have h := h.2
    refine vr_ialdQ (vlI k0) hk0 rfl hi dX8_isThere_17 ?_
    refine vr_iconst 1 dX8_isThere_18 (by decide) ?_
    refine vr_icmpne 26 dX8_isThere_19 (by decide) (fun c19 => ?_) (fun c19 => ?_)
    · have h := h.1 c19
      refine vr_iconst 1 dX8_isThere_22 (by decide) ?_
      refine vr_goto 27 dX8_isThere_23 (by decide) ?_
      exact vr_zret rfl (Or.inr rfl) ⟨rfl, _, rfl, h⟩ dX8_isThere_27
    · have h := h.2 c19
      refine vr_iconst 0 dX8_isThere_26 (by decide) ?_
      exact vr_zret rfl (Or.inl rfl) ⟨rfl, _, rfl, h⟩ dX8_isThere_27
theorem dX8_isSegment_0 : decode cX8_isSegment 0 = .ok (.aload_n 0, 1) := by decide +kernel
theorem dX8_isSegment_1 : decode cX8_isSegment 1 = .ok (.getfield 9, 3) := by decide +kernel
theorem dX8_isSegment_4 : decode cX8_isSegment 4 = .ok (.iload_n 1, 1) := by decide +kernel
theorem dX8_isSegment_5 : decode cX8_isSegment 5 = .ok (.invokestatic 60, 3) := by decide +kernel
theorem dX8_isSegment_8 : decode cX8_isSegment 8 = .ok (.ireturn, 1) := by decide +kernel
def F_X8_isSegment (x1 : Int32) (Q : VP) (post : Int32 → Prop) : Prop :=
  F_X8_isThere 23 x1 Q (fun r5 => (r5 = 0 ∨ r5 = 1) ∧ (post r5))
set_option maxRecDepth 4000 in
theorem s_X8_isSegment {l : Launch} {g : vG} {x1 : Int32} {P Q : VP} {post : Int32 → Prop}  (h : F_X8_isSegment x1 Q post) : VC l g yX8_isSegment cX8_isSegment 2 (some .boolean) 2 [vR 22 0, vI x1] (vjn P Q) (vpI (vjn P Q) post) := by
  refine VC.of (by decide +kernel) (Nat.le_of_ble_eq_true rfl) (show VM l g RX8 cX8_isSegment 2 (some .boolean) 2 (vpI (vjn P Q) post) 0 [(0, vR 22 0), (1, vI x1)] [] (vjn P Q) from ?_)
  unfold F_X8_isSegment at h
  refine vr_aload_n 0 0 dX8_isSegment_0 rfl rfl ?_
  refine vg_22_0 RX8 rfl (by decide) fl_8_9 dX8_isSegment_1 ?_
  refine vr_iload_n 1 1 dX8_isSegment_4 rfl rfl ?_
  refine vr_callS RX8 (s_X8_isThere ia_23 h) rfl rfl ml_8_60 rfl yh_X8_isThere rfl ⟨Nat.le_of_ble_eq_true rfl, Nat.le_of_ble_eq_true rfl⟩ (Nat.le_of_ble_eq_true rfl) ⟨Nat.zero_le _, Nat.zero_le _⟩ dX8_isSegment_5 (ki fun r5 h => ?_)
  have hb := h.1
  have h := h.2
  exact vr_zret rfl hb ⟨rfl, _, rfl, h⟩ dX8_isSegment_8
theorem dX8_cellOf_0 : decode cX8_cellOf 0 = .ok (.iload_n 1, 1) := by decide +kernel
theorem dX8_cellOf_1 : decode cX8_cellOf 1 = .ok (.istore_n 2, 1) := by decide +kernel
theorem dX8_cellOf_2 : decode cX8_cellOf 2 = .ok (.aload_n 0, 1) := by decide +kernel
theorem dX8_cellOf_3 : decode cX8_cellOf 3 = .ok (.bipush 24, 2) := by decide +kernel
theorem dX8_cellOf_5 : decode cX8_cellOf 5 = .ok (.iload_n 2, 1) := by decide +kernel
theorem dX8_cellOf_6 : decode cX8_cellOf 6 = .ok (.iadd, 1) := by decide +kernel
theorem dX8_cellOf_7 : decode cX8_cellOf 7 = .ok (.iaload, 1) := by decide +kernel
theorem dX8_cellOf_8 : decode cX8_cellOf 8 = .ok (.ifCond .ne 13, 3) := by decide +kernel
theorem dX8_cellOf_11 : decode cX8_cellOf 11 = .ok (.aload_n 0, 1) := by decide +kernel
theorem dX8_cellOf_12 : decode cX8_cellOf 12 = .ok (.bipush 16, 2) := by decide +kernel
theorem dX8_cellOf_14 : decode cX8_cellOf 14 = .ok (.iload_n 2, 1) := by decide +kernel
theorem dX8_cellOf_15 : decode cX8_cellOf 15 = .ok (.iadd, 1) := by decide +kernel
theorem dX8_cellOf_16 : decode cX8_cellOf 16 = .ok (.iaload, 1) := by decide +kernel
theorem dX8_cellOf_17 : decode cX8_cellOf 17 = .ok (.istore_n 2, 1) := by decide +kernel
theorem dX8_cellOf_18 : decode cX8_cellOf 18 = .ok (.goto (-16), 3) := by decide +kernel
theorem dX8_cellOf_21 : decode cX8_cellOf 21 = .ok (.iload_n 2, 1) := by decide +kernel
theorem dX8_cellOf_22 : decode cX8_cellOf 22 = .ok (.ireturn, 1) := by decide +kernel
def F_X8_cellOf_l2 (k0 : Nat) (x1 : Int32) (Q : VP) (post : Int32 → Prop)   (X : Int32 → Prop) (v2 : Int32) : Prop :=
  (0 ≤ 24 + v2 ∧ 24 + v2 < vlI k0) ∧ ((Q k0 0 (ix (24 + v2)) = 0 → (0 ≤ 16 + v2 ∧ 16 + v2 < vlI k0) ∧ (X (Q k0 0 (ix (16 + v2))))) ∧ (¬ Q k0 0 (ix (24 + v2)) = 0 → post v2))
set_option maxRecDepth 4000 in
theorem s_X8_cellOf_l2 {l : Launch} {g : vG} {k0 : Nat} {x1 : Int32} {P Q : VP} {post : Int32 → Prop}    {v2 : Int32} (hk0 : vQA k0 0)  (h : vL1 (F_X8_cellOf_l2 k0 x1 Q post  ) v2) : VM l g RX8 cX8_cellOf 3 (some .int) 0 (vpI (vjn P Q) post) 2 [(0, vR k0 0), (2, vI v2)] [] (vjn P Q) := by
  refine vL1_s (T := fun v2 => VM l g RX8 cX8_cellOf 3 (some .int) 0 (vpI (vjn P Q) post) 2 [(0, vR k0 0), (2, vI v2)] [] (vjn P Q)) ?_ h
  clear h
  intro X hX v2 h
  unfold F_X8_cellOf_l2 at h
  refine vr_aload_n 0 0 dX8_cellOf_2 rfl rfl ?_
  refine vr_bipush 24 dX8_cellOf_3 (by decide) ?_
  refine vr_iload_n 2 1 dX8_cellOf_5 rfl rfl ?_
  refine vr_iadd dX8_cellOf_6 ?_
  have hi := h.1
  have h := h.2
  refine vr_ialdQ (vlI k0) hk0 rfl hi dX8_cellOf_7 ?_
  refine vr_ifne 21 dX8_cellOf_8 (by decide) (fun c8 => ?_) (fun c8 => ?_)
  · have h := h.1 c8
    refine vr_aload_n 0 0 dX8_cellOf_11 rfl rfl ?_
    refine vr_bipush 16 dX8_cellOf_12 (by decide) ?_
    refine vr_iload_n 2 1 dX8_cellOf_14 rfl rfl ?_
    refine vr_iadd dX8_cellOf_15 ?_
    have hi := h.1
    have h := h.2
    refine vr_ialdQ (vlI k0) hk0 rfl hi dX8_cellOf_16 ?_
    refine vr_istore_n 2 [(2, vI (Q k0 0 (ix (16 + v2)))), (0, vR k0 0)] dX8_cellOf_17 rfl (by decide) rfl ?_
    refine vr_goto 2 dX8_cellOf_18 (by decide) ?_
    refine vr_sub [1, 0] [(0, vR k0 0), (2, vI (Q k0 0 (ix (16 + v2))))] rfl ?_
    exact hX _ h
  · have h := h.2 c8
    refine vr_iload_n 2 1 dX8_cellOf_21 rfl rfl ?_
    exact vr_iret rfl ⟨rfl, _, rfl, h⟩ dX8_cellOf_22
def F_X8_cellOf (k0 : Nat) (x1 : Int32) (Q : VP) (post : Int32 → Prop) : Prop :=
  vL1 (F_X8_cellOf_l2 k0 x1 Q post  ) x1
set_option maxRecDepth 4000 in
theorem s_X8_cellOf {l : Launch} {g : vG} {k0 : Nat} {x1 : Int32} {P Q : VP} {post : Int32 → Prop} (hk0 : vQA k0 0) (h : F_X8_cellOf k0 x1 Q post) : VC l g yX8_cellOf cX8_cellOf 3 (some .int) 0 [vR k0 0, vI x1] (vjn P Q) (vpI (vjn P Q) post) := by
  refine VC.of (by decide +kernel) (Nat.le_of_ble_eq_true rfl) (show VM l g RX8 cX8_cellOf 3 (some .int) 0 (vpI (vjn P Q) post) 0 [(0, vR k0 0), (1, vI x1)] [] (vjn P Q) from ?_)
  unfold F_X8_cellOf at h
  refine vr_iload_n 1 1 dX8_cellOf_0 rfl rfl ?_
  refine vr_istore_n 2 [(2, vI x1), (0, vR k0 0), (1, vI x1)] dX8_cellOf_1 rfl (by decide) rfl ?_
  refine vr_sub [1, 0] [(0, vR k0 0), (2, vI x1)] rfl ?_
  exact s_X8_cellOf_l2 hk0  h
theorem dX8_records_0 : decode cX8_records 0 = .ok (.iload_n 0, 1) := by decide +kernel
theorem dX8_records_1 : decode cX8_records 1 = .ok (.bipush 7, 2) := by decide +kernel
theorem dX8_records_3 : decode cX8_records 3 = .ok (.iadd, 1) := by decide +kernel
theorem dX8_records_4 : decode cX8_records 4 = .ok (.bipush 8, 2) := by decide +kernel
theorem dX8_records_6 : decode cX8_records 6 = .ok (.idiv, 1) := by decide +kernel
theorem dX8_records_7 : decode cX8_records 7 = .ok (.ireturn, 1) := by decide +kernel
def F_X8_records (x0 : Int32) (Q : VP) (post : Int32 → Prop) : Prop :=
  post ((x0 + 7) / 8)
set_option maxRecDepth 4000 in
theorem s_X8_records {l : Launch} {g : vG} {x0 : Int32} {P Q : VP} {post : Int32 → Prop}  (h : F_X8_records x0 Q post) : VC l g yX8_records cX8_records 1 (some .int) 0 [vI x0] (vjn P Q) (vpI (vjn P Q) post) := by
  refine VC.of (by decide +kernel) (Nat.le_of_ble_eq_true rfl) (show VM l g RX8 cX8_records 1 (some .int) 0 (vpI (vjn P Q) post) 0 [(0, vI x0)] [] (vjn P Q) from ?_)
  unfold F_X8_records at h
  refine vr_iload_n 0 0 dX8_records_0 rfl rfl ?_
  refine vr_bipush 7 dX8_records_1 (by decide) ?_
  refine vr_iadd dX8_records_3 ?_
  refine vr_bipush 8 dX8_records_4 (by decide) ?_
  refine vr_idiv dX8_records_6 (by decide) ?_
  exact vr_iret rfl ⟨rfl, _, rfl, h⟩ dX8_records_7
theorem dX8_used_0 : decode cX8_used 0 = .ok (.iconst 0, 1) := by decide +kernel
theorem dX8_used_1 : decode cX8_used 1 = .ok (.istore_n 2, 1) := by decide +kernel
theorem dX8_used_2 : decode cX8_used 2 = .ok (.iconst 0, 1) := by decide +kernel
theorem dX8_used_3 : decode cX8_used 3 = .ok (.istore_n 3, 1) := by decide +kernel
theorem dX8_used_4 : decode cX8_used 4 = .ok (.iload_n 3, 1) := by decide +kernel
theorem dX8_used_5 : decode cX8_used 5 = .ok (.bipush 16, 2) := by decide +kernel
theorem dX8_used_7 : decode cX8_used 7 = .ok (.if_icmp .ge 49, 3) := by decide +kernel
theorem dX8_used_10 : decode cX8_used 10 = .ok (.iload_n 2, 1) := by decide +kernel
theorem dX8_used_11 : decode cX8_used 11 = .ok (.aload_n 0, 1) := by decide +kernel
theorem dX8_used_12 : decode cX8_used 12 = .ok (.bipush 32, 2) := by decide +kernel
theorem dX8_used_14 : decode cX8_used 14 = .ok (.iload_n 3, 1) := by decide +kernel
theorem dX8_used_15 : decode cX8_used 15 = .ok (.iadd, 1) := by decide +kernel
theorem dX8_used_16 : decode cX8_used 16 = .ok (.iaload, 1) := by decide +kernel
theorem dX8_used_17 : decode cX8_used 17 = .ok (.iconst 1, 1) := by decide +kernel
theorem dX8_used_18 : decode cX8_used 18 = .ok (.if_icmp .ne 29, 3) := by decide +kernel
theorem dX8_used_21 : decode cX8_used 21 = .ok (.aload_n 0, 1) := by decide +kernel
theorem dX8_used_22 : decode cX8_used 22 = .ok (.aload_n 0, 1) := by decide +kernel
theorem dX8_used_23 : decode cX8_used 23 = .ok (.bipush 48, 2) := by decide +kernel
theorem dX8_used_25 : decode cX8_used 25 = .ok (.iload_n 3, 1) := by decide +kernel
theorem dX8_used_26 : decode cX8_used 26 = .ok (.iadd, 1) := by decide +kernel
theorem dX8_used_27 : decode cX8_used 27 = .ok (.iaload, 1) := by decide +kernel
theorem dX8_used_28 : decode cX8_used 28 = .ok (.invokestatic 64, 3) := by decide +kernel
theorem dX8_used_31 : decode cX8_used 31 = .ok (.iload_n 1, 1) := by decide +kernel
theorem dX8_used_32 : decode cX8_used 32 = .ok (.if_icmp .ne 15, 3) := by decide +kernel
theorem dX8_used_35 : decode cX8_used 35 = .ok (.aload_n 0, 1) := by decide +kernel
theorem dX8_used_36 : decode cX8_used 36 = .ok (.bipush 96, 2) := by decide +kernel
theorem dX8_used_38 : decode cX8_used 38 = .ok (.iload_n 3, 1) := by decide +kernel
theorem dX8_used_39 : decode cX8_used 39 = .ok (.iadd, 1) := by decide +kernel
theorem dX8_used_40 : decode cX8_used 40 = .ok (.iaload, 1) := by decide +kernel
theorem dX8_used_41 : decode cX8_used 41 = .ok (.invokestatic 68, 3) := by decide +kernel
theorem dX8_used_44 : decode cX8_used 44 = .ok (.goto 4, 3) := by decide +kernel
theorem dX8_used_47 : decode cX8_used 47 = .ok (.iconst 0, 1) := by decide +kernel
theorem dX8_used_48 : decode cX8_used 48 = .ok (.iadd, 1) := by decide +kernel
theorem dX8_used_49 : decode cX8_used 49 = .ok (.istore_n 2, 1) := by decide +kernel
theorem dX8_used_50 : decode cX8_used 50 = .ok (.iinc 3 1, 3) := by decide +kernel
theorem dX8_used_53 : decode cX8_used 53 = .ok (.goto (-49), 3) := by decide +kernel
theorem dX8_used_56 : decode cX8_used 56 = .ok (.iload_n 2, 1) := by decide +kernel
theorem dX8_used_57 : decode cX8_used 57 = .ok (.ireturn, 1) := by decide +kernel
def F_X8_used_l4 (k0 : Nat) (x1 : Int32) (Q : VP) (post : Int32 → Prop)   (X : Int32 → Int32 → Prop) (v2 : Int32) (v3 : Int32) : Prop :=
  (v3 < 16 → (0 ≤ 32 + v3 ∧ 32 + v3 < vlI k0) ∧ ((Q k0 0 (ix (32 + v3)) = 1 → (0 ≤ 48 + v3 ∧ 48 + v3 < vlI k0) ∧ (F_X8_cellOf k0 (Q k0 0 (ix (48 + v3))) Q (fun r28 => (r28 = x1 → (0 ≤ 96 + v3 ∧ 96 + v3 < vlI k0) ∧ (F_X8_records (Q k0 0 (ix (96 + v3))) Q (fun r41 => X (v2 + r41) (v3 + 1)))) ∧ (¬ r28 = x1 → X (v2 + 0) (v3 + 1))))) ∧ (¬ Q k0 0 (ix (32 + v3)) = 1 → X (v2 + 0) (v3 + 1)))) ∧ (¬ v3 < 16 → post v2)
set_option maxRecDepth 4000 in
theorem s_X8_used_l4 {l : Launch} {g : vG} {k0 : Nat} {x1 : Int32} {P Q : VP} {post : Int32 → Prop}    {v2 : Int32} {v3 : Int32} (hk0 : vQA k0 0)  (h : vL2 (F_X8_used_l4 k0 x1 Q post  ) v2 v3) : VM l g RX8 cX8_used 4 (some .int) 1 (vpI (vjn P Q) post) 4 [(0, vR k0 0), (1, vI x1), (2, vI v2), (3, vI v3)] [] (vjn P Q) := by
  refine vL2_s (T := fun v2 v3 => VM l g RX8 cX8_used 4 (some .int) 1 (vpI (vjn P Q) post) 4 [(0, vR k0 0), (1, vI x1), (2, vI v2), (3, vI v3)] [] (vjn P Q)) ?_ h
  clear h
  intro X hX v2 v3 h
  unfold F_X8_used_l4 at h
  refine vr_iload_n 3 3 dX8_used_4 rfl rfl ?_
  refine vr_bipush 16 dX8_used_5 (by decide) ?_
  refine vr_icmpge 56 dX8_used_7 (by decide) (fun c7 => ?_) (fun c7 => ?_)
  · have h := h.1 c7
    refine vr_iload_n 2 2 dX8_used_10 rfl rfl ?_
    refine vr_aload_n 0 0 dX8_used_11 rfl rfl ?_
    refine vr_bipush 32 dX8_used_12 (by decide) ?_
    refine vr_iload_n 3 3 dX8_used_14 rfl rfl ?_
    refine vr_iadd dX8_used_15 ?_
    have hi := h.1
    have h := h.2
    refine vr_ialdQ (vlI k0) hk0 rfl hi dX8_used_16 ?_
    refine vr_iconst 1 dX8_used_17 (by decide) ?_
    refine vr_icmpne 47 dX8_used_18 (by decide) (fun c18 => ?_) (fun c18 => ?_)
    · have h := h.1 c18
      refine vr_aload_n 0 0 dX8_used_21 rfl rfl ?_
      refine vr_aload_n 0 0 dX8_used_22 rfl rfl ?_
      refine vr_bipush 48 dX8_used_23 (by decide) ?_
      refine vr_iload_n 3 3 dX8_used_25 rfl rfl ?_
      refine vr_iadd dX8_used_26 ?_
      have hi := h.1
      have h := h.2
      refine vr_ialdQ (vlI k0) hk0 rfl hi dX8_used_27 ?_
      refine vr_callS RX8 (s_X8_cellOf hk0 h) rfl rfl ml_8_64 rfl yh_X8_cellOf rfl ⟨Nat.le_of_ble_eq_true rfl, Nat.le_of_ble_eq_true rfl⟩ (Nat.le_of_ble_eq_true rfl) ⟨Nat.zero_le _, Nat.zero_le _⟩ dX8_used_28 (ki fun r28 h => ?_)
      refine vr_iload_n 1 1 dX8_used_31 rfl rfl ?_
      refine vr_icmpne 47 dX8_used_32 (by decide) (fun c32 => ?_) (fun c32 => ?_)
      · have h := h.1 c32
        refine vr_aload_n 0 0 dX8_used_35 rfl rfl ?_
        refine vr_bipush 96 dX8_used_36 (by decide) ?_
        refine vr_iload_n 3 3 dX8_used_38 rfl rfl ?_
        refine vr_iadd dX8_used_39 ?_
        have hi := h.1
        have h := h.2
        refine vr_ialdQ (vlI k0) hk0 rfl hi dX8_used_40 ?_
        refine vr_callS RX8 (s_X8_records h) rfl rfl ml_8_68 rfl yh_X8_records rfl ⟨Nat.le_of_ble_eq_true rfl, Nat.le_of_ble_eq_true rfl⟩ (Nat.le_of_ble_eq_true rfl) ⟨Nat.zero_le _, Nat.zero_le _⟩ dX8_used_41 (ki fun r41 h => ?_)
        refine vr_goto 48 dX8_used_44 (by decide) ?_
        refine vr_iadd dX8_used_48 ?_
        refine vr_istore_n 2 [(2, vI (v2 + r41)), (0, vR k0 0), (1, vI x1), (3, vI v3)] dX8_used_49 rfl (by decide) rfl ?_
        refine vr_iinc (v3 + 1) 3 [(3, vI (v3 + 1)), (2, vI (v2 + r41)), (0, vR k0 0), (1, vI x1)] dX8_used_50 rfl rfl (by decide) rfl ?_
        refine vr_goto 4 dX8_used_53 (by decide) ?_
        refine vr_sub [2, 3, 1, 0] [(0, vR k0 0), (1, vI x1), (2, vI (v2 + r41)), (3, vI (v3 + 1))] rfl ?_
        exact hX _ _ h
      · have h := h.2 c32
        refine vr_iconst 0 dX8_used_47 (by decide) ?_
        refine vr_iadd dX8_used_48 ?_
        refine vr_istore_n 2 [(2, vI (v2 + 0)), (0, vR k0 0), (1, vI x1), (3, vI v3)] dX8_used_49 rfl (by decide) rfl ?_
        refine vr_iinc (v3 + 1) 3 [(3, vI (v3 + 1)), (2, vI (v2 + 0)), (0, vR k0 0), (1, vI x1)] dX8_used_50 rfl rfl (by decide) rfl ?_
        refine vr_goto 4 dX8_used_53 (by decide) ?_
        refine vr_sub [2, 3, 1, 0] [(0, vR k0 0), (1, vI x1), (2, vI (v2 + 0)), (3, vI (v3 + 1))] rfl ?_
        exact hX _ _ h
    · have h := h.2 c18
      refine vr_iconst 0 dX8_used_47 (by decide) ?_
      refine vr_iadd dX8_used_48 ?_
      refine vr_istore_n 2 [(2, vI (v2 + 0)), (0, vR k0 0), (1, vI x1), (3, vI v3)] dX8_used_49 rfl (by decide) rfl ?_
      refine vr_iinc (v3 + 1) 3 [(3, vI (v3 + 1)), (2, vI (v2 + 0)), (0, vR k0 0), (1, vI x1)] dX8_used_50 rfl rfl (by decide) rfl ?_
      refine vr_goto 4 dX8_used_53 (by decide) ?_
      refine vr_sub [2, 3, 1, 0] [(0, vR k0 0), (1, vI x1), (2, vI (v2 + 0)), (3, vI (v3 + 1))] rfl ?_
      exact hX _ _ h
  · have h := h.2 c7
    refine vr_iload_n 2 2 dX8_used_56 rfl rfl ?_
    exact vr_iret rfl ⟨rfl, _, rfl, h⟩ dX8_used_57
def F_X8_used (k0 : Nat) (x1 : Int32) (Q : VP) (post : Int32 → Prop) : Prop :=
  vL2 (F_X8_used_l4 k0 x1 Q post  ) ((0 : Int32)) ((0 : Int32))
set_option maxRecDepth 4000 in
theorem s_X8_used {l : Launch} {g : vG} {k0 : Nat} {x1 : Int32} {P Q : VP} {post : Int32 → Prop} (hk0 : vQA k0 0) (h : F_X8_used k0 x1 Q post) : VC l g yX8_used cX8_used 4 (some .int) 1 [vR k0 0, vI x1] (vjn P Q) (vpI (vjn P Q) post) := by
  refine VC.of (by decide +kernel) (Nat.le_of_ble_eq_true rfl) (show VM l g RX8 cX8_used 4 (some .int) 1 (vpI (vjn P Q) post) 0 [(0, vR k0 0), (1, vI x1)] [] (vjn P Q) from ?_)
  unfold F_X8_used at h
  refine vr_iconst 0 dX8_used_0 (by decide) ?_
  refine vr_istore_n 2 [(2, vI 0), (0, vR k0 0), (1, vI x1)] dX8_used_1 rfl (by decide) rfl ?_
  refine vr_iconst 0 dX8_used_2 (by decide) ?_
  refine vr_istore_n 3 [(3, vI 0), (2, vI 0), (0, vR k0 0), (1, vI x1)] dX8_used_3 rfl (by decide) rfl ?_
  refine vr_sub [2, 3, 1, 0] [(0, vR k0 0), (1, vI x1), (2, vI 0), (3, vI 0)] rfl ?_
  exact s_X8_used_l4 hk0  h
theorem dX8_isWithin_0 : decode cX8_isWithin 0 = .ok (.iconst 0, 1) := by decide +kernel
theorem dX8_isWithin_1 : decode cX8_isWithin 1 = .ok (.istore_n 1, 1) := by decide +kernel
theorem dX8_isWithin_2 : decode cX8_isWithin 2 = .ok (.iload_n 1, 1) := by decide +kernel
theorem dX8_isWithin_3 : decode cX8_isWithin 3 = .ok (.aload_n 0, 1) := by decide +kernel
theorem dX8_isWithin_4 : decode cX8_isWithin 4 = .ok (.iconst 0, 1) := by decide +kernel
theorem dX8_isWithin_5 : decode cX8_isWithin 5 = .ok (.iaload, 1) := by decide +kernel
theorem dX8_isWithin_6 : decode cX8_isWithin 6 = .ok (.if_icmp .ge 34, 3) := by decide +kernel
theorem dX8_isWithin_9 : decode cX8_isWithin 9 = .ok (.aload_n 0, 1) := by decide +kernel
theorem dX8_isWithin_10 : decode cX8_isWithin 10 = .ok (.bipush 24, 2) := by decide +kernel
theorem dX8_isWithin_12 : decode cX8_isWithin 12 = .ok (.iload_n 1, 1) := by decide +kernel
theorem dX8_isWithin_13 : decode cX8_isWithin 13 = .ok (.iadd, 1) := by decide +kernel
theorem dX8_isWithin_14 : decode cX8_isWithin 14 = .ok (.iaload, 1) := by decide +kernel
theorem dX8_isWithin_15 : decode cX8_isWithin 15 = .ok (.ifCond .le 19, 3) := by decide +kernel
theorem dX8_isWithin_18 : decode cX8_isWithin 18 = .ok (.aload_n 0, 1) := by decide +kernel
theorem dX8_isWithin_19 : decode cX8_isWithin 19 = .ok (.iload_n 1, 1) := by decide +kernel
theorem dX8_isWithin_20 : decode cX8_isWithin 20 = .ok (.invokestatic 72, 3) := by decide +kernel
theorem dX8_isWithin_23 : decode cX8_isWithin 23 = .ok (.aload_n 0, 1) := by decide +kernel
theorem dX8_isWithin_24 : decode cX8_isWithin 24 = .ok (.bipush 24, 2) := by decide +kernel
theorem dX8_isWithin_26 : decode cX8_isWithin 26 = .ok (.iload_n 1, 1) := by decide +kernel
theorem dX8_isWithin_27 : decode cX8_isWithin 27 = .ok (.iadd, 1) := by decide +kernel
theorem dX8_isWithin_28 : decode cX8_isWithin 28 = .ok (.iaload, 1) := by decide +kernel
theorem dX8_isWithin_29 : decode cX8_isWithin 29 = .ok (.if_icmp .le 5, 3) := by decide +kernel
theorem dX8_isWithin_32 : decode cX8_isWithin 32 = .ok (.iconst 0, 1) := by decide +kernel
theorem dX8_isWithin_33 : decode cX8_isWithin 33 = .ok (.ireturn, 1) := by decide +kernel
theorem dX8_isWithin_34 : decode cX8_isWithin 34 = .ok (.iinc 1 1, 3) := by decide +kernel
theorem dX8_isWithin_37 : decode cX8_isWithin 37 = .ok (.goto (-35), 3) := by decide +kernel
theorem dX8_isWithin_40 : decode cX8_isWithin 40 = .ok (.iconst 1, 1) := by decide +kernel
theorem dX8_isWithin_41 : decode cX8_isWithin 41 = .ok (.ireturn, 1) := by decide +kernel
def F_X8_isWithin_l2 (k0 : Nat) (Q : VP) (post : Int32 → Prop)   (X : Int32 → Prop) (v1 : Int32) : Prop :=
  (0 ≤ (0 : Int32) ∧ (0 : Int32) < vlI k0) ∧ ((v1 < Q k0 0 (ix ((0 : Int32))) → (0 ≤ 24 + v1 ∧ 24 + v1 < vlI k0) ∧ ((0 < Q k0 0 (ix (24 + v1)) → F_X8_used k0 v1 Q (fun r20 => (0 ≤ 24 + v1 ∧ 24 + v1 < vlI k0) ∧ ((Q k0 0 (ix (24 + v1)) < r20 → post ((0 : Int32))) ∧ (¬ Q k0 0 (ix (24 + v1)) < r20 → X (v1 + 1))))) ∧ (¬ 0 < Q k0 0 (ix (24 + v1)) → X (v1 + 1)))) ∧ (¬ v1 < Q k0 0 (ix ((0 : Int32))) → post ((1 : Int32))))
set_option maxRecDepth 4000 in
theorem s_X8_isWithin_l2 {l : Launch} {g : vG} {k0 : Nat} {P Q : VP} {post : Int32 → Prop}    {v1 : Int32} (hk0 : vQA k0 0)  (h : vL1 (F_X8_isWithin_l2 k0 Q post  ) v1) : VM l g RX8 cX8_isWithin 2 (some .boolean) 2 (vpI (vjn P Q) post) 2 [(0, vR k0 0), (1, vI v1)] [] (vjn P Q) := by
  refine vL1_s (T := fun v1 => VM l g RX8 cX8_isWithin 2 (some .boolean) 2 (vpI (vjn P Q) post) 2 [(0, vR k0 0), (1, vI v1)] [] (vjn P Q)) ?_ h
  clear h
  intro X hX v1 h
  unfold F_X8_isWithin_l2 at h
  refine vr_iload_n 1 1 dX8_isWithin_2 rfl rfl ?_
  refine vr_aload_n 0 0 dX8_isWithin_3 rfl rfl ?_
  refine vr_iconst 0 dX8_isWithin_4 (by decide) ?_
  have hi := h.1
  have h := h.2
  refine vr_ialdQ (vlI k0) hk0 rfl hi dX8_isWithin_5 ?_
  refine vr_icmpge 40 dX8_isWithin_6 (by decide) (fun c6 => ?_) (fun c6 => ?_)
  · have h := h.1 c6
    refine vr_aload_n 0 0 dX8_isWithin_9 rfl rfl ?_
    refine vr_bipush 24 dX8_isWithin_10 (by decide) ?_
    refine vr_iload_n 1 1 dX8_isWithin_12 rfl rfl ?_
    refine vr_iadd dX8_isWithin_13 ?_
    have hi := h.1
    have h := h.2
    refine vr_ialdQ (vlI k0) hk0 rfl hi dX8_isWithin_14 ?_
    refine vr_ifle 34 dX8_isWithin_15 (by decide) (fun c15 => ?_) (fun c15 => ?_)
    · have h := h.1 c15
      refine vr_aload_n 0 0 dX8_isWithin_18 rfl rfl ?_
      refine vr_iload_n 1 1 dX8_isWithin_19 rfl rfl ?_
      refine vr_callS RX8 (s_X8_used hk0 h) rfl rfl ml_8_72 rfl yh_X8_used rfl ⟨Nat.le_of_ble_eq_true rfl, Nat.le_of_ble_eq_true rfl⟩ (Nat.le_of_ble_eq_true rfl) ⟨Nat.zero_le _, Nat.zero_le _⟩ dX8_isWithin_20 (ki fun r20 h => ?_)
      refine vr_aload_n 0 0 dX8_isWithin_23 rfl rfl ?_
      refine vr_bipush 24 dX8_isWithin_24 (by decide) ?_
      refine vr_iload_n 1 1 dX8_isWithin_26 rfl rfl ?_
      refine vr_iadd dX8_isWithin_27 ?_
      have hi := h.1
      have h := h.2
      refine vr_ialdQ (vlI k0) hk0 rfl hi dX8_isWithin_28 ?_
      refine vr_icmple 34 dX8_isWithin_29 (by decide) (fun c29 => ?_) (fun c29 => ?_)
      · have h := h.1 c29
        refine vr_iconst 0 dX8_isWithin_32 (by decide) ?_
        exact vr_zret rfl (Or.inl rfl) ⟨rfl, _, rfl, h⟩ dX8_isWithin_33
      · have h := h.2 c29
        refine vr_iinc (v1 + 1) 1 [(1, vI (v1 + 1)), (0, vR k0 0)] dX8_isWithin_34 rfl rfl (by decide) rfl ?_
        refine vr_goto 2 dX8_isWithin_37 (by decide) ?_
        refine vr_sub [1, 0] [(0, vR k0 0), (1, vI (v1 + 1))] rfl ?_
        exact hX _ h
    · have h := h.2 c15
      refine vr_iinc (v1 + 1) 1 [(1, vI (v1 + 1)), (0, vR k0 0)] dX8_isWithin_34 rfl rfl (by decide) rfl ?_
      refine vr_goto 2 dX8_isWithin_37 (by decide) ?_
      refine vr_sub [1, 0] [(0, vR k0 0), (1, vI (v1 + 1))] rfl ?_
      exact hX _ h
  · have h := h.2 c6
    refine vr_iconst 1 dX8_isWithin_40 (by decide) ?_
    exact vr_zret rfl (Or.inr rfl) ⟨rfl, _, rfl, h⟩ dX8_isWithin_41
def F_X8_isWithin (k0 : Nat) (Q : VP) (post : Int32 → Prop) : Prop :=
  vL1 (F_X8_isWithin_l2 k0 Q post  ) ((0 : Int32))
set_option maxRecDepth 4000 in
theorem s_X8_isWithin {l : Launch} {g : vG} {k0 : Nat} {P Q : VP} {post : Int32 → Prop} (hk0 : vQA k0 0) (h : F_X8_isWithin k0 Q post) : VC l g yX8_isWithin cX8_isWithin 2 (some .boolean) 2 [vR k0 0] (vjn P Q) (vpI (vjn P Q) post) := by
  refine VC.of (by decide +kernel) (Nat.le_of_ble_eq_true rfl) (show VM l g RX8 cX8_isWithin 2 (some .boolean) 2 (vpI (vjn P Q) post) 0 [(0, vR k0 0)] [] (vjn P Q) from ?_)
  unfold F_X8_isWithin at h
  refine vr_iconst 0 dX8_isWithin_0 (by decide) ?_
  refine vr_istore_n 1 [(1, vI 0), (0, vR k0 0)] dX8_isWithin_1 rfl (by decide) rfl ?_
  refine vr_sub [1, 0] [(0, vR k0 0), (1, vI 0)] rfl ?_
  exact s_X8_isWithin_l2 hk0  h
theorem dX8_directory_0 : decode cX8_directory 0 = .ok (.aload_n 0, 1) := by decide +kernel
theorem dX8_directory_1 : decode cX8_directory 1 = .ok (.iload_n 1, 1) := by decide +kernel
theorem dX8_directory_2 : decode cX8_directory 2 = .ok (.invokevirtual 75, 3) := by decide +kernel
theorem dX8_directory_5 : decode cX8_directory 5 = .ok (.ifCond .ne 5, 3) := by decide +kernel
theorem dX8_directory_8 : decode cX8_directory 8 = .ok (.iconst (-1), 1) := by decide +kernel
theorem dX8_directory_9 : decode cX8_directory 9 = .ok (.ireturn, 1) := by decide +kernel
theorem dX8_directory_10 : decode cX8_directory 10 = .ok (.aload_n 0, 1) := by decide +kernel
theorem dX8_directory_11 : decode cX8_directory 11 = .ok (.getfield 9, 3) := by decide +kernel
theorem dX8_directory_14 : decode cX8_directory 14 = .ok (.iconst 0, 1) := by decide +kernel
theorem dX8_directory_15 : decode cX8_directory 15 = .ok (.iaload, 1) := by decide +kernel
theorem dX8_directory_16 : decode cX8_directory 16 = .ok (.istore_n 2, 1) := by decide +kernel
theorem dX8_directory_17 : decode cX8_directory 17 = .ok (.iload_n 2, 1) := by decide +kernel
theorem dX8_directory_18 : decode cX8_directory 18 = .ok (.bipush 8, 2) := by decide +kernel
theorem dX8_directory_20 : decode cX8_directory 20 = .ok (.if_icmp .ne 6, 3) := by decide +kernel
theorem dX8_directory_23 : decode cX8_directory 23 = .ok (.bipush (-3), 2) := by decide +kernel
theorem dX8_directory_25 : decode cX8_directory 25 = .ok (.ireturn, 1) := by decide +kernel
theorem dX8_directory_26 : decode cX8_directory 26 = .ok (.aload_n 0, 1) := by decide +kernel
theorem dX8_directory_27 : decode cX8_directory 27 = .ok (.getfield 9, 3) := by decide +kernel
theorem dX8_directory_30 : decode cX8_directory 30 = .ok (.bipush 16, 2) := by decide +kernel
theorem dX8_directory_32 : decode cX8_directory 32 = .ok (.iload_n 2, 1) := by decide +kernel
theorem dX8_directory_33 : decode cX8_directory 33 = .ok (.iadd, 1) := by decide +kernel
theorem dX8_directory_34 : decode cX8_directory 34 = .ok (.iload_n 1, 1) := by decide +kernel
theorem dX8_directory_35 : decode cX8_directory 35 = .ok (.iastore, 1) := by decide +kernel
theorem dX8_directory_36 : decode cX8_directory 36 = .ok (.aload_n 0, 1) := by decide +kernel
theorem dX8_directory_37 : decode cX8_directory 37 = .ok (.getfield 9, 3) := by decide +kernel
theorem dX8_directory_40 : decode cX8_directory 40 = .ok (.bipush 24, 2) := by decide +kernel
theorem dX8_directory_42 : decode cX8_directory 42 = .ok (.iload_n 2, 1) := by decide +kernel
theorem dX8_directory_43 : decode cX8_directory 43 = .ok (.iadd, 1) := by decide +kernel
theorem dX8_directory_44 : decode cX8_directory 44 = .ok (.iconst 0, 1) := by decide +kernel
theorem dX8_directory_45 : decode cX8_directory 45 = .ok (.iastore, 1) := by decide +kernel
theorem dX8_directory_46 : decode cX8_directory 46 = .ok (.aload_n 0, 1) := by decide +kernel
theorem dX8_directory_47 : decode cX8_directory 47 = .ok (.getfield 9, 3) := by decide +kernel
theorem dX8_directory_50 : decode cX8_directory 50 = .ok (.iconst 0, 1) := by decide +kernel
theorem dX8_directory_51 : decode cX8_directory 51 = .ok (.iload_n 2, 1) := by decide +kernel
theorem dX8_directory_52 : decode cX8_directory 52 = .ok (.iconst 1, 1) := by decide +kernel
theorem dX8_directory_53 : decode cX8_directory 53 = .ok (.iadd, 1) := by decide +kernel
theorem dX8_directory_54 : decode cX8_directory 54 = .ok (.iastore, 1) := by decide +kernel
theorem dX8_directory_55 : decode cX8_directory 55 = .ok (.iload_n 2, 1) := by decide +kernel
theorem dX8_directory_56 : decode cX8_directory 56 = .ok (.ireturn, 1) := by decide +kernel
def F_X8_directory (x1 : Int32) (Q : VP) (post : Int32 → VP → Prop) : Prop :=
  F_X8_isDirectory x1 Q (fun r2 => (r2 = 0 → post (((-1) : Int32)) Q) ∧ (¬ r2 = 0 → (0 ≤ (0 : Int32) ∧ (0 : Int32) < 3464) ∧ ((Q 23 0 (ix ((0 : Int32))) = 8 → post (((-3) : Int32)) Q) ∧ (¬ Q 23 0 (ix ((0 : Int32))) = 8 → (0 ≤ 16 + (Q 23 0 (ix ((0 : Int32)))) ∧ 16 + (Q 23 0 (ix ((0 : Int32)))) < 3464) ∧ (∀ Q35 : VP, Q35 = vup Q 23 0 (ix (16 + (Q 23 0 (ix ((0 : Int32)))))) x1 → ((0 ≤ 24 + (Q 23 0 (ix ((0 : Int32)))) ∧ 24 + (Q 23 0 (ix ((0 : Int32)))) < 3464) ∧ (∀ Q45 : VP, Q45 = vup Q35 23 0 (ix (24 + (Q 23 0 (ix ((0 : Int32)))))) 0 → ((0 ≤ (0 : Int32) ∧ (0 : Int32) < 3464) ∧ (∀ Q54 : VP, Q54 = vup Q45 23 0 (ix ((0 : Int32))) ((Q 23 0 (ix ((0 : Int32)))) + 1) → (post (Q 23 0 (ix ((0 : Int32)))) Q54))))))))))
set_option maxRecDepth 4000 in
theorem s_X8_directory {l : Launch} {g : vG} {x1 : Int32} {P Q : VP} {post : Int32 → VP → Prop}  (h : F_X8_directory x1 Q post) : VC l g yX8_directory cX8_directory 3 (some .int) 2 [vR 22 0, vI x1] (vjn P Q) (vmI P post) := by
  refine VC.of (by decide +kernel) (Nat.le_of_ble_eq_true rfl) (show VM l g RX8 cX8_directory 3 (some .int) 2 (vmI P post) 0 [(0, vR 22 0), (1, vI x1)] [] (vjn P Q) from ?_)
  unfold F_X8_directory at h
  refine vr_aload_n 0 0 dX8_directory_0 rfl rfl ?_
  refine vr_iload_n 1 1 dX8_directory_1 rfl rfl ?_
  refine vr_callV RX8 (s_X8_isDirectory h) rfl (by decide) rfl rfl rfl ml_8_75 rfl yh_X8_isDirectory rfl ⟨Nat.le_of_ble_eq_true rfl, Nat.le_of_ble_eq_true rfl⟩ (Nat.le_of_ble_eq_true rfl) ⟨Nat.zero_le _, Nat.zero_le _⟩ dX8_directory_2 (ki fun r2 h => ?_)
  refine vr_ifne 10 dX8_directory_5 (by decide) (fun c5 => ?_) (fun c5 => ?_)
  · have h := h.1 c5
    refine vr_iconst (-1) dX8_directory_8 (by decide) ?_
    exact vr_iret rfl ⟨_, _, rfl, rfl, h⟩ dX8_directory_9
  · have h := h.2 c5
    refine vr_aload_n 0 0 dX8_directory_10 rfl rfl ?_
    refine vg_22_0 RX8 rfl (by decide) fl_8_9 dX8_directory_11 ?_
    refine vr_iconst 0 dX8_directory_14 (by decide) ?_
    have hi := h.1
    have h := h.2
    refine vr_ialdQ 3464 ia_23 rfl hi dX8_directory_15 ?_
    refine vr_istore_n 2 [(2, vI (Q 23 0 (ix ((0 : Int32))))), (0, vR 22 0), (1, vI x1)] dX8_directory_16 rfl (by decide) rfl ?_
    refine vr_iload_n 2 0 dX8_directory_17 rfl rfl ?_
    refine vr_bipush 8 dX8_directory_18 (by decide) ?_
    refine vr_icmpne 26 dX8_directory_20 (by decide) (fun c20 => ?_) (fun c20 => ?_)
    · have h := h.1 c20
      refine vr_bipush (-3) dX8_directory_23 (by decide) ?_
      exact vr_iret rfl ⟨_, _, rfl, rfl, h⟩ dX8_directory_25
    · have h := h.2 c20
      refine vr_aload_n 0 1 dX8_directory_26 rfl rfl ?_
      refine vg_22_0 RX8 rfl (by decide) fl_8_9 dX8_directory_27 ?_
      refine vr_bipush 16 dX8_directory_30 (by decide) ?_
      refine vr_iload_n 2 0 dX8_directory_32 rfl rfl ?_
      refine vr_iadd dX8_directory_33 ?_
      refine vr_iload_n 1 2 dX8_directory_34 rfl rfl ?_
      have hi := h.1
      have h := h.2
      obtain ⟨Q35, eQ35⟩ : ∃ y : VP, y = vup Q 23 0 (ix (16 + (Q 23 0 (ix ((0 : Int32)))))) x1 := ⟨_, rfl⟩
      have h := h Q35 eQ35
      refine vr_iastQ 3464 ia_23 rfl hi eQ35 dX8_directory_35 ?_
      refine vr_aload_n 0 1 dX8_directory_36 rfl rfl ?_
      refine vg_22_0 RX8 rfl (by decide) fl_8_9 dX8_directory_37 ?_
      refine vr_bipush 24 dX8_directory_40 (by decide) ?_
      refine vr_iload_n 2 0 dX8_directory_42 rfl rfl ?_
      refine vr_iadd dX8_directory_43 ?_
      refine vr_iconst 0 dX8_directory_44 (by decide) ?_
      have hi := h.1
      have h := h.2
      obtain ⟨Q45, eQ45⟩ : ∃ y : VP, y = vup Q35 23 0 (ix (24 + (Q 23 0 (ix ((0 : Int32)))))) 0 := ⟨_, rfl⟩
      have h := h Q45 eQ45
      refine vr_iastQ 3464 ia_23 rfl hi eQ45 dX8_directory_45 ?_
      refine vr_aload_n 0 1 dX8_directory_46 rfl rfl ?_
      refine vg_22_0 RX8 rfl (by decide) fl_8_9 dX8_directory_47 ?_
      refine vr_iconst 0 dX8_directory_50 (by decide) ?_
      refine vr_iload_n 2 0 dX8_directory_51 rfl rfl ?_
      refine vr_iconst 1 dX8_directory_52 (by decide) ?_
      refine vr_iadd dX8_directory_53 ?_
      have hi := h.1
      have h := h.2
      obtain ⟨Q54, eQ54⟩ : ∃ y : VP, y = vup Q45 23 0 (ix ((0 : Int32))) ((Q 23 0 (ix ((0 : Int32)))) + 1) := ⟨_, rfl⟩
      have h := h Q54 eQ54
      refine vr_iastQ 3464 ia_23 rfl hi eQ54 dX8_directory_54 ?_
      refine vr_iload_n 2 0 dX8_directory_55 rfl rfl ?_
      exact vr_iret rfl ⟨_, _, rfl, rfl, h⟩ dX8_directory_56
theorem dX8_named_0 : decode cX8_named 0 = .ok (.iconst 0, 1) := by decide +kernel
theorem dX8_named_1 : decode cX8_named 1 = .ok (.istore_n 3, 1) := by decide +kernel
theorem dX8_named_2 : decode cX8_named 2 = .ok (.iload_n 3, 1) := by decide +kernel
theorem dX8_named_3 : decode cX8_named 3 = .ok (.bipush 16, 2) := by decide +kernel
theorem dX8_named_5 : decode cX8_named 5 = .ok (.if_icmp .ge 50, 3) := by decide +kernel
theorem dX8_named_8 : decode cX8_named 8 = .ok (.aload_n 0, 1) := by decide +kernel
theorem dX8_named_9 : decode cX8_named 9 = .ok (.getfield 9, 3) := by decide +kernel
theorem dX8_named_12 : decode cX8_named 12 = .ok (.bipush 32, 2) := by decide +kernel
theorem dX8_named_14 : decode cX8_named 14 = .ok (.iload_n 3, 1) := by decide +kernel
theorem dX8_named_15 : decode cX8_named 15 = .ok (.iadd, 1) := by decide +kernel
theorem dX8_named_16 : decode cX8_named 16 = .ok (.iaload, 1) := by decide +kernel
theorem dX8_named_17 : decode cX8_named 17 = .ok (.iconst 1, 1) := by decide +kernel
theorem dX8_named_18 : decode cX8_named 18 = .ok (.if_icmp .ne 31, 3) := by decide +kernel
theorem dX8_named_21 : decode cX8_named 21 = .ok (.aload_n 0, 1) := by decide +kernel
theorem dX8_named_22 : decode cX8_named 22 = .ok (.getfield 9, 3) := by decide +kernel
theorem dX8_named_25 : decode cX8_named 25 = .ok (.bipush 48, 2) := by decide +kernel
theorem dX8_named_27 : decode cX8_named 27 = .ok (.iload_n 3, 1) := by decide +kernel
theorem dX8_named_28 : decode cX8_named 28 = .ok (.iadd, 1) := by decide +kernel
theorem dX8_named_29 : decode cX8_named 29 = .ok (.iaload, 1) := by decide +kernel
theorem dX8_named_30 : decode cX8_named 30 = .ok (.iload_n 1, 1) := by decide +kernel
theorem dX8_named_31 : decode cX8_named 31 = .ok (.if_icmp .ne 18, 3) := by decide +kernel
theorem dX8_named_34 : decode cX8_named 34 = .ok (.aload_n 0, 1) := by decide +kernel
theorem dX8_named_35 : decode cX8_named 35 = .ok (.getfield 9, 3) := by decide +kernel
theorem dX8_named_38 : decode cX8_named 38 = .ok (.bipush 64, 2) := by decide +kernel
theorem dX8_named_40 : decode cX8_named 40 = .ok (.iload_n 3, 1) := by decide +kernel
theorem dX8_named_41 : decode cX8_named 41 = .ok (.iadd, 1) := by decide +kernel
theorem dX8_named_42 : decode cX8_named 42 = .ok (.iaload, 1) := by decide +kernel
theorem dX8_named_43 : decode cX8_named 43 = .ok (.iload_n 2, 1) := by decide +kernel
theorem dX8_named_44 : decode cX8_named 44 = .ok (.if_icmp .ne 5, 3) := by decide +kernel
theorem dX8_named_47 : decode cX8_named 47 = .ok (.iload_n 3, 1) := by decide +kernel
theorem dX8_named_48 : decode cX8_named 48 = .ok (.ireturn, 1) := by decide +kernel
theorem dX8_named_49 : decode cX8_named 49 = .ok (.iinc 3 1, 3) := by decide +kernel
theorem dX8_named_52 : decode cX8_named 52 = .ok (.goto (-50), 3) := by decide +kernel
theorem dX8_named_55 : decode cX8_named 55 = .ok (.iconst (-1), 1) := by decide +kernel
theorem dX8_named_56 : decode cX8_named 56 = .ok (.ireturn, 1) := by decide +kernel
def F_X8_named_l2 (x1 : Int32) (x2 : Int32) (Q : VP) (post : Int32 → Prop)   (X : Int32 → Prop) (v3 : Int32) : Prop :=
  (v3 < 16 → (0 ≤ 32 + v3 ∧ 32 + v3 < 3464) ∧ ((Q 23 0 (ix (32 + v3)) = 1 → (0 ≤ 48 + v3 ∧ 48 + v3 < 3464) ∧ ((Q 23 0 (ix (48 + v3)) = x1 → (0 ≤ 64 + v3 ∧ 64 + v3 < 3464) ∧ ((Q 23 0 (ix (64 + v3)) = x2 → post v3) ∧ (¬ Q 23 0 (ix (64 + v3)) = x2 → X (v3 + 1)))) ∧ (¬ Q 23 0 (ix (48 + v3)) = x1 → X (v3 + 1)))) ∧ (¬ Q 23 0 (ix (32 + v3)) = 1 → X (v3 + 1)))) ∧ (¬ v3 < 16 → post (((-1) : Int32)))
set_option maxRecDepth 4000 in
theorem s_X8_named_l2 {l : Launch} {g : vG} {x1 : Int32} {x2 : Int32} {P Q : VP} {post : Int32 → Prop}    {v3 : Int32}   (h : vL1 (F_X8_named_l2 x1 x2 Q post  ) v3) : VM l g RX8 cX8_named 4 (some .int) 0 (vpI (vjn P Q) post) 2 [(0, vR 22 0), (1, vI x1), (2, vI x2), (3, vI v3)] [] (vjn P Q) := by
  refine vL1_s (T := fun v3 => VM l g RX8 cX8_named 4 (some .int) 0 (vpI (vjn P Q) post) 2 [(0, vR 22 0), (1, vI x1), (2, vI x2), (3, vI v3)] [] (vjn P Q)) ?_ h
  clear h
  intro X hX v3 h
  unfold F_X8_named_l2 at h
  refine vr_iload_n 3 3 dX8_named_2 rfl rfl ?_
  refine vr_bipush 16 dX8_named_3 (by decide) ?_
  refine vr_icmpge 55 dX8_named_5 (by decide) (fun c5 => ?_) (fun c5 => ?_)
  · have h := h.1 c5
    refine vr_aload_n 0 0 dX8_named_8 rfl rfl ?_
    refine vg_22_0 RX8 rfl (by decide) fl_8_9 dX8_named_9 ?_
    refine vr_bipush 32 dX8_named_12 (by decide) ?_
    refine vr_iload_n 3 3 dX8_named_14 rfl rfl ?_
    refine vr_iadd dX8_named_15 ?_
    have hi := h.1
    have h := h.2
    refine vr_ialdQ 3464 ia_23 rfl hi dX8_named_16 ?_
    refine vr_iconst 1 dX8_named_17 (by decide) ?_
    refine vr_icmpne 49 dX8_named_18 (by decide) (fun c18 => ?_) (fun c18 => ?_)
    · have h := h.1 c18
      refine vr_aload_n 0 0 dX8_named_21 rfl rfl ?_
      refine vg_22_0 RX8 rfl (by decide) fl_8_9 dX8_named_22 ?_
      refine vr_bipush 48 dX8_named_25 (by decide) ?_
      refine vr_iload_n 3 3 dX8_named_27 rfl rfl ?_
      refine vr_iadd dX8_named_28 ?_
      have hi := h.1
      have h := h.2
      refine vr_ialdQ 3464 ia_23 rfl hi dX8_named_29 ?_
      refine vr_iload_n 1 1 dX8_named_30 rfl rfl ?_
      refine vr_icmpne 49 dX8_named_31 (by decide) (fun c31 => ?_) (fun c31 => ?_)
      · have h := h.1 c31
        refine vr_aload_n 0 0 dX8_named_34 rfl rfl ?_
        refine vg_22_0 RX8 rfl (by decide) fl_8_9 dX8_named_35 ?_
        refine vr_bipush 64 dX8_named_38 (by decide) ?_
        refine vr_iload_n 3 3 dX8_named_40 rfl rfl ?_
        refine vr_iadd dX8_named_41 ?_
        have hi := h.1
        have h := h.2
        refine vr_ialdQ 3464 ia_23 rfl hi dX8_named_42 ?_
        refine vr_iload_n 2 2 dX8_named_43 rfl rfl ?_
        refine vr_icmpne 49 dX8_named_44 (by decide) (fun c44 => ?_) (fun c44 => ?_)
        · have h := h.1 c44
          refine vr_iload_n 3 3 dX8_named_47 rfl rfl ?_
          exact vr_iret rfl ⟨rfl, _, rfl, h⟩ dX8_named_48
        · have h := h.2 c44
          refine vr_iinc (v3 + 1) 3 [(3, vI (v3 + 1)), (0, vR 22 0), (1, vI x1), (2, vI x2)] dX8_named_49 rfl rfl (by decide) rfl ?_
          refine vr_goto 2 dX8_named_52 (by decide) ?_
          refine vr_sub [1, 2, 3, 0] [(0, vR 22 0), (1, vI x1), (2, vI x2), (3, vI (v3 + 1))] rfl ?_
          exact hX _ h
      · have h := h.2 c31
        refine vr_iinc (v3 + 1) 3 [(3, vI (v3 + 1)), (0, vR 22 0), (1, vI x1), (2, vI x2)] dX8_named_49 rfl rfl (by decide) rfl ?_
        refine vr_goto 2 dX8_named_52 (by decide) ?_
        refine vr_sub [1, 2, 3, 0] [(0, vR 22 0), (1, vI x1), (2, vI x2), (3, vI (v3 + 1))] rfl ?_
        exact hX _ h
    · have h := h.2 c18
      refine vr_iinc (v3 + 1) 3 [(3, vI (v3 + 1)), (0, vR 22 0), (1, vI x1), (2, vI x2)] dX8_named_49 rfl rfl (by decide) rfl ?_
      refine vr_goto 2 dX8_named_52 (by decide) ?_
      refine vr_sub [1, 2, 3, 0] [(0, vR 22 0), (1, vI x1), (2, vI x2), (3, vI (v3 + 1))] rfl ?_
      exact hX _ h
  · have h := h.2 c5
    refine vr_iconst (-1) dX8_named_55 (by decide) ?_
    exact vr_iret rfl ⟨rfl, _, rfl, h⟩ dX8_named_56
def F_X8_named (x1 : Int32) (x2 : Int32) (Q : VP) (post : Int32 → Prop) : Prop :=
  vL1 (F_X8_named_l2 x1 x2 Q post  ) ((0 : Int32))
set_option maxRecDepth 4000 in
theorem s_X8_named {l : Launch} {g : vG} {x1 : Int32} {x2 : Int32} {P Q : VP} {post : Int32 → Prop}  (h : F_X8_named x1 x2 Q post) : VC l g yX8_named cX8_named 4 (some .int) 0 [vR 22 0, vI x1, vI x2] (vjn P Q) (vpI (vjn P Q) post) := by
  refine VC.of (by decide +kernel) (Nat.le_of_ble_eq_true rfl) (show VM l g RX8 cX8_named 4 (some .int) 0 (vpI (vjn P Q) post) 0 [(0, vR 22 0), (1, vI x1), (2, vI x2)] [] (vjn P Q) from ?_)
  unfold F_X8_named at h
  refine vr_iconst 0 dX8_named_0 (by decide) ?_
  refine vr_istore_n 3 [(3, vI 0), (0, vR 22 0), (1, vI x1), (2, vI x2)] dX8_named_1 rfl (by decide) rfl ?_
  refine vr_sub [1, 2, 3, 0] [(0, vR 22 0), (1, vI x1), (2, vI x2), (3, vI 0)] rfl ?_
  exact s_X8_named_l2   h
theorem dX8_hasRoom_0 : decode cX8_hasRoom 0 = .ok (.aload_n 0, 1) := by decide +kernel
theorem dX8_hasRoom_1 : decode cX8_hasRoom 1 = .ok (.getfield 9, 3) := by decide +kernel
theorem dX8_hasRoom_4 : decode cX8_hasRoom 4 = .ok (.iload_n 1, 1) := by decide +kernel
theorem dX8_hasRoom_5 : decode cX8_hasRoom 5 = .ok (.invokestatic 64, 3) := by decide +kernel
theorem dX8_hasRoom_8 : decode cX8_hasRoom 8 = .ok (.istore_n 3, 1) := by decide +kernel
theorem dX8_hasRoom_9 : decode cX8_hasRoom 9 = .ok (.aload_n 0, 1) := by decide +kernel
theorem dX8_hasRoom_10 : decode cX8_hasRoom 10 = .ok (.getfield 9, 3) := by decide +kernel
theorem dX8_hasRoom_13 : decode cX8_hasRoom 13 = .ok (.iload_n 3, 1) := by decide +kernel
theorem dX8_hasRoom_14 : decode cX8_hasRoom 14 = .ok (.invokestatic 72, 3) := by decide +kernel
theorem dX8_hasRoom_17 : decode cX8_hasRoom 17 = .ok (.iload_n 2, 1) := by decide +kernel
theorem dX8_hasRoom_18 : decode cX8_hasRoom 18 = .ok (.iadd, 1) := by decide +kernel
theorem dX8_hasRoom_19 : decode cX8_hasRoom 19 = .ok (.aload_n 0, 1) := by decide +kernel
theorem dX8_hasRoom_20 : decode cX8_hasRoom 20 = .ok (.getfield 9, 3) := by decide +kernel
theorem dX8_hasRoom_23 : decode cX8_hasRoom 23 = .ok (.bipush 24, 2) := by decide +kernel
theorem dX8_hasRoom_25 : decode cX8_hasRoom 25 = .ok (.iload_n 3, 1) := by decide +kernel
theorem dX8_hasRoom_26 : decode cX8_hasRoom 26 = .ok (.iadd, 1) := by decide +kernel
theorem dX8_hasRoom_27 : decode cX8_hasRoom 27 = .ok (.iaload, 1) := by decide +kernel
theorem dX8_hasRoom_28 : decode cX8_hasRoom 28 = .ok (.if_icmp .gt 7, 3) := by decide +kernel
theorem dX8_hasRoom_31 : decode cX8_hasRoom 31 = .ok (.iconst 1, 1) := by decide +kernel
theorem dX8_hasRoom_32 : decode cX8_hasRoom 32 = .ok (.goto 4, 3) := by decide +kernel
theorem dX8_hasRoom_35 : decode cX8_hasRoom 35 = .ok (.iconst 0, 1) := by decide +kernel
theorem dX8_hasRoom_36 : decode cX8_hasRoom 36 = .ok (.ireturn, 1) := by decide +kernel
def F_X8_hasRoom (x1 : Int32) (x2 : Int32) (Q : VP) (post : Int32 → Prop) : Prop :=
  F_X8_cellOf 23 x1 Q (fun r5 => F_X8_used 23 r5 Q (fun r14 => (0 ≤ 24 + r5 ∧ 24 + r5 < 3464) ∧ ((Q 23 0 (ix (24 + r5)) < r14 + x2 → post ((0 : Int32))) ∧ (¬ Q 23 0 (ix (24 + r5)) < r14 + x2 → post ((1 : Int32))))))
set_option maxRecDepth 4000 in
theorem s_X8_hasRoom {l : Launch} {g : vG} {x1 : Int32} {x2 : Int32} {P Q : VP} {post : Int32 → Prop}  (h : F_X8_hasRoom x1 x2 Q post) : VC l g yX8_hasRoom cX8_hasRoom 4 (some .boolean) 2 [vR 22 0, vI x1, vI x2] (vjn P Q) (vpI (vjn P Q) post) := by
  refine VC.of (by decide +kernel) (Nat.le_of_ble_eq_true rfl) (show VM l g RX8 cX8_hasRoom 4 (some .boolean) 2 (vpI (vjn P Q) post) 0 [(0, vR 22 0), (1, vI x1), (2, vI x2)] [] (vjn P Q) from ?_)
  unfold F_X8_hasRoom at h
  refine vr_aload_n 0 0 dX8_hasRoom_0 rfl rfl ?_
  refine vg_22_0 RX8 rfl (by decide) fl_8_9 dX8_hasRoom_1 ?_
  refine vr_iload_n 1 1 dX8_hasRoom_4 rfl rfl ?_
  refine vr_callS RX8 (s_X8_cellOf ia_23 h) rfl rfl ml_8_64 rfl yh_X8_cellOf rfl ⟨Nat.le_of_ble_eq_true rfl, Nat.le_of_ble_eq_true rfl⟩ (Nat.le_of_ble_eq_true rfl) ⟨Nat.zero_le _, Nat.zero_le _⟩ dX8_hasRoom_5 (ki fun r5 h => ?_)
  refine vr_istore_n 3 [(3, vI r5), (0, vR 22 0), (1, vI x1), (2, vI x2)] dX8_hasRoom_8 rfl (by decide) rfl ?_
  refine vr_aload_n 0 1 dX8_hasRoom_9 rfl rfl ?_
  refine vg_22_0 RX8 rfl (by decide) fl_8_9 dX8_hasRoom_10 ?_
  refine vr_iload_n 3 0 dX8_hasRoom_13 rfl rfl ?_
  refine vr_callS RX8 (s_X8_used ia_23 h) rfl rfl ml_8_72 rfl yh_X8_used rfl ⟨Nat.le_of_ble_eq_true rfl, Nat.le_of_ble_eq_true rfl⟩ (Nat.le_of_ble_eq_true rfl) ⟨Nat.zero_le _, Nat.zero_le _⟩ dX8_hasRoom_14 (ki fun r14 h => ?_)
  refine vr_iload_n 2 3 dX8_hasRoom_17 rfl rfl ?_
  refine vr_iadd dX8_hasRoom_18 ?_
  refine vr_aload_n 0 1 dX8_hasRoom_19 rfl rfl ?_
  refine vg_22_0 RX8 rfl (by decide) fl_8_9 dX8_hasRoom_20 ?_
  refine vr_bipush 24 dX8_hasRoom_23 (by decide) ?_
  refine vr_iload_n 3 0 dX8_hasRoom_25 rfl rfl ?_
  refine vr_iadd dX8_hasRoom_26 ?_
  have hi := h.1
  have h := h.2
  refine vr_ialdQ 3464 ia_23 rfl hi dX8_hasRoom_27 ?_
  refine vr_icmpgt 35 dX8_hasRoom_28 (by decide) (fun c28 => ?_) (fun c28 => ?_)
  · have h := h.1 c28
    refine vr_iconst 0 dX8_hasRoom_35 (by decide) ?_
    exact vr_zret rfl (Or.inl rfl) ⟨rfl, _, rfl, h⟩ dX8_hasRoom_36
  · have h := h.2 c28
    refine vr_iconst 1 dX8_hasRoom_31 (by decide) ?_
    refine vr_goto 36 dX8_hasRoom_32 (by decide) ?_
    exact vr_zret rfl (Or.inr rfl) ⟨rfl, _, rfl, h⟩ dX8_hasRoom_36
theorem dX8_writes_0 : decode cX8_writes 0 = .ok (.sipush 200, 3) := by decide +kernel
theorem dX8_writes_3 : decode cX8_writes 3 = .ok (.bipush 6, 2) := by decide +kernel
theorem dX8_writes_5 : decode cX8_writes 5 = .ok (.bipush 24, 2) := by decide +kernel
theorem dX8_writes_7 : decode cX8_writes 7 = .ok (.iload_n 1, 1) := by decide +kernel
theorem dX8_writes_8 : decode cX8_writes 8 = .ok (.imul, 1) := by decide +kernel
theorem dX8_writes_9 : decode cX8_writes 9 = .ok (.iload_n 2, 1) := by decide +kernel
theorem dX8_writes_10 : decode cX8_writes 10 = .ok (.iadd, 1) := by decide +kernel
theorem dX8_writes_11 : decode cX8_writes 11 = .ok (.imul, 1) := by decide +kernel
theorem dX8_writes_12 : decode cX8_writes 12 = .ok (.iadd, 1) := by decide +kernel
theorem dX8_writes_13 : decode cX8_writes 13 = .ok (.istore 9, 2) := by decide +kernel
theorem dX8_writes_15 : decode cX8_writes 15 = .ok (.aload_n 0, 1) := by decide +kernel
theorem dX8_writes_16 : decode cX8_writes 16 = .ok (.iload 9, 2) := by decide +kernel
theorem dX8_writes_18 : decode cX8_writes 18 = .ok (.iload_n 3, 1) := by decide +kernel
theorem dX8_writes_19 : decode cX8_writes 19 = .ok (.iastore, 1) := by decide +kernel
theorem dX8_writes_20 : decode cX8_writes 20 = .ok (.aload_n 0, 1) := by decide +kernel
theorem dX8_writes_21 : decode cX8_writes 21 = .ok (.iload 9, 2) := by decide +kernel
theorem dX8_writes_23 : decode cX8_writes 23 = .ok (.iconst 1, 1) := by decide +kernel
theorem dX8_writes_24 : decode cX8_writes 24 = .ok (.iadd, 1) := by decide +kernel
theorem dX8_writes_25 : decode cX8_writes 25 = .ok (.iload 4, 2) := by decide +kernel
theorem dX8_writes_27 : decode cX8_writes 27 = .ok (.iastore, 1) := by decide +kernel
theorem dX8_writes_28 : decode cX8_writes 28 = .ok (.aload_n 0, 1) := by decide +kernel
theorem dX8_writes_29 : decode cX8_writes 29 = .ok (.iload 9, 2) := by decide +kernel
theorem dX8_writes_31 : decode cX8_writes 31 = .ok (.iconst 2, 1) := by decide +kernel
theorem dX8_writes_32 : decode cX8_writes 32 = .ok (.iadd, 1) := by decide +kernel
theorem dX8_writes_33 : decode cX8_writes 33 = .ok (.iload 5, 2) := by decide +kernel
theorem dX8_writes_35 : decode cX8_writes 35 = .ok (.iastore, 1) := by decide +kernel
theorem dX8_writes_36 : decode cX8_writes 36 = .ok (.aload_n 0, 1) := by decide +kernel
theorem dX8_writes_37 : decode cX8_writes 37 = .ok (.iload 9, 2) := by decide +kernel
theorem dX8_writes_39 : decode cX8_writes 39 = .ok (.iconst 3, 1) := by decide +kernel
theorem dX8_writes_40 : decode cX8_writes 40 = .ok (.iadd, 1) := by decide +kernel
theorem dX8_writes_41 : decode cX8_writes 41 = .ok (.iload 6, 2) := by decide +kernel
theorem dX8_writes_43 : decode cX8_writes 43 = .ok (.iastore, 1) := by decide +kernel
theorem dX8_writes_44 : decode cX8_writes 44 = .ok (.aload_n 0, 1) := by decide +kernel
theorem dX8_writes_45 : decode cX8_writes 45 = .ok (.iload 9, 2) := by decide +kernel
theorem dX8_writes_47 : decode cX8_writes 47 = .ok (.iconst 4, 1) := by decide +kernel
theorem dX8_writes_48 : decode cX8_writes 48 = .ok (.iadd, 1) := by decide +kernel
theorem dX8_writes_49 : decode cX8_writes 49 = .ok (.iload 7, 2) := by decide +kernel
theorem dX8_writes_51 : decode cX8_writes 51 = .ok (.iastore, 1) := by decide +kernel
theorem dX8_writes_52 : decode cX8_writes 52 = .ok (.aload_n 0, 1) := by decide +kernel
theorem dX8_writes_53 : decode cX8_writes 53 = .ok (.iload 9, 2) := by decide +kernel
theorem dX8_writes_55 : decode cX8_writes 55 = .ok (.iconst 5, 1) := by decide +kernel
theorem dX8_writes_56 : decode cX8_writes 56 = .ok (.iadd, 1) := by decide +kernel
theorem dX8_writes_57 : decode cX8_writes 57 = .ok (.iload 8, 2) := by decide +kernel
theorem dX8_writes_59 : decode cX8_writes 59 = .ok (.iastore, 1) := by decide +kernel
theorem dX8_writes_60 : decode cX8_writes 60 = .ok (.return_, 1) := by decide +kernel
def F_X8_writes (k0 : Nat) (x1 : Int32) (x2 : Int32) (x3 : Int32) (x4 : Int32) (x5 : Int32) (x6 : Int32) (x7 : Int32) (x8 : Int32) (Q : VP) (post : VP → Prop) : Prop :=
  (0 ≤ 200 + (6 * ((24 * x1) + x2)) ∧ 200 + (6 * ((24 * x1) + x2)) < vlI k0) ∧ (∀ Q19 : VP, Q19 = vup Q k0 0 (ix (200 + (6 * ((24 * x1) + x2)))) x3 → ((0 ≤ (200 + (6 * ((24 * x1) + x2))) + 1 ∧ (200 + (6 * ((24 * x1) + x2))) + 1 < vlI k0) ∧ (∀ Q27 : VP, Q27 = vup Q19 k0 0 (ix ((200 + (6 * ((24 * x1) + x2))) + 1)) x4 → ((0 ≤ (200 + (6 * ((24 * x1) + x2))) + 2 ∧ (200 + (6 * ((24 * x1) + x2))) + 2 < vlI k0) ∧ (∀ Q35 : VP, Q35 = vup Q27 k0 0 (ix ((200 + (6 * ((24 * x1) + x2))) + 2)) x5 → ((0 ≤ (200 + (6 * ((24 * x1) + x2))) + 3 ∧ (200 + (6 * ((24 * x1) + x2))) + 3 < vlI k0) ∧ (∀ Q43 : VP, Q43 = vup Q35 k0 0 (ix ((200 + (6 * ((24 * x1) + x2))) + 3)) x6 → ((0 ≤ (200 + (6 * ((24 * x1) + x2))) + 4 ∧ (200 + (6 * ((24 * x1) + x2))) + 4 < vlI k0) ∧ (∀ Q51 : VP, Q51 = vup Q43 k0 0 (ix ((200 + (6 * ((24 * x1) + x2))) + 4)) x7 → ((0 ≤ (200 + (6 * ((24 * x1) + x2))) + 5 ∧ (200 + (6 * ((24 * x1) + x2))) + 5 < vlI k0) ∧ (∀ Q59 : VP, Q59 = vup Q51 k0 0 (ix ((200 + (6 * ((24 * x1) + x2))) + 5)) x8 → (post Q59))))))))))))
set_option maxRecDepth 4000 in
theorem s_X8_writes {l : Launch} {g : vG} {k0 : Nat} {x1 : Int32} {x2 : Int32} {x3 : Int32} {x4 : Int32} {x5 : Int32} {x6 : Int32} {x7 : Int32} {x8 : Int32} {P Q : VP} {post : VP → Prop} (hk0 : vQA k0 0) (h : F_X8_writes k0 x1 x2 x3 x4 x5 x6 x7 x8 Q post) : VC l g yX8_writes cX8_writes 10 none 0 [vR k0 0, vI x1, vI x2, vI x3, vI x4, vI x5, vI x6, vI x7, vI x8] (vjn P Q) (vmV P post) := by
  refine VC.of (by decide +kernel) (Nat.le_of_ble_eq_true rfl) (show VM l g RX8 cX8_writes 10 none 0 (vmV P post) 0 [(0, vR k0 0), (1, vI x1), (2, vI x2), (3, vI x3), (4, vI x4), (5, vI x5), (6, vI x6), (7, vI x7), (8, vI x8)] [] (vjn P Q) from ?_)
  unfold F_X8_writes at h
  refine vr_sipush 200 dX8_writes_0 (by decide) ?_
  refine vr_bipush 6 dX8_writes_3 (by decide) ?_
  refine vr_bipush 24 dX8_writes_5 (by decide) ?_
  refine vr_iload_n 1 1 dX8_writes_7 rfl rfl ?_
  refine vr_imul dX8_writes_8 ?_
  refine vr_iload_n 2 2 dX8_writes_9 rfl rfl ?_
  refine vr_iadd dX8_writes_10 ?_
  refine vr_imul dX8_writes_11 ?_
  refine vr_iadd dX8_writes_12 ?_
  refine vr_istore [(9, vI (200 + (6 * ((24 * x1) + x2)))), (0, vR k0 0), (1, vI x1), (2, vI x2), (3, vI x3), (4, vI x4), (5, vI x5), (6, vI x6), (7, vI x7), (8, vI x8)] dX8_writes_13 (by decide) rfl ?_
  refine vr_aload_n 0 1 dX8_writes_15 rfl rfl ?_
  refine vr_iload 0 dX8_writes_16 rfl ?_
  refine vr_iload_n 3 4 dX8_writes_18 rfl rfl ?_
  have hi := h.1
  have h := h.2
  obtain ⟨Q19, eQ19⟩ : ∃ y : VP, y = vup Q k0 0 (ix (200 + (6 * ((24 * x1) + x2)))) x3 := ⟨_, rfl⟩
  have h := h Q19 eQ19
  refine vr_iastQ (vlI k0) hk0 rfl hi eQ19 dX8_writes_19 ?_
  refine vr_aload_n 0 1 dX8_writes_20 rfl rfl ?_
  refine vr_iload 0 dX8_writes_21 rfl ?_
  refine vr_iconst 1 dX8_writes_23 (by decide) ?_
  refine vr_iadd dX8_writes_24 ?_
  refine vr_iload 5 dX8_writes_25 rfl ?_
  have hi := h.1
  have h := h.2
  obtain ⟨Q27, eQ27⟩ : ∃ y : VP, y = vup Q19 k0 0 (ix ((200 + (6 * ((24 * x1) + x2))) + 1)) x4 := ⟨_, rfl⟩
  have h := h Q27 eQ27
  refine vr_iastQ (vlI k0) hk0 rfl hi eQ27 dX8_writes_27 ?_
  refine vr_aload_n 0 1 dX8_writes_28 rfl rfl ?_
  refine vr_iload 0 dX8_writes_29 rfl ?_
  refine vr_iconst 2 dX8_writes_31 (by decide) ?_
  refine vr_iadd dX8_writes_32 ?_
  refine vr_iload 6 dX8_writes_33 rfl ?_
  have hi := h.1
  have h := h.2
  obtain ⟨Q35, eQ35⟩ : ∃ y : VP, y = vup Q27 k0 0 (ix ((200 + (6 * ((24 * x1) + x2))) + 2)) x5 := ⟨_, rfl⟩
  have h := h Q35 eQ35
  refine vr_iastQ (vlI k0) hk0 rfl hi eQ35 dX8_writes_35 ?_
  refine vr_aload_n 0 1 dX8_writes_36 rfl rfl ?_
  refine vr_iload 0 dX8_writes_37 rfl ?_
  refine vr_iconst 3 dX8_writes_39 (by decide) ?_
  refine vr_iadd dX8_writes_40 ?_
  refine vr_iload 7 dX8_writes_41 rfl ?_
  have hi := h.1
  have h := h.2
  obtain ⟨Q43, eQ43⟩ : ∃ y : VP, y = vup Q35 k0 0 (ix ((200 + (6 * ((24 * x1) + x2))) + 3)) x6 := ⟨_, rfl⟩
  have h := h Q43 eQ43
  refine vr_iastQ (vlI k0) hk0 rfl hi eQ43 dX8_writes_43 ?_
  refine vr_aload_n 0 1 dX8_writes_44 rfl rfl ?_
  refine vr_iload 0 dX8_writes_45 rfl ?_
  refine vr_iconst 4 dX8_writes_47 (by decide) ?_
  refine vr_iadd dX8_writes_48 ?_
  refine vr_iload 8 dX8_writes_49 rfl ?_
  have hi := h.1
  have h := h.2
  obtain ⟨Q51, eQ51⟩ : ∃ y : VP, y = vup Q43 k0 0 (ix ((200 + (6 * ((24 * x1) + x2))) + 4)) x7 := ⟨_, rfl⟩
  have h := h Q51 eQ51
  refine vr_iastQ (vlI k0) hk0 rfl hi eQ51 dX8_writes_51 ?_
  refine vr_aload_n 0 1 dX8_writes_52 rfl rfl ?_
  refine vr_iload 0 dX8_writes_53 rfl ?_
  refine vr_iconst 5 dX8_writes_55 (by decide) ?_
  refine vr_iadd dX8_writes_56 ?_
  refine vr_iload 9 dX8_writes_57 rfl ?_
  have hi := h.1
  have h := h.2
  obtain ⟨Q59, eQ59⟩ : ∃ y : VP, y = vup Q51 k0 0 (ix ((200 + (6 * ((24 * x1) + x2))) + 5)) x8 := ⟨_, rfl⟩
  have h := h Q59 eQ59
  refine vr_iastQ (vlI k0) hk0 rfl hi eQ59 dX8_writes_59 ?_
  exact vr_vret rfl ⟨_, rfl, rfl, h⟩ dX8_writes_60
theorem dX8_segment_0 : decode cX8_segment 0 = .ok (.iload_n 3, 1) := by decide +kernel
theorem dX8_segment_1 : decode cX8_segment 1 = .ok (.ifCond .ge 6, 3) := by decide +kernel
theorem dX8_segment_4 : decode cX8_segment 4 = .ok (.bipush (-14), 2) := by decide +kernel
theorem dX8_segment_6 : decode cX8_segment 6 = .ok (.ireturn, 1) := by decide +kernel
theorem dX8_segment_7 : decode cX8_segment 7 = .ok (.aload_n 0, 1) := by decide +kernel
theorem dX8_segment_8 : decode cX8_segment 8 = .ok (.iload_n 1, 1) := by decide +kernel
theorem dX8_segment_9 : decode cX8_segment 9 = .ok (.invokevirtual 75, 3) := by decide +kernel
theorem dX8_segment_12 : decode cX8_segment 12 = .ok (.ifCond .eq 27, 3) := by decide +kernel
theorem dX8_segment_15 : decode cX8_segment 15 = .ok (.iload_n 2, 1) := by decide +kernel
theorem dX8_segment_16 : decode cX8_segment 16 = .ok (.i2l, 1) := by decide +kernel
theorem dX8_segment_17 : decode cX8_segment 17 = .ok (.lconst 0, 1) := by decide +kernel
theorem dX8_segment_18 : decode cX8_segment 18 = .ok (.ldc2_w 79, 3) := by decide +kernel
theorem dX8_segment_21 : decode cX8_segment 21 = .ok (.invokestatic 54, 3) := by decide +kernel
theorem dX8_segment_24 : decode cX8_segment 24 = .ok (.ifCond .eq 15, 3) := by decide +kernel
theorem dX8_segment_27 : decode cX8_segment 27 = .ok (.iload_n 3, 1) := by decide +kernel
theorem dX8_segment_28 : decode cX8_segment 28 = .ok (.i2l, 1) := by decide +kernel
theorem dX8_segment_29 : decode cX8_segment 29 = .ok (.lconst 1, 1) := by decide +kernel
theorem dX8_segment_30 : decode cX8_segment 30 = .ok (.ldc2_w 81, 3) := by decide +kernel
theorem dX8_segment_33 : decode cX8_segment 33 = .ok (.invokestatic 54, 3) := by decide +kernel
theorem dX8_segment_36 : decode cX8_segment 36 = .ok (.ifCond .ne 5, 3) := by decide +kernel
theorem dX8_segment_39 : decode cX8_segment 39 = .ok (.iconst (-1), 1) := by decide +kernel
theorem dX8_segment_40 : decode cX8_segment 40 = .ok (.ireturn, 1) := by decide +kernel
theorem dX8_segment_41 : decode cX8_segment 41 = .ok (.iconst 0, 1) := by decide +kernel
theorem dX8_segment_42 : decode cX8_segment 42 = .ok (.istore 4, 2) := by decide +kernel
theorem dX8_segment_44 : decode cX8_segment 44 = .ok (.iload 4, 2) := by decide +kernel
theorem dX8_segment_46 : decode cX8_segment 46 = .ok (.bipush 16, 2) := by decide +kernel
theorem dX8_segment_48 : decode cX8_segment 48 = .ok (.if_icmp .ge 23, 3) := by decide +kernel
theorem dX8_segment_51 : decode cX8_segment 51 = .ok (.aload_n 0, 1) := by decide +kernel
theorem dX8_segment_52 : decode cX8_segment 52 = .ok (.getfield 9, 3) := by decide +kernel
theorem dX8_segment_55 : decode cX8_segment 55 = .ok (.bipush 32, 2) := by decide +kernel
theorem dX8_segment_57 : decode cX8_segment 57 = .ok (.iload 4, 2) := by decide +kernel
theorem dX8_segment_59 : decode cX8_segment 59 = .ok (.iadd, 1) := by decide +kernel
theorem dX8_segment_60 : decode cX8_segment 60 = .ok (.iaload, 1) := by decide +kernel
theorem dX8_segment_61 : decode cX8_segment 61 = .ok (.iconst 1, 1) := by decide +kernel
theorem dX8_segment_62 : decode cX8_segment 62 = .ok (.if_icmp .ne 9, 3) := by decide +kernel
theorem dX8_segment_65 : decode cX8_segment 65 = .ok (.iinc 4 1, 3) := by decide +kernel
theorem dX8_segment_68 : decode cX8_segment 68 = .ok (.goto (-24), 3) := by decide +kernel
theorem dX8_segment_71 : decode cX8_segment 71 = .ok (.iload 4, 2) := by decide +kernel
theorem dX8_segment_73 : decode cX8_segment 73 = .ok (.bipush 16, 2) := by decide +kernel
theorem dX8_segment_75 : decode cX8_segment 75 = .ok (.if_icmp .ne 6, 3) := by decide +kernel
theorem dX8_segment_78 : decode cX8_segment 78 = .ok (.bipush (-3), 2) := by decide +kernel
theorem dX8_segment_80 : decode cX8_segment 80 = .ok (.ireturn, 1) := by decide +kernel
theorem dX8_segment_81 : decode cX8_segment 81 = .ok (.aload_n 0, 1) := by decide +kernel
theorem dX8_segment_82 : decode cX8_segment 82 = .ok (.iload_n 1, 1) := by decide +kernel
theorem dX8_segment_83 : decode cX8_segment 83 = .ok (.iload_n 2, 1) := by decide +kernel
theorem dX8_segment_84 : decode cX8_segment 84 = .ok (.invokevirtual 83, 3) := by decide +kernel
theorem dX8_segment_87 : decode cX8_segment 87 = .ok (.ifCond .ge 15, 3) := by decide +kernel
theorem dX8_segment_90 : decode cX8_segment 90 = .ok (.aload_n 0, 1) := by decide +kernel
theorem dX8_segment_91 : decode cX8_segment 91 = .ok (.iload_n 1, 1) := by decide +kernel
theorem dX8_segment_92 : decode cX8_segment 92 = .ok (.iload_n 3, 1) := by decide +kernel
theorem dX8_segment_93 : decode cX8_segment 93 = .ok (.invokestatic 68, 3) := by decide +kernel
theorem dX8_segment_96 : decode cX8_segment 96 = .ok (.invokevirtual 87, 3) := by decide +kernel
theorem dX8_segment_99 : decode cX8_segment 99 = .ok (.ifCond .ne 6, 3) := by decide +kernel
theorem dX8_segment_102 : decode cX8_segment 102 = .ok (.bipush (-5), 2) := by decide +kernel
theorem dX8_segment_104 : decode cX8_segment 104 = .ok (.ireturn, 1) := by decide +kernel
theorem dX8_segment_105 : decode cX8_segment 105 = .ok (.aload_n 0, 1) := by decide +kernel
theorem dX8_segment_106 : decode cX8_segment 106 = .ok (.getfield 9, 3) := by decide +kernel
theorem dX8_segment_109 : decode cX8_segment 109 = .ok (.iconst 1, 1) := by decide +kernel
theorem dX8_segment_110 : decode cX8_segment 110 = .ok (.dup2, 1) := by decide +kernel
theorem dX8_segment_111 : decode cX8_segment 111 = .ok (.iaload, 1) := by decide +kernel
theorem dX8_segment_112 : decode cX8_segment 112 = .ok (.iconst 1, 1) := by decide +kernel
theorem dX8_segment_113 : decode cX8_segment 113 = .ok (.iadd, 1) := by decide +kernel
theorem dX8_segment_114 : decode cX8_segment 114 = .ok (.iastore, 1) := by decide +kernel
theorem dX8_segment_115 : decode cX8_segment 115 = .ok (.aload_n 0, 1) := by decide +kernel
theorem dX8_segment_116 : decode cX8_segment 116 = .ok (.getfield 9, 3) := by decide +kernel
theorem dX8_segment_119 : decode cX8_segment 119 = .ok (.bipush 32, 2) := by decide +kernel
theorem dX8_segment_121 : decode cX8_segment 121 = .ok (.iload 4, 2) := by decide +kernel
theorem dX8_segment_123 : decode cX8_segment 123 = .ok (.iadd, 1) := by decide +kernel
theorem dX8_segment_124 : decode cX8_segment 124 = .ok (.iconst 1, 1) := by decide +kernel
theorem dX8_segment_125 : decode cX8_segment 125 = .ok (.iastore, 1) := by decide +kernel
theorem dX8_segment_126 : decode cX8_segment 126 = .ok (.aload_n 0, 1) := by decide +kernel
theorem dX8_segment_127 : decode cX8_segment 127 = .ok (.getfield 9, 3) := by decide +kernel
theorem dX8_segment_130 : decode cX8_segment 130 = .ok (.bipush 48, 2) := by decide +kernel
theorem dX8_segment_132 : decode cX8_segment 132 = .ok (.iload 4, 2) := by decide +kernel
theorem dX8_segment_134 : decode cX8_segment 134 = .ok (.iadd, 1) := by decide +kernel
theorem dX8_segment_135 : decode cX8_segment 135 = .ok (.iload_n 1, 1) := by decide +kernel
theorem dX8_segment_136 : decode cX8_segment 136 = .ok (.iastore, 1) := by decide +kernel
theorem dX8_segment_137 : decode cX8_segment 137 = .ok (.aload_n 0, 1) := by decide +kernel
theorem dX8_segment_138 : decode cX8_segment 138 = .ok (.getfield 9, 3) := by decide +kernel
theorem dX8_segment_141 : decode cX8_segment 141 = .ok (.bipush 64, 2) := by decide +kernel
theorem dX8_segment_143 : decode cX8_segment 143 = .ok (.iload 4, 2) := by decide +kernel
theorem dX8_segment_145 : decode cX8_segment 145 = .ok (.iadd, 1) := by decide +kernel
theorem dX8_segment_146 : decode cX8_segment 146 = .ok (.iload_n 2, 1) := by decide +kernel
theorem dX8_segment_147 : decode cX8_segment 147 = .ok (.iastore, 1) := by decide +kernel
theorem dX8_segment_148 : decode cX8_segment 148 = .ok (.aload_n 0, 1) := by decide +kernel
theorem dX8_segment_149 : decode cX8_segment 149 = .ok (.getfield 9, 3) := by decide +kernel
theorem dX8_segment_152 : decode cX8_segment 152 = .ok (.bipush 80, 2) := by decide +kernel
theorem dX8_segment_154 : decode cX8_segment 154 = .ok (.iload 4, 2) := by decide +kernel
theorem dX8_segment_156 : decode cX8_segment 156 = .ok (.iadd, 1) := by decide +kernel
theorem dX8_segment_157 : decode cX8_segment 157 = .ok (.aload_n 0, 1) := by decide +kernel
theorem dX8_segment_158 : decode cX8_segment 158 = .ok (.getfield 9, 3) := by decide +kernel
theorem dX8_segment_161 : decode cX8_segment 161 = .ok (.iconst 1, 1) := by decide +kernel
theorem dX8_segment_162 : decode cX8_segment 162 = .ok (.iaload, 1) := by decide +kernel
theorem dX8_segment_163 : decode cX8_segment 163 = .ok (.iastore, 1) := by decide +kernel
theorem dX8_segment_164 : decode cX8_segment 164 = .ok (.aload_n 0, 1) := by decide +kernel
theorem dX8_segment_165 : decode cX8_segment 165 = .ok (.getfield 9, 3) := by decide +kernel
theorem dX8_segment_168 : decode cX8_segment 168 = .ok (.bipush 96, 2) := by decide +kernel
theorem dX8_segment_170 : decode cX8_segment 170 = .ok (.iload 4, 2) := by decide +kernel
theorem dX8_segment_172 : decode cX8_segment 172 = .ok (.iadd, 1) := by decide +kernel
theorem dX8_segment_173 : decode cX8_segment 173 = .ok (.iload_n 3, 1) := by decide +kernel
theorem dX8_segment_174 : decode cX8_segment 174 = .ok (.iastore, 1) := by decide +kernel
theorem dX8_segment_175 : decode cX8_segment 175 = .ok (.aload_n 0, 1) := by decide +kernel
theorem dX8_segment_176 : decode cX8_segment 176 = .ok (.getfield 9, 3) := by decide +kernel
theorem dX8_segment_179 : decode cX8_segment 179 = .ok (.bipush 112, 2) := by decide +kernel
theorem dX8_segment_181 : decode cX8_segment 181 = .ok (.iload 4, 2) := by decide +kernel
theorem dX8_segment_183 : decode cX8_segment 183 = .ok (.iadd, 1) := by decide +kernel
theorem dX8_segment_184 : decode cX8_segment 184 = .ok (.iconst 4, 1) := by decide +kernel
theorem dX8_segment_185 : decode cX8_segment 185 = .ok (.iastore, 1) := by decide +kernel
theorem dX8_segment_186 : decode cX8_segment 186 = .ok (.aload_n 0, 1) := by decide +kernel
theorem dX8_segment_187 : decode cX8_segment 187 = .ok (.getfield 9, 3) := by decide +kernel
theorem dX8_segment_190 : decode cX8_segment 190 = .ok (.sipush 128, 3) := by decide +kernel
theorem dX8_segment_193 : decode cX8_segment 193 = .ok (.iload 4, 2) := by decide +kernel
theorem dX8_segment_195 : decode cX8_segment 195 = .ok (.iadd, 1) := by decide +kernel
theorem dX8_segment_196 : decode cX8_segment 196 = .ok (.iconst 4, 1) := by decide +kernel
theorem dX8_segment_197 : decode cX8_segment 197 = .ok (.iastore, 1) := by decide +kernel
theorem dX8_segment_198 : decode cX8_segment 198 = .ok (.aload_n 0, 1) := by decide +kernel
theorem dX8_segment_199 : decode cX8_segment 199 = .ok (.getfield 9, 3) := by decide +kernel
theorem dX8_segment_202 : decode cX8_segment 202 = .ok (.sipush 144, 3) := by decide +kernel
theorem dX8_segment_205 : decode cX8_segment 205 = .ok (.iload 4, 2) := by decide +kernel
theorem dX8_segment_207 : decode cX8_segment 207 = .ok (.iadd, 1) := by decide +kernel
theorem dX8_segment_208 : decode cX8_segment 208 = .ok (.iconst 4, 1) := by decide +kernel
theorem dX8_segment_209 : decode cX8_segment 209 = .ok (.iastore, 1) := by decide +kernel
theorem dX8_segment_210 : decode cX8_segment 210 = .ok (.aload_n 0, 1) := by decide +kernel
theorem dX8_segment_211 : decode cX8_segment 211 = .ok (.getfield 9, 3) := by decide +kernel
theorem dX8_segment_214 : decode cX8_segment 214 = .ok (.sipush 160, 3) := by decide +kernel
theorem dX8_segment_217 : decode cX8_segment 217 = .ok (.iload 4, 2) := by decide +kernel
theorem dX8_segment_219 : decode cX8_segment 219 = .ok (.iadd, 1) := by decide +kernel
theorem dX8_segment_220 : decode cX8_segment 220 = .ok (.bipush 7, 2) := by decide +kernel
theorem dX8_segment_222 : decode cX8_segment 222 = .ok (.iastore, 1) := by decide +kernel
theorem dX8_segment_223 : decode cX8_segment 223 = .ok (.aload_n 0, 1) := by decide +kernel
theorem dX8_segment_224 : decode cX8_segment 224 = .ok (.getfield 9, 3) := by decide +kernel
theorem dX8_segment_227 : decode cX8_segment 227 = .ok (.sipush 176, 3) := by decide +kernel
theorem dX8_segment_230 : decode cX8_segment 230 = .ok (.iload 4, 2) := by decide +kernel
theorem dX8_segment_232 : decode cX8_segment 232 = .ok (.iadd, 1) := by decide +kernel
theorem dX8_segment_233 : decode cX8_segment 233 = .ok (.iconst 0, 1) := by decide +kernel
theorem dX8_segment_234 : decode cX8_segment 234 = .ok (.iastore, 1) := by decide +kernel
theorem dX8_segment_235 : decode cX8_segment 235 = .ok (.iconst 0, 1) := by decide +kernel
theorem dX8_segment_236 : decode cX8_segment 236 = .ok (.istore 5, 2) := by decide +kernel
theorem dX8_segment_238 : decode cX8_segment 238 = .ok (.iload 5, 2) := by decide +kernel
theorem dX8_segment_240 : decode cX8_segment 240 = .ok (.bipush 24, 2) := by decide +kernel
theorem dX8_segment_242 : decode cX8_segment 242 = .ok (.if_icmp .ge 26, 3) := by decide +kernel
theorem dX8_segment_245 : decode cX8_segment 245 = .ok (.aload_n 0, 1) := by decide +kernel
theorem dX8_segment_246 : decode cX8_segment 246 = .ok (.getfield 9, 3) := by decide +kernel
theorem dX8_segment_249 : decode cX8_segment 249 = .ok (.iload 4, 2) := by decide +kernel
theorem dX8_segment_251 : decode cX8_segment 251 = .ok (.iload 5, 2) := by decide +kernel
theorem dX8_segment_253 : decode cX8_segment 253 = .ok (.iconst 0, 1) := by decide +kernel
theorem dX8_segment_254 : decode cX8_segment 254 = .ok (.iconst 0, 1) := by decide +kernel
theorem dX8_segment_255 : decode cX8_segment 255 = .ok (.iconst 0, 1) := by decide +kernel
theorem dX8_segment_256 : decode cX8_segment 256 = .ok (.iconst 0, 1) := by decide +kernel
theorem dX8_segment_257 : decode cX8_segment 257 = .ok (.iconst 0, 1) := by decide +kernel
theorem dX8_segment_258 : decode cX8_segment 258 = .ok (.iconst 0, 1) := by decide +kernel
theorem dX8_segment_259 : decode cX8_segment 259 = .ok (.invokestatic 91, 3) := by decide +kernel
theorem dX8_segment_262 : decode cX8_segment 262 = .ok (.iinc 5 1, 3) := by decide +kernel
theorem dX8_segment_265 : decode cX8_segment 265 = .ok (.goto (-27), 3) := by decide +kernel
theorem dX8_segment_268 : decode cX8_segment 268 = .ok (.iload 4, 2) := by decide +kernel
theorem dX8_segment_270 : decode cX8_segment 270 = .ok (.ireturn, 1) := by decide +kernel
def F_X8_segment_l238 (x1 : Int32) (x2 : Int32) (x3 : Int32)  (post : Int32 → VP → Prop)  (v4 : Int32) (X : Int32 → VP → Prop) (v5 : Int32) (Q : VP) : Prop :=
  (v5 < 24 → F_X8_writes 23 v4 v5 ((0 : Int32)) ((0 : Int32)) ((0 : Int32)) ((0 : Int32)) ((0 : Int32)) ((0 : Int32)) Q (fun Q259 => X (v5 + 1) Q259)) ∧ (¬ v5 < 24 → post v4 Q)
set_option maxRecDepth 4000 in
theorem s_X8_segment_l238 {l : Launch} {g : vG} {x1 : Int32} {x2 : Int32} {x3 : Int32} {P : VP} {post : Int32 → VP → Prop}  {v4 : Int32}  {v5 : Int32} {Q : VP}   (h : vL2 (F_X8_segment_l238 x1 x2 x3  post  v4) v5 Q) : VM l g RX8 cX8_segment 6 (some .int) 3 (vmI P post) 238 [(0, vR 22 0), (4, vI v4), (5, vI v5)] [] (vjn P Q) := by
  refine vL2_s (T := fun v5 Q => VM l g RX8 cX8_segment 6 (some .int) 3 (vmI P post) 238 [(0, vR 22 0), (4, vI v4), (5, vI v5)] [] (vjn P Q)) ?_ h
  clear h
  intro X hX v5 Q h
  unfold F_X8_segment_l238 at h
  refine vr_iload 2 dX8_segment_238 rfl ?_
  refine vr_bipush 24 dX8_segment_240 (by decide) ?_
  refine vr_icmpge 268 dX8_segment_242 (by decide) (fun c242 => ?_) (fun c242 => ?_)
  · have h := h.1 c242
    refine vr_aload_n 0 0 dX8_segment_245 rfl rfl ?_
    refine vg_22_0 RX8 rfl (by decide) fl_8_9 dX8_segment_246 ?_
    refine vr_iload 1 dX8_segment_249 rfl ?_
    refine vr_iload 2 dX8_segment_251 rfl ?_
    refine vr_iconst 0 dX8_segment_253 (by decide) ?_
    refine vr_iconst 0 dX8_segment_254 (by decide) ?_
    refine vr_iconst 0 dX8_segment_255 (by decide) ?_
    refine vr_iconst 0 dX8_segment_256 (by decide) ?_
    refine vr_iconst 0 dX8_segment_257 (by decide) ?_
    refine vr_iconst 0 dX8_segment_258 (by decide) ?_
    refine vr_callS RX8 (s_X8_writes ia_23 h) rfl rfl ml_8_91 rfl yh_X8_writes rfl ⟨Nat.le_of_ble_eq_true rfl, Nat.le_of_ble_eq_true rfl⟩ (Nat.le_of_ble_eq_true rfl) ⟨Nat.zero_le _, Nat.zero_le _⟩ dX8_segment_259 (kmv fun Q259 h => ?_)
    refine vr_iinc (v5 + 1) 2 [(5, vI (v5 + 1)), (0, vR 22 0), (4, vI v4)] dX8_segment_262 rfl rfl (by decide) rfl ?_
    refine vr_goto 238 dX8_segment_265 (by decide) ?_
    refine vr_sub [1, 2, 0] [(0, vR 22 0), (4, vI v4), (5, vI (v5 + 1))] rfl ?_
    exact hX _ _ h
  · have h := h.2 c242
    refine vr_iload 1 dX8_segment_268 rfl ?_
    exact vr_iret rfl ⟨_, _, rfl, rfl, h⟩ dX8_segment_270
def F_X8_segment_b71 (x1 : Int32) (x2 : Int32) (x3 : Int32) (Q : VP) (post : Int32 → VP → Prop)  (v4 : Int32) : Prop :=
  (v4 = 16 → post (((-3) : Int32)) Q) ∧ (¬ v4 = 16 → F_X8_named x1 x2 Q (fun r84 => (r84 < 0 → F_X8_records x3 Q (fun r93 => F_X8_hasRoom x1 r93 Q (fun r96 => (r96 = 0 → post (((-5) : Int32)) Q) ∧ (¬ r96 = 0 → (0 ≤ (1 : Int32) ∧ (1 : Int32) < 3464) ∧ ((0 ≤ (1 : Int32) ∧ (1 : Int32) < 3464) ∧ (∀ Q114 : VP, Q114 = vup Q 23 0 (ix ((1 : Int32))) ((Q 23 0 (ix ((1 : Int32)))) + 1) → ((0 ≤ 32 + v4 ∧ 32 + v4 < 3464) ∧ (∀ Q125 : VP, Q125 = vup Q114 23 0 (ix (32 + v4)) 1 → ((0 ≤ 48 + v4 ∧ 48 + v4 < 3464) ∧ (∀ Q136 : VP, Q136 = vup Q125 23 0 (ix (48 + v4)) x1 → ((0 ≤ 64 + v4 ∧ 64 + v4 < 3464) ∧ (∀ Q147 : VP, Q147 = vup Q136 23 0 (ix (64 + v4)) x2 → ((0 ≤ (1 : Int32) ∧ (1 : Int32) < 3464) ∧ ((0 ≤ 80 + v4 ∧ 80 + v4 < 3464) ∧ (∀ Q163 : VP, Q163 = vup Q147 23 0 (ix (80 + v4)) (Q147 23 0 (ix ((1 : Int32)))) → ((0 ≤ 96 + v4 ∧ 96 + v4 < 3464) ∧ (∀ Q174 : VP, Q174 = vup Q163 23 0 (ix (96 + v4)) x3 → ((0 ≤ 112 + v4 ∧ 112 + v4 < 3464) ∧ (∀ Q185 : VP, Q185 = vup Q174 23 0 (ix (112 + v4)) 4 → ((0 ≤ 128 + v4 ∧ 128 + v4 < 3464) ∧ (∀ Q197 : VP, Q197 = vup Q185 23 0 (ix (128 + v4)) 4 → ((0 ≤ 144 + v4 ∧ 144 + v4 < 3464) ∧ (∀ Q209 : VP, Q209 = vup Q197 23 0 (ix (144 + v4)) 4 → ((0 ≤ 160 + v4 ∧ 160 + v4 < 3464) ∧ (∀ Q222 : VP, Q222 = vup Q209 23 0 (ix (160 + v4)) 7 → ((0 ≤ 176 + v4 ∧ 176 + v4 < 3464) ∧ (∀ Q234 : VP, Q234 = vup Q222 23 0 (ix (176 + v4)) 0 → (vL2 (F_X8_segment_l238 x1 x2 x3  post  v4) ((0 : Int32)) Q234)))))))))))))))))))))))))))) ∧ (¬ r84 < 0 → post (((-5) : Int32)) Q)))
set_option maxRecDepth 4000 in
theorem s_X8_segment_b71 {l : Launch} {g : vG} {x1 : Int32} {x2 : Int32} {x3 : Int32} {P Q : VP} {post : Int32 → VP → Prop}  {v4 : Int32}    (h : F_X8_segment_b71 x1 x2 x3 Q post  v4) : VM l g RX8 cX8_segment 6 (some .int) 3 (vmI P post) 71 [(0, vR 22 0), (1, vI x1), (2, vI x2), (3, vI x3), (4, vI v4)] [] (vjn P Q) := by
  unfold F_X8_segment_b71 at h
  refine vr_iload 4 dX8_segment_71 rfl ?_
  refine vr_bipush 16 dX8_segment_73 (by decide) ?_
  refine vr_icmpne 81 dX8_segment_75 (by decide) (fun c75 => ?_) (fun c75 => ?_)
  · have h := h.1 c75
    refine vr_bipush (-3) dX8_segment_78 (by decide) ?_
    exact vr_iret rfl ⟨_, _, rfl, rfl, h⟩ dX8_segment_80
  · have h := h.2 c75
    refine vr_aload_n 0 0 dX8_segment_81 rfl rfl ?_
    refine vr_iload_n 1 1 dX8_segment_82 rfl rfl ?_
    refine vr_iload_n 2 2 dX8_segment_83 rfl rfl ?_
    refine vr_callV RX8 (s_X8_named h) rfl (by decide) rfl rfl rfl ml_8_83 rfl yh_X8_named rfl ⟨Nat.le_of_ble_eq_true rfl, Nat.le_of_ble_eq_true rfl⟩ (Nat.le_of_ble_eq_true rfl) ⟨Nat.zero_le _, Nat.zero_le _⟩ dX8_segment_84 (ki fun r84 h => ?_)
    refine vr_ifge 102 dX8_segment_87 (by decide) (fun c87 => ?_) (fun c87 => ?_)
    · have h := h.1 c87
      refine vr_aload_n 0 0 dX8_segment_90 rfl rfl ?_
      refine vr_iload_n 1 1 dX8_segment_91 rfl rfl ?_
      refine vr_iload_n 3 3 dX8_segment_92 rfl rfl ?_
      refine vr_callS RX8 (s_X8_records h) rfl rfl ml_8_68 rfl yh_X8_records rfl ⟨Nat.le_of_ble_eq_true rfl, Nat.le_of_ble_eq_true rfl⟩ (Nat.le_of_ble_eq_true rfl) ⟨Nat.zero_le _, Nat.zero_le _⟩ dX8_segment_93 (ki fun r93 h => ?_)
      refine vr_callV RX8 (s_X8_hasRoom h) rfl (by decide) rfl rfl rfl ml_8_87 rfl yh_X8_hasRoom rfl ⟨Nat.le_of_ble_eq_true rfl, Nat.le_of_ble_eq_true rfl⟩ (Nat.le_of_ble_eq_true rfl) ⟨Nat.zero_le _, Nat.zero_le _⟩ dX8_segment_96 (ki fun r96 h => ?_)
      refine vr_ifne 105 dX8_segment_99 (by decide) (fun c99 => ?_) (fun c99 => ?_)
      · have h := h.1 c99
        refine vr_bipush (-5) dX8_segment_102 (by decide) ?_
        exact vr_iret rfl ⟨_, _, rfl, rfl, h⟩ dX8_segment_104
      · have h := h.2 c99
        refine vr_aload_n 0 0 dX8_segment_105 rfl rfl ?_
        refine vg_22_0 RX8 rfl (by decide) fl_8_9 dX8_segment_106 ?_
        refine vr_iconst 1 dX8_segment_109 (by decide) ?_
        refine vr_dup2 dX8_segment_110 rfl rfl ?_
        have hi := h.1
        have h := h.2
        refine vr_ialdQ 3464 ia_23 rfl hi dX8_segment_111 ?_
        refine vr_iconst 1 dX8_segment_112 (by decide) ?_
        refine vr_iadd dX8_segment_113 ?_
        have hi := h.1
        have h := h.2
        obtain ⟨Q114, eQ114⟩ : ∃ y : VP, y = vup Q 23 0 (ix ((1 : Int32))) ((Q 23 0 (ix ((1 : Int32)))) + 1) := ⟨_, rfl⟩
        have h := h Q114 eQ114
        refine vr_iastQ 3464 ia_23 rfl hi eQ114 dX8_segment_114 ?_
        refine vr_aload_n 0 0 dX8_segment_115 rfl rfl ?_
        refine vg_22_0 RX8 rfl (by decide) fl_8_9 dX8_segment_116 ?_
        refine vr_bipush 32 dX8_segment_119 (by decide) ?_
        refine vr_iload 4 dX8_segment_121 rfl ?_
        refine vr_iadd dX8_segment_123 ?_
        refine vr_iconst 1 dX8_segment_124 (by decide) ?_
        have hi := h.1
        have h := h.2
        obtain ⟨Q125, eQ125⟩ : ∃ y : VP, y = vup Q114 23 0 (ix (32 + v4)) 1 := ⟨_, rfl⟩
        have h := h Q125 eQ125
        refine vr_iastQ 3464 ia_23 rfl hi eQ125 dX8_segment_125 ?_
        refine vr_aload_n 0 0 dX8_segment_126 rfl rfl ?_
        refine vg_22_0 RX8 rfl (by decide) fl_8_9 dX8_segment_127 ?_
        refine vr_bipush 48 dX8_segment_130 (by decide) ?_
        refine vr_iload 4 dX8_segment_132 rfl ?_
        refine vr_iadd dX8_segment_134 ?_
        refine vr_iload_n 1 1 dX8_segment_135 rfl rfl ?_
        have hi := h.1
        have h := h.2
        obtain ⟨Q136, eQ136⟩ : ∃ y : VP, y = vup Q125 23 0 (ix (48 + v4)) x1 := ⟨_, rfl⟩
        have h := h Q136 eQ136
        refine vr_iastQ 3464 ia_23 rfl hi eQ136 dX8_segment_136 ?_
        refine vr_aload_n 0 0 dX8_segment_137 rfl rfl ?_
        refine vg_22_0 RX8 rfl (by decide) fl_8_9 dX8_segment_138 ?_
        refine vr_bipush 64 dX8_segment_141 (by decide) ?_
        refine vr_iload 4 dX8_segment_143 rfl ?_
        refine vr_iadd dX8_segment_145 ?_
        refine vr_iload_n 2 2 dX8_segment_146 rfl rfl ?_
        have hi := h.1
        have h := h.2
        obtain ⟨Q147, eQ147⟩ : ∃ y : VP, y = vup Q136 23 0 (ix (64 + v4)) x2 := ⟨_, rfl⟩
        have h := h Q147 eQ147
        refine vr_iastQ 3464 ia_23 rfl hi eQ147 dX8_segment_147 ?_
        refine vr_aload_n 0 0 dX8_segment_148 rfl rfl ?_
        refine vg_22_0 RX8 rfl (by decide) fl_8_9 dX8_segment_149 ?_
        refine vr_bipush 80 dX8_segment_152 (by decide) ?_
        refine vr_iload 4 dX8_segment_154 rfl ?_
        refine vr_iadd dX8_segment_156 ?_
        refine vr_aload_n 0 0 dX8_segment_157 rfl rfl ?_
        refine vg_22_0 RX8 rfl (by decide) fl_8_9 dX8_segment_158 ?_
        refine vr_iconst 1 dX8_segment_161 (by decide) ?_
        have hi := h.1
        have h := h.2
        refine vr_ialdQ 3464 ia_23 rfl hi dX8_segment_162 ?_
        have hi := h.1
        have h := h.2
        obtain ⟨Q163, eQ163⟩ : ∃ y : VP, y = vup Q147 23 0 (ix (80 + v4)) (Q147 23 0 (ix ((1 : Int32)))) := ⟨_, rfl⟩
        have h := h Q163 eQ163
        refine vr_iastQ 3464 ia_23 rfl hi eQ163 dX8_segment_163 ?_
        refine vr_aload_n 0 0 dX8_segment_164 rfl rfl ?_
        refine vg_22_0 RX8 rfl (by decide) fl_8_9 dX8_segment_165 ?_
        refine vr_bipush 96 dX8_segment_168 (by decide) ?_
        refine vr_iload 4 dX8_segment_170 rfl ?_
        refine vr_iadd dX8_segment_172 ?_
        refine vr_iload_n 3 3 dX8_segment_173 rfl rfl ?_
        have hi := h.1
        have h := h.2
        obtain ⟨Q174, eQ174⟩ : ∃ y : VP, y = vup Q163 23 0 (ix (96 + v4)) x3 := ⟨_, rfl⟩
        have h := h Q174 eQ174
        refine vr_iastQ 3464 ia_23 rfl hi eQ174 dX8_segment_174 ?_
        refine vr_aload_n 0 0 dX8_segment_175 rfl rfl ?_
        refine vg_22_0 RX8 rfl (by decide) fl_8_9 dX8_segment_176 ?_
        refine vr_bipush 112 dX8_segment_179 (by decide) ?_
        refine vr_iload 4 dX8_segment_181 rfl ?_
        refine vr_iadd dX8_segment_183 ?_
        refine vr_iconst 4 dX8_segment_184 (by decide) ?_
        have hi := h.1
        have h := h.2
        obtain ⟨Q185, eQ185⟩ : ∃ y : VP, y = vup Q174 23 0 (ix (112 + v4)) 4 := ⟨_, rfl⟩
        have h := h Q185 eQ185
        refine vr_iastQ 3464 ia_23 rfl hi eQ185 dX8_segment_185 ?_
        refine vr_aload_n 0 0 dX8_segment_186 rfl rfl ?_
        refine vg_22_0 RX8 rfl (by decide) fl_8_9 dX8_segment_187 ?_
        refine vr_sipush 128 dX8_segment_190 (by decide) ?_
        refine vr_iload 4 dX8_segment_193 rfl ?_
        refine vr_iadd dX8_segment_195 ?_
        refine vr_iconst 4 dX8_segment_196 (by decide) ?_
        have hi := h.1
        have h := h.2
        obtain ⟨Q197, eQ197⟩ : ∃ y : VP, y = vup Q185 23 0 (ix (128 + v4)) 4 := ⟨_, rfl⟩
        have h := h Q197 eQ197
        refine vr_iastQ 3464 ia_23 rfl hi eQ197 dX8_segment_197 ?_
        refine vr_aload_n 0 0 dX8_segment_198 rfl rfl ?_
        refine vg_22_0 RX8 rfl (by decide) fl_8_9 dX8_segment_199 ?_
        refine vr_sipush 144 dX8_segment_202 (by decide) ?_
        refine vr_iload 4 dX8_segment_205 rfl ?_
        refine vr_iadd dX8_segment_207 ?_
        refine vr_iconst 4 dX8_segment_208 (by decide) ?_
        have hi := h.1
        have h := h.2
        obtain ⟨Q209, eQ209⟩ : ∃ y : VP, y = vup Q197 23 0 (ix (144 + v4)) 4 := ⟨_, rfl⟩
        have h := h Q209 eQ209
        refine vr_iastQ 3464 ia_23 rfl hi eQ209 dX8_segment_209 ?_
        refine vr_aload_n 0 0 dX8_segment_210 rfl rfl ?_
        refine vg_22_0 RX8 rfl (by decide) fl_8_9 dX8_segment_211 ?_
        refine vr_sipush 160 dX8_segment_214 (by decide) ?_
        refine vr_iload 4 dX8_segment_217 rfl ?_
        refine vr_iadd dX8_segment_219 ?_
        refine vr_bipush 7 dX8_segment_220 (by decide) ?_
        have hi := h.1
        have h := h.2
        obtain ⟨Q222, eQ222⟩ : ∃ y : VP, y = vup Q209 23 0 (ix (160 + v4)) 7 := ⟨_, rfl⟩
        have h := h Q222 eQ222
        refine vr_iastQ 3464 ia_23 rfl hi eQ222 dX8_segment_222 ?_
        refine vr_aload_n 0 0 dX8_segment_223 rfl rfl ?_
        refine vg_22_0 RX8 rfl (by decide) fl_8_9 dX8_segment_224 ?_
        refine vr_sipush 176 dX8_segment_227 (by decide) ?_
        refine vr_iload 4 dX8_segment_230 rfl ?_
        refine vr_iadd dX8_segment_232 ?_
        refine vr_iconst 0 dX8_segment_233 (by decide) ?_
        have hi := h.1
        have h := h.2
        obtain ⟨Q234, eQ234⟩ : ∃ y : VP, y = vup Q222 23 0 (ix (176 + v4)) 0 := ⟨_, rfl⟩
        have h := h Q234 eQ234
        refine vr_iastQ 3464 ia_23 rfl hi eQ234 dX8_segment_234 ?_
        refine vr_iconst 0 dX8_segment_235 (by decide) ?_
        refine vr_istore [(5, vI 0), (0, vR 22 0), (1, vI x1), (2, vI x2), (3, vI x3), (4, vI v4)] dX8_segment_236 (by decide) rfl ?_
        refine vr_sub [1, 5, 0] [(0, vR 22 0), (4, vI v4), (5, vI 0)] rfl ?_
        exact s_X8_segment_l238   h
    · have h := h.2 c87
      refine vr_bipush (-5) dX8_segment_102 (by decide) ?_
      exact vr_iret rfl ⟨_, _, rfl, rfl, h⟩ dX8_segment_104
def F_X8_segment_l44 (x1 : Int32) (x2 : Int32) (x3 : Int32) (Q : VP) (post : Int32 → VP → Prop)   (X : Int32 → Prop) (v4 : Int32) : Prop :=
  (v4 < 16 → (0 ≤ 32 + v4 ∧ 32 + v4 < 3464) ∧ ((Q 23 0 (ix (32 + v4)) = 1 → X (v4 + 1)) ∧ (¬ Q 23 0 (ix (32 + v4)) = 1 → F_X8_segment_b71 x1 x2 x3 Q post  v4))) ∧ (¬ v4 < 16 → F_X8_segment_b71 x1 x2 x3 Q post  v4)
set_option maxRecDepth 4000 in
theorem s_X8_segment_l44 {l : Launch} {g : vG} {x1 : Int32} {x2 : Int32} {x3 : Int32} {P Q : VP} {post : Int32 → VP → Prop}    {v4 : Int32}   (h : vL1 (F_X8_segment_l44 x1 x2 x3 Q post  ) v4) : VM l g RX8 cX8_segment 6 (some .int) 3 (vmI P post) 44 [(0, vR 22 0), (1, vI x1), (2, vI x2), (3, vI x3), (4, vI v4)] [] (vjn P Q) := by
  refine vL1_s (T := fun v4 => VM l g RX8 cX8_segment 6 (some .int) 3 (vmI P post) 44 [(0, vR 22 0), (1, vI x1), (2, vI x2), (3, vI x3), (4, vI v4)] [] (vjn P Q)) ?_ h
  clear h
  intro X hX v4 h
  unfold F_X8_segment_l44 at h
  refine vr_iload 4 dX8_segment_44 rfl ?_
  refine vr_bipush 16 dX8_segment_46 (by decide) ?_
  refine vr_icmpge 71 dX8_segment_48 (by decide) (fun c48 => ?_) (fun c48 => ?_)
  · have h := h.1 c48
    refine vr_aload_n 0 0 dX8_segment_51 rfl rfl ?_
    refine vg_22_0 RX8 rfl (by decide) fl_8_9 dX8_segment_52 ?_
    refine vr_bipush 32 dX8_segment_55 (by decide) ?_
    refine vr_iload 4 dX8_segment_57 rfl ?_
    refine vr_iadd dX8_segment_59 ?_
    have hi := h.1
    have h := h.2
    refine vr_ialdQ 3464 ia_23 rfl hi dX8_segment_60 ?_
    refine vr_iconst 1 dX8_segment_61 (by decide) ?_
    refine vr_icmpne 71 dX8_segment_62 (by decide) (fun c62 => ?_) (fun c62 => ?_)
    · have h := h.1 c62
      refine vr_iinc (v4 + 1) 4 [(4, vI (v4 + 1)), (0, vR 22 0), (1, vI x1), (2, vI x2), (3, vI x3)] dX8_segment_65 rfl rfl (by decide) rfl ?_
      refine vr_goto 44 dX8_segment_68 (by decide) ?_
      refine vr_sub [1, 2, 3, 4, 0] [(0, vR 22 0), (1, vI x1), (2, vI x2), (3, vI x3), (4, vI (v4 + 1))] rfl ?_
      exact hX _ h
    · have h := h.2 c62
      exact s_X8_segment_b71   h
  · have h := h.2 c48
    exact s_X8_segment_b71   h
def F_X8_segment (x1 : Int32) (x2 : Int32) (x3 : Int32) (Q : VP) (post : Int32 → VP → Prop) : Prop :=
  (x3 < 0 → post (((-14) : Int32)) Q) ∧ (¬ x3 < 0 → F_X8_isDirectory x1 Q (fun r9 => (r9 = 0 → post (((-1) : Int32)) Q) ∧ (¬ r9 = 0 → F_X8_in (Int32.toInt64 x2) 0 25 Q (fun r21 => (r21 = 0 → post (((-1) : Int32)) Q) ∧ (¬ r21 = 0 → F_X8_in (Int32.toInt64 x3) 1 24 Q (fun r33 => (r33 = 0 → post (((-1) : Int32)) Q) ∧ (¬ r33 = 0 → vL1 (F_X8_segment_l44 x1 x2 x3 Q post  ) ((0 : Int32)))))))))
set_option maxRecDepth 4000 in
theorem s_X8_segment {l : Launch} {g : vG} {x1 : Int32} {x2 : Int32} {x3 : Int32} {P Q : VP} {post : Int32 → VP → Prop}  (h : F_X8_segment x1 x2 x3 Q post) : VC l g yX8_segment cX8_segment 6 (some .int) 3 [vR 22 0, vI x1, vI x2, vI x3] (vjn P Q) (vmI P post) := by
  refine VC.of (by decide +kernel) (Nat.le_of_ble_eq_true rfl) (show VM l g RX8 cX8_segment 6 (some .int) 3 (vmI P post) 0 [(0, vR 22 0), (1, vI x1), (2, vI x2), (3, vI x3)] [] (vjn P Q) from ?_)
  unfold F_X8_segment at h
  refine vr_iload_n 3 3 dX8_segment_0 rfl rfl ?_
  refine vr_ifge 7 dX8_segment_1 (by decide) (fun c1 => ?_) (fun c1 => ?_)
  · have h := h.1 c1
    refine vr_bipush (-14) dX8_segment_4 (by decide) ?_
    exact vr_iret rfl ⟨_, _, rfl, rfl, h⟩ dX8_segment_6
  · have h := h.2 c1
    refine vr_aload_n 0 0 dX8_segment_7 rfl rfl ?_
    refine vr_iload_n 1 1 dX8_segment_8 rfl rfl ?_
    refine vr_callV RX8 (s_X8_isDirectory h) rfl (by decide) rfl rfl rfl ml_8_75 rfl yh_X8_isDirectory rfl ⟨Nat.le_of_ble_eq_true rfl, Nat.le_of_ble_eq_true rfl⟩ (Nat.le_of_ble_eq_true rfl) ⟨Nat.zero_le _, Nat.zero_le _⟩ dX8_segment_9 (ki fun r9 h => ?_)
    refine vr_ifeq 39 dX8_segment_12 (by decide) (fun c12 => ?_) (fun c12 => ?_)
    · have h := h.1 c12
      refine vr_iconst (-1) dX8_segment_39 (by decide) ?_
      exact vr_iret rfl ⟨_, _, rfl, rfl, h⟩ dX8_segment_40
    · have h := h.2 c12
      refine vr_iload_n 2 2 dX8_segment_15 rfl rfl ?_
      refine vr_i2l dX8_segment_16 ?_
      refine vr_lconst 0 dX8_segment_17 (by decide) ?_
      refine vr_ldc2 25 ct_8_79 dX8_segment_18 ?_
      refine vr_callS RX8 (s_X8_in h) rfl rfl ml_8_54 rfl yh_X8_in rfl ⟨Nat.le_of_ble_eq_true rfl, Nat.le_of_ble_eq_true rfl⟩ (Nat.le_of_ble_eq_true rfl) ⟨Nat.zero_le _, Nat.zero_le _⟩ dX8_segment_21 (ki fun r21 h => ?_)
      refine vr_ifeq 39 dX8_segment_24 (by decide) (fun c24 => ?_) (fun c24 => ?_)
      · have h := h.1 c24
        refine vr_iconst (-1) dX8_segment_39 (by decide) ?_
        exact vr_iret rfl ⟨_, _, rfl, rfl, h⟩ dX8_segment_40
      · have h := h.2 c24
        refine vr_iload_n 3 3 dX8_segment_27 rfl rfl ?_
        refine vr_i2l dX8_segment_28 ?_
        refine vr_lconst 1 dX8_segment_29 (by decide) ?_
        refine vr_ldc2 24 ct_8_81 dX8_segment_30 ?_
        refine vr_callS RX8 (s_X8_in h) rfl rfl ml_8_54 rfl yh_X8_in rfl ⟨Nat.le_of_ble_eq_true rfl, Nat.le_of_ble_eq_true rfl⟩ (Nat.le_of_ble_eq_true rfl) ⟨Nat.zero_le _, Nat.zero_le _⟩ dX8_segment_33 (ki fun r33 h => ?_)
        refine vr_ifne 41 dX8_segment_36 (by decide) (fun c36 => ?_) (fun c36 => ?_)
        · have h := h.1 c36
          refine vr_iconst (-1) dX8_segment_39 (by decide) ?_
          exact vr_iret rfl ⟨_, _, rfl, rfl, h⟩ dX8_segment_40
        · have h := h.2 c36
          refine vr_iconst 0 dX8_segment_41 (by decide) ?_
          refine vr_istore [(4, vI 0), (0, vR 22 0), (1, vI x1), (2, vI x2), (3, vI x3)] dX8_segment_42 (by decide) rfl ?_
          refine vr_sub [1, 2, 3, 4, 0] [(0, vR 22 0), (1, vI x1), (2, vI x2), (3, vI x3), (4, vI 0)] rfl ?_
          exact s_X8_segment_l44   h
theorem dX8_drop_0 : decode cX8_drop 0 = .ok (.aload_n 0, 1) := by decide +kernel
theorem dX8_drop_1 : decode cX8_drop 1 = .ok (.iload_n 1, 1) := by decide +kernel
theorem dX8_drop_2 : decode cX8_drop 2 = .ok (.invokevirtual 95, 3) := by decide +kernel
theorem dX8_drop_5 : decode cX8_drop 5 = .ok (.ifCond .ne 5, 3) := by decide +kernel
theorem dX8_drop_8 : decode cX8_drop 8 = .ok (.iconst (-1), 1) := by decide +kernel
theorem dX8_drop_9 : decode cX8_drop 9 = .ok (.ireturn, 1) := by decide +kernel
theorem dX8_drop_10 : decode cX8_drop 10 = .ok (.aload_n 0, 1) := by decide +kernel
theorem dX8_drop_11 : decode cX8_drop 11 = .ok (.getfield 9, 3) := by decide +kernel
theorem dX8_drop_14 : decode cX8_drop 14 = .ok (.bipush 32, 2) := by decide +kernel
theorem dX8_drop_16 : decode cX8_drop 16 = .ok (.iload_n 1, 1) := by decide +kernel
theorem dX8_drop_17 : decode cX8_drop 17 = .ok (.iadd, 1) := by decide +kernel
theorem dX8_drop_18 : decode cX8_drop 18 = .ok (.iconst 0, 1) := by decide +kernel
theorem dX8_drop_19 : decode cX8_drop 19 = .ok (.iastore, 1) := by decide +kernel
theorem dX8_drop_20 : decode cX8_drop 20 = .ok (.aload_n 0, 1) := by decide +kernel
theorem dX8_drop_21 : decode cX8_drop 21 = .ok (.getfield 9, 3) := by decide +kernel
theorem dX8_drop_24 : decode cX8_drop 24 = .ok (.bipush 96, 2) := by decide +kernel
theorem dX8_drop_26 : decode cX8_drop 26 = .ok (.iload_n 1, 1) := by decide +kernel
theorem dX8_drop_27 : decode cX8_drop 27 = .ok (.iadd, 1) := by decide +kernel
theorem dX8_drop_28 : decode cX8_drop 28 = .ok (.iaload, 1) := by decide +kernel
theorem dX8_drop_29 : decode cX8_drop 29 = .ok (.invokestatic 68, 3) := by decide +kernel
theorem dX8_drop_32 : decode cX8_drop 32 = .ok (.ireturn, 1) := by decide +kernel
def F_X8_drop (x1 : Int32) (Q : VP) (post : Int32 → VP → Prop) : Prop :=
  F_X8_isSegment x1 Q (fun r2 => (r2 = 0 → post (((-1) : Int32)) Q) ∧ (¬ r2 = 0 → (0 ≤ 32 + x1 ∧ 32 + x1 < 3464) ∧ (∀ Q19 : VP, Q19 = vup Q 23 0 (ix (32 + x1)) 0 → ((0 ≤ 96 + x1 ∧ 96 + x1 < 3464) ∧ (F_X8_records (Q19 23 0 (ix (96 + x1))) Q19 (fun r29 => post r29 Q19))))))
set_option maxRecDepth 4000 in
theorem s_X8_drop {l : Launch} {g : vG} {x1 : Int32} {P Q : VP} {post : Int32 → VP → Prop}  (h : F_X8_drop x1 Q post) : VC l g yX8_drop cX8_drop 2 (some .int) 3 [vR 22 0, vI x1] (vjn P Q) (vmI P post) := by
  refine VC.of (by decide +kernel) (Nat.le_of_ble_eq_true rfl) (show VM l g RX8 cX8_drop 2 (some .int) 3 (vmI P post) 0 [(0, vR 22 0), (1, vI x1)] [] (vjn P Q) from ?_)
  unfold F_X8_drop at h
  refine vr_aload_n 0 0 dX8_drop_0 rfl rfl ?_
  refine vr_iload_n 1 1 dX8_drop_1 rfl rfl ?_
  refine vr_callV RX8 (s_X8_isSegment h) rfl (by decide) rfl rfl rfl ml_8_95 rfl yh_X8_isSegment rfl ⟨Nat.le_of_ble_eq_true rfl, Nat.le_of_ble_eq_true rfl⟩ (Nat.le_of_ble_eq_true rfl) ⟨Nat.zero_le _, Nat.zero_le _⟩ dX8_drop_2 (ki fun r2 h => ?_)
  refine vr_ifne 10 dX8_drop_5 (by decide) (fun c5 => ?_) (fun c5 => ?_)
  · have h := h.1 c5
    refine vr_iconst (-1) dX8_drop_8 (by decide) ?_
    exact vr_iret rfl ⟨_, _, rfl, rfl, h⟩ dX8_drop_9
  · have h := h.2 c5
    refine vr_aload_n 0 0 dX8_drop_10 rfl rfl ?_
    refine vg_22_0 RX8 rfl (by decide) fl_8_9 dX8_drop_11 ?_
    refine vr_bipush 32 dX8_drop_14 (by decide) ?_
    refine vr_iload_n 1 1 dX8_drop_16 rfl rfl ?_
    refine vr_iadd dX8_drop_17 ?_
    refine vr_iconst 0 dX8_drop_18 (by decide) ?_
    have hi := h.1
    have h := h.2
    obtain ⟨Q19, eQ19⟩ : ∃ y : VP, y = vup Q 23 0 (ix (32 + x1)) 0 := ⟨_, rfl⟩
    have h := h Q19 eQ19
    refine vr_iastQ 3464 ia_23 rfl hi eQ19 dX8_drop_19 ?_
    refine vr_aload_n 0 0 dX8_drop_20 rfl rfl ?_
    refine vg_22_0 RX8 rfl (by decide) fl_8_9 dX8_drop_21 ?_
    refine vr_bipush 96 dX8_drop_24 (by decide) ?_
    refine vr_iload_n 1 1 dX8_drop_26 rfl rfl ?_
    refine vr_iadd dX8_drop_27 ?_
    have hi := h.1
    have h := h.2
    refine vr_ialdQ 3464 ia_23 rfl hi dX8_drop_28 ?_
    refine vr_callS RX8 (s_X8_records h) rfl rfl ml_8_68 rfl yh_X8_records rfl ⟨Nat.le_of_ble_eq_true rfl, Nat.le_of_ble_eq_true rfl⟩ (Nat.le_of_ble_eq_true rfl) ⟨Nat.zero_le _, Nat.zero_le _⟩ dX8_drop_29 (ki fun r29 h => ?_)
    exact vr_iret rfl ⟨_, _, rfl, rfl, h⟩ dX8_drop_32
theorem dX8_resize_0 : decode cX8_resize 0 = .ok (.iload_n 2, 1) := by decide +kernel
theorem dX8_resize_1 : decode cX8_resize 1 = .ok (.ifCond .ge 6, 3) := by decide +kernel
theorem dX8_resize_4 : decode cX8_resize 4 = .ok (.bipush (-14), 2) := by decide +kernel
theorem dX8_resize_6 : decode cX8_resize 6 = .ok (.ireturn, 1) := by decide +kernel
theorem dX8_resize_7 : decode cX8_resize 7 = .ok (.aload_n 0, 1) := by decide +kernel
theorem dX8_resize_8 : decode cX8_resize 8 = .ok (.iload_n 1, 1) := by decide +kernel
theorem dX8_resize_9 : decode cX8_resize 9 = .ok (.invokevirtual 95, 3) := by decide +kernel
theorem dX8_resize_12 : decode cX8_resize 12 = .ok (.ifCond .eq 15, 3) := by decide +kernel
theorem dX8_resize_15 : decode cX8_resize 15 = .ok (.iload_n 2, 1) := by decide +kernel
theorem dX8_resize_16 : decode cX8_resize 16 = .ok (.i2l, 1) := by decide +kernel
theorem dX8_resize_17 : decode cX8_resize 17 = .ok (.lconst 1, 1) := by decide +kernel
theorem dX8_resize_18 : decode cX8_resize 18 = .ok (.ldc2_w 81, 3) := by decide +kernel
theorem dX8_resize_21 : decode cX8_resize 21 = .ok (.invokestatic 54, 3) := by decide +kernel
theorem dX8_resize_24 : decode cX8_resize 24 = .ok (.ifCond .ne 5, 3) := by decide +kernel
theorem dX8_resize_27 : decode cX8_resize 27 = .ok (.iconst (-1), 1) := by decide +kernel
theorem dX8_resize_28 : decode cX8_resize 28 = .ok (.ireturn, 1) := by decide +kernel
theorem dX8_resize_29 : decode cX8_resize 29 = .ok (.aload_n 0, 1) := by decide +kernel
theorem dX8_resize_30 : decode cX8_resize 30 = .ok (.getfield 9, 3) := by decide +kernel
theorem dX8_resize_33 : decode cX8_resize 33 = .ok (.bipush 96, 2) := by decide +kernel
theorem dX8_resize_35 : decode cX8_resize 35 = .ok (.iload_n 1, 1) := by decide +kernel
theorem dX8_resize_36 : decode cX8_resize 36 = .ok (.iadd, 1) := by decide +kernel
theorem dX8_resize_37 : decode cX8_resize 37 = .ok (.iaload, 1) := by decide +kernel
theorem dX8_resize_38 : decode cX8_resize 38 = .ok (.istore_n 3, 1) := by decide +kernel
theorem dX8_resize_39 : decode cX8_resize 39 = .ok (.iload_n 2, 1) := by decide +kernel
theorem dX8_resize_40 : decode cX8_resize 40 = .ok (.invokestatic 68, 3) := by decide +kernel
theorem dX8_resize_43 : decode cX8_resize 43 = .ok (.iload_n 3, 1) := by decide +kernel
theorem dX8_resize_44 : decode cX8_resize 44 = .ok (.invokestatic 68, 3) := by decide +kernel
theorem dX8_resize_47 : decode cX8_resize 47 = .ok (.isub, 1) := by decide +kernel
theorem dX8_resize_48 : decode cX8_resize 48 = .ok (.istore 4, 2) := by decide +kernel
theorem dX8_resize_50 : decode cX8_resize 50 = .ok (.iload 4, 2) := by decide +kernel
theorem dX8_resize_52 : decode cX8_resize 52 = .ok (.ifCond .le 24, 3) := by decide +kernel
theorem dX8_resize_55 : decode cX8_resize 55 = .ok (.aload_n 0, 1) := by decide +kernel
theorem dX8_resize_56 : decode cX8_resize 56 = .ok (.aload_n 0, 1) := by decide +kernel
theorem dX8_resize_57 : decode cX8_resize 57 = .ok (.getfield 9, 3) := by decide +kernel
theorem dX8_resize_60 : decode cX8_resize 60 = .ok (.bipush 48, 2) := by decide +kernel
theorem dX8_resize_62 : decode cX8_resize 62 = .ok (.iload_n 1, 1) := by decide +kernel
theorem dX8_resize_63 : decode cX8_resize 63 = .ok (.iadd, 1) := by decide +kernel
theorem dX8_resize_64 : decode cX8_resize 64 = .ok (.iaload, 1) := by decide +kernel
theorem dX8_resize_65 : decode cX8_resize 65 = .ok (.iload 4, 2) := by decide +kernel
theorem dX8_resize_67 : decode cX8_resize 67 = .ok (.invokevirtual 87, 3) := by decide +kernel
theorem dX8_resize_70 : decode cX8_resize 70 = .ok (.ifCond .ne 6, 3) := by decide +kernel
theorem dX8_resize_73 : decode cX8_resize 73 = .ok (.bipush (-5), 2) := by decide +kernel
theorem dX8_resize_75 : decode cX8_resize 75 = .ok (.ireturn, 1) := by decide +kernel
theorem dX8_resize_76 : decode cX8_resize 76 = .ok (.aload_n 0, 1) := by decide +kernel
theorem dX8_resize_77 : decode cX8_resize 77 = .ok (.getfield 9, 3) := by decide +kernel
theorem dX8_resize_80 : decode cX8_resize 80 = .ok (.bipush 96, 2) := by decide +kernel
theorem dX8_resize_82 : decode cX8_resize 82 = .ok (.iload_n 1, 1) := by decide +kernel
theorem dX8_resize_83 : decode cX8_resize 83 = .ok (.iadd, 1) := by decide +kernel
theorem dX8_resize_84 : decode cX8_resize 84 = .ok (.iload_n 2, 1) := by decide +kernel
theorem dX8_resize_85 : decode cX8_resize 85 = .ok (.iastore, 1) := by decide +kernel
theorem dX8_resize_86 : decode cX8_resize 86 = .ok (.aload_n 0, 1) := by decide +kernel
theorem dX8_resize_87 : decode cX8_resize 87 = .ok (.getfield 9, 3) := by decide +kernel
theorem dX8_resize_90 : decode cX8_resize 90 = .ok (.sipush 176, 3) := by decide +kernel
theorem dX8_resize_93 : decode cX8_resize 93 = .ok (.iload_n 1, 1) := by decide +kernel
theorem dX8_resize_94 : decode cX8_resize 94 = .ok (.iadd, 1) := by decide +kernel
theorem dX8_resize_95 : decode cX8_resize 95 = .ok (.iload_n 2, 1) := by decide +kernel
theorem dX8_resize_96 : decode cX8_resize 96 = .ok (.aload_n 0, 1) := by decide +kernel
theorem dX8_resize_97 : decode cX8_resize 97 = .ok (.getfield 9, 3) := by decide +kernel
theorem dX8_resize_100 : decode cX8_resize 100 = .ok (.sipush 176, 3) := by decide +kernel
theorem dX8_resize_103 : decode cX8_resize 103 = .ok (.iload_n 1, 1) := by decide +kernel
theorem dX8_resize_104 : decode cX8_resize 104 = .ok (.iadd, 1) := by decide +kernel
theorem dX8_resize_105 : decode cX8_resize 105 = .ok (.iaload, 1) := by decide +kernel
theorem dX8_resize_106 : decode cX8_resize 106 = .ok (.invokestatic 98, 3) := by decide +kernel
theorem dX8_resize_109 : decode cX8_resize 109 = .ok (.iastore, 1) := by decide +kernel
theorem dX8_resize_110 : decode cX8_resize 110 = .ok (.iload_n 2, 1) := by decide +kernel
theorem dX8_resize_111 : decode cX8_resize 111 = .ok (.istore 5, 2) := by decide +kernel
theorem dX8_resize_113 : decode cX8_resize 113 = .ok (.iload 5, 2) := by decide +kernel
theorem dX8_resize_115 : decode cX8_resize 115 = .ok (.bipush 24, 2) := by decide +kernel
theorem dX8_resize_117 : decode cX8_resize 117 = .ok (.if_icmp .ge 25, 3) := by decide +kernel
theorem dX8_resize_120 : decode cX8_resize 120 = .ok (.aload_n 0, 1) := by decide +kernel
theorem dX8_resize_121 : decode cX8_resize 121 = .ok (.getfield 9, 3) := by decide +kernel
theorem dX8_resize_124 : decode cX8_resize 124 = .ok (.iload_n 1, 1) := by decide +kernel
theorem dX8_resize_125 : decode cX8_resize 125 = .ok (.iload 5, 2) := by decide +kernel
theorem dX8_resize_127 : decode cX8_resize 127 = .ok (.iconst 0, 1) := by decide +kernel
theorem dX8_resize_128 : decode cX8_resize 128 = .ok (.iconst 0, 1) := by decide +kernel
theorem dX8_resize_129 : decode cX8_resize 129 = .ok (.iconst 0, 1) := by decide +kernel
theorem dX8_resize_130 : decode cX8_resize 130 = .ok (.iconst 0, 1) := by decide +kernel
theorem dX8_resize_131 : decode cX8_resize 131 = .ok (.iconst 0, 1) := by decide +kernel
theorem dX8_resize_132 : decode cX8_resize 132 = .ok (.iconst 0, 1) := by decide +kernel
theorem dX8_resize_133 : decode cX8_resize 133 = .ok (.invokestatic 91, 3) := by decide +kernel
theorem dX8_resize_136 : decode cX8_resize 136 = .ok (.iinc 5 1, 3) := by decide +kernel
theorem dX8_resize_139 : decode cX8_resize 139 = .ok (.goto (-26), 3) := by decide +kernel
theorem dX8_resize_142 : decode cX8_resize 142 = .ok (.iload_n 3, 1) := by decide +kernel
theorem dX8_resize_143 : decode cX8_resize 143 = .ok (.ireturn, 1) := by decide +kernel
def F_X8_resize_l113 (x1 : Int32) (x2 : Int32)  (post : Int32 → VP → Prop)  (v3 : Int32) (X : Int32 → VP → Prop) (v5 : Int32) (Q : VP) : Prop :=
  (v5 < 24 → F_X8_writes 23 x1 v5 ((0 : Int32)) ((0 : Int32)) ((0 : Int32)) ((0 : Int32)) ((0 : Int32)) ((0 : Int32)) Q (fun Q133 => X (v5 + 1) Q133)) ∧ (¬ v5 < 24 → post v3 Q)
set_option maxRecDepth 4000 in
theorem s_X8_resize_l113 {l : Launch} {g : vG} {x1 : Int32} {x2 : Int32} {P : VP} {post : Int32 → VP → Prop}  {v3 : Int32}  {v5 : Int32} {Q : VP}   (h : vL2 (F_X8_resize_l113 x1 x2  post  v3) v5 Q) : VM l g RX8 cX8_resize 6 (some .int) 3 (vmI P post) 113 [(0, vR 22 0), (1, vI x1), (3, vI v3), (5, vI v5)] [] (vjn P Q) := by
  refine vL2_s (T := fun v5 Q => VM l g RX8 cX8_resize 6 (some .int) 3 (vmI P post) 113 [(0, vR 22 0), (1, vI x1), (3, vI v3), (5, vI v5)] [] (vjn P Q)) ?_ h
  clear h
  intro X hX v5 Q h
  unfold F_X8_resize_l113 at h
  refine vr_iload 3 dX8_resize_113 rfl ?_
  refine vr_bipush 24 dX8_resize_115 (by decide) ?_
  refine vr_icmpge 142 dX8_resize_117 (by decide) (fun c117 => ?_) (fun c117 => ?_)
  · have h := h.1 c117
    refine vr_aload_n 0 0 dX8_resize_120 rfl rfl ?_
    refine vg_22_0 RX8 rfl (by decide) fl_8_9 dX8_resize_121 ?_
    refine vr_iload_n 1 1 dX8_resize_124 rfl rfl ?_
    refine vr_iload 3 dX8_resize_125 rfl ?_
    refine vr_iconst 0 dX8_resize_127 (by decide) ?_
    refine vr_iconst 0 dX8_resize_128 (by decide) ?_
    refine vr_iconst 0 dX8_resize_129 (by decide) ?_
    refine vr_iconst 0 dX8_resize_130 (by decide) ?_
    refine vr_iconst 0 dX8_resize_131 (by decide) ?_
    refine vr_iconst 0 dX8_resize_132 (by decide) ?_
    refine vr_callS RX8 (s_X8_writes ia_23 h) rfl rfl ml_8_91 rfl yh_X8_writes rfl ⟨Nat.le_of_ble_eq_true rfl, Nat.le_of_ble_eq_true rfl⟩ (Nat.le_of_ble_eq_true rfl) ⟨Nat.zero_le _, Nat.zero_le _⟩ dX8_resize_133 (kmv fun Q133 h => ?_)
    refine vr_iinc (v5 + 1) 3 [(5, vI (v5 + 1)), (0, vR 22 0), (1, vI x1), (3, vI v3)] dX8_resize_136 rfl rfl (by decide) rfl ?_
    refine vr_goto 113 dX8_resize_139 (by decide) ?_
    refine vr_sub [1, 2, 3, 0] [(0, vR 22 0), (1, vI x1), (3, vI v3), (5, vI (v5 + 1))] rfl ?_
    exact hX _ _ h
  · have h := h.2 c117
    refine vr_iload_n 3 2 dX8_resize_142 rfl rfl ?_
    exact vr_iret rfl ⟨_, _, rfl, rfl, h⟩ dX8_resize_143
def F_X8_resize_b76 (x1 : Int32) (x2 : Int32) (Q : VP) (post : Int32 → VP → Prop)  (v3 : Int32) : Prop :=
  (0 ≤ 96 + x1 ∧ 96 + x1 < 3464) ∧ (∀ Q85 : VP, Q85 = vup Q 23 0 (ix (96 + x1)) x2 → ((0 ≤ 176 + x1 ∧ 176 + x1 < 3464) ∧ ((0 ≤ 176 + x1 ∧ 176 + x1 < 3464) ∧ (∀ Q109 : VP, Q109 = vup Q85 23 0 (ix (176 + x1)) (imin x2 (Q85 23 0 (ix (176 + x1)))) → (vL2 (F_X8_resize_l113 x1 x2  post  v3) x2 Q109)))))
set_option maxRecDepth 4000 in
theorem s_X8_resize_b76 {l : Launch} {g : vG} {x1 : Int32} {x2 : Int32} {P Q : VP} {post : Int32 → VP → Prop}  {v3 : Int32}    (h : F_X8_resize_b76 x1 x2 Q post  v3) : VM l g RX8 cX8_resize 6 (some .int) 3 (vmI P post) 76 [(0, vR 22 0), (1, vI x1), (2, vI x2), (3, vI v3)] [] (vjn P Q) := by
  unfold F_X8_resize_b76 at h
  refine vr_aload_n 0 0 dX8_resize_76 rfl rfl ?_
  refine vg_22_0 RX8 rfl (by decide) fl_8_9 dX8_resize_77 ?_
  refine vr_bipush 96 dX8_resize_80 (by decide) ?_
  refine vr_iload_n 1 1 dX8_resize_82 rfl rfl ?_
  refine vr_iadd dX8_resize_83 ?_
  refine vr_iload_n 2 2 dX8_resize_84 rfl rfl ?_
  have hi := h.1
  have h := h.2
  obtain ⟨Q85, eQ85⟩ : ∃ y : VP, y = vup Q 23 0 (ix (96 + x1)) x2 := ⟨_, rfl⟩
  have h := h Q85 eQ85
  refine vr_iastQ 3464 ia_23 rfl hi eQ85 dX8_resize_85 ?_
  refine vr_aload_n 0 0 dX8_resize_86 rfl rfl ?_
  refine vg_22_0 RX8 rfl (by decide) fl_8_9 dX8_resize_87 ?_
  refine vr_sipush 176 dX8_resize_90 (by decide) ?_
  refine vr_iload_n 1 1 dX8_resize_93 rfl rfl ?_
  refine vr_iadd dX8_resize_94 ?_
  refine vr_iload_n 2 2 dX8_resize_95 rfl rfl ?_
  refine vr_aload_n 0 0 dX8_resize_96 rfl rfl ?_
  refine vg_22_0 RX8 rfl (by decide) fl_8_9 dX8_resize_97 ?_
  refine vr_sipush 176 dX8_resize_100 (by decide) ?_
  refine vr_iload_n 1 1 dX8_resize_103 rfl rfl ?_
  refine vr_iadd dX8_resize_104 ?_
  have hi := h.1
  have h := h.2
  refine vr_ialdQ 3464 ia_23 rfl hi dX8_resize_105 ?_
  refine vr_min mk_8_98 mm_min ⟨Nat.le_of_ble_eq_true rfl, Nat.le_of_ble_eq_true rfl⟩ ⟨Nat.zero_le _, Nat.zero_le _⟩ dX8_resize_106 ?_
  have hi := h.1
  have h := h.2
  obtain ⟨Q109, eQ109⟩ : ∃ y : VP, y = vup Q85 23 0 (ix (176 + x1)) (imin x2 (Q85 23 0 (ix (176 + x1)))) := ⟨_, rfl⟩
  have h := h Q109 eQ109
  refine vr_iastQ 3464 ia_23 rfl hi eQ109 dX8_resize_109 ?_
  refine vr_iload_n 2 2 dX8_resize_110 rfl rfl ?_
  refine vr_istore [(5, vI x2), (0, vR 22 0), (1, vI x1), (2, vI x2), (3, vI v3)] dX8_resize_111 (by decide) rfl ?_
  refine vr_sub [1, 2, 4, 0] [(0, vR 22 0), (1, vI x1), (3, vI v3), (5, vI x2)] rfl ?_
  exact s_X8_resize_l113   h
def F_X8_resize (x1 : Int32) (x2 : Int32) (Q : VP) (post : Int32 → VP → Prop) : Prop :=
  (x2 < 0 → post (((-14) : Int32)) Q) ∧ (¬ x2 < 0 → F_X8_isSegment x1 Q (fun r9 => (r9 = 0 → post (((-1) : Int32)) Q) ∧ (¬ r9 = 0 → F_X8_in (Int32.toInt64 x2) 1 24 Q (fun r21 => (r21 = 0 → post (((-1) : Int32)) Q) ∧ (¬ r21 = 0 → (0 ≤ 96 + x1 ∧ 96 + x1 < 3464) ∧ (F_X8_records x2 Q (fun r40 => F_X8_records (Q 23 0 (ix (96 + x1))) Q (fun r44 => (0 < r40 - r44 → (0 ≤ 48 + x1 ∧ 48 + x1 < 3464) ∧ (F_X8_hasRoom (Q 23 0 (ix (48 + x1))) (r40 - r44) Q (fun r67 => (r67 = 0 → post (((-5) : Int32)) Q) ∧ (¬ r67 = 0 → F_X8_resize_b76 x1 x2 Q post  (Q 23 0 (ix (96 + x1))))))) ∧ (¬ 0 < r40 - r44 → F_X8_resize_b76 x1 x2 Q post  (Q 23 0 (ix (96 + x1))))))))))))
set_option maxRecDepth 4000 in
theorem s_X8_resize {l : Launch} {g : vG} {x1 : Int32} {x2 : Int32} {P Q : VP} {post : Int32 → VP → Prop}  (h : F_X8_resize x1 x2 Q post) : VC l g yX8_resize cX8_resize 6 (some .int) 3 [vR 22 0, vI x1, vI x2] (vjn P Q) (vmI P post) := by
  refine VC.of (by decide +kernel) (Nat.le_of_ble_eq_true rfl) (show VM l g RX8 cX8_resize 6 (some .int) 3 (vmI P post) 0 [(0, vR 22 0), (1, vI x1), (2, vI x2)] [] (vjn P Q) from ?_)
  unfold F_X8_resize at h
  refine vr_iload_n 2 2 dX8_resize_0 rfl rfl ?_
  refine vr_ifge 7 dX8_resize_1 (by decide) (fun c1 => ?_) (fun c1 => ?_)
  · have h := h.1 c1
    refine vr_bipush (-14) dX8_resize_4 (by decide) ?_
    exact vr_iret rfl ⟨_, _, rfl, rfl, h⟩ dX8_resize_6
  · have h := h.2 c1
    refine vr_aload_n 0 0 dX8_resize_7 rfl rfl ?_
    refine vr_iload_n 1 1 dX8_resize_8 rfl rfl ?_
    refine vr_callV RX8 (s_X8_isSegment h) rfl (by decide) rfl rfl rfl ml_8_95 rfl yh_X8_isSegment rfl ⟨Nat.le_of_ble_eq_true rfl, Nat.le_of_ble_eq_true rfl⟩ (Nat.le_of_ble_eq_true rfl) ⟨Nat.zero_le _, Nat.zero_le _⟩ dX8_resize_9 (ki fun r9 h => ?_)
    refine vr_ifeq 27 dX8_resize_12 (by decide) (fun c12 => ?_) (fun c12 => ?_)
    · have h := h.1 c12
      refine vr_iconst (-1) dX8_resize_27 (by decide) ?_
      exact vr_iret rfl ⟨_, _, rfl, rfl, h⟩ dX8_resize_28
    · have h := h.2 c12
      refine vr_iload_n 2 2 dX8_resize_15 rfl rfl ?_
      refine vr_i2l dX8_resize_16 ?_
      refine vr_lconst 1 dX8_resize_17 (by decide) ?_
      refine vr_ldc2 24 ct_8_81 dX8_resize_18 ?_
      refine vr_callS RX8 (s_X8_in h) rfl rfl ml_8_54 rfl yh_X8_in rfl ⟨Nat.le_of_ble_eq_true rfl, Nat.le_of_ble_eq_true rfl⟩ (Nat.le_of_ble_eq_true rfl) ⟨Nat.zero_le _, Nat.zero_le _⟩ dX8_resize_21 (ki fun r21 h => ?_)
      refine vr_ifne 29 dX8_resize_24 (by decide) (fun c24 => ?_) (fun c24 => ?_)
      · have h := h.1 c24
        refine vr_iconst (-1) dX8_resize_27 (by decide) ?_
        exact vr_iret rfl ⟨_, _, rfl, rfl, h⟩ dX8_resize_28
      · have h := h.2 c24
        refine vr_aload_n 0 0 dX8_resize_29 rfl rfl ?_
        refine vg_22_0 RX8 rfl (by decide) fl_8_9 dX8_resize_30 ?_
        refine vr_bipush 96 dX8_resize_33 (by decide) ?_
        refine vr_iload_n 1 1 dX8_resize_35 rfl rfl ?_
        refine vr_iadd dX8_resize_36 ?_
        have hi := h.1
        have h := h.2
        refine vr_ialdQ 3464 ia_23 rfl hi dX8_resize_37 ?_
        refine vr_istore_n 3 [(3, vI (Q 23 0 (ix (96 + x1)))), (0, vR 22 0), (1, vI x1), (2, vI x2)] dX8_resize_38 rfl (by decide) rfl ?_
        refine vr_iload_n 2 3 dX8_resize_39 rfl rfl ?_
        refine vr_callS RX8 (s_X8_records h) rfl rfl ml_8_68 rfl yh_X8_records rfl ⟨Nat.le_of_ble_eq_true rfl, Nat.le_of_ble_eq_true rfl⟩ (Nat.le_of_ble_eq_true rfl) ⟨Nat.zero_le _, Nat.zero_le _⟩ dX8_resize_40 (ki fun r40 h => ?_)
        refine vr_iload_n 3 0 dX8_resize_43 rfl rfl ?_
        refine vr_callS RX8 (s_X8_records h) rfl rfl ml_8_68 rfl yh_X8_records rfl ⟨Nat.le_of_ble_eq_true rfl, Nat.le_of_ble_eq_true rfl⟩ (Nat.le_of_ble_eq_true rfl) ⟨Nat.zero_le _, Nat.zero_le _⟩ dX8_resize_44 (ki fun r44 h => ?_)
        refine vr_isub dX8_resize_47 ?_
        refine vr_istore [(4, vI (r40 - r44)), (3, vI (Q 23 0 (ix (96 + x1)))), (0, vR 22 0), (1, vI x1), (2, vI x2)] dX8_resize_48 (by decide) rfl ?_
        refine vr_iload 0 dX8_resize_50 rfl ?_
        refine vr_ifle 76 dX8_resize_52 (by decide) (fun c52 => ?_) (fun c52 => ?_)
        · have h := h.1 c52
          refine vr_aload_n 0 2 dX8_resize_55 rfl rfl ?_
          refine vr_aload_n 0 2 dX8_resize_56 rfl rfl ?_
          refine vg_22_0 RX8 rfl (by decide) fl_8_9 dX8_resize_57 ?_
          refine vr_bipush 48 dX8_resize_60 (by decide) ?_
          refine vr_iload_n 1 3 dX8_resize_62 rfl rfl ?_
          refine vr_iadd dX8_resize_63 ?_
          have hi := h.1
          have h := h.2
          refine vr_ialdQ 3464 ia_23 rfl hi dX8_resize_64 ?_
          refine vr_iload 0 dX8_resize_65 rfl ?_
          refine vr_callV RX8 (s_X8_hasRoom h) rfl (by decide) rfl rfl rfl ml_8_87 rfl yh_X8_hasRoom rfl ⟨Nat.le_of_ble_eq_true rfl, Nat.le_of_ble_eq_true rfl⟩ (Nat.le_of_ble_eq_true rfl) ⟨Nat.zero_le _, Nat.zero_le _⟩ dX8_resize_67 (ki fun r67 h => ?_)
          refine vr_ifne 76 dX8_resize_70 (by decide) (fun c70 => ?_) (fun c70 => ?_)
          · have h := h.1 c70
            refine vr_bipush (-5) dX8_resize_73 (by decide) ?_
            exact vr_iret rfl ⟨_, _, rfl, rfl, h⟩ dX8_resize_75
          · have h := h.2 c70
            refine vr_sub [2, 3, 4, 1] [(0, vR 22 0), (1, vI x1), (2, vI x2), (3, vI (Q 23 0 (ix (96 + x1))))] rfl ?_
            exact s_X8_resize_b76   h
        · have h := h.2 c52
          refine vr_sub [2, 3, 4, 1] [(0, vR 22 0), (1, vI x1), (2, vI x2), (3, vI (Q 23 0 (ix (96 + x1))))] rfl ?_
          exact s_X8_resize_b76   h
theorem dX8_rename_0 : decode cX8_rename 0 = .ok (.aload_n 0, 1) := by decide +kernel
theorem dX8_rename_1 : decode cX8_rename 1 = .ok (.iload_n 1, 1) := by decide +kernel
theorem dX8_rename_2 : decode cX8_rename 2 = .ok (.invokevirtual 95, 3) := by decide +kernel
theorem dX8_rename_5 : decode cX8_rename 5 = .ok (.ifCond .eq 15, 3) := by decide +kernel
theorem dX8_rename_8 : decode cX8_rename 8 = .ok (.iload_n 2, 1) := by decide +kernel
theorem dX8_rename_9 : decode cX8_rename 9 = .ok (.i2l, 1) := by decide +kernel
theorem dX8_rename_10 : decode cX8_rename 10 = .ok (.lconst 0, 1) := by decide +kernel
theorem dX8_rename_11 : decode cX8_rename 11 = .ok (.ldc2_w 79, 3) := by decide +kernel
theorem dX8_rename_14 : decode cX8_rename 14 = .ok (.invokestatic 54, 3) := by decide +kernel
theorem dX8_rename_17 : decode cX8_rename 17 = .ok (.ifCond .ne 5, 3) := by decide +kernel
theorem dX8_rename_20 : decode cX8_rename 20 = .ok (.iconst (-1), 1) := by decide +kernel
theorem dX8_rename_21 : decode cX8_rename 21 = .ok (.ireturn, 1) := by decide +kernel
theorem dX8_rename_22 : decode cX8_rename 22 = .ok (.aload_n 0, 1) := by decide +kernel
theorem dX8_rename_23 : decode cX8_rename 23 = .ok (.aload_n 0, 1) := by decide +kernel
theorem dX8_rename_24 : decode cX8_rename 24 = .ok (.getfield 9, 3) := by decide +kernel
theorem dX8_rename_27 : decode cX8_rename 27 = .ok (.bipush 48, 2) := by decide +kernel
theorem dX8_rename_29 : decode cX8_rename 29 = .ok (.iload_n 1, 1) := by decide +kernel
theorem dX8_rename_30 : decode cX8_rename 30 = .ok (.iadd, 1) := by decide +kernel
theorem dX8_rename_31 : decode cX8_rename 31 = .ok (.iaload, 1) := by decide +kernel
theorem dX8_rename_32 : decode cX8_rename 32 = .ok (.iload_n 2, 1) := by decide +kernel
theorem dX8_rename_33 : decode cX8_rename 33 = .ok (.invokevirtual 83, 3) := by decide +kernel
theorem dX8_rename_36 : decode cX8_rename 36 = .ok (.istore_n 3, 1) := by decide +kernel
theorem dX8_rename_37 : decode cX8_rename 37 = .ok (.iload_n 3, 1) := by decide +kernel
theorem dX8_rename_38 : decode cX8_rename 38 = .ok (.ifCond .lt 11, 3) := by decide +kernel
theorem dX8_rename_41 : decode cX8_rename 41 = .ok (.iload_n 3, 1) := by decide +kernel
theorem dX8_rename_42 : decode cX8_rename 42 = .ok (.iload_n 1, 1) := by decide +kernel
theorem dX8_rename_43 : decode cX8_rename 43 = .ok (.if_icmp .eq 6, 3) := by decide +kernel
theorem dX8_rename_46 : decode cX8_rename 46 = .ok (.bipush (-5), 2) := by decide +kernel
theorem dX8_rename_48 : decode cX8_rename 48 = .ok (.ireturn, 1) := by decide +kernel
theorem dX8_rename_49 : decode cX8_rename 49 = .ok (.aload_n 0, 1) := by decide +kernel
theorem dX8_rename_50 : decode cX8_rename 50 = .ok (.getfield 9, 3) := by decide +kernel
theorem dX8_rename_53 : decode cX8_rename 53 = .ok (.bipush 64, 2) := by decide +kernel
theorem dX8_rename_55 : decode cX8_rename 55 = .ok (.iload_n 1, 1) := by decide +kernel
theorem dX8_rename_56 : decode cX8_rename 56 = .ok (.iadd, 1) := by decide +kernel
theorem dX8_rename_57 : decode cX8_rename 57 = .ok (.iaload, 1) := by decide +kernel
theorem dX8_rename_58 : decode cX8_rename 58 = .ok (.istore 4, 2) := by decide +kernel
theorem dX8_rename_60 : decode cX8_rename 60 = .ok (.aload_n 0, 1) := by decide +kernel
theorem dX8_rename_61 : decode cX8_rename 61 = .ok (.getfield 9, 3) := by decide +kernel
theorem dX8_rename_64 : decode cX8_rename 64 = .ok (.bipush 64, 2) := by decide +kernel
theorem dX8_rename_66 : decode cX8_rename 66 = .ok (.iload_n 1, 1) := by decide +kernel
theorem dX8_rename_67 : decode cX8_rename 67 = .ok (.iadd, 1) := by decide +kernel
theorem dX8_rename_68 : decode cX8_rename 68 = .ok (.iload_n 2, 1) := by decide +kernel
theorem dX8_rename_69 : decode cX8_rename 69 = .ok (.iastore, 1) := by decide +kernel
theorem dX8_rename_70 : decode cX8_rename 70 = .ok (.iload 4, 2) := by decide +kernel
theorem dX8_rename_72 : decode cX8_rename 72 = .ok (.ireturn, 1) := by decide +kernel
def F_X8_rename_b49 (x1 : Int32) (x2 : Int32) (Q : VP) (post : Int32 → VP → Prop)   : Prop :=
  (0 ≤ 64 + x1 ∧ 64 + x1 < 3464) ∧ ((0 ≤ 64 + x1 ∧ 64 + x1 < 3464) ∧ (∀ Q69 : VP, Q69 = vup Q 23 0 (ix (64 + x1)) x2 → (post (Q 23 0 (ix (64 + x1))) Q69)))
set_option maxRecDepth 4000 in
theorem s_X8_rename_b49 {l : Launch} {g : vG} {x1 : Int32} {x2 : Int32} {P Q : VP} {post : Int32 → VP → Prop}      (h : F_X8_rename_b49 x1 x2 Q post  ) : VM l g RX8 cX8_rename 5 (some .int) 3 (vmI P post) 49 [(0, vR 22 0), (1, vI x1), (2, vI x2)] [] (vjn P Q) := by
  unfold F_X8_rename_b49 at h
  refine vr_aload_n 0 0 dX8_rename_49 rfl rfl ?_
  refine vg_22_0 RX8 rfl (by decide) fl_8_9 dX8_rename_50 ?_
  refine vr_bipush 64 dX8_rename_53 (by decide) ?_
  refine vr_iload_n 1 1 dX8_rename_55 rfl rfl ?_
  refine vr_iadd dX8_rename_56 ?_
  have hi := h.1
  have h := h.2
  refine vr_ialdQ 3464 ia_23 rfl hi dX8_rename_57 ?_
  refine vr_istore [(4, vI (Q 23 0 (ix (64 + x1)))), (0, vR 22 0), (1, vI x1), (2, vI x2)] dX8_rename_58 (by decide) rfl ?_
  refine vr_aload_n 0 1 dX8_rename_60 rfl rfl ?_
  refine vg_22_0 RX8 rfl (by decide) fl_8_9 dX8_rename_61 ?_
  refine vr_bipush 64 dX8_rename_64 (by decide) ?_
  refine vr_iload_n 1 2 dX8_rename_66 rfl rfl ?_
  refine vr_iadd dX8_rename_67 ?_
  refine vr_iload_n 2 3 dX8_rename_68 rfl rfl ?_
  have hi := h.1
  have h := h.2
  obtain ⟨Q69, eQ69⟩ : ∃ y : VP, y = vup Q 23 0 (ix (64 + x1)) x2 := ⟨_, rfl⟩
  have h := h Q69 eQ69
  refine vr_iastQ 3464 ia_23 rfl hi eQ69 dX8_rename_69 ?_
  refine vr_iload 0 dX8_rename_70 rfl ?_
  exact vr_iret rfl ⟨_, _, rfl, rfl, h⟩ dX8_rename_72
def F_X8_rename (x1 : Int32) (x2 : Int32) (Q : VP) (post : Int32 → VP → Prop) : Prop :=
  F_X8_isSegment x1 Q (fun r2 => (r2 = 0 → post (((-1) : Int32)) Q) ∧ (¬ r2 = 0 → F_X8_in (Int32.toInt64 x2) 0 25 Q (fun r14 => (r14 = 0 → post (((-1) : Int32)) Q) ∧ (¬ r14 = 0 → (0 ≤ 48 + x1 ∧ 48 + x1 < 3464) ∧ (F_X8_named (Q 23 0 (ix (48 + x1))) x2 Q (fun r33 => (r33 < 0 → F_X8_rename_b49 x1 x2 Q post  ) ∧ (¬ r33 < 0 → (r33 = x1 → F_X8_rename_b49 x1 x2 Q post  ) ∧ (¬ r33 = x1 → post (((-5) : Int32)) Q))))))))
set_option maxRecDepth 4000 in
theorem s_X8_rename {l : Launch} {g : vG} {x1 : Int32} {x2 : Int32} {P Q : VP} {post : Int32 → VP → Prop}  (h : F_X8_rename x1 x2 Q post) : VC l g yX8_rename cX8_rename 5 (some .int) 3 [vR 22 0, vI x1, vI x2] (vjn P Q) (vmI P post) := by
  refine VC.of (by decide +kernel) (Nat.le_of_ble_eq_true rfl) (show VM l g RX8 cX8_rename 5 (some .int) 3 (vmI P post) 0 [(0, vR 22 0), (1, vI x1), (2, vI x2)] [] (vjn P Q) from ?_)
  unfold F_X8_rename at h
  refine vr_aload_n 0 0 dX8_rename_0 rfl rfl ?_
  refine vr_iload_n 1 1 dX8_rename_1 rfl rfl ?_
  refine vr_callV RX8 (s_X8_isSegment h) rfl (by decide) rfl rfl rfl ml_8_95 rfl yh_X8_isSegment rfl ⟨Nat.le_of_ble_eq_true rfl, Nat.le_of_ble_eq_true rfl⟩ (Nat.le_of_ble_eq_true rfl) ⟨Nat.zero_le _, Nat.zero_le _⟩ dX8_rename_2 (ki fun r2 h => ?_)
  refine vr_ifeq 20 dX8_rename_5 (by decide) (fun c5 => ?_) (fun c5 => ?_)
  · have h := h.1 c5
    refine vr_iconst (-1) dX8_rename_20 (by decide) ?_
    exact vr_iret rfl ⟨_, _, rfl, rfl, h⟩ dX8_rename_21
  · have h := h.2 c5
    refine vr_iload_n 2 2 dX8_rename_8 rfl rfl ?_
    refine vr_i2l dX8_rename_9 ?_
    refine vr_lconst 0 dX8_rename_10 (by decide) ?_
    refine vr_ldc2 25 ct_8_79 dX8_rename_11 ?_
    refine vr_callS RX8 (s_X8_in h) rfl rfl ml_8_54 rfl yh_X8_in rfl ⟨Nat.le_of_ble_eq_true rfl, Nat.le_of_ble_eq_true rfl⟩ (Nat.le_of_ble_eq_true rfl) ⟨Nat.zero_le _, Nat.zero_le _⟩ dX8_rename_14 (ki fun r14 h => ?_)
    refine vr_ifne 22 dX8_rename_17 (by decide) (fun c17 => ?_) (fun c17 => ?_)
    · have h := h.1 c17
      refine vr_iconst (-1) dX8_rename_20 (by decide) ?_
      exact vr_iret rfl ⟨_, _, rfl, rfl, h⟩ dX8_rename_21
    · have h := h.2 c17
      refine vr_aload_n 0 0 dX8_rename_22 rfl rfl ?_
      refine vr_aload_n 0 0 dX8_rename_23 rfl rfl ?_
      refine vg_22_0 RX8 rfl (by decide) fl_8_9 dX8_rename_24 ?_
      refine vr_bipush 48 dX8_rename_27 (by decide) ?_
      refine vr_iload_n 1 1 dX8_rename_29 rfl rfl ?_
      refine vr_iadd dX8_rename_30 ?_
      have hi := h.1
      have h := h.2
      refine vr_ialdQ 3464 ia_23 rfl hi dX8_rename_31 ?_
      refine vr_iload_n 2 2 dX8_rename_32 rfl rfl ?_
      refine vr_callV RX8 (s_X8_named h) rfl (by decide) rfl rfl rfl ml_8_83 rfl yh_X8_named rfl ⟨Nat.le_of_ble_eq_true rfl, Nat.le_of_ble_eq_true rfl⟩ (Nat.le_of_ble_eq_true rfl) ⟨Nat.zero_le _, Nat.zero_le _⟩ dX8_rename_33 (ki fun r33 h => ?_)
      refine vr_istore_n 3 [(3, vI r33), (0, vR 22 0), (1, vI x1), (2, vI x2)] dX8_rename_36 rfl (by decide) rfl ?_
      refine vr_iload_n 3 0 dX8_rename_37 rfl rfl ?_
      refine vr_iflt 49 dX8_rename_38 (by decide) (fun c38 => ?_) (fun c38 => ?_)
      · have h := h.1 c38
        refine vr_sub [1, 2, 3] [(0, vR 22 0), (1, vI x1), (2, vI x2)] rfl ?_
        exact s_X8_rename_b49   h
      · have h := h.2 c38
        refine vr_iload_n 3 0 dX8_rename_41 rfl rfl ?_
        refine vr_iload_n 1 2 dX8_rename_42 rfl rfl ?_
        refine vr_icmpeq 49 dX8_rename_43 (by decide) (fun c43 => ?_) (fun c43 => ?_)
        · have h := h.1 c43
          refine vr_sub [1, 2, 3] [(0, vR 22 0), (1, vI x1), (2, vI x2)] rfl ?_
          exact s_X8_rename_b49   h
        · have h := h.2 c43
          refine vr_bipush (-5) dX8_rename_46 (by decide) ?_
          exact vr_iret rfl ⟨_, _, rfl, rfl, h⟩ dX8_rename_48
