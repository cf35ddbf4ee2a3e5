/-! X6_isAnyOverfull, X6_moveQuota, X6_segmentsIn, X6_reachedByOneCall, X6_staleIn, X6_segmentsThere, X6_cells, X6_quotaOfAll, X6_recordsOfAll, X6_snappedOfAll, X7_directory, X7_isBelow, X7_segment, X7_drop, X7_resize, X7_rename, X7_brackets, X7_set, X7_quota, X7_cell -/
theorem dX6_isAnyOverfull_0 : decode cX6_isAnyOverfull 0 = .ok (.iconst 0, 1) := by decide +kernel
theorem dX6_isAnyOverfull_1 : decode cX6_isAnyOverfull 1 = .ok (.istore_n 1, 1) := by decide +kernel
theorem dX6_isAnyOverfull_2 : decode cX6_isAnyOverfull 2 = .ok (.iload_n 1, 1) := by decide +kernel
theorem dX6_isAnyOverfull_3 : decode cX6_isAnyOverfull 3 = .ok (.aload_n 0, 1) := by decide +kernel
theorem dX6_isAnyOverfull_4 : decode cX6_isAnyOverfull 4 = .ok (.getfield 9, 3) := by decide +kernel
theorem dX6_isAnyOverfull_7 : decode cX6_isAnyOverfull 7 = .ok (.if_icmp .ge 32, 3) := by decide +kernel
theorem dX6_isAnyOverfull_10 : decode cX6_isAnyOverfull 10 = .ok (.aload_n 0, 1) := by decide +kernel
theorem dX6_isAnyOverfull_11 : decode cX6_isAnyOverfull 11 = .ok (.iload_n 1, 1) := by decide +kernel
theorem dX6_isAnyOverfull_12 : decode cX6_isAnyOverfull 12 = .ok (.invokevirtual 71, 3) := by decide +kernel
theorem dX6_isAnyOverfull_15 : decode cX6_isAnyOverfull 15 = .ok (.ifCond .le 18, 3) := by decide +kernel
theorem dX6_isAnyOverfull_18 : decode cX6_isAnyOverfull 18 = .ok (.aload_n 0, 1) := by decide +kernel
theorem dX6_isAnyOverfull_19 : decode cX6_isAnyOverfull 19 = .ok (.iload_n 1, 1) := by decide +kernel
theorem dX6_isAnyOverfull_20 : decode cX6_isAnyOverfull 20 = .ok (.invokevirtual 91, 3) := by decide +kernel
theorem dX6_isAnyOverfull_23 : decode cX6_isAnyOverfull 23 = .ok (.aload_n 0, 1) := by decide +kernel
theorem dX6_isAnyOverfull_24 : decode cX6_isAnyOverfull 24 = .ok (.iload_n 1, 1) := by decide +kernel
theorem dX6_isAnyOverfull_25 : decode cX6_isAnyOverfull 25 = .ok (.invokevirtual 71, 3) := by decide +kernel
theorem dX6_isAnyOverfull_28 : decode cX6_isAnyOverfull 28 = .ok (.if_icmp .le 5, 3) := by decide +kernel
theorem dX6_isAnyOverfull_31 : decode cX6_isAnyOverfull 31 = .ok (.iconst 1, 1) := by decide +kernel
theorem dX6_isAnyOverfull_32 : decode cX6_isAnyOverfull 32 = .ok (.ireturn, 1) := by decide +kernel
theorem dX6_isAnyOverfull_33 : decode cX6_isAnyOverfull 33 = .ok (.iinc 1 1, 3) := by decide +kernel
theorem dX6_isAnyOverfull_36 : decode cX6_isAnyOverfull 36 = .ok (.goto (-34), 3) := by decide +kernel
theorem dX6_isAnyOverfull_39 : decode cX6_isAnyOverfull 39 = .ok (.iconst 0, 1) := by decide +kernel
theorem dX6_isAnyOverfull_40 : decode cX6_isAnyOverfull 40 = .ok (.ireturn, 1) := by decide +kernel
def F_X6_isAnyOverfull_l2 (o : Nat) (P : VP) (post : Int32 → Prop)   (X : Int32 → Prop) (v1 : Int32) : Prop :=
  (v1 < P 2 o 0 → F_X6_quotaOf o v1 P (fun r12 => (0 < r12 → F_X6_usedOf o v1 P (fun r20 => F_X6_quotaOf o v1 P (fun r25 => (r25 < r20 → post ((1 : Int32))) ∧ (¬ r25 < r20 → X (v1 + 1))))) ∧ (¬ 0 < r12 → X (v1 + 1)))) ∧ (¬ v1 < P 2 o 0 → post ((0 : Int32)))
set_option maxRecDepth 4000 in
theorem s_X6_isAnyOverfull_l2 {l : Launch} {g : vG} {o : Nat} {P Q : VP} {post : Int32 → Prop}    {v1 : Int32} (ho : o < vcnt 2)  (h : vL1 (F_X6_isAnyOverfull_l2 o P post  ) v1) : VM l g RX6 cX6_isAnyOverfull 2 (some .boolean) 4 (vpI (vjn P Q) post) 2 [(0, vR 2 o), (1, vI v1)] [] (vjn P Q) := by
  refine vL1_s (T := fun v1 => VM l g RX6 cX6_isAnyOverfull 2 (some .boolean) 4 (vpI (vjn P Q) post) 2 [(0, vR 2 o), (1, vI v1)] [] (vjn P Q)) ?_ h
  clear h
  intro X hX v1 h
  unfold F_X6_isAnyOverfull_l2 at h
  refine vr_iload_n 1 1 dX6_isAnyOverfull_2 rfl rfl ?_
  refine vr_aload_n 0 0 dX6_isAnyOverfull_3 rfl rfl ?_
  refine vg_2_0 RX6 rfl ho fl_6_9 dX6_isAnyOverfull_4 ?_
  refine vr_icmpge 39 dX6_isAnyOverfull_7 (by decide) (fun c7 => ?_) (fun c7 => ?_)
  · have h := h.1 c7
    refine vr_aload_n 0 0 dX6_isAnyOverfull_10 rfl rfl ?_
    refine vr_iload_n 1 1 dX6_isAnyOverfull_11 rfl rfl ?_
    refine vr_callV RX6 (s_X6_quotaOf ho h) rfl ho rfl rfl rfl ml_6_71 rfl yh_X6_quotaOf rfl ⟨Nat.le_of_ble_eq_true rfl, Nat.le_of_ble_eq_true rfl⟩ (Nat.le_of_ble_eq_true rfl) ⟨Nat.zero_le _, Nat.zero_le _⟩ dX6_isAnyOverfull_12 (ki fun r12 h => ?_)
    refine vr_ifle 33 dX6_isAnyOverfull_15 (by decide) (fun c15 => ?_) (fun c15 => ?_)
    · have h := h.1 c15
      refine vr_aload_n 0 0 dX6_isAnyOverfull_18 rfl rfl ?_
      refine vr_iload_n 1 1 dX6_isAnyOverfull_19 rfl rfl ?_
      refine vr_callV RX6 (s_X6_usedOf ho h) rfl ho rfl rfl rfl ml_6_91 rfl yh_X6_usedOf rfl ⟨Nat.le_of_ble_eq_true rfl, Nat.le_of_ble_eq_true rfl⟩ (Nat.le_of_ble_eq_true rfl) ⟨Nat.zero_le _, Nat.zero_le _⟩ dX6_isAnyOverfull_20 (ki fun r20 h => ?_)
      refine vr_aload_n 0 0 dX6_isAnyOverfull_23 rfl rfl ?_
      refine vr_iload_n 1 1 dX6_isAnyOverfull_24 rfl rfl ?_
      refine vr_callV RX6 (s_X6_quotaOf ho h) rfl ho rfl rfl rfl ml_6_71 rfl yh_X6_quotaOf rfl ⟨Nat.le_of_ble_eq_true rfl, Nat.le_of_ble_eq_true rfl⟩ (Nat.le_of_ble_eq_true rfl) ⟨Nat.zero_le _, Nat.zero_le _⟩ dX6_isAnyOverfull_25 (ki fun r25 h => ?_)
      refine vr_icmple 33 dX6_isAnyOverfull_28 (by decide) (fun c28 => ?_) (fun c28 => ?_)
      · have h := h.1 c28
        refine vr_iconst 1 dX6_isAnyOverfull_31 (by decide) ?_
        exact vr_zret rfl (Or.inr rfl) ⟨rfl, _, rfl, h⟩ dX6_isAnyOverfull_32
      · have h := h.2 c28
        refine vr_iinc (v1 + 1) 1 [(1, vI (v1 + 1)), (0, vR 2 o)] dX6_isAnyOverfull_33 rfl rfl (by decide) rfl ?_
        refine vr_goto 2 dX6_isAnyOverfull_36 (by decide) ?_
        refine vr_sub [1, 0] [(0, vR 2 o), (1, vI (v1 + 1))] rfl ?_
        exact hX _ h
    · have h := h.2 c15
      refine vr_iinc (v1 + 1) 1 [(1, vI (v1 + 1)), (0, vR 2 o)] dX6_isAnyOverfull_33 rfl rfl (by decide) rfl ?_
      refine vr_goto 2 dX6_isAnyOverfull_36 (by decide) ?_
      refine vr_sub [1, 0] [(0, vR 2 o), (1, vI (v1 + 1))] rfl ?_
      exact hX _ h
  · have h := h.2 c7
    refine vr_iconst 0 dX6_isAnyOverfull_39 (by decide) ?_
    exact vr_zret rfl (Or.inl rfl) ⟨rfl, _, rfl, h⟩ dX6_isAnyOverfull_40
def F_X6_isAnyOverfull (o : Nat) (P : VP) (post : Int32 → Prop) : Prop :=
  vL1 (F_X6_isAnyOverfull_l2 o P post  ) ((0 : Int32))
set_option maxRecDepth 4000 in
theorem s_X6_isAnyOverfull {l : Launch} {g : vG} {o : Nat} {P Q : VP} {post : Int32 → Prop} (ho : o < vcnt 2) (h : F_X6_isAnyOverfull o P post) : VC l g yX6_isAnyOverfull cX6_isAnyOverfull 2 (some .boolean) 4 [vR 2 o] (vjn P Q) (vpI (vjn P Q) post) := by
  refine VC.of (by decide +kernel) (Nat.le_of_ble_eq_true rfl) (show VM l g RX6 cX6_isAnyOverfull 2 (some .boolean) 4 (vpI (vjn P Q) post) 0 [(0, vR 2 o)] [] (vjn P Q) from ?_)
  unfold F_X6_isAnyOverfull at h
  refine vr_iconst 0 dX6_isAnyOverfull_0 (by decide) ?_
  refine vr_istore_n 1 [(1, vI 0), (0, vR 2 o)] dX6_isAnyOverfull_1 rfl (by decide) rfl ?_
  refine vr_sub [1, 0] [(0, vR 2 o), (1, vI 0)] rfl ?_
  exact s_X6_isAnyOverfull_l2 ho  h
theorem dX6_moveQuota_0 : decode cX6_moveQuota 0 = .ok (.aload_n 0, 1) := by decide +kernel
theorem dX6_moveQuota_1 : decode cX6_moveQuota 1 = .ok (.aload_n 0, 1) := by decide +kernel
theorem dX6_moveQuota_2 : decode cX6_moveQuota 2 = .ok (.iload_n 1, 1) := by decide +kernel
theorem dX6_moveQuota_3 : decode cX6_moveQuota 3 = .ok (.invokevirtual 75, 3) := by decide +kernel
theorem dX6_moveQuota_6 : decode cX6_moveQuota 6 = .ok (.invokevirtual 82, 3) := by decide +kernel
theorem dX6_moveQuota_9 : decode cX6_moveQuota 9 = .ok (.istore_n 3, 1) := by decide +kernel
theorem dX6_moveQuota_10 : decode cX6_moveQuota 10 = .ok (.aload_n 0, 1) := by decide +kernel
theorem dX6_moveQuota_11 : decode cX6_moveQuota 11 = .ok (.iload_n 3, 1) := by decide +kernel
theorem dX6_moveQuota_12 : decode cX6_moveQuota 12 = .ok (.invokevirtual 71, 3) := by decide +kernel
theorem dX6_moveQuota_15 : decode cX6_moveQuota 15 = .ok (.i2l, 1) := by decide +kernel
theorem dX6_moveQuota_16 : decode cX6_moveQuota 16 = .ok (.iload_n 2, 1) := by decide +kernel
theorem dX6_moveQuota_17 : decode cX6_moveQuota 17 = .ok (.i2l, 1) := by decide +kernel
theorem dX6_moveQuota_18 : decode cX6_moveQuota 18 = .ok (.lsub, 1) := by decide +kernel
theorem dX6_moveQuota_19 : decode cX6_moveQuota 19 = .ok (.lstore 4, 2) := by decide +kernel
theorem dX6_moveQuota_21 : decode cX6_moveQuota 21 = .ok (.aload_n 0, 1) := by decide +kernel
theorem dX6_moveQuota_22 : decode cX6_moveQuota 22 = .ok (.iload_n 1, 1) := by decide +kernel
theorem dX6_moveQuota_23 : decode cX6_moveQuota 23 = .ok (.invokevirtual 71, 3) := by decide +kernel
theorem dX6_moveQuota_26 : decode cX6_moveQuota 26 = .ok (.i2l, 1) := by decide +kernel
theorem dX6_moveQuota_27 : decode cX6_moveQuota 27 = .ok (.iload_n 2, 1) := by decide +kernel
theorem dX6_moveQuota_28 : decode cX6_moveQuota 28 = .ok (.i2l, 1) := by decide +kernel
theorem dX6_moveQuota_29 : decode cX6_moveQuota 29 = .ok (.ladd, 1) := by decide +kernel
theorem dX6_moveQuota_30 : decode cX6_moveQuota 30 = .ok (.lconst 0, 1) := by decide +kernel
theorem dX6_moveQuota_31 : decode cX6_moveQuota 31 = .ok (.lcmp, 1) := by decide +kernel
theorem dX6_moveQuota_32 : decode cX6_moveQuota 32 = .ok (.ifCond .lt 19, 3) := by decide +kernel
theorem dX6_moveQuota_35 : decode cX6_moveQuota 35 = .ok (.lload 4, 2) := by decide +kernel
theorem dX6_moveQuota_37 : decode cX6_moveQuota 37 = .ok (.iload_n 3, 1) := by decide +kernel
theorem dX6_moveQuota_38 : decode cX6_moveQuota 38 = .ok (.ifCond .ne 7, 3) := by decide +kernel
theorem dX6_moveQuota_41 : decode cX6_moveQuota 41 = .ok (.iconst 1, 1) := by decide +kernel
theorem dX6_moveQuota_42 : decode cX6_moveQuota 42 = .ok (.goto 4, 3) := by decide +kernel
theorem dX6_moveQuota_45 : decode cX6_moveQuota 45 = .ok (.iconst 0, 1) := by decide +kernel
theorem dX6_moveQuota_46 : decode cX6_moveQuota 46 = .ok (.i2l, 1) := by decide +kernel
theorem dX6_moveQuota_47 : decode cX6_moveQuota 47 = .ok (.lcmp, 1) := by decide +kernel
theorem dX6_moveQuota_48 : decode cX6_moveQuota 48 = .ok (.ifCond .ge 6, 3) := by decide +kernel
theorem dX6_moveQuota_51 : decode cX6_moveQuota 51 = .ok (.bipush (-5), 2) := by decide +kernel
theorem dX6_moveQuota_53 : decode cX6_moveQuota 53 = .ok (.ireturn, 1) := by decide +kernel
theorem dX6_moveQuota_54 : decode cX6_moveQuota 54 = .ok (.aload_n 0, 1) := by decide +kernel
theorem dX6_moveQuota_55 : decode cX6_moveQuota 55 = .ok (.iload_n 1, 1) := by decide +kernel
theorem dX6_moveQuota_56 : decode cX6_moveQuota 56 = .ok (.iload_n 2, 1) := by decide +kernel
theorem dX6_moveQuota_57 : decode cX6_moveQuota 57 = .ok (.invokevirtual 94, 3) := by decide +kernel
theorem dX6_moveQuota_60 : decode cX6_moveQuota 60 = .ok (.aload_n 0, 1) := by decide +kernel
theorem dX6_moveQuota_61 : decode cX6_moveQuota 61 = .ok (.iload_n 3, 1) := by decide +kernel
theorem dX6_moveQuota_62 : decode cX6_moveQuota 62 = .ok (.iload_n 2, 1) := by decide +kernel
theorem dX6_moveQuota_63 : decode cX6_moveQuota 63 = .ok (.ineg, 1) := by decide +kernel
theorem dX6_moveQuota_64 : decode cX6_moveQuota 64 = .ok (.invokevirtual 94, 3) := by decide +kernel
theorem dX6_moveQuota_67 : decode cX6_moveQuota 67 = .ok (.aload_n 0, 1) := by decide +kernel
theorem dX6_moveQuota_68 : decode cX6_moveQuota 68 = .ok (.invokevirtual 98, 3) := by decide +kernel
theorem dX6_moveQuota_71 : decode cX6_moveQuota 71 = .ok (.ifCond .eq 19, 3) := by decide +kernel
theorem dX6_moveQuota_74 : decode cX6_moveQuota 74 = .ok (.aload_n 0, 1) := by decide +kernel
theorem dX6_moveQuota_75 : decode cX6_moveQuota 75 = .ok (.iload_n 1, 1) := by decide +kernel
theorem dX6_moveQuota_76 : decode cX6_moveQuota 76 = .ok (.iload_n 2, 1) := by decide +kernel
theorem dX6_moveQuota_77 : decode cX6_moveQuota 77 = .ok (.ineg, 1) := by decide +kernel
theorem dX6_moveQuota_78 : decode cX6_moveQuota 78 = .ok (.invokevirtual 94, 3) := by decide +kernel
theorem dX6_moveQuota_81 : decode cX6_moveQuota 81 = .ok (.aload_n 0, 1) := by decide +kernel
theorem dX6_moveQuota_82 : decode cX6_moveQuota 82 = .ok (.iload_n 3, 1) := by decide +kernel
theorem dX6_moveQuota_83 : decode cX6_moveQuota 83 = .ok (.iload_n 2, 1) := by decide +kernel
theorem dX6_moveQuota_84 : decode cX6_moveQuota 84 = .ok (.invokevirtual 94, 3) := by decide +kernel
theorem dX6_moveQuota_87 : decode cX6_moveQuota 87 = .ok (.bipush (-5), 2) := by decide +kernel
theorem dX6_moveQuota_89 : decode cX6_moveQuota 89 = .ok (.ireturn, 1) := by decide +kernel
theorem dX6_moveQuota_90 : decode cX6_moveQuota 90 = .ok (.aload_n 0, 1) := by decide +kernel
theorem dX6_moveQuota_91 : decode cX6_moveQuota 91 = .ok (.iload_n 1, 1) := by decide +kernel
theorem dX6_moveQuota_92 : decode cX6_moveQuota 92 = .ok (.invokevirtual 71, 3) := by decide +kernel
theorem dX6_moveQuota_95 : decode cX6_moveQuota 95 = .ok (.ireturn, 1) := by decide +kernel
def F_X6_moveQuota_b46 (o : Nat) (x1 : Int32) (x2 : Int32) (P : VP) (post : Int32 → VP → Prop)  (v3 : Int32) (t0 : Int32) (t1 : Int64) : Prop :=
  (lg_cmp t1 (Int32.toInt64 t0) < 0 → post (((-5) : Int32)) P) ∧ (¬ lg_cmp t1 (Int32.toInt64 t0) < 0 → F_X6_addQuota o x1 x2 P (fun P57 => F_X6_addQuota o v3 (-x2) P57 (fun P64 => F_X6_isAnyOverfull o P64 (fun r68 => (r68 = 0 → F_X6_quotaOf o x1 P64 (fun r92 => post r92 P64)) ∧ (¬ r68 = 0 → F_X6_addQuota o x1 (-x2) P64 (fun P78 => F_X6_addQuota o v3 x2 P78 (fun P84 => post (((-5) : Int32)) P84)))))))
set_option maxRecDepth 4000 in
theorem s_X6_moveQuota_b46 {l : Launch} {g : vG} {o : Nat} {x1 : Int32} {x2 : Int32} {P Q : VP} {post : Int32 → VP → Prop}  {v3 : Int32} {t0 : Int32} {t1 : Int64}  (ho : o < vcnt 2)  (h : F_X6_moveQuota_b46 o x1 x2 P post  v3 t0 t1) : VM l g RX6 cX6_moveQuota 6 (some .int) 5 (vcI Q post) 46 [(0, vR 2 o), (1, vI x1), (2, vI x2), (3, vI v3)] [vI t0, vL t1] (vjn P Q) := by
  unfold F_X6_moveQuota_b46 at h
  refine vr_i2l dX6_moveQuota_46 ?_
  refine vr_lcmp dX6_moveQuota_47 ?_
  refine vr_ifge 54 dX6_moveQuota_48 (by decide) (fun c48 => ?_) (fun c48 => ?_)
  · have h := h.1 c48
    refine vr_bipush (-5) dX6_moveQuota_51 (by decide) ?_
    exact vr_iret rfl ⟨_, _, rfl, rfl, h⟩ dX6_moveQuota_53
  · have h := h.2 c48
    refine vr_aload_n 0 0 dX6_moveQuota_54 rfl rfl ?_
    refine vr_iload_n 1 1 dX6_moveQuota_55 rfl rfl ?_
    refine vr_iload_n 2 2 dX6_moveQuota_56 rfl rfl ?_
    refine vr_callV RX6 (s_X6_addQuota ho h) rfl ho rfl rfl rfl ml_6_94 rfl yh_X6_addQuota rfl ⟨Nat.le_of_ble_eq_true rfl, Nat.le_of_ble_eq_true rfl⟩ (Nat.le_of_ble_eq_true rfl) ⟨Nat.zero_le _, Nat.zero_le _⟩ dX6_moveQuota_57 (kcv fun P57 h => ?_)
    refine vr_aload_n 0 0 dX6_moveQuota_60 rfl rfl ?_
    refine vr_iload_n 3 3 dX6_moveQuota_61 rfl rfl ?_
    refine vr_iload_n 2 2 dX6_moveQuota_62 rfl rfl ?_
    refine vr_ineg dX6_moveQuota_63 ?_
    refine vr_callV RX6 (s_X6_addQuota ho h) rfl ho rfl rfl rfl ml_6_94 rfl yh_X6_addQuota rfl ⟨Nat.le_of_ble_eq_true rfl, Nat.le_of_ble_eq_true rfl⟩ (Nat.le_of_ble_eq_true rfl) ⟨Nat.zero_le _, Nat.zero_le _⟩ dX6_moveQuota_64 (kcv fun P64 h => ?_)
    refine vr_aload_n 0 0 dX6_moveQuota_67 rfl rfl ?_
    refine vr_callV RX6 (s_X6_isAnyOverfull ho h) rfl ho rfl rfl rfl ml_6_98 rfl yh_X6_isAnyOverfull rfl ⟨Nat.le_of_ble_eq_true rfl, Nat.le_of_ble_eq_true rfl⟩ (Nat.le_of_ble_eq_true rfl) ⟨Nat.zero_le _, Nat.zero_le _⟩ dX6_moveQuota_68 (ki fun r68 h => ?_)
    refine vr_ifeq 90 dX6_moveQuota_71 (by decide) (fun c71 => ?_) (fun c71 => ?_)
    · have h := h.1 c71
      refine vr_aload_n 0 0 dX6_moveQuota_90 rfl rfl ?_
      refine vr_iload_n 1 1 dX6_moveQuota_91 rfl rfl ?_
      refine vr_callV RX6 (s_X6_quotaOf ho h) rfl ho rfl rfl rfl ml_6_71 rfl yh_X6_quotaOf rfl ⟨Nat.le_of_ble_eq_true rfl, Nat.le_of_ble_eq_true rfl⟩ (Nat.le_of_ble_eq_true rfl) ⟨Nat.zero_le _, Nat.zero_le _⟩ dX6_moveQuota_92 (ki fun r92 h => ?_)
      exact vr_iret rfl ⟨_, _, rfl, rfl, h⟩ dX6_moveQuota_95
    · have h := h.2 c71
      refine vr_aload_n 0 0 dX6_moveQuota_74 rfl rfl ?_
      refine vr_iload_n 1 1 dX6_moveQuota_75 rfl rfl ?_
      refine vr_iload_n 2 2 dX6_moveQuota_76 rfl rfl ?_
      refine vr_ineg dX6_moveQuota_77 ?_
      refine vr_callV RX6 (s_X6_addQuota ho h) rfl ho rfl rfl rfl ml_6_94 rfl yh_X6_addQuota rfl ⟨Nat.le_of_ble_eq_true rfl, Nat.le_of_ble_eq_true rfl⟩ (Nat.le_of_ble_eq_true rfl) ⟨Nat.zero_le _, Nat.zero_le _⟩ dX6_moveQuota_78 (kcv fun P78 h => ?_)
      refine vr_aload_n 0 0 dX6_moveQuota_81 rfl rfl ?_
      refine vr_iload_n 3 3 dX6_moveQuota_82 rfl rfl ?_
      refine vr_iload_n 2 2 dX6_moveQuota_83 rfl rfl ?_
      refine vr_callV RX6 (s_X6_addQuota ho h) rfl ho rfl rfl rfl ml_6_94 rfl yh_X6_addQuota rfl ⟨Nat.le_of_ble_eq_true rfl, Nat.le_of_ble_eq_true rfl⟩ (Nat.le_of_ble_eq_true rfl) ⟨Nat.zero_le _, Nat.zero_le _⟩ dX6_moveQuota_84 (kcv fun P84 h => ?_)
      refine vr_bipush (-5) dX6_moveQuota_87 (by decide) ?_
      exact vr_iret rfl ⟨_, _, rfl, rfl, h⟩ dX6_moveQuota_89
def F_X6_moveQuota (o : Nat) (x1 : Int32) (x2 : Int32) (P : VP) (post : Int32 → VP → Prop) : Prop :=
  F_X6_aboveOf o x1 P (fun r3 => F_X6_cellFrom o r3 P (fun r6 => F_X6_quotaOf o r6 P (fun r12 => ∀ v4_19 : Int64, v4_19 = (Int32.toInt64 r12) - (Int32.toInt64 x2) → (F_X6_quotaOf o x1 P (fun r23 => (lg_cmp ((Int32.toInt64 r23) + (Int32.toInt64 x2)) 0 < 0 → post (((-5) : Int32)) P) ∧ (¬ lg_cmp ((Int32.toInt64 r23) + (Int32.toInt64 x2)) 0 < 0 → (r6 = 0 → F_X6_moveQuota_b46 o x1 x2 P post  r6 ((1 : Int32)) v4_19) ∧ (¬ r6 = 0 → F_X6_moveQuota_b46 o x1 x2 P post  r6 ((0 : Int32)) v4_19)))))))
set_option maxRecDepth 4000 in
theorem s_X6_moveQuota {l : Launch} {g : vG} {o : Nat} {x1 : Int32} {x2 : Int32} {P Q : VP} {post : Int32 → VP → Prop} (ho : o < vcnt 2) (h : F_X6_moveQuota o x1 x2 P post) : VC l g yX6_moveQuota cX6_moveQuota 6 (some .int) 5 [vR 2 o, vI x1, vI x2] (vjn P Q) (vcI Q post) := by
  refine VC.of (by decide +kernel) (Nat.le_of_ble_eq_true rfl) (show VM l g RX6 cX6_moveQuota 6 (some .int) 5 (vcI Q post) 0 [(0, vR 2 o), (1, vI x1), (2, vI x2)] [] (vjn P Q) from ?_)
  unfold F_X6_moveQuota at h
  refine vr_aload_n 0 0 dX6_moveQuota_0 rfl rfl ?_
  refine vr_aload_n 0 0 dX6_moveQuota_1 rfl rfl ?_
  refine vr_iload_n 1 1 dX6_moveQuota_2 rfl rfl ?_
  refine vr_callV RX6 (s_X6_aboveOf ho h) rfl ho rfl rfl rfl ml_6_75 rfl yh_X6_aboveOf rfl ⟨Nat.le_of_ble_eq_true rfl, Nat.le_of_ble_eq_true rfl⟩ (Nat.le_of_ble_eq_true rfl) ⟨Nat.zero_le _, Nat.zero_le _⟩ dX6_moveQuota_3 (ki fun r3 h => ?_)
  refine vr_callV RX6 (s_X6_cellFrom ho h) rfl ho rfl rfl rfl ml_6_82 rfl yh_X6_cellFrom rfl ⟨Nat.le_of_ble_eq_true rfl, Nat.le_of_ble_eq_true rfl⟩ (Nat.le_of_ble_eq_true rfl) ⟨Nat.zero_le _, Nat.zero_le _⟩ dX6_moveQuota_6 (ki fun r6 h => ?_)
  refine vr_istore_n 3 [(3, vI r6), (0, vR 2 o), (1, vI x1), (2, vI x2)] dX6_moveQuota_9 rfl (by decide) rfl ?_
  refine vr_aload_n 0 1 dX6_moveQuota_10 rfl rfl ?_
  refine vr_iload_n 3 0 dX6_moveQuota_11 rfl rfl ?_
  refine vr_callV RX6 (s_X6_quotaOf ho h) rfl ho rfl rfl rfl ml_6_71 rfl yh_X6_quotaOf rfl ⟨Nat.le_of_ble_eq_true rfl, Nat.le_of_ble_eq_true rfl⟩ (Nat.le_of_ble_eq_true rfl) ⟨Nat.zero_le _, Nat.zero_le _⟩ dX6_moveQuota_12 (ki fun r12 h => ?_)
  refine vr_i2l dX6_moveQuota_15 ?_
  refine vr_iload_n 2 3 dX6_moveQuota_16 rfl rfl ?_
  refine vr_i2l dX6_moveQuota_17 ?_
  refine vr_lsub dX6_moveQuota_18 ?_
  obtain ⟨v4_19, ev4_19⟩ : ∃ y : Int64, y = (Int32.toInt64 r12) - (Int32.toInt64 x2) := ⟨_, rfl⟩
  have h := h v4_19 ev4_19
  refine vr_nmL ev4_19 ?_
  refine vr_lstore [(4, vL v4_19), (3, vI r6), (0, vR 2 o), (1, vI x1), (2, vI x2)] dX6_moveQuota_19 (by decide) rfl ?_
  refine vr_aload_n 0 2 dX6_moveQuota_21 rfl rfl ?_
  refine vr_iload_n 1 3 dX6_moveQuota_22 rfl rfl ?_
  refine vr_callV RX6 (s_X6_quotaOf ho h) rfl ho rfl rfl rfl ml_6_71 rfl yh_X6_quotaOf rfl ⟨Nat.le_of_ble_eq_true rfl, Nat.le_of_ble_eq_true rfl⟩ (Nat.le_of_ble_eq_true rfl) ⟨Nat.zero_le _, Nat.zero_le _⟩ dX6_moveQuota_23 (ki fun r23 h => ?_)
  refine vr_i2l dX6_moveQuota_26 ?_
  refine vr_iload_n 2 4 dX6_moveQuota_27 rfl rfl ?_
  refine vr_i2l dX6_moveQuota_28 ?_
  refine vr_ladd dX6_moveQuota_29 ?_
  refine vr_lconst 0 dX6_moveQuota_30 (by decide) ?_
  refine vr_lcmp dX6_moveQuota_31 ?_
  refine vr_iflt 51 dX6_moveQuota_32 (by decide) (fun c32 => ?_) (fun c32 => ?_)
  · have h := h.1 c32
    refine vr_bipush (-5) dX6_moveQuota_51 (by decide) ?_
    exact vr_iret rfl ⟨_, _, rfl, rfl, h⟩ dX6_moveQuota_53
  · have h := h.2 c32
    refine vr_lload 0 dX6_moveQuota_35 rfl ?_
    refine vr_iload_n 3 1 dX6_moveQuota_37 rfl rfl ?_
    refine vr_ifne 45 dX6_moveQuota_38 (by decide) (fun c38 => ?_) (fun c38 => ?_)
    · have h := h.1 c38
      refine vr_iconst 1 dX6_moveQuota_41 (by decide) ?_
      refine vr_goto 46 dX6_moveQuota_42 (by decide) ?_
      refine vr_sub [2, 3, 4, 1] [(0, vR 2 o), (1, vI x1), (2, vI x2), (3, vI r6)] rfl ?_
      exact s_X6_moveQuota_b46 ho  h
    · have h := h.2 c38
      refine vr_iconst 0 dX6_moveQuota_45 (by decide) ?_
      refine vr_sub [2, 3, 4, 1] [(0, vR 2 o), (1, vI x1), (2, vI x2), (3, vI r6)] rfl ?_
      exact s_X6_moveQuota_b46 ho  h
theorem dX6_segmentsIn_0 : decode cX6_segmentsIn 0 = .ok (.iconst 0, 1) := by decide +kernel
theorem dX6_segmentsIn_1 : decode cX6_segmentsIn 1 = .ok (.istore_n 2, 1) := by decide +kernel
theorem dX6_segmentsIn_2 : decode cX6_segmentsIn 2 = .ok (.iconst 0, 1) := by decide +kernel
theorem dX6_segmentsIn_3 : decode cX6_segmentsIn 3 = .ok (.istore_n 3, 1) := by decide +kernel
theorem dX6_segmentsIn_4 : decode cX6_segmentsIn 4 = .ok (.iload_n 3, 1) := by decide +kernel
theorem dX6_segmentsIn_5 : decode cX6_segmentsIn 5 = .ok (.bipush 16, 2) := by decide +kernel
theorem dX6_segmentsIn_7 : decode cX6_segmentsIn 7 = .ok (.if_icmp .ge 38, 3) := by decide +kernel
theorem dX6_segmentsIn_10 : decode cX6_segmentsIn 10 = .ok (.aload_n 0, 1) := by decide +kernel
theorem dX6_segmentsIn_11 : decode cX6_segmentsIn 11 = .ok (.iload_n 3, 1) := by decide +kernel
theorem dX6_segmentsIn_12 : decode cX6_segmentsIn 12 = .ok (.invokevirtual 78, 3) := by decide +kernel
theorem dX6_segmentsIn_15 : decode cX6_segmentsIn 15 = .ok (.astore 4, 2) := by decide +kernel
theorem dX6_segmentsIn_17 : decode cX6_segmentsIn 17 = .ok (.iload_n 2, 1) := by decide +kernel
theorem dX6_segmentsIn_18 : decode cX6_segmentsIn 18 = .ok (.aload 4, 2) := by decide +kernel
theorem dX6_segmentsIn_20 : decode cX6_segmentsIn 20 = .ok (.ifnull 16, 3) := by decide +kernel
theorem dX6_segmentsIn_23 : decode cX6_segmentsIn 23 = .ok (.aload 4, 2) := by decide +kernel
theorem dX6_segmentsIn_25 : decode cX6_segmentsIn 25 = .ok (.getfield 46, 3) := by decide +kernel
theorem dX6_segmentsIn_28 : decode cX6_segmentsIn 28 = .ok (.iload_n 1, 1) := by decide +kernel
theorem dX6_segmentsIn_29 : decode cX6_segmentsIn 29 = .ok (.if_icmp .ne 7, 3) := by decide +kernel
theorem dX6_segmentsIn_32 : decode cX6_segmentsIn 32 = .ok (.iconst 1, 1) := by decide +kernel
theorem dX6_segmentsIn_33 : decode cX6_segmentsIn 33 = .ok (.goto 4, 3) := by decide +kernel
theorem dX6_segmentsIn_36 : decode cX6_segmentsIn 36 = .ok (.iconst 0, 1) := by decide +kernel
theorem dX6_segmentsIn_37 : decode cX6_segmentsIn 37 = .ok (.iadd, 1) := by decide +kernel
theorem dX6_segmentsIn_38 : decode cX6_segmentsIn 38 = .ok (.istore_n 2, 1) := by decide +kernel
theorem dX6_segmentsIn_39 : decode cX6_segmentsIn 39 = .ok (.iinc 3 1, 3) := by decide +kernel
theorem dX6_segmentsIn_42 : decode cX6_segmentsIn 42 = .ok (.goto (-38), 3) := by decide +kernel
theorem dX6_segmentsIn_45 : decode cX6_segmentsIn 45 = .ok (.iload_n 2, 1) := by decide +kernel
theorem dX6_segmentsIn_46 : decode cX6_segmentsIn 46 = .ok (.ireturn, 1) := by decide +kernel
def F_X6_segmentsIn_l4 (o : Nat) (x1 : Int32) (P : VP) (post : Int32 → Prop)   (X : Int32 → Int32 → Prop) (v2 : Int32) (v3 : Int32) : Prop :=
  (v3 < 16 → (F_X6_find o v3 P (fun r12 => match r12 with | none => (X (v2 + 0) (v3 + 1)) | some yr12 => ((P 7 yr12 1 = x1 → X (v2 + 1) (v3 + 1)) ∧ (¬ P 7 yr12 1 = x1 → X (v2 + 0) (v3 + 1)))))) ∧ (¬ v3 < 16 → post v2)
set_option maxRecDepth 4000 in
theorem s_X6_segmentsIn_l4 {l : Launch} {g : vG} {o : Nat} {x1 : Int32} {P Q : VP} {post : Int32 → Prop}    {v2 : Int32} {v3 : Int32} (ho : o < vcnt 2)  (h : vL2 (F_X6_segmentsIn_l4 o x1 P post  ) v2 v3) : VM l g RX6 cX6_segmentsIn 5 (some .int) 1 (vpI (vjn P Q) post) 4 [(0, vR 2 o), (1, vI x1), (2, vI v2), (3, vI v3)] [] (vjn P Q) := by
  refine vL2_s (T := fun v2 v3 => VM l g RX6 cX6_segmentsIn 5 (some .int) 1 (vpI (vjn P Q) post) 4 [(0, vR 2 o), (1, vI x1), (2, vI v2), (3, vI v3)] [] (vjn P Q)) ?_ h
  clear h
  intro X hX v2 v3 h
  unfold F_X6_segmentsIn_l4 at h
  refine vr_iload_n 3 3 dX6_segmentsIn_4 rfl rfl ?_
  refine vr_bipush 16 dX6_segmentsIn_5 (by decide) ?_
  refine vr_icmpge 45 dX6_segmentsIn_7 (by decide) (fun c7 => ?_) (fun c7 => ?_)
  · have h := h.1 c7
    refine vr_aload_n 0 0 dX6_segmentsIn_10 rfl rfl ?_
    refine vr_iload_n 3 3 dX6_segmentsIn_11 rfl rfl ?_
    refine vr_callV RX6 (s_X6_find ho h) rfl ho rfl rfl rfl ml_6_78 rfl yh_X6_find rfl ⟨Nat.le_of_ble_eq_true rfl, Nat.le_of_ble_eq_true rfl⟩ (Nat.le_of_ble_eq_true rfl) ⟨Nat.zero_le _, Nat.zero_le _⟩ dX6_segmentsIn_12 (ko fun r12 hvr12 h => ?_)
    refine vr_astore [(4, vO 7 r12), (0, vR 2 o), (1, vI x1), (2, vI v2), (3, vI v3)] dX6_segmentsIn_15 (by decide) rfl ?_
    refine vr_iload_n 2 3 dX6_segmentsIn_17 rfl rfl ?_
    refine vr_aload 0 dX6_segmentsIn_18 rfl ?_
    rcases r12 with _ | yr12
    · refine vr_ifnullN 36 dX6_segmentsIn_20 (by decide) ?_
      refine vr_iconst 0 dX6_segmentsIn_36 (by decide) ?_
      refine vr_iadd dX6_segmentsIn_37 ?_
      refine vr_istore_n 2 [(2, vI (v2 + 0)), (4, vN), (0, vR 2 o), (1, vI x1), (3, vI v3)] dX6_segmentsIn_38 rfl (by decide) rfl ?_
      refine vr_iinc (v3 + 1) 4 [(3, vI (v3 + 1)), (2, vI (v2 + 0)), (4, vN), (0, vR 2 o), (1, vI x1)] dX6_segmentsIn_39 rfl rfl (by decide) rfl ?_
      refine vr_goto 4 dX6_segmentsIn_42 (by decide) ?_
      refine vr_sub [3, 4, 1, 0] [(0, vR 2 o), (1, vI x1), (2, vI (v2 + 0)), (3, vI (v3 + 1))] rfl ?_
      exact hX _ _ h
    · refine vr_ifnullR dX6_segmentsIn_20 ?_
      refine vr_aload 0 dX6_segmentsIn_23 rfl ?_
      refine vg_7_1 RX6 rfl (hvr12 _ rfl) fl_6_46 dX6_segmentsIn_25 ?_
      refine vr_iload_n 1 2 dX6_segmentsIn_28 rfl rfl ?_
      refine vr_icmpne 36 dX6_segmentsIn_29 (by decide) (fun c29 => ?_) (fun c29 => ?_)
      · have h := h.1 c29
        refine vr_iconst 1 dX6_segmentsIn_32 (by decide) ?_
        refine vr_goto 37 dX6_segmentsIn_33 (by decide) ?_
        refine vr_iadd dX6_segmentsIn_37 ?_
        refine vr_istore_n 2 [(2, vI (v2 + 1)), (4, vR 7 yr12), (0, vR 2 o), (1, vI x1), (3, vI v3)] dX6_segmentsIn_38 rfl (by decide) rfl ?_
        refine vr_iinc (v3 + 1) 4 [(3, vI (v3 + 1)), (2, vI (v2 + 1)), (4, vR 7 yr12), (0, vR 2 o), (1, vI x1)] dX6_segmentsIn_39 rfl rfl (by decide) rfl ?_
        refine vr_goto 4 dX6_segmentsIn_42 (by decide) ?_
        refine vr_sub [3, 4, 1, 0] [(0, vR 2 o), (1, vI x1), (2, vI (v2 + 1)), (3, vI (v3 + 1))] rfl ?_
        exact hX _ _ h
      · have h := h.2 c29
        refine vr_iconst 0 dX6_segmentsIn_36 (by decide) ?_
        refine vr_iadd dX6_segmentsIn_37 ?_
        refine vr_istore_n 2 [(2, vI (v2 + 0)), (4, vR 7 yr12), (0, vR 2 o), (1, vI x1), (3, vI v3)] dX6_segmentsIn_38 rfl (by decide) rfl ?_
        refine vr_iinc (v3 + 1) 4 [(3, vI (v3 + 1)), (2, vI (v2 + 0)), (4, vR 7 yr12), (0, vR 2 o), (1, vI x1)] dX6_segmentsIn_39 rfl rfl (by decide) rfl ?_
        refine vr_goto 4 dX6_segmentsIn_42 (by decide) ?_
        refine vr_sub [3, 4, 1, 0] [(0, vR 2 o), (1, vI x1), (2, vI (v2 + 0)), (3, vI (v3 + 1))] rfl ?_
        exact hX _ _ h
  · have h := h.2 c7
    refine vr_iload_n 2 2 dX6_segmentsIn_45 rfl rfl ?_
    exact vr_iret rfl ⟨rfl, _, rfl, h⟩ dX6_segmentsIn_46
def F_X6_segmentsIn (o : Nat) (x1 : Int32) (P : VP) (post : Int32 → Prop) : Prop :=
  vL2 (F_X6_segmentsIn_l4 o x1 P post  ) ((0 : Int32)) ((0 : Int32))
set_option maxRecDepth 4000 in
theorem s_X6_segmentsIn {l : Launch} {g : vG} {o : Nat} {x1 : Int32} {P Q : VP} {post : Int32 → Prop} (ho : o < vcnt 2) (h : F_X6_segmentsIn o x1 P post) : VC l g yX6_segmentsIn cX6_segmentsIn 5 (some .int) 1 [vR 2 o, vI x1] (vjn P Q) (vpI (vjn P Q) post) := by
  refine VC.of (by decide +kernel) (Nat.le_of_ble_eq_true rfl) (show VM l g RX6 cX6_segmentsIn 5 (some .int) 1 (vpI (vjn P Q) post) 0 [(0, vR 2 o), (1, vI x1)] [] (vjn P Q) from ?_)
  unfold F_X6_segmentsIn at h
  refine vr_iconst 0 dX6_segmentsIn_0 (by decide) ?_
  refine vr_istore_n 2 [(2, vI 0), (0, vR 2 o), (1, vI x1)] dX6_segmentsIn_1 rfl (by decide) rfl ?_
  refine vr_iconst 0 dX6_segmentsIn_2 (by decide) ?_
  refine vr_istore_n 3 [(3, vI 0), (2, vI 0), (0, vR 2 o), (1, vI x1)] dX6_segmentsIn_3 rfl (by decide) rfl ?_
  refine vr_sub [2, 3, 1, 0] [(0, vR 2 o), (1, vI x1), (2, vI 0), (3, vI 0)] rfl ?_
  exact s_X6_segmentsIn_l4 ho  h
theorem dX6_reachedByOneCall_0 : decode cX6_reachedByOneCall 0 = .ok (.iload_n 1, 1) := by decide +kernel
theorem dX6_reachedByOneCall_1 : decode cX6_reachedByOneCall 1 = .ok (.istore_n 2, 1) := by decide +kernel
theorem dX6_reachedByOneCall_2 : decode cX6_reachedByOneCall 2 = .ok (.iconst 0, 1) := by decide +kernel
theorem dX6_reachedByOneCall_3 : decode cX6_reachedByOneCall 3 = .ok (.istore_n 3, 1) := by decide +kernel
theorem dX6_reachedByOneCall_4 : decode cX6_reachedByOneCall 4 = .ok (.iload_n 3, 1) := by decide +kernel
theorem dX6_reachedByOneCall_5 : decode cX6_reachedByOneCall 5 = .ok (.bipush 8, 2) := by decide +kernel
theorem dX6_reachedByOneCall_7 : decode cX6_reachedByOneCall 7 = .ok (.if_icmp .ge 55, 3) := by decide +kernel
theorem dX6_reachedByOneCall_10 : decode cX6_reachedByOneCall 10 = .ok (.iconst 0, 1) := by decide +kernel
theorem dX6_reachedByOneCall_11 : decode cX6_reachedByOneCall 11 = .ok (.istore 4, 2) := by decide +kernel
theorem dX6_reachedByOneCall_13 : decode cX6_reachedByOneCall 13 = .ok (.iload_n 1, 1) := by decide +kernel
theorem dX6_reachedByOneCall_14 : decode cX6_reachedByOneCall 14 = .ok (.iconst 1, 1) := by decide +kernel
theorem dX6_reachedByOneCall_15 : decode cX6_reachedByOneCall 15 = .ok (.iload_n 3, 1) := by decide +kernel
theorem dX6_reachedByOneCall_16 : decode cX6_reachedByOneCall 16 = .ok (.ishl, 1) := by decide +kernel
theorem dX6_reachedByOneCall_17 : decode cX6_reachedByOneCall 17 = .ok (.iand, 1) := by decide +kernel
theorem dX6_reachedByOneCall_18 : decode cX6_reachedByOneCall 18 = .ok (.ifCond .eq 38, 3) := by decide +kernel
theorem dX6_reachedByOneCall_21 : decode cX6_reachedByOneCall 21 = .ok (.iload 4, 2) := by decide +kernel
theorem dX6_reachedByOneCall_23 : decode cX6_reachedByOneCall 23 = .ok (.bipush 16, 2) := by decide +kernel
theorem dX6_reachedByOneCall_25 : decode cX6_reachedByOneCall 25 = .ok (.if_icmp .ge 31, 3) := by decide +kernel
theorem dX6_reachedByOneCall_28 : decode cX6_reachedByOneCall 28 = .ok (.aload_n 0, 1) := by decide +kernel
theorem dX6_reachedByOneCall_29 : decode cX6_reachedByOneCall 29 = .ok (.iload 4, 2) := by decide +kernel
theorem dX6_reachedByOneCall_31 : decode cX6_reachedByOneCall 31 = .ok (.iconst 0, 1) := by decide +kernel
theorem dX6_reachedByOneCall_32 : decode cX6_reachedByOneCall 32 = .ok (.iload_n 3, 1) := by decide +kernel
theorem dX6_reachedByOneCall_33 : decode cX6_reachedByOneCall 33 = .ok (.invokevirtual 112, 3) := by decide +kernel
theorem dX6_reachedByOneCall_36 : decode cX6_reachedByOneCall 36 = .ok (.istore 5, 2) := by decide +kernel
theorem dX6_reachedByOneCall_38 : decode cX6_reachedByOneCall 38 = .ok (.iload 5, 2) := by decide +kernel
theorem dX6_reachedByOneCall_40 : decode cX6_reachedByOneCall 40 = .ok (.ifCond .lt 10, 3) := by decide +kernel
theorem dX6_reachedByOneCall_43 : decode cX6_reachedByOneCall 43 = .ok (.iload_n 2, 1) := by decide +kernel
theorem dX6_reachedByOneCall_44 : decode cX6_reachedByOneCall 44 = .ok (.iconst 1, 1) := by decide +kernel
theorem dX6_reachedByOneCall_45 : decode cX6_reachedByOneCall 45 = .ok (.iload 5, 2) := by decide +kernel
theorem dX6_reachedByOneCall_47 : decode cX6_reachedByOneCall 47 = .ok (.ishl, 1) := by decide +kernel
theorem dX6_reachedByOneCall_48 : decode cX6_reachedByOneCall 48 = .ok (.ior, 1) := by decide +kernel
theorem dX6_reachedByOneCall_49 : decode cX6_reachedByOneCall 49 = .ok (.istore_n 2, 1) := by decide +kernel
theorem dX6_reachedByOneCall_50 : decode cX6_reachedByOneCall 50 = .ok (.iinc 4 1, 3) := by decide +kernel
theorem dX6_reachedByOneCall_53 : decode cX6_reachedByOneCall 53 = .ok (.goto (-40), 3) := by decide +kernel
theorem dX6_reachedByOneCall_56 : decode cX6_reachedByOneCall 56 = .ok (.iinc 3 1, 3) := by decide +kernel
theorem dX6_reachedByOneCall_59 : decode cX6_reachedByOneCall 59 = .ok (.goto (-55), 3) := by decide +kernel
theorem dX6_reachedByOneCall_62 : decode cX6_reachedByOneCall 62 = .ok (.iload_n 2, 1) := by decide +kernel
theorem dX6_reachedByOneCall_63 : decode cX6_reachedByOneCall 63 = .ok (.ireturn, 1) := by decide +kernel
def F_X6_reachedByOneCall_l13 (o : Nat) (x1 : Int32) (P : VP) (post : Int32 → Prop) (X4 : Int32 → Int32 → Prop) (v3 : Int32) (X : Int32 → Int32 → Prop) (v2 : Int32) (v4 : Int32) : Prop :=
  (x1 &&& (1 <<< (v3 &&& 31)) = 0 → X4 v2 (v3 + 1)) ∧ (¬ x1 &&& (1 <<< (v3 &&& 31)) = 0 → (v4 < 16 → F_X6_ringEntered o v4 ((0 : Int32)) v3 P (fun r33 => (r33 < 0 → X v2 (v4 + 1)) ∧ (¬ r33 < 0 → X (v2 ||| (1 <<< (r33 &&& 31))) (v4 + 1)))) ∧ (¬ v4 < 16 → X4 v2 (v3 + 1)))
set_option maxRecDepth 4000 in
theorem s_X6_reachedByOneCall_l13 {l : Launch} {g : vG} {o : Nat} {x1 : Int32} {P Q : VP} {post : Int32 → Prop} {X4 : Int32 → Int32 → Prop} {v3 : Int32}  {v2 : Int32} {v4 : Int32} (ho : o < vcnt 2) (hX4 : ∀ v2_ v3_, X4 v2_ v3_ → VM l g RX6 cX6_reachedByOneCall 6 (some .int) 2 (vpI (vjn P Q) post) 4 [(0, vR 2 o), (1, vI x1), (2, vI v2_), (3, vI v3_)] [] (vjn P Q)) (h : vL2 (F_X6_reachedByOneCall_l13 o x1 P post X4 v3) v2 v4) : VM l g RX6 cX6_reachedByOneCall 6 (some .int) 2 (vpI (vjn P Q) post) 13 [(0, vR 2 o), (1, vI x1), (2, vI v2), (3, vI v3), (4, vI v4)] [] (vjn P Q) := by
  refine vL2_s (T := fun v2 v4 => VM l g RX6 cX6_reachedByOneCall 6 (some .int) 2 (vpI (vjn P Q) post) 13 [(0, vR 2 o), (1, vI x1), (2, vI v2), (3, vI v3), (4, vI v4)] [] (vjn P Q)) ?_ h
  clear h
  intro X hX v2 v4 h
  unfold F_X6_reachedByOneCall_l13 at h
  refine vr_iload_n 1 1 dX6_reachedByOneCall_13 rfl rfl ?_
  refine vr_iconst 1 dX6_reachedByOneCall_14 (by decide) ?_
  refine vr_iload_n 3 3 dX6_reachedByOneCall_15 rfl rfl ?_
  refine vr_ishl dX6_reachedByOneCall_16 ?_
  refine vr_iand dX6_reachedByOneCall_17 ?_
  refine vr_ifeq 56 dX6_reachedByOneCall_18 (by decide) (fun c18 => ?_) (fun c18 => ?_)
  · have h := h.1 c18
    refine vr_iinc (v3 + 1) 3 [(3, vI (v3 + 1)), (0, vR 2 o), (1, vI x1), (2, vI v2), (4, vI v4)] dX6_reachedByOneCall_56 rfl rfl (by decide) rfl ?_
    refine vr_goto 4 dX6_reachedByOneCall_59 (by decide) ?_
    refine vr_sub [1, 2, 3, 0] [(0, vR 2 o), (1, vI x1), (2, vI v2), (3, vI (v3 + 1))] rfl ?_
    exact hX4 _ _ h
  · have h := h.2 c18
    refine vr_iload 4 dX6_reachedByOneCall_21 rfl ?_
    refine vr_bipush 16 dX6_reachedByOneCall_23 (by decide) ?_
    refine vr_icmpge 56 dX6_reachedByOneCall_25 (by decide) (fun c25 => ?_) (fun c25 => ?_)
    · have h := h.1 c25
      refine vr_aload_n 0 0 dX6_reachedByOneCall_28 rfl rfl ?_
      refine vr_iload 4 dX6_reachedByOneCall_29 rfl ?_
      refine vr_iconst 0 dX6_reachedByOneCall_31 (by decide) ?_
      refine vr_iload_n 3 3 dX6_reachedByOneCall_32 rfl rfl ?_
      refine vr_callV RX6 (s_X6_ringEntered ho h) rfl ho rfl rfl rfl ml_6_112 rfl yh_X6_ringEntered rfl ⟨Nat.le_of_ble_eq_true rfl, Nat.le_of_ble_eq_true rfl⟩ (Nat.le_of_ble_eq_true rfl) ⟨Nat.zero_le _, Nat.zero_le _⟩ dX6_reachedByOneCall_33 (ki fun r33 h => ?_)
      refine vr_istore [(5, vI r33), (0, vR 2 o), (1, vI x1), (2, vI v2), (3, vI v3), (4, vI v4)] dX6_reachedByOneCall_36 (by decide) rfl ?_
      refine vr_iload 0 dX6_reachedByOneCall_38 rfl ?_
      refine vr_iflt 50 dX6_reachedByOneCall_40 (by decide) (fun c40 => ?_) (fun c40 => ?_)
      · have h := h.1 c40
        refine vr_iinc (v4 + 1) 5 [(4, vI (v4 + 1)), (5, vI r33), (0, vR 2 o), (1, vI x1), (2, vI v2), (3, vI v3)] dX6_reachedByOneCall_50 rfl rfl (by decide) rfl ?_
        refine vr_goto 13 dX6_reachedByOneCall_53 (by decide) ?_
        refine vr_sub [2, 3, 4, 5, 0] [(0, vR 2 o), (1, vI x1), (2, vI v2), (3, vI v3), (4, vI (v4 + 1))] rfl ?_
        exact hX _ _ h
      · have h := h.2 c40
        refine vr_iload_n 2 3 dX6_reachedByOneCall_43 rfl rfl ?_
        refine vr_iconst 1 dX6_reachedByOneCall_44 (by decide) ?_
        refine vr_iload 0 dX6_reachedByOneCall_45 rfl ?_
        refine vr_ishl dX6_reachedByOneCall_47 ?_
        refine vr_ior dX6_reachedByOneCall_48 ?_
        refine vr_istore_n 2 [(2, vI (v2 ||| (1 <<< (r33 &&& 31)))), (5, vI r33), (0, vR 2 o), (1, vI x1), (3, vI v3), (4, vI v4)] dX6_reachedByOneCall_49 rfl (by decide) rfl ?_
        refine vr_iinc (v4 + 1) 5 [(4, vI (v4 + 1)), (2, vI (v2 ||| (1 <<< (r33 &&& 31)))), (5, vI r33), (0, vR 2 o), (1, vI x1), (3, vI v3)] dX6_reachedByOneCall_50 rfl rfl (by decide) rfl ?_
        refine vr_goto 13 dX6_reachedByOneCall_53 (by decide) ?_
        refine vr_sub [3, 4, 1, 5, 0] [(0, vR 2 o), (1, vI x1), (2, vI (v2 ||| (1 <<< (r33 &&& 31)))), (3, vI v3), (4, vI (v4 + 1))] rfl ?_
        exact hX _ _ h
    · have h := h.2 c25
      refine vr_iinc (v3 + 1) 3 [(3, vI (v3 + 1)), (0, vR 2 o), (1, vI x1), (2, vI v2), (4, vI v4)] dX6_reachedByOneCall_56 rfl rfl (by decide) rfl ?_
      refine vr_goto 4 dX6_reachedByOneCall_59 (by decide) ?_
      refine vr_sub [1, 2, 3, 0] [(0, vR 2 o), (1, vI x1), (2, vI v2), (3, vI (v3 + 1))] rfl ?_
      exact hX4 _ _ h
def F_X6_reachedByOneCall_l4 (o : Nat) (x1 : Int32) (P : VP) (post : Int32 → Prop)   (X : Int32 → Int32 → Prop) (v2 : Int32) (v3 : Int32) : Prop :=
  (v3 < 8 → vL2 (F_X6_reachedByOneCall_l13 o x1 P post X  v3) v2 ((0 : Int32))) ∧ (¬ v3 < 8 → post v2)
set_option maxRecDepth 4000 in
theorem s_X6_reachedByOneCall_l4 {l : Launch} {g : vG} {o : Nat} {x1 : Int32} {P Q : VP} {post : Int32 → Prop}    {v2 : Int32} {v3 : Int32} (ho : o < vcnt 2)  (h : vL2 (F_X6_reachedByOneCall_l4 o x1 P post  ) v2 v3) : VM l g RX6 cX6_reachedByOneCall 6 (some .int) 2 (vpI (vjn P Q) post) 4 [(0, vR 2 o), (1, vI x1), (2, vI v2), (3, vI v3)] [] (vjn P Q) := by
  refine vL2_s (T := fun v2 v3 => VM l g RX6 cX6_reachedByOneCall 6 (some .int) 2 (vpI (vjn P Q) post) 4 [(0, vR 2 o), (1, vI x1), (2, vI v2), (3, vI v3)] [] (vjn P Q)) ?_ h
  clear h
  intro X hX v2 v3 h
  unfold F_X6_reachedByOneCall_l4 at h
  refine vr_iload_n 3 3 dX6_reachedByOneCall_4 rfl rfl ?_
  refine vr_bipush 8 dX6_reachedByOneCall_5 (by decide) ?_
  refine vr_icmpge 62 dX6_reachedByOneCall_7 (by decide) (fun c7 => ?_) (fun c7 => ?_)
  · have h := h.1 c7
    refine vr_iconst 0 dX6_reachedByOneCall_10 (by decide) ?_
    refine vr_istore [(4, vI 0), (0, vR 2 o), (1, vI x1), (2, vI v2), (3, vI v3)] dX6_reachedByOneCall_11 (by decide) rfl ?_
    refine vr_sub [1, 2, 3, 4, 0] [(0, vR 2 o), (1, vI x1), (2, vI v2), (3, vI v3), (4, vI 0)] rfl ?_
    exact s_X6_reachedByOneCall_l13 ho hX  h
  · have h := h.2 c7
    refine vr_iload_n 2 2 dX6_reachedByOneCall_62 rfl rfl ?_
    exact vr_iret rfl ⟨rfl, _, rfl, h⟩ dX6_reachedByOneCall_63
def F_X6_reachedByOneCall (o : Nat) (x1 : Int32) (P : VP) (post : Int32 → Prop) : Prop :=
  vL2 (F_X6_reachedByOneCall_l4 o x1 P post  ) x1 ((0 : Int32))
set_option maxRecDepth 4000 in
theorem s_X6_reachedByOneCall {l : Launch} {g : vG} {o : Nat} {x1 : Int32} {P Q : VP} {post : Int32 → Prop} (ho : o < vcnt 2) (h : F_X6_reachedByOneCall o x1 P post) : VC l g yX6_reachedByOneCall cX6_reachedByOneCall 6 (some .int) 2 [vR 2 o, vI x1] (vjn P Q) (vpI (vjn P Q) post) := by
  refine VC.of (by decide +kernel) (Nat.le_of_ble_eq_true rfl) (show VM l g RX6 cX6_reachedByOneCall 6 (some .int) 2 (vpI (vjn P Q) post) 0 [(0, vR 2 o), (1, vI x1)] [] (vjn P Q) from ?_)
  unfold F_X6_reachedByOneCall at h
  refine vr_iload_n 1 1 dX6_reachedByOneCall_0 rfl rfl ?_
  refine vr_istore_n 2 [(2, vI x1), (0, vR 2 o), (1, vI x1)] dX6_reachedByOneCall_1 rfl (by decide) rfl ?_
  refine vr_iconst 0 dX6_reachedByOneCall_2 (by decide) ?_
  refine vr_istore_n 3 [(3, vI 0), (2, vI x1), (0, vR 2 o), (1, vI x1)] dX6_reachedByOneCall_3 rfl (by decide) rfl ?_
  refine vr_sub [2, 3, 1, 0] [(0, vR 2 o), (1, vI x1), (2, vI x1), (3, vI 0)] rfl ?_
  exact s_X6_reachedByOneCall_l4 ho  h
theorem dX6_staleIn_0 : decode cX6_staleIn 0 = .ok (.iconst 0, 1) := by decide +kernel
theorem dX6_staleIn_1 : decode cX6_staleIn 1 = .ok (.istore_n 2, 1) := by decide +kernel
theorem dX6_staleIn_2 : decode cX6_staleIn 2 = .ok (.iconst 0, 1) := by decide +kernel
theorem dX6_staleIn_3 : decode cX6_staleIn 3 = .ok (.istore_n 3, 1) := by decide +kernel
theorem dX6_staleIn_4 : decode cX6_staleIn 4 = .ok (.iload_n 3, 1) := by decide +kernel
theorem dX6_staleIn_5 : decode cX6_staleIn 5 = .ok (.aload_n 1, 1) := by decide +kernel
theorem dX6_staleIn_6 : decode cX6_staleIn 6 = .ok (.getfield 85, 3) := by decide +kernel
theorem dX6_staleIn_9 : decode cX6_staleIn 9 = .ok (.if_icmp .ge 45, 3) := by decide +kernel
theorem dX6_staleIn_12 : decode cX6_staleIn 12 = .ok (.aload_n 1, 1) := by decide +kernel
theorem dX6_staleIn_13 : decode cX6_staleIn 13 = .ok (.iload_n 3, 1) := by decide +kernel
theorem dX6_staleIn_14 : decode cX6_staleIn 14 = .ok (.invokevirtual 116, 3) := by decide +kernel
theorem dX6_staleIn_17 : decode cX6_staleIn 17 = .ok (.iconst 5, 1) := by decide +kernel
theorem dX6_staleIn_18 : decode cX6_staleIn 18 = .ok (.if_icmp .ne 30, 3) := by decide +kernel
theorem dX6_staleIn_21 : decode cX6_staleIn 21 = .ok (.aload_n 0, 1) := by decide +kernel
theorem dX6_staleIn_22 : decode cX6_staleIn 22 = .ok (.aload_n 1, 1) := by decide +kernel
theorem dX6_staleIn_23 : decode cX6_staleIn 23 = .ok (.aload_n 1, 1) := by decide +kernel
theorem dX6_staleIn_24 : decode cX6_staleIn 24 = .ok (.iload_n 3, 1) := by decide +kernel
theorem dX6_staleIn_25 : decode cX6_staleIn 25 = .ok (.invokevirtual 119, 3) := by decide +kernel
theorem dX6_staleIn_28 : decode cX6_staleIn 28 = .ok (.bipush 100, 2) := by decide +kernel
theorem dX6_staleIn_30 : decode cX6_staleIn 30 = .ok (.idiv, 1) := by decide +kernel
theorem dX6_staleIn_31 : decode cX6_staleIn 31 = .ok (.invokevirtual 122, 3) := by decide +kernel
theorem dX6_staleIn_34 : decode cX6_staleIn 34 = .ok (.aload_n 1, 1) := by decide +kernel
theorem dX6_staleIn_35 : decode cX6_staleIn 35 = .ok (.iload_n 3, 1) := by decide +kernel
theorem dX6_staleIn_36 : decode cX6_staleIn 36 = .ok (.invokevirtual 126, 3) := by decide +kernel
theorem dX6_staleIn_39 : decode cX6_staleIn 39 = .ok (.invokestatic 129, 3) := by decide +kernel
theorem dX6_staleIn_42 : decode cX6_staleIn 42 = .ok (.if_icmp .eq 6, 3) := by decide +kernel
theorem dX6_staleIn_45 : decode cX6_staleIn 45 = .ok (.iinc 2 1, 3) := by decide +kernel
theorem dX6_staleIn_48 : decode cX6_staleIn 48 = .ok (.iinc 3 1, 3) := by decide +kernel
theorem dX6_staleIn_51 : decode cX6_staleIn 51 = .ok (.goto (-47), 3) := by decide +kernel
theorem dX6_staleIn_54 : decode cX6_staleIn 54 = .ok (.iload_n 2, 1) := by decide +kernel
theorem dX6_staleIn_55 : decode cX6_staleIn 55 = .ok (.ireturn, 1) := by decide +kernel
def F_X6_staleIn_l4 (o : Nat) (y1 : Nat) (P : VP) (post : Int32 → Prop)   (X : Int32 → Int32 → Prop) (v2 : Int32) (v3 : Int32) : Prop :=
  (v3 < P 7 y1 4 → F_X3_kindAt y1 v3 P (fun r14 => (r14 = 5 → F_X3_knownAt y1 v3 P (fun r25 => F_X6_seek o y1 (r25 / 100) P (fun r31 => F_X3_valueAt y1 v3 P (fun r36 => F_X7_segmentIn r36 P (fun r39 => (r31 = r39 → X v2 (v3 + 1)) ∧ (¬ r31 = r39 → X (v2 + 1) (v3 + 1))))))) ∧ (¬ r14 = 5 → X v2 (v3 + 1)))) ∧ (¬ v3 < P 7 y1 4 → post v2)
set_option maxRecDepth 4000 in
theorem s_X6_staleIn_l4 {l : Launch} {g : vG} {o : Nat} {y1 : Nat} {P Q : VP} {post : Int32 → Prop}    {v2 : Int32} {v3 : Int32} (ho : o < vcnt 2) (hy1 : y1 < vcnt 7)  (h : vL2 (F_X6_staleIn_l4 o y1 P post  ) v2 v3) : VM l g RX6 cX6_staleIn 4 (some .int) 2 (vpI (vjn P Q) post) 4 [(0, vR 2 o), (1, vR 7 y1), (2, vI v2), (3, vI v3)] [] (vjn P Q) := by
  refine vL2_s (T := fun v2 v3 => VM l g RX6 cX6_staleIn 4 (some .int) 2 (vpI (vjn P Q) post) 4 [(0, vR 2 o), (1, vR 7 y1), (2, vI v2), (3, vI v3)] [] (vjn P Q)) ?_ h
  clear h
  intro X hX v2 v3 h
  unfold F_X6_staleIn_l4 at h
  refine vr_iload_n 3 3 dX6_staleIn_4 rfl rfl ?_
  refine vr_aload_n 1 1 dX6_staleIn_5 rfl rfl ?_
  refine vg_7_4 RX6 rfl hy1 fl_6_85 dX6_staleIn_6 ?_
  refine vr_icmpge 54 dX6_staleIn_9 (by decide) (fun c9 => ?_) (fun c9 => ?_)
  · have h := h.1 c9
    refine vr_aload_n 1 1 dX6_staleIn_12 rfl rfl ?_
    refine vr_iload_n 3 3 dX6_staleIn_13 rfl rfl ?_
    refine vr_callV RX6 (s_X3_kindAt hy1 h) rfl hy1 rfl rfl rfl ml_6_116 rfl yh_X3_kindAt rfl ⟨Nat.le_of_ble_eq_true rfl, Nat.le_of_ble_eq_true rfl⟩ (Nat.le_of_ble_eq_true rfl) ⟨Nat.zero_le _, Nat.zero_le _⟩ dX6_staleIn_14 (ki fun r14 h => ?_)
    refine vr_iconst 5 dX6_staleIn_17 (by decide) ?_
    refine vr_icmpne 48 dX6_staleIn_18 (by decide) (fun c18 => ?_) (fun c18 => ?_)
    · have h := h.1 c18
      refine vr_aload_n 0 0 dX6_staleIn_21 rfl rfl ?_
      refine vr_aload_n 1 1 dX6_staleIn_22 rfl rfl ?_
      refine vr_aload_n 1 1 dX6_staleIn_23 rfl rfl ?_
      refine vr_iload_n 3 3 dX6_staleIn_24 rfl rfl ?_
      refine vr_callV RX6 (s_X3_knownAt hy1 h) rfl hy1 rfl rfl rfl ml_6_119 rfl yh_X3_knownAt rfl ⟨Nat.le_of_ble_eq_true rfl, Nat.le_of_ble_eq_true rfl⟩ (Nat.le_of_ble_eq_true rfl) ⟨Nat.zero_le _, Nat.zero_le _⟩ dX6_staleIn_25 (ki fun r25 h => ?_)
      refine vr_bipush 100 dX6_staleIn_28 (by decide) ?_
      refine vr_idiv dX6_staleIn_30 (by decide) ?_
      refine vr_callV RX6 (s_X6_seek ho hy1 h) rfl ho rfl rfl rfl ml_6_122 rfl yh_X6_seek rfl ⟨Nat.le_of_ble_eq_true rfl, Nat.le_of_ble_eq_true rfl⟩ (Nat.le_of_ble_eq_true rfl) ⟨Nat.zero_le _, Nat.zero_le _⟩ dX6_staleIn_31 (ki fun r31 h => ?_)
      refine vr_aload_n 1 1 dX6_staleIn_34 rfl rfl ?_
      refine vr_iload_n 3 3 dX6_staleIn_35 rfl rfl ?_
      refine vr_callV RX6 (s_X3_valueAt hy1 h) rfl hy1 rfl rfl rfl ml_6_126 rfl yh_X3_valueAt rfl ⟨Nat.le_of_ble_eq_true rfl, Nat.le_of_ble_eq_true rfl⟩ (Nat.le_of_ble_eq_true rfl) ⟨Nat.zero_le _, Nat.zero_le _⟩ dX6_staleIn_36 (ki fun r36 h => ?_)
      refine vr_callN RX6 "RingGates" (s_X7_segmentIn h) rfl mn_6_129 ml_6_129 rfl yh_X7_segmentIn rfl ⟨Nat.le_of_ble_eq_true rfl, Nat.le_of_ble_eq_true rfl⟩ (Nat.le_of_ble_eq_true rfl) ⟨Nat.zero_le _, Nat.zero_le _⟩ dX6_staleIn_39 (ki fun r39 h => ?_)
      refine vr_icmpeq 48 dX6_staleIn_42 (by decide) (fun c42 => ?_) (fun c42 => ?_)
      · have h := h.1 c42
        refine vr_iinc (v3 + 1) 3 [(3, vI (v3 + 1)), (0, vR 2 o), (1, vR 7 y1), (2, vI v2)] dX6_staleIn_48 rfl rfl (by decide) rfl ?_
        refine vr_goto 4 dX6_staleIn_51 (by decide) ?_
        refine vr_sub [1, 2, 3, 0] [(0, vR 2 o), (1, vR 7 y1), (2, vI v2), (3, vI (v3 + 1))] rfl ?_
        exact hX _ _ h
      · have h := h.2 c42
        refine vr_iinc (v2 + 1) 2 [(2, vI (v2 + 1)), (0, vR 2 o), (1, vR 7 y1), (3, vI v3)] dX6_staleIn_45 rfl rfl (by decide) rfl ?_
        refine vr_iinc (v3 + 1) 3 [(3, vI (v3 + 1)), (2, vI (v2 + 1)), (0, vR 2 o), (1, vR 7 y1)] dX6_staleIn_48 rfl rfl (by decide) rfl ?_
        refine vr_goto 4 dX6_staleIn_51 (by decide) ?_
        refine vr_sub [2, 3, 1, 0] [(0, vR 2 o), (1, vR 7 y1), (2, vI (v2 + 1)), (3, vI (v3 + 1))] rfl ?_
        exact hX _ _ h
    · have h := h.2 c18
      refine vr_iinc (v3 + 1) 3 [(3, vI (v3 + 1)), (0, vR 2 o), (1, vR 7 y1), (2, vI v2)] dX6_staleIn_48 rfl rfl (by decide) rfl ?_
      refine vr_goto 4 dX6_staleIn_51 (by decide) ?_
      refine vr_sub [1, 2, 3, 0] [(0, vR 2 o), (1, vR 7 y1), (2, vI v2), (3, vI (v3 + 1))] rfl ?_
      exact hX _ _ h
  · have h := h.2 c9
    refine vr_iload_n 2 2 dX6_staleIn_54 rfl rfl ?_
    exact vr_iret rfl ⟨rfl, _, rfl, h⟩ dX6_staleIn_55
def F_X6_staleIn (o : Nat) (y1 : Nat) (P : VP) (post : Int32 → Prop) : Prop :=
  vL2 (F_X6_staleIn_l4 o y1 P post  ) ((0 : Int32)) ((0 : Int32))
set_option maxRecDepth 4000 in
theorem s_X6_staleIn {l : Launch} {g : vG} {o : Nat} {y1 : Nat} {P Q : VP} {post : Int32 → Prop} (ho : o < vcnt 2) (hy1 : y1 < vcnt 7) (h : F_X6_staleIn o y1 P post) : VC l g yX6_staleIn cX6_staleIn 4 (some .int) 2 [vR 2 o, vR 7 y1] (vjn P Q) (vpI (vjn P Q) post) := by
  refine VC.of (by decide +kernel) (Nat.le_of_ble_eq_true rfl) (show VM l g RX6 cX6_staleIn 4 (some .int) 2 (vpI (vjn P Q) post) 0 [(0, vR 2 o), (1, vR 7 y1)] [] (vjn P Q) from ?_)
  unfold F_X6_staleIn at h
  refine vr_iconst 0 dX6_staleIn_0 (by decide) ?_
  refine vr_istore_n 2 [(2, vI 0), (0, vR 2 o), (1, vR 7 y1)] dX6_staleIn_1 rfl (by decide) rfl ?_
  refine vr_iconst 0 dX6_staleIn_2 (by decide) ?_
  refine vr_istore_n 3 [(3, vI 0), (2, vI 0), (0, vR 2 o), (1, vR 7 y1)] dX6_staleIn_3 rfl (by decide) rfl ?_
  refine vr_sub [2, 3, 1, 0] [(0, vR 2 o), (1, vR 7 y1), (2, vI 0), (3, vI 0)] rfl ?_
  exact s_X6_staleIn_l4 ho hy1  h
theorem dX6_segmentsThere_0 : decode cX6_segmentsThere 0 = .ok (.iconst 0, 1) := by decide +kernel
theorem dX6_segmentsThere_1 : decode cX6_segmentsThere 1 = .ok (.istore_n 1, 1) := by decide +kernel
theorem dX6_segmentsThere_2 : decode cX6_segmentsThere 2 = .ok (.iconst 0, 1) := by decide +kernel
theorem dX6_segmentsThere_3 : decode cX6_segmentsThere 3 = .ok (.istore_n 2, 1) := by decide +kernel
theorem dX6_segmentsThere_4 : decode cX6_segmentsThere 4 = .ok (.iload_n 2, 1) := by decide +kernel
theorem dX6_segmentsThere_5 : decode cX6_segmentsThere 5 = .ok (.bipush 16, 2) := by decide +kernel
theorem dX6_segmentsThere_7 : decode cX6_segmentsThere 7 = .ok (.if_icmp .ge 25, 3) := by decide +kernel
theorem dX6_segmentsThere_10 : decode cX6_segmentsThere 10 = .ok (.iload_n 1, 1) := by decide +kernel
theorem dX6_segmentsThere_11 : decode cX6_segmentsThere 11 = .ok (.aload_n 0, 1) := by decide +kernel
theorem dX6_segmentsThere_12 : decode cX6_segmentsThere 12 = .ok (.iload_n 2, 1) := by decide +kernel
theorem dX6_segmentsThere_13 : decode cX6_segmentsThere 13 = .ok (.invokevirtual 78, 3) := by decide +kernel
theorem dX6_segmentsThere_16 : decode cX6_segmentsThere 16 = .ok (.ifnull 7, 3) := by decide +kernel
theorem dX6_segmentsThere_19 : decode cX6_segmentsThere 19 = .ok (.iconst 1, 1) := by decide +kernel
theorem dX6_segmentsThere_20 : decode cX6_segmentsThere 20 = .ok (.goto 4, 3) := by decide +kernel
theorem dX6_segmentsThere_23 : decode cX6_segmentsThere 23 = .ok (.iconst 0, 1) := by decide +kernel
theorem dX6_segmentsThere_24 : decode cX6_segmentsThere 24 = .ok (.iadd, 1) := by decide +kernel
theorem dX6_segmentsThere_25 : decode cX6_segmentsThere 25 = .ok (.istore_n 1, 1) := by decide +kernel
theorem dX6_segmentsThere_26 : decode cX6_segmentsThere 26 = .ok (.iinc 2 1, 3) := by decide +kernel
theorem dX6_segmentsThere_29 : decode cX6_segmentsThere 29 = .ok (.goto (-25), 3) := by decide +kernel
theorem dX6_segmentsThere_32 : decode cX6_segmentsThere 32 = .ok (.iload_n 1, 1) := by decide +kernel
theorem dX6_segmentsThere_33 : decode cX6_segmentsThere 33 = .ok (.ireturn, 1) := by decide +kernel
def F_X6_segmentsThere_l4 (o : Nat) (P : VP) (post : Int32 → Prop)   (X : Int32 → Int32 → Prop) (v1 : Int32) (v2 : Int32) : Prop :=
  (v2 < 16 → (F_X6_find o v2 P (fun r13 => match r13 with | none => (X (v1 + 0) (v2 + 1)) | some yr13 => (X (v1 + 1) (v2 + 1))))) ∧ (¬ v2 < 16 → post v1)
set_option maxRecDepth 4000 in
theorem s_X6_segmentsThere_l4 {l : Launch} {g : vG} {o : Nat} {P Q : VP} {post : Int32 → Prop}    {v1 : Int32} {v2 : Int32} (ho : o < vcnt 2)  (h : vL2 (F_X6_segmentsThere_l4 o P post  ) v1 v2) : VM l g RX6 cX6_segmentsThere 3 (some .int) 1 (vpI (vjn P Q) post) 4 [(0, vR 2 o), (1, vI v1), (2, vI v2)] [] (vjn P Q) := by
  refine vL2_s (T := fun v1 v2 => VM l g RX6 cX6_segmentsThere 3 (some .int) 1 (vpI (vjn P Q) post) 4 [(0, vR 2 o), (1, vI v1), (2, vI v2)] [] (vjn P Q)) ?_ h
  clear h
  intro X hX v1 v2 h
  unfold F_X6_segmentsThere_l4 at h
  refine vr_iload_n 2 2 dX6_segmentsThere_4 rfl rfl ?_
  refine vr_bipush 16 dX6_segmentsThere_5 (by decide) ?_
  refine vr_icmpge 32 dX6_segmentsThere_7 (by decide) (fun c7 => ?_) (fun c7 => ?_)
  · have h := h.1 c7
    refine vr_iload_n 1 1 dX6_segmentsThere_10 rfl rfl ?_
    refine vr_aload_n 0 0 dX6_segmentsThere_11 rfl rfl ?_
    refine vr_iload_n 2 2 dX6_segmentsThere_12 rfl rfl ?_
    refine vr_callV RX6 (s_X6_find ho h) rfl ho rfl rfl rfl ml_6_78 rfl yh_X6_find rfl ⟨Nat.le_of_ble_eq_true rfl, Nat.le_of_ble_eq_true rfl⟩ (Nat.le_of_ble_eq_true rfl) ⟨Nat.zero_le _, Nat.zero_le _⟩ dX6_segmentsThere_13 (ko fun r13 hvr13 h => ?_)
    rcases r13 with _ | yr13
    · refine vr_ifnullN 23 dX6_segmentsThere_16 (by decide) ?_
      refine vr_iconst 0 dX6_segmentsThere_23 (by decide) ?_
      refine vr_iadd dX6_segmentsThere_24 ?_
      refine vr_istore_n 1 [(1, vI (v1 + 0)), (0, vR 2 o), (2, vI v2)] dX6_segmentsThere_25 rfl (by decide) rfl ?_
      refine vr_iinc (v2 + 1) 2 [(2, vI (v2 + 1)), (1, vI (v1 + 0)), (0, vR 2 o)] dX6_segmentsThere_26 rfl rfl (by decide) rfl ?_
      refine vr_goto 4 dX6_segmentsThere_29 (by decide) ?_
      refine vr_sub [2, 1, 0] [(0, vR 2 o), (1, vI (v1 + 0)), (2, vI (v2 + 1))] rfl ?_
      exact hX _ _ h
    · refine vr_ifnullR dX6_segmentsThere_16 ?_
      refine vr_iconst 1 dX6_segmentsThere_19 (by decide) ?_
      refine vr_goto 24 dX6_segmentsThere_20 (by decide) ?_
      refine vr_iadd dX6_segmentsThere_24 ?_
      refine vr_istore_n 1 [(1, vI (v1 + 1)), (0, vR 2 o), (2, vI v2)] dX6_segmentsThere_25 rfl (by decide) rfl ?_
      refine vr_iinc (v2 + 1) 2 [(2, vI (v2 + 1)), (1, vI (v1 + 1)), (0, vR 2 o)] dX6_segmentsThere_26 rfl rfl (by decide) rfl ?_
      refine vr_goto 4 dX6_segmentsThere_29 (by decide) ?_
      refine vr_sub [2, 1, 0] [(0, vR 2 o), (1, vI (v1 + 1)), (2, vI (v2 + 1))] rfl ?_
      exact hX _ _ h
  · have h := h.2 c7
    refine vr_iload_n 1 1 dX6_segmentsThere_32 rfl rfl ?_
    exact vr_iret rfl ⟨rfl, _, rfl, h⟩ dX6_segmentsThere_33
def F_X6_segmentsThere (o : Nat) (P : VP) (post : Int32 → Prop) : Prop :=
  vL2 (F_X6_segmentsThere_l4 o P post  ) ((0 : Int32)) ((0 : Int32))
set_option maxRecDepth 4000 in
theorem s_X6_segmentsThere {l : Launch} {g : vG} {o : Nat} {P Q : VP} {post : Int32 → Prop} (ho : o < vcnt 2) (h : F_X6_segmentsThere o P post) : VC l g yX6_segmentsThere cX6_segmentsThere 3 (some .int) 1 [vR 2 o] (vjn P Q) (vpI (vjn P Q) post) := by
  refine VC.of (by decide +kernel) (Nat.le_of_ble_eq_true rfl) (show VM l g RX6 cX6_segmentsThere 3 (some .int) 1 (vpI (vjn P Q) post) 0 [(0, vR 2 o)] [] (vjn P Q) from ?_)
  unfold F_X6_segmentsThere at h
  refine vr_iconst 0 dX6_segmentsThere_0 (by decide) ?_
  refine vr_istore_n 1 [(1, vI 0), (0, vR 2 o)] dX6_segmentsThere_1 rfl (by decide) rfl ?_
  refine vr_iconst 0 dX6_segmentsThere_2 (by decide) ?_
  refine vr_istore_n 2 [(2, vI 0), (1, vI 0), (0, vR 2 o)] dX6_segmentsThere_3 rfl (by decide) rfl ?_
  refine vr_sub [2, 1, 0] [(0, vR 2 o), (1, vI 0), (2, vI 0)] rfl ?_
  exact s_X6_segmentsThere_l4 ho  h
theorem dX6_cells_0 : decode cX6_cells 0 = .ok (.iconst 0, 1) := by decide +kernel
theorem dX6_cells_1 : decode cX6_cells 1 = .ok (.istore_n 1, 1) := by decide +kernel
theorem dX6_cells_2 : decode cX6_cells 2 = .ok (.iconst 0, 1) := by decide +kernel
theorem dX6_cells_3 : decode cX6_cells 3 = .ok (.istore_n 2, 1) := by decide +kernel
theorem dX6_cells_4 : decode cX6_cells 4 = .ok (.iload_n 2, 1) := by decide +kernel
theorem dX6_cells_5 : decode cX6_cells 5 = .ok (.aload_n 0, 1) := by decide +kernel
theorem dX6_cells_6 : decode cX6_cells 6 = .ok (.getfield 9, 3) := by decide +kernel
theorem dX6_cells_9 : decode cX6_cells 9 = .ok (.if_icmp .ge 25, 3) := by decide +kernel
theorem dX6_cells_12 : decode cX6_cells 12 = .ok (.iload_n 1, 1) := by decide +kernel
theorem dX6_cells_13 : decode cX6_cells 13 = .ok (.aload_n 0, 1) := by decide +kernel
theorem dX6_cells_14 : decode cX6_cells 14 = .ok (.iload_n 2, 1) := by decide +kernel
theorem dX6_cells_15 : decode cX6_cells 15 = .ok (.invokevirtual 71, 3) := by decide +kernel
theorem dX6_cells_18 : decode cX6_cells 18 = .ok (.ifCond .le 7, 3) := by decide +kernel
theorem dX6_cells_21 : decode cX6_cells 21 = .ok (.iconst 1, 1) := by decide +kernel
theorem dX6_cells_22 : decode cX6_cells 22 = .ok (.goto 4, 3) := by decide +kernel
theorem dX6_cells_25 : decode cX6_cells 25 = .ok (.iconst 0, 1) := by decide +kernel
theorem dX6_cells_26 : decode cX6_cells 26 = .ok (.iadd, 1) := by decide +kernel
theorem dX6_cells_27 : decode cX6_cells 27 = .ok (.istore_n 1, 1) := by decide +kernel
theorem dX6_cells_28 : decode cX6_cells 28 = .ok (.iinc 2 1, 3) := by decide +kernel
theorem dX6_cells_31 : decode cX6_cells 31 = .ok (.goto (-27), 3) := by decide +kernel
theorem dX6_cells_34 : decode cX6_cells 34 = .ok (.iload_n 1, 1) := by decide +kernel
theorem dX6_cells_35 : decode cX6_cells 35 = .ok (.ireturn, 1) := by decide +kernel
def F_X6_cells_l4 (o : Nat) (P : VP) (post : Int32 → Prop)   (X : Int32 → Int32 → Prop) (v1 : Int32) (v2 : Int32) : Prop :=
  (v2 < P 2 o 0 → F_X6_quotaOf o v2 P (fun r15 => (0 < r15 → X (v1 + 1) (v2 + 1)) ∧ (¬ 0 < r15 → X (v1 + 0) (v2 + 1)))) ∧ (¬ v2 < P 2 o 0 → post v1)
set_option maxRecDepth 4000 in
theorem s_X6_cells_l4 {l : Launch} {g : vG} {o : Nat} {P Q : VP} {post : Int32 → Prop}    {v1 : Int32} {v2 : Int32} (ho : o < vcnt 2)  (h : vL2 (F_X6_cells_l4 o P post  ) v1 v2) : VM l g RX6 cX6_cells 3 (some .int) 2 (vpI (vjn P Q) post) 4 [(0, vR 2 o), (1, vI v1), (2, vI v2)] [] (vjn P Q) := by
  refine vL2_s (T := fun v1 v2 => VM l g RX6 cX6_cells 3 (some .int) 2 (vpI (vjn P Q) post) 4 [(0, vR 2 o), (1, vI v1), (2, vI v2)] [] (vjn P Q)) ?_ h
  clear h
  intro X hX v1 v2 h
  unfold F_X6_cells_l4 at h
  refine vr_iload_n 2 2 dX6_cells_4 rfl rfl ?_
  refine vr_aload_n 0 0 dX6_cells_5 rfl rfl ?_
  refine vg_2_0 RX6 rfl ho fl_6_9 dX6_cells_6 ?_
  refine vr_icmpge 34 dX6_cells_9 (by decide) (fun c9 => ?_) (fun c9 => ?_)
  · have h := h.1 c9
    refine vr_iload_n 1 1 dX6_cells_12 rfl rfl ?_
    refine vr_aload_n 0 0 dX6_cells_13 rfl rfl ?_
    refine vr_iload_n 2 2 dX6_cells_14 rfl rfl ?_
    refine vr_callV RX6 (s_X6_quotaOf ho h) rfl ho rfl rfl rfl ml_6_71 rfl yh_X6_quotaOf rfl ⟨Nat.le_of_ble_eq_true rfl, Nat.le_of_ble_eq_true rfl⟩ (Nat.le_of_ble_eq_true rfl) ⟨Nat.zero_le _, Nat.zero_le _⟩ dX6_cells_15 (ki fun r15 h => ?_)
    refine vr_ifle 25 dX6_cells_18 (by decide) (fun c18 => ?_) (fun c18 => ?_)
    · have h := h.1 c18
      refine vr_iconst 1 dX6_cells_21 (by decide) ?_
      refine vr_goto 26 dX6_cells_22 (by decide) ?_
      refine vr_iadd dX6_cells_26 ?_
      refine vr_istore_n 1 [(1, vI (v1 + 1)), (0, vR 2 o), (2, vI v2)] dX6_cells_27 rfl (by decide) rfl ?_
      refine vr_iinc (v2 + 1) 2 [(2, vI (v2 + 1)), (1, vI (v1 + 1)), (0, vR 2 o)] dX6_cells_28 rfl rfl (by decide) rfl ?_
      refine vr_goto 4 dX6_cells_31 (by decide) ?_
      refine vr_sub [2, 1, 0] [(0, vR 2 o), (1, vI (v1 + 1)), (2, vI (v2 + 1))] rfl ?_
      exact hX _ _ h
    · have h := h.2 c18
      refine vr_iconst 0 dX6_cells_25 (by decide) ?_
      refine vr_iadd dX6_cells_26 ?_
      refine vr_istore_n 1 [(1, vI (v1 + 0)), (0, vR 2 o), (2, vI v2)] dX6_cells_27 rfl (by decide) rfl ?_
      refine vr_iinc (v2 + 1) 2 [(2, vI (v2 + 1)), (1, vI (v1 + 0)), (0, vR 2 o)] dX6_cells_28 rfl rfl (by decide) rfl ?_
      refine vr_goto 4 dX6_cells_31 (by decide) ?_
      refine vr_sub [2, 1, 0] [(0, vR 2 o), (1, vI (v1 + 0)), (2, vI (v2 + 1))] rfl ?_
      exact hX _ _ h
  · have h := h.2 c9
    refine vr_iload_n 1 1 dX6_cells_34 rfl rfl ?_
    exact vr_iret rfl ⟨rfl, _, rfl, h⟩ dX6_cells_35
def F_X6_cells (o : Nat) (P : VP) (post : Int32 → Prop) : Prop :=
  vL2 (F_X6_cells_l4 o P post  ) ((0 : Int32)) ((0 : Int32))
set_option maxRecDepth 4000 in
theorem s_X6_cells {l : Launch} {g : vG} {o : Nat} {P Q : VP} {post : Int32 → Prop} (ho : o < vcnt 2) (h : F_X6_cells o P post) : VC l g yX6_cells cX6_cells 3 (some .int) 2 [vR 2 o] (vjn P Q) (vpI (vjn P Q) post) := by
  refine VC.of (by decide +kernel) (Nat.le_of_ble_eq_true rfl) (show VM l g RX6 cX6_cells 3 (some .int) 2 (vpI (vjn P Q) post) 0 [(0, vR 2 o)] [] (vjn P Q) from ?_)
  unfold F_X6_cells at h
  refine vr_iconst 0 dX6_cells_0 (by decide) ?_
  refine vr_istore_n 1 [(1, vI 0), (0, vR 2 o)] dX6_cells_1 rfl (by decide) rfl ?_
  refine vr_iconst 0 dX6_cells_2 (by decide) ?_
  refine vr_istore_n 2 [(2, vI 0), (1, vI 0), (0, vR 2 o)] dX6_cells_3 rfl (by decide) rfl ?_
  refine vr_sub [2, 1, 0] [(0, vR 2 o), (1, vI 0), (2, vI 0)] rfl ?_
  exact s_X6_cells_l4 ho  h
theorem dX6_quotaOfAll_0 : decode cX6_quotaOfAll 0 = .ok (.iconst 0, 1) := by decide +kernel
theorem dX6_quotaOfAll_1 : decode cX6_quotaOfAll 1 = .ok (.istore_n 1, 1) := by decide +kernel
theorem dX6_quotaOfAll_2 : decode cX6_quotaOfAll 2 = .ok (.iconst 0, 1) := by decide +kernel
theorem dX6_quotaOfAll_3 : decode cX6_quotaOfAll 3 = .ok (.istore_n 2, 1) := by decide +kernel
theorem dX6_quotaOfAll_4 : decode cX6_quotaOfAll 4 = .ok (.iload_n 2, 1) := by decide +kernel
theorem dX6_quotaOfAll_5 : decode cX6_quotaOfAll 5 = .ok (.aload_n 0, 1) := by decide +kernel
theorem dX6_quotaOfAll_6 : decode cX6_quotaOfAll 6 = .ok (.getfield 9, 3) := by decide +kernel
theorem dX6_quotaOfAll_9 : decode cX6_quotaOfAll 9 = .ok (.if_icmp .ge 17, 3) := by decide +kernel
theorem dX6_quotaOfAll_12 : decode cX6_quotaOfAll 12 = .ok (.iload_n 1, 1) := by decide +kernel
theorem dX6_quotaOfAll_13 : decode cX6_quotaOfAll 13 = .ok (.aload_n 0, 1) := by decide +kernel
theorem dX6_quotaOfAll_14 : decode cX6_quotaOfAll 14 = .ok (.iload_n 2, 1) := by decide +kernel
theorem dX6_quotaOfAll_15 : decode cX6_quotaOfAll 15 = .ok (.invokevirtual 71, 3) := by decide +kernel
theorem dX6_quotaOfAll_18 : decode cX6_quotaOfAll 18 = .ok (.iadd, 1) := by decide +kernel
theorem dX6_quotaOfAll_19 : decode cX6_quotaOfAll 19 = .ok (.istore_n 1, 1) := by decide +kernel
theorem dX6_quotaOfAll_20 : decode cX6_quotaOfAll 20 = .ok (.iinc 2 1, 3) := by decide +kernel
theorem dX6_quotaOfAll_23 : decode cX6_quotaOfAll 23 = .ok (.goto (-19), 3) := by decide +kernel
theorem dX6_quotaOfAll_26 : decode cX6_quotaOfAll 26 = .ok (.iload_n 1, 1) := by decide +kernel
theorem dX6_quotaOfAll_27 : decode cX6_quotaOfAll 27 = .ok (.ireturn, 1) := by decide +kernel
def F_X6_quotaOfAll_l4 (o : Nat) (P : VP) (post : Int32 → Prop)   (X : Int32 → Int32 → Prop) (v1 : Int32) (v2 : Int32) : Prop :=
  (v2 < P 2 o 0 → F_X6_quotaOf o v2 P (fun r15 => X (v1 + r15) (v2 + 1))) ∧ (¬ v2 < P 2 o 0 → post v1)
set_option maxRecDepth 4000 in
theorem s_X6_quotaOfAll_l4 {l : Launch} {g : vG} {o : Nat} {P Q : VP} {post : Int32 → Prop}    {v1 : Int32} {v2 : Int32} (ho : o < vcnt 2)  (h : vL2 (F_X6_quotaOfAll_l4 o P post  ) v1 v2) : VM l g RX6 cX6_quotaOfAll 3 (some .int) 2 (vpI (vjn P Q) post) 4 [(0, vR 2 o), (1, vI v1), (2, vI v2)] [] (vjn P Q) := by
  refine vL2_s (T := fun v1 v2 => VM l g RX6 cX6_quotaOfAll 3 (some .int) 2 (vpI (vjn P Q) post) 4 [(0, vR 2 o), (1, vI v1), (2, vI v2)] [] (vjn P Q)) ?_ h
  clear h
  intro X hX v1 v2 h
  unfold F_X6_quotaOfAll_l4 at h
  refine vr_iload_n 2 2 dX6_quotaOfAll_4 rfl rfl ?_
  refine vr_aload_n 0 0 dX6_quotaOfAll_5 rfl rfl ?_
  refine vg_2_0 RX6 rfl ho fl_6_9 dX6_quotaOfAll_6 ?_
  refine vr_icmpge 26 dX6_quotaOfAll_9 (by decide) (fun c9 => ?_) (fun c9 => ?_)
  · have h := h.1 c9
    refine vr_iload_n 1 1 dX6_quotaOfAll_12 rfl rfl ?_
    refine vr_aload_n 0 0 dX6_quotaOfAll_13 rfl rfl ?_
    refine vr_iload_n 2 2 dX6_quotaOfAll_14 rfl rfl ?_
    refine vr_callV RX6 (s_X6_quotaOf ho h) rfl ho rfl rfl rfl ml_6_71 rfl yh_X6_quotaOf rfl ⟨Nat.le_of_ble_eq_true rfl, Nat.le_of_ble_eq_true rfl⟩ (Nat.le_of_ble_eq_true rfl) ⟨Nat.zero_le _, Nat.zero_le _⟩ dX6_quotaOfAll_15 (ki fun r15 h => ?_)
    refine vr_iadd dX6_quotaOfAll_18 ?_
    refine vr_istore_n 1 [(1, vI (v1 + r15)), (0, vR 2 o), (2, vI v2)] dX6_quotaOfAll_19 rfl (by decide) rfl ?_
    refine vr_iinc (v2 + 1) 2 [(2, vI (v2 + 1)), (1, vI (v1 + r15)), (0, vR 2 o)] dX6_quotaOfAll_20 rfl rfl (by decide) rfl ?_
    refine vr_goto 4 dX6_quotaOfAll_23 (by decide) ?_
    refine vr_sub [2, 1, 0] [(0, vR 2 o), (1, vI (v1 + r15)), (2, vI (v2 + 1))] rfl ?_
    exact hX _ _ h
  · have h := h.2 c9
    refine vr_iload_n 1 1 dX6_quotaOfAll_26 rfl rfl ?_
    exact vr_iret rfl ⟨rfl, _, rfl, h⟩ dX6_quotaOfAll_27
def F_X6_quotaOfAll (o : Nat) (P : VP) (post : Int32 → Prop) : Prop :=
  vL2 (F_X6_quotaOfAll_l4 o P post  ) ((0 : Int32)) ((0 : Int32))
set_option maxRecDepth 4000 in
theorem s_X6_quotaOfAll {l : Launch} {g : vG} {o : Nat} {P Q : VP} {post : Int32 → Prop} (ho : o < vcnt 2) (h : F_X6_quotaOfAll o P post) : VC l g yX6_quotaOfAll cX6_quotaOfAll 3 (some .int) 2 [vR 2 o] (vjn P Q) (vpI (vjn P Q) post) := by
  refine VC.of (by decide +kernel) (Nat.le_of_ble_eq_true rfl) (show VM l g RX6 cX6_quotaOfAll 3 (some .int) 2 (vpI (vjn P Q) post) 0 [(0, vR 2 o)] [] (vjn P Q) from ?_)
  unfold F_X6_quotaOfAll at h
  refine vr_iconst 0 dX6_quotaOfAll_0 (by decide) ?_
  refine vr_istore_n 1 [(1, vI 0), (0, vR 2 o)] dX6_quotaOfAll_1 rfl (by decide) rfl ?_
  refine vr_iconst 0 dX6_quotaOfAll_2 (by decide) ?_
  refine vr_istore_n 2 [(2, vI 0), (1, vI 0), (0, vR 2 o)] dX6_quotaOfAll_3 rfl (by decide) rfl ?_
  refine vr_sub [2, 1, 0] [(0, vR 2 o), (1, vI 0), (2, vI 0)] rfl ?_
  exact s_X6_quotaOfAll_l4 ho  h
theorem dX6_recordsOfAll_0 : decode cX6_recordsOfAll 0 = .ok (.iconst 0, 1) := by decide +kernel
theorem dX6_recordsOfAll_1 : decode cX6_recordsOfAll 1 = .ok (.istore_n 1, 1) := by decide +kernel
theorem dX6_recordsOfAll_2 : decode cX6_recordsOfAll 2 = .ok (.iconst 0, 1) := by decide +kernel
theorem dX6_recordsOfAll_3 : decode cX6_recordsOfAll 3 = .ok (.istore_n 2, 1) := by decide +kernel
theorem dX6_recordsOfAll_4 : decode cX6_recordsOfAll 4 = .ok (.iload_n 2, 1) := by decide +kernel
theorem dX6_recordsOfAll_5 : decode cX6_recordsOfAll 5 = .ok (.bipush 16, 2) := by decide +kernel
theorem dX6_recordsOfAll_7 : decode cX6_recordsOfAll 7 = .ok (.if_icmp .ge 33, 3) := by decide +kernel
theorem dX6_recordsOfAll_10 : decode cX6_recordsOfAll 10 = .ok (.aload_n 0, 1) := by decide +kernel
theorem dX6_recordsOfAll_11 : decode cX6_recordsOfAll 11 = .ok (.iload_n 2, 1) := by decide +kernel
theorem dX6_recordsOfAll_12 : decode cX6_recordsOfAll 12 = .ok (.invokevirtual 78, 3) := by decide +kernel
theorem dX6_recordsOfAll_15 : decode cX6_recordsOfAll 15 = .ok (.astore_n 3, 1) := by decide +kernel
theorem dX6_recordsOfAll_16 : decode cX6_recordsOfAll 16 = .ok (.iload_n 1, 1) := by decide +kernel
theorem dX6_recordsOfAll_17 : decode cX6_recordsOfAll 17 = .ok (.aload_n 3, 1) := by decide +kernel
theorem dX6_recordsOfAll_18 : decode cX6_recordsOfAll 18 = .ok (.ifnull 13, 3) := by decide +kernel
theorem dX6_recordsOfAll_21 : decode cX6_recordsOfAll 21 = .ok (.aload_n 3, 1) := by decide +kernel
theorem dX6_recordsOfAll_22 : decode cX6_recordsOfAll 22 = .ok (.getfield 85, 3) := by decide +kernel
theorem dX6_recordsOfAll_25 : decode cX6_recordsOfAll 25 = .ok (.invokestatic 88, 3) := by decide +kernel
theorem dX6_recordsOfAll_28 : decode cX6_recordsOfAll 28 = .ok (.goto 4, 3) := by decide +kernel
theorem dX6_recordsOfAll_31 : decode cX6_recordsOfAll 31 = .ok (.iconst 0, 1) := by decide +kernel
theorem dX6_recordsOfAll_32 : decode cX6_recordsOfAll 32 = .ok (.iadd, 1) := by decide +kernel
theorem dX6_recordsOfAll_33 : decode cX6_recordsOfAll 33 = .ok (.istore_n 1, 1) := by decide +kernel
theorem dX6_recordsOfAll_34 : decode cX6_recordsOfAll 34 = .ok (.iinc 2 1, 3) := by decide +kernel
theorem dX6_recordsOfAll_37 : decode cX6_recordsOfAll 37 = .ok (.goto (-33), 3) := by decide +kernel
theorem dX6_recordsOfAll_40 : decode cX6_recordsOfAll 40 = .ok (.iload_n 1, 1) := by decide +kernel
theorem dX6_recordsOfAll_41 : decode cX6_recordsOfAll 41 = .ok (.ireturn, 1) := by decide +kernel
def F_X6_recordsOfAll_l4 (o : Nat) (P : VP) (post : Int32 → Prop)   (X : Int32 → Int32 → Prop) (v1 : Int32) (v2 : Int32) : Prop :=
  (v2 < 16 → (F_X6_find o v2 P (fun r12 => match r12 with | none => (X (v1 + 0) (v2 + 1)) | some yr12 => (F_X7_recordsOf (P 7 yr12 4) P (fun r25 => X (v1 + r25) (v2 + 1)))))) ∧ (¬ v2 < 16 → post v1)
set_option maxRecDepth 4000 in
theorem s_X6_recordsOfAll_l4 {l : Launch} {g : vG} {o : Nat} {P Q : VP} {post : Int32 → Prop}    {v1 : Int32} {v2 : Int32} (ho : o < vcnt 2)  (h : vL2 (F_X6_recordsOfAll_l4 o P post  ) v1 v2) : VM l g RX6 cX6_recordsOfAll 4 (some .int) 1 (vpI (vjn P Q) post) 4 [(0, vR 2 o), (1, vI v1), (2, vI v2)] [] (vjn P Q) := by
  refine vL2_s (T := fun v1 v2 => VM l g RX6 cX6_recordsOfAll 4 (some .int) 1 (vpI (vjn P Q) post) 4 [(0, vR 2 o), (1, vI v1), (2, vI v2)] [] (vjn P Q)) ?_ h
  clear h
  intro X hX v1 v2 h
  unfold F_X6_recordsOfAll_l4 at h
  refine vr_iload_n 2 2 dX6_recordsOfAll_4 rfl rfl ?_
  refine vr_bipush 16 dX6_recordsOfAll_5 (by decide) ?_
  refine vr_icmpge 40 dX6_recordsOfAll_7 (by decide) (fun c7 => ?_) (fun c7 => ?_)
  · have h := h.1 c7
    refine vr_aload_n 0 0 dX6_recordsOfAll_10 rfl rfl ?_
    refine vr_iload_n 2 2 dX6_recordsOfAll_11 rfl rfl ?_
    refine vr_callV RX6 (s_X6_find ho h) rfl ho rfl rfl rfl ml_6_78 rfl yh_X6_find rfl ⟨Nat.le_of_ble_eq_true rfl, Nat.le_of_ble_eq_true rfl⟩ (Nat.le_of_ble_eq_true rfl) ⟨Nat.zero_le _, Nat.zero_le _⟩ dX6_recordsOfAll_12 (ko fun r12 hvr12 h => ?_)
    refine vr_astore_n 3 [(3, vO 7 r12), (0, vR 2 o), (1, vI v1), (2, vI v2)] dX6_recordsOfAll_15 rfl (by decide) rfl ?_
    refine vr_iload_n 1 2 dX6_recordsOfAll_16 rfl rfl ?_
    refine vr_aload_n 3 0 dX6_recordsOfAll_17 rfl rfl ?_
    rcases r12 with _ | yr12
    · refine vr_ifnullN 31 dX6_recordsOfAll_18 (by decide) ?_
      refine vr_iconst 0 dX6_recordsOfAll_31 (by decide) ?_
      refine vr_iadd dX6_recordsOfAll_32 ?_
      refine vr_istore_n 1 [(1, vI (v1 + 0)), (3, vN), (0, vR 2 o), (2, vI v2)] dX6_recordsOfAll_33 rfl (by decide) rfl ?_
      refine vr_iinc (v2 + 1) 3 [(2, vI (v2 + 1)), (1, vI (v1 + 0)), (3, vN), (0, vR 2 o)] dX6_recordsOfAll_34 rfl rfl (by decide) rfl ?_
      refine vr_goto 4 dX6_recordsOfAll_37 (by decide) ?_
      refine vr_sub [3, 1, 0] [(0, vR 2 o), (1, vI (v1 + 0)), (2, vI (v2 + 1))] rfl ?_
      exact hX _ _ h
    · refine vr_ifnullR dX6_recordsOfAll_18 ?_
      refine vr_aload_n 3 0 dX6_recordsOfAll_21 rfl rfl ?_
      refine vg_7_4 RX6 rfl (hvr12 _ rfl) fl_6_85 dX6_recordsOfAll_22 ?_
      refine vr_callN RX6 "RingGates" (s_X7_recordsOf h) rfl mn_6_88 ml_6_88 rfl yh_X7_recordsOf rfl ⟨Nat.le_of_ble_eq_true rfl, Nat.le_of_ble_eq_true rfl⟩ (Nat.le_of_ble_eq_true rfl) ⟨Nat.zero_le _, Nat.zero_le _⟩ dX6_recordsOfAll_25 (ki fun r25 h => ?_)
      refine vr_goto 32 dX6_recordsOfAll_28 (by decide) ?_
      refine vr_iadd dX6_recordsOfAll_32 ?_
      refine vr_istore_n 1 [(1, vI (v1 + r25)), (3, vR 7 yr12), (0, vR 2 o), (2, vI v2)] dX6_recordsOfAll_33 rfl (by decide) rfl ?_
      refine vr_iinc (v2 + 1) 3 [(2, vI (v2 + 1)), (1, vI (v1 + r25)), (3, vR 7 yr12), (0, vR 2 o)] dX6_recordsOfAll_34 rfl rfl (by decide) rfl ?_
      refine vr_goto 4 dX6_recordsOfAll_37 (by decide) ?_
      refine vr_sub [3, 1, 0] [(0, vR 2 o), (1, vI (v1 + r25)), (2, vI (v2 + 1))] rfl ?_
      exact hX _ _ h
  · have h := h.2 c7
    refine vr_iload_n 1 1 dX6_recordsOfAll_40 rfl rfl ?_
    exact vr_iret rfl ⟨rfl, _, rfl, h⟩ dX6_recordsOfAll_41
def F_X6_recordsOfAll (o : Nat) (P : VP) (post : Int32 → Prop) : Prop :=
  vL2 (F_X6_recordsOfAll_l4 o P post  ) ((0 : Int32)) ((0 : Int32))
set_option maxRecDepth 4000 in
theorem s_X6_recordsOfAll {l : Launch} {g : vG} {o : Nat} {P Q : VP} {post : Int32 → Prop} (ho : o < vcnt 2) (h : F_X6_recordsOfAll o P post) : VC l g yX6_recordsOfAll cX6_recordsOfAll 4 (some .int) 1 [vR 2 o] (vjn P Q) (vpI (vjn P Q) post) := by
  refine VC.of (by decide +kernel) (Nat.le_of_ble_eq_true rfl) (show VM l g RX6 cX6_recordsOfAll 4 (some .int) 1 (vpI (vjn P Q) post) 0 [(0, vR 2 o)] [] (vjn P Q) from ?_)
  unfold F_X6_recordsOfAll at h
  refine vr_iconst 0 dX6_recordsOfAll_0 (by decide) ?_
  refine vr_istore_n 1 [(1, vI 0), (0, vR 2 o)] dX6_recordsOfAll_1 rfl (by decide) rfl ?_
  refine vr_iconst 0 dX6_recordsOfAll_2 (by decide) ?_
  refine vr_istore_n 2 [(2, vI 0), (1, vI 0), (0, vR 2 o)] dX6_recordsOfAll_3 rfl (by decide) rfl ?_
  refine vr_sub [2, 1, 0] [(0, vR 2 o), (1, vI 0), (2, vI 0)] rfl ?_
  exact s_X6_recordsOfAll_l4 ho  h
theorem dX6_snappedOfAll_0 : decode cX6_snappedOfAll 0 = .ok (.iconst 0, 1) := by decide +kernel
theorem dX6_snappedOfAll_1 : decode cX6_snappedOfAll 1 = .ok (.istore_n 1, 1) := by decide +kernel
theorem dX6_snappedOfAll_2 : decode cX6_snappedOfAll 2 = .ok (.iconst 0, 1) := by decide +kernel
theorem dX6_snappedOfAll_3 : decode cX6_snappedOfAll 3 = .ok (.istore_n 2, 1) := by decide +kernel
theorem dX6_snappedOfAll_4 : decode cX6_snappedOfAll 4 = .ok (.iload_n 2, 1) := by decide +kernel
theorem dX6_snappedOfAll_5 : decode cX6_snappedOfAll 5 = .ok (.bipush 16, 2) := by decide +kernel
theorem dX6_snappedOfAll_7 : decode cX6_snappedOfAll 7 = .ok (.if_icmp .ge 30, 3) := by decide +kernel
theorem dX6_snappedOfAll_10 : decode cX6_snappedOfAll 10 = .ok (.aload_n 0, 1) := by decide +kernel
theorem dX6_snappedOfAll_11 : decode cX6_snappedOfAll 11 = .ok (.iload_n 2, 1) := by decide +kernel
theorem dX6_snappedOfAll_12 : decode cX6_snappedOfAll 12 = .ok (.invokevirtual 78, 3) := by decide +kernel
theorem dX6_snappedOfAll_15 : decode cX6_snappedOfAll 15 = .ok (.astore_n 3, 1) := by decide +kernel
theorem dX6_snappedOfAll_16 : decode cX6_snappedOfAll 16 = .ok (.iload_n 1, 1) := by decide +kernel
theorem dX6_snappedOfAll_17 : decode cX6_snappedOfAll 17 = .ok (.aload_n 3, 1) := by decide +kernel
theorem dX6_snappedOfAll_18 : decode cX6_snappedOfAll 18 = .ok (.ifnull 10, 3) := by decide +kernel
theorem dX6_snappedOfAll_21 : decode cX6_snappedOfAll 21 = .ok (.aload_n 3, 1) := by decide +kernel
theorem dX6_snappedOfAll_22 : decode cX6_snappedOfAll 22 = .ok (.invokevirtual 132, 3) := by decide +kernel
theorem dX6_snappedOfAll_25 : decode cX6_snappedOfAll 25 = .ok (.goto 4, 3) := by decide +kernel
theorem dX6_snappedOfAll_28 : decode cX6_snappedOfAll 28 = .ok (.iconst 0, 1) := by decide +kernel
theorem dX6_snappedOfAll_29 : decode cX6_snappedOfAll 29 = .ok (.iadd, 1) := by decide +kernel
theorem dX6_snappedOfAll_30 : decode cX6_snappedOfAll 30 = .ok (.istore_n 1, 1) := by decide +kernel
theorem dX6_snappedOfAll_31 : decode cX6_snappedOfAll 31 = .ok (.iinc 2 1, 3) := by decide +kernel
theorem dX6_snappedOfAll_34 : decode cX6_snappedOfAll 34 = .ok (.goto (-30), 3) := by decide +kernel
theorem dX6_snappedOfAll_37 : decode cX6_snappedOfAll 37 = .ok (.iload_n 1, 1) := by decide +kernel
theorem dX6_snappedOfAll_38 : decode cX6_snappedOfAll 38 = .ok (.ireturn, 1) := by decide +kernel
def F_X6_snappedOfAll_l4 (o : Nat) (P : VP) (post : Int32 → Prop)   (X : Int32 → Int32 → Prop) (v1 : Int32) (v2 : Int32) : Prop :=
  (v2 < 16 → (F_X6_find o v2 P (fun r12 => match r12 with | none => (X (v1 + 0) (v2 + 1)) | some yr12 => (F_X3_snapped yr12 P (fun r22 => X (v1 + r22) (v2 + 1)))))) ∧ (¬ v2 < 16 → post v1)
set_option maxRecDepth 4000 in
theorem s_X6_snappedOfAll_l4 {l : Launch} {g : vG} {o : Nat} {P Q : VP} {post : Int32 → Prop}    {v1 : Int32} {v2 : Int32} (ho : o < vcnt 2)  (h : vL2 (F_X6_snappedOfAll_l4 o P post  ) v1 v2) : VM l g RX6 cX6_snappedOfAll 4 (some .int) 3 (vpI (vjn P Q) post) 4 [(0, vR 2 o), (1, vI v1), (2, vI v2)] [] (vjn P Q) := by
  refine vL2_s (T := fun v1 v2 => VM l g RX6 cX6_snappedOfAll 4 (some .int) 3 (vpI (vjn P Q) post) 4 [(0, vR 2 o), (1, vI v1), (2, vI v2)] [] (vjn P Q)) ?_ h
  clear h
  intro X hX v1 v2 h
  unfold F_X6_snappedOfAll_l4 at h
  refine vr_iload_n 2 2 dX6_snappedOfAll_4 rfl rfl ?_
  refine vr_bipush 16 dX6_snappedOfAll_5 (by decide) ?_
  refine vr_icmpge 37 dX6_snappedOfAll_7 (by decide) (fun c7 => ?_) (fun c7 => ?_)
  · have h := h.1 c7
    refine vr_aload_n 0 0 dX6_snappedOfAll_10 rfl rfl ?_
    refine vr_iload_n 2 2 dX6_snappedOfAll_11 rfl rfl ?_
    refine vr_callV RX6 (s_X6_find ho h) rfl ho rfl rfl rfl ml_6_78 rfl yh_X6_find rfl ⟨Nat.le_of_ble_eq_true rfl, Nat.le_of_ble_eq_true rfl⟩ (Nat.le_of_ble_eq_true rfl) ⟨Nat.zero_le _, Nat.zero_le _⟩ dX6_snappedOfAll_12 (ko fun r12 hvr12 h => ?_)
    refine vr_astore_n 3 [(3, vO 7 r12), (0, vR 2 o), (1, vI v1), (2, vI v2)] dX6_snappedOfAll_15 rfl (by decide) rfl ?_
    refine vr_iload_n 1 2 dX6_snappedOfAll_16 rfl rfl ?_
    refine vr_aload_n 3 0 dX6_snappedOfAll_17 rfl rfl ?_
    rcases r12 with _ | yr12
    · refine vr_ifnullN 28 dX6_snappedOfAll_18 (by decide) ?_
      refine vr_iconst 0 dX6_snappedOfAll_28 (by decide) ?_
      refine vr_iadd dX6_snappedOfAll_29 ?_
      refine vr_istore_n 1 [(1, vI (v1 + 0)), (3, vN), (0, vR 2 o), (2, vI v2)] dX6_snappedOfAll_30 rfl (by decide) rfl ?_
      refine vr_iinc (v2 + 1) 3 [(2, vI (v2 + 1)), (1, vI (v1 + 0)), (3, vN), (0, vR 2 o)] dX6_snappedOfAll_31 rfl rfl (by decide) rfl ?_
      refine vr_goto 4 dX6_snappedOfAll_34 (by decide) ?_
      refine vr_sub [3, 1, 0] [(0, vR 2 o), (1, vI (v1 + 0)), (2, vI (v2 + 1))] rfl ?_
      exact hX _ _ h
    · refine vr_ifnullR dX6_snappedOfAll_18 ?_
      refine vr_aload_n 3 0 dX6_snappedOfAll_21 rfl rfl ?_
      refine vr_callV RX6 (s_X3_snapped (hvr12 _ rfl) h) rfl (hvr12 _ rfl) rfl rfl rfl ml_6_132 rfl yh_X3_snapped rfl ⟨Nat.le_of_ble_eq_true rfl, Nat.le_of_ble_eq_true rfl⟩ (Nat.le_of_ble_eq_true rfl) ⟨Nat.zero_le _, Nat.zero_le _⟩ dX6_snappedOfAll_22 (ki fun r22 h => ?_)
      refine vr_goto 29 dX6_snappedOfAll_25 (by decide) ?_
      refine vr_iadd dX6_snappedOfAll_29 ?_
      refine vr_istore_n 1 [(1, vI (v1 + r22)), (3, vR 7 yr12), (0, vR 2 o), (2, vI v2)] dX6_snappedOfAll_30 rfl (by decide) rfl ?_
      refine vr_iinc (v2 + 1) 3 [(2, vI (v2 + 1)), (1, vI (v1 + r22)), (3, vR 7 yr12), (0, vR 2 o)] dX6_snappedOfAll_31 rfl rfl (by decide) rfl ?_
      refine vr_goto 4 dX6_snappedOfAll_34 (by decide) ?_
      refine vr_sub [3, 1, 0] [(0, vR 2 o), (1, vI (v1 + r22)), (2, vI (v2 + 1))] rfl ?_
      exact hX _ _ h
  · have h := h.2 c7
    refine vr_iload_n 1 1 dX6_snappedOfAll_37 rfl rfl ?_
    exact vr_iret rfl ⟨rfl, _, rfl, h⟩ dX6_snappedOfAll_38
def F_X6_snappedOfAll (o : Nat) (P : VP) (post : Int32 → Prop) : Prop :=
  vL2 (F_X6_snappedOfAll_l4 o P post  ) ((0 : Int32)) ((0 : Int32))
set_option maxRecDepth 4000 in
theorem s_X6_snappedOfAll {l : Launch} {g : vG} {o : Nat} {P Q : VP} {post : Int32 → Prop} (ho : o < vcnt 2) (h : F_X6_snappedOfAll o P post) : VC l g yX6_snappedOfAll cX6_snappedOfAll 4 (some .int) 3 [vR 2 o] (vjn P Q) (vpI (vjn P Q) post) := by
  refine VC.of (by decide +kernel) (Nat.le_of_ble_eq_true rfl) (show VM l g RX6 cX6_snappedOfAll 4 (some .int) 3 (vpI (vjn P Q) post) 0 [(0, vR 2 o)] [] (vjn P Q) from ?_)
  unfold F_X6_snappedOfAll at h
  refine vr_iconst 0 dX6_snappedOfAll_0 (by decide) ?_
  refine vr_istore_n 1 [(1, vI 0), (0, vR 2 o)] dX6_snappedOfAll_1 rfl (by decide) rfl ?_
  refine vr_iconst 0 dX6_snappedOfAll_2 (by decide) ?_
  refine vr_istore_n 2 [(2, vI 0), (1, vI 0), (0, vR 2 o)] dX6_snappedOfAll_3 rfl (by decide) rfl ?_
  refine vr_sub [2, 1, 0] [(0, vR 2 o), (1, vI 0), (2, vI 0)] rfl ?_
  exact s_X6_snappedOfAll_l4 ho  h
theorem dX7_directory_0 : decode cX7_directory 0 = .ok (.aload_n 0, 1) := by decide +kernel
theorem dX7_directory_1 : decode cX7_directory 1 = .ok (.getfield 10, 3) := by decide +kernel
theorem dX7_directory_4 : decode cX7_directory 4 = .ok (.getfield 29, 3) := by decide +kernel
theorem dX7_directory_7 : decode cX7_directory 7 = .ok (.astore_n 2, 1) := by decide +kernel
theorem dX7_directory_8 : decode cX7_directory 8 = .ok (.aload_n 2, 1) := by decide +kernel
theorem dX7_directory_9 : decode cX7_directory 9 = .ok (.iload_n 1, 1) := by decide +kernel
theorem dX7_directory_10 : decode cX7_directory 10 = .ok (.invokevirtual 33, 3) := by decide +kernel
theorem dX7_directory_13 : decode cX7_directory 13 = .ok (.ifCond .eq 11, 3) := by decide +kernel
theorem dX7_directory_16 : decode cX7_directory 16 = .ok (.aload_n 2, 1) := by decide +kernel
theorem dX7_directory_17 : decode cX7_directory 17 = .ok (.iload_n 1, 1) := by decide +kernel
theorem dX7_directory_18 : decode cX7_directory 18 = .ok (.invokevirtual 39, 3) := by decide +kernel
theorem dX7_directory_21 : decode cX7_directory 21 = .ok (.goto 4, 3) := by decide +kernel
theorem dX7_directory_24 : decode cX7_directory 24 = .ok (.iconst (-1), 1) := by decide +kernel
theorem dX7_directory_25 : decode cX7_directory 25 = .ok (.ireturn, 1) := by decide +kernel
def F_X7_directory (x1 : Int32) (P : VP) (post : Int32 → VP → Prop) : Prop :=
  F_X6_hasDirectory 0 x1 P (fun r10 => (r10 = 0 → post (((-1) : Int32)) P) ∧ (¬ r10 = 0 → F_X6_makeDirectory 0 x1 P (fun r18 P18 => post r18 P18)))
set_option maxRecDepth 4000 in
theorem s_X7_directory {l : Launch} {g : vG} {x1 : Int32} {P Q : VP} {post : Int32 → VP → Prop}  (h : F_X7_directory x1 P post) : VC l g yX7_directory cX7_directory 3 (some .int) 1 [vR 0 0, vI x1] (vjn P Q) (vcI Q post) := by
  refine VC.of (by decide +kernel) (Nat.le_of_ble_eq_true rfl) (show VM l g RX7 cX7_directory 3 (some .int) 1 (vcI Q post) 0 [(0, vR 0 0), (1, vI x1)] [] (vjn P Q) from ?_)
  unfold F_X7_directory at h
  refine vr_aload_n 0 0 dX7_directory_0 rfl rfl ?_
  refine vg_0_0 RX7 rfl (by decide) fl_7_10 dX7_directory_1 ?_
  refine vg_1_0 RX7 rfl (by decide) fl_7_29 dX7_directory_4 ?_
  refine vr_astore_n 2 [(2, vR 2 0), (0, vR 0 0), (1, vI x1)] dX7_directory_7 rfl (by decide) rfl ?_
  refine vr_aload_n 2 0 dX7_directory_8 rfl rfl ?_
  refine vr_iload_n 1 2 dX7_directory_9 rfl rfl ?_
  refine vr_callV RX7 (s_X6_hasDirectory (by decide) h) rfl (by decide) rfl rfl rfl ml_7_33 rfl yh_X6_hasDirectory rfl ⟨Nat.le_of_ble_eq_true rfl, Nat.le_of_ble_eq_true rfl⟩ (Nat.le_of_ble_eq_true rfl) ⟨Nat.zero_le _, Nat.zero_le _⟩ dX7_directory_10 (ki fun r10 h => ?_)
  refine vr_ifeq 24 dX7_directory_13 (by decide) (fun c13 => ?_) (fun c13 => ?_)
  · have h := h.1 c13
    refine vr_iconst (-1) dX7_directory_24 (by decide) ?_
    exact vr_iret rfl ⟨_, _, rfl, rfl, h⟩ dX7_directory_25
  · have h := h.2 c13
    refine vr_aload_n 2 0 dX7_directory_16 rfl rfl ?_
    refine vr_iload_n 1 2 dX7_directory_17 rfl rfl ?_
    refine vr_callV RX7 (s_X6_makeDirectory (by decide) h) rfl (by decide) rfl rfl rfl ml_7_39 rfl yh_X6_makeDirectory rfl ⟨Nat.le_of_ble_eq_true rfl, Nat.le_of_ble_eq_true rfl⟩ (Nat.le_of_ble_eq_true rfl) ⟨Nat.zero_le _, Nat.zero_le _⟩ dX7_directory_18 (kci fun r18 P18 h => ?_)
    refine vr_goto 25 dX7_directory_21 (by decide) ?_
    exact vr_iret rfl ⟨_, _, rfl, rfl, h⟩ dX7_directory_25
theorem dX7_isBelow_0 : decode cX7_isBelow 0 = .ok (.iload_n 0, 1) := by decide +kernel
theorem dX7_isBelow_1 : decode cX7_isBelow 1 = .ok (.ifCond .lt 12, 3) := by decide +kernel
theorem dX7_isBelow_4 : decode cX7_isBelow 4 = .ok (.iload_n 0, 1) := by decide +kernel
theorem dX7_isBelow_5 : decode cX7_isBelow 5 = .ok (.iload_n 1, 1) := by decide +kernel
theorem dX7_isBelow_6 : decode cX7_isBelow 6 = .ok (.if_icmp .ge 7, 3) := by decide +kernel
theorem dX7_isBelow_9 : decode cX7_isBelow 9 = .ok (.iconst 1, 1) := by decide +kernel
theorem dX7_isBelow_10 : decode cX7_isBelow 10 = .ok (.goto 4, 3) := by decide +kernel
theorem dX7_isBelow_13 : decode cX7_isBelow 13 = .ok (.iconst 0, 1) := by decide +kernel
theorem dX7_isBelow_14 : decode cX7_isBelow 14 = .ok (.ireturn, 1) := by decide +kernel
def F_X7_isBelow (x0 : Int32) (x1 : Int32) (P : VP) (post : Int32 → Prop) : Prop :=
  (x0 < 0 → post ((0 : Int32))) ∧ (¬ x0 < 0 → (x0 < x1 → post ((1 : Int32))) ∧ (¬ x0 < x1 → post ((0 : Int32))))
set_option maxRecDepth 4000 in
theorem s_X7_isBelow {l : Launch} {g : vG} {x0 : Int32} {x1 : Int32} {P Q : VP} {post : Int32 → Prop}  (h : F_X7_isBelow x0 x1 P post) : VC l g yX7_isBelow cX7_isBelow 2 (some .boolean) 0 [vI x0, vI x1] (vjn P Q) (vpI (vjn P Q) post) := by
  refine VC.of (by decide +kernel) (Nat.le_of_ble_eq_true rfl) (show VM l g RX7 cX7_isBelow 2 (some .boolean) 0 (vpI (vjn P Q) post) 0 [(0, vI x0), (1, vI x1)] [] (vjn P Q) from ?_)
  unfold F_X7_isBelow at h
  refine vr_iload_n 0 0 dX7_isBelow_0 rfl rfl ?_
  refine vr_iflt 13 dX7_isBelow_1 (by decide) (fun c1 => ?_) (fun c1 => ?_)
  · have h := h.1 c1
    refine vr_iconst 0 dX7_isBelow_13 (by decide) ?_
    exact vr_zret rfl (Or.inl rfl) ⟨rfl, _, rfl, h⟩ dX7_isBelow_14
  · have h := h.2 c1
    refine vr_iload_n 0 0 dX7_isBelow_4 rfl rfl ?_
    refine vr_iload_n 1 1 dX7_isBelow_5 rfl rfl ?_
    refine vr_icmpge 13 dX7_isBelow_6 (by decide) (fun c6 => ?_) (fun c6 => ?_)
    · have h := h.1 c6
      refine vr_iconst 1 dX7_isBelow_9 (by decide) ?_
      refine vr_goto 14 dX7_isBelow_10 (by decide) ?_
      exact vr_zret rfl (Or.inr rfl) ⟨rfl, _, rfl, h⟩ dX7_isBelow_14
    · have h := h.2 c6
      refine vr_iconst 0 dX7_isBelow_13 (by decide) ?_
      exact vr_zret rfl (Or.inl rfl) ⟨rfl, _, rfl, h⟩ dX7_isBelow_14
theorem dX7_segment_0 : decode cX7_segment 0 = .ok (.iload_n 3, 1) := by decide +kernel
theorem dX7_segment_1 : decode cX7_segment 1 = .ok (.ifCond .ge 6, 3) := by decide +kernel
theorem dX7_segment_4 : decode cX7_segment 4 = .ok (.bipush (-14), 2) := by decide +kernel
theorem dX7_segment_6 : decode cX7_segment 6 = .ok (.ireturn, 1) := by decide +kernel
theorem dX7_segment_7 : decode cX7_segment 7 = .ok (.aload_n 0, 1) := by decide +kernel
theorem dX7_segment_8 : decode cX7_segment 8 = .ok (.getfield 10, 3) := by decide +kernel
theorem dX7_segment_11 : decode cX7_segment 11 = .ok (.getfield 29, 3) := by decide +kernel
theorem dX7_segment_14 : decode cX7_segment 14 = .ok (.astore 4, 2) := by decide +kernel
theorem dX7_segment_16 : decode cX7_segment 16 = .ok (.aload 4, 2) := by decide +kernel
theorem dX7_segment_18 : decode cX7_segment 18 = .ok (.iload_n 1, 1) := by decide +kernel
theorem dX7_segment_19 : decode cX7_segment 19 = .ok (.invokevirtual 33, 3) := by decide +kernel
theorem dX7_segment_22 : decode cX7_segment 22 = .ok (.ifCond .eq 22, 3) := by decide +kernel
theorem dX7_segment_25 : decode cX7_segment 25 = .ok (.iload_n 2, 1) := by decide +kernel
theorem dX7_segment_26 : decode cX7_segment 26 = .ok (.bipush 26, 2) := by decide +kernel
theorem dX7_segment_28 : decode cX7_segment 28 = .ok (.invokestatic 43, 3) := by decide +kernel
theorem dX7_segment_31 : decode cX7_segment 31 = .ok (.ifCond .eq 13, 3) := by decide +kernel
theorem dX7_segment_34 : decode cX7_segment 34 = .ok (.iload_n 3, 1) := by decide +kernel
theorem dX7_segment_35 : decode cX7_segment 35 = .ok (.ifCond .eq 9, 3) := by decide +kernel
theorem dX7_segment_38 : decode cX7_segment 38 = .ok (.iload_n 3, 1) := by decide +kernel
theorem dX7_segment_39 : decode cX7_segment 39 = .ok (.bipush 24, 2) := by decide +kernel
theorem dX7_segment_41 : decode cX7_segment 41 = .ok (.if_icmp .le 5, 3) := by decide +kernel
theorem dX7_segment_44 : decode cX7_segment 44 = .ok (.iconst (-1), 1) := by decide +kernel
theorem dX7_segment_45 : decode cX7_segment 45 = .ok (.ireturn, 1) := by decide +kernel
theorem dX7_segment_46 : decode cX7_segment 46 = .ok (.aload 4, 2) := by decide +kernel
theorem dX7_segment_48 : decode cX7_segment 48 = .ok (.invokevirtual 47, 3) := by decide +kernel
theorem dX7_segment_51 : decode cX7_segment 51 = .ok (.istore 5, 2) := by decide +kernel
theorem dX7_segment_53 : decode cX7_segment 53 = .ok (.iload 5, 2) := by decide +kernel
theorem dX7_segment_55 : decode cX7_segment 55 = .ok (.ifCond .ge 6, 3) := by decide +kernel
theorem dX7_segment_58 : decode cX7_segment 58 = .ok (.bipush (-3), 2) := by decide +kernel
theorem dX7_segment_60 : decode cX7_segment 60 = .ok (.ireturn, 1) := by decide +kernel
theorem dX7_segment_61 : decode cX7_segment 61 = .ok (.aload 4, 2) := by decide +kernel
theorem dX7_segment_63 : decode cX7_segment 63 = .ok (.iload_n 1, 1) := by decide +kernel
theorem dX7_segment_64 : decode cX7_segment 64 = .ok (.iload_n 2, 1) := by decide +kernel
theorem dX7_segment_65 : decode cX7_segment 65 = .ok (.invokevirtual 51, 3) := by decide +kernel
theorem dX7_segment_68 : decode cX7_segment 68 = .ok (.ifCond .ge 16, 3) := by decide +kernel
theorem dX7_segment_71 : decode cX7_segment 71 = .ok (.aload 4, 2) := by decide +kernel
theorem dX7_segment_73 : decode cX7_segment 73 = .ok (.iload_n 1, 1) := by decide +kernel
theorem dX7_segment_74 : decode cX7_segment 74 = .ok (.iload_n 3, 1) := by decide +kernel
theorem dX7_segment_75 : decode cX7_segment 75 = .ok (.invokestatic 55, 3) := by decide +kernel
theorem dX7_segment_78 : decode cX7_segment 78 = .ok (.invokevirtual 58, 3) := by decide +kernel
theorem dX7_segment_81 : decode cX7_segment 81 = .ok (.ifCond .ne 6, 3) := by decide +kernel
theorem dX7_segment_84 : decode cX7_segment 84 = .ok (.bipush (-5), 2) := by decide +kernel
theorem dX7_segment_86 : decode cX7_segment 86 = .ok (.ireturn, 1) := by decide +kernel
theorem dX7_segment_87 : decode cX7_segment 87 = .ok (.aload 4, 2) := by decide +kernel
theorem dX7_segment_89 : decode cX7_segment 89 = .ok (.iload 5, 2) := by decide +kernel
theorem dX7_segment_91 : decode cX7_segment 91 = .ok (.iload_n 1, 1) := by decide +kernel
theorem dX7_segment_92 : decode cX7_segment 92 = .ok (.iload_n 2, 1) := by decide +kernel
theorem dX7_segment_93 : decode cX7_segment 93 = .ok (.iload_n 3, 1) := by decide +kernel
theorem dX7_segment_94 : decode cX7_segment 94 = .ok (.invokevirtual 61, 3) := by decide +kernel
theorem dX7_segment_97 : decode cX7_segment 97 = .ok (.iload 5, 2) := by decide +kernel
theorem dX7_segment_99 : decode cX7_segment 99 = .ok (.ireturn, 1) := by decide +kernel
def F_X7_segment (x1 : Int32) (x2 : Int32) (x3 : Int32) (P : VP) (post : Int32 → VP → Prop) : Prop :=
  (x3 < 0 → post (((-14) : Int32)) P) ∧ (¬ x3 < 0 → F_X6_hasDirectory 0 x1 P (fun r19 => (r19 = 0 → post (((-1) : Int32)) P) ∧ (¬ r19 = 0 → F_X7_isBelow x2 ((26 : Int32)) P (fun r28 => (r28 = 0 → post (((-1) : Int32)) P) ∧ (¬ r28 = 0 → (x3 = 0 → post (((-1) : Int32)) P) ∧ (¬ x3 = 0 → ((24 : Int32) < x3 → post (((-1) : Int32)) P) ∧ (¬ (24 : Int32) < x3 → F_X6_leastFree 0 P (fun r48 => (r48 < 0 → post (((-3) : Int32)) P) ∧ (¬ r48 < 0 → F_X6_named 0 x1 x2 P (fun r65 => (r65 < 0 → F_X7_recordsOf x3 P (fun r75 => F_X6_hasRoom 0 x1 r75 P (fun r78 => (r78 = 0 → post (((-5) : Int32)) P) ∧ (¬ r78 = 0 → F_X6_makeSegment 0 r48 x1 x2 x3 P (fun P94 => post r48 P94))))) ∧ (¬ r65 < 0 → post (((-5) : Int32)) P)))))))))))
set_option maxRecDepth 4000 in
theorem s_X7_segment {l : Launch} {g : vG} {x1 : Int32} {x2 : Int32} {x3 : Int32} {P Q : VP} {post : Int32 → VP → Prop}  (h : F_X7_segment x1 x2 x3 P post) : VC l g yX7_segment cX7_segment 6 (some .int) 5 [vR 0 0, vI x1, vI x2, vI x3] (vjn P Q) (vcI Q post) := by
  refine VC.of (by decide +kernel) (Nat.le_of_ble_eq_true rfl) (show VM l g RX7 cX7_segment 6 (some .int) 5 (vcI Q post) 0 [(0, vR 0 0), (1, vI x1), (2, vI x2), (3, vI x3)] [] (vjn P Q) from ?_)
  unfold F_X7_segment at h
  refine vr_iload_n 3 3 dX7_segment_0 rfl rfl ?_
  refine vr_ifge 7 dX7_segment_1 (by decide) (fun c1 => ?_) (fun c1 => ?_)
  · have h := h.1 c1
    refine vr_bipush (-14) dX7_segment_4 (by decide) ?_
    exact vr_iret rfl ⟨_, _, rfl, rfl, h⟩ dX7_segment_6
  · have h := h.2 c1
    refine vr_aload_n 0 0 dX7_segment_7 rfl rfl ?_
    refine vg_0_0 RX7 rfl (by decide) fl_7_10 dX7_segment_8 ?_
    refine vg_1_0 RX7 rfl (by decide) fl_7_29 dX7_segment_11 ?_
    refine vr_astore [(4, vR 2 0), (0, vR 0 0), (1, vI x1), (2, vI x2), (3, vI x3)] dX7_segment_14 (by decide) rfl ?_
    refine vr_aload 0 dX7_segment_16 rfl ?_
    refine vr_iload_n 1 2 dX7_segment_18 rfl rfl ?_
    refine vr_callV RX7 (s_X6_hasDirectory (by decide) h) rfl (by decide) rfl rfl rfl ml_7_33 rfl yh_X6_hasDirectory rfl ⟨Nat.le_of_ble_eq_true rfl, Nat.le_of_ble_eq_true rfl⟩ (Nat.le_of_ble_eq_true rfl) ⟨Nat.zero_le _, Nat.zero_le _⟩ dX7_segment_19 (ki fun r19 h => ?_)
    refine vr_ifeq 44 dX7_segment_22 (by decide) (fun c22 => ?_) (fun c22 => ?_)
    · have h := h.1 c22
      refine vr_iconst (-1) dX7_segment_44 (by decide) ?_
      exact vr_iret rfl ⟨_, _, rfl, rfl, h⟩ dX7_segment_45
    · have h := h.2 c22
      refine vr_iload_n 2 3 dX7_segment_25 rfl rfl ?_
      refine vr_bipush 26 dX7_segment_26 (by decide) ?_
      refine vr_callS RX7 (s_X7_isBelow h) rfl rfl ml_7_43 rfl yh_X7_isBelow rfl ⟨Nat.le_of_ble_eq_true rfl, Nat.le_of_ble_eq_true rfl⟩ (Nat.le_of_ble_eq_true rfl) ⟨Nat.zero_le _, Nat.zero_le _⟩ dX7_segment_28 (ki fun r28 h => ?_)
      refine vr_ifeq 44 dX7_segment_31 (by decide) (fun c31 => ?_) (fun c31 => ?_)
      · have h := h.1 c31
        refine vr_iconst (-1) dX7_segment_44 (by decide) ?_
        exact vr_iret rfl ⟨_, _, rfl, rfl, h⟩ dX7_segment_45
      · have h := h.2 c31
        refine vr_iload_n 3 4 dX7_segment_34 rfl rfl ?_
        refine vr_ifeq 44 dX7_segment_35 (by decide) (fun c35 => ?_) (fun c35 => ?_)
        · have h := h.1 c35
          refine vr_iconst (-1) dX7_segment_44 (by decide) ?_
          exact vr_iret rfl ⟨_, _, rfl, rfl, h⟩ dX7_segment_45
        · have h := h.2 c35
          refine vr_iload_n 3 4 dX7_segment_38 rfl rfl ?_
          refine vr_bipush 24 dX7_segment_39 (by decide) ?_
          refine vr_icmple 46 dX7_segment_41 (by decide) (fun c41 => ?_) (fun c41 => ?_)
          · have h := h.1 c41
            refine vr_iconst (-1) dX7_segment_44 (by decide) ?_
            exact vr_iret rfl ⟨_, _, rfl, rfl, h⟩ dX7_segment_45
          · have h := h.2 c41
            refine vr_aload 0 dX7_segment_46 rfl ?_
            refine vr_callV RX7 (s_X6_leastFree (by decide) h) rfl (by decide) rfl rfl rfl ml_7_47 rfl yh_X6_leastFree rfl ⟨Nat.le_of_ble_eq_true rfl, Nat.le_of_ble_eq_true rfl⟩ (Nat.le_of_ble_eq_true rfl) ⟨Nat.zero_le _, Nat.zero_le _⟩ dX7_segment_48 (ki fun r48 h => ?_)
            refine vr_istore [(5, vI r48), (4, vR 2 0), (0, vR 0 0), (1, vI x1), (2, vI x2), (3, vI x3)] dX7_segment_51 (by decide) rfl ?_
            refine vr_iload 0 dX7_segment_53 rfl ?_
            refine vr_ifge 61 dX7_segment_55 (by decide) (fun c55 => ?_) (fun c55 => ?_)
            · have h := h.1 c55
              refine vr_bipush (-3) dX7_segment_58 (by decide) ?_
              exact vr_iret rfl ⟨_, _, rfl, rfl, h⟩ dX7_segment_60
            · have h := h.2 c55
              refine vr_aload 1 dX7_segment_61 rfl ?_
              refine vr_iload_n 1 3 dX7_segment_63 rfl rfl ?_
              refine vr_iload_n 2 4 dX7_segment_64 rfl rfl ?_
              refine vr_callV RX7 (s_X6_named (by decide) h) rfl (by decide) rfl rfl rfl ml_7_51 rfl yh_X6_named rfl ⟨Nat.le_of_ble_eq_true rfl, Nat.le_of_ble_eq_true rfl⟩ (Nat.le_of_ble_eq_true rfl) ⟨Nat.zero_le _, Nat.zero_le _⟩ dX7_segment_65 (ki fun r65 h => ?_)
              refine vr_ifge 84 dX7_segment_68 (by decide) (fun c68 => ?_) (fun c68 => ?_)
              · have h := h.1 c68
                refine vr_aload 1 dX7_segment_71 rfl ?_
                refine vr_iload_n 1 3 dX7_segment_73 rfl rfl ?_
                refine vr_iload_n 3 5 dX7_segment_74 rfl rfl ?_
                refine vr_callS RX7 (s_X7_recordsOf h) rfl rfl ml_7_55 rfl yh_X7_recordsOf rfl ⟨Nat.le_of_ble_eq_true rfl, Nat.le_of_ble_eq_true rfl⟩ (Nat.le_of_ble_eq_true rfl) ⟨Nat.zero_le _, Nat.zero_le _⟩ dX7_segment_75 (ki fun r75 h => ?_)
                refine vr_callV RX7 (s_X6_hasRoom (by decide) h) rfl (by decide) rfl rfl rfl ml_7_58 rfl yh_X6_hasRoom rfl ⟨Nat.le_of_ble_eq_true rfl, Nat.le_of_ble_eq_true rfl⟩ (Nat.le_of_ble_eq_true rfl) ⟨Nat.zero_le _, Nat.zero_le _⟩ dX7_segment_78 (ki fun r78 h => ?_)
                refine vr_ifne 87 dX7_segment_81 (by decide) (fun c81 => ?_) (fun c81 => ?_)
                · have h := h.1 c81
                  refine vr_bipush (-5) dX7_segment_84 (by decide) ?_
                  exact vr_iret rfl ⟨_, _, rfl, rfl, h⟩ dX7_segment_86
                · have h := h.2 c81
                  refine vr_aload 1 dX7_segment_87 rfl ?_
                  refine vr_iload 0 dX7_segment_89 rfl ?_
                  refine vr_iload_n 1 3 dX7_segment_91 rfl rfl ?_
                  refine vr_iload_n 2 4 dX7_segment_92 rfl rfl ?_
                  refine vr_iload_n 3 5 dX7_segment_93 rfl rfl ?_
                  refine vr_callV RX7 (s_X6_makeSegment (by decide) h) rfl (by decide) rfl rfl rfl ml_7_61 rfl yh_X6_makeSegment rfl ⟨Nat.le_of_ble_eq_true rfl, Nat.le_of_ble_eq_true rfl⟩ (Nat.le_of_ble_eq_true rfl) ⟨Nat.zero_le _, Nat.zero_le _⟩ dX7_segment_94 (kcv fun P94 h => ?_)
                  refine vr_iload 0 dX7_segment_97 rfl ?_
                  exact vr_iret rfl ⟨_, _, rfl, rfl, h⟩ dX7_segment_99
              · have h := h.2 c68
                refine vr_bipush (-5) dX7_segment_84 (by decide) ?_
                exact vr_iret rfl ⟨_, _, rfl, rfl, h⟩ dX7_segment_86
theorem dX7_drop_0 : decode cX7_drop 0 = .ok (.aload_n 0, 1) := by decide +kernel
theorem dX7_drop_1 : decode cX7_drop 1 = .ok (.getfield 10, 3) := by decide +kernel
theorem dX7_drop_4 : decode cX7_drop 4 = .ok (.getfield 29, 3) := by decide +kernel
theorem dX7_drop_7 : decode cX7_drop 7 = .ok (.iload_n 1, 1) := by decide +kernel
theorem dX7_drop_8 : decode cX7_drop 8 = .ok (.invokevirtual 65, 3) := by decide +kernel
theorem dX7_drop_11 : decode cX7_drop 11 = .ok (.astore_n 2, 1) := by decide +kernel
theorem dX7_drop_12 : decode cX7_drop 12 = .ok (.aload_n 2, 1) := by decide +kernel
theorem dX7_drop_13 : decode cX7_drop 13 = .ok (.ifnonnull 5, 3) := by decide +kernel
theorem dX7_drop_16 : decode cX7_drop 16 = .ok (.iconst (-1), 1) := by decide +kernel
theorem dX7_drop_17 : decode cX7_drop 17 = .ok (.ireturn, 1) := by decide +kernel
theorem dX7_drop_18 : decode cX7_drop 18 = .ok (.aload_n 2, 1) := by decide +kernel
theorem dX7_drop_19 : decode cX7_drop 19 = .ok (.iconst 0, 1) := by decide +kernel
theorem dX7_drop_20 : decode cX7_drop 20 = .ok (.putfield 69, 3) := by decide +kernel
theorem dX7_drop_23 : decode cX7_drop 23 = .ok (.aload_n 2, 1) := by decide +kernel
theorem dX7_drop_24 : decode cX7_drop 24 = .ok (.getfield 75, 3) := by decide +kernel
theorem dX7_drop_27 : decode cX7_drop 27 = .ok (.invokestatic 55, 3) := by decide +kernel
theorem dX7_drop_30 : decode cX7_drop 30 = .ok (.ireturn, 1) := by decide +kernel
def F_X7_drop (x1 : Int32) (P : VP) (post : Int32 → VP → Prop) : Prop :=
  (F_X6_find 0 x1 P (fun r8 => match r8 with | none => (post (((-1) : Int32)) P) | some yr8 => (∀ P20 : VP, P20 = vup P 7 yr8 0 0 → (F_X7_recordsOf (P20 7 yr8 4) P20 (fun r27 => post r27 P20)))))
set_option maxRecDepth 4000 in
theorem s_X7_drop {l : Launch} {g : vG} {x1 : Int32} {P Q : VP} {post : Int32 → VP → Prop}  (h : F_X7_drop x1 P post) : VC l g yX7_drop cX7_drop 3 (some .int) 1 [vR 0 0, vI x1] (vjn P Q) (vcI Q post) := by
  refine VC.of (by decide +kernel) (Nat.le_of_ble_eq_true rfl) (show VM l g RX7 cX7_drop 3 (some .int) 1 (vcI Q post) 0 [(0, vR 0 0), (1, vI x1)] [] (vjn P Q) from ?_)
  unfold F_X7_drop at h
  refine vr_aload_n 0 0 dX7_drop_0 rfl rfl ?_
  refine vg_0_0 RX7 rfl (by decide) fl_7_10 dX7_drop_1 ?_
  refine vg_1_0 RX7 rfl (by decide) fl_7_29 dX7_drop_4 ?_
  refine vr_iload_n 1 1 dX7_drop_7 rfl rfl ?_
  refine vr_callV RX7 (s_X6_find (by decide) h) rfl (by decide) rfl rfl rfl ml_7_65 rfl yh_X6_find rfl ⟨Nat.le_of_ble_eq_true rfl, Nat.le_of_ble_eq_true rfl⟩ (Nat.le_of_ble_eq_true rfl) ⟨Nat.zero_le _, Nat.zero_le _⟩ dX7_drop_8 (ko fun r8 hvr8 h => ?_)
  refine vr_astore_n 2 [(2, vO 7 r8), (0, vR 0 0), (1, vI x1)] dX7_drop_11 rfl (by decide) rfl ?_
  refine vr_aload_n 2 0 dX7_drop_12 rfl rfl ?_
  rcases r8 with _ | yr8
  · refine vr_ifnonnullN dX7_drop_13 ?_
    refine vr_iconst (-1) dX7_drop_16 (by decide) ?_
    exact vr_iret rfl ⟨_, _, rfl, rfl, h⟩ dX7_drop_17
  · refine vr_ifnonnullR 18 dX7_drop_13 (by decide) ?_
    refine vr_aload_n 2 0 dX7_drop_18 rfl rfl ?_
    refine vr_iconst 0 dX7_drop_19 (by decide) ?_
    obtain ⟨P20, eP20⟩ : ∃ y : VP, y = vup P 7 yr8 0 0 := ⟨_, rfl⟩
    have h := h P20 eP20
    refine vp_7_0 RX7 rfl (hvr8 _ rfl) fl_7_69 (Or.inl rfl) eP20 dX7_drop_20 ?_
    refine vr_aload_n 2 0 dX7_drop_23 rfl rfl ?_
    refine vg_7_4 RX7 rfl (hvr8 _ rfl) fl_7_75 dX7_drop_24 ?_
    refine vr_callS RX7 (s_X7_recordsOf h) rfl rfl ml_7_55 rfl yh_X7_recordsOf rfl ⟨Nat.le_of_ble_eq_true rfl, Nat.le_of_ble_eq_true rfl⟩ (Nat.le_of_ble_eq_true rfl) ⟨Nat.zero_le _, Nat.zero_le _⟩ dX7_drop_27 (ki fun r27 h => ?_)
    exact vr_iret rfl ⟨_, _, rfl, rfl, h⟩ dX7_drop_30
theorem dX7_resize_0 : decode cX7_resize 0 = .ok (.iload_n 2, 1) := by decide +kernel
theorem dX7_resize_1 : decode cX7_resize 1 = .ok (.ifCond .ge 6, 3) := by decide +kernel
theorem dX7_resize_4 : decode cX7_resize 4 = .ok (.bipush (-14), 2) := by decide +kernel
theorem dX7_resize_6 : decode cX7_resize 6 = .ok (.ireturn, 1) := by decide +kernel
theorem dX7_resize_7 : decode cX7_resize 7 = .ok (.aload_n 0, 1) := by decide +kernel
theorem dX7_resize_8 : decode cX7_resize 8 = .ok (.getfield 10, 3) := by decide +kernel
theorem dX7_resize_11 : decode cX7_resize 11 = .ok (.getfield 29, 3) := by decide +kernel
theorem dX7_resize_14 : decode cX7_resize 14 = .ok (.astore_n 3, 1) := by decide +kernel
theorem dX7_resize_15 : decode cX7_resize 15 = .ok (.aload_n 3, 1) := by decide +kernel
theorem dX7_resize_16 : decode cX7_resize 16 = .ok (.iload_n 1, 1) := by decide +kernel
theorem dX7_resize_17 : decode cX7_resize 17 = .ok (.invokevirtual 65, 3) := by decide +kernel
theorem dX7_resize_20 : decode cX7_resize 20 = .ok (.astore 4, 2) := by decide +kernel
theorem dX7_resize_22 : decode cX7_resize 22 = .ok (.aload 4, 2) := by decide +kernel
theorem dX7_resize_24 : decode cX7_resize 24 = .ok (.ifnull 13, 3) := by decide +kernel
theorem dX7_resize_27 : decode cX7_resize 27 = .ok (.iload_n 2, 1) := by decide +kernel
theorem dX7_resize_28 : decode cX7_resize 28 = .ok (.ifCond .eq 9, 3) := by decide +kernel
theorem dX7_resize_31 : decode cX7_resize 31 = .ok (.iload_n 2, 1) := by decide +kernel
theorem dX7_resize_32 : decode cX7_resize 32 = .ok (.bipush 24, 2) := by decide +kernel
theorem dX7_resize_34 : decode cX7_resize 34 = .ok (.if_icmp .le 5, 3) := by decide +kernel
theorem dX7_resize_37 : decode cX7_resize 37 = .ok (.iconst (-1), 1) := by decide +kernel
theorem dX7_resize_38 : decode cX7_resize 38 = .ok (.ireturn, 1) := by decide +kernel
theorem dX7_resize_39 : decode cX7_resize 39 = .ok (.iload_n 2, 1) := by decide +kernel
theorem dX7_resize_40 : decode cX7_resize 40 = .ok (.invokestatic 55, 3) := by decide +kernel
theorem dX7_resize_43 : decode cX7_resize 43 = .ok (.aload 4, 2) := by decide +kernel
theorem dX7_resize_45 : decode cX7_resize 45 = .ok (.getfield 75, 3) := by decide +kernel
theorem dX7_resize_48 : decode cX7_resize 48 = .ok (.invokestatic 55, 3) := by decide +kernel
theorem dX7_resize_51 : decode cX7_resize 51 = .ok (.isub, 1) := by decide +kernel
theorem dX7_resize_52 : decode cX7_resize 52 = .ok (.istore 5, 2) := by decide +kernel
theorem dX7_resize_54 : decode cX7_resize 54 = .ok (.iload 5, 2) := by decide +kernel
theorem dX7_resize_56 : decode cX7_resize 56 = .ok (.ifCond .le 20, 3) := by decide +kernel
theorem dX7_resize_59 : decode cX7_resize 59 = .ok (.aload_n 3, 1) := by decide +kernel
theorem dX7_resize_60 : decode cX7_resize 60 = .ok (.aload 4, 2) := by decide +kernel
theorem dX7_resize_62 : decode cX7_resize 62 = .ok (.getfield 79, 3) := by decide +kernel
theorem dX7_resize_65 : decode cX7_resize 65 = .ok (.iload 5, 2) := by decide +kernel
theorem dX7_resize_67 : decode cX7_resize 67 = .ok (.invokevirtual 58, 3) := by decide +kernel
theorem dX7_resize_70 : decode cX7_resize 70 = .ok (.ifCond .ne 6, 3) := by decide +kernel
theorem dX7_resize_73 : decode cX7_resize 73 = .ok (.bipush (-5), 2) := by decide +kernel
theorem dX7_resize_75 : decode cX7_resize 75 = .ok (.ireturn, 1) := by decide +kernel
theorem dX7_resize_76 : decode cX7_resize 76 = .ok (.aload 4, 2) := by decide +kernel
theorem dX7_resize_78 : decode cX7_resize 78 = .ok (.getfield 75, 3) := by decide +kernel
theorem dX7_resize_81 : decode cX7_resize 81 = .ok (.istore 6, 2) := by decide +kernel
theorem dX7_resize_83 : decode cX7_resize 83 = .ok (.aload 4, 2) := by decide +kernel
theorem dX7_resize_85 : decode cX7_resize 85 = .ok (.iload_n 2, 1) := by decide +kernel
theorem dX7_resize_86 : decode cX7_resize 86 = .ok (.invokevirtual 82, 3) := by decide +kernel
theorem dX7_resize_89 : decode cX7_resize 89 = .ok (.iload 6, 2) := by decide +kernel
theorem dX7_resize_91 : decode cX7_resize 91 = .ok (.ireturn, 1) := by decide +kernel
def F_X7_resize_b76 (x1 : Int32) (x2 : Int32) (P : VP) (post : Int32 → VP → Prop)  (v4 : Nat) : Prop :=
  F_X3_changeLength v4 x2 P (fun P86 => post (P 7 v4 4) P86)
set_option maxRecDepth 4000 in
theorem s_X7_resize_b76 {l : Launch} {g : vG} {x1 : Int32} {x2 : Int32} {P Q : VP} {post : Int32 → VP → Prop}  {v4 : Nat}  (hv4 : v4 < vcnt 7)  (h : F_X7_resize_b76 x1 x2 P post  v4) : VM l g RX7 cX7_resize 7 (some .int) 5 (vcI Q post) 76 [(2, vI x2), (4, vR 7 v4)] [] (vjn P Q) := by
  unfold F_X7_resize_b76 at h
  refine vr_aload 1 dX7_resize_76 rfl ?_
  refine vg_7_4 RX7 rfl hv4 fl_7_75 dX7_resize_78 ?_
  refine vr_istore [(6, vI (P 7 v4 4)), (2, vI x2), (4, vR 7 v4)] dX7_resize_81 (by decide) rfl ?_
  refine vr_aload 2 dX7_resize_83 rfl ?_
  refine vr_iload_n 2 1 dX7_resize_85 rfl rfl ?_
  refine vr_callV RX7 (s_X3_changeLength hv4 h) rfl hv4 rfl rfl rfl ml_7_82 rfl yh_X3_changeLength rfl ⟨Nat.le_of_ble_eq_true rfl, Nat.le_of_ble_eq_true rfl⟩ (Nat.le_of_ble_eq_true rfl) ⟨Nat.zero_le _, Nat.zero_le _⟩ dX7_resize_86 (kcv fun P86 h => ?_)
  refine vr_iload 0 dX7_resize_89 rfl ?_
  exact vr_iret rfl ⟨_, _, rfl, rfl, h⟩ dX7_resize_91
def F_X7_resize (x1 : Int32) (x2 : Int32) (P : VP) (post : Int32 → VP → Prop) : Prop :=
  (x2 < 0 → post (((-14) : Int32)) P) ∧ (¬ x2 < 0 → (F_X6_find 0 x1 P (fun r17 => match r17 with | none => (post (((-1) : Int32)) P) | some yr17 => ((x2 = 0 → post (((-1) : Int32)) P) ∧ (¬ x2 = 0 → ((24 : Int32) < x2 → post (((-1) : Int32)) P) ∧ (¬ (24 : Int32) < x2 → F_X7_recordsOf x2 P (fun r40 => F_X7_recordsOf (P 7 yr17 4) P (fun r48 => (0 < r40 - r48 → F_X6_hasRoom 0 (P 7 yr17 1) (r40 - r48) P (fun r67 => (r67 = 0 → post (((-5) : Int32)) P) ∧ (¬ r67 = 0 → F_X7_resize_b76 x1 x2 P post  yr17))) ∧ (¬ 0 < r40 - r48 → F_X7_resize_b76 x1 x2 P post  yr17)))))))))
set_option maxRecDepth 4000 in
theorem s_X7_resize {l : Launch} {g : vG} {x1 : Int32} {x2 : Int32} {P Q : VP} {post : Int32 → VP → Prop}  (h : F_X7_resize x1 x2 P post) : VC l g yX7_resize cX7_resize 7 (some .int) 5 [vR 0 0, vI x1, vI x2] (vjn P Q) (vcI Q post) := by
  refine VC.of (by decide +kernel) (Nat.le_of_ble_eq_true rfl) (show VM l g RX7 cX7_resize 7 (some .int) 5 (vcI Q post) 0 [(0, vR 0 0), (1, vI x1), (2, vI x2)] [] (vjn P Q) from ?_)
  unfold F_X7_resize at h
  refine vr_iload_n 2 2 dX7_resize_0 rfl rfl ?_
  refine vr_ifge 7 dX7_resize_1 (by decide) (fun c1 => ?_) (fun c1 => ?_)
  · have h := h.1 c1
    refine vr_bipush (-14) dX7_resize_4 (by decide) ?_
    exact vr_iret rfl ⟨_, _, rfl, rfl, h⟩ dX7_resize_6
  · have h := h.2 c1
    refine vr_aload_n 0 0 dX7_resize_7 rfl rfl ?_
    refine vg_0_0 RX7 rfl (by decide) fl_7_10 dX7_resize_8 ?_
    refine vg_1_0 RX7 rfl (by decide) fl_7_29 dX7_resize_11 ?_
    refine vr_astore_n 3 [(3, vR 2 0), (0, vR 0 0), (1, vI x1), (2, vI x2)] dX7_resize_14 rfl (by decide) rfl ?_
    refine vr_aload_n 3 0 dX7_resize_15 rfl rfl ?_
    refine vr_iload_n 1 2 dX7_resize_16 rfl rfl ?_
    refine vr_callV RX7 (s_X6_find (by decide) h) rfl (by decide) rfl rfl rfl ml_7_65 rfl yh_X6_find rfl ⟨Nat.le_of_ble_eq_true rfl, Nat.le_of_ble_eq_true rfl⟩ (Nat.le_of_ble_eq_true rfl) ⟨Nat.zero_le _, Nat.zero_le _⟩ dX7_resize_17 (ko fun r17 hvr17 h => ?_)
    refine vr_astore [(4, vO 7 r17), (3, vR 2 0), (0, vR 0 0), (1, vI x1), (2, vI x2)] dX7_resize_20 (by decide) rfl ?_
    refine vr_aload 0 dX7_resize_22 rfl ?_
    rcases r17 with _ | yr17
    · refine vr_ifnullN 37 dX7_resize_24 (by decide) ?_
      refine vr_iconst (-1) dX7_resize_37 (by decide) ?_
      exact vr_iret rfl ⟨_, _, rfl, rfl, h⟩ dX7_resize_38
    · refine vr_ifnullR dX7_resize_24 ?_
      refine vr_iload_n 2 4 dX7_resize_27 rfl rfl ?_
      refine vr_ifeq 37 dX7_resize_28 (by decide) (fun c28 => ?_) (fun c28 => ?_)
      · have h := h.1 c28
        refine vr_iconst (-1) dX7_resize_37 (by decide) ?_
        exact vr_iret rfl ⟨_, _, rfl, rfl, h⟩ dX7_resize_38
      · have h := h.2 c28
        refine vr_iload_n 2 4 dX7_resize_31 rfl rfl ?_
        refine vr_bipush 24 dX7_resize_32 (by decide) ?_
        refine vr_icmple 39 dX7_resize_34 (by decide) (fun c34 => ?_) (fun c34 => ?_)
        · have h := h.1 c34
          refine vr_iconst (-1) dX7_resize_37 (by decide) ?_
          exact vr_iret rfl ⟨_, _, rfl, rfl, h⟩ dX7_resize_38
        · have h := h.2 c34
          refine vr_iload_n 2 4 dX7_resize_39 rfl rfl ?_
          refine vr_callS RX7 (s_X7_recordsOf h) rfl rfl ml_7_55 rfl yh_X7_recordsOf rfl ⟨Nat.le_of_ble_eq_true rfl, Nat.le_of_ble_eq_true rfl⟩ (Nat.le_of_ble_eq_true rfl) ⟨Nat.zero_le _, Nat.zero_le _⟩ dX7_resize_40 (ki fun r40 h => ?_)
          refine vr_aload 0 dX7_resize_43 rfl ?_
          refine vg_7_4 RX7 rfl (hvr17 _ rfl) fl_7_75 dX7_resize_45 ?_
          refine vr_callS RX7 (s_X7_recordsOf h) rfl rfl ml_7_55 rfl yh_X7_recordsOf rfl ⟨Nat.le_of_ble_eq_true rfl, Nat.le_of_ble_eq_true rfl⟩ (Nat.le_of_ble_eq_true rfl) ⟨Nat.zero_le _, Nat.zero_le _⟩ dX7_resize_48 (ki fun r48 h => ?_)
          refine vr_isub dX7_resize_51 ?_
          refine vr_istore [(5, vI (r40 - r48)), (4, vR 7 yr17), (3, vR 2 0), (0, vR 0 0), (1, vI x1), (2, vI x2)] dX7_resize_52 (by decide) rfl ?_
          refine vr_iload 0 dX7_resize_54 rfl ?_
          refine vr_ifle 76 dX7_resize_56 (by decide) (fun c56 => ?_) (fun c56 => ?_)
          · have h := h.1 c56
            refine vr_aload_n 3 2 dX7_resize_59 rfl rfl ?_
            refine vr_aload 1 dX7_resize_60 rfl ?_
            refine vg_7_1 RX7 rfl (hvr17 _ rfl) fl_7_79 dX7_resize_62 ?_
            refine vr_iload 0 dX7_resize_65 rfl ?_
            refine vr_callV RX7 (s_X6_hasRoom (by decide) h) rfl (by decide) rfl rfl rfl ml_7_58 rfl yh_X6_hasRoom rfl ⟨Nat.le_of_ble_eq_true rfl, Nat.le_of_ble_eq_true rfl⟩ (Nat.le_of_ble_eq_true rfl) ⟨Nat.zero_le _, Nat.zero_le _⟩ dX7_resize_67 (ki fun r67 h => ?_)
            refine vr_ifne 76 dX7_resize_70 (by decide) (fun c70 => ?_) (fun c70 => ?_)
            · have h := h.1 c70
              refine vr_bipush (-5) dX7_resize_73 (by decide) ?_
              exact vr_iret rfl ⟨_, _, rfl, rfl, h⟩ dX7_resize_75
            · have h := h.2 c70
              refine vr_sub [5, 1] [(2, vI x2), (4, vR 7 yr17)] rfl ?_
              exact s_X7_resize_b76 (hvr17 _ rfl)  h
          · have h := h.2 c56
            refine vr_sub [5, 1] [(2, vI x2), (4, vR 7 yr17)] rfl ?_
            exact s_X7_resize_b76 (hvr17 _ rfl)  h
theorem dX7_rename_0 : decode cX7_rename 0 = .ok (.aload_n 0, 1) := by decide +kernel
theorem dX7_rename_1 : decode cX7_rename 1 = .ok (.getfield 10, 3) := by decide +kernel
theorem dX7_rename_4 : decode cX7_rename 4 = .ok (.getfield 29, 3) := by decide +kernel
theorem dX7_rename_7 : decode cX7_rename 7 = .ok (.astore_n 3, 1) := by decide +kernel
theorem dX7_rename_8 : decode cX7_rename 8 = .ok (.aload_n 3, 1) := by decide +kernel
theorem dX7_rename_9 : decode cX7_rename 9 = .ok (.iload_n 1, 1) := by decide +kernel
theorem dX7_rename_10 : decode cX7_rename 10 = .ok (.invokevirtual 65, 3) := by decide +kernel
theorem dX7_rename_13 : decode cX7_rename 13 = .ok (.astore 4, 2) := by decide +kernel
theorem dX7_rename_15 : decode cX7_rename 15 = .ok (.aload 4, 2) := by decide +kernel
theorem dX7_rename_17 : decode cX7_rename 17 = .ok (.ifnull 12, 3) := by decide +kernel
theorem dX7_rename_20 : decode cX7_rename 20 = .ok (.iload_n 2, 1) := by decide +kernel
theorem dX7_rename_21 : decode cX7_rename 21 = .ok (.bipush 26, 2) := by decide +kernel
theorem dX7_rename_23 : decode cX7_rename 23 = .ok (.invokestatic 43, 3) := by decide +kernel
theorem dX7_rename_26 : decode cX7_rename 26 = .ok (.ifCond .ne 5, 3) := by decide +kernel
theorem dX7_rename_29 : decode cX7_rename 29 = .ok (.iconst (-1), 1) := by decide +kernel
theorem dX7_rename_30 : decode cX7_rename 30 = .ok (.ireturn, 1) := by decide +kernel
theorem dX7_rename_31 : decode cX7_rename 31 = .ok (.aload_n 3, 1) := by decide +kernel
theorem dX7_rename_32 : decode cX7_rename 32 = .ok (.aload 4, 2) := by decide +kernel
theorem dX7_rename_34 : decode cX7_rename 34 = .ok (.getfield 79, 3) := by decide +kernel
theorem dX7_rename_37 : decode cX7_rename 37 = .ok (.iload_n 2, 1) := by decide +kernel
theorem dX7_rename_38 : decode cX7_rename 38 = .ok (.invokevirtual 51, 3) := by decide +kernel
theorem dX7_rename_41 : decode cX7_rename 41 = .ok (.istore 5, 2) := by decide +kernel
theorem dX7_rename_43 : decode cX7_rename 43 = .ok (.iload 5, 2) := by decide +kernel
theorem dX7_rename_45 : decode cX7_rename 45 = .ok (.ifCond .lt 12, 3) := by decide +kernel
theorem dX7_rename_48 : decode cX7_rename 48 = .ok (.iload 5, 2) := by decide +kernel
theorem dX7_rename_50 : decode cX7_rename 50 = .ok (.iload_n 1, 1) := by decide +kernel
theorem dX7_rename_51 : decode cX7_rename 51 = .ok (.if_icmp .eq 6, 3) := by decide +kernel
theorem dX7_rename_54 : decode cX7_rename 54 = .ok (.bipush (-5), 2) := by decide +kernel
theorem dX7_rename_56 : decode cX7_rename 56 = .ok (.ireturn, 1) := by decide +kernel
theorem dX7_rename_57 : decode cX7_rename 57 = .ok (.aload 4, 2) := by decide +kernel
theorem dX7_rename_59 : decode cX7_rename 59 = .ok (.getfield 86, 3) := by decide +kernel
theorem dX7_rename_62 : decode cX7_rename 62 = .ok (.istore 6, 2) := by decide +kernel
theorem dX7_rename_64 : decode cX7_rename 64 = .ok (.aload 4, 2) := by decide +kernel
theorem dX7_rename_66 : decode cX7_rename 66 = .ok (.iload_n 2, 1) := by decide +kernel
theorem dX7_rename_67 : decode cX7_rename 67 = .ok (.putfield 86, 3) := by decide +kernel
theorem dX7_rename_70 : decode cX7_rename 70 = .ok (.iload 6, 2) := by decide +kernel
theorem dX7_rename_72 : decode cX7_rename 72 = .ok (.ireturn, 1) := by decide +kernel
def F_X7_rename (x1 : Int32) (x2 : Int32) (P : VP) (post : Int32 → VP → Prop) : Prop :=
  (F_X6_find 0 x1 P (fun r10 => match r10 with | none => (post (((-1) : Int32)) P) | some yr10 => (F_X7_isBelow x2 ((26 : Int32)) P (fun r23 => (r23 = 0 → post (((-1) : Int32)) P) ∧ (¬ r23 = 0 → F_X6_named 0 (P 7 yr10 1) x2 P (fun r38 => (r38 < 0 → ∀ P67 : VP, P67 = vup P 7 yr10 2 x2 → (post (P 7 yr10 2) P67)) ∧ (¬ r38 < 0 → (r38 = x1 → ∀ P67 : VP, P67 = vup P 7 yr10 2 x2 → (post (P 7 yr10 2) P67)) ∧ (¬ r38 = x1 → post (((-5) : Int32)) P))))))))
set_option maxRecDepth 4000 in
theorem s_X7_rename {l : Launch} {g : vG} {x1 : Int32} {x2 : Int32} {P Q : VP} {post : Int32 → VP → Prop}  (h : F_X7_rename x1 x2 P post) : VC l g yX7_rename cX7_rename 7 (some .int) 1 [vR 0 0, vI x1, vI x2] (vjn P Q) (vcI Q post) := by
  refine VC.of (by decide +kernel) (Nat.le_of_ble_eq_true rfl) (show VM l g RX7 cX7_rename 7 (some .int) 1 (vcI Q post) 0 [(0, vR 0 0), (1, vI x1), (2, vI x2)] [] (vjn P Q) from ?_)
  unfold F_X7_rename at h
  refine vr_aload_n 0 0 dX7_rename_0 rfl rfl ?_
  refine vg_0_0 RX7 rfl (by decide) fl_7_10 dX7_rename_1 ?_
  refine vg_1_0 RX7 rfl (by decide) fl_7_29 dX7_rename_4 ?_
  refine vr_astore_n 3 [(3, vR 2 0), (0, vR 0 0), (1, vI x1), (2, vI x2)] dX7_rename_7 rfl (by decide) rfl ?_
  refine vr_aload_n 3 0 dX7_rename_8 rfl rfl ?_
  refine vr_iload_n 1 2 dX7_rename_9 rfl rfl ?_
  refine vr_callV RX7 (s_X6_find (by decide) h) rfl (by decide) rfl rfl rfl ml_7_65 rfl yh_X6_find rfl ⟨Nat.le_of_ble_eq_true rfl, Nat.le_of_ble_eq_true rfl⟩ (Nat.le_of_ble_eq_true rfl) ⟨Nat.zero_le _, Nat.zero_le _⟩ dX7_rename_10 (ko fun r10 hvr10 h => ?_)
  refine vr_astore [(4, vO 7 r10), (3, vR 2 0), (0, vR 0 0), (1, vI x1), (2, vI x2)] dX7_rename_13 (by decide) rfl ?_
  refine vr_aload 0 dX7_rename_15 rfl ?_
  rcases r10 with _ | yr10
  · refine vr_ifnullN 29 dX7_rename_17 (by decide) ?_
    refine vr_iconst (-1) dX7_rename_29 (by decide) ?_
    exact vr_iret rfl ⟨_, _, rfl, rfl, h⟩ dX7_rename_30
  · refine vr_ifnullR dX7_rename_17 ?_
    refine vr_iload_n 2 4 dX7_rename_20 rfl rfl ?_
    refine vr_bipush 26 dX7_rename_21 (by decide) ?_
    refine vr_callS RX7 (s_X7_isBelow h) rfl rfl ml_7_43 rfl yh_X7_isBelow rfl ⟨Nat.le_of_ble_eq_true rfl, Nat.le_of_ble_eq_true rfl⟩ (Nat.le_of_ble_eq_true rfl) ⟨Nat.zero_le _, Nat.zero_le _⟩ dX7_rename_23 (ki fun r23 h => ?_)
    refine vr_ifne 31 dX7_rename_26 (by decide) (fun c26 => ?_) (fun c26 => ?_)
    · have h := h.1 c26
      refine vr_iconst (-1) dX7_rename_29 (by decide) ?_
      exact vr_iret rfl ⟨_, _, rfl, rfl, h⟩ dX7_rename_30
    · have h := h.2 c26
      refine vr_aload_n 3 1 dX7_rename_31 rfl rfl ?_
      refine vr_aload 0 dX7_rename_32 rfl ?_
      refine vg_7_1 RX7 rfl (hvr10 _ rfl) fl_7_79 dX7_rename_34 ?_
      refine vr_iload_n 2 4 dX7_rename_37 rfl rfl ?_
      refine vr_callV RX7 (s_X6_named (by decide) h) rfl (by decide) rfl rfl rfl ml_7_51 rfl yh_X6_named rfl ⟨Nat.le_of_ble_eq_true rfl, Nat.le_of_ble_eq_true rfl⟩ (Nat.le_of_ble_eq_true rfl) ⟨Nat.zero_le _, Nat.zero_le _⟩ dX7_rename_38 (ki fun r38 h => ?_)
      refine vr_istore [(5, vI r38), (4, vR 7 yr10), (3, vR 2 0), (0, vR 0 0), (1, vI x1), (2, vI x2)] dX7_rename_41 (by decide) rfl ?_
      refine vr_iload 0 dX7_rename_43 rfl ?_
      refine vr_iflt 57 dX7_rename_45 (by decide) (fun c45 => ?_) (fun c45 => ?_)
      · have h := h.1 c45
        refine vr_aload 1 dX7_rename_57 rfl ?_
        refine vg_7_2 RX7 rfl (hvr10 _ rfl) fl_7_86 dX7_rename_59 ?_
        refine vr_istore [(6, vI (P 7 yr10 2)), (5, vI r38), (4, vR 7 yr10), (3, vR 2 0), (0, vR 0 0), (1, vI x1), (2, vI x2)] dX7_rename_62 (by decide) rfl ?_
        refine vr_aload 2 dX7_rename_64 rfl ?_
        refine vr_iload_n 2 6 dX7_rename_66 rfl rfl ?_
        obtain ⟨P67, eP67⟩ : ∃ y : VP, y = vup P 7 yr10 2 x2 := ⟨_, rfl⟩
        have h := h P67 eP67
        refine vp_7_2 RX7 rfl (hvr10 _ rfl) fl_7_86 eP67 dX7_rename_67 ?_
        refine vr_iload 0 dX7_rename_70 rfl ?_
        exact vr_iret rfl ⟨_, _, rfl, rfl, h⟩ dX7_rename_72
      · have h := h.2 c45
        refine vr_iload 0 dX7_rename_48 rfl ?_
        refine vr_iload_n 1 4 dX7_rename_50 rfl rfl ?_
        refine vr_icmpeq 57 dX7_rename_51 (by decide) (fun c51 => ?_) (fun c51 => ?_)
        · have h := h.1 c51
          refine vr_aload 1 dX7_rename_57 rfl ?_
          refine vg_7_2 RX7 rfl (hvr10 _ rfl) fl_7_86 dX7_rename_59 ?_
          refine vr_istore [(6, vI (P 7 yr10 2)), (5, vI r38), (4, vR 7 yr10), (3, vR 2 0), (0, vR 0 0), (1, vI x1), (2, vI x2)] dX7_rename_62 (by decide) rfl ?_
          refine vr_aload 2 dX7_rename_64 rfl ?_
          refine vr_iload_n 2 6 dX7_rename_66 rfl rfl ?_
          obtain ⟨P67, eP67⟩ : ∃ y : VP, y = vup P 7 yr10 2 x2 := ⟨_, rfl⟩
          have h := h P67 eP67
          refine vp_7_2 RX7 rfl (hvr10 _ rfl) fl_7_86 eP67 dX7_rename_67 ?_
          refine vr_iload 0 dX7_rename_70 rfl ?_
          exact vr_iret rfl ⟨_, _, rfl, rfl, h⟩ dX7_rename_72
        · have h := h.2 c51
          refine vr_bipush (-5) dX7_rename_54 (by decide) ?_
          exact vr_iret rfl ⟨_, _, rfl, rfl, h⟩ dX7_rename_56
theorem dX7_brackets_0 : decode cX7_brackets 0 = .ok (.aload_n 0, 1) := by decide +kernel
theorem dX7_brackets_1 : decode cX7_brackets 1 = .ok (.getfield 10, 3) := by decide +kernel
theorem dX7_brackets_4 : decode cX7_brackets 4 = .ok (.getfield 29, 3) := by decide +kernel
theorem dX7_brackets_7 : decode cX7_brackets 7 = .ok (.iload_n 1, 1) := by decide +kernel
theorem dX7_brackets_8 : decode cX7_brackets 8 = .ok (.invokevirtual 65, 3) := by decide +kernel
theorem dX7_brackets_11 : decode cX7_brackets 11 = .ok (.astore_n 3, 1) := by decide +kernel
theorem dX7_brackets_12 : decode cX7_brackets 12 = .ok (.aload_n 3, 1) := by decide +kernel
theorem dX7_brackets_13 : decode cX7_brackets 13 = .ok (.ifnull 7, 3) := by decide +kernel
theorem dX7_brackets_16 : decode cX7_brackets 16 = .ok (.iload_n 2, 1) := by decide +kernel
theorem dX7_brackets_17 : decode cX7_brackets 17 = .ok (.ifCond .ge 5, 3) := by decide +kernel
theorem dX7_brackets_20 : decode cX7_brackets 20 = .ok (.iconst (-1), 1) := by decide +kernel
theorem dX7_brackets_21 : decode cX7_brackets 21 = .ok (.ireturn, 1) := by decide +kernel
theorem dX7_brackets_22 : decode cX7_brackets 22 = .ok (.iload_n 2, 1) := by decide +kernel
theorem dX7_brackets_23 : decode cX7_brackets 23 = .ok (.bipush 100, 2) := by decide +kernel
theorem dX7_brackets_25 : decode cX7_brackets 25 = .ok (.idiv, 1) := by decide +kernel
theorem dX7_brackets_26 : decode cX7_brackets 26 = .ok (.istore 4, 2) := by decide +kernel
theorem dX7_brackets_28 : decode cX7_brackets 28 = .ok (.iload_n 2, 1) := by decide +kernel
theorem dX7_brackets_29 : decode cX7_brackets 29 = .ok (.bipush 10, 2) := by decide +kernel
theorem dX7_brackets_31 : decode cX7_brackets 31 = .ok (.idiv, 1) := by decide +kernel
theorem dX7_brackets_32 : decode cX7_brackets 32 = .ok (.bipush 10, 2) := by decide +kernel
theorem dX7_brackets_34 : decode cX7_brackets 34 = .ok (.irem, 1) := by decide +kernel
theorem dX7_brackets_35 : decode cX7_brackets 35 = .ok (.istore 5, 2) := by decide +kernel
theorem dX7_brackets_37 : decode cX7_brackets 37 = .ok (.iload_n 2, 1) := by decide +kernel
theorem dX7_brackets_38 : decode cX7_brackets 38 = .ok (.bipush 10, 2) := by decide +kernel
theorem dX7_brackets_40 : decode cX7_brackets 40 = .ok (.irem, 1) := by decide +kernel
theorem dX7_brackets_41 : decode cX7_brackets 41 = .ok (.istore 6, 2) := by decide +kernel
theorem dX7_brackets_43 : decode cX7_brackets 43 = .ok (.iload 4, 2) := by decide +kernel
theorem dX7_brackets_45 : decode cX7_brackets 45 = .ok (.iload 5, 2) := by decide +kernel
theorem dX7_brackets_47 : decode cX7_brackets 47 = .ok (.if_icmp .gt 17, 3) := by decide +kernel
theorem dX7_brackets_50 : decode cX7_brackets 50 = .ok (.iload 5, 2) := by decide +kernel
theorem dX7_brackets_52 : decode cX7_brackets 52 = .ok (.iload 6, 2) := by decide +kernel
theorem dX7_brackets_54 : decode cX7_brackets 54 = .ok (.if_icmp .gt 10, 3) := by decide +kernel
theorem dX7_brackets_57 : decode cX7_brackets 57 = .ok (.iload 6, 2) := by decide +kernel
theorem dX7_brackets_59 : decode cX7_brackets 59 = .ok (.bipush 8, 2) := by decide +kernel
theorem dX7_brackets_61 : decode cX7_brackets 61 = .ok (.if_icmp .lt 5, 3) := by decide +kernel
theorem dX7_brackets_64 : decode cX7_brackets 64 = .ok (.iconst (-1), 1) := by decide +kernel
theorem dX7_brackets_65 : decode cX7_brackets 65 = .ok (.ireturn, 1) := by decide +kernel
theorem dX7_brackets_66 : decode cX7_brackets 66 = .ok (.bipush 100, 2) := by decide +kernel
theorem dX7_brackets_68 : decode cX7_brackets 68 = .ok (.aload_n 3, 1) := by decide +kernel
theorem dX7_brackets_69 : decode cX7_brackets 69 = .ok (.getfield 89, 3) := by decide +kernel
theorem dX7_brackets_72 : decode cX7_brackets 72 = .ok (.imul, 1) := by decide +kernel
theorem dX7_brackets_73 : decode cX7_brackets 73 = .ok (.bipush 10, 2) := by decide +kernel
theorem dX7_brackets_75 : decode cX7_brackets 75 = .ok (.aload_n 3, 1) := by decide +kernel
theorem dX7_brackets_76 : decode cX7_brackets 76 = .ok (.getfield 92, 3) := by decide +kernel
theorem dX7_brackets_79 : decode cX7_brackets 79 = .ok (.imul, 1) := by decide +kernel
theorem dX7_brackets_80 : decode cX7_brackets 80 = .ok (.iadd, 1) := by decide +kernel
theorem dX7_brackets_81 : decode cX7_brackets 81 = .ok (.aload_n 3, 1) := by decide +kernel
theorem dX7_brackets_82 : decode cX7_brackets 82 = .ok (.getfield 95, 3) := by decide +kernel
theorem dX7_brackets_85 : decode cX7_brackets 85 = .ok (.iadd, 1) := by decide +kernel
theorem dX7_brackets_86 : decode cX7_brackets 86 = .ok (.istore 7, 2) := by decide +kernel
theorem dX7_brackets_88 : decode cX7_brackets 88 = .ok (.aload_n 3, 1) := by decide +kernel
theorem dX7_brackets_89 : decode cX7_brackets 89 = .ok (.iload 4, 2) := by decide +kernel
theorem dX7_brackets_91 : decode cX7_brackets 91 = .ok (.putfield 89, 3) := by decide +kernel
theorem dX7_brackets_94 : decode cX7_brackets 94 = .ok (.aload_n 3, 1) := by decide +kernel
theorem dX7_brackets_95 : decode cX7_brackets 95 = .ok (.iload 5, 2) := by decide +kernel
theorem dX7_brackets_97 : decode cX7_brackets 97 = .ok (.putfield 92, 3) := by decide +kernel
theorem dX7_brackets_100 : decode cX7_brackets 100 = .ok (.aload_n 3, 1) := by decide +kernel
theorem dX7_brackets_101 : decode cX7_brackets 101 = .ok (.iload 6, 2) := by decide +kernel
theorem dX7_brackets_103 : decode cX7_brackets 103 = .ok (.putfield 95, 3) := by decide +kernel
theorem dX7_brackets_106 : decode cX7_brackets 106 = .ok (.iload 7, 2) := by decide +kernel
theorem dX7_brackets_108 : decode cX7_brackets 108 = .ok (.ireturn, 1) := by decide +kernel
def F_X7_brackets (x1 : Int32) (x2 : Int32) (P : VP) (post : Int32 → VP → Prop) : Prop :=
  (F_X6_find 0 x1 P (fun r8 => match r8 with | none => (post (((-1) : Int32)) P) | some yr8 => ((x2 < 0 → post (((-1) : Int32)) P) ∧ (¬ x2 < 0 → ∀ v5_35 : Int32, v5_35 = (x2 / 10) - (x2 / 10) / 10 * 10 → ((v5_35 < x2 / 100 → post (((-1) : Int32)) P) ∧ (¬ v5_35 < x2 / 100 → (x2 - x2 / 10 * 10 < v5_35 → post (((-1) : Int32)) P) ∧ (¬ x2 - x2 / 10 * 10 < v5_35 → (x2 - x2 / 10 * 10 < 8 → ∀ v7_86 : Int32, v7_86 = ((100 * (P 7 yr8 5)) + (10 * (P 7 yr8 6))) + (P 7 yr8 7) → (∀ P91 : VP, P91 = vup P 7 yr8 5 (x2 / 100) → (∀ P97 : VP, P97 = vup P91 7 yr8 6 v5_35 → (∀ P103 : VP, P103 = vup P97 7 yr8 7 (x2 - x2 / 10 * 10) → (post v7_86 P103))))) ∧ (¬ x2 - x2 / 10 * 10 < 8 → post (((-1) : Int32)) P))))))))
set_option maxRecDepth 4000 in
theorem s_X7_brackets {l : Launch} {g : vG} {x1 : Int32} {x2 : Int32} {P Q : VP} {post : Int32 → VP → Prop}  (h : F_X7_brackets x1 x2 P post) : VC l g yX7_brackets cX7_brackets 8 (some .int) 1 [vR 0 0, vI x1, vI x2] (vjn P Q) (vcI Q post) := by
  refine VC.of (by decide +kernel) (Nat.le_of_ble_eq_true rfl) (show VM l g RX7 cX7_brackets 8 (some .int) 1 (vcI Q post) 0 [(0, vR 0 0), (1, vI x1), (2, vI x2)] [] (vjn P Q) from ?_)
  unfold F_X7_brackets at h
  refine vr_aload_n 0 0 dX7_brackets_0 rfl rfl ?_
  refine vg_0_0 RX7 rfl (by decide) fl_7_10 dX7_brackets_1 ?_
  refine vg_1_0 RX7 rfl (by decide) fl_7_29 dX7_brackets_4 ?_
  refine vr_iload_n 1 1 dX7_brackets_7 rfl rfl ?_
  refine vr_callV RX7 (s_X6_find (by decide) h) rfl (by decide) rfl rfl rfl ml_7_65 rfl yh_X6_find rfl ⟨Nat.le_of_ble_eq_true rfl, Nat.le_of_ble_eq_true rfl⟩ (Nat.le_of_ble_eq_true rfl) ⟨Nat.zero_le _, Nat.zero_le _⟩ dX7_brackets_8 (ko fun r8 hvr8 h => ?_)
  refine vr_astore_n 3 [(3, vO 7 r8), (0, vR 0 0), (1, vI x1), (2, vI x2)] dX7_brackets_11 rfl (by decide) rfl ?_
  refine vr_aload_n 3 0 dX7_brackets_12 rfl rfl ?_
  rcases r8 with _ | yr8
  · refine vr_ifnullN 20 dX7_brackets_13 (by decide) ?_
    refine vr_iconst (-1) dX7_brackets_20 (by decide) ?_
    exact vr_iret rfl ⟨_, _, rfl, rfl, h⟩ dX7_brackets_21
  · refine vr_ifnullR dX7_brackets_13 ?_
    refine vr_iload_n 2 3 dX7_brackets_16 rfl rfl ?_
    refine vr_ifge 22 dX7_brackets_17 (by decide) (fun c17 => ?_) (fun c17 => ?_)
    · have h := h.1 c17
      refine vr_iconst (-1) dX7_brackets_20 (by decide) ?_
      exact vr_iret rfl ⟨_, _, rfl, rfl, h⟩ dX7_brackets_21
    · have h := h.2 c17
      refine vr_iload_n 2 3 dX7_brackets_22 rfl rfl ?_
      refine vr_bipush 100 dX7_brackets_23 (by decide) ?_
      refine vr_idiv dX7_brackets_25 (by decide) ?_
      refine vr_istore [(4, vI (x2 / 100)), (3, vR 7 yr8), (0, vR 0 0), (1, vI x1), (2, vI x2)] dX7_brackets_26 (by decide) rfl ?_
      refine vr_iload_n 2 4 dX7_brackets_28 rfl rfl ?_
      refine vr_bipush 10 dX7_brackets_29 (by decide) ?_
      refine vr_idiv dX7_brackets_31 (by decide) ?_
      refine vr_bipush 10 dX7_brackets_32 (by decide) ?_
      refine vr_irem dX7_brackets_34 (by decide) ?_
      obtain ⟨v5_35, ev5_35⟩ : ∃ y : Int32, y = (x2 / 10) - (x2 / 10) / 10 * 10 := ⟨_, rfl⟩
      have h := h v5_35 ev5_35
      refine vr_nm ev5_35 ?_
      refine vr_istore [(5, vI v5_35), (4, vI (x2 / 100)), (3, vR 7 yr8), (0, vR 0 0), (1, vI x1), (2, vI x2)] dX7_brackets_35 (by decide) rfl ?_
      refine vr_iload_n 2 5 dX7_brackets_37 rfl rfl ?_
      refine vr_bipush 10 dX7_brackets_38 (by decide) ?_
      refine vr_irem dX7_brackets_40 (by decide) ?_
      refine vr_istore [(6, vI (x2 - x2 / 10 * 10)), (5, vI v5_35), (4, vI (x2 / 100)), (3, vR 7 yr8), (0, vR 0 0), (1, vI x1), (2, vI x2)] dX7_brackets_41 (by decide) rfl ?_
      refine vr_iload 2 dX7_brackets_43 rfl ?_
      refine vr_iload 1 dX7_brackets_45 rfl ?_
      refine vr_icmpgt 64 dX7_brackets_47 (by decide) (fun c47 => ?_) (fun c47 => ?_)
      · have h := h.1 c47
        refine vr_iconst (-1) dX7_brackets_64 (by decide) ?_
        exact vr_iret rfl ⟨_, _, rfl, rfl, h⟩ dX7_brackets_65
      · have h := h.2 c47
        refine vr_iload 1 dX7_brackets_50 rfl ?_
        refine vr_iload 0 dX7_brackets_52 rfl ?_
        refine vr_icmpgt 64 dX7_brackets_54 (by decide) (fun c54 => ?_) (fun c54 => ?_)
        · have h := h.1 c54
          refine vr_iconst (-1) dX7_brackets_64 (by decide) ?_
          exact vr_iret rfl ⟨_, _, rfl, rfl, h⟩ dX7_brackets_65
        · have h := h.2 c54
          refine vr_iload 0 dX7_brackets_57 rfl ?_
          refine vr_bipush 8 dX7_brackets_59 (by decide) ?_
          refine vr_icmplt 66 dX7_brackets_61 (by decide) (fun c61 => ?_) (fun c61 => ?_)
          · have h := h.1 c61
            refine vr_bipush 100 dX7_brackets_66 (by decide) ?_
            refine vr_aload_n 3 3 dX7_brackets_68 rfl rfl ?_
            refine vg_7_5 RX7 rfl (hvr8 _ rfl) fl_7_89 dX7_brackets_69 ?_
            refine vr_imul dX7_brackets_72 ?_
            refine vr_bipush 10 dX7_brackets_73 (by decide) ?_
            refine vr_aload_n 3 3 dX7_brackets_75 rfl rfl ?_
            refine vg_7_6 RX7 rfl (hvr8 _ rfl) fl_7_92 dX7_brackets_76 ?_
            refine vr_imul dX7_brackets_79 ?_
            refine vr_iadd dX7_brackets_80 ?_
            refine vr_aload_n 3 3 dX7_brackets_81 rfl rfl ?_
            refine vg_7_7 RX7 rfl (hvr8 _ rfl) fl_7_95 dX7_brackets_82 ?_
            refine vr_iadd dX7_brackets_85 ?_
            obtain ⟨v7_86, ev7_86⟩ : ∃ y : Int32, y = ((100 * (P 7 yr8 5)) + (10 * (P 7 yr8 6))) + (P 7 yr8 7) := ⟨_, rfl⟩
            have h := h v7_86 ev7_86
            refine vr_nm ev7_86 ?_
            refine vr_istore [(7, vI v7_86), (6, vI (x2 - x2 / 10 * 10)), (5, vI v5_35), (4, vI (x2 / 100)), (3, vR 7 yr8), (0, vR 0 0), (1, vI x1), (2, vI x2)] dX7_brackets_86 (by decide) rfl ?_
            refine vr_aload_n 3 4 dX7_brackets_88 rfl rfl ?_
            refine vr_iload 3 dX7_brackets_89 rfl ?_
            obtain ⟨P91, eP91⟩ : ∃ y : VP, y = vup P 7 yr8 5 (x2 / 100) := ⟨_, rfl⟩
            have h := h P91 eP91
            refine vp_7_5 RX7 rfl (hvr8 _ rfl) fl_7_89 eP91 dX7_brackets_91 ?_
            refine vr_aload_n 3 4 dX7_brackets_94 rfl rfl ?_
            refine vr_iload 2 dX7_brackets_95 rfl ?_
            obtain ⟨P97, eP97⟩ : ∃ y : VP, y = vup P91 7 yr8 6 v5_35 := ⟨_, rfl⟩
            have h := h P97 eP97
            refine vp_7_6 RX7 rfl (hvr8 _ rfl) fl_7_92 eP97 dX7_brackets_97 ?_
            refine vr_aload_n 3 4 dX7_brackets_100 rfl rfl ?_
            refine vr_iload 1 dX7_brackets_101 rfl ?_
            obtain ⟨P103, eP103⟩ : ∃ y : VP, y = vup P97 7 yr8 7 (x2 - x2 / 10 * 10) := ⟨_, rfl⟩
            have h := h P103 eP103
            refine vp_7_7 RX7 rfl (hvr8 _ rfl) fl_7_95 eP103 dX7_brackets_103 ?_
            refine vr_iload 0 dX7_brackets_106 rfl ?_
            exact vr_iret rfl ⟨_, _, rfl, rfl, h⟩ dX7_brackets_108
          · have h := h.2 c61
            refine vr_iconst (-1) dX7_brackets_64 (by decide) ?_
            exact vr_iret rfl ⟨_, _, rfl, rfl, h⟩ dX7_brackets_65
theorem dX7_set_0 : decode cX7_set 0 = .ok (.aload_n 0, 1) := by decide +kernel
theorem dX7_set_1 : decode cX7_set 1 = .ok (.getfield 10, 3) := by decide +kernel
theorem dX7_set_4 : decode cX7_set 4 = .ok (.getfield 29, 3) := by decide +kernel
theorem dX7_set_7 : decode cX7_set 7 = .ok (.iload_n 1, 1) := by decide +kernel
theorem dX7_set_8 : decode cX7_set 8 = .ok (.invokevirtual 65, 3) := by decide +kernel
theorem dX7_set_11 : decode cX7_set 11 = .ok (.astore 4, 2) := by decide +kernel
theorem dX7_set_13 : decode cX7_set 13 = .ok (.aload 4, 2) := by decide +kernel
theorem dX7_set_15 : decode cX7_set 15 = .ok (.ifnull 7, 3) := by decide +kernel
theorem dX7_set_18 : decode cX7_set 18 = .ok (.iload_n 3, 1) := by decide +kernel
theorem dX7_set_19 : decode cX7_set 19 = .ok (.ifCond .ge 5, 3) := by decide +kernel
theorem dX7_set_22 : decode cX7_set 22 = .ok (.iconst (-1), 1) := by decide +kernel
theorem dX7_set_23 : decode cX7_set 23 = .ok (.ireturn, 1) := by decide +kernel
theorem dX7_set_24 : decode cX7_set 24 = .ok (.iload_n 2, 1) := by decide +kernel
theorem dX7_set_25 : decode cX7_set 25 = .ok (.ifCond .ne 25, 3) := by decide +kernel
theorem dX7_set_28 : decode cX7_set 28 = .ok (.iload_n 3, 1) := by decide +kernel
theorem dX7_set_29 : decode cX7_set 29 = .ok (.bipush 7, 2) := by decide +kernel
theorem dX7_set_31 : decode cX7_set 31 = .ok (.if_icmp .gt 19, 3) := by decide +kernel
theorem dX7_set_34 : decode cX7_set 34 = .ok (.aload 4, 2) := by decide +kernel
theorem dX7_set_36 : decode cX7_set 36 = .ok (.getfield 98, 3) := by decide +kernel
theorem dX7_set_39 : decode cX7_set 39 = .ok (.istore 5, 2) := by decide +kernel
theorem dX7_set_41 : decode cX7_set 41 = .ok (.aload 4, 2) := by decide +kernel
theorem dX7_set_43 : decode cX7_set 43 = .ok (.iload_n 3, 1) := by decide +kernel
theorem dX7_set_44 : decode cX7_set 44 = .ok (.putfield 98, 3) := by decide +kernel
theorem dX7_set_47 : decode cX7_set 47 = .ok (.iload 5, 2) := by decide +kernel
theorem dX7_set_49 : decode cX7_set 49 = .ok (.ireturn, 1) := by decide +kernel
theorem dX7_set_50 : decode cX7_set 50 = .ok (.iload_n 2, 1) := by decide +kernel
theorem dX7_set_51 : decode cX7_set 51 = .ok (.iconst 1, 1) := by decide +kernel
theorem dX7_set_52 : decode cX7_set 52 = .ok (.if_icmp .ne 28, 3) := by decide +kernel
theorem dX7_set_55 : decode cX7_set 55 = .ok (.iload_n 3, 1) := by decide +kernel
theorem dX7_set_56 : decode cX7_set 56 = .ok (.aload 4, 2) := by decide +kernel
theorem dX7_set_58 : decode cX7_set 58 = .ok (.getfield 75, 3) := by decide +kernel
theorem dX7_set_61 : decode cX7_set 61 = .ok (.if_icmp .gt 19, 3) := by decide +kernel
theorem dX7_set_64 : decode cX7_set 64 = .ok (.aload 4, 2) := by decide +kernel
theorem dX7_set_66 : decode cX7_set 66 = .ok (.getfield 101, 3) := by decide +kernel
theorem dX7_set_69 : decode cX7_set 69 = .ok (.istore 5, 2) := by decide +kernel
theorem dX7_set_71 : decode cX7_set 71 = .ok (.aload 4, 2) := by decide +kernel
theorem dX7_set_73 : decode cX7_set 73 = .ok (.iload_n 3, 1) := by decide +kernel
theorem dX7_set_74 : decode cX7_set 74 = .ok (.putfield 101, 3) := by decide +kernel
theorem dX7_set_77 : decode cX7_set 77 = .ok (.iload 5, 2) := by decide +kernel
theorem dX7_set_79 : decode cX7_set 79 = .ok (.ireturn, 1) := by decide +kernel
theorem dX7_set_80 : decode cX7_set 80 = .ok (.iconst (-1), 1) := by decide +kernel
theorem dX7_set_81 : decode cX7_set 81 = .ok (.ireturn, 1) := by decide +kernel
def F_X7_set_b50 (x1 : Int32) (x2 : Int32) (x3 : Int32) (P : VP) (post : Int32 → VP → Prop)  (v4 : Nat) : Prop :=
  (x2 = 1 → (P 7 v4 4 < x3 → post (((-1) : Int32)) P) ∧ (¬ P 7 v4 4 < x3 → ∀ P74 : VP, P74 = vup P 7 v4 9 x3 → (post (P 7 v4 9) P74))) ∧ (¬ x2 = 1 → post (((-1) : Int32)) P)
set_option maxRecDepth 4000 in
theorem s_X7_set_b50 {l : Launch} {g : vG} {x1 : Int32} {x2 : Int32} {x3 : Int32} {P Q : VP} {post : Int32 → VP → Prop}  {v4 : Nat}  (hv4 : v4 < vcnt 7)  (h : F_X7_set_b50 x1 x2 x3 P post  v4) : VM l g RX7 cX7_set 6 (some .int) 1 (vcI Q post) 50 [(2, vI x2), (3, vI x3), (4, vR 7 v4)] [] (vjn P Q) := by
  unfold F_X7_set_b50 at h
  refine vr_iload_n 2 0 dX7_set_50 rfl rfl ?_
  refine vr_iconst 1 dX7_set_51 (by decide) ?_
  refine vr_icmpne 80 dX7_set_52 (by decide) (fun c52 => ?_) (fun c52 => ?_)
  · have h := h.1 c52
    refine vr_iload_n 3 1 dX7_set_55 rfl rfl ?_
    refine vr_aload 2 dX7_set_56 rfl ?_
    refine vg_7_4 RX7 rfl hv4 fl_7_75 dX7_set_58 ?_
    refine vr_icmpgt 80 dX7_set_61 (by decide) (fun c61 => ?_) (fun c61 => ?_)
    · have h := h.1 c61
      refine vr_iconst (-1) dX7_set_80 (by decide) ?_
      exact vr_iret rfl ⟨_, _, rfl, rfl, h⟩ dX7_set_81
    · have h := h.2 c61
      refine vr_aload 2 dX7_set_64 rfl ?_
      refine vg_7_9 RX7 rfl hv4 fl_7_101 dX7_set_66 ?_
      refine vr_istore [(5, vI (P 7 v4 9)), (2, vI x2), (3, vI x3), (4, vR 7 v4)] dX7_set_69 (by decide) rfl ?_
      refine vr_aload 3 dX7_set_71 rfl ?_
      refine vr_iload_n 3 2 dX7_set_73 rfl rfl ?_
      obtain ⟨P74, eP74⟩ : ∃ y : VP, y = vup P 7 v4 9 x3 := ⟨_, rfl⟩
      have h := h P74 eP74
      refine vp_7_9 RX7 rfl hv4 fl_7_101 eP74 dX7_set_74 ?_
      refine vr_iload 0 dX7_set_77 rfl ?_
      exact vr_iret rfl ⟨_, _, rfl, rfl, h⟩ dX7_set_79
  · have h := h.2 c52
    refine vr_iconst (-1) dX7_set_80 (by decide) ?_
    exact vr_iret rfl ⟨_, _, rfl, rfl, h⟩ dX7_set_81
def F_X7_set (x1 : Int32) (x2 : Int32) (x3 : Int32) (P : VP) (post : Int32 → VP → Prop) : Prop :=
  (F_X6_find 0 x1 P (fun r8 => match r8 with | none => (post (((-1) : Int32)) P) | some yr8 => ((x3 < 0 → post (((-1) : Int32)) P) ∧ (¬ x3 < 0 → (x2 = 0 → ((7 : Int32) < x3 → F_X7_set_b50 x1 x2 x3 P post  yr8) ∧ (¬ (7 : Int32) < x3 → ∀ P44 : VP, P44 = vup P 7 yr8 8 x3 → (post (P 7 yr8 8) P44))) ∧ (¬ x2 = 0 → F_X7_set_b50 x1 x2 x3 P post  yr8)))))
set_option maxRecDepth 4000 in
theorem s_X7_set {l : Launch} {g : vG} {x1 : Int32} {x2 : Int32} {x3 : Int32} {P Q : VP} {post : Int32 → VP → Prop}  (h : F_X7_set x1 x2 x3 P post) : VC l g yX7_set cX7_set 6 (some .int) 1 [vR 0 0, vI x1, vI x2, vI x3] (vjn P Q) (vcI Q post) := by
  refine VC.of (by decide +kernel) (Nat.le_of_ble_eq_true rfl) (show VM l g RX7 cX7_set 6 (some .int) 1 (vcI Q post) 0 [(0, vR 0 0), (1, vI x1), (2, vI x2), (3, vI x3)] [] (vjn P Q) from ?_)
  unfold F_X7_set at h
  refine vr_aload_n 0 0 dX7_set_0 rfl rfl ?_
  refine vg_0_0 RX7 rfl (by decide) fl_7_10 dX7_set_1 ?_
  refine vg_1_0 RX7 rfl (by decide) fl_7_29 dX7_set_4 ?_
  refine vr_iload_n 1 1 dX7_set_7 rfl rfl ?_
  refine vr_callV RX7 (s_X6_find (by decide) h) rfl (by decide) rfl rfl rfl ml_7_65 rfl yh_X6_find rfl ⟨Nat.le_of_ble_eq_true rfl, Nat.le_of_ble_eq_true rfl⟩ (Nat.le_of_ble_eq_true rfl) ⟨Nat.zero_le _, Nat.zero_le _⟩ dX7_set_8 (ko fun r8 hvr8 h => ?_)
  refine vr_astore [(4, vO 7 r8), (0, vR 0 0), (1, vI x1), (2, vI x2), (3, vI x3)] dX7_set_11 (by decide) rfl ?_
  refine vr_aload 0 dX7_set_13 rfl ?_
  rcases r8 with _ | yr8
  · refine vr_ifnullN 22 dX7_set_15 (by decide) ?_
    refine vr_iconst (-1) dX7_set_22 (by decide) ?_
    exact vr_iret rfl ⟨_, _, rfl, rfl, h⟩ dX7_set_23
  · refine vr_ifnullR dX7_set_15 ?_
    refine vr_iload_n 3 4 dX7_set_18 rfl rfl ?_
    refine vr_ifge 24 dX7_set_19 (by decide) (fun c19 => ?_) (fun c19 => ?_)
    · have h := h.1 c19
      refine vr_iconst (-1) dX7_set_22 (by decide) ?_
      exact vr_iret rfl ⟨_, _, rfl, rfl, h⟩ dX7_set_23
    · have h := h.2 c19
      refine vr_iload_n 2 3 dX7_set_24 rfl rfl ?_
      refine vr_ifne 50 dX7_set_25 (by decide) (fun c25 => ?_) (fun c25 => ?_)
      · have h := h.1 c25
        refine vr_iload_n 3 4 dX7_set_28 rfl rfl ?_
        refine vr_bipush 7 dX7_set_29 (by decide) ?_
        refine vr_icmpgt 50 dX7_set_31 (by decide) (fun c31 => ?_) (fun c31 => ?_)
        · have h := h.1 c31
          refine vr_sub [3, 4, 0] [(2, vI x2), (3, vI x3), (4, vR 7 yr8)] rfl ?_
          exact s_X7_set_b50 (hvr8 _ rfl)  h
        · have h := h.2 c31
          refine vr_aload 0 dX7_set_34 rfl ?_
          refine vg_7_8 RX7 rfl (hvr8 _ rfl) fl_7_98 dX7_set_36 ?_
          refine vr_istore [(5, vI (P 7 yr8 8)), (4, vR 7 yr8), (0, vR 0 0), (1, vI x1), (2, vI x2), (3, vI x3)] dX7_set_39 (by decide) rfl ?_
          refine vr_aload 1 dX7_set_41 rfl ?_
          refine vr_iload_n 3 5 dX7_set_43 rfl rfl ?_
          obtain ⟨P44, eP44⟩ : ∃ y : VP, y = vup P 7 yr8 8 x3 := ⟨_, rfl⟩
          have h := h P44 eP44
          refine vp_7_8 RX7 rfl (hvr8 _ rfl) fl_7_98 eP44 dX7_set_44 ?_
          refine vr_iload 0 dX7_set_47 rfl ?_
          exact vr_iret rfl ⟨_, _, rfl, rfl, h⟩ dX7_set_49
      · have h := h.2 c25
        refine vr_sub [3, 4, 0] [(2, vI x2), (3, vI x3), (4, vR 7 yr8)] rfl ?_
        exact s_X7_set_b50 (hvr8 _ rfl)  h
theorem dX7_quota_0 : decode cX7_quota 0 = .ok (.aload_n 0, 1) := by decide +kernel
theorem dX7_quota_1 : decode cX7_quota 1 = .ok (.getfield 10, 3) := by decide +kernel
theorem dX7_quota_4 : decode cX7_quota 4 = .ok (.getfield 29, 3) := by decide +kernel
theorem dX7_quota_7 : decode cX7_quota 7 = .ok (.astore_n 3, 1) := by decide +kernel
theorem dX7_quota_8 : decode cX7_quota 8 = .ok (.aload_n 3, 1) := by decide +kernel
theorem dX7_quota_9 : decode cX7_quota 9 = .ok (.iload_n 1, 1) := by decide +kernel
theorem dX7_quota_10 : decode cX7_quota 10 = .ok (.invokevirtual 33, 3) := by decide +kernel
theorem dX7_quota_13 : decode cX7_quota 13 = .ok (.ifCond .eq 7, 3) := by decide +kernel
theorem dX7_quota_16 : decode cX7_quota 16 = .ok (.iload_n 1, 1) := by decide +kernel
theorem dX7_quota_17 : decode cX7_quota 17 = .ok (.ifCond .ne 5, 3) := by decide +kernel
theorem dX7_quota_20 : decode cX7_quota 20 = .ok (.iconst (-1), 1) := by decide +kernel
theorem dX7_quota_21 : decode cX7_quota 21 = .ok (.ireturn, 1) := by decide +kernel
theorem dX7_quota_22 : decode cX7_quota 22 = .ok (.aload_n 3, 1) := by decide +kernel
theorem dX7_quota_23 : decode cX7_quota 23 = .ok (.iload_n 1, 1) := by decide +kernel
theorem dX7_quota_24 : decode cX7_quota 24 = .ok (.iload_n 2, 1) := by decide +kernel
theorem dX7_quota_25 : decode cX7_quota 25 = .ok (.invokevirtual 104, 3) := by decide +kernel
theorem dX7_quota_28 : decode cX7_quota 28 = .ok (.ireturn, 1) := by decide +kernel
def F_X7_quota (x1 : Int32) (x2 : Int32) (P : VP) (post : Int32 → VP → Prop) : Prop :=
  F_X6_hasDirectory 0 x1 P (fun r10 => (r10 = 0 → post (((-1) : Int32)) P) ∧ (¬ r10 = 0 → (x1 = 0 → post (((-1) : Int32)) P) ∧ (¬ x1 = 0 → F_X6_moveQuota 0 x1 x2 P (fun r25 P25 => post r25 P25))))
set_option maxRecDepth 4000 in
theorem s_X7_quota {l : Launch} {g : vG} {x1 : Int32} {x2 : Int32} {P Q : VP} {post : Int32 → VP → Prop}  (h : F_X7_quota x1 x2 P post) : VC l g yX7_quota cX7_quota 4 (some .int) 6 [vR 0 0, vI x1, vI x2] (vjn P Q) (vcI Q post) := by
  refine VC.of (by decide +kernel) (Nat.le_of_ble_eq_true rfl) (show VM l g RX7 cX7_quota 4 (some .int) 6 (vcI Q post) 0 [(0, vR 0 0), (1, vI x1), (2, vI x2)] [] (vjn P Q) from ?_)
  unfold F_X7_quota at h
  refine vr_aload_n 0 0 dX7_quota_0 rfl rfl ?_
  refine vg_0_0 RX7 rfl (by decide) fl_7_10 dX7_quota_1 ?_
  refine vg_1_0 RX7 rfl (by decide) fl_7_29 dX7_quota_4 ?_
  refine vr_astore_n 3 [(3, vR 2 0), (0, vR 0 0), (1, vI x1), (2, vI x2)] dX7_quota_7 rfl (by decide) rfl ?_
  refine vr_aload_n 3 0 dX7_quota_8 rfl rfl ?_
  refine vr_iload_n 1 2 dX7_quota_9 rfl rfl ?_
  refine vr_callV RX7 (s_X6_hasDirectory (by decide) h) rfl (by decide) rfl rfl rfl ml_7_33 rfl yh_X6_hasDirectory rfl ⟨Nat.le_of_ble_eq_true rfl, Nat.le_of_ble_eq_true rfl⟩ (Nat.le_of_ble_eq_true rfl) ⟨Nat.zero_le _, Nat.zero_le _⟩ dX7_quota_10 (ki fun r10 h => ?_)
  refine vr_ifeq 20 dX7_quota_13 (by decide) (fun c13 => ?_) (fun c13 => ?_)
  · have h := h.1 c13
    refine vr_iconst (-1) dX7_quota_20 (by decide) ?_
    exact vr_iret rfl ⟨_, _, rfl, rfl, h⟩ dX7_quota_21
  · have h := h.2 c13
    refine vr_iload_n 1 2 dX7_quota_16 rfl rfl ?_
    refine vr_ifne 22 dX7_quota_17 (by decide) (fun c17 => ?_) (fun c17 => ?_)
    · have h := h.1 c17
      refine vr_iconst (-1) dX7_quota_20 (by decide) ?_
      exact vr_iret rfl ⟨_, _, rfl, rfl, h⟩ dX7_quota_21
    · have h := h.2 c17
      refine vr_aload_n 3 0 dX7_quota_22 rfl rfl ?_
      refine vr_iload_n 1 2 dX7_quota_23 rfl rfl ?_
      refine vr_iload_n 2 3 dX7_quota_24 rfl rfl ?_
      refine vr_callV RX7 (s_X6_moveQuota (by decide) h) rfl (by decide) rfl rfl rfl ml_7_104 rfl yh_X6_moveQuota rfl ⟨Nat.le_of_ble_eq_true rfl, Nat.le_of_ble_eq_true rfl⟩ (Nat.le_of_ble_eq_true rfl) ⟨Nat.zero_le _, Nat.zero_le _⟩ dX7_quota_25 (kci fun r25 P25 h => ?_)
      exact vr_iret rfl ⟨_, _, rfl, rfl, h⟩ dX7_quota_28
theorem dX7_cell_0 : decode cX7_cell 0 = .ok (.aload_n 0, 1) := by decide +kernel
theorem dX7_cell_1 : decode cX7_cell 1 = .ok (.getfield 10, 3) := by decide +kernel
theorem dX7_cell_4 : decode cX7_cell 4 = .ok (.getfield 29, 3) := by decide +kernel
theorem dX7_cell_7 : decode cX7_cell 7 = .ok (.astore_n 3, 1) := by decide +kernel
theorem dX7_cell_8 : decode cX7_cell 8 = .ok (.aload_n 3, 1) := by decide +kernel
theorem dX7_cell_9 : decode cX7_cell 9 = .ok (.iload_n 1, 1) := by decide +kernel
theorem dX7_cell_10 : decode cX7_cell 10 = .ok (.invokevirtual 33, 3) := by decide +kernel
theorem dX7_cell_13 : decode cX7_cell 13 = .ok (.ifCond .ne 5, 3) := by decide +kernel
theorem dX7_cell_16 : decode cX7_cell 16 = .ok (.iconst (-1), 1) := by decide +kernel
theorem dX7_cell_17 : decode cX7_cell 17 = .ok (.ireturn, 1) := by decide +kernel
theorem dX7_cell_18 : decode cX7_cell 18 = .ok (.iload_n 2, 1) := by decide +kernel
theorem dX7_cell_19 : decode cX7_cell 19 = .ok (.tableswitch 76 0 4 #[33, 48, 54, 64, 70], 33) := by decide +kernel
theorem dX7_cell_52 : decode cX7_cell 52 = .ok (.iload_n 1, 1) := by decide +kernel
theorem dX7_cell_53 : decode cX7_cell 53 = .ok (.ifCond .ne 8, 3) := by decide +kernel
theorem dX7_cell_56 : decode cX7_cell 56 = .ok (.bipush (-2), 2) := by decide +kernel
theorem dX7_cell_58 : decode cX7_cell 58 = .ok (.goto 8, 3) := by decide +kernel
theorem dX7_cell_61 : decode cX7_cell 61 = .ok (.aload_n 3, 1) := by decide +kernel
theorem dX7_cell_62 : decode cX7_cell 62 = .ok (.iload_n 1, 1) := by decide +kernel
theorem dX7_cell_63 : decode cX7_cell 63 = .ok (.invokevirtual 107, 3) := by decide +kernel
theorem dX7_cell_66 : decode cX7_cell 66 = .ok (.ireturn, 1) := by decide +kernel
theorem dX7_cell_67 : decode cX7_cell 67 = .ok (.aload_n 3, 1) := by decide +kernel
theorem dX7_cell_68 : decode cX7_cell 68 = .ok (.iload_n 1, 1) := by decide +kernel
theorem dX7_cell_69 : decode cX7_cell 69 = .ok (.invokevirtual 110, 3) := by decide +kernel
theorem dX7_cell_72 : decode cX7_cell 72 = .ok (.ireturn, 1) := by decide +kernel
theorem dX7_cell_73 : decode cX7_cell 73 = .ok (.aload_n 3, 1) := by decide +kernel
theorem dX7_cell_74 : decode cX7_cell 74 = .ok (.aload_n 3, 1) := by decide +kernel
theorem dX7_cell_75 : decode cX7_cell 75 = .ok (.iload_n 1, 1) := by decide +kernel
theorem dX7_cell_76 : decode cX7_cell 76 = .ok (.invokevirtual 113, 3) := by decide +kernel
theorem dX7_cell_79 : decode cX7_cell 79 = .ok (.invokevirtual 116, 3) := by decide +kernel
theorem dX7_cell_82 : decode cX7_cell 82 = .ok (.ireturn, 1) := by decide +kernel
theorem dX7_cell_83 : decode cX7_cell 83 = .ok (.aload_n 3, 1) := by decide +kernel
theorem dX7_cell_84 : decode cX7_cell 84 = .ok (.iload_n 1, 1) := by decide +kernel
theorem dX7_cell_85 : decode cX7_cell 85 = .ok (.invokevirtual 113, 3) := by decide +kernel
theorem dX7_cell_88 : decode cX7_cell 88 = .ok (.ireturn, 1) := by decide +kernel
theorem dX7_cell_89 : decode cX7_cell 89 = .ok (.aload_n 3, 1) := by decide +kernel
theorem dX7_cell_90 : decode cX7_cell 90 = .ok (.iload_n 1, 1) := by decide +kernel
theorem dX7_cell_91 : decode cX7_cell 91 = .ok (.invokevirtual 119, 3) := by decide +kernel
theorem dX7_cell_94 : decode cX7_cell 94 = .ok (.ireturn, 1) := by decide +kernel
theorem dX7_cell_95 : decode cX7_cell 95 = .ok (.iconst (-1), 1) := by decide +kernel
theorem dX7_cell_96 : decode cX7_cell 96 = .ok (.ireturn, 1) := by decide +kernel
def F_X7_cell (x1 : Int32) (x2 : Int32) (P : VP) (post : Int32 → Prop) : Prop :=
  F_X6_hasDirectory 0 x1 P (fun r10 => (r10 = 0 → post (((-1) : Int32))) ∧ (¬ r10 = 0 → (x2 = 0 → (x1 = 0 → post (((-2) : Int32))) ∧ (¬ x1 = 0 → F_X6_aboveOf 0 x1 P (fun r63 => post r63))) ∧ (¬ x2 = 0 → (x2 = 1 → F_X6_quotaOf 0 x1 P (fun r69 => post r69)) ∧ (¬ x2 = 1 → (x2 = 2 → F_X6_cellFrom 0 x1 P (fun r76 => F_X6_usedOf 0 r76 P (fun r79 => post r79))) ∧ (¬ x2 = 2 → (x2 = 3 → F_X6_cellFrom 0 x1 P (fun r85 => post r85)) ∧ (¬ x2 = 3 → (x2 = 4 → F_X6_segmentsIn 0 x1 P (fun r91 => post r91)) ∧ (¬ x2 = 4 → post (((-1) : Int32)))))))))
set_option maxRecDepth 4000 in
theorem s_X7_cell {l : Launch} {g : vG} {x1 : Int32} {x2 : Int32} {P Q : VP} {post : Int32 → Prop}  (h : F_X7_cell x1 x2 P post) : VC l g yX7_cell cX7_cell 4 (some .int) 4 [vR 0 0, vI x1, vI x2] (vjn P Q) (vpI (vjn P Q) post) := by
  refine VC.of (by decide +kernel) (Nat.le_of_ble_eq_true rfl) (show VM l g RX7 cX7_cell 4 (some .int) 4 (vpI (vjn P Q) post) 0 [(0, vR 0 0), (1, vI x1), (2, vI x2)] [] (vjn P Q) from ?_)
  unfold F_X7_cell at h
  refine vr_aload_n 0 0 dX7_cell_0 rfl rfl ?_
  refine vg_0_0 RX7 rfl (by decide) fl_7_10 dX7_cell_1 ?_
  refine vg_1_0 RX7 rfl (by decide) fl_7_29 dX7_cell_4 ?_
  refine vr_astore_n 3 [(3, vR 2 0), (0, vR 0 0), (1, vI x1), (2, vI x2)] dX7_cell_7 rfl (by decide) rfl ?_
  refine vr_aload_n 3 0 dX7_cell_8 rfl rfl ?_
  refine vr_iload_n 1 2 dX7_cell_9 rfl rfl ?_
  refine vr_callV RX7 (s_X6_hasDirectory (by decide) h) rfl (by decide) rfl rfl rfl ml_7_33 rfl yh_X6_hasDirectory rfl ⟨Nat.le_of_ble_eq_true rfl, Nat.le_of_ble_eq_true rfl⟩ (Nat.le_of_ble_eq_true rfl) ⟨Nat.zero_le _, Nat.zero_le _⟩ dX7_cell_10 (ki fun r10 h => ?_)
  refine vr_ifne 18 dX7_cell_13 (by decide) (fun c13 => ?_) (fun c13 => ?_)
  · have h := h.1 c13
    refine vr_iconst (-1) dX7_cell_16 (by decide) ?_
    exact vr_iret rfl ⟨rfl, _, rfl, h⟩ dX7_cell_17
  · have h := h.2 c13
    refine vr_iload_n 2 3 dX7_cell_18 rfl rfl ?_
    by_cases c19_0 : x2 = 0
    · have h := h.1 c19_0
      refine vr_tswIn 0 52 dX7_cell_19 c19_0 (by decide) rfl (by decide) ?_
      refine vr_iload_n 1 2 dX7_cell_52 rfl rfl ?_
      refine vr_ifne 61 dX7_cell_53 (by decide) (fun c53 => ?_) (fun c53 => ?_)
      · have h := h.1 c53
        refine vr_bipush (-2) dX7_cell_56 (by decide) ?_
        refine vr_goto 66 dX7_cell_58 (by decide) ?_
        exact vr_iret rfl ⟨rfl, _, rfl, h⟩ dX7_cell_66
      · have h := h.2 c53
        refine vr_aload_n 3 0 dX7_cell_61 rfl rfl ?_
        refine vr_iload_n 1 2 dX7_cell_62 rfl rfl ?_
        refine vr_callV RX7 (s_X6_aboveOf (by decide) h) rfl (by decide) rfl rfl rfl ml_7_107 rfl yh_X6_aboveOf rfl ⟨Nat.le_of_ble_eq_true rfl, Nat.le_of_ble_eq_true rfl⟩ (Nat.le_of_ble_eq_true rfl) ⟨Nat.zero_le _, Nat.zero_le _⟩ dX7_cell_63 (ki fun r63 h => ?_)
        exact vr_iret rfl ⟨rfl, _, rfl, h⟩ dX7_cell_66
    · have h := h.2 c19_0
      by_cases c19_1 : x2 = 1
      · have h := h.1 c19_1
        refine vr_tswIn 1 67 dX7_cell_19 c19_1 (by decide) rfl (by decide) ?_
        refine vr_aload_n 3 0 dX7_cell_67 rfl rfl ?_
        refine vr_iload_n 1 2 dX7_cell_68 rfl rfl ?_
        refine vr_callV RX7 (s_X6_quotaOf (by decide) h) rfl (by decide) rfl rfl rfl ml_7_110 rfl yh_X6_quotaOf rfl ⟨Nat.le_of_ble_eq_true rfl, Nat.le_of_ble_eq_true rfl⟩ (Nat.le_of_ble_eq_true rfl) ⟨Nat.zero_le _, Nat.zero_le _⟩ dX7_cell_69 (ki fun r69 h => ?_)
        exact vr_iret rfl ⟨rfl, _, rfl, h⟩ dX7_cell_72
      · have h := h.2 c19_1
        by_cases c19_2 : x2 = 2
        · have h := h.1 c19_2
          refine vr_tswIn 2 73 dX7_cell_19 c19_2 (by decide) rfl (by decide) ?_
          refine vr_aload_n 3 0 dX7_cell_73 rfl rfl ?_
          refine vr_aload_n 3 0 dX7_cell_74 rfl rfl ?_
          refine vr_iload_n 1 2 dX7_cell_75 rfl rfl ?_
          refine vr_callV RX7 (s_X6_cellFrom (by decide) h) rfl (by decide) rfl rfl rfl ml_7_113 rfl yh_X6_cellFrom rfl ⟨Nat.le_of_ble_eq_true rfl, Nat.le_of_ble_eq_true rfl⟩ (Nat.le_of_ble_eq_true rfl) ⟨Nat.zero_le _, Nat.zero_le _⟩ dX7_cell_76 (ki fun r76 h => ?_)
          refine vr_callV RX7 (s_X6_usedOf (by decide) h) rfl (by decide) rfl rfl rfl ml_7_116 rfl yh_X6_usedOf rfl ⟨Nat.le_of_ble_eq_true rfl, Nat.le_of_ble_eq_true rfl⟩ (Nat.le_of_ble_eq_true rfl) ⟨Nat.zero_le _, Nat.zero_le _⟩ dX7_cell_79 (ki fun r79 h => ?_)
          exact vr_iret rfl ⟨rfl, _, rfl, h⟩ dX7_cell_82
        · have h := h.2 c19_2
          by_cases c19_3 : x2 = 3
          · have h := h.1 c19_3
            refine vr_tswIn 3 83 dX7_cell_19 c19_3 (by decide) rfl (by decide) ?_
            refine vr_aload_n 3 0 dX7_cell_83 rfl rfl ?_
            refine vr_iload_n 1 2 dX7_cell_84 rfl rfl ?_
            refine vr_callV RX7 (s_X6_cellFrom (by decide) h) rfl (by decide) rfl rfl rfl ml_7_113 rfl yh_X6_cellFrom rfl ⟨Nat.le_of_ble_eq_true rfl, Nat.le_of_ble_eq_true rfl⟩ (Nat.le_of_ble_eq_true rfl) ⟨Nat.zero_le _, Nat.zero_le _⟩ dX7_cell_85 (ki fun r85 h => ?_)
            exact vr_iret rfl ⟨rfl, _, rfl, h⟩ dX7_cell_88
          · have h := h.2 c19_3
            by_cases c19_4 : x2 = 4
            · have h := h.1 c19_4
              refine vr_tswIn 4 89 dX7_cell_19 c19_4 (by decide) rfl (by decide) ?_
              refine vr_aload_n 3 0 dX7_cell_89 rfl rfl ?_
              refine vr_iload_n 1 2 dX7_cell_90 rfl rfl ?_
              refine vr_callV RX7 (s_X6_segmentsIn (by decide) h) rfl (by decide) rfl rfl rfl ml_7_119 rfl yh_X6_segmentsIn rfl ⟨Nat.le_of_ble_eq_true rfl, Nat.le_of_ble_eq_true rfl⟩ (Nat.le_of_ble_eq_true rfl) ⟨Nat.zero_le _, Nat.zero_le _⟩ dX7_cell_91 (ki fun r91 h => ?_)
              exact vr_iret rfl ⟨rfl, _, rfl, h⟩ dX7_cell_94
            · have h := h.2 c19_4
              refine vr_tswOut 95 dX7_cell_19 (by have q0 := lv_neT c19_0 (a := 0) (by decide); have q1 := lv_neT c19_1 (a := 1) (by decide); have q2 := lv_neT c19_2 (a := 2) (by decide); have q3 := lv_neT c19_3 (a := 3) (by decide); have q4 := lv_neT c19_4 (a := 4) (by decide); omega) (by decide) ?_
              refine vr_iconst (-1) dX7_cell_95 (by decide) ?_
              exact vr_iret rfl ⟨rfl, _, rfl, h⟩ dX7_cell_96
