/-! X7_ways, X7_stale, X7_isGranted, X7_drawn, X7_image, X7_back, X7_count -/
theorem dX7_ways_0 : decode cX7_ways 0 = .ok (.iload_n 1, 1) := by decide +kernel
theorem dX7_ways_1 : decode cX7_ways 1 = .ok (.bipush 8, 2) := by decide +kernel
theorem dX7_ways_3 : decode cX7_ways 3 = .ok (.invokestatic 43, 3) := by decide +kernel
theorem dX7_ways_6 : decode cX7_ways 6 = .ok (.ifCond .eq 14, 3) := by decide +kernel
theorem dX7_ways_9 : decode cX7_ways 9 = .ok (.iload_n 2, 1) := by decide +kernel
theorem dX7_ways_10 : decode cX7_ways 10 = .ok (.iconst (-1), 1) := by decide +kernel
theorem dX7_ways_11 : decode cX7_ways 11 = .ok (.if_icmp .lt 9, 3) := by decide +kernel
theorem dX7_ways_14 : decode cX7_ways 14 = .ok (.iload_n 2, 1) := by decide +kernel
theorem dX7_ways_15 : decode cX7_ways 15 = .ok (.bipush 8, 2) := by decide +kernel
theorem dX7_ways_17 : decode cX7_ways 17 = .ok (.if_icmp .lt 5, 3) := by decide +kernel
theorem dX7_ways_20 : decode cX7_ways 20 = .ok (.iconst (-1), 1) := by decide +kernel
theorem dX7_ways_21 : decode cX7_ways 21 = .ok (.ireturn, 1) := by decide +kernel
theorem dX7_ways_22 : decode cX7_ways 22 = .ok (.iconst 1, 1) := by decide +kernel
theorem dX7_ways_23 : decode cX7_ways 23 = .ok (.iload_n 1, 1) := by decide +kernel
theorem dX7_ways_24 : decode cX7_ways 24 = .ok (.ishl, 1) := by decide +kernel
theorem dX7_ways_25 : decode cX7_ways 25 = .ok (.istore_n 3, 1) := by decide +kernel
theorem dX7_ways_26 : decode cX7_ways 26 = .ok (.iconst 0, 1) := by decide +kernel
theorem dX7_ways_27 : decode cX7_ways 27 = .ok (.istore 4, 2) := by decide +kernel
theorem dX7_ways_29 : decode cX7_ways 29 = .ok (.iload 4, 2) := by decide +kernel
theorem dX7_ways_31 : decode cX7_ways 31 = .ok (.bipush 8, 2) := by decide +kernel
theorem dX7_ways_33 : decode cX7_ways 33 = .ok (.if_icmp .ge 36, 3) := by decide +kernel
theorem dX7_ways_36 : decode cX7_ways 36 = .ok (.iload_n 2, 1) := by decide +kernel
theorem dX7_ways_37 : decode cX7_ways 37 = .ok (.ifCond .lt 14, 3) := by decide +kernel
theorem dX7_ways_40 : decode cX7_ways 40 = .ok (.iload_n 3, 1) := by decide +kernel
theorem dX7_ways_41 : decode cX7_ways 41 = .ok (.iconst 1, 1) := by decide +kernel
theorem dX7_ways_42 : decode cX7_ways 42 = .ok (.iload_n 2, 1) := by decide +kernel
theorem dX7_ways_43 : decode cX7_ways 43 = .ok (.ishl, 1) := by decide +kernel
theorem dX7_ways_44 : decode cX7_ways 44 = .ok (.iand, 1) := by decide +kernel
theorem dX7_ways_45 : decode cX7_ways 45 = .ok (.ifCond .eq 6, 3) := by decide +kernel
theorem dX7_ways_48 : decode cX7_ways 48 = .ok (.iload 4, 2) := by decide +kernel
theorem dX7_ways_50 : decode cX7_ways 50 = .ok (.ireturn, 1) := by decide +kernel
theorem dX7_ways_51 : decode cX7_ways 51 = .ok (.aload_n 0, 1) := by decide +kernel
theorem dX7_ways_52 : decode cX7_ways 52 = .ok (.getfield 10, 3) := by decide +kernel
theorem dX7_ways_55 : decode cX7_ways 55 = .ok (.getfield 29, 3) := by decide +kernel
theorem dX7_ways_58 : decode cX7_ways 58 = .ok (.iload_n 3, 1) := by decide +kernel
theorem dX7_ways_59 : decode cX7_ways 59 = .ok (.invokevirtual 268, 3) := by decide +kernel
theorem dX7_ways_62 : decode cX7_ways 62 = .ok (.istore_n 3, 1) := by decide +kernel
theorem dX7_ways_63 : decode cX7_ways 63 = .ok (.iinc 4 1, 3) := by decide +kernel
theorem dX7_ways_66 : decode cX7_ways 66 = .ok (.goto (-37), 3) := by decide +kernel
theorem dX7_ways_69 : decode cX7_ways 69 = .ok (.iload_n 2, 1) := by decide +kernel
theorem dX7_ways_70 : decode cX7_ways 70 = .ok (.ifCond .ge 10, 3) := by decide +kernel
theorem dX7_ways_73 : decode cX7_ways 73 = .ok (.iload_n 3, 1) := by decide +kernel
theorem dX7_ways_74 : decode cX7_ways 74 = .ok (.invokestatic 271, 3) := by decide +kernel
theorem dX7_ways_77 : decode cX7_ways 77 = .ok (.goto 5, 3) := by decide +kernel
theorem dX7_ways_80 : decode cX7_ways 80 = .ok (.bipush (-2), 2) := by decide +kernel
theorem dX7_ways_82 : decode cX7_ways 82 = .ok (.ireturn, 1) := by decide +kernel
def F_X7_ways_b51 (x1 : Int32) (x2 : Int32) (P : VP) (post : Int32 → Prop) (X29 : Int32 → Int32 → Prop) (v3 : Int32) (v4 : Int32) : Prop :=
  F_X6_reachedByOneCall 0 v3 P (fun r59 => X29 r59 (v4 + 1))
set_option maxRecDepth 4000 in
theorem s_X7_ways_b51 {l : Launch} {g : vG} {x1 : Int32} {x2 : Int32} {P Q : VP} {post : Int32 → Prop} {X29 : Int32 → Int32 → Prop} {v3 : Int32} {v4 : Int32}   (hX29 : ∀ v3_ v4_, X29 v3_ v4_ → VM l g RX7 cX7_ways 5 (some .int) 3 (vpI (vjn P Q) post) 29 [(0, vR 0 0), (2, vI x2), (3, vI v3_), (4, vI v4_)] [] (vjn P Q)) (h : F_X7_ways_b51 x1 x2 P post X29 v3 v4) : VM l g RX7 cX7_ways 5 (some .int) 3 (vpI (vjn P Q) post) 51 [(0, vR 0 0), (2, vI x2), (3, vI v3), (4, vI v4)] [] (vjn P Q) := by
  unfold F_X7_ways_b51 at h
  refine vr_aload_n 0 0 dX7_ways_51 rfl rfl ?_
  refine vg_0_0 RX7 rfl (by decide) fl_7_10 dX7_ways_52 ?_
  refine vg_1_0 RX7 rfl (by decide) fl_7_29 dX7_ways_55 ?_
  refine vr_iload_n 3 2 dX7_ways_58 rfl rfl ?_
  refine vr_callV RX7 (s_X6_reachedByOneCall (by decide) h) rfl (by decide) rfl rfl rfl ml_7_268 rfl yh_X6_reachedByOneCall rfl ⟨Nat.le_of_ble_eq_true rfl, Nat.le_of_ble_eq_true rfl⟩ (Nat.le_of_ble_eq_true rfl) ⟨Nat.zero_le _, Nat.zero_le _⟩ dX7_ways_59 (ki fun r59 h => ?_)
  refine vr_istore_n 3 [(3, vI r59), (0, vR 0 0), (2, vI x2), (4, vI v4)] dX7_ways_62 rfl (by decide) rfl ?_
  refine vr_iinc (v4 + 1) 3 [(4, vI (v4 + 1)), (3, vI r59), (0, vR 0 0), (2, vI x2)] dX7_ways_63 rfl rfl (by decide) rfl ?_
  refine vr_goto 29 dX7_ways_66 (by decide) ?_
  refine vr_sub [2, 3, 1, 0] [(0, vR 0 0), (2, vI x2), (3, vI r59), (4, vI (v4 + 1))] rfl ?_
  exact hX29 _ _ h
def F_X7_ways_l29 (x1 : Int32) (x2 : Int32) (P : VP) (post : Int32 → Prop)   (X : Int32 → Int32 → Prop) (v3 : Int32) (v4 : Int32) : Prop :=
  (v4 < 8 → (x2 < 0 → F_X7_ways_b51 x1 x2 P post X  v3 v4) ∧ (¬ x2 < 0 → (v3 &&& (1 <<< (x2 &&& 31)) = 0 → F_X7_ways_b51 x1 x2 P post X  v3 v4) ∧ (¬ v3 &&& (1 <<< (x2 &&& 31)) = 0 → post v4))) ∧ (¬ v4 < 8 → (x2 < 0 → F_X7_lowestBit v3 P (fun r74 => post r74)) ∧ (¬ x2 < 0 → post (((-2) : Int32))))
set_option maxRecDepth 4000 in
theorem s_X7_ways_l29 {l : Launch} {g : vG} {x1 : Int32} {x2 : Int32} {P Q : VP} {post : Int32 → Prop}    {v3 : Int32} {v4 : Int32}   (h : vL2 (F_X7_ways_l29 x1 x2 P post  ) v3 v4) : VM l g RX7 cX7_ways 5 (some .int) 3 (vpI (vjn P Q) post) 29 [(0, vR 0 0), (2, vI x2), (3, vI v3), (4, vI v4)] [] (vjn P Q) := by
  refine vL2_s (T := fun v3 v4 => VM l g RX7 cX7_ways 5 (some .int) 3 (vpI (vjn P Q) post) 29 [(0, vR 0 0), (2, vI x2), (3, vI v3), (4, vI v4)] [] (vjn P Q)) ?_ h
  clear h
  intro X hX v3 v4 h
  unfold F_X7_ways_l29 at h
  refine vr_iload 3 dX7_ways_29 rfl ?_
  refine vr_bipush 8 dX7_ways_31 (by decide) ?_
  refine vr_icmpge 69 dX7_ways_33 (by decide) (fun c33 => ?_) (fun c33 => ?_)
  · have h := h.1 c33
    refine vr_iload_n 2 1 dX7_ways_36 rfl rfl ?_
    refine vr_iflt 51 dX7_ways_37 (by decide) (fun c37 => ?_) (fun c37 => ?_)
    · have h := h.1 c37
      exact s_X7_ways_b51  hX  h
    · have h := h.2 c37
      refine vr_iload_n 3 2 dX7_ways_40 rfl rfl ?_
      refine vr_iconst 1 dX7_ways_41 (by decide) ?_
      refine vr_iload_n 2 1 dX7_ways_42 rfl rfl ?_
      refine vr_ishl dX7_ways_43 ?_
      refine vr_iand dX7_ways_44 ?_
      refine vr_ifeq 51 dX7_ways_45 (by decide) (fun c45 => ?_) (fun c45 => ?_)
      · have h := h.1 c45
        exact s_X7_ways_b51  hX  h
      · have h := h.2 c45
        refine vr_iload 3 dX7_ways_48 rfl ?_
        exact vr_iret rfl ⟨rfl, _, rfl, h⟩ dX7_ways_50
  · have h := h.2 c33
    refine vr_iload_n 2 1 dX7_ways_69 rfl rfl ?_
    refine vr_ifge 80 dX7_ways_70 (by decide) (fun c70 => ?_) (fun c70 => ?_)
    · have h := h.1 c70
      refine vr_iload_n 3 2 dX7_ways_73 rfl rfl ?_
      refine vr_callS RX7 (s_X7_lowestBit h) rfl rfl ml_7_271 rfl yh_X7_lowestBit rfl ⟨Nat.le_of_ble_eq_true rfl, Nat.le_of_ble_eq_true rfl⟩ (Nat.le_of_ble_eq_true rfl) ⟨Nat.zero_le _, Nat.zero_le _⟩ dX7_ways_74 (ki fun r74 h => ?_)
      refine vr_goto 82 dX7_ways_77 (by decide) ?_
      exact vr_iret rfl ⟨rfl, _, rfl, h⟩ dX7_ways_82
    · have h := h.2 c70
      refine vr_bipush (-2) dX7_ways_80 (by decide) ?_
      exact vr_iret rfl ⟨rfl, _, rfl, h⟩ dX7_ways_82
def F_X7_ways (x1 : Int32) (x2 : Int32) (P : VP) (post : Int32 → Prop) : Prop :=
  F_X7_isBelow x1 ((8 : Int32)) P (fun r3 => (r3 = 0 → post (((-1) : Int32))) ∧ (¬ r3 = 0 → (x2 < (-1) → post (((-1) : Int32))) ∧ (¬ x2 < (-1) → (x2 < 8 → vL2 (F_X7_ways_l29 x1 x2 P post  ) (1 <<< (x1 &&& 31)) ((0 : Int32))) ∧ (¬ x2 < 8 → post (((-1) : Int32))))))
set_option maxRecDepth 4000 in
theorem s_X7_ways {l : Launch} {g : vG} {x1 : Int32} {x2 : Int32} {P Q : VP} {post : Int32 → Prop}  (h : F_X7_ways x1 x2 P post) : VC l g yX7_ways cX7_ways 5 (some .int) 3 [vR 0 0, vI x1, vI x2] (vjn P Q) (vpI (vjn P Q) post) := by
  refine VC.of (by decide +kernel) (Nat.le_of_ble_eq_true rfl) (show VM l g RX7 cX7_ways 5 (some .int) 3 (vpI (vjn P Q) post) 0 [(0, vR 0 0), (1, vI x1), (2, vI x2)] [] (vjn P Q) from ?_)
  unfold F_X7_ways at h
  refine vr_iload_n 1 1 dX7_ways_0 rfl rfl ?_
  refine vr_bipush 8 dX7_ways_1 (by decide) ?_
  refine vr_callS RX7 (s_X7_isBelow h) rfl rfl ml_7_43 rfl yh_X7_isBelow rfl ⟨Nat.le_of_ble_eq_true rfl, Nat.le_of_ble_eq_true rfl⟩ (Nat.le_of_ble_eq_true rfl) ⟨Nat.zero_le _, Nat.zero_le _⟩ dX7_ways_3 (ki fun r3 h => ?_)
  refine vr_ifeq 20 dX7_ways_6 (by decide) (fun c6 => ?_) (fun c6 => ?_)
  · have h := h.1 c6
    refine vr_iconst (-1) dX7_ways_20 (by decide) ?_
    exact vr_iret rfl ⟨rfl, _, rfl, h⟩ dX7_ways_21
  · have h := h.2 c6
    refine vr_iload_n 2 2 dX7_ways_9 rfl rfl ?_
    refine vr_iconst (-1) dX7_ways_10 (by decide) ?_
    refine vr_icmplt 20 dX7_ways_11 (by decide) (fun c11 => ?_) (fun c11 => ?_)
    · have h := h.1 c11
      refine vr_iconst (-1) dX7_ways_20 (by decide) ?_
      exact vr_iret rfl ⟨rfl, _, rfl, h⟩ dX7_ways_21
    · have h := h.2 c11
      refine vr_iload_n 2 2 dX7_ways_14 rfl rfl ?_
      refine vr_bipush 8 dX7_ways_15 (by decide) ?_
      refine vr_icmplt 22 dX7_ways_17 (by decide) (fun c17 => ?_) (fun c17 => ?_)
      · have h := h.1 c17
        refine vr_iconst 1 dX7_ways_22 (by decide) ?_
        refine vr_iload_n 1 1 dX7_ways_23 rfl rfl ?_
        refine vr_ishl dX7_ways_24 ?_
        refine vr_istore_n 3 [(3, vI (1 <<< (x1 &&& 31))), (0, vR 0 0), (1, vI x1), (2, vI x2)] dX7_ways_25 rfl (by decide) rfl ?_
        refine vr_iconst 0 dX7_ways_26 (by decide) ?_
        refine vr_istore [(4, vI 0), (3, vI (1 <<< (x1 &&& 31))), (0, vR 0 0), (1, vI x1), (2, vI x2)] dX7_ways_27 (by decide) rfl ?_
        refine vr_sub [2, 4, 1, 0] [(0, vR 0 0), (2, vI x2), (3, vI (1 <<< (x1 &&& 31))), (4, vI 0)] rfl ?_
        exact s_X7_ways_l29   h
      · have h := h.2 c17
        refine vr_iconst (-1) dX7_ways_20 (by decide) ?_
        exact vr_iret rfl ⟨rfl, _, rfl, h⟩ dX7_ways_21
theorem dX7_stale_0 : decode cX7_stale 0 = .ok (.iconst 0, 1) := by decide +kernel
theorem dX7_stale_1 : decode cX7_stale 1 = .ok (.istore_n 1, 1) := by decide +kernel
theorem dX7_stale_2 : decode cX7_stale 2 = .ok (.iconst 0, 1) := by decide +kernel
theorem dX7_stale_3 : decode cX7_stale 3 = .ok (.istore_n 2, 1) := by decide +kernel
theorem dX7_stale_4 : decode cX7_stale 4 = .ok (.iload_n 2, 1) := by decide +kernel
theorem dX7_stale_5 : decode cX7_stale 5 = .ok (.bipush 16, 2) := by decide +kernel
theorem dX7_stale_7 : decode cX7_stale 7 = .ok (.if_icmp .ge 39, 3) := by decide +kernel
theorem dX7_stale_10 : decode cX7_stale 10 = .ok (.aload_n 0, 1) := by decide +kernel
theorem dX7_stale_11 : decode cX7_stale 11 = .ok (.getfield 10, 3) := by decide +kernel
theorem dX7_stale_14 : decode cX7_stale 14 = .ok (.getfield 29, 3) := by decide +kernel
theorem dX7_stale_17 : decode cX7_stale 17 = .ok (.iload_n 2, 1) := by decide +kernel
theorem dX7_stale_18 : decode cX7_stale 18 = .ok (.invokevirtual 65, 3) := by decide +kernel
theorem dX7_stale_21 : decode cX7_stale 21 = .ok (.astore_n 3, 1) := by decide +kernel
theorem dX7_stale_22 : decode cX7_stale 22 = .ok (.aload_n 3, 1) := by decide +kernel
theorem dX7_stale_23 : decode cX7_stale 23 = .ok (.ifnull 17, 3) := by decide +kernel
theorem dX7_stale_26 : decode cX7_stale 26 = .ok (.iload_n 1, 1) := by decide +kernel
theorem dX7_stale_27 : decode cX7_stale 27 = .ok (.aload_n 0, 1) := by decide +kernel
theorem dX7_stale_28 : decode cX7_stale 28 = .ok (.getfield 10, 3) := by decide +kernel
theorem dX7_stale_31 : decode cX7_stale 31 = .ok (.getfield 29, 3) := by decide +kernel
theorem dX7_stale_34 : decode cX7_stale 34 = .ok (.aload_n 3, 1) := by decide +kernel
theorem dX7_stale_35 : decode cX7_stale 35 = .ok (.invokevirtual 274, 3) := by decide +kernel
theorem dX7_stale_38 : decode cX7_stale 38 = .ok (.iadd, 1) := by decide +kernel
theorem dX7_stale_39 : decode cX7_stale 39 = .ok (.istore_n 1, 1) := by decide +kernel
theorem dX7_stale_40 : decode cX7_stale 40 = .ok (.iinc 2 1, 3) := by decide +kernel
theorem dX7_stale_43 : decode cX7_stale 43 = .ok (.goto (-39), 3) := by decide +kernel
theorem dX7_stale_46 : decode cX7_stale 46 = .ok (.iload_n 1, 1) := by decide +kernel
theorem dX7_stale_47 : decode cX7_stale 47 = .ok (.ireturn, 1) := by decide +kernel
def F_X7_stale_l4  (P : VP) (post : Int32 → Prop)   (X : Int32 → Int32 → Prop) (v1 : Int32) (v2 : Int32) : Prop :=
  (v2 < 16 → (F_X6_find 0 v2 P (fun r18 => match r18 with | none => (X v1 (v2 + 1)) | some yr18 => (F_X6_staleIn 0 yr18 P (fun r35 => X (v1 + r35) (v2 + 1)))))) ∧ (¬ v2 < 16 → post v1)
set_option maxRecDepth 4000 in
theorem s_X7_stale_l4 {l : Launch} {g : vG}  {P Q : VP} {post : Int32 → Prop}    {v1 : Int32} {v2 : Int32}   (h : vL2 (F_X7_stale_l4  P post  ) v1 v2) : VM l g RX7 cX7_stale 4 (some .int) 3 (vpI (vjn P Q) post) 4 [(0, vR 0 0), (1, vI v1), (2, vI v2)] [] (vjn P Q) := by
  refine vL2_s (T := fun v1 v2 => VM l g RX7 cX7_stale 4 (some .int) 3 (vpI (vjn P Q) post) 4 [(0, vR 0 0), (1, vI v1), (2, vI v2)] [] (vjn P Q)) ?_ h
  clear h
  intro X hX v1 v2 h
  unfold F_X7_stale_l4 at h
  refine vr_iload_n 2 2 dX7_stale_4 rfl rfl ?_
  refine vr_bipush 16 dX7_stale_5 (by decide) ?_
  refine vr_icmpge 46 dX7_stale_7 (by decide) (fun c7 => ?_) (fun c7 => ?_)
  · have h := h.1 c7
    refine vr_aload_n 0 0 dX7_stale_10 rfl rfl ?_
    refine vg_0_0 RX7 rfl (by decide) fl_7_10 dX7_stale_11 ?_
    refine vg_1_0 RX7 rfl (by decide) fl_7_29 dX7_stale_14 ?_
    refine vr_iload_n 2 2 dX7_stale_17 rfl rfl ?_
    refine vr_callV RX7 (s_X6_find (by decide) h) rfl (by decide) rfl rfl rfl ml_7_65 rfl yh_X6_find rfl ⟨Nat.le_of_ble_eq_true rfl, Nat.le_of_ble_eq_true rfl⟩ (Nat.le_of_ble_eq_true rfl) ⟨Nat.zero_le _, Nat.zero_le _⟩ dX7_stale_18 (ko fun r18 hvr18 h => ?_)
    refine vr_astore_n 3 [(3, vO 7 r18), (0, vR 0 0), (1, vI v1), (2, vI v2)] dX7_stale_21 rfl (by decide) rfl ?_
    refine vr_aload_n 3 0 dX7_stale_22 rfl rfl ?_
    rcases r18 with _ | yr18
    · refine vr_ifnullN 40 dX7_stale_23 (by decide) ?_
      refine vr_iinc (v2 + 1) 3 [(2, vI (v2 + 1)), (3, vN), (0, vR 0 0), (1, vI v1)] dX7_stale_40 rfl rfl (by decide) rfl ?_
      refine vr_goto 4 dX7_stale_43 (by decide) ?_
      refine vr_sub [2, 3, 0] [(0, vR 0 0), (1, vI v1), (2, vI (v2 + 1))] rfl ?_
      exact hX _ _ h
    · refine vr_ifnullR dX7_stale_23 ?_
      refine vr_iload_n 1 2 dX7_stale_26 rfl rfl ?_
      refine vr_aload_n 0 1 dX7_stale_27 rfl rfl ?_
      refine vg_0_0 RX7 rfl (by decide) fl_7_10 dX7_stale_28 ?_
      refine vg_1_0 RX7 rfl (by decide) fl_7_29 dX7_stale_31 ?_
      refine vr_aload_n 3 0 dX7_stale_34 rfl rfl ?_
      refine vr_callV RX7 (s_X6_staleIn (by decide) (hvr18 _ rfl) h) rfl (by decide) rfl rfl rfl ml_7_274 rfl yh_X6_staleIn rfl ⟨Nat.le_of_ble_eq_true rfl, Nat.le_of_ble_eq_true rfl⟩ (Nat.le_of_ble_eq_true rfl) ⟨Nat.zero_le _, Nat.zero_le _⟩ dX7_stale_35 (ki fun r35 h => ?_)
      refine vr_iadd dX7_stale_38 ?_
      refine vr_istore_n 1 [(1, vI (v1 + r35)), (3, vR 7 yr18), (0, vR 0 0), (2, vI v2)] dX7_stale_39 rfl (by decide) rfl ?_
      refine vr_iinc (v2 + 1) 3 [(2, vI (v2 + 1)), (1, vI (v1 + r35)), (3, vR 7 yr18), (0, vR 0 0)] dX7_stale_40 rfl rfl (by decide) rfl ?_
      refine vr_goto 4 dX7_stale_43 (by decide) ?_
      refine vr_sub [3, 1, 0] [(0, vR 0 0), (1, vI (v1 + r35)), (2, vI (v2 + 1))] rfl ?_
      exact hX _ _ h
  · have h := h.2 c7
    refine vr_iload_n 1 1 dX7_stale_46 rfl rfl ?_
    exact vr_iret rfl ⟨rfl, _, rfl, h⟩ dX7_stale_47
def F_X7_stale  (P : VP) (post : Int32 → Prop) : Prop :=
  vL2 (F_X7_stale_l4  P post  ) ((0 : Int32)) ((0 : Int32))
set_option maxRecDepth 4000 in
theorem s_X7_stale {l : Launch} {g : vG}  {P Q : VP} {post : Int32 → Prop}  (h : F_X7_stale  P post) : VC l g yX7_stale cX7_stale 4 (some .int) 3 [vR 0 0] (vjn P Q) (vpI (vjn P Q) post) := by
  refine VC.of (by decide +kernel) (Nat.le_of_ble_eq_true rfl) (show VM l g RX7 cX7_stale 4 (some .int) 3 (vpI (vjn P Q) post) 0 [(0, vR 0 0)] [] (vjn P Q) from ?_)
  unfold F_X7_stale at h
  refine vr_iconst 0 dX7_stale_0 (by decide) ?_
  refine vr_istore_n 1 [(1, vI 0), (0, vR 0 0)] dX7_stale_1 rfl (by decide) rfl ?_
  refine vr_iconst 0 dX7_stale_2 (by decide) ?_
  refine vr_istore_n 2 [(2, vI 0), (1, vI 0), (0, vR 0 0)] dX7_stale_3 rfl (by decide) rfl ?_
  refine vr_sub [2, 1, 0] [(0, vR 0 0), (1, vI 0), (2, vI 0)] rfl ?_
  exact s_X7_stale_l4   h
theorem dX7_isGranted_0 : decode cX7_isGranted 0 = .ok (.iload_n 2, 1) := by decide +kernel
theorem dX7_isGranted_1 : decode cX7_isGranted 1 = .ok (.lookupswitch 39 #[(0, 27), (1, 33)], 27) := by decide +kernel
theorem dX7_isGranted_28 : decode cX7_isGranted 28 = .ok (.aload_n 0, 1) := by decide +kernel
theorem dX7_isGranted_29 : decode cX7_isGranted 29 = .ok (.iload_n 1, 1) := by decide +kernel
theorem dX7_isGranted_30 : decode cX7_isGranted 30 = .ok (.invokevirtual 259, 3) := by decide +kernel
theorem dX7_isGranted_33 : decode cX7_isGranted 33 = .ok (.ireturn, 1) := by decide +kernel
theorem dX7_isGranted_34 : decode cX7_isGranted 34 = .ok (.aload_n 0, 1) := by decide +kernel
theorem dX7_isGranted_35 : decode cX7_isGranted 35 = .ok (.iload_n 1, 1) := by decide +kernel
theorem dX7_isGranted_36 : decode cX7_isGranted 36 = .ok (.invokevirtual 262, 3) := by decide +kernel
theorem dX7_isGranted_39 : decode cX7_isGranted 39 = .ok (.ireturn, 1) := by decide +kernel
theorem dX7_isGranted_40 : decode cX7_isGranted 40 = .ok (.aload_n 0, 1) := by decide +kernel
theorem dX7_isGranted_41 : decode cX7_isGranted 41 = .ok (.iload_n 1, 1) := by decide +kernel
theorem dX7_isGranted_42 : decode cX7_isGranted 42 = .ok (.invokevirtual 265, 3) := by decide +kernel
theorem dX7_isGranted_45 : decode cX7_isGranted 45 = .ok (.ireturn, 1) := by decide +kernel
def F_X7_isGranted (y0 : Nat) (x1 : Int32) (x2 : Int32) (P : VP) (post : Int32 → Prop) : Prop :=
  (x2 = 0 → F_X3_letsRead y0 x1 P (fun r30 => (r30 = 0 ∨ r30 = 1) ∧ (post r30))) ∧ (¬ x2 = 0 → (x2 = 1 → F_X3_letsWrite y0 x1 P (fun r36 => (r36 = 0 ∨ r36 = 1) ∧ (post r36))) ∧ (¬ x2 = 1 → F_X3_letsGo y0 x1 P (fun r42 => (r42 = 0 ∨ r42 = 1) ∧ (post r42))))
set_option maxRecDepth 4000 in
theorem s_X7_isGranted {l : Launch} {g : vG} {y0 : Nat} {x1 : Int32} {x2 : Int32} {P Q : VP} {post : Int32 → Prop} (hy0 : y0 < vcnt 7) (h : F_X7_isGranted y0 x1 x2 P post) : VC l g yX7_isGranted cX7_isGranted 3 (some .boolean) 1 [vR 7 y0, vI x1, vI x2] (vjn P Q) (vpI (vjn P Q) post) := by
  refine VC.of (by decide +kernel) (Nat.le_of_ble_eq_true rfl) (show VM l g RX7 cX7_isGranted 3 (some .boolean) 1 (vpI (vjn P Q) post) 0 [(0, vR 7 y0), (1, vI x1), (2, vI x2)] [] (vjn P Q) from ?_)
  unfold F_X7_isGranted at h
  refine vr_iload_n 2 2 dX7_isGranted_0 rfl rfl ?_
  by_cases c1_0 : x2 = 0
  · have h := h.1 c1_0
    refine vr_lsw (off := 27) 28 dX7_isGranted_1 (by decide) (by rw [c1_0]; decide) (by decide) ?_
    refine vr_aload_n 0 0 dX7_isGranted_28 rfl rfl ?_
    refine vr_iload_n 1 1 dX7_isGranted_29 rfl rfl ?_
    refine vr_callV RX7 (s_X3_letsRead hy0 h) rfl hy0 rfl rfl rfl ml_7_259 rfl yh_X3_letsRead rfl ⟨Nat.le_of_ble_eq_true rfl, Nat.le_of_ble_eq_true rfl⟩ (Nat.le_of_ble_eq_true rfl) ⟨Nat.zero_le _, Nat.zero_le _⟩ dX7_isGranted_30 (ki fun r30 h => ?_)
    have hb := h.1
    have h := h.2
    exact vr_zret rfl hb ⟨rfl, _, rfl, h⟩ dX7_isGranted_33
  · have h := h.2 c1_0
    by_cases c1_1 : x2 = 1
    · have h := h.1 c1_1
      refine vr_lsw (off := 33) 34 dX7_isGranted_1 (by decide) (by rw [c1_1]; decide) (by decide) ?_
      refine vr_aload_n 0 0 dX7_isGranted_34 rfl rfl ?_
      refine vr_iload_n 1 1 dX7_isGranted_35 rfl rfl ?_
      refine vr_callV RX7 (s_X3_letsWrite hy0 h) rfl hy0 rfl rfl rfl ml_7_262 rfl yh_X3_letsWrite rfl ⟨Nat.le_of_ble_eq_true rfl, Nat.le_of_ble_eq_true rfl⟩ (Nat.le_of_ble_eq_true rfl) ⟨Nat.zero_le _, Nat.zero_le _⟩ dX7_isGranted_36 (ki fun r36 h => ?_)
      have hb := h.1
      have h := h.2
      exact vr_zret rfl hb ⟨rfl, _, rfl, h⟩ dX7_isGranted_39
    · have h := h.2 c1_1
      refine vr_lsw (off := 39) 40 dX7_isGranted_1 (by decide) (by rw [lv_osw c1_0 (by decide), lv_osw c1_1 (by decide)]; rfl) (by decide) ?_
      refine vr_aload_n 0 0 dX7_isGranted_40 rfl rfl ?_
      refine vr_iload_n 1 1 dX7_isGranted_41 rfl rfl ?_
      refine vr_callV RX7 (s_X3_letsGo hy0 h) rfl hy0 rfl rfl rfl ml_7_265 rfl yh_X3_letsGo rfl ⟨Nat.le_of_ble_eq_true rfl, Nat.le_of_ble_eq_true rfl⟩ (Nat.le_of_ble_eq_true rfl) ⟨Nat.zero_le _, Nat.zero_le _⟩ dX7_isGranted_42 (ki fun r42 h => ?_)
      have hb := h.1
      have h := h.2
      exact vr_zret rfl hb ⟨rfl, _, rfl, h⟩ dX7_isGranted_45
theorem dX7_drawn_0 : decode cX7_drawn 0 = .ok (.iload_n 2, 1) := by decide +kernel
theorem dX7_drawn_1 : decode cX7_drawn 1 = .ok (.iconst 1, 1) := by decide +kernel
theorem dX7_drawn_2 : decode cX7_drawn 2 = .ok (.if_icmp .lt 10, 3) := by decide +kernel
theorem dX7_drawn_5 : decode cX7_drawn 5 = .ok (.iload_n 2, 1) := by decide +kernel
theorem dX7_drawn_6 : decode cX7_drawn 6 = .ok (.sipush 200, 3) := by decide +kernel
theorem dX7_drawn_9 : decode cX7_drawn 9 = .ok (.if_icmp .le 5, 3) := by decide +kernel
theorem dX7_drawn_12 : decode cX7_drawn 12 = .ok (.iconst (-1), 1) := by decide +kernel
theorem dX7_drawn_13 : decode cX7_drawn 13 = .ok (.ireturn, 1) := by decide +kernel
theorem dX7_drawn_14 : decode cX7_drawn 14 = .ok (.iconst 0, 1) := by decide +kernel
theorem dX7_drawn_15 : decode cX7_drawn 15 = .ok (.istore_n 3, 1) := by decide +kernel
theorem dX7_drawn_16 : decode cX7_drawn 16 = .ok (.iload_n 1, 1) := by decide +kernel
theorem dX7_drawn_17 : decode cX7_drawn 17 = .ok (.istore 4, 2) := by decide +kernel
theorem dX7_drawn_19 : decode cX7_drawn 19 = .ok (.iconst 0, 1) := by decide +kernel
theorem dX7_drawn_20 : decode cX7_drawn 20 = .ok (.istore 5, 2) := by decide +kernel
theorem dX7_drawn_22 : decode cX7_drawn 22 = .ok (.iload 5, 2) := by decide +kernel
theorem dX7_drawn_24 : decode cX7_drawn 24 = .ok (.iload_n 2, 1) := by decide +kernel
theorem dX7_drawn_25 : decode cX7_drawn 25 = .ok (.if_icmp .ge 72, 3) := by decide +kernel
theorem dX7_drawn_28 : decode cX7_drawn 28 = .ok (.iload 4, 2) := by decide +kernel
theorem dX7_drawn_30 : decode cX7_drawn 30 = .ok (.ldc_w 278, 3) := by decide +kernel
theorem dX7_drawn_33 : decode cX7_drawn 33 = .ok (.imul, 1) := by decide +kernel
theorem dX7_drawn_34 : decode cX7_drawn 34 = .ok (.sipush 12345, 3) := by decide +kernel
theorem dX7_drawn_37 : decode cX7_drawn 37 = .ok (.iadd, 1) := by decide +kernel
theorem dX7_drawn_38 : decode cX7_drawn 38 = .ok (.istore 4, 2) := by decide +kernel
theorem dX7_drawn_40 : decode cX7_drawn 40 = .ok (.aload_n 0, 1) := by decide +kernel
theorem dX7_drawn_41 : decode cX7_drawn 41 = .ok (.getfield 10, 3) := by decide +kernel
theorem dX7_drawn_44 : decode cX7_drawn 44 = .ok (.getfield 29, 3) := by decide +kernel
theorem dX7_drawn_47 : decode cX7_drawn 47 = .ok (.iload 4, 2) := by decide +kernel
theorem dX7_drawn_49 : decode cX7_drawn 49 = .ok (.bipush 11, 2) := by decide +kernel
theorem dX7_drawn_51 : decode cX7_drawn 51 = .ok (.iushr, 1) := by decide +kernel
theorem dX7_drawn_52 : decode cX7_drawn 52 = .ok (.bipush 15, 2) := by decide +kernel
theorem dX7_drawn_54 : decode cX7_drawn 54 = .ok (.iand, 1) := by decide +kernel
theorem dX7_drawn_55 : decode cX7_drawn 55 = .ok (.invokevirtual 65, 3) := by decide +kernel
theorem dX7_drawn_58 : decode cX7_drawn 58 = .ok (.astore 6, 2) := by decide +kernel
theorem dX7_drawn_60 : decode cX7_drawn 60 = .ok (.aload 6, 2) := by decide +kernel
theorem dX7_drawn_62 : decode cX7_drawn 62 = .ok (.ifnull 29, 3) := by decide +kernel
theorem dX7_drawn_65 : decode cX7_drawn 65 = .ok (.aload 6, 2) := by decide +kernel
theorem dX7_drawn_67 : decode cX7_drawn 67 = .ok (.iload 4, 2) := by decide +kernel
theorem dX7_drawn_69 : decode cX7_drawn 69 = .ok (.bipush 8, 2) := by decide +kernel
theorem dX7_drawn_71 : decode cX7_drawn 71 = .ok (.iushr, 1) := by decide +kernel
theorem dX7_drawn_72 : decode cX7_drawn 72 = .ok (.bipush 7, 2) := by decide +kernel
theorem dX7_drawn_74 : decode cX7_drawn 74 = .ok (.iand, 1) := by decide +kernel
theorem dX7_drawn_75 : decode cX7_drawn 75 = .ok (.iload 4, 2) := by decide +kernel
theorem dX7_drawn_77 : decode cX7_drawn 77 = .ok (.bipush 16, 2) := by decide +kernel
theorem dX7_drawn_79 : decode cX7_drawn 79 = .ok (.iushr, 1) := by decide +kernel
theorem dX7_drawn_80 : decode cX7_drawn 80 = .ok (.iconst 3, 1) := by decide +kernel
theorem dX7_drawn_81 : decode cX7_drawn 81 = .ok (.irem, 1) := by decide +kernel
theorem dX7_drawn_82 : decode cX7_drawn 82 = .ok (.invokestatic 279, 3) := by decide +kernel
theorem dX7_drawn_85 : decode cX7_drawn 85 = .ok (.ifCond .eq 6, 3) := by decide +kernel
theorem dX7_drawn_88 : decode cX7_drawn 88 = .ok (.iinc 3 1, 3) := by decide +kernel
theorem dX7_drawn_91 : decode cX7_drawn 91 = .ok (.iinc 5 1, 3) := by decide +kernel
theorem dX7_drawn_94 : decode cX7_drawn 94 = .ok (.goto (-72), 3) := by decide +kernel
theorem dX7_drawn_97 : decode cX7_drawn 97 = .ok (.iload_n 3, 1) := by decide +kernel
theorem dX7_drawn_98 : decode cX7_drawn 98 = .ok (.ireturn, 1) := by decide +kernel
def F_X7_drawn_l22 (x1 : Int32) (x2 : Int32) (P : VP) (post : Int32 → Prop)   (X : Int32 → Int32 → Int32 → Prop) (v3 : Int32) (v4 : Int32) (v5 : Int32) : Prop :=
  (v5 < x2 → (F_X6_find 0 ((vush ((v4 * 1103515245) + 12345) 11) &&& 15) P (fun r55 => match r55 with | none => (X v3 ((v4 * 1103515245) + 12345) (v5 + 1)) | some yr55 => (F_X7_isGranted yr55 ((vush ((v4 * 1103515245) + 12345) 8) &&& 7) ((vush ((v4 * 1103515245) + 12345) 16) - (vush ((v4 * 1103515245) + 12345) 16) / 3 * 3) P (fun r82 => (r82 = 0 → X v3 ((v4 * 1103515245) + 12345) (v5 + 1)) ∧ (¬ r82 = 0 → X (v3 + 1) ((v4 * 1103515245) + 12345) (v5 + 1))))))) ∧ (¬ v5 < x2 → post v3)
set_option maxRecDepth 4000 in
theorem s_X7_drawn_l22 {l : Launch} {g : vG} {x1 : Int32} {x2 : Int32} {P Q : VP} {post : Int32 → Prop}    {v3 : Int32} {v4 : Int32} {v5 : Int32}   (h : vL3 (F_X7_drawn_l22 x1 x2 P post  ) v3 v4 v5) : VM l g RX7 cX7_drawn 7 (some .int) 2 (vpI (vjn P Q) post) 22 [(0, vR 0 0), (2, vI x2), (3, vI v3), (4, vI v4), (5, vI v5)] [] (vjn P Q) := by
  refine vL3_s (T := fun v3 v4 v5 => VM l g RX7 cX7_drawn 7 (some .int) 2 (vpI (vjn P Q) post) 22 [(0, vR 0 0), (2, vI x2), (3, vI v3), (4, vI v4), (5, vI v5)] [] (vjn P Q)) ?_ h
  clear h
  intro X hX v3 v4 v5 h
  unfold F_X7_drawn_l22 at h
  refine vr_iload 4 dX7_drawn_22 rfl ?_
  refine vr_iload_n 2 1 dX7_drawn_24 rfl rfl ?_
  refine vr_icmpge 97 dX7_drawn_25 (by decide) (fun c25 => ?_) (fun c25 => ?_)
  · have h := h.1 c25
    refine vr_iload 3 dX7_drawn_28 rfl ?_
    refine vr_ldcw 1103515245 ct_7_278 dX7_drawn_30 ?_
    refine vr_imul dX7_drawn_33 ?_
    refine vr_sipush 12345 dX7_drawn_34 (by decide) ?_
    refine vr_iadd dX7_drawn_37 ?_
    refine vr_istore [(4, vI ((v4 * 1103515245) + 12345)), (0, vR 0 0), (2, vI x2), (3, vI v3), (5, vI v5)] dX7_drawn_38 (by decide) rfl ?_
    refine vr_aload_n 0 1 dX7_drawn_40 rfl rfl ?_
    refine vg_0_0 RX7 rfl (by decide) fl_7_10 dX7_drawn_41 ?_
    refine vg_1_0 RX7 rfl (by decide) fl_7_29 dX7_drawn_44 ?_
    refine vr_iload 0 dX7_drawn_47 rfl ?_
    refine vr_bipush 11 dX7_drawn_49 (by decide) ?_
    refine vr_iushr dX7_drawn_51 ?_
    refine vr_bipush 15 dX7_drawn_52 (by decide) ?_
    refine vr_iand dX7_drawn_54 ?_
    refine vr_callV RX7 (s_X6_find (by decide) h) rfl (by decide) rfl rfl rfl ml_7_65 rfl yh_X6_find rfl ⟨Nat.le_of_ble_eq_true rfl, Nat.le_of_ble_eq_true rfl⟩ (Nat.le_of_ble_eq_true rfl) ⟨Nat.zero_le _, Nat.zero_le _⟩ dX7_drawn_55 (ko fun r55 hvr55 h => ?_)
    refine vr_astore [(6, vO 7 r55), (4, vI ((v4 * 1103515245) + 12345)), (0, vR 0 0), (2, vI x2), (3, vI v3), (5, vI v5)] dX7_drawn_58 (by decide) rfl ?_
    refine vr_aload 0 dX7_drawn_60 rfl ?_
    rcases r55 with _ | yr55
    · refine vr_ifnullN 91 dX7_drawn_62 (by decide) ?_
      refine vr_iinc (v5 + 1) 5 [(5, vI (v5 + 1)), (6, vN), (4, vI ((v4 * 1103515245) + 12345)), (0, vR 0 0), (2, vI x2), (3, vI v3)] dX7_drawn_91 rfl rfl (by decide) rfl ?_
      refine vr_goto 22 dX7_drawn_94 (by decide) ?_
      refine vr_sub [3, 4, 5, 2, 0] [(0, vR 0 0), (2, vI x2), (3, vI v3), (4, vI ((v4 * 1103515245) + 12345)), (5, vI (v5 + 1))] rfl ?_
      exact hX _ _ _ h
    · refine vr_ifnullR dX7_drawn_62 ?_
      refine vr_aload 0 dX7_drawn_65 rfl ?_
      refine vr_iload 1 dX7_drawn_67 rfl ?_
      refine vr_bipush 8 dX7_drawn_69 (by decide) ?_
      refine vr_iushr dX7_drawn_71 ?_
      refine vr_bipush 7 dX7_drawn_72 (by decide) ?_
      refine vr_iand dX7_drawn_74 ?_
      refine vr_iload 1 dX7_drawn_75 rfl ?_
      refine vr_bipush 16 dX7_drawn_77 (by decide) ?_
      refine vr_iushr dX7_drawn_79 ?_
      refine vr_iconst 3 dX7_drawn_80 (by decide) ?_
      refine vr_irem dX7_drawn_81 (by decide) ?_
      refine vr_callS RX7 (s_X7_isGranted (hvr55 _ rfl) h) rfl rfl ml_7_279 rfl yh_X7_isGranted rfl ⟨Nat.le_of_ble_eq_true rfl, Nat.le_of_ble_eq_true rfl⟩ (Nat.le_of_ble_eq_true rfl) ⟨Nat.zero_le _, Nat.zero_le _⟩ dX7_drawn_82 (ki fun r82 h => ?_)
      refine vr_ifeq 91 dX7_drawn_85 (by decide) (fun c85 => ?_) (fun c85 => ?_)
      · have h := h.1 c85
        refine vr_iinc (v5 + 1) 5 [(5, vI (v5 + 1)), (6, vR 7 yr55), (4, vI ((v4 * 1103515245) + 12345)), (0, vR 0 0), (2, vI x2), (3, vI v3)] dX7_drawn_91 rfl rfl (by decide) rfl ?_
        refine vr_goto 22 dX7_drawn_94 (by decide) ?_
        refine vr_sub [3, 4, 5, 2, 0] [(0, vR 0 0), (2, vI x2), (3, vI v3), (4, vI ((v4 * 1103515245) + 12345)), (5, vI (v5 + 1))] rfl ?_
        exact hX _ _ _ h
      · have h := h.2 c85
        refine vr_iinc (v3 + 1) 4 [(3, vI (v3 + 1)), (6, vR 7 yr55), (4, vI ((v4 * 1103515245) + 12345)), (0, vR 0 0), (2, vI x2), (5, vI v5)] dX7_drawn_88 rfl rfl (by decide) rfl ?_
        refine vr_iinc (v5 + 1) 5 [(5, vI (v5 + 1)), (3, vI (v3 + 1)), (6, vR 7 yr55), (4, vI ((v4 * 1103515245) + 12345)), (0, vR 0 0), (2, vI x2)] dX7_drawn_91 rfl rfl (by decide) rfl ?_
        refine vr_goto 22 dX7_drawn_94 (by decide) ?_
        refine vr_sub [4, 5, 1, 3, 0] [(0, vR 0 0), (2, vI x2), (3, vI (v3 + 1)), (4, vI ((v4 * 1103515245) + 12345)), (5, vI (v5 + 1))] rfl ?_
        exact hX _ _ _ h
  · have h := h.2 c25
    refine vr_iload_n 3 2 dX7_drawn_97 rfl rfl ?_
    exact vr_iret rfl ⟨rfl, _, rfl, h⟩ dX7_drawn_98
def F_X7_drawn (x1 : Int32) (x2 : Int32) (P : VP) (post : Int32 → Prop) : Prop :=
  (x2 < 1 → post (((-1) : Int32))) ∧ (¬ x2 < 1 → ((200 : Int32) < x2 → post (((-1) : Int32))) ∧ (¬ (200 : Int32) < x2 → vL3 (F_X7_drawn_l22 x1 x2 P post  ) ((0 : Int32)) x1 ((0 : Int32))))
set_option maxRecDepth 4000 in
theorem s_X7_drawn {l : Launch} {g : vG} {x1 : Int32} {x2 : Int32} {P Q : VP} {post : Int32 → Prop}  (h : F_X7_drawn x1 x2 P post) : VC l g yX7_drawn cX7_drawn 7 (some .int) 2 [vR 0 0, vI x1, vI x2] (vjn P Q) (vpI (vjn P Q) post) := by
  refine VC.of (by decide +kernel) (Nat.le_of_ble_eq_true rfl) (show VM l g RX7 cX7_drawn 7 (some .int) 2 (vpI (vjn P Q) post) 0 [(0, vR 0 0), (1, vI x1), (2, vI x2)] [] (vjn P Q) from ?_)
  unfold F_X7_drawn at h
  refine vr_iload_n 2 2 dX7_drawn_0 rfl rfl ?_
  refine vr_iconst 1 dX7_drawn_1 (by decide) ?_
  refine vr_icmplt 12 dX7_drawn_2 (by decide) (fun c2 => ?_) (fun c2 => ?_)
  · have h := h.1 c2
    refine vr_iconst (-1) dX7_drawn_12 (by decide) ?_
    exact vr_iret rfl ⟨rfl, _, rfl, h⟩ dX7_drawn_13
  · have h := h.2 c2
    refine vr_iload_n 2 2 dX7_drawn_5 rfl rfl ?_
    refine vr_sipush 200 dX7_drawn_6 (by decide) ?_
    refine vr_icmple 14 dX7_drawn_9 (by decide) (fun c9 => ?_) (fun c9 => ?_)
    · have h := h.1 c9
      refine vr_iconst (-1) dX7_drawn_12 (by decide) ?_
      exact vr_iret rfl ⟨rfl, _, rfl, h⟩ dX7_drawn_13
    · have h := h.2 c9
      refine vr_iconst 0 dX7_drawn_14 (by decide) ?_
      refine vr_istore_n 3 [(3, vI 0), (0, vR 0 0), (1, vI x1), (2, vI x2)] dX7_drawn_15 rfl (by decide) rfl ?_
      refine vr_iload_n 1 2 dX7_drawn_16 rfl rfl ?_
      refine vr_istore [(4, vI x1), (3, vI 0), (0, vR 0 0), (1, vI x1), (2, vI x2)] dX7_drawn_17 (by decide) rfl ?_
      refine vr_iconst 0 dX7_drawn_19 (by decide) ?_
      refine vr_istore [(5, vI 0), (4, vI x1), (3, vI 0), (0, vR 0 0), (1, vI x1), (2, vI x2)] dX7_drawn_20 (by decide) rfl ?_
      refine vr_sub [3, 5, 2, 1, 0] [(0, vR 0 0), (2, vI x2), (3, vI 0), (4, vI x1), (5, vI 0)] rfl ?_
      exact s_X7_drawn_l22   h
theorem dX7_image_0 : decode cX7_image 0 = .ok (.aload_n 0, 1) := by decide +kernel
theorem dX7_image_1 : decode cX7_image 1 = .ok (.getfield 16, 3) := by decide +kernel
theorem dX7_image_4 : decode cX7_image 4 = .ok (.aload_n 0, 1) := by decide +kernel
theorem dX7_image_5 : decode cX7_image 5 = .ok (.getfield 10, 3) := by decide +kernel
theorem dX7_image_8 : decode cX7_image 8 = .ok (.invokevirtual 235, 3) := by decide +kernel
theorem dX7_image_11 : decode cX7_image 11 = .ok (.aload_n 0, 1) := by decide +kernel
theorem dX7_image_12 : decode cX7_image 12 = .ok (.iconst 1, 1) := by decide +kernel
theorem dX7_image_13 : decode cX7_image 13 = .ok (.putfield 283, 3) := by decide +kernel
theorem dX7_image_16 : decode cX7_image 16 = .ok (.aload_n 0, 1) := by decide +kernel
theorem dX7_image_17 : decode cX7_image 17 = .ok (.getfield 10, 3) := by decide +kernel
theorem dX7_image_20 : decode cX7_image 20 = .ok (.getfield 29, 3) := by decide +kernel
theorem dX7_image_23 : decode cX7_image 23 = .ok (.invokevirtual 286, 3) := by decide +kernel
theorem dX7_image_26 : decode cX7_image 26 = .ok (.ireturn, 1) := by decide +kernel
def F_X7_image  (P : VP) (post : Int32 → VP → Prop) : Prop :=
  F_X2_copyFrom 1 0 P (fun P8 => ∀ P13 : VP, P13 = vup P8 0 0 4 1 → (F_X6_segmentsThere 0 P13 (fun r23 => post r23 P13)))
set_option maxRecDepth 4000 in
theorem s_X7_image {l : Launch} {g : vG}  {P Q : VP} {post : Int32 → VP → Prop}  (h : F_X7_image  P post) : VC l g yX7_image cX7_image 1 (some .int) 6 [vR 0 0] (vjn P Q) (vcI Q post) := by
  refine VC.of (by decide +kernel) (Nat.le_of_ble_eq_true rfl) (show VM l g RX7 cX7_image 1 (some .int) 6 (vcI Q post) 0 [(0, vR 0 0)] [] (vjn P Q) from ?_)
  unfold F_X7_image at h
  refine vr_aload_n 0 0 dX7_image_0 rfl rfl ?_
  refine vg_0_1 RX7 rfl (by decide) fl_7_16 dX7_image_1 ?_
  refine vr_aload_n 0 0 dX7_image_4 rfl rfl ?_
  refine vg_0_0 RX7 rfl (by decide) fl_7_10 dX7_image_5 ?_
  refine vr_callV RX7 (s_X2_copyFrom (by decide) (by decide) h) rfl (by decide) rfl rfl rfl ml_7_235 rfl yh_X2_copyFrom rfl ⟨Nat.le_of_ble_eq_true rfl, Nat.le_of_ble_eq_true rfl⟩ (Nat.le_of_ble_eq_true rfl) ⟨Nat.zero_le _, Nat.zero_le _⟩ dX7_image_8 (kcv fun P8 h => ?_)
  refine vr_aload_n 0 0 dX7_image_11 rfl rfl ?_
  refine vr_iconst 1 dX7_image_12 (by decide) ?_
  obtain ⟨P13, eP13⟩ : ∃ y : VP, y = vup P8 0 0 4 1 := ⟨_, rfl⟩
  have h := h P13 eP13
  refine vp_0_4 RX7 rfl (by decide) fl_7_283 (Or.inr rfl) eP13 dX7_image_13 ?_
  refine vr_aload_n 0 0 dX7_image_16 rfl rfl ?_
  refine vg_0_0 RX7 rfl (by decide) fl_7_10 dX7_image_17 ?_
  refine vg_1_0 RX7 rfl (by decide) fl_7_29 dX7_image_20 ?_
  refine vr_callV RX7 (s_X6_segmentsThere (by decide) h) rfl (by decide) rfl rfl rfl ml_7_286 rfl yh_X6_segmentsThere rfl ⟨Nat.le_of_ble_eq_true rfl, Nat.le_of_ble_eq_true rfl⟩ (Nat.le_of_ble_eq_true rfl) ⟨Nat.zero_le _, Nat.zero_le _⟩ dX7_image_23 (ki fun r23 h => ?_)
  exact vr_iret rfl ⟨_, _, rfl, rfl, h⟩ dX7_image_26
theorem dX7_back_0 : decode cX7_back 0 = .ok (.aload_n 0, 1) := by decide +kernel
theorem dX7_back_1 : decode cX7_back 1 = .ok (.getfield 283, 3) := by decide +kernel
theorem dX7_back_4 : decode cX7_back 4 = .ok (.ifCond .ne 6, 3) := by decide +kernel
theorem dX7_back_7 : decode cX7_back 7 = .ok (.bipush (-5), 2) := by decide +kernel
theorem dX7_back_9 : decode cX7_back 9 = .ok (.ireturn, 1) := by decide +kernel
theorem dX7_back_10 : decode cX7_back 10 = .ok (.aload_n 0, 1) := by decide +kernel
theorem dX7_back_11 : decode cX7_back 11 = .ok (.getfield 10, 3) := by decide +kernel
theorem dX7_back_14 : decode cX7_back 14 = .ok (.aload_n 0, 1) := by decide +kernel
theorem dX7_back_15 : decode cX7_back 15 = .ok (.getfield 16, 3) := by decide +kernel
theorem dX7_back_18 : decode cX7_back 18 = .ok (.invokevirtual 235, 3) := by decide +kernel
theorem dX7_back_21 : decode cX7_back 21 = .ok (.aload_n 0, 1) := by decide +kernel
theorem dX7_back_22 : decode cX7_back 22 = .ok (.getfield 10, 3) := by decide +kernel
theorem dX7_back_25 : decode cX7_back 25 = .ok (.getfield 29, 3) := by decide +kernel
theorem dX7_back_28 : decode cX7_back 28 = .ok (.invokevirtual 286, 3) := by decide +kernel
theorem dX7_back_31 : decode cX7_back 31 = .ok (.ireturn, 1) := by decide +kernel
def F_X7_back  (P : VP) (post : Int32 → VP → Prop) : Prop :=
  (P 0 0 4 = 0 → post (((-5) : Int32)) P) ∧ (¬ P 0 0 4 = 0 → F_X2_copyFrom 0 1 P (fun P18 => F_X6_segmentsThere 0 P18 (fun r28 => post r28 P18)))
set_option maxRecDepth 4000 in
theorem s_X7_back {l : Launch} {g : vG}  {P Q : VP} {post : Int32 → VP → Prop}  (h : F_X7_back  P post) : VC l g yX7_back cX7_back 1 (some .int) 6 [vR 0 0] (vjn P Q) (vcI Q post) := by
  refine VC.of (by decide +kernel) (Nat.le_of_ble_eq_true rfl) (show VM l g RX7 cX7_back 1 (some .int) 6 (vcI Q post) 0 [(0, vR 0 0)] [] (vjn P Q) from ?_)
  unfold F_X7_back at h
  refine vr_aload_n 0 0 dX7_back_0 rfl rfl ?_
  refine vg_0_4 RX7 rfl (by decide) fl_7_283 dX7_back_1 ?_
  refine vr_ifne 10 dX7_back_4 (by decide) (fun c4 => ?_) (fun c4 => ?_)
  · have h := h.1 c4
    refine vr_bipush (-5) dX7_back_7 (by decide) ?_
    exact vr_iret rfl ⟨_, _, rfl, rfl, h⟩ dX7_back_9
  · have h := h.2 c4
    refine vr_aload_n 0 0 dX7_back_10 rfl rfl ?_
    refine vg_0_0 RX7 rfl (by decide) fl_7_10 dX7_back_11 ?_
    refine vr_aload_n 0 0 dX7_back_14 rfl rfl ?_
    refine vg_0_1 RX7 rfl (by decide) fl_7_16 dX7_back_15 ?_
    refine vr_callV RX7 (s_X2_copyFrom (by decide) (by decide) h) rfl (by decide) rfl rfl rfl ml_7_235 rfl yh_X2_copyFrom rfl ⟨Nat.le_of_ble_eq_true rfl, Nat.le_of_ble_eq_true rfl⟩ (Nat.le_of_ble_eq_true rfl) ⟨Nat.zero_le _, Nat.zero_le _⟩ dX7_back_18 (kcv fun P18 h => ?_)
    refine vr_aload_n 0 0 dX7_back_21 rfl rfl ?_
    refine vg_0_0 RX7 rfl (by decide) fl_7_10 dX7_back_22 ?_
    refine vg_1_0 RX7 rfl (by decide) fl_7_29 dX7_back_25 ?_
    refine vr_callV RX7 (s_X6_segmentsThere (by decide) h) rfl (by decide) rfl rfl rfl ml_7_286 rfl yh_X6_segmentsThere rfl ⟨Nat.le_of_ble_eq_true rfl, Nat.le_of_ble_eq_true rfl⟩ (Nat.le_of_ble_eq_true rfl) ⟨Nat.zero_le _, Nat.zero_le _⟩ dX7_back_28 (ki fun r28 h => ?_)
    exact vr_iret rfl ⟨_, _, rfl, rfl, h⟩ dX7_back_31
theorem dX7_count_0 : decode cX7_count 0 = .ok (.aload_n 0, 1) := by decide +kernel
theorem dX7_count_1 : decode cX7_count 1 = .ok (.getfield 10, 3) := by decide +kernel
theorem dX7_count_4 : decode cX7_count 4 = .ok (.getfield 29, 3) := by decide +kernel
theorem dX7_count_7 : decode cX7_count 7 = .ok (.astore_n 2, 1) := by decide +kernel
theorem dX7_count_8 : decode cX7_count 8 = .ok (.iload_n 1, 1) := by decide +kernel
theorem dX7_count_9 : decode cX7_count 9 = .ok (.tableswitch 99 0 8 #[51, 56, 61, 66, 74, 79, 84, 89, 94], 51) := by decide +kernel
theorem dX7_count_60 : decode cX7_count 60 = .ok (.aload_n 2, 1) := by decide +kernel
theorem dX7_count_61 : decode cX7_count 61 = .ok (.getfield 289, 3) := by decide +kernel
theorem dX7_count_64 : decode cX7_count 64 = .ok (.ireturn, 1) := by decide +kernel
theorem dX7_count_65 : decode cX7_count 65 = .ok (.aload_n 2, 1) := by decide +kernel
theorem dX7_count_66 : decode cX7_count 66 = .ok (.invokevirtual 286, 3) := by decide +kernel
theorem dX7_count_69 : decode cX7_count 69 = .ok (.ireturn, 1) := by decide +kernel
theorem dX7_count_70 : decode cX7_count 70 = .ok (.aload_n 2, 1) := by decide +kernel
theorem dX7_count_71 : decode cX7_count 71 = .ok (.getfield 125, 3) := by decide +kernel
theorem dX7_count_74 : decode cX7_count 74 = .ok (.ireturn, 1) := by decide +kernel
theorem dX7_count_75 : decode cX7_count 75 = .ok (.aload_n 0, 1) := by decide +kernel
theorem dX7_count_76 : decode cX7_count 76 = .ok (.getfield 25, 3) := by decide +kernel
theorem dX7_count_79 : decode cX7_count 79 = .ok (.getfield 164, 3) := by decide +kernel
theorem dX7_count_82 : decode cX7_count 82 = .ok (.ireturn, 1) := by decide +kernel
theorem dX7_count_83 : decode cX7_count 83 = .ok (.aload_n 2, 1) := by decide +kernel
theorem dX7_count_84 : decode cX7_count 84 = .ok (.invokevirtual 292, 3) := by decide +kernel
theorem dX7_count_87 : decode cX7_count 87 = .ok (.ireturn, 1) := by decide +kernel
theorem dX7_count_88 : decode cX7_count 88 = .ok (.aload_n 2, 1) := by decide +kernel
theorem dX7_count_89 : decode cX7_count 89 = .ok (.invokevirtual 295, 3) := by decide +kernel
theorem dX7_count_92 : decode cX7_count 92 = .ok (.ireturn, 1) := by decide +kernel
theorem dX7_count_93 : decode cX7_count 93 = .ok (.aload_n 2, 1) := by decide +kernel
theorem dX7_count_94 : decode cX7_count 94 = .ok (.invokevirtual 298, 3) := by decide +kernel
theorem dX7_count_97 : decode cX7_count 97 = .ok (.ireturn, 1) := by decide +kernel
theorem dX7_count_98 : decode cX7_count 98 = .ok (.aload_n 2, 1) := by decide +kernel
theorem dX7_count_99 : decode cX7_count 99 = .ok (.invokevirtual 301, 3) := by decide +kernel
theorem dX7_count_102 : decode cX7_count 102 = .ok (.ireturn, 1) := by decide +kernel
theorem dX7_count_103 : decode cX7_count 103 = .ok (.aload_n 2, 1) := by decide +kernel
theorem dX7_count_104 : decode cX7_count 104 = .ok (.getfield 304, 3) := by decide +kernel
theorem dX7_count_107 : decode cX7_count 107 = .ok (.ireturn, 1) := by decide +kernel
theorem dX7_count_108 : decode cX7_count 108 = .ok (.iconst (-1), 1) := by decide +kernel
theorem dX7_count_109 : decode cX7_count 109 = .ok (.ireturn, 1) := by decide +kernel
def F_X7_count (x1 : Int32) (P : VP) (post : Int32 → Prop) : Prop :=
  (x1 = 0 → post (P 2 0 0)) ∧ (¬ x1 = 0 → (x1 = 1 → F_X6_segmentsThere 0 P (fun r66 => post r66)) ∧ (¬ x1 = 1 → (x1 = 2 → post (P 2 0 3)) ∧ (¬ x1 = 2 → (x1 = 3 → post (P 17 0 1)) ∧ (¬ x1 = 3 → (x1 = 4 → F_X6_cells 0 P (fun r84 => post r84)) ∧ (¬ x1 = 4 → (x1 = 5 → F_X6_quotaOfAll 0 P (fun r89 => post r89)) ∧ (¬ x1 = 5 → (x1 = 6 → F_X6_recordsOfAll 0 P (fun r94 => post r94)) ∧ (¬ x1 = 6 → (x1 = 7 → F_X6_snappedOfAll 0 P (fun r99 => post r99)) ∧ (¬ x1 = 7 → (x1 = 8 → post (P 2 0 5)) ∧ (¬ x1 = 8 → post (((-1) : Int32)))))))))))
set_option maxRecDepth 4000 in
theorem s_X7_count {l : Launch} {g : vG} {x1 : Int32} {P Q : VP} {post : Int32 → Prop}  (h : F_X7_count x1 P post) : VC l g yX7_count cX7_count 3 (some .int) 4 [vR 0 0, vI x1] (vjn P Q) (vpI (vjn P Q) post) := by
  refine VC.of (by decide +kernel) (Nat.le_of_ble_eq_true rfl) (show VM l g RX7 cX7_count 3 (some .int) 4 (vpI (vjn P Q) post) 0 [(0, vR 0 0), (1, vI x1)] [] (vjn P Q) from ?_)
  unfold F_X7_count at h
  refine vr_aload_n 0 0 dX7_count_0 rfl rfl ?_
  refine vg_0_0 RX7 rfl (by decide) fl_7_10 dX7_count_1 ?_
  refine vg_1_0 RX7 rfl (by decide) fl_7_29 dX7_count_4 ?_
  refine vr_astore_n 2 [(2, vR 2 0), (0, vR 0 0), (1, vI x1)] dX7_count_7 rfl (by decide) rfl ?_
  refine vr_iload_n 1 2 dX7_count_8 rfl rfl ?_
  by_cases c9_0 : x1 = 0
  · have h := h.1 c9_0
    refine vr_tswIn 0 60 dX7_count_9 c9_0 (by decide) rfl (by decide) ?_
    refine vr_aload_n 2 0 dX7_count_60 rfl rfl ?_
    refine vg_2_0 RX7 rfl (by decide) fl_7_289 dX7_count_61 ?_
    exact vr_iret rfl ⟨rfl, _, rfl, h⟩ dX7_count_64
  · have h := h.2 c9_0
    by_cases c9_1 : x1 = 1
    · have h := h.1 c9_1
      refine vr_tswIn 1 65 dX7_count_9 c9_1 (by decide) rfl (by decide) ?_
      refine vr_aload_n 2 0 dX7_count_65 rfl rfl ?_
      refine vr_callV RX7 (s_X6_segmentsThere (by decide) h) rfl (by decide) rfl rfl rfl ml_7_286 rfl yh_X6_segmentsThere rfl ⟨Nat.le_of_ble_eq_true rfl, Nat.le_of_ble_eq_true rfl⟩ (Nat.le_of_ble_eq_true rfl) ⟨Nat.zero_le _, Nat.zero_le _⟩ dX7_count_66 (ki fun r66 h => ?_)
      exact vr_iret rfl ⟨rfl, _, rfl, h⟩ dX7_count_69
    · have h := h.2 c9_1
      by_cases c9_2 : x1 = 2
      · have h := h.1 c9_2
        refine vr_tswIn 2 70 dX7_count_9 c9_2 (by decide) rfl (by decide) ?_
        refine vr_aload_n 2 0 dX7_count_70 rfl rfl ?_
        refine vg_2_3 RX7 rfl (by decide) fl_7_125 dX7_count_71 ?_
        exact vr_iret rfl ⟨rfl, _, rfl, h⟩ dX7_count_74
      · have h := h.2 c9_2
        by_cases c9_3 : x1 = 3
        · have h := h.1 c9_3
          refine vr_tswIn 3 75 dX7_count_9 c9_3 (by decide) rfl (by decide) ?_
          refine vr_aload_n 0 1 dX7_count_75 rfl rfl ?_
          refine vg_0_3 RX7 rfl (by decide) fl_7_25 dX7_count_76 ?_
          refine vg_17_1 RX7 rfl (by decide) fl_7_164 dX7_count_79 ?_
          exact vr_iret rfl ⟨rfl, _, rfl, h⟩ dX7_count_82
        · have h := h.2 c9_3
          by_cases c9_4 : x1 = 4
          · have h := h.1 c9_4
            refine vr_tswIn 4 83 dX7_count_9 c9_4 (by decide) rfl (by decide) ?_
            refine vr_aload_n 2 0 dX7_count_83 rfl rfl ?_
            refine vr_callV RX7 (s_X6_cells (by decide) h) rfl (by decide) rfl rfl rfl ml_7_292 rfl yh_X6_cells rfl ⟨Nat.le_of_ble_eq_true rfl, Nat.le_of_ble_eq_true rfl⟩ (Nat.le_of_ble_eq_true rfl) ⟨Nat.zero_le _, Nat.zero_le _⟩ dX7_count_84 (ki fun r84 h => ?_)
            exact vr_iret rfl ⟨rfl, _, rfl, h⟩ dX7_count_87
          · have h := h.2 c9_4
            by_cases c9_5 : x1 = 5
            · have h := h.1 c9_5
              refine vr_tswIn 5 88 dX7_count_9 c9_5 (by decide) rfl (by decide) ?_
              refine vr_aload_n 2 0 dX7_count_88 rfl rfl ?_
              refine vr_callV RX7 (s_X6_quotaOfAll (by decide) h) rfl (by decide) rfl rfl rfl ml_7_295 rfl yh_X6_quotaOfAll rfl ⟨Nat.le_of_ble_eq_true rfl, Nat.le_of_ble_eq_true rfl⟩ (Nat.le_of_ble_eq_true rfl) ⟨Nat.zero_le _, Nat.zero_le _⟩ dX7_count_89 (ki fun r89 h => ?_)
              exact vr_iret rfl ⟨rfl, _, rfl, h⟩ dX7_count_92
            · have h := h.2 c9_5
              by_cases c9_6 : x1 = 6
              · have h := h.1 c9_6
                refine vr_tswIn 6 93 dX7_count_9 c9_6 (by decide) rfl (by decide) ?_
                refine vr_aload_n 2 0 dX7_count_93 rfl rfl ?_
                refine vr_callV RX7 (s_X6_recordsOfAll (by decide) h) rfl (by decide) rfl rfl rfl ml_7_298 rfl yh_X6_recordsOfAll rfl ⟨Nat.le_of_ble_eq_true rfl, Nat.le_of_ble_eq_true rfl⟩ (Nat.le_of_ble_eq_true rfl) ⟨Nat.zero_le _, Nat.zero_le _⟩ dX7_count_94 (ki fun r94 h => ?_)
                exact vr_iret rfl ⟨rfl, _, rfl, h⟩ dX7_count_97
              · have h := h.2 c9_6
                by_cases c9_7 : x1 = 7
                · have h := h.1 c9_7
                  refine vr_tswIn 7 98 dX7_count_9 c9_7 (by decide) rfl (by decide) ?_
                  refine vr_aload_n 2 0 dX7_count_98 rfl rfl ?_
                  refine vr_callV RX7 (s_X6_snappedOfAll (by decide) h) rfl (by decide) rfl rfl rfl ml_7_301 rfl yh_X6_snappedOfAll rfl ⟨Nat.le_of_ble_eq_true rfl, Nat.le_of_ble_eq_true rfl⟩ (Nat.le_of_ble_eq_true rfl) ⟨Nat.zero_le _, Nat.zero_le _⟩ dX7_count_99 (ki fun r99 h => ?_)
                  exact vr_iret rfl ⟨rfl, _, rfl, h⟩ dX7_count_102
                · have h := h.2 c9_7
                  by_cases c9_8 : x1 = 8
                  · have h := h.1 c9_8
                    refine vr_tswIn 8 103 dX7_count_9 c9_8 (by decide) rfl (by decide) ?_
                    refine vr_aload_n 2 0 dX7_count_103 rfl rfl ?_
                    refine vg_2_5 RX7 rfl (by decide) fl_7_304 dX7_count_104 ?_
                    exact vr_iret rfl ⟨rfl, _, rfl, h⟩ dX7_count_107
                  · have h := h.2 c9_8
                    refine vr_tswOut 108 dX7_count_9 (by have q0 := lv_neT c9_0 (a := 0) (by decide); have q1 := lv_neT c9_1 (a := 1) (by decide); have q2 := lv_neT c9_2 (a := 2) (by decide); have q3 := lv_neT c9_3 (a := 3) (by decide); have q4 := lv_neT c9_4 (a := 4) (by decide); have q5 := lv_neT c9_5 (a := 5) (by decide); have q6 := lv_neT c9_6 (a := 6) (by decide); have q7 := lv_neT c9_7 (a := 7) (by decide); have q8 := lv_neT c9_8 (a := 8) (by decide); omega) (by decide) ?_
                    refine vr_iconst (-1) dX7_count_108 (by decide) ?_
                    exact vr_iret rfl ⟨rfl, _, rfl, h⟩ dX7_count_109
