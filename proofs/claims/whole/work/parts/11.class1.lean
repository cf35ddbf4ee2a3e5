/-! X4_frameAt, X4_latestOf, X4_push, X6_ringEntered, X2_callTo, X3_letsWrite, X2_faultOfStore, X2_store, X2_putCopiesBack, X4_pop, X2_goBack, X2_goTo, X2_putNumber, X2_isLatestOutward, X2_latestArgument, X2_readArgument, X2_takeNumber, X2_writeArgument -/
theorem dX4_frameAt_0 : decode cX4_frameAt 0 = .ok (.iload_n 2, 1) := by decide +kernel
theorem dX4_frameAt_1 : decode cX4_frameAt 1 = .ok (.ifCond .lt 18, 3) := by decide +kernel
theorem dX4_frameAt_4 : decode cX4_frameAt 4 = .ok (.iload_n 2, 1) := by decide +kernel
theorem dX4_frameAt_5 : decode cX4_frameAt 5 = .ok (.aload_n 0, 1) := by decide +kernel
theorem dX4_frameAt_6 : decode cX4_frameAt 6 = .ok (.iload_n 1, 1) := by decide +kernel
theorem dX4_frameAt_7 : decode cX4_frameAt 7 = .ok (.invokevirtual 22, 3) := by decide +kernel
theorem dX4_frameAt_10 : decode cX4_frameAt 10 = .ok (.if_icmp .ge 9, 3) := by decide +kernel
theorem dX4_frameAt_13 : decode cX4_frameAt 13 = .ok (.iload_n 2, 1) := by decide +kernel
theorem dX4_frameAt_14 : decode cX4_frameAt 14 = .ok (.bipush 6, 2) := by decide +kernel
theorem dX4_frameAt_16 : decode cX4_frameAt 16 = .ok (.if_icmp .lt 5, 3) := by decide +kernel
theorem dX4_frameAt_19 : decode cX4_frameAt 19 = .ok (.aconst_null, 1) := by decide +kernel
theorem dX4_frameAt_20 : decode cX4_frameAt 20 = .ok (.areturn, 1) := by decide +kernel
theorem dX4_frameAt_21 : decode cX4_frameAt 21 = .ok (.iload_n 1, 1) := by decide +kernel
theorem dX4_frameAt_22 : decode cX4_frameAt 22 = .ok (.bipush 6, 2) := by decide +kernel
theorem dX4_frameAt_24 : decode cX4_frameAt 24 = .ok (.imul, 1) := by decide +kernel
theorem dX4_frameAt_25 : decode cX4_frameAt 25 = .ok (.iload_n 2, 1) := by decide +kernel
theorem dX4_frameAt_26 : decode cX4_frameAt 26 = .ok (.iadd, 1) := by decide +kernel
theorem dX4_frameAt_27 : decode cX4_frameAt 27 = .ok (.istore_n 3, 1) := by decide +kernel
theorem dX4_frameAt_28 : decode cX4_frameAt 28 = .ok (.iload_n 3, 1) := by decide +kernel
theorem dX4_frameAt_29 : decode cX4_frameAt 29 = .ok (.ifCond .lt 21, 3) := by decide +kernel
theorem dX4_frameAt_32 : decode cX4_frameAt 32 = .ok (.iload_n 3, 1) := by decide +kernel
theorem dX4_frameAt_33 : decode cX4_frameAt 33 = .ok (.aload_n 0, 1) := by decide +kernel
theorem dX4_frameAt_34 : decode cX4_frameAt 34 = .ok (.getfield 17, 3) := by decide +kernel
theorem dX4_frameAt_37 : decode cX4_frameAt 37 = .ok (.arraylength, 1) := by decide +kernel
theorem dX4_frameAt_38 : decode cX4_frameAt 38 = .ok (.if_icmp .ge 12, 3) := by decide +kernel
theorem dX4_frameAt_41 : decode cX4_frameAt 41 = .ok (.aload_n 0, 1) := by decide +kernel
theorem dX4_frameAt_42 : decode cX4_frameAt 42 = .ok (.getfield 17, 3) := by decide +kernel
theorem dX4_frameAt_45 : decode cX4_frameAt 45 = .ok (.iload_n 3, 1) := by decide +kernel
theorem dX4_frameAt_46 : decode cX4_frameAt 46 = .ok (.aaload, 1) := by decide +kernel
theorem dX4_frameAt_47 : decode cX4_frameAt 47 = .ok (.goto 4, 3) := by decide +kernel
theorem dX4_frameAt_50 : decode cX4_frameAt 50 = .ok (.aconst_null, 1) := by decide +kernel
theorem dX4_frameAt_51 : decode cX4_frameAt 51 = .ok (.areturn, 1) := by decide +kernel
def F_X4_frameAt (o : Nat) (x1 : Int32) (x2 : Int32) (P : VP) (post : Option Nat → Prop) : Prop :=
  (x2 < 0 → post none) ∧ (¬ x2 < 0 → F_X4_heightOf o x1 P (fun r7 => (x2 < r7 → (x2 < 6 → ((x1 * 6) + x2 < 0 → post none) ∧ (¬ (x1 * 6) + x2 < 0 → ((x1 * 6) + x2 < 48 → (0 ≤ (x1 * 6) + x2 ∧ (x1 * 6) + x2 < 48) ∧ (post (some ((49 * o + ix ((x1 * 6) + x2)))))) ∧ (¬ (x1 * 6) + x2 < 48 → post none))) ∧ (¬ x2 < 6 → post none)) ∧ (¬ x2 < r7 → post none)))
set_option maxRecDepth 4000 in
theorem s_X4_frameAt {l : Launch} {g : vG} {o : Nat} {x1 : Int32} {x2 : Int32} {P Q : VP} {post : Option Nat → Prop} (ho : o < vcnt 11) (h : F_X4_frameAt o x1 x2 P post) : VC l g yX4_frameAt cX4_frameAt 4 (some (.object "RingGates$Frame")) 1 [vR 11 o, vI x1, vI x2] (vjn P Q) (vpO 14 (vjn P Q) post) := by
  refine VC.of (by decide +kernel) (Nat.le_of_ble_eq_true rfl) (show VM l g RX4 cX4_frameAt 4 (some (.object "RingGates$Frame")) 1 (vpO 14 (vjn P Q) post) 0 [(0, vR 11 o), (1, vI x1), (2, vI x2)] [] (vjn P Q) from ?_)
  unfold F_X4_frameAt at h
  refine vr_iload_n 2 2 dX4_frameAt_0 rfl rfl ?_
  refine vr_iflt 19 dX4_frameAt_1 (by decide) (fun c1 => ?_) (fun c1 => ?_)
  · have h := h.1 c1
    refine vr_anull dX4_frameAt_19 ?_
    exact vr_aret rfl ⟨rfl, none, rfl, vnone, h⟩ dX4_frameAt_20
  · have h := h.2 c1
    refine vr_iload_n 2 2 dX4_frameAt_4 rfl rfl ?_
    refine vr_aload_n 0 0 dX4_frameAt_5 rfl rfl ?_
    refine vr_iload_n 1 1 dX4_frameAt_6 rfl rfl ?_
    refine vr_callV RX4 (s_X4_heightOf ho h) rfl ho rfl rfl rfl ml_4_22 rfl yh_X4_heightOf rfl ⟨Nat.le_of_ble_eq_true rfl, Nat.le_of_ble_eq_true rfl⟩ (Nat.le_of_ble_eq_true rfl) ⟨Nat.zero_le _, Nat.zero_le _⟩ dX4_frameAt_7 (ki fun r7 h => ?_)
    refine vr_icmpge 19 dX4_frameAt_10 (by decide) (fun c10 => ?_) (fun c10 => ?_)
    · have h := h.1 c10
      refine vr_iload_n 2 2 dX4_frameAt_13 rfl rfl ?_
      refine vr_bipush 6 dX4_frameAt_14 (by decide) ?_
      refine vr_icmplt 21 dX4_frameAt_16 (by decide) (fun c16 => ?_) (fun c16 => ?_)
      · have h := h.1 c16
        refine vr_iload_n 1 1 dX4_frameAt_21 rfl rfl ?_
        refine vr_bipush 6 dX4_frameAt_22 (by decide) ?_
        refine vr_imul dX4_frameAt_24 ?_
        refine vr_iload_n 2 2 dX4_frameAt_25 rfl rfl ?_
        refine vr_iadd dX4_frameAt_26 ?_
        refine vr_istore_n 3 [(3, vI ((x1 * 6) + x2)), (0, vR 11 o), (1, vI x1), (2, vI x2)] dX4_frameAt_27 rfl (by decide) rfl ?_
        refine vr_iload_n 3 0 dX4_frameAt_28 rfl rfl ?_
        refine vr_iflt 50 dX4_frameAt_29 (by decide) (fun c29 => ?_) (fun c29 => ?_)
        · have h := h.1 c29
          refine vr_anull dX4_frameAt_50 ?_
          exact vr_aret rfl ⟨rfl, none, rfl, vnone, h⟩ dX4_frameAt_51
        · have h := h.2 c29
          refine vr_iload_n 3 0 dX4_frameAt_32 rfl rfl ?_
          refine vr_aload_n 0 1 dX4_frameAt_33 rfl rfl ?_
          refine vg_11_1 RX4 rfl ho fl_4_17 dX4_frameAt_34 ?_
          refine vl_13 ho dX4_frameAt_37 ?_
          refine vr_icmpge 50 dX4_frameAt_38 (by decide) (fun c38 => ?_) (fun c38 => ?_)
          · have h := h.1 c38
            refine vr_aload_n 0 1 dX4_frameAt_41 rfl rfl ?_
            refine vg_11_1 RX4 rfl ho fl_4_17 dX4_frameAt_42 ?_
            refine vr_iload_n 3 0 dX4_frameAt_45 rfl rfl ?_
            have hi := h.1
            have h := h.2
            refine vq_13 ho hi dX4_frameAt_46 (fun hq46 => ?_)
            refine vr_goto 51 dX4_frameAt_47 (by decide) ?_
            exact vr_aret rfl ⟨rfl, some ((49 * o + ix ((x1 * 6) + x2))), rfl, vsome hq46, h⟩ dX4_frameAt_51
          · have h := h.2 c38
            refine vr_anull dX4_frameAt_50 ?_
            exact vr_aret rfl ⟨rfl, none, rfl, vnone, h⟩ dX4_frameAt_51
      · have h := h.2 c16
        refine vr_anull dX4_frameAt_19 ?_
        exact vr_aret rfl ⟨rfl, none, rfl, vnone, h⟩ dX4_frameAt_20
    · have h := h.2 c10
      refine vr_anull dX4_frameAt_19 ?_
      exact vr_aret rfl ⟨rfl, none, rfl, vnone, h⟩ dX4_frameAt_20
theorem dX4_latestOf_0 : decode cX4_latestOf 0 = .ok (.aload_n 0, 1) := by decide +kernel
theorem dX4_latestOf_1 : decode cX4_latestOf 1 = .ok (.iload_n 1, 1) := by decide +kernel
theorem dX4_latestOf_2 : decode cX4_latestOf 2 = .ok (.aload_n 0, 1) := by decide +kernel
theorem dX4_latestOf_3 : decode cX4_latestOf 3 = .ok (.iload_n 1, 1) := by decide +kernel
theorem dX4_latestOf_4 : decode cX4_latestOf 4 = .ok (.invokevirtual 22, 3) := by decide +kernel
theorem dX4_latestOf_7 : decode cX4_latestOf 7 = .ok (.iconst 1, 1) := by decide +kernel
theorem dX4_latestOf_8 : decode cX4_latestOf 8 = .ok (.isub, 1) := by decide +kernel
theorem dX4_latestOf_9 : decode cX4_latestOf 9 = .ok (.invokevirtual 26, 3) := by decide +kernel
theorem dX4_latestOf_12 : decode cX4_latestOf 12 = .ok (.areturn, 1) := by decide +kernel
def F_X4_latestOf (o : Nat) (x1 : Int32) (P : VP) (post : Option Nat → Prop) : Prop :=
  F_X4_heightOf o x1 P (fun r4 => F_X4_frameAt o x1 (r4 - 1) P (fun r9 => post r9))
set_option maxRecDepth 4000 in
theorem s_X4_latestOf {l : Launch} {g : vG} {o : Nat} {x1 : Int32} {P Q : VP} {post : Option Nat → Prop} (ho : o < vcnt 11) (h : F_X4_latestOf o x1 P post) : VC l g yX4_latestOf cX4_latestOf 2 (some (.object "RingGates$Frame")) 2 [vR 11 o, vI x1] (vjn P Q) (vpO 14 (vjn P Q) post) := by
  refine VC.of (by decide +kernel) (Nat.le_of_ble_eq_true rfl) (show VM l g RX4 cX4_latestOf 2 (some (.object "RingGates$Frame")) 2 (vpO 14 (vjn P Q) post) 0 [(0, vR 11 o), (1, vI x1)] [] (vjn P Q) from ?_)
  unfold F_X4_latestOf at h
  refine vr_aload_n 0 0 dX4_latestOf_0 rfl rfl ?_
  refine vr_iload_n 1 1 dX4_latestOf_1 rfl rfl ?_
  refine vr_aload_n 0 0 dX4_latestOf_2 rfl rfl ?_
  refine vr_iload_n 1 1 dX4_latestOf_3 rfl rfl ?_
  refine vr_callV RX4 (s_X4_heightOf ho h) rfl ho rfl rfl rfl ml_4_22 rfl yh_X4_heightOf rfl ⟨Nat.le_of_ble_eq_true rfl, Nat.le_of_ble_eq_true rfl⟩ (Nat.le_of_ble_eq_true rfl) ⟨Nat.zero_le _, Nat.zero_le _⟩ dX4_latestOf_4 (ki fun r4 h => ?_)
  refine vr_iconst 1 dX4_latestOf_7 (by decide) ?_
  refine vr_isub dX4_latestOf_8 ?_
  refine vr_callV RX4 (s_X4_frameAt ho h) rfl ho rfl rfl rfl ml_4_26 rfl yh_X4_frameAt rfl ⟨Nat.le_of_ble_eq_true rfl, Nat.le_of_ble_eq_true rfl⟩ (Nat.le_of_ble_eq_true rfl) ⟨Nat.zero_le _, Nat.zero_le _⟩ dX4_latestOf_9 (ko fun r9 hvr9 h => ?_)
  exact vr_aret rfl ⟨rfl, r9, rfl, hvr9, h⟩ dX4_latestOf_12
theorem dX4_push_0 : decode cX4_push 0 = .ok (.aload_n 2, 1) := by decide +kernel
theorem dX4_push_1 : decode cX4_push 1 = .ok (.ifnull 27, 3) := by decide +kernel
theorem dX4_push_4 : decode cX4_push 4 = .ok (.iload_n 1, 1) := by decide +kernel
theorem dX4_push_5 : decode cX4_push 5 = .ok (.ifCond .lt 23, 3) := by decide +kernel
theorem dX4_push_8 : decode cX4_push 8 = .ok (.iload_n 1, 1) := by decide +kernel
theorem dX4_push_9 : decode cX4_push 9 = .ok (.aload_n 0, 1) := by decide +kernel
theorem dX4_push_10 : decode cX4_push 10 = .ok (.getfield 9, 3) := by decide +kernel
theorem dX4_push_13 : decode cX4_push 13 = .ok (.arraylength, 1) := by decide +kernel
theorem dX4_push_14 : decode cX4_push 14 = .ok (.if_icmp .ge 14, 3) := by decide +kernel
theorem dX4_push_17 : decode cX4_push 17 = .ok (.aload_n 0, 1) := by decide +kernel
theorem dX4_push_18 : decode cX4_push 18 = .ok (.getfield 9, 3) := by decide +kernel
theorem dX4_push_21 : decode cX4_push 21 = .ok (.iload_n 1, 1) := by decide +kernel
theorem dX4_push_22 : decode cX4_push 22 = .ok (.iaload, 1) := by decide +kernel
theorem dX4_push_23 : decode cX4_push 23 = .ok (.bipush 6, 2) := by decide +kernel
theorem dX4_push_25 : decode cX4_push 25 = .ok (.if_icmp .lt 5, 3) := by decide +kernel
theorem dX4_push_28 : decode cX4_push 28 = .ok (.iconst 0, 1) := by decide +kernel
theorem dX4_push_29 : decode cX4_push 29 = .ok (.ireturn, 1) := by decide +kernel
theorem dX4_push_30 : decode cX4_push 30 = .ok (.aload_n 0, 1) := by decide +kernel
theorem dX4_push_31 : decode cX4_push 31 = .ok (.getfield 9, 3) := by decide +kernel
theorem dX4_push_34 : decode cX4_push 34 = .ok (.iload_n 1, 1) := by decide +kernel
theorem dX4_push_35 : decode cX4_push 35 = .ok (.dup2, 1) := by decide +kernel
theorem dX4_push_36 : decode cX4_push 36 = .ok (.iaload, 1) := by decide +kernel
theorem dX4_push_37 : decode cX4_push 37 = .ok (.iconst 1, 1) := by decide +kernel
theorem dX4_push_38 : decode cX4_push 38 = .ok (.iadd, 1) := by decide +kernel
theorem dX4_push_39 : decode cX4_push 39 = .ok (.iastore, 1) := by decide +kernel
theorem dX4_push_40 : decode cX4_push 40 = .ok (.aload_n 0, 1) := by decide +kernel
theorem dX4_push_41 : decode cX4_push 41 = .ok (.iload_n 1, 1) := by decide +kernel
theorem dX4_push_42 : decode cX4_push 42 = .ok (.invokevirtual 30, 3) := by decide +kernel
theorem dX4_push_45 : decode cX4_push 45 = .ok (.astore_n 3, 1) := by decide +kernel
theorem dX4_push_46 : decode cX4_push 46 = .ok (.aload_n 3, 1) := by decide +kernel
theorem dX4_push_47 : decode cX4_push 47 = .ok (.ifnull 8, 3) := by decide +kernel
theorem dX4_push_50 : decode cX4_push 50 = .ok (.aload_n 3, 1) := by decide +kernel
theorem dX4_push_51 : decode cX4_push 51 = .ok (.aload_n 2, 1) := by decide +kernel
theorem dX4_push_52 : decode cX4_push 52 = .ok (.invokevirtual 34, 3) := by decide +kernel
theorem dX4_push_55 : decode cX4_push 55 = .ok (.iconst 1, 1) := by decide +kernel
theorem dX4_push_56 : decode cX4_push 56 = .ok (.ireturn, 1) := by decide +kernel
def F_X4_push (o : Nat) (x1 : Int32) (o2 : Option Nat) (P : VP) (post : Int32 → VP → Prop) : Prop :=
  (match o2 with | none => (post ((0 : Int32)) P) | some yo2 => ((x1 < 0 → post ((0 : Int32)) P) ∧ (¬ x1 < 0 → (x1 < 8 → (0 ≤ x1 ∧ x1 < 8) ∧ ((P 12 o (ix x1) < 6 → ((0 ≤ x1 ∧ x1 < 8) ∧ ((0 ≤ x1 ∧ x1 < 8) ∧ (∀ P39 : VP, P39 = vup P 12 o (ix x1) ((P 12 o (ix x1)) + 1) → (F_X4_latestOf o x1 P39 (fun r42 => match r42 with | none => (post ((1 : Int32)) P39) | some yr42 => (F_X1_copyFrom yr42 yo2 P39 (fun P52 => post ((1 : Int32)) P52)))))))) ∧ (¬ P 12 o (ix x1) < 6 → post ((0 : Int32)) P))) ∧ (¬ x1 < 8 → post ((0 : Int32)) P))))
set_option maxRecDepth 4000 in
theorem s_X4_push {l : Launch} {g : vG} {o : Nat} {x1 : Int32} {o2 : Option Nat} {P Q : VP} {post : Int32 → VP → Prop} (ho : o < vcnt 11) (ho2 : ∀ x, o2 = some x → x < vcnt 14) (h : F_X4_push o x1 o2 P post) : VC l g yX4_push cX4_push 4 (some .boolean) 3 [vR 11 o, vI x1, vO 14 o2] (vjn P Q) (vcI Q post) := by
  refine VC.of (by decide +kernel) (Nat.le_of_ble_eq_true rfl) (show VM l g RX4 cX4_push 4 (some .boolean) 3 (vcI Q post) 0 [(0, vR 11 o), (1, vI x1), (2, vO 14 o2)] [] (vjn P Q) from ?_)
  unfold F_X4_push at h
  refine vr_aload_n 2 2 dX4_push_0 rfl rfl ?_
  rcases o2 with _ | yo2
  · refine vr_ifnullN 28 dX4_push_1 (by decide) ?_
    refine vr_iconst 0 dX4_push_28 (by decide) ?_
    exact vr_zret rfl (Or.inl rfl) ⟨_, _, rfl, rfl, h⟩ dX4_push_29
  · refine vr_ifnullR dX4_push_1 ?_
    refine vr_iload_n 1 1 dX4_push_4 rfl rfl ?_
    refine vr_iflt 28 dX4_push_5 (by decide) (fun c5 => ?_) (fun c5 => ?_)
    · have h := h.1 c5
      refine vr_iconst 0 dX4_push_28 (by decide) ?_
      exact vr_zret rfl (Or.inl rfl) ⟨_, _, rfl, rfl, h⟩ dX4_push_29
    · have h := h.2 c5
      refine vr_iload_n 1 1 dX4_push_8 rfl rfl ?_
      refine vr_aload_n 0 0 dX4_push_9 rfl rfl ?_
      refine vg_11_0 RX4 rfl ho fl_4_9 dX4_push_10 ?_
      refine vr_alen 8 ((ia_12 (x := o) ho)).2.1 ((ia_12 (x := o) ho)).1 rfl dX4_push_13 ?_
      refine vr_icmpge 28 dX4_push_14 (by decide) (fun c14 => ?_) (fun c14 => ?_)
      · have h := h.1 c14
        refine vr_aload_n 0 0 dX4_push_17 rfl rfl ?_
        refine vg_11_0 RX4 rfl ho fl_4_9 dX4_push_18 ?_
        refine vr_iload_n 1 1 dX4_push_21 rfl rfl ?_
        have hi := h.1
        have h := h.2
        refine vr_ialdP 8 (ia_12 (x := o) ho) rfl hi dX4_push_22 ?_
        refine vr_bipush 6 dX4_push_23 (by decide) ?_
        refine vr_icmplt 30 dX4_push_25 (by decide) (fun c25 => ?_) (fun c25 => ?_)
        · have h := h.1 c25
          refine vr_aload_n 0 0 dX4_push_30 rfl rfl ?_
          refine vg_11_0 RX4 rfl ho fl_4_9 dX4_push_31 ?_
          refine vr_iload_n 1 1 dX4_push_34 rfl rfl ?_
          refine vr_dup2 dX4_push_35 rfl rfl ?_
          have hi := h.1
          have h := h.2
          refine vr_ialdP 8 (ia_12 (x := o) ho) rfl hi dX4_push_36 ?_
          refine vr_iconst 1 dX4_push_37 (by decide) ?_
          refine vr_iadd dX4_push_38 ?_
          have hi := h.1
          have h := h.2
          obtain ⟨P39, eP39⟩ : ∃ y : VP, y = vup P 12 o (ix x1) ((P 12 o (ix x1)) + 1) := ⟨_, rfl⟩
          have h := h P39 eP39
          refine vr_iastP 8 (ia_12 (x := o) ho) rfl hi eP39 dX4_push_39 ?_
          refine vr_aload_n 0 0 dX4_push_40 rfl rfl ?_
          refine vr_iload_n 1 1 dX4_push_41 rfl rfl ?_
          refine vr_callV RX4 (s_X4_latestOf ho h) rfl ho rfl rfl rfl ml_4_30 rfl yh_X4_latestOf rfl ⟨Nat.le_of_ble_eq_true rfl, Nat.le_of_ble_eq_true rfl⟩ (Nat.le_of_ble_eq_true rfl) ⟨Nat.zero_le _, Nat.zero_le _⟩ dX4_push_42 (ko fun r42 hvr42 h => ?_)
          refine vr_astore_n 3 [(3, vO 14 r42), (0, vR 11 o), (1, vI x1), (2, vR 14 yo2)] dX4_push_45 rfl (by decide) rfl ?_
          refine vr_aload_n 3 0 dX4_push_46 rfl rfl ?_
          rcases r42 with _ | yr42
          · refine vr_ifnullN 55 dX4_push_47 (by decide) ?_
            refine vr_iconst 1 dX4_push_55 (by decide) ?_
            exact vr_zret rfl (Or.inr rfl) ⟨_, _, rfl, rfl, h⟩ dX4_push_56
          · refine vr_ifnullR dX4_push_47 ?_
            refine vr_aload_n 3 0 dX4_push_50 rfl rfl ?_
            refine vr_aload_n 2 3 dX4_push_51 rfl rfl ?_
            refine vr_callV RX4 (s_X1_copyFrom (hvr42 _ rfl) (ho2 _ rfl) h) rfl (hvr42 _ rfl) rfl rfl rfl ml_4_34 rfl yh_X1_copyFrom rfl ⟨Nat.le_of_ble_eq_true rfl, Nat.le_of_ble_eq_true rfl⟩ (Nat.le_of_ble_eq_true rfl) ⟨Nat.zero_le _, Nat.zero_le _⟩ dX4_push_52 (kcv fun P52 h => ?_)
            refine vr_iconst 1 dX4_push_55 (by decide) ?_
            exact vr_zret rfl (Or.inr rfl) ⟨_, _, rfl, rfl, h⟩ dX4_push_56
        · have h := h.2 c25
          refine vr_iconst 0 dX4_push_28 (by decide) ?_
          exact vr_zret rfl (Or.inl rfl) ⟨_, _, rfl, rfl, h⟩ dX4_push_29
      · have h := h.2 c14
        refine vr_iconst 0 dX4_push_28 (by decide) ?_
        exact vr_zret rfl (Or.inl rfl) ⟨_, _, rfl, rfl, h⟩ dX4_push_29
theorem dX6_ringEntered_0 : decode cX6_ringEntered 0 = .ok (.aload_n 0, 1) := by decide +kernel
theorem dX6_ringEntered_1 : decode cX6_ringEntered 1 = .ok (.iload_n 1, 1) := by decide +kernel
theorem dX6_ringEntered_2 : decode cX6_ringEntered 2 = .ok (.invokevirtual 78, 3) := by decide +kernel
theorem dX6_ringEntered_5 : decode cX6_ringEntered 5 = .ok (.astore 4, 2) := by decide +kernel
theorem dX6_ringEntered_7 : decode cX6_ringEntered 7 = .ok (.aload 4, 2) := by decide +kernel
theorem dX6_ringEntered_9 : decode cX6_ringEntered 9 = .ok (.ifnonnull 6, 3) := by decide +kernel
theorem dX6_ringEntered_12 : decode cX6_ringEntered 12 = .ok (.bipush (-20), 2) := by decide +kernel
theorem dX6_ringEntered_14 : decode cX6_ringEntered 14 = .ok (.ireturn, 1) := by decide +kernel
theorem dX6_ringEntered_15 : decode cX6_ringEntered 15 = .ok (.aload 4, 2) := by decide +kernel
theorem dX6_ringEntered_17 : decode cX6_ringEntered 17 = .ok (.iload_n 2, 1) := by decide +kernel
theorem dX6_ringEntered_18 : decode cX6_ringEntered 18 = .ok (.invokevirtual 106, 3) := by decide +kernel
theorem dX6_ringEntered_21 : decode cX6_ringEntered 21 = .ok (.ifCond .ne 6, 3) := by decide +kernel
theorem dX6_ringEntered_24 : decode cX6_ringEntered 24 = .ok (.bipush (-21), 2) := by decide +kernel
theorem dX6_ringEntered_26 : decode cX6_ringEntered 26 = .ok (.ireturn, 1) := by decide +kernel
theorem dX6_ringEntered_27 : decode cX6_ringEntered 27 = .ok (.aload 4, 2) := by decide +kernel
theorem dX6_ringEntered_29 : decode cX6_ringEntered 29 = .ok (.getfield 64, 3) := by decide +kernel
theorem dX6_ringEntered_32 : decode cX6_ringEntered 32 = .ok (.iconst 4, 1) := by decide +kernel
theorem dX6_ringEntered_33 : decode cX6_ringEntered 33 = .ok (.iand, 1) := by decide +kernel
theorem dX6_ringEntered_34 : decode cX6_ringEntered 34 = .ok (.ifCond .ne 6, 3) := by decide +kernel
theorem dX6_ringEntered_37 : decode cX6_ringEntered 37 = .ok (.bipush (-22), 2) := by decide +kernel
theorem dX6_ringEntered_39 : decode cX6_ringEntered 39 = .ok (.ireturn, 1) := by decide +kernel
theorem dX6_ringEntered_40 : decode cX6_ringEntered 40 = .ok (.iload_n 3, 1) := by decide +kernel
theorem dX6_ringEntered_41 : decode cX6_ringEntered 41 = .ok (.aload 4, 2) := by decide +kernel
theorem dX6_ringEntered_43 : decode cX6_ringEntered 43 = .ok (.getfield 55, 3) := by decide +kernel
theorem dX6_ringEntered_46 : decode cX6_ringEntered 46 = .ok (.if_icmp .ge 9, 3) := by decide +kernel
theorem dX6_ringEntered_49 : decode cX6_ringEntered 49 = .ok (.aload 4, 2) := by decide +kernel
theorem dX6_ringEntered_51 : decode cX6_ringEntered 51 = .ok (.getfield 55, 3) := by decide +kernel
theorem dX6_ringEntered_54 : decode cX6_ringEntered 54 = .ok (.ireturn, 1) := by decide +kernel
theorem dX6_ringEntered_55 : decode cX6_ringEntered 55 = .ok (.iload_n 3, 1) := by decide +kernel
theorem dX6_ringEntered_56 : decode cX6_ringEntered 56 = .ok (.aload 4, 2) := by decide +kernel
theorem dX6_ringEntered_58 : decode cX6_ringEntered 58 = .ok (.getfield 58, 3) := by decide +kernel
theorem dX6_ringEntered_61 : decode cX6_ringEntered 61 = .ok (.if_icmp .gt 5, 3) := by decide +kernel
theorem dX6_ringEntered_64 : decode cX6_ringEntered 64 = .ok (.iload_n 3, 1) := by decide +kernel
theorem dX6_ringEntered_65 : decode cX6_ringEntered 65 = .ok (.ireturn, 1) := by decide +kernel
theorem dX6_ringEntered_66 : decode cX6_ringEntered 66 = .ok (.iload_n 3, 1) := by decide +kernel
theorem dX6_ringEntered_67 : decode cX6_ringEntered 67 = .ok (.aload 4, 2) := by decide +kernel
theorem dX6_ringEntered_69 : decode cX6_ringEntered 69 = .ok (.getfield 61, 3) := by decide +kernel
theorem dX6_ringEntered_72 : decode cX6_ringEntered 72 = .ok (.if_icmp .le 6, 3) := by decide +kernel
theorem dX6_ringEntered_75 : decode cX6_ringEntered 75 = .ok (.bipush (-28), 2) := by decide +kernel
theorem dX6_ringEntered_77 : decode cX6_ringEntered 77 = .ok (.ireturn, 1) := by decide +kernel
theorem dX6_ringEntered_78 : decode cX6_ringEntered 78 = .ok (.iload_n 2, 1) := by decide +kernel
theorem dX6_ringEntered_79 : decode cX6_ringEntered 79 = .ok (.aload 4, 2) := by decide +kernel
theorem dX6_ringEntered_81 : decode cX6_ringEntered 81 = .ok (.getfield 109, 3) := by decide +kernel
theorem dX6_ringEntered_84 : decode cX6_ringEntered 84 = .ok (.if_icmp .ge 11, 3) := by decide +kernel
theorem dX6_ringEntered_87 : decode cX6_ringEntered 87 = .ok (.aload 4, 2) := by decide +kernel
theorem dX6_ringEntered_89 : decode cX6_ringEntered 89 = .ok (.getfield 58, 3) := by decide +kernel
theorem dX6_ringEntered_92 : decode cX6_ringEntered 92 = .ok (.goto 5, 3) := by decide +kernel
theorem dX6_ringEntered_95 : decode cX6_ringEntered 95 = .ok (.bipush (-27), 2) := by decide +kernel
theorem dX6_ringEntered_97 : decode cX6_ringEntered 97 = .ok (.ireturn, 1) := by decide +kernel
def F_X6_ringEntered (o : Nat) (x1 : Int32) (x2 : Int32) (x3 : Int32) (P : VP) (post : Int32 → Prop) : Prop :=
  (F_X6_find o x1 P (fun r2 => match r2 with | none => (post (((-20) : Int32))) | some yr2 => (F_X3_has yr2 x2 P (fun r18 => (r18 = 0 → post (((-21) : Int32))) ∧ (¬ r18 = 0 → ((P 7 yr2 8) &&& 4 = 0 → post (((-22) : Int32))) ∧ (¬ (P 7 yr2 8) &&& 4 = 0 → (x3 < P 7 yr2 5 → post (P 7 yr2 5)) ∧ (¬ x3 < P 7 yr2 5 → (P 7 yr2 6 < x3 → (P 7 yr2 7 < x3 → post (((-28) : Int32))) ∧ (¬ P 7 yr2 7 < x3 → (x2 < P 7 yr2 9 → post (P 7 yr2 6)) ∧ (¬ x2 < P 7 yr2 9 → post (((-27) : Int32))))) ∧ (¬ P 7 yr2 6 < x3 → post x3))))))))
set_option maxRecDepth 4000 in
theorem s_X6_ringEntered {l : Launch} {g : vG} {o : Nat} {x1 : Int32} {x2 : Int32} {x3 : Int32} {P Q : VP} {post : Int32 → Prop} (ho : o < vcnt 2) (h : F_X6_ringEntered o x1 x2 x3 P post) : VC l g yX6_ringEntered cX6_ringEntered 5 (some .int) 1 [vR 2 o, vI x1, vI x2, vI x3] (vjn P Q) (vpI (vjn P Q) post) := by
  refine VC.of (by decide +kernel) (Nat.le_of_ble_eq_true rfl) (show VM l g RX6 cX6_ringEntered 5 (some .int) 1 (vpI (vjn P Q) post) 0 [(0, vR 2 o), (1, vI x1), (2, vI x2), (3, vI x3)] [] (vjn P Q) from ?_)
  unfold F_X6_ringEntered at h
  refine vr_aload_n 0 0 dX6_ringEntered_0 rfl rfl ?_
  refine vr_iload_n 1 1 dX6_ringEntered_1 rfl rfl ?_
  refine vr_callV RX6 (s_X6_find ho h) rfl ho rfl rfl rfl ml_6_78 rfl yh_X6_find rfl ⟨Nat.le_of_ble_eq_true rfl, Nat.le_of_ble_eq_true rfl⟩ (Nat.le_of_ble_eq_true rfl) ⟨Nat.zero_le _, Nat.zero_le _⟩ dX6_ringEntered_2 (ko fun r2 hvr2 h => ?_)
  refine vr_astore [(4, vO 7 r2), (0, vR 2 o), (1, vI x1), (2, vI x2), (3, vI x3)] dX6_ringEntered_5 (by decide) rfl ?_
  refine vr_aload 0 dX6_ringEntered_7 rfl ?_
  rcases r2 with _ | yr2
  · refine vr_ifnonnullN dX6_ringEntered_9 ?_
    refine vr_bipush (-20) dX6_ringEntered_12 (by decide) ?_
    exact vr_iret rfl ⟨rfl, _, rfl, h⟩ dX6_ringEntered_14
  · refine vr_ifnonnullR 15 dX6_ringEntered_9 (by decide) ?_
    refine vr_aload 0 dX6_ringEntered_15 rfl ?_
    refine vr_iload_n 2 3 dX6_ringEntered_17 rfl rfl ?_
    refine vr_callV RX6 (s_X3_has (hvr2 _ rfl) h) rfl (hvr2 _ rfl) rfl rfl rfl ml_6_106 rfl yh_X3_has rfl ⟨Nat.le_of_ble_eq_true rfl, Nat.le_of_ble_eq_true rfl⟩ (Nat.le_of_ble_eq_true rfl) ⟨Nat.zero_le _, Nat.zero_le _⟩ dX6_ringEntered_18 (ki fun r18 h => ?_)
    refine vr_ifne 27 dX6_ringEntered_21 (by decide) (fun c21 => ?_) (fun c21 => ?_)
    · have h := h.1 c21
      refine vr_bipush (-21) dX6_ringEntered_24 (by decide) ?_
      exact vr_iret rfl ⟨rfl, _, rfl, h⟩ dX6_ringEntered_26
    · have h := h.2 c21
      refine vr_aload 0 dX6_ringEntered_27 rfl ?_
      refine vg_7_8 RX6 rfl (hvr2 _ rfl) fl_6_64 dX6_ringEntered_29 ?_
      refine vr_iconst 4 dX6_ringEntered_32 (by decide) ?_
      refine vr_iand dX6_ringEntered_33 ?_
      refine vr_ifne 40 dX6_ringEntered_34 (by decide) (fun c34 => ?_) (fun c34 => ?_)
      · have h := h.1 c34
        refine vr_bipush (-22) dX6_ringEntered_37 (by decide) ?_
        exact vr_iret rfl ⟨rfl, _, rfl, h⟩ dX6_ringEntered_39
      · have h := h.2 c34
        refine vr_iload_n 3 4 dX6_ringEntered_40 rfl rfl ?_
        refine vr_aload 0 dX6_ringEntered_41 rfl ?_
        refine vg_7_5 RX6 rfl (hvr2 _ rfl) fl_6_55 dX6_ringEntered_43 ?_
        refine vr_icmpge 55 dX6_ringEntered_46 (by decide) (fun c46 => ?_) (fun c46 => ?_)
        · have h := h.1 c46
          refine vr_aload 0 dX6_ringEntered_49 rfl ?_
          refine vg_7_5 RX6 rfl (hvr2 _ rfl) fl_6_55 dX6_ringEntered_51 ?_
          exact vr_iret rfl ⟨rfl, _, rfl, h⟩ dX6_ringEntered_54
        · have h := h.2 c46
          refine vr_iload_n 3 4 dX6_ringEntered_55 rfl rfl ?_
          refine vr_aload 0 dX6_ringEntered_56 rfl ?_
          refine vg_7_6 RX6 rfl (hvr2 _ rfl) fl_6_58 dX6_ringEntered_58 ?_
          refine vr_icmpgt 66 dX6_ringEntered_61 (by decide) (fun c61 => ?_) (fun c61 => ?_)
          · have h := h.1 c61
            refine vr_iload_n 3 4 dX6_ringEntered_66 rfl rfl ?_
            refine vr_aload 0 dX6_ringEntered_67 rfl ?_
            refine vg_7_7 RX6 rfl (hvr2 _ rfl) fl_6_61 dX6_ringEntered_69 ?_
            refine vr_icmple 78 dX6_ringEntered_72 (by decide) (fun c72 => ?_) (fun c72 => ?_)
            · have h := h.1 c72
              refine vr_bipush (-28) dX6_ringEntered_75 (by decide) ?_
              exact vr_iret rfl ⟨rfl, _, rfl, h⟩ dX6_ringEntered_77
            · have h := h.2 c72
              refine vr_iload_n 2 3 dX6_ringEntered_78 rfl rfl ?_
              refine vr_aload 0 dX6_ringEntered_79 rfl ?_
              refine vg_7_9 RX6 rfl (hvr2 _ rfl) fl_6_109 dX6_ringEntered_81 ?_
              refine vr_icmpge 95 dX6_ringEntered_84 (by decide) (fun c84 => ?_) (fun c84 => ?_)
              · have h := h.1 c84
                refine vr_aload 0 dX6_ringEntered_87 rfl ?_
                refine vg_7_6 RX6 rfl (hvr2 _ rfl) fl_6_58 dX6_ringEntered_89 ?_
                refine vr_goto 97 dX6_ringEntered_92 (by decide) ?_
                exact vr_iret rfl ⟨rfl, _, rfl, h⟩ dX6_ringEntered_97
              · have h := h.2 c84
                refine vr_bipush (-27) dX6_ringEntered_95 (by decide) ?_
                exact vr_iret rfl ⟨rfl, _, rfl, h⟩ dX6_ringEntered_97
          · have h := h.2 c61
            refine vr_iload_n 3 4 dX6_ringEntered_64 rfl rfl ?_
            exact vr_iret rfl ⟨rfl, _, rfl, h⟩ dX6_ringEntered_65
theorem dX2_callTo_0 : decode cX2_callTo 0 = .ok (.aload_n 0, 1) := by decide +kernel
theorem dX2_callTo_1 : decode cX2_callTo 1 = .ok (.aload_n 0, 1) := by decide +kernel
theorem dX2_callTo_2 : decode cX2_callTo 2 = .ok (.getfield 36, 3) := by decide +kernel
theorem dX2_callTo_5 : decode cX2_callTo 5 = .ok (.iload_n 1, 1) := by decide +kernel
theorem dX2_callTo_6 : decode cX2_callTo 6 = .ok (.aload_n 0, 1) := by decide +kernel
theorem dX2_callTo_7 : decode cX2_callTo 7 = .ok (.getfield 25, 3) := by decide +kernel
theorem dX2_callTo_10 : decode cX2_callTo 10 = .ok (.iconst 1, 1) := by decide +kernel
theorem dX2_callTo_11 : decode cX2_callTo 11 = .ok (.invokevirtual 101, 3) := by decide +kernel
theorem dX2_callTo_14 : decode cX2_callTo 14 = .ok (.istore_n 3, 1) := by decide +kernel
theorem dX2_callTo_15 : decode cX2_callTo 15 = .ok (.iload_n 3, 1) := by decide +kernel
theorem dX2_callTo_16 : decode cX2_callTo 16 = .ok (.ifCond .eq 5, 3) := by decide +kernel
theorem dX2_callTo_19 : decode cX2_callTo 19 = .ok (.iload_n 3, 1) := by decide +kernel
theorem dX2_callTo_20 : decode cX2_callTo 20 = .ok (.ireturn, 1) := by decide +kernel
theorem dX2_callTo_21 : decode cX2_callTo 21 = .ok (.aload_n 0, 1) := by decide +kernel
theorem dX2_callTo_22 : decode cX2_callTo 22 = .ok (.getfield 105, 3) := by decide +kernel
theorem dX2_callTo_25 : decode cX2_callTo 25 = .ok (.istore 4, 2) := by decide +kernel
theorem dX2_callTo_27 : decode cX2_callTo 27 = .ok (.aload_n 0, 1) := by decide +kernel
theorem dX2_callTo_28 : decode cX2_callTo 28 = .ok (.getfield 108, 3) := by decide +kernel
theorem dX2_callTo_31 : decode cX2_callTo 31 = .ok (.istore 5, 2) := by decide +kernel
theorem dX2_callTo_33 : decode cX2_callTo 33 = .ok (.aload_n 0, 1) := by decide +kernel
theorem dX2_callTo_34 : decode cX2_callTo 34 = .ok (.getfield 12, 3) := by decide +kernel
theorem dX2_callTo_37 : decode cX2_callTo 37 = .ok (.iload 4, 2) := by decide +kernel
theorem dX2_callTo_39 : decode cX2_callTo 39 = .ok (.iload 5, 2) := by decide +kernel
theorem dX2_callTo_41 : decode cX2_callTo 41 = .ok (.aload_n 0, 1) := by decide +kernel
theorem dX2_callTo_42 : decode cX2_callTo 42 = .ok (.getfield 111, 3) := by decide +kernel
theorem dX2_callTo_45 : decode cX2_callTo 45 = .ok (.invokevirtual 127, 3) := by decide +kernel
theorem dX2_callTo_48 : decode cX2_callTo 48 = .ok (.istore 6, 2) := by decide +kernel
theorem dX2_callTo_50 : decode cX2_callTo 50 = .ok (.iload 6, 2) := by decide +kernel
theorem dX2_callTo_52 : decode cX2_callTo 52 = .ok (.ifCond .ge 6, 3) := by decide +kernel
theorem dX2_callTo_55 : decode cX2_callTo 55 = .ok (.iload 6, 2) := by decide +kernel
theorem dX2_callTo_57 : decode cX2_callTo 57 = .ok (.ireturn, 1) := by decide +kernel
theorem dX2_callTo_58 : decode cX2_callTo 58 = .ok (.aload_n 0, 1) := by decide +kernel
theorem dX2_callTo_59 : decode cX2_callTo 59 = .ok (.getfield 32, 3) := by decide +kernel
theorem dX2_callTo_62 : decode cX2_callTo 62 = .ok (.aload_n 0, 1) := by decide +kernel
theorem dX2_callTo_63 : decode cX2_callTo 63 = .ok (.getfield 36, 3) := by decide +kernel
theorem dX2_callTo_66 : decode cX2_callTo 66 = .ok (.putfield 130, 3) := by decide +kernel
theorem dX2_callTo_69 : decode cX2_callTo 69 = .ok (.aload_n 0, 1) := by decide +kernel
theorem dX2_callTo_70 : decode cX2_callTo 70 = .ok (.getfield 32, 3) := by decide +kernel
theorem dX2_callTo_73 : decode cX2_callTo 73 = .ok (.aload_n 0, 1) := by decide +kernel
theorem dX2_callTo_74 : decode cX2_callTo 74 = .ok (.getfield 39, 3) := by decide +kernel
theorem dX2_callTo_77 : decode cX2_callTo 77 = .ok (.putfield 131, 3) := by decide +kernel
theorem dX2_callTo_80 : decode cX2_callTo 80 = .ok (.aload_n 0, 1) := by decide +kernel
theorem dX2_callTo_81 : decode cX2_callTo 81 = .ok (.getfield 32, 3) := by decide +kernel
theorem dX2_callTo_84 : decode cX2_callTo 84 = .ok (.aload_n 0, 1) := by decide +kernel
theorem dX2_callTo_85 : decode cX2_callTo 85 = .ok (.getfield 25, 3) := by decide +kernel
theorem dX2_callTo_88 : decode cX2_callTo 88 = .ok (.putfield 132, 3) := by decide +kernel
theorem dX2_callTo_91 : decode cX2_callTo 91 = .ok (.aload_n 0, 1) := by decide +kernel
theorem dX2_callTo_92 : decode cX2_callTo 92 = .ok (.getfield 32, 3) := by decide +kernel
theorem dX2_callTo_95 : decode cX2_callTo 95 = .ok (.iload 6, 2) := by decide +kernel
theorem dX2_callTo_97 : decode cX2_callTo 97 = .ok (.aload_n 0, 1) := by decide +kernel
theorem dX2_callTo_98 : decode cX2_callTo 98 = .ok (.getfield 111, 3) := by decide +kernel
theorem dX2_callTo_101 : decode cX2_callTo 101 = .ok (.if_icmp .le 7, 3) := by decide +kernel
theorem dX2_callTo_104 : decode cX2_callTo 104 = .ok (.iconst 1, 1) := by decide +kernel
theorem dX2_callTo_105 : decode cX2_callTo 105 = .ok (.goto 4, 3) := by decide +kernel
theorem dX2_callTo_108 : decode cX2_callTo 108 = .ok (.iconst 0, 1) := by decide +kernel
theorem dX2_callTo_109 : decode cX2_callTo 109 = .ok (.putfield 133, 3) := by decide +kernel
theorem dX2_callTo_112 : decode cX2_callTo 112 = .ok (.aload_n 0, 1) := by decide +kernel
theorem dX2_callTo_113 : decode cX2_callTo 113 = .ok (.getfield 32, 3) := by decide +kernel
theorem dX2_callTo_116 : decode cX2_callTo 116 = .ok (.iload_n 2, 1) := by decide +kernel
theorem dX2_callTo_117 : decode cX2_callTo 117 = .ok (.putfield 137, 3) := by decide +kernel
theorem dX2_callTo_120 : decode cX2_callTo 120 = .ok (.iconst 0, 1) := by decide +kernel
theorem dX2_callTo_121 : decode cX2_callTo 121 = .ok (.istore 7, 2) := by decide +kernel
theorem dX2_callTo_123 : decode cX2_callTo 123 = .ok (.iload 7, 2) := by decide +kernel
theorem dX2_callTo_125 : decode cX2_callTo 125 = .ok (.iload_n 2, 1) := by decide +kernel
theorem dX2_callTo_126 : decode cX2_callTo 126 = .ok (.if_icmp .ge 54, 3) := by decide +kernel
theorem dX2_callTo_129 : decode cX2_callTo 129 = .ok (.iload 7, 2) := by decide +kernel
theorem dX2_callTo_131 : decode cX2_callTo 131 = .ok (.iconst 3, 1) := by decide +kernel
theorem dX2_callTo_132 : decode cX2_callTo 132 = .ok (.if_icmp .ge 48, 3) := by decide +kernel
theorem dX2_callTo_135 : decode cX2_callTo 135 = .ok (.aload_n 0, 1) := by decide +kernel
theorem dX2_callTo_136 : decode cX2_callTo 136 = .ok (.aload_n 0, 1) := by decide +kernel
theorem dX2_callTo_137 : decode cX2_callTo 137 = .ok (.getfield 36, 3) := by decide +kernel
theorem dX2_callTo_140 : decode cX2_callTo 140 = .ok (.iload_n 1, 1) := by decide +kernel
theorem dX2_callTo_141 : decode cX2_callTo 141 = .ok (.iconst 1, 1) := by decide +kernel
theorem dX2_callTo_142 : decode cX2_callTo 142 = .ok (.iadd, 1) := by decide +kernel
theorem dX2_callTo_143 : decode cX2_callTo 143 = .ok (.iload 7, 2) := by decide +kernel
theorem dX2_callTo_145 : decode cX2_callTo 145 = .ok (.iadd, 1) := by decide +kernel
theorem dX2_callTo_146 : decode cX2_callTo 146 = .ok (.aload_n 0, 1) := by decide +kernel
theorem dX2_callTo_147 : decode cX2_callTo 147 = .ok (.getfield 25, 3) := by decide +kernel
theorem dX2_callTo_150 : decode cX2_callTo 150 = .ok (.iconst 1, 1) := by decide +kernel
theorem dX2_callTo_151 : decode cX2_callTo 151 = .ok (.invokevirtual 101, 3) := by decide +kernel
theorem dX2_callTo_154 : decode cX2_callTo 154 = .ok (.istore_n 3, 1) := by decide +kernel
theorem dX2_callTo_155 : decode cX2_callTo 155 = .ok (.iload_n 3, 1) := by decide +kernel
theorem dX2_callTo_156 : decode cX2_callTo 156 = .ok (.ifCond .eq 5, 3) := by decide +kernel
theorem dX2_callTo_159 : decode cX2_callTo 159 = .ok (.iload_n 3, 1) := by decide +kernel
theorem dX2_callTo_160 : decode cX2_callTo 160 = .ok (.ireturn, 1) := by decide +kernel
theorem dX2_callTo_161 : decode cX2_callTo 161 = .ok (.aload_n 0, 1) := by decide +kernel
theorem dX2_callTo_162 : decode cX2_callTo 162 = .ok (.aload_n 0, 1) := by decide +kernel
theorem dX2_callTo_163 : decode cX2_callTo 163 = .ok (.getfield 32, 3) := by decide +kernel
theorem dX2_callTo_166 : decode cX2_callTo 166 = .ok (.iload 7, 2) := by decide +kernel
theorem dX2_callTo_168 : decode cX2_callTo 168 = .ok (.invokevirtual 140, 3) := by decide +kernel
theorem dX2_callTo_171 : decode cX2_callTo 171 = .ok (.invokevirtual 144, 3) := by decide +kernel
theorem dX2_callTo_174 : decode cX2_callTo 174 = .ok (.iinc 7 1, 3) := by decide +kernel
theorem dX2_callTo_177 : decode cX2_callTo 177 = .ok (.goto (-54), 3) := by decide +kernel
theorem dX2_callTo_180 : decode cX2_callTo 180 = .ok (.aload_n 0, 1) := by decide +kernel
theorem dX2_callTo_181 : decode cX2_callTo 181 = .ok (.getfield 32, 3) := by decide +kernel
theorem dX2_callTo_184 : decode cX2_callTo 184 = .ok (.getfield 133, 3) := by decide +kernel
theorem dX2_callTo_187 : decode cX2_callTo 187 = .ok (.ifCond .eq 10, 3) := by decide +kernel
theorem dX2_callTo_190 : decode cX2_callTo 190 = .ok (.aload_n 0, 1) := by decide +kernel
theorem dX2_callTo_191 : decode cX2_callTo 191 = .ok (.invokevirtual 148, 3) := by decide +kernel
theorem dX2_callTo_194 : decode cX2_callTo 194 = .ok (.goto 4, 3) := by decide +kernel
theorem dX2_callTo_197 : decode cX2_callTo 197 = .ok (.iconst 0, 1) := by decide +kernel
theorem dX2_callTo_198 : decode cX2_callTo 198 = .ok (.istore_n 3, 1) := by decide +kernel
theorem dX2_callTo_199 : decode cX2_callTo 199 = .ok (.iload_n 3, 1) := by decide +kernel
theorem dX2_callTo_200 : decode cX2_callTo 200 = .ok (.ifCond .eq 5, 3) := by decide +kernel
theorem dX2_callTo_203 : decode cX2_callTo 203 = .ok (.iload_n 3, 1) := by decide +kernel
theorem dX2_callTo_204 : decode cX2_callTo 204 = .ok (.ireturn, 1) := by decide +kernel
theorem dX2_callTo_205 : decode cX2_callTo 205 = .ok (.aload_n 0, 1) := by decide +kernel
theorem dX2_callTo_206 : decode cX2_callTo 206 = .ok (.getfield 21, 3) := by decide +kernel
theorem dX2_callTo_209 : decode cX2_callTo 209 = .ok (.iload 6, 2) := by decide +kernel
theorem dX2_callTo_211 : decode cX2_callTo 211 = .ok (.aload_n 0, 1) := by decide +kernel
theorem dX2_callTo_212 : decode cX2_callTo 212 = .ok (.getfield 32, 3) := by decide +kernel
theorem dX2_callTo_215 : decode cX2_callTo 215 = .ok (.invokevirtual 151, 3) := by decide +kernel
theorem dX2_callTo_218 : decode cX2_callTo 218 = .ok (.ifCond .ne 6, 3) := by decide +kernel
theorem dX2_callTo_221 : decode cX2_callTo 221 = .ok (.bipush (-29), 2) := by decide +kernel
theorem dX2_callTo_223 : decode cX2_callTo 223 = .ok (.ireturn, 1) := by decide +kernel
theorem dX2_callTo_224 : decode cX2_callTo 224 = .ok (.aload_n 0, 1) := by decide +kernel
theorem dX2_callTo_225 : decode cX2_callTo 225 = .ok (.iload 4, 2) := by decide +kernel
theorem dX2_callTo_227 : decode cX2_callTo 227 = .ok (.putfield 36, 3) := by decide +kernel
theorem dX2_callTo_230 : decode cX2_callTo 230 = .ok (.aload_n 0, 1) := by decide +kernel
theorem dX2_callTo_231 : decode cX2_callTo 231 = .ok (.iload 5, 2) := by decide +kernel
theorem dX2_callTo_233 : decode cX2_callTo 233 = .ok (.putfield 39, 3) := by decide +kernel
theorem dX2_callTo_236 : decode cX2_callTo 236 = .ok (.aload_n 0, 1) := by decide +kernel
theorem dX2_callTo_237 : decode cX2_callTo 237 = .ok (.iload 6, 2) := by decide +kernel
theorem dX2_callTo_239 : decode cX2_callTo 239 = .ok (.putfield 25, 3) := by decide +kernel
theorem dX2_callTo_242 : decode cX2_callTo 242 = .ok (.iconst 0, 1) := by decide +kernel
theorem dX2_callTo_243 : decode cX2_callTo 243 = .ok (.ireturn, 1) := by decide +kernel
def F_X2_callTo_b198 (o : Nat) (x1 : Int32) (x2 : Int32) (P : VP) (post : Int32 → VP → Prop)  (v4 : Int32) (v5 : Int32) (v6 : Int32) (t0 : Int32) : Prop :=
  (t0 = 0 → F_X4_push o v6 (some ((49 * o + 48))) P (fun r215 P215 => (r215 = 0 → post (((-29) : Int32)) P215) ∧ (¬ r215 = 0 → ∀ P227 : VP, P227 = vup P215 1 o 2 v4 → (∀ P233 : VP, P233 = vup P227 1 o 3 v5 → (∀ P239 : VP, P239 = vup P233 1 o 4 v6 → (post ((0 : Int32)) P239)))))) ∧ (¬ t0 = 0 → post t0 P)
set_option maxRecDepth 4000 in
theorem s_X2_callTo_b198 {l : Launch} {g : vG} {o : Nat} {x1 : Int32} {x2 : Int32} {P Q : VP} {post : Int32 → VP → Prop}  {v4 : Int32} {v5 : Int32} {v6 : Int32} {t0 : Int32}  (ho : o < vcnt 1)  (h : F_X2_callTo_b198 o x1 x2 P post  v4 v5 v6 t0) : VM l g RX2 cX2_callTo 8 (some .int) 4 (vcI Q post) 198 [(0, vR 1 o), (4, vI v4), (5, vI v5), (6, vI v6)] [vI t0] (vjn P Q) := by
  unfold F_X2_callTo_b198 at h
  refine vr_istore_n 3 [(3, vI t0), (0, vR 1 o), (4, vI v4), (5, vI v5), (6, vI v6)] dX2_callTo_198 rfl (by decide) rfl ?_
  refine vr_iload_n 3 0 dX2_callTo_199 rfl rfl ?_
  refine vr_ifeq 205 dX2_callTo_200 (by decide) (fun c200 => ?_) (fun c200 => ?_)
  · have h := h.1 c200
    refine vr_aload_n 0 1 dX2_callTo_205 rfl rfl ?_
    refine vg_1_1 RX2 rfl ho fl_2_21 dX2_callTo_206 ?_
    refine vr_iload 4 dX2_callTo_209 rfl ?_
    refine vr_aload_n 0 1 dX2_callTo_211 rfl rfl ?_
    refine vg_1_6 RX2 rfl ho fl_2_32 dX2_callTo_212 ?_
    refine vr_callV RX2 (s_X4_push ho (vsome (vb_14 ho)) h) rfl ho rfl rfl rfl ml_2_151 rfl yh_X4_push rfl ⟨Nat.le_of_ble_eq_true rfl, Nat.le_of_ble_eq_true rfl⟩ (Nat.le_of_ble_eq_true rfl) ⟨Nat.zero_le _, Nat.zero_le _⟩ dX2_callTo_215 (kci fun r215 P215 h => ?_)
    refine vr_ifne 224 dX2_callTo_218 (by decide) (fun c218 => ?_) (fun c218 => ?_)
    · have h := h.1 c218
      refine vr_bipush (-29) dX2_callTo_221 (by decide) ?_
      exact vr_iret rfl ⟨_, _, rfl, rfl, h⟩ dX2_callTo_223
    · have h := h.2 c218
      refine vr_aload_n 0 1 dX2_callTo_224 rfl rfl ?_
      refine vr_iload 2 dX2_callTo_225 rfl ?_
      obtain ⟨P227, eP227⟩ : ∃ y : VP, y = vup P215 1 o 2 v4 := ⟨_, rfl⟩
      have h := h P227 eP227
      refine vp_1_2 RX2 rfl ho fl_2_36 eP227 dX2_callTo_227 ?_
      refine vr_aload_n 0 1 dX2_callTo_230 rfl rfl ?_
      refine vr_iload 3 dX2_callTo_231 rfl ?_
      obtain ⟨P233, eP233⟩ : ∃ y : VP, y = vup P227 1 o 3 v5 := ⟨_, rfl⟩
      have h := h P233 eP233
      refine vp_1_3 RX2 rfl ho fl_2_39 eP233 dX2_callTo_233 ?_
      refine vr_aload_n 0 1 dX2_callTo_236 rfl rfl ?_
      refine vr_iload 4 dX2_callTo_237 rfl ?_
      obtain ⟨P239, eP239⟩ : ∃ y : VP, y = vup P233 1 o 4 v6 := ⟨_, rfl⟩
      have h := h P239 eP239
      refine vp_1_4 RX2 rfl ho fl_2_25 eP239 dX2_callTo_239 ?_
      refine vr_iconst 0 dX2_callTo_242 (by decide) ?_
      exact vr_iret rfl ⟨_, _, rfl, rfl, h⟩ dX2_callTo_243
  · have h := h.2 c200
    refine vr_iload_n 3 0 dX2_callTo_203 rfl rfl ?_
    exact vr_iret rfl ⟨_, _, rfl, rfl, h⟩ dX2_callTo_204
def F_X2_callTo_b180 (o : Nat) (x1 : Int32) (x2 : Int32) (P : VP) (post : Int32 → VP → Prop)  (v4 : Int32) (v5 : Int32) (v6 : Int32) : Prop :=
  (P 14 ((49 * o + 48)) 3 = 0 → F_X2_callTo_b198 o x1 x2 P post  v4 v5 v6 ((0 : Int32))) ∧ (¬ P 14 ((49 * o + 48)) 3 = 0 → F_X2_takeCopies o P (fun r191 P191 => F_X2_callTo_b198 o x1 x2 P191 post  v4 v5 v6 r191))
set_option maxRecDepth 4000 in
theorem s_X2_callTo_b180 {l : Launch} {g : vG} {o : Nat} {x1 : Int32} {x2 : Int32} {P Q : VP} {post : Int32 → VP → Prop}  {v4 : Int32} {v5 : Int32} {v6 : Int32}  (ho : o < vcnt 1)  (h : F_X2_callTo_b180 o x1 x2 P post  v4 v5 v6) : VM l g RX2 cX2_callTo 8 (some .int) 4 (vcI Q post) 180 [(0, vR 1 o), (4, vI v4), (5, vI v5), (6, vI v6)] [] (vjn P Q) := by
  unfold F_X2_callTo_b180 at h
  refine vr_aload_n 0 0 dX2_callTo_180 rfl rfl ?_
  refine vg_1_6 RX2 rfl ho fl_2_32 dX2_callTo_181 ?_
  refine vg_14_3 RX2 rfl (vb_14 ho) fl_2_133 dX2_callTo_184 ?_
  refine vr_ifeq 197 dX2_callTo_187 (by decide) (fun c187 => ?_) (fun c187 => ?_)
  · have h := h.1 c187
    refine vr_iconst 0 dX2_callTo_197 (by decide) ?_
    exact s_X2_callTo_b198 ho  h
  · have h := h.2 c187
    refine vr_aload_n 0 0 dX2_callTo_190 rfl rfl ?_
    refine vr_callV RX2 (s_X2_takeCopies ho h) rfl ho rfl rfl rfl ml_2_148 rfl yh_X2_takeCopies rfl ⟨Nat.le_of_ble_eq_true rfl, Nat.le_of_ble_eq_true rfl⟩ (Nat.le_of_ble_eq_true rfl) ⟨Nat.zero_le _, Nat.zero_le _⟩ dX2_callTo_191 (kci fun r191 P191 h => ?_)
    refine vr_goto 198 dX2_callTo_194 (by decide) ?_
    exact s_X2_callTo_b198 ho  h
def F_X2_callTo_l123 (o : Nat) (x1 : Int32) (x2 : Int32)  (post : Int32 → VP → Prop)  (v4 : Int32) (v5 : Int32) (v6 : Int32) (X : Int32 → VP → Prop) (v7 : Int32) (P : VP) : Prop :=
  (v7 < x2 → (v7 < 3 → F_X2_seekOperand o (P 1 o 2) ((x1 + 1) + v7) (P 1 o 4) ((1 : Int32)) P (fun r151 P151 => (r151 = 0 → F_X1_argumentAt ((49 * o + 48)) v7 P151 (fun r168 => F_X2_keepPlace o r168 P151 (fun P171 => X (v7 + 1) P171))) ∧ (¬ r151 = 0 → post r151 P151))) ∧ (¬ v7 < 3 → F_X2_callTo_b180 o x1 x2 P post  v4 v5 v6)) ∧ (¬ v7 < x2 → F_X2_callTo_b180 o x1 x2 P post  v4 v5 v6)
set_option maxRecDepth 4000 in
theorem s_X2_callTo_l123 {l : Launch} {g : vG} {o : Nat} {x1 : Int32} {x2 : Int32} {Q : VP} {post : Int32 → VP → Prop}  {v4 : Int32} {v5 : Int32} {v6 : Int32}  {v7 : Int32} {P : VP} (ho : o < vcnt 1)  (h : vL2 (F_X2_callTo_l123 o x1 x2  post  v4 v5 v6) v7 P) : VM l g RX2 cX2_callTo 8 (some .int) 4 (vcI Q post) 123 [(0, vR 1 o), (1, vI x1), (2, vI x2), (4, vI v4), (5, vI v5), (6, vI v6), (7, vI v7)] [] (vjn P Q) := by
  refine vL2_s (T := fun v7 P => VM l g RX2 cX2_callTo 8 (some .int) 4 (vcI Q post) 123 [(0, vR 1 o), (1, vI x1), (2, vI x2), (4, vI v4), (5, vI v5), (6, vI v6), (7, vI v7)] [] (vjn P Q)) ?_ h
  clear h
  intro X hX v7 P h
  unfold F_X2_callTo_l123 at h
  refine vr_iload 6 dX2_callTo_123 rfl ?_
  refine vr_iload_n 2 2 dX2_callTo_125 rfl rfl ?_
  refine vr_icmpge 180 dX2_callTo_126 (by decide) (fun c126 => ?_) (fun c126 => ?_)
  · have h := h.1 c126
    refine vr_iload 6 dX2_callTo_129 rfl ?_
    refine vr_iconst 3 dX2_callTo_131 (by decide) ?_
    refine vr_icmpge 180 dX2_callTo_132 (by decide) (fun c132 => ?_) (fun c132 => ?_)
    · have h := h.1 c132
      refine vr_aload_n 0 0 dX2_callTo_135 rfl rfl ?_
      refine vr_aload_n 0 0 dX2_callTo_136 rfl rfl ?_
      refine vg_1_2 RX2 rfl ho fl_2_36 dX2_callTo_137 ?_
      refine vr_iload_n 1 1 dX2_callTo_140 rfl rfl ?_
      refine vr_iconst 1 dX2_callTo_141 (by decide) ?_
      refine vr_iadd dX2_callTo_142 ?_
      refine vr_iload 6 dX2_callTo_143 rfl ?_
      refine vr_iadd dX2_callTo_145 ?_
      refine vr_aload_n 0 0 dX2_callTo_146 rfl rfl ?_
      refine vg_1_4 RX2 rfl ho fl_2_25 dX2_callTo_147 ?_
      refine vr_iconst 1 dX2_callTo_150 (by decide) ?_
      refine vr_callV RX2 (s_X2_seekOperand ho h) rfl ho rfl rfl rfl ml_2_101 rfl yh_X2_seekOperand rfl ⟨Nat.le_of_ble_eq_true rfl, Nat.le_of_ble_eq_true rfl⟩ (Nat.le_of_ble_eq_true rfl) ⟨Nat.zero_le _, Nat.zero_le _⟩ dX2_callTo_151 (kci fun r151 P151 h => ?_)
      refine vr_istore_n 3 [(3, vI r151), (0, vR 1 o), (1, vI x1), (2, vI x2), (4, vI v4), (5, vI v5), (6, vI v6), (7, vI v7)] dX2_callTo_154 rfl (by decide) rfl ?_
      refine vr_iload_n 3 0 dX2_callTo_155 rfl rfl ?_
      refine vr_ifeq 161 dX2_callTo_156 (by decide) (fun c156 => ?_) (fun c156 => ?_)
      · have h := h.1 c156
        refine vr_aload_n 0 1 dX2_callTo_161 rfl rfl ?_
        refine vr_aload_n 0 1 dX2_callTo_162 rfl rfl ?_
        refine vg_1_6 RX2 rfl ho fl_2_32 dX2_callTo_163 ?_
        refine vr_iload 7 dX2_callTo_166 rfl ?_
        refine vr_callV RX2 (s_X1_argumentAt (vb_14 ho) h) rfl (vb_14 ho) rfl rfl rfl ml_2_140 rfl yh_X1_argumentAt rfl ⟨Nat.le_of_ble_eq_true rfl, Nat.le_of_ble_eq_true rfl⟩ (Nat.le_of_ble_eq_true rfl) ⟨Nat.zero_le _, Nat.zero_le _⟩ dX2_callTo_168 (ko fun r168 hvr168 h => ?_)
        refine vr_callV RX2 (s_X2_keepPlace ho hvr168 h) rfl ho rfl rfl rfl ml_2_144 rfl yh_X2_keepPlace rfl ⟨Nat.le_of_ble_eq_true rfl, Nat.le_of_ble_eq_true rfl⟩ (Nat.le_of_ble_eq_true rfl) ⟨Nat.zero_le _, Nat.zero_le _⟩ dX2_callTo_171 (kcv fun P171 h => ?_)
        refine vr_iinc (v7 + 1) 7 [(7, vI (v7 + 1)), (3, vI r151), (0, vR 1 o), (1, vI x1), (2, vI x2), (4, vI v4), (5, vI v5), (6, vI v6)] dX2_callTo_174 rfl rfl (by decide) rfl ?_
        refine vr_goto 123 dX2_callTo_177 (by decide) ?_
        refine vr_sub [2, 3, 4, 5, 6, 7, 0] [(0, vR 1 o), (1, vI x1), (2, vI x2), (4, vI v4), (5, vI v5), (6, vI v6), (7, vI (v7 + 1))] rfl ?_
        exact hX _ _ h
      · have h := h.2 c156
        refine vr_iload_n 3 0 dX2_callTo_159 rfl rfl ?_
        exact vr_iret rfl ⟨_, _, rfl, rfl, h⟩ dX2_callTo_160
    · have h := h.2 c132
      refine vr_sub [0, 3, 4, 5] [(0, vR 1 o), (4, vI v4), (5, vI v5), (6, vI v6)] rfl ?_
      exact s_X2_callTo_b180 ho  h
  · have h := h.2 c126
    refine vr_sub [0, 3, 4, 5] [(0, vR 1 o), (4, vI v4), (5, vI v5), (6, vI v6)] rfl ?_
    exact s_X2_callTo_b180 ho  h
def F_X2_callTo (o : Nat) (x1 : Int32) (x2 : Int32) (P : VP) (post : Int32 → VP → Prop) : Prop :=
  F_X2_seekOperand o (P 1 o 2) x1 (P 1 o 4) ((1 : Int32)) P (fun r11 P11 => (r11 = 0 → F_X6_ringEntered o (P11 1 o 7) (P11 1 o 8) (P11 1 o 9) P11 (fun r45 => (r45 < 0 → post r45 P11) ∧ (¬ r45 < 0 → ∀ P66 : VP, P66 = vup P11 14 ((49 * o + 48)) 0 (P11 1 o 2) → (∀ P77 : VP, P77 = vup P66 14 ((49 * o + 48)) 1 (P66 1 o 3) → (∀ P88 : VP, P88 = vup P77 14 ((49 * o + 48)) 2 (P77 1 o 4) → ((P88 1 o 9 < r45 → ∀ P109 : VP, P109 = vup P88 14 ((49 * o + 48)) 3 1 → (∀ P117 : VP, P117 = vup P109 14 ((49 * o + 48)) 4 x2 → (vL2 (F_X2_callTo_l123 o x1 x2  post  (P11 1 o 7) (P11 1 o 8) r45) ((0 : Int32)) P117))) ∧ (¬ P88 1 o 9 < r45 → ∀ P109 : VP, P109 = vup P88 14 ((49 * o + 48)) 3 0 → (∀ P117 : VP, P117 = vup P109 14 ((49 * o + 48)) 4 x2 → (vL2 (F_X2_callTo_l123 o x1 x2  post  (P11 1 o 7) (P11 1 o 8) r45) ((0 : Int32)) P117))))))))) ∧ (¬ r11 = 0 → post r11 P11))
set_option maxRecDepth 4000 in
theorem s_X2_callTo {l : Launch} {g : vG} {o : Nat} {x1 : Int32} {x2 : Int32} {P Q : VP} {post : Int32 → VP → Prop} (ho : o < vcnt 1) (h : F_X2_callTo o x1 x2 P post) : VC l g yX2_callTo cX2_callTo 8 (some .int) 4 [vR 1 o, vI x1, vI x2] (vjn P Q) (vcI Q post) := by
  refine VC.of (by decide +kernel) (Nat.le_of_ble_eq_true rfl) (show VM l g RX2 cX2_callTo 8 (some .int) 4 (vcI Q post) 0 [(0, vR 1 o), (1, vI x1), (2, vI x2)] [] (vjn P Q) from ?_)
  unfold F_X2_callTo at h
  refine vr_aload_n 0 0 dX2_callTo_0 rfl rfl ?_
  refine vr_aload_n 0 0 dX2_callTo_1 rfl rfl ?_
  refine vg_1_2 RX2 rfl ho fl_2_36 dX2_callTo_2 ?_
  refine vr_iload_n 1 1 dX2_callTo_5 rfl rfl ?_
  refine vr_aload_n 0 0 dX2_callTo_6 rfl rfl ?_
  refine vg_1_4 RX2 rfl ho fl_2_25 dX2_callTo_7 ?_
  refine vr_iconst 1 dX2_callTo_10 (by decide) ?_
  refine vr_callV RX2 (s_X2_seekOperand ho h) rfl ho rfl rfl rfl ml_2_101 rfl yh_X2_seekOperand rfl ⟨Nat.le_of_ble_eq_true rfl, Nat.le_of_ble_eq_true rfl⟩ (Nat.le_of_ble_eq_true rfl) ⟨Nat.zero_le _, Nat.zero_le _⟩ dX2_callTo_11 (kci fun r11 P11 h => ?_)
  refine vr_istore_n 3 [(3, vI r11), (0, vR 1 o), (1, vI x1), (2, vI x2)] dX2_callTo_14 rfl (by decide) rfl ?_
  refine vr_iload_n 3 0 dX2_callTo_15 rfl rfl ?_
  refine vr_ifeq 21 dX2_callTo_16 (by decide) (fun c16 => ?_) (fun c16 => ?_)
  · have h := h.1 c16
    refine vr_aload_n 0 1 dX2_callTo_21 rfl rfl ?_
    refine vg_1_7 RX2 rfl ho fl_2_105 dX2_callTo_22 ?_
    refine vr_istore [(4, vI (P11 1 o 7)), (3, vI r11), (0, vR 1 o), (1, vI x1), (2, vI x2)] dX2_callTo_25 (by decide) rfl ?_
    refine vr_aload_n 0 2 dX2_callTo_27 rfl rfl ?_
    refine vg_1_8 RX2 rfl ho fl_2_108 dX2_callTo_28 ?_
    refine vr_istore [(5, vI (P11 1 o 8)), (4, vI (P11 1 o 7)), (3, vI r11), (0, vR 1 o), (1, vI x1), (2, vI x2)] dX2_callTo_31 (by decide) rfl ?_
    refine vr_aload_n 0 3 dX2_callTo_33 rfl rfl ?_
    refine vg_1_0 RX2 rfl ho fl_2_12 dX2_callTo_34 ?_
    refine vr_iload 1 dX2_callTo_37 rfl ?_
    refine vr_iload 0 dX2_callTo_39 rfl ?_
    refine vr_aload_n 0 3 dX2_callTo_41 rfl rfl ?_
    refine vg_1_9 RX2 rfl ho fl_2_111 dX2_callTo_42 ?_
    refine vr_callV RX2 (s_X6_ringEntered ho h) rfl ho rfl rfl rfl ml_2_127 rfl yh_X6_ringEntered rfl ⟨Nat.le_of_ble_eq_true rfl, Nat.le_of_ble_eq_true rfl⟩ (Nat.le_of_ble_eq_true rfl) ⟨Nat.zero_le _, Nat.zero_le _⟩ dX2_callTo_45 (ki fun r45 h => ?_)
    refine vr_istore [(6, vI r45), (5, vI (P11 1 o 8)), (4, vI (P11 1 o 7)), (3, vI r11), (0, vR 1 o), (1, vI x1), (2, vI x2)] dX2_callTo_48 (by decide) rfl ?_
    refine vr_iload 0 dX2_callTo_50 rfl ?_
    refine vr_ifge 58 dX2_callTo_52 (by decide) (fun c52 => ?_) (fun c52 => ?_)
    · have h := h.1 c52
      refine vr_iload 0 dX2_callTo_55 rfl ?_
      exact vr_iret rfl ⟨_, _, rfl, rfl, h⟩ dX2_callTo_57
    · have h := h.2 c52
      refine vr_aload_n 0 4 dX2_callTo_58 rfl rfl ?_
      refine vg_1_6 RX2 rfl ho fl_2_32 dX2_callTo_59 ?_
      refine vr_aload_n 0 4 dX2_callTo_62 rfl rfl ?_
      refine vg_1_2 RX2 rfl ho fl_2_36 dX2_callTo_63 ?_
      obtain ⟨P66, eP66⟩ : ∃ y : VP, y = vup P11 14 ((49 * o + 48)) 0 (P11 1 o 2) := ⟨_, rfl⟩
      have h := h P66 eP66
      refine vp_14_0 RX2 rfl (vb_14 ho) fl_2_130 eP66 dX2_callTo_66 ?_
      refine vr_aload_n 0 4 dX2_callTo_69 rfl rfl ?_
      refine vg_1_6 RX2 rfl ho fl_2_32 dX2_callTo_70 ?_
      refine vr_aload_n 0 4 dX2_callTo_73 rfl rfl ?_
      refine vg_1_3 RX2 rfl ho fl_2_39 dX2_callTo_74 ?_
      obtain ⟨P77, eP77⟩ : ∃ y : VP, y = vup P66 14 ((49 * o + 48)) 1 (P66 1 o 3) := ⟨_, rfl⟩
      have h := h P77 eP77
      refine vp_14_1 RX2 rfl (vb_14 ho) fl_2_131 eP77 dX2_callTo_77 ?_
      refine vr_aload_n 0 4 dX2_callTo_80 rfl rfl ?_
      refine vg_1_6 RX2 rfl ho fl_2_32 dX2_callTo_81 ?_
      refine vr_aload_n 0 4 dX2_callTo_84 rfl rfl ?_
      refine vg_1_4 RX2 rfl ho fl_2_25 dX2_callTo_85 ?_
      obtain ⟨P88, eP88⟩ : ∃ y : VP, y = vup P77 14 ((49 * o + 48)) 2 (P77 1 o 4) := ⟨_, rfl⟩
      have h := h P88 eP88
      refine vp_14_2 RX2 rfl (vb_14 ho) fl_2_132 eP88 dX2_callTo_88 ?_
      refine vr_aload_n 0 4 dX2_callTo_91 rfl rfl ?_
      refine vg_1_6 RX2 rfl ho fl_2_32 dX2_callTo_92 ?_
      refine vr_iload 0 dX2_callTo_95 rfl ?_
      refine vr_aload_n 0 4 dX2_callTo_97 rfl rfl ?_
      refine vg_1_9 RX2 rfl ho fl_2_111 dX2_callTo_98 ?_
      refine vr_icmple 108 dX2_callTo_101 (by decide) (fun c101 => ?_) (fun c101 => ?_)
      · have h := h.1 c101
        refine vr_iconst 1 dX2_callTo_104 (by decide) ?_
        refine vr_goto 109 dX2_callTo_105 (by decide) ?_
        obtain ⟨P109, eP109⟩ : ∃ y : VP, y = vup P88 14 ((49 * o + 48)) 3 1 := ⟨_, rfl⟩
        have h := h P109 eP109
        refine vp_14_3 RX2 rfl (vb_14 ho) fl_2_133 (Or.inr rfl) eP109 dX2_callTo_109 ?_
        refine vr_aload_n 0 4 dX2_callTo_112 rfl rfl ?_
        refine vg_1_6 RX2 rfl ho fl_2_32 dX2_callTo_113 ?_
        refine vr_iload_n 2 6 dX2_callTo_116 rfl rfl ?_
        obtain ⟨P117, eP117⟩ : ∃ y : VP, y = vup P109 14 ((49 * o + 48)) 4 x2 := ⟨_, rfl⟩
        have h := h P117 eP117
        refine vp_14_4 RX2 rfl (vb_14 ho) fl_2_137 eP117 dX2_callTo_117 ?_
        refine vr_iconst 0 dX2_callTo_120 (by decide) ?_
        refine vr_istore [(7, vI 0), (6, vI r45), (5, vI (P11 1 o 8)), (4, vI (P11 1 o 7)), (3, vI r11), (0, vR 1 o), (1, vI x1), (2, vI x2)] dX2_callTo_121 (by decide) rfl ?_
        refine vr_sub [5, 6, 7, 3, 2, 1, 0] [(0, vR 1 o), (1, vI x1), (2, vI x2), (4, vI (P11 1 o 7)), (5, vI (P11 1 o 8)), (6, vI r45), (7, vI 0)] rfl ?_
        exact s_X2_callTo_l123 ho  h
      · have h := h.2 c101
        refine vr_iconst 0 dX2_callTo_108 (by decide) ?_
        obtain ⟨P109, eP109⟩ : ∃ y : VP, y = vup P88 14 ((49 * o + 48)) 3 0 := ⟨_, rfl⟩
        have h := h P109 eP109
        refine vp_14_3 RX2 rfl (vb_14 ho) fl_2_133 (Or.inl rfl) eP109 dX2_callTo_109 ?_
        refine vr_aload_n 0 4 dX2_callTo_112 rfl rfl ?_
        refine vg_1_6 RX2 rfl ho fl_2_32 dX2_callTo_113 ?_
        refine vr_iload_n 2 6 dX2_callTo_116 rfl rfl ?_
        obtain ⟨P117, eP117⟩ : ∃ y : VP, y = vup P109 14 ((49 * o + 48)) 4 x2 := ⟨_, rfl⟩
        have h := h P117 eP117
        refine vp_14_4 RX2 rfl (vb_14 ho) fl_2_137 eP117 dX2_callTo_117 ?_
        refine vr_iconst 0 dX2_callTo_120 (by decide) ?_
        refine vr_istore [(7, vI 0), (6, vI r45), (5, vI (P11 1 o 8)), (4, vI (P11 1 o 7)), (3, vI r11), (0, vR 1 o), (1, vI x1), (2, vI x2)] dX2_callTo_121 (by decide) rfl ?_
        refine vr_sub [5, 6, 7, 3, 2, 1, 0] [(0, vR 1 o), (1, vI x1), (2, vI x2), (4, vI (P11 1 o 7)), (5, vI (P11 1 o 8)), (6, vI r45), (7, vI 0)] rfl ?_
        exact s_X2_callTo_l123 ho  h
  · have h := h.2 c16
    refine vr_iload_n 3 0 dX2_callTo_19 rfl rfl ?_
    exact vr_iret rfl ⟨_, _, rfl, rfl, h⟩ dX2_callTo_20
theorem dX3_letsWrite_0 : decode cX3_letsWrite 0 = .ok (.aload_n 0, 1) := by decide +kernel
theorem dX3_letsWrite_1 : decode cX3_letsWrite 1 = .ok (.getfield 29, 3) := by decide +kernel
theorem dX3_letsWrite_4 : decode cX3_letsWrite 4 = .ok (.iconst 2, 1) := by decide +kernel
theorem dX3_letsWrite_5 : decode cX3_letsWrite 5 = .ok (.iand, 1) := by decide +kernel
theorem dX3_letsWrite_6 : decode cX3_letsWrite 6 = .ok (.ifCond .eq 15, 3) := by decide +kernel
theorem dX3_letsWrite_9 : decode cX3_letsWrite 9 = .ok (.iload_n 1, 1) := by decide +kernel
theorem dX3_letsWrite_10 : decode cX3_letsWrite 10 = .ok (.aload_n 0, 1) := by decide +kernel
theorem dX3_letsWrite_11 : decode cX3_letsWrite 11 = .ok (.getfield 35, 3) := by decide +kernel
theorem dX3_letsWrite_14 : decode cX3_letsWrite 14 = .ok (.if_icmp .gt 7, 3) := by decide +kernel
theorem dX3_letsWrite_17 : decode cX3_letsWrite 17 = .ok (.iconst 1, 1) := by decide +kernel
theorem dX3_letsWrite_18 : decode cX3_letsWrite 18 = .ok (.goto 4, 3) := by decide +kernel
theorem dX3_letsWrite_21 : decode cX3_letsWrite 21 = .ok (.iconst 0, 1) := by decide +kernel
theorem dX3_letsWrite_22 : decode cX3_letsWrite 22 = .ok (.ireturn, 1) := by decide +kernel
def F_X3_letsWrite (o : Nat) (x1 : Int32) (P : VP) (post : Int32 → Prop) : Prop :=
  ((P 7 o 8) &&& 2 = 0 → post ((0 : Int32))) ∧ (¬ (P 7 o 8) &&& 2 = 0 → (P 7 o 5 < x1 → post ((0 : Int32))) ∧ (¬ P 7 o 5 < x1 → post ((1 : Int32))))
set_option maxRecDepth 4000 in
theorem s_X3_letsWrite {l : Launch} {g : vG} {o : Nat} {x1 : Int32} {P Q : VP} {post : Int32 → Prop} (ho : o < vcnt 7) (h : F_X3_letsWrite o x1 P post) : VC l g yX3_letsWrite cX3_letsWrite 2 (some .boolean) 0 [vR 7 o, vI x1] (vjn P Q) (vpI (vjn P Q) post) := by
  refine VC.of (by decide +kernel) (Nat.le_of_ble_eq_true rfl) (show VM l g RX3 cX3_letsWrite 2 (some .boolean) 0 (vpI (vjn P Q) post) 0 [(0, vR 7 o), (1, vI x1)] [] (vjn P Q) from ?_)
  unfold F_X3_letsWrite at h
  refine vr_aload_n 0 0 dX3_letsWrite_0 rfl rfl ?_
  refine vg_7_8 RX3 rfl ho fl_3_29 dX3_letsWrite_1 ?_
  refine vr_iconst 2 dX3_letsWrite_4 (by decide) ?_
  refine vr_iand dX3_letsWrite_5 ?_
  refine vr_ifeq 21 dX3_letsWrite_6 (by decide) (fun c6 => ?_) (fun c6 => ?_)
  · have h := h.1 c6
    refine vr_iconst 0 dX3_letsWrite_21 (by decide) ?_
    exact vr_zret rfl (Or.inl rfl) ⟨rfl, _, rfl, h⟩ dX3_letsWrite_22
  · have h := h.2 c6
    refine vr_iload_n 1 1 dX3_letsWrite_9 rfl rfl ?_
    refine vr_aload_n 0 0 dX3_letsWrite_10 rfl rfl ?_
    refine vg_7_5 RX3 rfl ho fl_3_35 dX3_letsWrite_11 ?_
    refine vr_icmpgt 21 dX3_letsWrite_14 (by decide) (fun c14 => ?_) (fun c14 => ?_)
    · have h := h.1 c14
      refine vr_iconst 0 dX3_letsWrite_21 (by decide) ?_
      exact vr_zret rfl (Or.inl rfl) ⟨rfl, _, rfl, h⟩ dX3_letsWrite_22
    · have h := h.2 c14
      refine vr_iconst 1 dX3_letsWrite_17 (by decide) ?_
      refine vr_goto 22 dX3_letsWrite_18 (by decide) ?_
      exact vr_zret rfl (Or.inr rfl) ⟨rfl, _, rfl, h⟩ dX3_letsWrite_22
theorem dX2_faultOfStore_0 : decode cX2_faultOfStore 0 = .ok (.aload_n 0, 1) := by decide +kernel
theorem dX2_faultOfStore_1 : decode cX2_faultOfStore 1 = .ok (.getfield 12, 3) := by decide +kernel
theorem dX2_faultOfStore_4 : decode cX2_faultOfStore 4 = .ok (.iload_n 1, 1) := by decide +kernel
theorem dX2_faultOfStore_5 : decode cX2_faultOfStore 5 = .ok (.invokevirtual 59, 3) := by decide +kernel
theorem dX2_faultOfStore_8 : decode cX2_faultOfStore 8 = .ok (.astore 4, 2) := by decide +kernel
theorem dX2_faultOfStore_10 : decode cX2_faultOfStore 10 = .ok (.aload 4, 2) := by decide +kernel
theorem dX2_faultOfStore_12 : decode cX2_faultOfStore 12 = .ok (.ifnonnull 6, 3) := by decide +kernel
theorem dX2_faultOfStore_15 : decode cX2_faultOfStore 15 = .ok (.bipush (-20), 2) := by decide +kernel
theorem dX2_faultOfStore_17 : decode cX2_faultOfStore 17 = .ok (.ireturn, 1) := by decide +kernel
theorem dX2_faultOfStore_18 : decode cX2_faultOfStore 18 = .ok (.aload 4, 2) := by decide +kernel
theorem dX2_faultOfStore_20 : decode cX2_faultOfStore 20 = .ok (.iload_n 2, 1) := by decide +kernel
theorem dX2_faultOfStore_21 : decode cX2_faultOfStore 21 = .ok (.invokevirtual 63, 3) := by decide +kernel
theorem dX2_faultOfStore_24 : decode cX2_faultOfStore 24 = .ok (.ifCond .ne 6, 3) := by decide +kernel
theorem dX2_faultOfStore_27 : decode cX2_faultOfStore 27 = .ok (.bipush (-21), 2) := by decide +kernel
theorem dX2_faultOfStore_29 : decode cX2_faultOfStore 29 = .ok (.ireturn, 1) := by decide +kernel
theorem dX2_faultOfStore_30 : decode cX2_faultOfStore 30 = .ok (.aload 4, 2) := by decide +kernel
theorem dX2_faultOfStore_32 : decode cX2_faultOfStore 32 = .ok (.iload_n 3, 1) := by decide +kernel
theorem dX2_faultOfStore_33 : decode cX2_faultOfStore 33 = .ok (.invokevirtual 217, 3) := by decide +kernel
theorem dX2_faultOfStore_36 : decode cX2_faultOfStore 36 = .ok (.ifCond .eq 7, 3) := by decide +kernel
theorem dX2_faultOfStore_39 : decode cX2_faultOfStore 39 = .ok (.iconst 0, 1) := by decide +kernel
theorem dX2_faultOfStore_40 : decode cX2_faultOfStore 40 = .ok (.goto 5, 3) := by decide +kernel
theorem dX2_faultOfStore_43 : decode cX2_faultOfStore 43 = .ok (.bipush (-22), 2) := by decide +kernel
theorem dX2_faultOfStore_45 : decode cX2_faultOfStore 45 = .ok (.ireturn, 1) := by decide +kernel
def F_X2_faultOfStore (o : Nat) (x1 : Int32) (x2 : Int32) (x3 : Int32) (P : VP) (post : Int32 → Prop) : Prop :=
  (F_X6_find o x1 P (fun r5 => match r5 with | none => (post (((-20) : Int32))) | some yr5 => (F_X3_has yr5 x2 P (fun r21 => (r21 = 0 → post (((-21) : Int32))) ∧ (¬ r21 = 0 → F_X3_letsWrite yr5 x3 P (fun r33 => (r33 = 0 → post (((-22) : Int32))) ∧ (¬ r33 = 0 → post ((0 : Int32)))))))))
set_option maxRecDepth 4000 in
theorem s_X2_faultOfStore {l : Launch} {g : vG} {o : Nat} {x1 : Int32} {x2 : Int32} {x3 : Int32} {P Q : VP} {post : Int32 → Prop} (ho : o < vcnt 1) (h : F_X2_faultOfStore o x1 x2 x3 P post) : VC l g yX2_faultOfStore cX2_faultOfStore 5 (some .int) 1 [vR 1 o, vI x1, vI x2, vI x3] (vjn P Q) (vpI (vjn P Q) post) := by
  refine VC.of (by decide +kernel) (Nat.le_of_ble_eq_true rfl) (show VM l g RX2 cX2_faultOfStore 5 (some .int) 1 (vpI (vjn P Q) post) 0 [(0, vR 1 o), (1, vI x1), (2, vI x2), (3, vI x3)] [] (vjn P Q) from ?_)
  unfold F_X2_faultOfStore at h
  refine vr_aload_n 0 0 dX2_faultOfStore_0 rfl rfl ?_
  refine vg_1_0 RX2 rfl ho fl_2_12 dX2_faultOfStore_1 ?_
  refine vr_iload_n 1 1 dX2_faultOfStore_4 rfl rfl ?_
  refine vr_callV RX2 (s_X6_find ho h) rfl ho rfl rfl rfl ml_2_59 rfl yh_X6_find rfl ⟨Nat.le_of_ble_eq_true rfl, Nat.le_of_ble_eq_true rfl⟩ (Nat.le_of_ble_eq_true rfl) ⟨Nat.zero_le _, Nat.zero_le _⟩ dX2_faultOfStore_5 (ko fun r5 hvr5 h => ?_)
  refine vr_astore [(4, vO 7 r5), (0, vR 1 o), (1, vI x1), (2, vI x2), (3, vI x3)] dX2_faultOfStore_8 (by decide) rfl ?_
  refine vr_aload 0 dX2_faultOfStore_10 rfl ?_
  rcases r5 with _ | yr5
  · refine vr_ifnonnullN dX2_faultOfStore_12 ?_
    refine vr_bipush (-20) dX2_faultOfStore_15 (by decide) ?_
    exact vr_iret rfl ⟨rfl, _, rfl, h⟩ dX2_faultOfStore_17
  · refine vr_ifnonnullR 18 dX2_faultOfStore_12 (by decide) ?_
    refine vr_aload 0 dX2_faultOfStore_18 rfl ?_
    refine vr_iload_n 2 3 dX2_faultOfStore_20 rfl rfl ?_
    refine vr_callV RX2 (s_X3_has (hvr5 _ rfl) h) rfl (hvr5 _ rfl) rfl rfl rfl ml_2_63 rfl yh_X3_has rfl ⟨Nat.le_of_ble_eq_true rfl, Nat.le_of_ble_eq_true rfl⟩ (Nat.le_of_ble_eq_true rfl) ⟨Nat.zero_le _, Nat.zero_le _⟩ dX2_faultOfStore_21 (ki fun r21 h => ?_)
    refine vr_ifne 30 dX2_faultOfStore_24 (by decide) (fun c24 => ?_) (fun c24 => ?_)
    · have h := h.1 c24
      refine vr_bipush (-21) dX2_faultOfStore_27 (by decide) ?_
      exact vr_iret rfl ⟨rfl, _, rfl, h⟩ dX2_faultOfStore_29
    · have h := h.2 c24
      refine vr_aload 0 dX2_faultOfStore_30 rfl ?_
      refine vr_iload_n 3 4 dX2_faultOfStore_32 rfl rfl ?_
      refine vr_callV RX2 (s_X3_letsWrite (hvr5 _ rfl) h) rfl (hvr5 _ rfl) rfl rfl rfl ml_2_217 rfl yh_X3_letsWrite rfl ⟨Nat.le_of_ble_eq_true rfl, Nat.le_of_ble_eq_true rfl⟩ (Nat.le_of_ble_eq_true rfl) ⟨Nat.zero_le _, Nat.zero_le _⟩ dX2_faultOfStore_33 (ki fun r33 h => ?_)
      refine vr_ifeq 43 dX2_faultOfStore_36 (by decide) (fun c36 => ?_) (fun c36 => ?_)
      · have h := h.1 c36
        refine vr_bipush (-22) dX2_faultOfStore_43 (by decide) ?_
        exact vr_iret rfl ⟨rfl, _, rfl, h⟩ dX2_faultOfStore_45
      · have h := h.2 c36
        refine vr_iconst 0 dX2_faultOfStore_39 (by decide) ?_
        refine vr_goto 45 dX2_faultOfStore_40 (by decide) ?_
        exact vr_iret rfl ⟨rfl, _, rfl, h⟩ dX2_faultOfStore_45
theorem dX2_store_0 : decode cX2_store 0 = .ok (.aload_n 0, 1) := by decide +kernel
theorem dX2_store_1 : decode cX2_store 1 = .ok (.getfield 12, 3) := by decide +kernel
theorem dX2_store_4 : decode cX2_store 4 = .ok (.iload_n 1, 1) := by decide +kernel
theorem dX2_store_5 : decode cX2_store 5 = .ok (.invokevirtual 59, 3) := by decide +kernel
theorem dX2_store_8 : decode cX2_store 8 = .ok (.astore 4, 2) := by decide +kernel
theorem dX2_store_10 : decode cX2_store 10 = .ok (.aload 4, 2) := by decide +kernel
theorem dX2_store_12 : decode cX2_store 12 = .ok (.ifnull 12, 3) := by decide +kernel
theorem dX2_store_15 : decode cX2_store 15 = .ok (.aload 4, 2) := by decide +kernel
theorem dX2_store_17 : decode cX2_store 17 = .ok (.iload_n 2, 1) := by decide +kernel
theorem dX2_store_18 : decode cX2_store 18 = .ok (.iconst 1, 1) := by decide +kernel
theorem dX2_store_19 : decode cX2_store 19 = .ok (.iload_n 3, 1) := by decide +kernel
theorem dX2_store_20 : decode cX2_store 20 = .ok (.iconst 0, 1) := by decide +kernel
theorem dX2_store_21 : decode cX2_store 21 = .ok (.invokevirtual 201, 3) := by decide +kernel
theorem dX2_store_24 : decode cX2_store 24 = .ok (.return_, 1) := by decide +kernel
def F_X2_store (o : Nat) (x1 : Int32) (x2 : Int32) (x3 : Int32) (P : VP) (post : VP → Prop) : Prop :=
  (F_X6_find o x1 P (fun r5 => match r5 with | none => (post P) | some yr5 => (F_X3_become yr5 x2 ((1 : Int32)) x3 ((0 : Int32)) P (fun P21 => post P21))))
set_option maxRecDepth 4000 in
theorem s_X2_store {l : Launch} {g : vG} {o : Nat} {x1 : Int32} {x2 : Int32} {x3 : Int32} {P Q : VP} {post : VP → Prop} (ho : o < vcnt 1) (h : F_X2_store o x1 x2 x3 P post) : VC l g yX2_store cX2_store 5 none 2 [vR 1 o, vI x1, vI x2, vI x3] (vjn P Q) (vcV Q post) := by
  refine VC.of (by decide +kernel) (Nat.le_of_ble_eq_true rfl) (show VM l g RX2 cX2_store 5 none 2 (vcV Q post) 0 [(0, vR 1 o), (1, vI x1), (2, vI x2), (3, vI x3)] [] (vjn P Q) from ?_)
  unfold F_X2_store at h
  refine vr_aload_n 0 0 dX2_store_0 rfl rfl ?_
  refine vg_1_0 RX2 rfl ho fl_2_12 dX2_store_1 ?_
  refine vr_iload_n 1 1 dX2_store_4 rfl rfl ?_
  refine vr_callV RX2 (s_X6_find ho h) rfl ho rfl rfl rfl ml_2_59 rfl yh_X6_find rfl ⟨Nat.le_of_ble_eq_true rfl, Nat.le_of_ble_eq_true rfl⟩ (Nat.le_of_ble_eq_true rfl) ⟨Nat.zero_le _, Nat.zero_le _⟩ dX2_store_5 (ko fun r5 hvr5 h => ?_)
  refine vr_astore [(4, vO 7 r5), (0, vR 1 o), (1, vI x1), (2, vI x2), (3, vI x3)] dX2_store_8 (by decide) rfl ?_
  refine vr_aload 0 dX2_store_10 rfl ?_
  rcases r5 with _ | yr5
  · refine vr_ifnullN 24 dX2_store_12 (by decide) ?_
    exact vr_vret rfl ⟨_, rfl, rfl, h⟩ dX2_store_24
  · refine vr_ifnullR dX2_store_12 ?_
    refine vr_aload 0 dX2_store_15 rfl ?_
    refine vr_iload_n 2 3 dX2_store_17 rfl rfl ?_
    refine vr_iconst 1 dX2_store_18 (by decide) ?_
    refine vr_iload_n 3 4 dX2_store_19 rfl rfl ?_
    refine vr_iconst 0 dX2_store_20 (by decide) ?_
    refine vr_callV RX2 (s_X3_become (hvr5 _ rfl) h) rfl (hvr5 _ rfl) rfl rfl rfl ml_2_201 rfl yh_X3_become rfl ⟨Nat.le_of_ble_eq_true rfl, Nat.le_of_ble_eq_true rfl⟩ (Nat.le_of_ble_eq_true rfl) ⟨Nat.zero_le _, Nat.zero_le _⟩ dX2_store_21 (kcv fun P21 h => ?_)
    exact vr_vret rfl ⟨_, rfl, rfl, h⟩ dX2_store_24
theorem dX2_putCopiesBack_0 : decode cX2_putCopiesBack 0 = .ok (.iconst 0, 1) := by decide +kernel
theorem dX2_putCopiesBack_1 : decode cX2_putCopiesBack 1 = .ok (.istore_n 2, 1) := by decide +kernel
theorem dX2_putCopiesBack_2 : decode cX2_putCopiesBack 2 = .ok (.iload_n 2, 1) := by decide +kernel
theorem dX2_putCopiesBack_3 : decode cX2_putCopiesBack 3 = .ok (.aload_n 1, 1) := by decide +kernel
theorem dX2_putCopiesBack_4 : decode cX2_putCopiesBack 4 = .ok (.getfield 137, 3) := by decide +kernel
theorem dX2_putCopiesBack_7 : decode cX2_putCopiesBack 7 = .ok (.if_icmp .ge 52, 3) := by decide +kernel
theorem dX2_putCopiesBack_10 : decode cX2_putCopiesBack 10 = .ok (.aload_n 1, 1) := by decide +kernel
theorem dX2_putCopiesBack_11 : decode cX2_putCopiesBack 11 = .ok (.iload_n 2, 1) := by decide +kernel
theorem dX2_putCopiesBack_12 : decode cX2_putCopiesBack 12 = .ok (.invokevirtual 140, 3) := by decide +kernel
theorem dX2_putCopiesBack_15 : decode cX2_putCopiesBack 15 = .ok (.astore_n 3, 1) := by decide +kernel
theorem dX2_putCopiesBack_16 : decode cX2_putCopiesBack 16 = .ok (.aload_n 3, 1) := by decide +kernel
theorem dX2_putCopiesBack_17 : decode cX2_putCopiesBack 17 = .ok (.ifnull 36, 3) := by decide +kernel
theorem dX2_putCopiesBack_20 : decode cX2_putCopiesBack 20 = .ok (.aload_n 3, 1) := by decide +kernel
theorem dX2_putCopiesBack_21 : decode cX2_putCopiesBack 21 = .ok (.getfield 160, 3) := by decide +kernel
theorem dX2_putCopiesBack_24 : decode cX2_putCopiesBack 24 = .ok (.ifCond .eq 29, 3) := by decide +kernel
theorem dX2_putCopiesBack_27 : decode cX2_putCopiesBack 27 = .ok (.aload_n 0, 1) := by decide +kernel
theorem dX2_putCopiesBack_28 : decode cX2_putCopiesBack 28 = .ok (.aload_n 3, 1) := by decide +kernel
theorem dX2_putCopiesBack_29 : decode cX2_putCopiesBack 29 = .ok (.getfield 155, 3) := by decide +kernel
theorem dX2_putCopiesBack_32 : decode cX2_putCopiesBack 32 = .ok (.aload_n 3, 1) := by decide +kernel
theorem dX2_putCopiesBack_33 : decode cX2_putCopiesBack 33 = .ok (.getfield 158, 3) := by decide +kernel
theorem dX2_putCopiesBack_36 : decode cX2_putCopiesBack 36 = .ok (.aload_n 3, 1) := by decide +kernel
theorem dX2_putCopiesBack_37 : decode cX2_putCopiesBack 37 = .ok (.getfield 159, 3) := by decide +kernel
theorem dX2_putCopiesBack_40 : decode cX2_putCopiesBack 40 = .ok (.invokevirtual 120, 3) := by decide +kernel
theorem dX2_putCopiesBack_43 : decode cX2_putCopiesBack 43 = .ok (.istore 4, 2) := by decide +kernel
theorem dX2_putCopiesBack_45 : decode cX2_putCopiesBack 45 = .ok (.iload 4, 2) := by decide +kernel
theorem dX2_putCopiesBack_47 : decode cX2_putCopiesBack 47 = .ok (.ifCond .eq 6, 3) := by decide +kernel
theorem dX2_putCopiesBack_50 : decode cX2_putCopiesBack 50 = .ok (.iload 4, 2) := by decide +kernel
theorem dX2_putCopiesBack_52 : decode cX2_putCopiesBack 52 = .ok (.ireturn, 1) := by decide +kernel
theorem dX2_putCopiesBack_53 : decode cX2_putCopiesBack 53 = .ok (.iinc 2 1, 3) := by decide +kernel
theorem dX2_putCopiesBack_56 : decode cX2_putCopiesBack 56 = .ok (.goto (-54), 3) := by decide +kernel
theorem dX2_putCopiesBack_59 : decode cX2_putCopiesBack 59 = .ok (.iconst 0, 1) := by decide +kernel
theorem dX2_putCopiesBack_60 : decode cX2_putCopiesBack 60 = .ok (.istore_n 2, 1) := by decide +kernel
theorem dX2_putCopiesBack_61 : decode cX2_putCopiesBack 61 = .ok (.iload_n 2, 1) := by decide +kernel
theorem dX2_putCopiesBack_62 : decode cX2_putCopiesBack 62 = .ok (.aload_n 1, 1) := by decide +kernel
theorem dX2_putCopiesBack_63 : decode cX2_putCopiesBack 63 = .ok (.getfield 137, 3) := by decide +kernel
theorem dX2_putCopiesBack_66 : decode cX2_putCopiesBack 66 = .ok (.if_icmp .ge 42, 3) := by decide +kernel
theorem dX2_putCopiesBack_69 : decode cX2_putCopiesBack 69 = .ok (.aload_n 1, 1) := by decide +kernel
theorem dX2_putCopiesBack_70 : decode cX2_putCopiesBack 70 = .ok (.iload_n 2, 1) := by decide +kernel
theorem dX2_putCopiesBack_71 : decode cX2_putCopiesBack 71 = .ok (.invokevirtual 140, 3) := by decide +kernel
theorem dX2_putCopiesBack_74 : decode cX2_putCopiesBack 74 = .ok (.astore_n 3, 1) := by decide +kernel
theorem dX2_putCopiesBack_75 : decode cX2_putCopiesBack 75 = .ok (.aload_n 3, 1) := by decide +kernel
theorem dX2_putCopiesBack_76 : decode cX2_putCopiesBack 76 = .ok (.ifnull 26, 3) := by decide +kernel
theorem dX2_putCopiesBack_79 : decode cX2_putCopiesBack 79 = .ok (.aload_n 3, 1) := by decide +kernel
theorem dX2_putCopiesBack_80 : decode cX2_putCopiesBack 80 = .ok (.getfield 160, 3) := by decide +kernel
theorem dX2_putCopiesBack_83 : decode cX2_putCopiesBack 83 = .ok (.ifCond .eq 19, 3) := by decide +kernel
theorem dX2_putCopiesBack_86 : decode cX2_putCopiesBack 86 = .ok (.aload_n 0, 1) := by decide +kernel
theorem dX2_putCopiesBack_87 : decode cX2_putCopiesBack 87 = .ok (.aload_n 3, 1) := by decide +kernel
theorem dX2_putCopiesBack_88 : decode cX2_putCopiesBack 88 = .ok (.getfield 155, 3) := by decide +kernel
theorem dX2_putCopiesBack_91 : decode cX2_putCopiesBack 91 = .ok (.aload_n 3, 1) := by decide +kernel
theorem dX2_putCopiesBack_92 : decode cX2_putCopiesBack 92 = .ok (.getfield 158, 3) := by decide +kernel
theorem dX2_putCopiesBack_95 : decode cX2_putCopiesBack 95 = .ok (.aload_n 3, 1) := by decide +kernel
theorem dX2_putCopiesBack_96 : decode cX2_putCopiesBack 96 = .ok (.getfield 163, 3) := by decide +kernel
theorem dX2_putCopiesBack_99 : decode cX2_putCopiesBack 99 = .ok (.invokevirtual 123, 3) := by decide +kernel
theorem dX2_putCopiesBack_102 : decode cX2_putCopiesBack 102 = .ok (.iinc 2 1, 3) := by decide +kernel
theorem dX2_putCopiesBack_105 : decode cX2_putCopiesBack 105 = .ok (.goto (-44), 3) := by decide +kernel
theorem dX2_putCopiesBack_108 : decode cX2_putCopiesBack 108 = .ok (.iconst 0, 1) := by decide +kernel
theorem dX2_putCopiesBack_109 : decode cX2_putCopiesBack 109 = .ok (.ireturn, 1) := by decide +kernel
def F_X2_putCopiesBack_l61 (o : Nat) (y1 : Nat)  (post : Int32 → VP → Prop)   (X : Int32 → VP → Prop) (v2 : Int32) (P : VP) : Prop :=
  (v2 < P 14 y1 4 → (F_X1_argumentAt y1 v2 P (fun r71 => match r71 with | none => (X (v2 + 1) P) | some yr71 => ((P 16 yr71 4 = 0 → X (v2 + 1) P) ∧ (¬ P 16 yr71 4 = 0 → F_X2_store o (P 16 yr71 0) (P 16 yr71 1) (P 16 yr71 3) P (fun P99 => X (v2 + 1) P99)))))) ∧ (¬ v2 < P 14 y1 4 → post ((0 : Int32)) P)
set_option maxRecDepth 4000 in
theorem s_X2_putCopiesBack_l61 {l : Launch} {g : vG} {o : Nat} {y1 : Nat} {Q : VP} {post : Int32 → VP → Prop}    {v2 : Int32} {P : VP} (ho : o < vcnt 1) (hy1 : y1 < vcnt 14)  (h : vL2 (F_X2_putCopiesBack_l61 o y1  post  ) v2 P) : VM l g RX2 cX2_putCopiesBack 5 (some .int) 3 (vcI Q post) 61 [(0, vR 1 o), (1, vR 14 y1), (2, vI v2)] [] (vjn P Q) := by
  refine vL2_s (T := fun v2 P => VM l g RX2 cX2_putCopiesBack 5 (some .int) 3 (vcI Q post) 61 [(0, vR 1 o), (1, vR 14 y1), (2, vI v2)] [] (vjn P Q)) ?_ h
  clear h
  intro X hX v2 P h
  unfold F_X2_putCopiesBack_l61 at h
  refine vr_iload_n 2 2 dX2_putCopiesBack_61 rfl rfl ?_
  refine vr_aload_n 1 1 dX2_putCopiesBack_62 rfl rfl ?_
  refine vg_14_4 RX2 rfl hy1 fl_2_137 dX2_putCopiesBack_63 ?_
  refine vr_icmpge 108 dX2_putCopiesBack_66 (by decide) (fun c66 => ?_) (fun c66 => ?_)
  · have h := h.1 c66
    refine vr_aload_n 1 1 dX2_putCopiesBack_69 rfl rfl ?_
    refine vr_iload_n 2 2 dX2_putCopiesBack_70 rfl rfl ?_
    refine vr_callV RX2 (s_X1_argumentAt hy1 h) rfl hy1 rfl rfl rfl ml_2_140 rfl yh_X1_argumentAt rfl ⟨Nat.le_of_ble_eq_true rfl, Nat.le_of_ble_eq_true rfl⟩ (Nat.le_of_ble_eq_true rfl) ⟨Nat.zero_le _, Nat.zero_le _⟩ dX2_putCopiesBack_71 (ko fun r71 hvr71 h => ?_)
    refine vr_astore_n 3 [(3, vO 16 r71), (0, vR 1 o), (1, vR 14 y1), (2, vI v2)] dX2_putCopiesBack_74 rfl (by decide) rfl ?_
    refine vr_aload_n 3 0 dX2_putCopiesBack_75 rfl rfl ?_
    rcases r71 with _ | yr71
    · refine vr_ifnullN 102 dX2_putCopiesBack_76 (by decide) ?_
      refine vr_iinc (v2 + 1) 3 [(2, vI (v2 + 1)), (3, vN), (0, vR 1 o), (1, vR 14 y1)] dX2_putCopiesBack_102 rfl rfl (by decide) rfl ?_
      refine vr_goto 61 dX2_putCopiesBack_105 (by decide) ?_
      refine vr_sub [2, 3, 0] [(0, vR 1 o), (1, vR 14 y1), (2, vI (v2 + 1))] rfl ?_
      exact hX _ _ h
    · refine vr_ifnullR dX2_putCopiesBack_76 ?_
      refine vr_aload_n 3 0 dX2_putCopiesBack_79 rfl rfl ?_
      refine vg_16_4 RX2 rfl (hvr71 _ rfl) fl_2_160 dX2_putCopiesBack_80 ?_
      refine vr_ifeq 102 dX2_putCopiesBack_83 (by decide) (fun c83 => ?_) (fun c83 => ?_)
      · have h := h.1 c83
        refine vr_iinc (v2 + 1) 3 [(2, vI (v2 + 1)), (3, vR 16 yr71), (0, vR 1 o), (1, vR 14 y1)] dX2_putCopiesBack_102 rfl rfl (by decide) rfl ?_
        refine vr_goto 61 dX2_putCopiesBack_105 (by decide) ?_
        refine vr_sub [2, 3, 0] [(0, vR 1 o), (1, vR 14 y1), (2, vI (v2 + 1))] rfl ?_
        exact hX _ _ h
      · have h := h.2 c83
        refine vr_aload_n 0 1 dX2_putCopiesBack_86 rfl rfl ?_
        refine vr_aload_n 3 0 dX2_putCopiesBack_87 rfl rfl ?_
        refine vg_16_0 RX2 rfl (hvr71 _ rfl) fl_2_155 dX2_putCopiesBack_88 ?_
        refine vr_aload_n 3 0 dX2_putCopiesBack_91 rfl rfl ?_
        refine vg_16_1 RX2 rfl (hvr71 _ rfl) fl_2_158 dX2_putCopiesBack_92 ?_
        refine vr_aload_n 3 0 dX2_putCopiesBack_95 rfl rfl ?_
        refine vg_16_3 RX2 rfl (hvr71 _ rfl) fl_2_163 dX2_putCopiesBack_96 ?_
        refine vr_callV RX2 (s_X2_store ho h) rfl ho rfl rfl rfl ml_2_123 rfl yh_X2_store rfl ⟨Nat.le_of_ble_eq_true rfl, Nat.le_of_ble_eq_true rfl⟩ (Nat.le_of_ble_eq_true rfl) ⟨Nat.zero_le _, Nat.zero_le _⟩ dX2_putCopiesBack_99 (kcv fun P99 h => ?_)
        refine vr_iinc (v2 + 1) 3 [(2, vI (v2 + 1)), (3, vR 16 yr71), (0, vR 1 o), (1, vR 14 y1)] dX2_putCopiesBack_102 rfl rfl (by decide) rfl ?_
        refine vr_goto 61 dX2_putCopiesBack_105 (by decide) ?_
        refine vr_sub [2, 3, 0] [(0, vR 1 o), (1, vR 14 y1), (2, vI (v2 + 1))] rfl ?_
        exact hX _ _ h
  · have h := h.2 c66
    refine vr_iconst 0 dX2_putCopiesBack_108 (by decide) ?_
    exact vr_iret rfl ⟨_, _, rfl, rfl, h⟩ dX2_putCopiesBack_109
def F_X2_putCopiesBack_l2 (o : Nat) (y1 : Nat) (P : VP) (post : Int32 → VP → Prop)   (X : Int32 → Prop) (v2 : Int32) : Prop :=
  (v2 < P 14 y1 4 → (F_X1_argumentAt y1 v2 P (fun r12 => match r12 with | none => (X (v2 + 1)) | some yr12 => ((P 16 yr12 4 = 0 → X (v2 + 1)) ∧ (¬ P 16 yr12 4 = 0 → F_X2_faultOfStore o (P 16 yr12 0) (P 16 yr12 1) (P 16 yr12 2) P (fun r40 => (r40 = 0 → X (v2 + 1)) ∧ (¬ r40 = 0 → post r40 P))))))) ∧ (¬ v2 < P 14 y1 4 → vL2 (F_X2_putCopiesBack_l61 o y1  post  ) ((0 : Int32)) P)
set_option maxRecDepth 4000 in
theorem s_X2_putCopiesBack_l2 {l : Launch} {g : vG} {o : Nat} {y1 : Nat} {P Q : VP} {post : Int32 → VP → Prop}    {v2 : Int32} (ho : o < vcnt 1) (hy1 : y1 < vcnt 14)  (h : vL1 (F_X2_putCopiesBack_l2 o y1 P post  ) v2) : VM l g RX2 cX2_putCopiesBack 5 (some .int) 3 (vcI Q post) 2 [(0, vR 1 o), (1, vR 14 y1), (2, vI v2)] [] (vjn P Q) := by
  refine vL1_s (T := fun v2 => VM l g RX2 cX2_putCopiesBack 5 (some .int) 3 (vcI Q post) 2 [(0, vR 1 o), (1, vR 14 y1), (2, vI v2)] [] (vjn P Q)) ?_ h
  clear h
  intro X hX v2 h
  unfold F_X2_putCopiesBack_l2 at h
  refine vr_iload_n 2 2 dX2_putCopiesBack_2 rfl rfl ?_
  refine vr_aload_n 1 1 dX2_putCopiesBack_3 rfl rfl ?_
  refine vg_14_4 RX2 rfl hy1 fl_2_137 dX2_putCopiesBack_4 ?_
  refine vr_icmpge 59 dX2_putCopiesBack_7 (by decide) (fun c7 => ?_) (fun c7 => ?_)
  · have h := h.1 c7
    refine vr_aload_n 1 1 dX2_putCopiesBack_10 rfl rfl ?_
    refine vr_iload_n 2 2 dX2_putCopiesBack_11 rfl rfl ?_
    refine vr_callV RX2 (s_X1_argumentAt hy1 h) rfl hy1 rfl rfl rfl ml_2_140 rfl yh_X1_argumentAt rfl ⟨Nat.le_of_ble_eq_true rfl, Nat.le_of_ble_eq_true rfl⟩ (Nat.le_of_ble_eq_true rfl) ⟨Nat.zero_le _, Nat.zero_le _⟩ dX2_putCopiesBack_12 (ko fun r12 hvr12 h => ?_)
    refine vr_astore_n 3 [(3, vO 16 r12), (0, vR 1 o), (1, vR 14 y1), (2, vI v2)] dX2_putCopiesBack_15 rfl (by decide) rfl ?_
    refine vr_aload_n 3 0 dX2_putCopiesBack_16 rfl rfl ?_
    rcases r12 with _ | yr12
    · refine vr_ifnullN 53 dX2_putCopiesBack_17 (by decide) ?_
      refine vr_iinc (v2 + 1) 3 [(2, vI (v2 + 1)), (3, vN), (0, vR 1 o), (1, vR 14 y1)] dX2_putCopiesBack_53 rfl rfl (by decide) rfl ?_
      refine vr_goto 2 dX2_putCopiesBack_56 (by decide) ?_
      refine vr_sub [2, 3, 0] [(0, vR 1 o), (1, vR 14 y1), (2, vI (v2 + 1))] rfl ?_
      exact hX _ h
    · refine vr_ifnullR dX2_putCopiesBack_17 ?_
      refine vr_aload_n 3 0 dX2_putCopiesBack_20 rfl rfl ?_
      refine vg_16_4 RX2 rfl (hvr12 _ rfl) fl_2_160 dX2_putCopiesBack_21 ?_
      refine vr_ifeq 53 dX2_putCopiesBack_24 (by decide) (fun c24 => ?_) (fun c24 => ?_)
      · have h := h.1 c24
        refine vr_iinc (v2 + 1) 3 [(2, vI (v2 + 1)), (3, vR 16 yr12), (0, vR 1 o), (1, vR 14 y1)] dX2_putCopiesBack_53 rfl rfl (by decide) rfl ?_
        refine vr_goto 2 dX2_putCopiesBack_56 (by decide) ?_
        refine vr_sub [2, 3, 0] [(0, vR 1 o), (1, vR 14 y1), (2, vI (v2 + 1))] rfl ?_
        exact hX _ h
      · have h := h.2 c24
        refine vr_aload_n 0 1 dX2_putCopiesBack_27 rfl rfl ?_
        refine vr_aload_n 3 0 dX2_putCopiesBack_28 rfl rfl ?_
        refine vg_16_0 RX2 rfl (hvr12 _ rfl) fl_2_155 dX2_putCopiesBack_29 ?_
        refine vr_aload_n 3 0 dX2_putCopiesBack_32 rfl rfl ?_
        refine vg_16_1 RX2 rfl (hvr12 _ rfl) fl_2_158 dX2_putCopiesBack_33 ?_
        refine vr_aload_n 3 0 dX2_putCopiesBack_36 rfl rfl ?_
        refine vg_16_2 RX2 rfl (hvr12 _ rfl) fl_2_159 dX2_putCopiesBack_37 ?_
        refine vr_callV RX2 (s_X2_faultOfStore ho h) rfl ho rfl rfl rfl ml_2_120 rfl yh_X2_faultOfStore rfl ⟨Nat.le_of_ble_eq_true rfl, Nat.le_of_ble_eq_true rfl⟩ (Nat.le_of_ble_eq_true rfl) ⟨Nat.zero_le _, Nat.zero_le _⟩ dX2_putCopiesBack_40 (ki fun r40 h => ?_)
        refine vr_istore [(4, vI r40), (3, vR 16 yr12), (0, vR 1 o), (1, vR 14 y1), (2, vI v2)] dX2_putCopiesBack_43 (by decide) rfl ?_
        refine vr_iload 0 dX2_putCopiesBack_45 rfl ?_
        refine vr_ifeq 53 dX2_putCopiesBack_47 (by decide) (fun c47 => ?_) (fun c47 => ?_)
        · have h := h.1 c47
          refine vr_iinc (v2 + 1) 4 [(2, vI (v2 + 1)), (4, vI r40), (3, vR 16 yr12), (0, vR 1 o), (1, vR 14 y1)] dX2_putCopiesBack_53 rfl rfl (by decide) rfl ?_
          refine vr_goto 2 dX2_putCopiesBack_56 (by decide) ?_
          refine vr_sub [3, 4, 0] [(0, vR 1 o), (1, vR 14 y1), (2, vI (v2 + 1))] rfl ?_
          exact hX _ h
        · have h := h.2 c47
          refine vr_iload 0 dX2_putCopiesBack_50 rfl ?_
          exact vr_iret rfl ⟨_, _, rfl, rfl, h⟩ dX2_putCopiesBack_52
  · have h := h.2 c7
    refine vr_iconst 0 dX2_putCopiesBack_59 (by decide) ?_
    refine vr_istore_n 2 [(2, vI 0), (0, vR 1 o), (1, vR 14 y1)] dX2_putCopiesBack_60 rfl (by decide) rfl ?_
    refine vr_sub [1, 2, 0] [(0, vR 1 o), (1, vR 14 y1), (2, vI 0)] rfl ?_
    exact s_X2_putCopiesBack_l61 ho hy1  h
def F_X2_putCopiesBack (o : Nat) (y1 : Nat) (P : VP) (post : Int32 → VP → Prop) : Prop :=
  vL1 (F_X2_putCopiesBack_l2 o y1 P post  ) ((0 : Int32))
set_option maxRecDepth 4000 in
theorem s_X2_putCopiesBack {l : Launch} {g : vG} {o : Nat} {y1 : Nat} {P Q : VP} {post : Int32 → VP → Prop} (ho : o < vcnt 1) (hy1 : y1 < vcnt 14) (h : F_X2_putCopiesBack o y1 P post) : VC l g yX2_putCopiesBack cX2_putCopiesBack 5 (some .int) 3 [vR 1 o, vR 14 y1] (vjn P Q) (vcI Q post) := by
  refine VC.of (by decide +kernel) (Nat.le_of_ble_eq_true rfl) (show VM l g RX2 cX2_putCopiesBack 5 (some .int) 3 (vcI Q post) 0 [(0, vR 1 o), (1, vR 14 y1)] [] (vjn P Q) from ?_)
  unfold F_X2_putCopiesBack at h
  refine vr_iconst 0 dX2_putCopiesBack_0 (by decide) ?_
  refine vr_istore_n 2 [(2, vI 0), (0, vR 1 o), (1, vR 14 y1)] dX2_putCopiesBack_1 rfl (by decide) rfl ?_
  refine vr_sub [1, 2, 0] [(0, vR 1 o), (1, vR 14 y1), (2, vI 0)] rfl ?_
  exact s_X2_putCopiesBack_l2 ho hy1  h
theorem dX4_pop_0 : decode cX4_pop 0 = .ok (.iload_n 1, 1) := by decide +kernel
theorem dX4_pop_1 : decode cX4_pop 1 = .ok (.ifCond .lt 31, 3) := by decide +kernel
theorem dX4_pop_4 : decode cX4_pop 4 = .ok (.iload_n 1, 1) := by decide +kernel
theorem dX4_pop_5 : decode cX4_pop 5 = .ok (.aload_n 0, 1) := by decide +kernel
theorem dX4_pop_6 : decode cX4_pop 6 = .ok (.getfield 9, 3) := by decide +kernel
theorem dX4_pop_9 : decode cX4_pop 9 = .ok (.arraylength, 1) := by decide +kernel
theorem dX4_pop_10 : decode cX4_pop 10 = .ok (.if_icmp .ge 22, 3) := by decide +kernel
theorem dX4_pop_13 : decode cX4_pop 13 = .ok (.aload_n 0, 1) := by decide +kernel
theorem dX4_pop_14 : decode cX4_pop 14 = .ok (.getfield 9, 3) := by decide +kernel
theorem dX4_pop_17 : decode cX4_pop 17 = .ok (.iload_n 1, 1) := by decide +kernel
theorem dX4_pop_18 : decode cX4_pop 18 = .ok (.iaload, 1) := by decide +kernel
theorem dX4_pop_19 : decode cX4_pop 19 = .ok (.ifCond .le 13, 3) := by decide +kernel
theorem dX4_pop_22 : decode cX4_pop 22 = .ok (.aload_n 0, 1) := by decide +kernel
theorem dX4_pop_23 : decode cX4_pop 23 = .ok (.getfield 9, 3) := by decide +kernel
theorem dX4_pop_26 : decode cX4_pop 26 = .ok (.iload_n 1, 1) := by decide +kernel
theorem dX4_pop_27 : decode cX4_pop 27 = .ok (.dup2, 1) := by decide +kernel
theorem dX4_pop_28 : decode cX4_pop 28 = .ok (.iaload, 1) := by decide +kernel
theorem dX4_pop_29 : decode cX4_pop 29 = .ok (.iconst 1, 1) := by decide +kernel
theorem dX4_pop_30 : decode cX4_pop 30 = .ok (.isub, 1) := by decide +kernel
theorem dX4_pop_31 : decode cX4_pop 31 = .ok (.iastore, 1) := by decide +kernel
theorem dX4_pop_32 : decode cX4_pop 32 = .ok (.return_, 1) := by decide +kernel
def F_X4_pop (o : Nat) (x1 : Int32) (P : VP) (post : VP → Prop) : Prop :=
  (x1 < 0 → post P) ∧ (¬ x1 < 0 → (x1 < 8 → (0 ≤ x1 ∧ x1 < 8) ∧ ((0 < P 12 o (ix x1) → (0 ≤ x1 ∧ x1 < 8) ∧ ((0 ≤ x1 ∧ x1 < 8) ∧ (∀ P31 : VP, P31 = vup P 12 o (ix x1) ((P 12 o (ix x1)) - 1) → (post P31)))) ∧ (¬ 0 < P 12 o (ix x1) → post P))) ∧ (¬ x1 < 8 → post P))
set_option maxRecDepth 4000 in
theorem s_X4_pop {l : Launch} {g : vG} {o : Nat} {x1 : Int32} {P Q : VP} {post : VP → Prop} (ho : o < vcnt 11) (h : F_X4_pop o x1 P post) : VC l g yX4_pop cX4_pop 2 none 0 [vR 11 o, vI x1] (vjn P Q) (vcV Q post) := by
  refine VC.of (by decide +kernel) (Nat.le_of_ble_eq_true rfl) (show VM l g RX4 cX4_pop 2 none 0 (vcV Q post) 0 [(0, vR 11 o), (1, vI x1)] [] (vjn P Q) from ?_)
  unfold F_X4_pop at h
  refine vr_iload_n 1 1 dX4_pop_0 rfl rfl ?_
  refine vr_iflt 32 dX4_pop_1 (by decide) (fun c1 => ?_) (fun c1 => ?_)
  · have h := h.1 c1
    exact vr_vret rfl ⟨_, rfl, rfl, h⟩ dX4_pop_32
  · have h := h.2 c1
    refine vr_iload_n 1 1 dX4_pop_4 rfl rfl ?_
    refine vr_aload_n 0 0 dX4_pop_5 rfl rfl ?_
    refine vg_11_0 RX4 rfl ho fl_4_9 dX4_pop_6 ?_
    refine vr_alen 8 ((ia_12 (x := o) ho)).2.1 ((ia_12 (x := o) ho)).1 rfl dX4_pop_9 ?_
    refine vr_icmpge 32 dX4_pop_10 (by decide) (fun c10 => ?_) (fun c10 => ?_)
    · have h := h.1 c10
      refine vr_aload_n 0 0 dX4_pop_13 rfl rfl ?_
      refine vg_11_0 RX4 rfl ho fl_4_9 dX4_pop_14 ?_
      refine vr_iload_n 1 1 dX4_pop_17 rfl rfl ?_
      have hi := h.1
      have h := h.2
      refine vr_ialdP 8 (ia_12 (x := o) ho) rfl hi dX4_pop_18 ?_
      refine vr_ifle 32 dX4_pop_19 (by decide) (fun c19 => ?_) (fun c19 => ?_)
      · have h := h.1 c19
        refine vr_aload_n 0 0 dX4_pop_22 rfl rfl ?_
        refine vg_11_0 RX4 rfl ho fl_4_9 dX4_pop_23 ?_
        refine vr_iload_n 1 1 dX4_pop_26 rfl rfl ?_
        refine vr_dup2 dX4_pop_27 rfl rfl ?_
        have hi := h.1
        have h := h.2
        refine vr_ialdP 8 (ia_12 (x := o) ho) rfl hi dX4_pop_28 ?_
        refine vr_iconst 1 dX4_pop_29 (by decide) ?_
        refine vr_isub dX4_pop_30 ?_
        have hi := h.1
        have h := h.2
        obtain ⟨P31, eP31⟩ : ∃ y : VP, y = vup P 12 o (ix x1) ((P 12 o (ix x1)) - 1) := ⟨_, rfl⟩
        have h := h P31 eP31
        refine vr_iastP 8 (ia_12 (x := o) ho) rfl hi eP31 dX4_pop_31 ?_
        exact vr_vret rfl ⟨_, rfl, rfl, h⟩ dX4_pop_32
      · have h := h.2 c19
        exact vr_vret rfl ⟨_, rfl, rfl, h⟩ dX4_pop_32
    · have h := h.2 c10
      exact vr_vret rfl ⟨_, rfl, rfl, h⟩ dX4_pop_32
theorem dX2_goBack_0 : decode cX2_goBack 0 = .ok (.aload_n 0, 1) := by decide +kernel
theorem dX2_goBack_1 : decode cX2_goBack 1 = .ok (.getfield 21, 3) := by decide +kernel
theorem dX2_goBack_4 : decode cX2_goBack 4 = .ok (.aload_n 0, 1) := by decide +kernel
theorem dX2_goBack_5 : decode cX2_goBack 5 = .ok (.getfield 25, 3) := by decide +kernel
theorem dX2_goBack_8 : decode cX2_goBack 8 = .ok (.invokevirtual 166, 3) := by decide +kernel
theorem dX2_goBack_11 : decode cX2_goBack 11 = .ok (.astore_n 1, 1) := by decide +kernel
theorem dX2_goBack_12 : decode cX2_goBack 12 = .ok (.aload_n 1, 1) := by decide +kernel
theorem dX2_goBack_13 : decode cX2_goBack 13 = .ok (.ifnonnull 6, 3) := by decide +kernel
theorem dX2_goBack_16 : decode cX2_goBack 16 = .ok (.bipush (-30), 2) := by decide +kernel
theorem dX2_goBack_18 : decode cX2_goBack 18 = .ok (.ireturn, 1) := by decide +kernel
theorem dX2_goBack_19 : decode cX2_goBack 19 = .ok (.aload_n 1, 1) := by decide +kernel
theorem dX2_goBack_20 : decode cX2_goBack 20 = .ok (.getfield 133, 3) := by decide +kernel
theorem dX2_goBack_23 : decode cX2_goBack 23 = .ok (.ifCond .eq 15, 3) := by decide +kernel
theorem dX2_goBack_26 : decode cX2_goBack 26 = .ok (.aload_n 0, 1) := by decide +kernel
theorem dX2_goBack_27 : decode cX2_goBack 27 = .ok (.aload_n 1, 1) := by decide +kernel
theorem dX2_goBack_28 : decode cX2_goBack 28 = .ok (.invokevirtual 170, 3) := by decide +kernel
theorem dX2_goBack_31 : decode cX2_goBack 31 = .ok (.istore_n 2, 1) := by decide +kernel
theorem dX2_goBack_32 : decode cX2_goBack 32 = .ok (.iload_n 2, 1) := by decide +kernel
theorem dX2_goBack_33 : decode cX2_goBack 33 = .ok (.ifCond .eq 5, 3) := by decide +kernel
theorem dX2_goBack_36 : decode cX2_goBack 36 = .ok (.iload_n 2, 1) := by decide +kernel
theorem dX2_goBack_37 : decode cX2_goBack 37 = .ok (.ireturn, 1) := by decide +kernel
theorem dX2_goBack_38 : decode cX2_goBack 38 = .ok (.aload_n 0, 1) := by decide +kernel
theorem dX2_goBack_39 : decode cX2_goBack 39 = .ok (.getfield 21, 3) := by decide +kernel
theorem dX2_goBack_42 : decode cX2_goBack 42 = .ok (.aload_n 0, 1) := by decide +kernel
theorem dX2_goBack_43 : decode cX2_goBack 43 = .ok (.getfield 25, 3) := by decide +kernel
theorem dX2_goBack_46 : decode cX2_goBack 46 = .ok (.invokevirtual 174, 3) := by decide +kernel
theorem dX2_goBack_49 : decode cX2_goBack 49 = .ok (.aload_n 0, 1) := by decide +kernel
theorem dX2_goBack_50 : decode cX2_goBack 50 = .ok (.aload_n 1, 1) := by decide +kernel
theorem dX2_goBack_51 : decode cX2_goBack 51 = .ok (.getfield 130, 3) := by decide +kernel
theorem dX2_goBack_54 : decode cX2_goBack 54 = .ok (.putfield 36, 3) := by decide +kernel
theorem dX2_goBack_57 : decode cX2_goBack 57 = .ok (.aload_n 0, 1) := by decide +kernel
theorem dX2_goBack_58 : decode cX2_goBack 58 = .ok (.aload_n 1, 1) := by decide +kernel
theorem dX2_goBack_59 : decode cX2_goBack 59 = .ok (.getfield 131, 3) := by decide +kernel
theorem dX2_goBack_62 : decode cX2_goBack 62 = .ok (.putfield 39, 3) := by decide +kernel
theorem dX2_goBack_65 : decode cX2_goBack 65 = .ok (.aload_n 0, 1) := by decide +kernel
theorem dX2_goBack_66 : decode cX2_goBack 66 = .ok (.aload_n 1, 1) := by decide +kernel
theorem dX2_goBack_67 : decode cX2_goBack 67 = .ok (.getfield 132, 3) := by decide +kernel
theorem dX2_goBack_70 : decode cX2_goBack 70 = .ok (.putfield 25, 3) := by decide +kernel
theorem dX2_goBack_73 : decode cX2_goBack 73 = .ok (.iconst 0, 1) := by decide +kernel
theorem dX2_goBack_74 : decode cX2_goBack 74 = .ok (.ireturn, 1) := by decide +kernel
def F_X2_goBack_b38 (o : Nat) (P : VP) (post : Int32 → VP → Prop)  (v1 : Nat) : Prop :=
  F_X4_pop o (P 1 o 4) P (fun P46 => ∀ P54 : VP, P54 = vup P46 1 o 2 (P46 14 v1 0) → (∀ P62 : VP, P62 = vup P54 1 o 3 (P54 14 v1 1) → (∀ P70 : VP, P70 = vup P62 1 o 4 (P62 14 v1 2) → (post ((0 : Int32)) P70))))
set_option maxRecDepth 4000 in
theorem s_X2_goBack_b38 {l : Launch} {g : vG} {o : Nat} {P Q : VP} {post : Int32 → VP → Prop}  {v1 : Nat}  (ho : o < vcnt 1) (hv1 : v1 < vcnt 14)  (h : F_X2_goBack_b38 o P post  v1) : VM l g RX2 cX2_goBack 3 (some .int) 4 (vcI Q post) 38 [(0, vR 1 o), (1, vR 14 v1)] [] (vjn P Q) := by
  unfold F_X2_goBack_b38 at h
  refine vr_aload_n 0 0 dX2_goBack_38 rfl rfl ?_
  refine vg_1_1 RX2 rfl ho fl_2_21 dX2_goBack_39 ?_
  refine vr_aload_n 0 0 dX2_goBack_42 rfl rfl ?_
  refine vg_1_4 RX2 rfl ho fl_2_25 dX2_goBack_43 ?_
  refine vr_callV RX2 (s_X4_pop ho h) rfl ho rfl rfl rfl ml_2_174 rfl yh_X4_pop rfl ⟨Nat.le_of_ble_eq_true rfl, Nat.le_of_ble_eq_true rfl⟩ (Nat.le_of_ble_eq_true rfl) ⟨Nat.zero_le _, Nat.zero_le _⟩ dX2_goBack_46 (kcv fun P46 h => ?_)
  refine vr_aload_n 0 0 dX2_goBack_49 rfl rfl ?_
  refine vr_aload_n 1 1 dX2_goBack_50 rfl rfl ?_
  refine vg_14_0 RX2 rfl hv1 fl_2_130 dX2_goBack_51 ?_
  obtain ⟨P54, eP54⟩ : ∃ y : VP, y = vup P46 1 o 2 (P46 14 v1 0) := ⟨_, rfl⟩
  have h := h P54 eP54
  refine vp_1_2 RX2 rfl ho fl_2_36 eP54 dX2_goBack_54 ?_
  refine vr_aload_n 0 0 dX2_goBack_57 rfl rfl ?_
  refine vr_aload_n 1 1 dX2_goBack_58 rfl rfl ?_
  refine vg_14_1 RX2 rfl hv1 fl_2_131 dX2_goBack_59 ?_
  obtain ⟨P62, eP62⟩ : ∃ y : VP, y = vup P54 1 o 3 (P54 14 v1 1) := ⟨_, rfl⟩
  have h := h P62 eP62
  refine vp_1_3 RX2 rfl ho fl_2_39 eP62 dX2_goBack_62 ?_
  refine vr_aload_n 0 0 dX2_goBack_65 rfl rfl ?_
  refine vr_aload_n 1 1 dX2_goBack_66 rfl rfl ?_
  refine vg_14_2 RX2 rfl hv1 fl_2_132 dX2_goBack_67 ?_
  obtain ⟨P70, eP70⟩ : ∃ y : VP, y = vup P62 1 o 4 (P62 14 v1 2) := ⟨_, rfl⟩
  have h := h P70 eP70
  refine vp_1_4 RX2 rfl ho fl_2_25 eP70 dX2_goBack_70 ?_
  refine vr_iconst 0 dX2_goBack_73 (by decide) ?_
  exact vr_iret rfl ⟨_, _, rfl, rfl, h⟩ dX2_goBack_74
def F_X2_goBack (o : Nat) (P : VP) (post : Int32 → VP → Prop) : Prop :=
  (F_X4_latestOf o (P 1 o 4) P (fun r8 => match r8 with | none => (post (((-30) : Int32)) P) | some yr8 => ((P 14 yr8 3 = 0 → F_X2_goBack_b38 o P post  yr8) ∧ (¬ P 14 yr8 3 = 0 → F_X2_putCopiesBack o yr8 P (fun r28 P28 => (r28 = 0 → F_X2_goBack_b38 o P28 post  yr8) ∧ (¬ r28 = 0 → post r28 P28))))))
set_option maxRecDepth 4000 in
theorem s_X2_goBack {l : Launch} {g : vG} {o : Nat} {P Q : VP} {post : Int32 → VP → Prop} (ho : o < vcnt 1) (h : F_X2_goBack o P post) : VC l g yX2_goBack cX2_goBack 3 (some .int) 4 [vR 1 o] (vjn P Q) (vcI Q post) := by
  refine VC.of (by decide +kernel) (Nat.le_of_ble_eq_true rfl) (show VM l g RX2 cX2_goBack 3 (some .int) 4 (vcI Q post) 0 [(0, vR 1 o)] [] (vjn P Q) from ?_)
  unfold F_X2_goBack at h
  refine vr_aload_n 0 0 dX2_goBack_0 rfl rfl ?_
  refine vg_1_1 RX2 rfl ho fl_2_21 dX2_goBack_1 ?_
  refine vr_aload_n 0 0 dX2_goBack_4 rfl rfl ?_
  refine vg_1_4 RX2 rfl ho fl_2_25 dX2_goBack_5 ?_
  refine vr_callV RX2 (s_X4_latestOf ho h) rfl ho rfl rfl rfl ml_2_166 rfl yh_X4_latestOf rfl ⟨Nat.le_of_ble_eq_true rfl, Nat.le_of_ble_eq_true rfl⟩ (Nat.le_of_ble_eq_true rfl) ⟨Nat.zero_le _, Nat.zero_le _⟩ dX2_goBack_8 (ko fun r8 hvr8 h => ?_)
  refine vr_astore_n 1 [(1, vO 14 r8), (0, vR 1 o)] dX2_goBack_11 rfl (by decide) rfl ?_
  refine vr_aload_n 1 0 dX2_goBack_12 rfl rfl ?_
  rcases r8 with _ | yr8
  · refine vr_ifnonnullN dX2_goBack_13 ?_
    refine vr_bipush (-30) dX2_goBack_16 (by decide) ?_
    exact vr_iret rfl ⟨_, _, rfl, rfl, h⟩ dX2_goBack_18
  · refine vr_ifnonnullR 19 dX2_goBack_13 (by decide) ?_
    refine vr_aload_n 1 0 dX2_goBack_19 rfl rfl ?_
    refine vg_14_3 RX2 rfl (hvr8 _ rfl) fl_2_133 dX2_goBack_20 ?_
    refine vr_ifeq 38 dX2_goBack_23 (by decide) (fun c23 => ?_) (fun c23 => ?_)
    · have h := h.1 c23
      refine vr_sub [1, 0] [(0, vR 1 o), (1, vR 14 yr8)] rfl ?_
      exact s_X2_goBack_b38 ho (hvr8 _ rfl)  h
    · have h := h.2 c23
      refine vr_aload_n 0 1 dX2_goBack_26 rfl rfl ?_
      refine vr_aload_n 1 0 dX2_goBack_27 rfl rfl ?_
      refine vr_callV RX2 (s_X2_putCopiesBack ho (hvr8 _ rfl) h) rfl ho rfl rfl rfl ml_2_170 rfl yh_X2_putCopiesBack rfl ⟨Nat.le_of_ble_eq_true rfl, Nat.le_of_ble_eq_true rfl⟩ (Nat.le_of_ble_eq_true rfl) ⟨Nat.zero_le _, Nat.zero_le _⟩ dX2_goBack_28 (kci fun r28 P28 h => ?_)
      refine vr_istore_n 2 [(2, vI r28), (1, vR 14 yr8), (0, vR 1 o)] dX2_goBack_31 rfl (by decide) rfl ?_
      refine vr_iload_n 2 0 dX2_goBack_32 rfl rfl ?_
      refine vr_ifeq 38 dX2_goBack_33 (by decide) (fun c33 => ?_) (fun c33 => ?_)
      · have h := h.1 c33
        refine vr_sub [2, 1] [(0, vR 1 o), (1, vR 14 yr8)] rfl ?_
        exact s_X2_goBack_b38 ho (hvr8 _ rfl)  h
      · have h := h.2 c33
        refine vr_iload_n 2 0 dX2_goBack_36 rfl rfl ?_
        exact vr_iret rfl ⟨_, _, rfl, rfl, h⟩ dX2_goBack_37
theorem dX2_goTo_0 : decode cX2_goTo 0 = .ok (.aload_n 0, 1) := by decide +kernel
theorem dX2_goTo_1 : decode cX2_goTo 1 = .ok (.aload_n 0, 1) := by decide +kernel
theorem dX2_goTo_2 : decode cX2_goTo 2 = .ok (.getfield 36, 3) := by decide +kernel
theorem dX2_goTo_5 : decode cX2_goTo 5 = .ok (.iload_n 1, 1) := by decide +kernel
theorem dX2_goTo_6 : decode cX2_goTo 6 = .ok (.aload_n 0, 1) := by decide +kernel
theorem dX2_goTo_7 : decode cX2_goTo 7 = .ok (.getfield 25, 3) := by decide +kernel
theorem dX2_goTo_10 : decode cX2_goTo 10 = .ok (.iconst 1, 1) := by decide +kernel
theorem dX2_goTo_11 : decode cX2_goTo 11 = .ok (.invokevirtual 101, 3) := by decide +kernel
theorem dX2_goTo_14 : decode cX2_goTo 14 = .ok (.istore_n 2, 1) := by decide +kernel
theorem dX2_goTo_15 : decode cX2_goTo 15 = .ok (.iload_n 2, 1) := by decide +kernel
theorem dX2_goTo_16 : decode cX2_goTo 16 = .ok (.ifCond .eq 5, 3) := by decide +kernel
theorem dX2_goTo_19 : decode cX2_goTo 19 = .ok (.iload_n 2, 1) := by decide +kernel
theorem dX2_goTo_20 : decode cX2_goTo 20 = .ok (.ireturn, 1) := by decide +kernel
theorem dX2_goTo_21 : decode cX2_goTo 21 = .ok (.aload_n 0, 1) := by decide +kernel
theorem dX2_goTo_22 : decode cX2_goTo 22 = .ok (.getfield 12, 3) := by decide +kernel
theorem dX2_goTo_25 : decode cX2_goTo 25 = .ok (.aload_n 0, 1) := by decide +kernel
theorem dX2_goTo_26 : decode cX2_goTo 26 = .ok (.getfield 105, 3) := by decide +kernel
theorem dX2_goTo_29 : decode cX2_goTo 29 = .ok (.invokevirtual 59, 3) := by decide +kernel
theorem dX2_goTo_32 : decode cX2_goTo 32 = .ok (.astore_n 3, 1) := by decide +kernel
theorem dX2_goTo_33 : decode cX2_goTo 33 = .ok (.aload_n 3, 1) := by decide +kernel
theorem dX2_goTo_34 : decode cX2_goTo 34 = .ok (.ifnonnull 6, 3) := by decide +kernel
theorem dX2_goTo_37 : decode cX2_goTo 37 = .ok (.bipush (-20), 2) := by decide +kernel
theorem dX2_goTo_39 : decode cX2_goTo 39 = .ok (.ireturn, 1) := by decide +kernel
theorem dX2_goTo_40 : decode cX2_goTo 40 = .ok (.aload_n 3, 1) := by decide +kernel
theorem dX2_goTo_41 : decode cX2_goTo 41 = .ok (.aload_n 0, 1) := by decide +kernel
theorem dX2_goTo_42 : decode cX2_goTo 42 = .ok (.getfield 108, 3) := by decide +kernel
theorem dX2_goTo_45 : decode cX2_goTo 45 = .ok (.invokevirtual 63, 3) := by decide +kernel
theorem dX2_goTo_48 : decode cX2_goTo 48 = .ok (.ifCond .ne 6, 3) := by decide +kernel
theorem dX2_goTo_51 : decode cX2_goTo 51 = .ok (.bipush (-21), 2) := by decide +kernel
theorem dX2_goTo_53 : decode cX2_goTo 53 = .ok (.ireturn, 1) := by decide +kernel
theorem dX2_goTo_54 : decode cX2_goTo 54 = .ok (.aload_n 3, 1) := by decide +kernel
theorem dX2_goTo_55 : decode cX2_goTo 55 = .ok (.aload_n 0, 1) := by decide +kernel
theorem dX2_goTo_56 : decode cX2_goTo 56 = .ok (.getfield 111, 3) := by decide +kernel
theorem dX2_goTo_59 : decode cX2_goTo 59 = .ok (.invokevirtual 69, 3) := by decide +kernel
theorem dX2_goTo_62 : decode cX2_goTo 62 = .ok (.ifCond .ne 6, 3) := by decide +kernel
theorem dX2_goTo_65 : decode cX2_goTo 65 = .ok (.bipush (-22), 2) := by decide +kernel
theorem dX2_goTo_67 : decode cX2_goTo 67 = .ok (.ireturn, 1) := by decide +kernel
theorem dX2_goTo_68 : decode cX2_goTo 68 = .ok (.aload_n 0, 1) := by decide +kernel
theorem dX2_goTo_69 : decode cX2_goTo 69 = .ok (.aload_n 0, 1) := by decide +kernel
theorem dX2_goTo_70 : decode cX2_goTo 70 = .ok (.getfield 105, 3) := by decide +kernel
theorem dX2_goTo_73 : decode cX2_goTo 73 = .ok (.putfield 36, 3) := by decide +kernel
theorem dX2_goTo_76 : decode cX2_goTo 76 = .ok (.aload_n 0, 1) := by decide +kernel
theorem dX2_goTo_77 : decode cX2_goTo 77 = .ok (.aload_n 0, 1) := by decide +kernel
theorem dX2_goTo_78 : decode cX2_goTo 78 = .ok (.getfield 108, 3) := by decide +kernel
theorem dX2_goTo_81 : decode cX2_goTo 81 = .ok (.putfield 39, 3) := by decide +kernel
theorem dX2_goTo_84 : decode cX2_goTo 84 = .ok (.aload_n 0, 1) := by decide +kernel
theorem dX2_goTo_85 : decode cX2_goTo 85 = .ok (.aload_n 0, 1) := by decide +kernel
theorem dX2_goTo_86 : decode cX2_goTo 86 = .ok (.getfield 111, 3) := by decide +kernel
theorem dX2_goTo_89 : decode cX2_goTo 89 = .ok (.putfield 25, 3) := by decide +kernel
theorem dX2_goTo_92 : decode cX2_goTo 92 = .ok (.iconst 0, 1) := by decide +kernel
theorem dX2_goTo_93 : decode cX2_goTo 93 = .ok (.ireturn, 1) := by decide +kernel
def F_X2_goTo (o : Nat) (x1 : Int32) (P : VP) (post : Int32 → VP → Prop) : Prop :=
  F_X2_seekOperand o (P 1 o 2) x1 (P 1 o 4) ((1 : Int32)) P (fun r11 P11 => (r11 = 0 → (F_X6_find o (P11 1 o 7) P11 (fun r29 => match r29 with | none => (post (((-20) : Int32)) P11) | some yr29 => (F_X3_has yr29 (P11 1 o 8) P11 (fun r45 => (r45 = 0 → post (((-21) : Int32)) P11) ∧ (¬ r45 = 0 → F_X3_letsGo yr29 (P11 1 o 9) P11 (fun r59 => (r59 = 0 → post (((-22) : Int32)) P11) ∧ (¬ r59 = 0 → ∀ P73 : VP, P73 = vup P11 1 o 2 (P11 1 o 7) → (∀ P81 : VP, P81 = vup P73 1 o 3 (P73 1 o 8) → (∀ P89 : VP, P89 = vup P81 1 o 4 (P81 1 o 9) → (post ((0 : Int32)) P89))))))))))) ∧ (¬ r11 = 0 → post r11 P11))
set_option maxRecDepth 4000 in
theorem s_X2_goTo {l : Launch} {g : vG} {o : Nat} {x1 : Int32} {P Q : VP} {post : Int32 → VP → Prop} (ho : o < vcnt 1) (h : F_X2_goTo o x1 P post) : VC l g yX2_goTo cX2_goTo 4 (some .int) 4 [vR 1 o, vI x1] (vjn P Q) (vcI Q post) := by
  refine VC.of (by decide +kernel) (Nat.le_of_ble_eq_true rfl) (show VM l g RX2 cX2_goTo 4 (some .int) 4 (vcI Q post) 0 [(0, vR 1 o), (1, vI x1)] [] (vjn P Q) from ?_)
  unfold F_X2_goTo at h
  refine vr_aload_n 0 0 dX2_goTo_0 rfl rfl ?_
  refine vr_aload_n 0 0 dX2_goTo_1 rfl rfl ?_
  refine vg_1_2 RX2 rfl ho fl_2_36 dX2_goTo_2 ?_
  refine vr_iload_n 1 1 dX2_goTo_5 rfl rfl ?_
  refine vr_aload_n 0 0 dX2_goTo_6 rfl rfl ?_
  refine vg_1_4 RX2 rfl ho fl_2_25 dX2_goTo_7 ?_
  refine vr_iconst 1 dX2_goTo_10 (by decide) ?_
  refine vr_callV RX2 (s_X2_seekOperand ho h) rfl ho rfl rfl rfl ml_2_101 rfl yh_X2_seekOperand rfl ⟨Nat.le_of_ble_eq_true rfl, Nat.le_of_ble_eq_true rfl⟩ (Nat.le_of_ble_eq_true rfl) ⟨Nat.zero_le _, Nat.zero_le _⟩ dX2_goTo_11 (kci fun r11 P11 h => ?_)
  refine vr_istore_n 2 [(2, vI r11), (0, vR 1 o), (1, vI x1)] dX2_goTo_14 rfl (by decide) rfl ?_
  refine vr_iload_n 2 0 dX2_goTo_15 rfl rfl ?_
  refine vr_ifeq 21 dX2_goTo_16 (by decide) (fun c16 => ?_) (fun c16 => ?_)
  · have h := h.1 c16
    refine vr_aload_n 0 1 dX2_goTo_21 rfl rfl ?_
    refine vg_1_0 RX2 rfl ho fl_2_12 dX2_goTo_22 ?_
    refine vr_aload_n 0 1 dX2_goTo_25 rfl rfl ?_
    refine vg_1_7 RX2 rfl ho fl_2_105 dX2_goTo_26 ?_
    refine vr_callV RX2 (s_X6_find ho h) rfl ho rfl rfl rfl ml_2_59 rfl yh_X6_find rfl ⟨Nat.le_of_ble_eq_true rfl, Nat.le_of_ble_eq_true rfl⟩ (Nat.le_of_ble_eq_true rfl) ⟨Nat.zero_le _, Nat.zero_le _⟩ dX2_goTo_29 (ko fun r29 hvr29 h => ?_)
    refine vr_astore_n 3 [(3, vO 7 r29), (2, vI r11), (0, vR 1 o), (1, vI x1)] dX2_goTo_32 rfl (by decide) rfl ?_
    refine vr_aload_n 3 0 dX2_goTo_33 rfl rfl ?_
    rcases r29 with _ | yr29
    · refine vr_ifnonnullN dX2_goTo_34 ?_
      refine vr_bipush (-20) dX2_goTo_37 (by decide) ?_
      exact vr_iret rfl ⟨_, _, rfl, rfl, h⟩ dX2_goTo_39
    · refine vr_ifnonnullR 40 dX2_goTo_34 (by decide) ?_
      refine vr_aload_n 3 0 dX2_goTo_40 rfl rfl ?_
      refine vr_aload_n 0 2 dX2_goTo_41 rfl rfl ?_
      refine vg_1_8 RX2 rfl ho fl_2_108 dX2_goTo_42 ?_
      refine vr_callV RX2 (s_X3_has (hvr29 _ rfl) h) rfl (hvr29 _ rfl) rfl rfl rfl ml_2_63 rfl yh_X3_has rfl ⟨Nat.le_of_ble_eq_true rfl, Nat.le_of_ble_eq_true rfl⟩ (Nat.le_of_ble_eq_true rfl) ⟨Nat.zero_le _, Nat.zero_le _⟩ dX2_goTo_45 (ki fun r45 h => ?_)
      refine vr_ifne 54 dX2_goTo_48 (by decide) (fun c48 => ?_) (fun c48 => ?_)
      · have h := h.1 c48
        refine vr_bipush (-21) dX2_goTo_51 (by decide) ?_
        exact vr_iret rfl ⟨_, _, rfl, rfl, h⟩ dX2_goTo_53
      · have h := h.2 c48
        refine vr_aload_n 3 0 dX2_goTo_54 rfl rfl ?_
        refine vr_aload_n 0 2 dX2_goTo_55 rfl rfl ?_
        refine vg_1_9 RX2 rfl ho fl_2_111 dX2_goTo_56 ?_
        refine vr_callV RX2 (s_X3_letsGo (hvr29 _ rfl) h) rfl (hvr29 _ rfl) rfl rfl rfl ml_2_69 rfl yh_X3_letsGo rfl ⟨Nat.le_of_ble_eq_true rfl, Nat.le_of_ble_eq_true rfl⟩ (Nat.le_of_ble_eq_true rfl) ⟨Nat.zero_le _, Nat.zero_le _⟩ dX2_goTo_59 (ki fun r59 h => ?_)
        refine vr_ifne 68 dX2_goTo_62 (by decide) (fun c62 => ?_) (fun c62 => ?_)
        · have h := h.1 c62
          refine vr_bipush (-22) dX2_goTo_65 (by decide) ?_
          exact vr_iret rfl ⟨_, _, rfl, rfl, h⟩ dX2_goTo_67
        · have h := h.2 c62
          refine vr_aload_n 0 2 dX2_goTo_68 rfl rfl ?_
          refine vr_aload_n 0 2 dX2_goTo_69 rfl rfl ?_
          refine vg_1_7 RX2 rfl ho fl_2_105 dX2_goTo_70 ?_
          obtain ⟨P73, eP73⟩ : ∃ y : VP, y = vup P11 1 o 2 (P11 1 o 7) := ⟨_, rfl⟩
          have h := h P73 eP73
          refine vp_1_2 RX2 rfl ho fl_2_36 eP73 dX2_goTo_73 ?_
          refine vr_aload_n 0 2 dX2_goTo_76 rfl rfl ?_
          refine vr_aload_n 0 2 dX2_goTo_77 rfl rfl ?_
          refine vg_1_8 RX2 rfl ho fl_2_108 dX2_goTo_78 ?_
          obtain ⟨P81, eP81⟩ : ∃ y : VP, y = vup P73 1 o 3 (P73 1 o 8) := ⟨_, rfl⟩
          have h := h P81 eP81
          refine vp_1_3 RX2 rfl ho fl_2_39 eP81 dX2_goTo_81 ?_
          refine vr_aload_n 0 2 dX2_goTo_84 rfl rfl ?_
          refine vr_aload_n 0 2 dX2_goTo_85 rfl rfl ?_
          refine vg_1_9 RX2 rfl ho fl_2_111 dX2_goTo_86 ?_
          obtain ⟨P89, eP89⟩ : ∃ y : VP, y = vup P81 1 o 4 (P81 1 o 9) := ⟨_, rfl⟩
          have h := h P89 eP89
          refine vp_1_4 RX2 rfl ho fl_2_25 eP89 dX2_goTo_89 ?_
          refine vr_iconst 0 dX2_goTo_92 (by decide) ?_
          exact vr_iret rfl ⟨_, _, rfl, rfl, h⟩ dX2_goTo_93
  · have h := h.2 c16
    refine vr_iload_n 2 0 dX2_goTo_19 rfl rfl ?_
    exact vr_iret rfl ⟨_, _, rfl, rfl, h⟩ dX2_goTo_20
theorem dX2_putNumber_0 : decode cX2_putNumber 0 = .ok (.aload_n 0, 1) := by decide +kernel
theorem dX2_putNumber_1 : decode cX2_putNumber 1 = .ok (.aload_n 0, 1) := by decide +kernel
theorem dX2_putNumber_2 : decode cX2_putNumber 2 = .ok (.getfield 36, 3) := by decide +kernel
theorem dX2_putNumber_5 : decode cX2_putNumber 5 = .ok (.iload_n 1, 1) := by decide +kernel
theorem dX2_putNumber_6 : decode cX2_putNumber 6 = .ok (.aload_n 0, 1) := by decide +kernel
theorem dX2_putNumber_7 : decode cX2_putNumber 7 = .ok (.getfield 25, 3) := by decide +kernel
theorem dX2_putNumber_10 : decode cX2_putNumber 10 = .ok (.iconst 1, 1) := by decide +kernel
theorem dX2_putNumber_11 : decode cX2_putNumber 11 = .ok (.invokevirtual 101, 3) := by decide +kernel
theorem dX2_putNumber_14 : decode cX2_putNumber 14 = .ok (.istore_n 2, 1) := by decide +kernel
theorem dX2_putNumber_15 : decode cX2_putNumber 15 = .ok (.iload_n 2, 1) := by decide +kernel
theorem dX2_putNumber_16 : decode cX2_putNumber 16 = .ok (.ifCond .ne 20, 3) := by decide +kernel
theorem dX2_putNumber_19 : decode cX2_putNumber 19 = .ok (.aload_n 0, 1) := by decide +kernel
theorem dX2_putNumber_20 : decode cX2_putNumber 20 = .ok (.aload_n 0, 1) := by decide +kernel
theorem dX2_putNumber_21 : decode cX2_putNumber 21 = .ok (.getfield 105, 3) := by decide +kernel
theorem dX2_putNumber_24 : decode cX2_putNumber 24 = .ok (.aload_n 0, 1) := by decide +kernel
theorem dX2_putNumber_25 : decode cX2_putNumber 25 = .ok (.getfield 108, 3) := by decide +kernel
theorem dX2_putNumber_28 : decode cX2_putNumber 28 = .ok (.aload_n 0, 1) := by decide +kernel
theorem dX2_putNumber_29 : decode cX2_putNumber 29 = .ok (.getfield 111, 3) := by decide +kernel
theorem dX2_putNumber_32 : decode cX2_putNumber 32 = .ok (.invokevirtual 120, 3) := by decide +kernel
theorem dX2_putNumber_35 : decode cX2_putNumber 35 = .ok (.istore_n 2, 1) := by decide +kernel
theorem dX2_putNumber_36 : decode cX2_putNumber 36 = .ok (.iload_n 2, 1) := by decide +kernel
theorem dX2_putNumber_37 : decode cX2_putNumber 37 = .ok (.ifCond .ne 19, 3) := by decide +kernel
theorem dX2_putNumber_40 : decode cX2_putNumber 40 = .ok (.aload_n 0, 1) := by decide +kernel
theorem dX2_putNumber_41 : decode cX2_putNumber 41 = .ok (.aload_n 0, 1) := by decide +kernel
theorem dX2_putNumber_42 : decode cX2_putNumber 42 = .ok (.getfield 105, 3) := by decide +kernel
theorem dX2_putNumber_45 : decode cX2_putNumber 45 = .ok (.aload_n 0, 1) := by decide +kernel
theorem dX2_putNumber_46 : decode cX2_putNumber 46 = .ok (.getfield 108, 3) := by decide +kernel
theorem dX2_putNumber_49 : decode cX2_putNumber 49 = .ok (.aload_n 0, 1) := by decide +kernel
theorem dX2_putNumber_50 : decode cX2_putNumber 50 = .ok (.getfield 42, 3) := by decide +kernel
theorem dX2_putNumber_53 : decode cX2_putNumber 53 = .ok (.invokevirtual 123, 3) := by decide +kernel
theorem dX2_putNumber_56 : decode cX2_putNumber 56 = .ok (.iload_n 2, 1) := by decide +kernel
theorem dX2_putNumber_57 : decode cX2_putNumber 57 = .ok (.ireturn, 1) := by decide +kernel
def F_X2_putNumber_b36 (o : Nat) (x1 : Int32) (P : VP) (post : Int32 → VP → Prop)  (v2 : Int32) : Prop :=
  (v2 = 0 → F_X2_store o (P 1 o 7) (P 1 o 8) (P 1 o 5) P (fun P53 => post v2 P53)) ∧ (¬ v2 = 0 → post v2 P)
set_option maxRecDepth 4000 in
theorem s_X2_putNumber_b36 {l : Launch} {g : vG} {o : Nat} {x1 : Int32} {P Q : VP} {post : Int32 → VP → Prop}  {v2 : Int32}  (ho : o < vcnt 1)  (h : F_X2_putNumber_b36 o x1 P post  v2) : VM l g RX2 cX2_putNumber 3 (some .int) 4 (vcI Q post) 36 [(0, vR 1 o), (2, vI v2)] [] (vjn P Q) := by
  unfold F_X2_putNumber_b36 at h
  refine vr_iload_n 2 1 dX2_putNumber_36 rfl rfl ?_
  refine vr_ifne 56 dX2_putNumber_37 (by decide) (fun c37 => ?_) (fun c37 => ?_)
  · have h := h.1 c37
    refine vr_aload_n 0 0 dX2_putNumber_40 rfl rfl ?_
    refine vr_aload_n 0 0 dX2_putNumber_41 rfl rfl ?_
    refine vg_1_7 RX2 rfl ho fl_2_105 dX2_putNumber_42 ?_
    refine vr_aload_n 0 0 dX2_putNumber_45 rfl rfl ?_
    refine vg_1_8 RX2 rfl ho fl_2_108 dX2_putNumber_46 ?_
    refine vr_aload_n 0 0 dX2_putNumber_49 rfl rfl ?_
    refine vg_1_5 RX2 rfl ho fl_2_42 dX2_putNumber_50 ?_
    refine vr_callV RX2 (s_X2_store ho h) rfl ho rfl rfl rfl ml_2_123 rfl yh_X2_store rfl ⟨Nat.le_of_ble_eq_true rfl, Nat.le_of_ble_eq_true rfl⟩ (Nat.le_of_ble_eq_true rfl) ⟨Nat.zero_le _, Nat.zero_le _⟩ dX2_putNumber_53 (kcv fun P53 h => ?_)
    refine vr_iload_n 2 1 dX2_putNumber_56 rfl rfl ?_
    exact vr_iret rfl ⟨_, _, rfl, rfl, h⟩ dX2_putNumber_57
  · have h := h.2 c37
    refine vr_iload_n 2 1 dX2_putNumber_56 rfl rfl ?_
    exact vr_iret rfl ⟨_, _, rfl, rfl, h⟩ dX2_putNumber_57
def F_X2_putNumber (o : Nat) (x1 : Int32) (P : VP) (post : Int32 → VP → Prop) : Prop :=
  F_X2_seekOperand o (P 1 o 2) x1 (P 1 o 4) ((1 : Int32)) P (fun r11 P11 => (r11 = 0 → F_X2_faultOfStore o (P11 1 o 7) (P11 1 o 8) (P11 1 o 9) P11 (fun r32 => F_X2_putNumber_b36 o x1 P11 post  r32)) ∧ (¬ r11 = 0 → F_X2_putNumber_b36 o x1 P11 post  r11))
set_option maxRecDepth 4000 in
theorem s_X2_putNumber {l : Launch} {g : vG} {o : Nat} {x1 : Int32} {P Q : VP} {post : Int32 → VP → Prop} (ho : o < vcnt 1) (h : F_X2_putNumber o x1 P post) : VC l g yX2_putNumber cX2_putNumber 3 (some .int) 4 [vR 1 o, vI x1] (vjn P Q) (vcI Q post) := by
  refine VC.of (by decide +kernel) (Nat.le_of_ble_eq_true rfl) (show VM l g RX2 cX2_putNumber 3 (some .int) 4 (vcI Q post) 0 [(0, vR 1 o), (1, vI x1)] [] (vjn P Q) from ?_)
  unfold F_X2_putNumber at h
  refine vr_aload_n 0 0 dX2_putNumber_0 rfl rfl ?_
  refine vr_aload_n 0 0 dX2_putNumber_1 rfl rfl ?_
  refine vg_1_2 RX2 rfl ho fl_2_36 dX2_putNumber_2 ?_
  refine vr_iload_n 1 1 dX2_putNumber_5 rfl rfl ?_
  refine vr_aload_n 0 0 dX2_putNumber_6 rfl rfl ?_
  refine vg_1_4 RX2 rfl ho fl_2_25 dX2_putNumber_7 ?_
  refine vr_iconst 1 dX2_putNumber_10 (by decide) ?_
  refine vr_callV RX2 (s_X2_seekOperand ho h) rfl ho rfl rfl rfl ml_2_101 rfl yh_X2_seekOperand rfl ⟨Nat.le_of_ble_eq_true rfl, Nat.le_of_ble_eq_true rfl⟩ (Nat.le_of_ble_eq_true rfl) ⟨Nat.zero_le _, Nat.zero_le _⟩ dX2_putNumber_11 (kci fun r11 P11 h => ?_)
  refine vr_istore_n 2 [(2, vI r11), (0, vR 1 o), (1, vI x1)] dX2_putNumber_14 rfl (by decide) rfl ?_
  refine vr_iload_n 2 0 dX2_putNumber_15 rfl rfl ?_
  refine vr_ifne 36 dX2_putNumber_16 (by decide) (fun c16 => ?_) (fun c16 => ?_)
  · have h := h.1 c16
    refine vr_aload_n 0 1 dX2_putNumber_19 rfl rfl ?_
    refine vr_aload_n 0 1 dX2_putNumber_20 rfl rfl ?_
    refine vg_1_7 RX2 rfl ho fl_2_105 dX2_putNumber_21 ?_
    refine vr_aload_n 0 1 dX2_putNumber_24 rfl rfl ?_
    refine vg_1_8 RX2 rfl ho fl_2_108 dX2_putNumber_25 ?_
    refine vr_aload_n 0 1 dX2_putNumber_28 rfl rfl ?_
    refine vg_1_9 RX2 rfl ho fl_2_111 dX2_putNumber_29 ?_
    refine vr_callV RX2 (s_X2_faultOfStore ho h) rfl ho rfl rfl rfl ml_2_120 rfl yh_X2_faultOfStore rfl ⟨Nat.le_of_ble_eq_true rfl, Nat.le_of_ble_eq_true rfl⟩ (Nat.le_of_ble_eq_true rfl) ⟨Nat.zero_le _, Nat.zero_le _⟩ dX2_putNumber_32 (ki fun r32 h => ?_)
    refine vr_istore_n 2 [(2, vI r32), (0, vR 1 o), (1, vI x1)] dX2_putNumber_35 rfl (by decide) rfl ?_
    refine vr_sub [1, 0] [(0, vR 1 o), (2, vI r32)] rfl ?_
    exact s_X2_putNumber_b36 ho  h
  · have h := h.2 c16
    refine vr_sub [1, 0] [(0, vR 1 o), (2, vI r11)] rfl ?_
    exact s_X2_putNumber_b36 ho  h
theorem dX2_isLatestOutward_0 : decode cX2_isLatestOutward 0 = .ok (.aload_n 0, 1) := by decide +kernel
theorem dX2_isLatestOutward_1 : decode cX2_isLatestOutward 1 = .ok (.getfield 21, 3) := by decide +kernel
theorem dX2_isLatestOutward_4 : decode cX2_isLatestOutward 4 = .ok (.aload_n 0, 1) := by decide +kernel
theorem dX2_isLatestOutward_5 : decode cX2_isLatestOutward 5 = .ok (.getfield 25, 3) := by decide +kernel
theorem dX2_isLatestOutward_8 : decode cX2_isLatestOutward 8 = .ok (.invokevirtual 166, 3) := by decide +kernel
theorem dX2_isLatestOutward_11 : decode cX2_isLatestOutward 11 = .ok (.astore_n 1, 1) := by decide +kernel
theorem dX2_isLatestOutward_12 : decode cX2_isLatestOutward 12 = .ok (.aload_n 1, 1) := by decide +kernel
theorem dX2_isLatestOutward_13 : decode cX2_isLatestOutward 13 = .ok (.ifnull 14, 3) := by decide +kernel
theorem dX2_isLatestOutward_16 : decode cX2_isLatestOutward 16 = .ok (.aload_n 1, 1) := by decide +kernel
theorem dX2_isLatestOutward_17 : decode cX2_isLatestOutward 17 = .ok (.getfield 133, 3) := by decide +kernel
theorem dX2_isLatestOutward_20 : decode cX2_isLatestOutward 20 = .ok (.ifCond .eq 7, 3) := by decide +kernel
theorem dX2_isLatestOutward_23 : decode cX2_isLatestOutward 23 = .ok (.iconst 1, 1) := by decide +kernel
theorem dX2_isLatestOutward_24 : decode cX2_isLatestOutward 24 = .ok (.goto 4, 3) := by decide +kernel
theorem dX2_isLatestOutward_27 : decode cX2_isLatestOutward 27 = .ok (.iconst 0, 1) := by decide +kernel
theorem dX2_isLatestOutward_28 : decode cX2_isLatestOutward 28 = .ok (.ireturn, 1) := by decide +kernel
def F_X2_isLatestOutward (o : Nat) (P : VP) (post : Int32 → Prop) : Prop :=
  (F_X4_latestOf o (P 1 o 4) P (fun r8 => match r8 with | none => (post ((0 : Int32))) | some yr8 => ((P 14 yr8 3 = 0 → post ((0 : Int32))) ∧ (¬ P 14 yr8 3 = 0 → post ((1 : Int32))))))
set_option maxRecDepth 4000 in
theorem s_X2_isLatestOutward {l : Launch} {g : vG} {o : Nat} {P Q : VP} {post : Int32 → Prop} (ho : o < vcnt 1) (h : F_X2_isLatestOutward o P post) : VC l g yX2_isLatestOutward cX2_isLatestOutward 2 (some .boolean) 3 [vR 1 o] (vjn P Q) (vpI (vjn P Q) post) := by
  refine VC.of (by decide +kernel) (Nat.le_of_ble_eq_true rfl) (show VM l g RX2 cX2_isLatestOutward 2 (some .boolean) 3 (vpI (vjn P Q) post) 0 [(0, vR 1 o)] [] (vjn P Q) from ?_)
  unfold F_X2_isLatestOutward at h
  refine vr_aload_n 0 0 dX2_isLatestOutward_0 rfl rfl ?_
  refine vg_1_1 RX2 rfl ho fl_2_21 dX2_isLatestOutward_1 ?_
  refine vr_aload_n 0 0 dX2_isLatestOutward_4 rfl rfl ?_
  refine vg_1_4 RX2 rfl ho fl_2_25 dX2_isLatestOutward_5 ?_
  refine vr_callV RX2 (s_X4_latestOf ho h) rfl ho rfl rfl rfl ml_2_166 rfl yh_X4_latestOf rfl ⟨Nat.le_of_ble_eq_true rfl, Nat.le_of_ble_eq_true rfl⟩ (Nat.le_of_ble_eq_true rfl) ⟨Nat.zero_le _, Nat.zero_le _⟩ dX2_isLatestOutward_8 (ko fun r8 hvr8 h => ?_)
  refine vr_astore_n 1 [(1, vO 14 r8), (0, vR 1 o)] dX2_isLatestOutward_11 rfl (by decide) rfl ?_
  refine vr_aload_n 1 0 dX2_isLatestOutward_12 rfl rfl ?_
  rcases r8 with _ | yr8
  · refine vr_ifnullN 27 dX2_isLatestOutward_13 (by decide) ?_
    refine vr_iconst 0 dX2_isLatestOutward_27 (by decide) ?_
    exact vr_zret rfl (Or.inl rfl) ⟨rfl, _, rfl, h⟩ dX2_isLatestOutward_28
  · refine vr_ifnullR dX2_isLatestOutward_13 ?_
    refine vr_aload_n 1 0 dX2_isLatestOutward_16 rfl rfl ?_
    refine vg_14_3 RX2 rfl (hvr8 _ rfl) fl_2_133 dX2_isLatestOutward_17 ?_
    refine vr_ifeq 27 dX2_isLatestOutward_20 (by decide) (fun c20 => ?_) (fun c20 => ?_)
    · have h := h.1 c20
      refine vr_iconst 0 dX2_isLatestOutward_27 (by decide) ?_
      exact vr_zret rfl (Or.inl rfl) ⟨rfl, _, rfl, h⟩ dX2_isLatestOutward_28
    · have h := h.2 c20
      refine vr_iconst 1 dX2_isLatestOutward_23 (by decide) ?_
      refine vr_goto 28 dX2_isLatestOutward_24 (by decide) ?_
      exact vr_zret rfl (Or.inr rfl) ⟨rfl, _, rfl, h⟩ dX2_isLatestOutward_28
theorem dX2_latestArgument_0 : decode cX2_latestArgument 0 = .ok (.aload_n 0, 1) := by decide +kernel
theorem dX2_latestArgument_1 : decode cX2_latestArgument 1 = .ok (.getfield 21, 3) := by decide +kernel
theorem dX2_latestArgument_4 : decode cX2_latestArgument 4 = .ok (.aload_n 0, 1) := by decide +kernel
theorem dX2_latestArgument_5 : decode cX2_latestArgument 5 = .ok (.getfield 25, 3) := by decide +kernel
theorem dX2_latestArgument_8 : decode cX2_latestArgument 8 = .ok (.invokevirtual 166, 3) := by decide +kernel
theorem dX2_latestArgument_11 : decode cX2_latestArgument 11 = .ok (.astore_n 2, 1) := by decide +kernel
theorem dX2_latestArgument_12 : decode cX2_latestArgument 12 = .ok (.aload_n 2, 1) := by decide +kernel
theorem dX2_latestArgument_13 : decode cX2_latestArgument 13 = .ok (.ifnonnull 7, 3) := by decide +kernel
theorem dX2_latestArgument_16 : decode cX2_latestArgument 16 = .ok (.aconst_null, 1) := by decide +kernel
theorem dX2_latestArgument_17 : decode cX2_latestArgument 17 = .ok (.goto 8, 3) := by decide +kernel
theorem dX2_latestArgument_20 : decode cX2_latestArgument 20 = .ok (.aload_n 2, 1) := by decide +kernel
theorem dX2_latestArgument_21 : decode cX2_latestArgument 21 = .ok (.iload_n 1, 1) := by decide +kernel
theorem dX2_latestArgument_22 : decode cX2_latestArgument 22 = .ok (.invokevirtual 140, 3) := by decide +kernel
theorem dX2_latestArgument_25 : decode cX2_latestArgument 25 = .ok (.areturn, 1) := by decide +kernel
def F_X2_latestArgument (o : Nat) (x1 : Int32) (P : VP) (post : Option Nat → Prop) : Prop :=
  (F_X4_latestOf o (P 1 o 4) P (fun r8 => match r8 with | none => (post none) | some yr8 => (F_X1_argumentAt yr8 x1 P (fun r22 => post r22))))
set_option maxRecDepth 4000 in
theorem s_X2_latestArgument {l : Launch} {g : vG} {o : Nat} {x1 : Int32} {P Q : VP} {post : Option Nat → Prop} (ho : o < vcnt 1) (h : F_X2_latestArgument o x1 P post) : VC l g yX2_latestArgument cX2_latestArgument 3 (some (.object "RingGates$Argument")) 3 [vR 1 o, vI x1] (vjn P Q) (vpO 16 (vjn P Q) post) := by
  refine VC.of (by decide +kernel) (Nat.le_of_ble_eq_true rfl) (show VM l g RX2 cX2_latestArgument 3 (some (.object "RingGates$Argument")) 3 (vpO 16 (vjn P Q) post) 0 [(0, vR 1 o), (1, vI x1)] [] (vjn P Q) from ?_)
  unfold F_X2_latestArgument at h
  refine vr_aload_n 0 0 dX2_latestArgument_0 rfl rfl ?_
  refine vg_1_1 RX2 rfl ho fl_2_21 dX2_latestArgument_1 ?_
  refine vr_aload_n 0 0 dX2_latestArgument_4 rfl rfl ?_
  refine vg_1_4 RX2 rfl ho fl_2_25 dX2_latestArgument_5 ?_
  refine vr_callV RX2 (s_X4_latestOf ho h) rfl ho rfl rfl rfl ml_2_166 rfl yh_X4_latestOf rfl ⟨Nat.le_of_ble_eq_true rfl, Nat.le_of_ble_eq_true rfl⟩ (Nat.le_of_ble_eq_true rfl) ⟨Nat.zero_le _, Nat.zero_le _⟩ dX2_latestArgument_8 (ko fun r8 hvr8 h => ?_)
  refine vr_astore_n 2 [(2, vO 14 r8), (0, vR 1 o), (1, vI x1)] dX2_latestArgument_11 rfl (by decide) rfl ?_
  refine vr_aload_n 2 0 dX2_latestArgument_12 rfl rfl ?_
  rcases r8 with _ | yr8
  · refine vr_ifnonnullN dX2_latestArgument_13 ?_
    refine vr_anull dX2_latestArgument_16 ?_
    refine vr_goto 25 dX2_latestArgument_17 (by decide) ?_
    exact vr_aret rfl ⟨rfl, none, rfl, vnone, h⟩ dX2_latestArgument_25
  · refine vr_ifnonnullR 20 dX2_latestArgument_13 (by decide) ?_
    refine vr_aload_n 2 0 dX2_latestArgument_20 rfl rfl ?_
    refine vr_iload_n 1 2 dX2_latestArgument_21 rfl rfl ?_
    refine vr_callV RX2 (s_X1_argumentAt (hvr8 _ rfl) h) rfl (hvr8 _ rfl) rfl rfl rfl ml_2_140 rfl yh_X1_argumentAt rfl ⟨Nat.le_of_ble_eq_true rfl, Nat.le_of_ble_eq_true rfl⟩ (Nat.le_of_ble_eq_true rfl) ⟨Nat.zero_le _, Nat.zero_le _⟩ dX2_latestArgument_22 (ko fun r22 hvr22 h => ?_)
    exact vr_aret rfl ⟨rfl, r22, rfl, hvr22, h⟩ dX2_latestArgument_25
theorem dX2_readArgument_0 : decode cX2_readArgument 0 = .ok (.aload_n 0, 1) := by decide +kernel
theorem dX2_readArgument_1 : decode cX2_readArgument 1 = .ok (.iload_n 1, 1) := by decide +kernel
theorem dX2_readArgument_2 : decode cX2_readArgument 2 = .ok (.invokevirtual 178, 3) := by decide +kernel
theorem dX2_readArgument_5 : decode cX2_readArgument 5 = .ok (.astore_n 2, 1) := by decide +kernel
theorem dX2_readArgument_6 : decode cX2_readArgument 6 = .ok (.aload_n 2, 1) := by decide +kernel
theorem dX2_readArgument_7 : decode cX2_readArgument 7 = .ok (.ifnonnull 6, 3) := by decide +kernel
theorem dX2_readArgument_10 : decode cX2_readArgument 10 = .ok (.bipush (-31), 2) := by decide +kernel
theorem dX2_readArgument_12 : decode cX2_readArgument 12 = .ok (.ireturn, 1) := by decide +kernel
theorem dX2_readArgument_13 : decode cX2_readArgument 13 = .ok (.aload_n 0, 1) := by decide +kernel
theorem dX2_readArgument_14 : decode cX2_readArgument 14 = .ok (.invokevirtual 181, 3) := by decide +kernel
theorem dX2_readArgument_17 : decode cX2_readArgument 17 = .ok (.ifCond .eq 13, 3) := by decide +kernel
theorem dX2_readArgument_20 : decode cX2_readArgument 20 = .ok (.aload_n 0, 1) := by decide +kernel
theorem dX2_readArgument_21 : decode cX2_readArgument 21 = .ok (.aload_n 2, 1) := by decide +kernel
theorem dX2_readArgument_22 : decode cX2_readArgument 22 = .ok (.getfield 163, 3) := by decide +kernel
theorem dX2_readArgument_25 : decode cX2_readArgument 25 = .ok (.putfield 42, 3) := by decide +kernel
theorem dX2_readArgument_28 : decode cX2_readArgument 28 = .ok (.iconst 0, 1) := by decide +kernel
theorem dX2_readArgument_29 : decode cX2_readArgument 29 = .ok (.ireturn, 1) := by decide +kernel
theorem dX2_readArgument_30 : decode cX2_readArgument 30 = .ok (.aload_n 0, 1) := by decide +kernel
theorem dX2_readArgument_31 : decode cX2_readArgument 31 = .ok (.aload_n 2, 1) := by decide +kernel
theorem dX2_readArgument_32 : decode cX2_readArgument 32 = .ok (.getfield 155, 3) := by decide +kernel
theorem dX2_readArgument_35 : decode cX2_readArgument 35 = .ok (.aload_n 2, 1) := by decide +kernel
theorem dX2_readArgument_36 : decode cX2_readArgument 36 = .ok (.getfield 158, 3) := by decide +kernel
theorem dX2_readArgument_39 : decode cX2_readArgument 39 = .ok (.aload_n 2, 1) := by decide +kernel
theorem dX2_readArgument_40 : decode cX2_readArgument 40 = .ok (.getfield 159, 3) := by decide +kernel
theorem dX2_readArgument_43 : decode cX2_readArgument 43 = .ok (.aload_n 0, 1) := by decide +kernel
theorem dX2_readArgument_44 : decode cX2_readArgument 44 = .ok (.getfield 25, 3) := by decide +kernel
theorem dX2_readArgument_47 : decode cX2_readArgument 47 = .ok (.invokestatic 185, 3) := by decide +kernel
theorem dX2_readArgument_50 : decode cX2_readArgument 50 = .ok (.invokevirtual 114, 3) := by decide +kernel
theorem dX2_readArgument_53 : decode cX2_readArgument 53 = .ok (.istore_n 3, 1) := by decide +kernel
theorem dX2_readArgument_54 : decode cX2_readArgument 54 = .ok (.iload_n 3, 1) := by decide +kernel
theorem dX2_readArgument_55 : decode cX2_readArgument 55 = .ok (.ifCond .ne 11, 3) := by decide +kernel
theorem dX2_readArgument_58 : decode cX2_readArgument 58 = .ok (.aload_n 0, 1) := by decide +kernel
theorem dX2_readArgument_59 : decode cX2_readArgument 59 = .ok (.aload_n 0, 1) := by decide +kernel
theorem dX2_readArgument_60 : decode cX2_readArgument 60 = .ok (.getfield 117, 3) := by decide +kernel
theorem dX2_readArgument_63 : decode cX2_readArgument 63 = .ok (.putfield 42, 3) := by decide +kernel
theorem dX2_readArgument_66 : decode cX2_readArgument 66 = .ok (.iload_n 3, 1) := by decide +kernel
theorem dX2_readArgument_67 : decode cX2_readArgument 67 = .ok (.ireturn, 1) := by decide +kernel
def F_X2_readArgument (o : Nat) (x1 : Int32) (P : VP) (post : Int32 → VP → Prop) : Prop :=
  (F_X2_latestArgument o x1 P (fun r2 => match r2 with | none => (post (((-31) : Int32)) P) | some yr2 => (F_X2_isLatestOutward o P (fun r14 => (r14 = 0 → F_X2_fetch o (P 16 yr2 0) (P 16 yr2 1) (imax (P 16 yr2 2) (P 1 o 4)) P (fun r50 P50 => (r50 = 0 → ∀ P63 : VP, P63 = vup P50 1 o 5 (P50 1 o 10) → (post r50 P63)) ∧ (¬ r50 = 0 → post r50 P50))) ∧ (¬ r14 = 0 → ∀ P25 : VP, P25 = vup P 1 o 5 (P 16 yr2 3) → (post ((0 : Int32)) P25))))))
set_option maxRecDepth 4000 in
theorem s_X2_readArgument {l : Launch} {g : vG} {o : Nat} {x1 : Int32} {P Q : VP} {post : Int32 → VP → Prop} (ho : o < vcnt 1) (h : F_X2_readArgument o x1 P post) : VC l g yX2_readArgument cX2_readArgument 4 (some .int) 4 [vR 1 o, vI x1] (vjn P Q) (vcI Q post) := by
  refine VC.of (by decide +kernel) (Nat.le_of_ble_eq_true rfl) (show VM l g RX2 cX2_readArgument 4 (some .int) 4 (vcI Q post) 0 [(0, vR 1 o), (1, vI x1)] [] (vjn P Q) from ?_)
  unfold F_X2_readArgument at h
  refine vr_aload_n 0 0 dX2_readArgument_0 rfl rfl ?_
  refine vr_iload_n 1 1 dX2_readArgument_1 rfl rfl ?_
  refine vr_callV RX2 (s_X2_latestArgument ho h) rfl ho rfl rfl rfl ml_2_178 rfl yh_X2_latestArgument rfl ⟨Nat.le_of_ble_eq_true rfl, Nat.le_of_ble_eq_true rfl⟩ (Nat.le_of_ble_eq_true rfl) ⟨Nat.zero_le _, Nat.zero_le _⟩ dX2_readArgument_2 (ko fun r2 hvr2 h => ?_)
  refine vr_astore_n 2 [(2, vO 16 r2), (0, vR 1 o), (1, vI x1)] dX2_readArgument_5 rfl (by decide) rfl ?_
  refine vr_aload_n 2 0 dX2_readArgument_6 rfl rfl ?_
  rcases r2 with _ | yr2
  · refine vr_ifnonnullN dX2_readArgument_7 ?_
    refine vr_bipush (-31) dX2_readArgument_10 (by decide) ?_
    exact vr_iret rfl ⟨_, _, rfl, rfl, h⟩ dX2_readArgument_12
  · refine vr_ifnonnullR 13 dX2_readArgument_7 (by decide) ?_
    refine vr_aload_n 0 1 dX2_readArgument_13 rfl rfl ?_
    refine vr_callV RX2 (s_X2_isLatestOutward ho h) rfl ho rfl rfl rfl ml_2_181 rfl yh_X2_isLatestOutward rfl ⟨Nat.le_of_ble_eq_true rfl, Nat.le_of_ble_eq_true rfl⟩ (Nat.le_of_ble_eq_true rfl) ⟨Nat.zero_le _, Nat.zero_le _⟩ dX2_readArgument_14 (ki fun r14 h => ?_)
    refine vr_ifeq 30 dX2_readArgument_17 (by decide) (fun c17 => ?_) (fun c17 => ?_)
    · have h := h.1 c17
      refine vr_aload_n 0 1 dX2_readArgument_30 rfl rfl ?_
      refine vr_aload_n 2 0 dX2_readArgument_31 rfl rfl ?_
      refine vg_16_0 RX2 rfl (hvr2 _ rfl) fl_2_155 dX2_readArgument_32 ?_
      refine vr_aload_n 2 0 dX2_readArgument_35 rfl rfl ?_
      refine vg_16_1 RX2 rfl (hvr2 _ rfl) fl_2_158 dX2_readArgument_36 ?_
      refine vr_aload_n 2 0 dX2_readArgument_39 rfl rfl ?_
      refine vg_16_2 RX2 rfl (hvr2 _ rfl) fl_2_159 dX2_readArgument_40 ?_
      refine vr_aload_n 0 1 dX2_readArgument_43 rfl rfl ?_
      refine vg_1_4 RX2 rfl ho fl_2_25 dX2_readArgument_44 ?_
      refine vr_max mk_2_185 mm_max ⟨Nat.le_of_ble_eq_true rfl, Nat.le_of_ble_eq_true rfl⟩ ⟨Nat.zero_le _, Nat.zero_le _⟩ dX2_readArgument_47 ?_
      refine vr_callV RX2 (s_X2_fetch ho h) rfl ho rfl rfl rfl ml_2_114 rfl yh_X2_fetch rfl ⟨Nat.le_of_ble_eq_true rfl, Nat.le_of_ble_eq_true rfl⟩ (Nat.le_of_ble_eq_true rfl) ⟨Nat.zero_le _, Nat.zero_le _⟩ dX2_readArgument_50 (kci fun r50 P50 h => ?_)
      refine vr_istore_n 3 [(3, vI r50), (2, vR 16 yr2), (0, vR 1 o), (1, vI x1)] dX2_readArgument_53 rfl (by decide) rfl ?_
      refine vr_iload_n 3 0 dX2_readArgument_54 rfl rfl ?_
      refine vr_ifne 66 dX2_readArgument_55 (by decide) (fun c55 => ?_) (fun c55 => ?_)
      · have h := h.1 c55
        refine vr_aload_n 0 2 dX2_readArgument_58 rfl rfl ?_
        refine vr_aload_n 0 2 dX2_readArgument_59 rfl rfl ?_
        refine vg_1_10 RX2 rfl ho fl_2_117 dX2_readArgument_60 ?_
        obtain ⟨P63, eP63⟩ : ∃ y : VP, y = vup P50 1 o 5 (P50 1 o 10) := ⟨_, rfl⟩
        have h := h P63 eP63
        refine vp_1_5 RX2 rfl ho fl_2_42 eP63 dX2_readArgument_63 ?_
        refine vr_iload_n 3 0 dX2_readArgument_66 rfl rfl ?_
        exact vr_iret rfl ⟨_, _, rfl, rfl, h⟩ dX2_readArgument_67
      · have h := h.2 c55
        refine vr_iload_n 3 0 dX2_readArgument_66 rfl rfl ?_
        exact vr_iret rfl ⟨_, _, rfl, rfl, h⟩ dX2_readArgument_67
    · have h := h.2 c17
      refine vr_aload_n 0 1 dX2_readArgument_20 rfl rfl ?_
      refine vr_aload_n 2 0 dX2_readArgument_21 rfl rfl ?_
      refine vg_16_3 RX2 rfl (hvr2 _ rfl) fl_2_163 dX2_readArgument_22 ?_
      obtain ⟨P25, eP25⟩ : ∃ y : VP, y = vup P 1 o 5 (P 16 yr2 3) := ⟨_, rfl⟩
      have h := h P25 eP25
      refine vp_1_5 RX2 rfl ho fl_2_42 eP25 dX2_readArgument_25 ?_
      refine vr_iconst 0 dX2_readArgument_28 (by decide) ?_
      exact vr_iret rfl ⟨_, _, rfl, rfl, h⟩ dX2_readArgument_29
theorem dX2_takeNumber_0 : decode cX2_takeNumber 0 = .ok (.aload_n 0, 1) := by decide +kernel
theorem dX2_takeNumber_1 : decode cX2_takeNumber 1 = .ok (.aload_n 0, 1) := by decide +kernel
theorem dX2_takeNumber_2 : decode cX2_takeNumber 2 = .ok (.getfield 36, 3) := by decide +kernel
theorem dX2_takeNumber_5 : decode cX2_takeNumber 5 = .ok (.iload_n 1, 1) := by decide +kernel
theorem dX2_takeNumber_6 : decode cX2_takeNumber 6 = .ok (.aload_n 0, 1) := by decide +kernel
theorem dX2_takeNumber_7 : decode cX2_takeNumber 7 = .ok (.getfield 25, 3) := by decide +kernel
theorem dX2_takeNumber_10 : decode cX2_takeNumber 10 = .ok (.iconst 1, 1) := by decide +kernel
theorem dX2_takeNumber_11 : decode cX2_takeNumber 11 = .ok (.invokevirtual 101, 3) := by decide +kernel
theorem dX2_takeNumber_14 : decode cX2_takeNumber 14 = .ok (.istore_n 3, 1) := by decide +kernel
theorem dX2_takeNumber_15 : decode cX2_takeNumber 15 = .ok (.iload_n 3, 1) := by decide +kernel
theorem dX2_takeNumber_16 : decode cX2_takeNumber 16 = .ok (.ifCond .ne 20, 3) := by decide +kernel
theorem dX2_takeNumber_19 : decode cX2_takeNumber 19 = .ok (.aload_n 0, 1) := by decide +kernel
theorem dX2_takeNumber_20 : decode cX2_takeNumber 20 = .ok (.aload_n 0, 1) := by decide +kernel
theorem dX2_takeNumber_21 : decode cX2_takeNumber 21 = .ok (.getfield 105, 3) := by decide +kernel
theorem dX2_takeNumber_24 : decode cX2_takeNumber 24 = .ok (.aload_n 0, 1) := by decide +kernel
theorem dX2_takeNumber_25 : decode cX2_takeNumber 25 = .ok (.getfield 108, 3) := by decide +kernel
theorem dX2_takeNumber_28 : decode cX2_takeNumber 28 = .ok (.aload_n 0, 1) := by decide +kernel
theorem dX2_takeNumber_29 : decode cX2_takeNumber 29 = .ok (.getfield 111, 3) := by decide +kernel
theorem dX2_takeNumber_32 : decode cX2_takeNumber 32 = .ok (.invokevirtual 114, 3) := by decide +kernel
theorem dX2_takeNumber_35 : decode cX2_takeNumber 35 = .ok (.istore_n 3, 1) := by decide +kernel
theorem dX2_takeNumber_36 : decode cX2_takeNumber 36 = .ok (.iload_n 3, 1) := by decide +kernel
theorem dX2_takeNumber_37 : decode cX2_takeNumber 37 = .ok (.ifCond .ne 13, 3) := by decide +kernel
theorem dX2_takeNumber_40 : decode cX2_takeNumber 40 = .ok (.aload_n 0, 1) := by decide +kernel
theorem dX2_takeNumber_41 : decode cX2_takeNumber 41 = .ok (.iload_n 2, 1) := by decide +kernel
theorem dX2_takeNumber_42 : decode cX2_takeNumber 42 = .ok (.aload_n 0, 1) := by decide +kernel
theorem dX2_takeNumber_43 : decode cX2_takeNumber 43 = .ok (.getfield 117, 3) := by decide +kernel
theorem dX2_takeNumber_46 : decode cX2_takeNumber 46 = .ok (.iadd, 1) := by decide +kernel
theorem dX2_takeNumber_47 : decode cX2_takeNumber 47 = .ok (.putfield 42, 3) := by decide +kernel
theorem dX2_takeNumber_50 : decode cX2_takeNumber 50 = .ok (.iload_n 3, 1) := by decide +kernel
theorem dX2_takeNumber_51 : decode cX2_takeNumber 51 = .ok (.ireturn, 1) := by decide +kernel
def F_X2_takeNumber_b36 (o : Nat) (x1 : Int32) (x2 : Int32) (P : VP) (post : Int32 → VP → Prop)  (v3 : Int32) : Prop :=
  (v3 = 0 → ∀ P47 : VP, P47 = vup P 1 o 5 (x2 + (P 1 o 10)) → (post v3 P47)) ∧ (¬ v3 = 0 → post v3 P)
set_option maxRecDepth 4000 in
theorem s_X2_takeNumber_b36 {l : Launch} {g : vG} {o : Nat} {x1 : Int32} {x2 : Int32} {P Q : VP} {post : Int32 → VP → Prop}  {v3 : Int32}  (ho : o < vcnt 1)  (h : F_X2_takeNumber_b36 o x1 x2 P post  v3) : VM l g RX2 cX2_takeNumber 4 (some .int) 4 (vcI Q post) 36 [(0, vR 1 o), (2, vI x2), (3, vI v3)] [] (vjn P Q) := by
  unfold F_X2_takeNumber_b36 at h
  refine vr_iload_n 3 2 dX2_takeNumber_36 rfl rfl ?_
  refine vr_ifne 50 dX2_takeNumber_37 (by decide) (fun c37 => ?_) (fun c37 => ?_)
  · have h := h.1 c37
    refine vr_aload_n 0 0 dX2_takeNumber_40 rfl rfl ?_
    refine vr_iload_n 2 1 dX2_takeNumber_41 rfl rfl ?_
    refine vr_aload_n 0 0 dX2_takeNumber_42 rfl rfl ?_
    refine vg_1_10 RX2 rfl ho fl_2_117 dX2_takeNumber_43 ?_
    refine vr_iadd dX2_takeNumber_46 ?_
    obtain ⟨P47, eP47⟩ : ∃ y : VP, y = vup P 1 o 5 (x2 + (P 1 o 10)) := ⟨_, rfl⟩
    have h := h P47 eP47
    refine vp_1_5 RX2 rfl ho fl_2_42 eP47 dX2_takeNumber_47 ?_
    refine vr_iload_n 3 2 dX2_takeNumber_50 rfl rfl ?_
    exact vr_iret rfl ⟨_, _, rfl, rfl, h⟩ dX2_takeNumber_51
  · have h := h.2 c37
    refine vr_iload_n 3 2 dX2_takeNumber_50 rfl rfl ?_
    exact vr_iret rfl ⟨_, _, rfl, rfl, h⟩ dX2_takeNumber_51
def F_X2_takeNumber (o : Nat) (x1 : Int32) (x2 : Int32) (P : VP) (post : Int32 → VP → Prop) : Prop :=
  F_X2_seekOperand o (P 1 o 2) x1 (P 1 o 4) ((1 : Int32)) P (fun r11 P11 => (r11 = 0 → F_X2_fetch o (P11 1 o 7) (P11 1 o 8) (P11 1 o 9) P11 (fun r32 P32 => F_X2_takeNumber_b36 o x1 x2 P32 post  r32)) ∧ (¬ r11 = 0 → F_X2_takeNumber_b36 o x1 x2 P11 post  r11))
set_option maxRecDepth 4000 in
theorem s_X2_takeNumber {l : Launch} {g : vG} {o : Nat} {x1 : Int32} {x2 : Int32} {P Q : VP} {post : Int32 → VP → Prop} (ho : o < vcnt 1) (h : F_X2_takeNumber o x1 x2 P post) : VC l g yX2_takeNumber cX2_takeNumber 4 (some .int) 4 [vR 1 o, vI x1, vI x2] (vjn P Q) (vcI Q post) := by
  refine VC.of (by decide +kernel) (Nat.le_of_ble_eq_true rfl) (show VM l g RX2 cX2_takeNumber 4 (some .int) 4 (vcI Q post) 0 [(0, vR 1 o), (1, vI x1), (2, vI x2)] [] (vjn P Q) from ?_)
  unfold F_X2_takeNumber at h
  refine vr_aload_n 0 0 dX2_takeNumber_0 rfl rfl ?_
  refine vr_aload_n 0 0 dX2_takeNumber_1 rfl rfl ?_
  refine vg_1_2 RX2 rfl ho fl_2_36 dX2_takeNumber_2 ?_
  refine vr_iload_n 1 1 dX2_takeNumber_5 rfl rfl ?_
  refine vr_aload_n 0 0 dX2_takeNumber_6 rfl rfl ?_
  refine vg_1_4 RX2 rfl ho fl_2_25 dX2_takeNumber_7 ?_
  refine vr_iconst 1 dX2_takeNumber_10 (by decide) ?_
  refine vr_callV RX2 (s_X2_seekOperand ho h) rfl ho rfl rfl rfl ml_2_101 rfl yh_X2_seekOperand rfl ⟨Nat.le_of_ble_eq_true rfl, Nat.le_of_ble_eq_true rfl⟩ (Nat.le_of_ble_eq_true rfl) ⟨Nat.zero_le _, Nat.zero_le _⟩ dX2_takeNumber_11 (kci fun r11 P11 h => ?_)
  refine vr_istore_n 3 [(3, vI r11), (0, vR 1 o), (1, vI x1), (2, vI x2)] dX2_takeNumber_14 rfl (by decide) rfl ?_
  refine vr_iload_n 3 0 dX2_takeNumber_15 rfl rfl ?_
  refine vr_ifne 36 dX2_takeNumber_16 (by decide) (fun c16 => ?_) (fun c16 => ?_)
  · have h := h.1 c16
    refine vr_aload_n 0 1 dX2_takeNumber_19 rfl rfl ?_
    refine vr_aload_n 0 1 dX2_takeNumber_20 rfl rfl ?_
    refine vg_1_7 RX2 rfl ho fl_2_105 dX2_takeNumber_21 ?_
    refine vr_aload_n 0 1 dX2_takeNumber_24 rfl rfl ?_
    refine vg_1_8 RX2 rfl ho fl_2_108 dX2_takeNumber_25 ?_
    refine vr_aload_n 0 1 dX2_takeNumber_28 rfl rfl ?_
    refine vg_1_9 RX2 rfl ho fl_2_111 dX2_takeNumber_29 ?_
    refine vr_callV RX2 (s_X2_fetch ho h) rfl ho rfl rfl rfl ml_2_114 rfl yh_X2_fetch rfl ⟨Nat.le_of_ble_eq_true rfl, Nat.le_of_ble_eq_true rfl⟩ (Nat.le_of_ble_eq_true rfl) ⟨Nat.zero_le _, Nat.zero_le _⟩ dX2_takeNumber_32 (kci fun r32 P32 h => ?_)
    refine vr_istore_n 3 [(3, vI r32), (0, vR 1 o), (1, vI x1), (2, vI x2)] dX2_takeNumber_35 rfl (by decide) rfl ?_
    refine vr_sub [1, 3, 0] [(0, vR 1 o), (2, vI x2), (3, vI r32)] rfl ?_
    exact s_X2_takeNumber_b36 ho  h
  · have h := h.2 c16
    refine vr_sub [1, 3, 0] [(0, vR 1 o), (2, vI x2), (3, vI r11)] rfl ?_
    exact s_X2_takeNumber_b36 ho  h
theorem dX2_writeArgument_0 : decode cX2_writeArgument 0 = .ok (.aload_n 0, 1) := by decide +kernel
theorem dX2_writeArgument_1 : decode cX2_writeArgument 1 = .ok (.iload_n 1, 1) := by decide +kernel
theorem dX2_writeArgument_2 : decode cX2_writeArgument 2 = .ok (.invokevirtual 178, 3) := by decide +kernel
theorem dX2_writeArgument_5 : decode cX2_writeArgument 5 = .ok (.astore_n 2, 1) := by decide +kernel
theorem dX2_writeArgument_6 : decode cX2_writeArgument 6 = .ok (.aload_n 2, 1) := by decide +kernel
theorem dX2_writeArgument_7 : decode cX2_writeArgument 7 = .ok (.ifnonnull 6, 3) := by decide +kernel
theorem dX2_writeArgument_10 : decode cX2_writeArgument 10 = .ok (.bipush (-31), 2) := by decide +kernel
theorem dX2_writeArgument_12 : decode cX2_writeArgument 12 = .ok (.ireturn, 1) := by decide +kernel
theorem dX2_writeArgument_13 : decode cX2_writeArgument 13 = .ok (.aload_n 0, 1) := by decide +kernel
theorem dX2_writeArgument_14 : decode cX2_writeArgument 14 = .ok (.invokevirtual 181, 3) := by decide +kernel
theorem dX2_writeArgument_17 : decode cX2_writeArgument 17 = .ok (.ifCond .eq 18, 3) := by decide +kernel
theorem dX2_writeArgument_20 : decode cX2_writeArgument 20 = .ok (.aload_n 2, 1) := by decide +kernel
theorem dX2_writeArgument_21 : decode cX2_writeArgument 21 = .ok (.aload_n 0, 1) := by decide +kernel
theorem dX2_writeArgument_22 : decode cX2_writeArgument 22 = .ok (.getfield 42, 3) := by decide +kernel
theorem dX2_writeArgument_25 : decode cX2_writeArgument 25 = .ok (.putfield 163, 3) := by decide +kernel
theorem dX2_writeArgument_28 : decode cX2_writeArgument 28 = .ok (.aload_n 2, 1) := by decide +kernel
theorem dX2_writeArgument_29 : decode cX2_writeArgument 29 = .ok (.iconst 1, 1) := by decide +kernel
theorem dX2_writeArgument_30 : decode cX2_writeArgument 30 = .ok (.putfield 160, 3) := by decide +kernel
theorem dX2_writeArgument_33 : decode cX2_writeArgument 33 = .ok (.iconst 0, 1) := by decide +kernel
theorem dX2_writeArgument_34 : decode cX2_writeArgument 34 = .ok (.ireturn, 1) := by decide +kernel
theorem dX2_writeArgument_35 : decode cX2_writeArgument 35 = .ok (.aload_n 0, 1) := by decide +kernel
theorem dX2_writeArgument_36 : decode cX2_writeArgument 36 = .ok (.aload_n 2, 1) := by decide +kernel
theorem dX2_writeArgument_37 : decode cX2_writeArgument 37 = .ok (.getfield 155, 3) := by decide +kernel
theorem dX2_writeArgument_40 : decode cX2_writeArgument 40 = .ok (.aload_n 2, 1) := by decide +kernel
theorem dX2_writeArgument_41 : decode cX2_writeArgument 41 = .ok (.getfield 158, 3) := by decide +kernel
theorem dX2_writeArgument_44 : decode cX2_writeArgument 44 = .ok (.aload_n 2, 1) := by decide +kernel
theorem dX2_writeArgument_45 : decode cX2_writeArgument 45 = .ok (.getfield 159, 3) := by decide +kernel
theorem dX2_writeArgument_48 : decode cX2_writeArgument 48 = .ok (.aload_n 0, 1) := by decide +kernel
theorem dX2_writeArgument_49 : decode cX2_writeArgument 49 = .ok (.getfield 25, 3) := by decide +kernel
theorem dX2_writeArgument_52 : decode cX2_writeArgument 52 = .ok (.invokestatic 185, 3) := by decide +kernel
theorem dX2_writeArgument_55 : decode cX2_writeArgument 55 = .ok (.invokevirtual 120, 3) := by decide +kernel
theorem dX2_writeArgument_58 : decode cX2_writeArgument 58 = .ok (.istore_n 3, 1) := by decide +kernel
theorem dX2_writeArgument_59 : decode cX2_writeArgument 59 = .ok (.iload_n 3, 1) := by decide +kernel
theorem dX2_writeArgument_60 : decode cX2_writeArgument 60 = .ok (.ifCond .ne 19, 3) := by decide +kernel
theorem dX2_writeArgument_63 : decode cX2_writeArgument 63 = .ok (.aload_n 0, 1) := by decide +kernel
theorem dX2_writeArgument_64 : decode cX2_writeArgument 64 = .ok (.aload_n 2, 1) := by decide +kernel
theorem dX2_writeArgument_65 : decode cX2_writeArgument 65 = .ok (.getfield 155, 3) := by decide +kernel
theorem dX2_writeArgument_68 : decode cX2_writeArgument 68 = .ok (.aload_n 2, 1) := by decide +kernel
theorem dX2_writeArgument_69 : decode cX2_writeArgument 69 = .ok (.getfield 158, 3) := by decide +kernel
theorem dX2_writeArgument_72 : decode cX2_writeArgument 72 = .ok (.aload_n 0, 1) := by decide +kernel
theorem dX2_writeArgument_73 : decode cX2_writeArgument 73 = .ok (.getfield 42, 3) := by decide +kernel
theorem dX2_writeArgument_76 : decode cX2_writeArgument 76 = .ok (.invokevirtual 123, 3) := by decide +kernel
theorem dX2_writeArgument_79 : decode cX2_writeArgument 79 = .ok (.iload_n 3, 1) := by decide +kernel
theorem dX2_writeArgument_80 : decode cX2_writeArgument 80 = .ok (.ireturn, 1) := by decide +kernel
def F_X2_writeArgument (o : Nat) (x1 : Int32) (P : VP) (post : Int32 → VP → Prop) : Prop :=
  (F_X2_latestArgument o x1 P (fun r2 => match r2 with | none => (post (((-31) : Int32)) P) | some yr2 => (F_X2_isLatestOutward o P (fun r14 => (r14 = 0 → F_X2_faultOfStore o (P 16 yr2 0) (P 16 yr2 1) (imax (P 16 yr2 2) (P 1 o 4)) P (fun r55 => (r55 = 0 → F_X2_store o (P 16 yr2 0) (P 16 yr2 1) (P 1 o 5) P (fun P76 => post r55 P76)) ∧ (¬ r55 = 0 → post r55 P))) ∧ (¬ r14 = 0 → ∀ P25 : VP, P25 = vup P 16 yr2 3 (P 1 o 5) → (∀ P30 : VP, P30 = vup P25 16 yr2 4 1 → (post ((0 : Int32)) P30)))))))
set_option maxRecDepth 4000 in
theorem s_X2_writeArgument {l : Launch} {g : vG} {o : Nat} {x1 : Int32} {P Q : VP} {post : Int32 → VP → Prop} (ho : o < vcnt 1) (h : F_X2_writeArgument o x1 P post) : VC l g yX2_writeArgument cX2_writeArgument 4 (some .int) 4 [vR 1 o, vI x1] (vjn P Q) (vcI Q post) := by
  refine VC.of (by decide +kernel) (Nat.le_of_ble_eq_true rfl) (show VM l g RX2 cX2_writeArgument 4 (some .int) 4 (vcI Q post) 0 [(0, vR 1 o), (1, vI x1)] [] (vjn P Q) from ?_)
  unfold F_X2_writeArgument at h
  refine vr_aload_n 0 0 dX2_writeArgument_0 rfl rfl ?_
  refine vr_iload_n 1 1 dX2_writeArgument_1 rfl rfl ?_
  refine vr_callV RX2 (s_X2_latestArgument ho h) rfl ho rfl rfl rfl ml_2_178 rfl yh_X2_latestArgument rfl ⟨Nat.le_of_ble_eq_true rfl, Nat.le_of_ble_eq_true rfl⟩ (Nat.le_of_ble_eq_true rfl) ⟨Nat.zero_le _, Nat.zero_le _⟩ dX2_writeArgument_2 (ko fun r2 hvr2 h => ?_)
  refine vr_astore_n 2 [(2, vO 16 r2), (0, vR 1 o), (1, vI x1)] dX2_writeArgument_5 rfl (by decide) rfl ?_
  refine vr_aload_n 2 0 dX2_writeArgument_6 rfl rfl ?_
  rcases r2 with _ | yr2
  · refine vr_ifnonnullN dX2_writeArgument_7 ?_
    refine vr_bipush (-31) dX2_writeArgument_10 (by decide) ?_
    exact vr_iret rfl ⟨_, _, rfl, rfl, h⟩ dX2_writeArgument_12
  · refine vr_ifnonnullR 13 dX2_writeArgument_7 (by decide) ?_
    refine vr_aload_n 0 1 dX2_writeArgument_13 rfl rfl ?_
    refine vr_callV RX2 (s_X2_isLatestOutward ho h) rfl ho rfl rfl rfl ml_2_181 rfl yh_X2_isLatestOutward rfl ⟨Nat.le_of_ble_eq_true rfl, Nat.le_of_ble_eq_true rfl⟩ (Nat.le_of_ble_eq_true rfl) ⟨Nat.zero_le _, Nat.zero_le _⟩ dX2_writeArgument_14 (ki fun r14 h => ?_)
    refine vr_ifeq 35 dX2_writeArgument_17 (by decide) (fun c17 => ?_) (fun c17 => ?_)
    · have h := h.1 c17
      refine vr_aload_n 0 1 dX2_writeArgument_35 rfl rfl ?_
      refine vr_aload_n 2 0 dX2_writeArgument_36 rfl rfl ?_
      refine vg_16_0 RX2 rfl (hvr2 _ rfl) fl_2_155 dX2_writeArgument_37 ?_
      refine vr_aload_n 2 0 dX2_writeArgument_40 rfl rfl ?_
      refine vg_16_1 RX2 rfl (hvr2 _ rfl) fl_2_158 dX2_writeArgument_41 ?_
      refine vr_aload_n 2 0 dX2_writeArgument_44 rfl rfl ?_
      refine vg_16_2 RX2 rfl (hvr2 _ rfl) fl_2_159 dX2_writeArgument_45 ?_
      refine vr_aload_n 0 1 dX2_writeArgument_48 rfl rfl ?_
      refine vg_1_4 RX2 rfl ho fl_2_25 dX2_writeArgument_49 ?_
      refine vr_max mk_2_185 mm_max ⟨Nat.le_of_ble_eq_true rfl, Nat.le_of_ble_eq_true rfl⟩ ⟨Nat.zero_le _, Nat.zero_le _⟩ dX2_writeArgument_52 ?_
      refine vr_callV RX2 (s_X2_faultOfStore ho h) rfl ho rfl rfl rfl ml_2_120 rfl yh_X2_faultOfStore rfl ⟨Nat.le_of_ble_eq_true rfl, Nat.le_of_ble_eq_true rfl⟩ (Nat.le_of_ble_eq_true rfl) ⟨Nat.zero_le _, Nat.zero_le _⟩ dX2_writeArgument_55 (ki fun r55 h => ?_)
      refine vr_istore_n 3 [(3, vI r55), (2, vR 16 yr2), (0, vR 1 o), (1, vI x1)] dX2_writeArgument_58 rfl (by decide) rfl ?_
      refine vr_iload_n 3 0 dX2_writeArgument_59 rfl rfl ?_
      refine vr_ifne 79 dX2_writeArgument_60 (by decide) (fun c60 => ?_) (fun c60 => ?_)
      · have h := h.1 c60
        refine vr_aload_n 0 2 dX2_writeArgument_63 rfl rfl ?_
        refine vr_aload_n 2 1 dX2_writeArgument_64 rfl rfl ?_
        refine vg_16_0 RX2 rfl (hvr2 _ rfl) fl_2_155 dX2_writeArgument_65 ?_
        refine vr_aload_n 2 1 dX2_writeArgument_68 rfl rfl ?_
        refine vg_16_1 RX2 rfl (hvr2 _ rfl) fl_2_158 dX2_writeArgument_69 ?_
        refine vr_aload_n 0 2 dX2_writeArgument_72 rfl rfl ?_
        refine vg_1_5 RX2 rfl ho fl_2_42 dX2_writeArgument_73 ?_
        refine vr_callV RX2 (s_X2_store ho h) rfl ho rfl rfl rfl ml_2_123 rfl yh_X2_store rfl ⟨Nat.le_of_ble_eq_true rfl, Nat.le_of_ble_eq_true rfl⟩ (Nat.le_of_ble_eq_true rfl) ⟨Nat.zero_le _, Nat.zero_le _⟩ dX2_writeArgument_76 (kcv fun P76 h => ?_)
        refine vr_iload_n 3 0 dX2_writeArgument_79 rfl rfl ?_
        exact vr_iret rfl ⟨_, _, rfl, rfl, h⟩ dX2_writeArgument_80
      · have h := h.2 c60
        refine vr_iload_n 3 0 dX2_writeArgument_79 rfl rfl ?_
        exact vr_iret rfl ⟨_, _, rfl, rfl, h⟩ dX2_writeArgument_80
    · have h := h.2 c17
      refine vr_aload_n 2 0 dX2_writeArgument_20 rfl rfl ?_
      refine vr_aload_n 0 1 dX2_writeArgument_21 rfl rfl ?_
      refine vg_1_5 RX2 rfl ho fl_2_42 dX2_writeArgument_22 ?_
      obtain ⟨P25, eP25⟩ : ∃ y : VP, y = vup P 16 yr2 3 (P 1 o 5) := ⟨_, rfl⟩
      have h := h P25 eP25
      refine vp_16_3 RX2 rfl (hvr2 _ rfl) fl_2_163 eP25 dX2_writeArgument_25 ?_
      refine vr_aload_n 2 0 dX2_writeArgument_28 rfl rfl ?_
      refine vr_iconst 1 dX2_writeArgument_29 (by decide) ?_
      obtain ⟨P30, eP30⟩ : ∃ y : VP, y = vup P25 16 yr2 4 1 := ⟨_, rfl⟩
      have h := h P30 eP30
      refine vp_16_4 RX2 rfl (hvr2 _ rfl) fl_2_160 (Or.inr rfl) eP30 dX2_writeArgument_30 ?_
      refine vr_iconst 0 dX2_writeArgument_33 (by decide) ?_
      exact vr_iret rfl ⟨_, _, rfl, rfl, h⟩ dX2_writeArgument_34
