/-! X0_copyFrom, X1_argumentAt, X1_copyFrom, X4_clear, X2_begin, X3_has, X3_kindAt, X3_letsGo, X3_valueAt, X6_find, X2_actHere, X2_keepPlace, X7_ringIn, X7_segmentIn, X7_wordIn, X3_become, X3_letsRead, X6_named, X6_seek, X2_goThrough, X2_seekOperand, X2_fetch, X2_takeCopies, X4_heightOf -/
theorem dX0_copyFrom_0 : decode cX0_copyFrom 0 = .ok (.aload_n 0, 1) := by decide +kernel
theorem dX0_copyFrom_1 : decode cX0_copyFrom 1 = .ok (.aload_n 1, 1) := by decide +kernel
theorem dX0_copyFrom_2 : decode cX0_copyFrom 2 = .ok (.getfield 7, 3) := by decide +kernel
theorem dX0_copyFrom_5 : decode cX0_copyFrom 5 = .ok (.putfield 7, 3) := by decide +kernel
theorem dX0_copyFrom_8 : decode cX0_copyFrom 8 = .ok (.aload_n 0, 1) := by decide +kernel
theorem dX0_copyFrom_9 : decode cX0_copyFrom 9 = .ok (.aload_n 1, 1) := by decide +kernel
theorem dX0_copyFrom_10 : decode cX0_copyFrom 10 = .ok (.getfield 13, 3) := by decide +kernel
theorem dX0_copyFrom_13 : decode cX0_copyFrom 13 = .ok (.putfield 13, 3) := by decide +kernel
theorem dX0_copyFrom_16 : decode cX0_copyFrom 16 = .ok (.aload_n 0, 1) := by decide +kernel
theorem dX0_copyFrom_17 : decode cX0_copyFrom 17 = .ok (.aload_n 1, 1) := by decide +kernel
theorem dX0_copyFrom_18 : decode cX0_copyFrom 18 = .ok (.getfield 16, 3) := by decide +kernel
theorem dX0_copyFrom_21 : decode cX0_copyFrom 21 = .ok (.putfield 16, 3) := by decide +kernel
theorem dX0_copyFrom_24 : decode cX0_copyFrom 24 = .ok (.aload_n 0, 1) := by decide +kernel
theorem dX0_copyFrom_25 : decode cX0_copyFrom 25 = .ok (.aload_n 1, 1) := by decide +kernel
theorem dX0_copyFrom_26 : decode cX0_copyFrom 26 = .ok (.getfield 19, 3) := by decide +kernel
theorem dX0_copyFrom_29 : decode cX0_copyFrom 29 = .ok (.putfield 19, 3) := by decide +kernel
theorem dX0_copyFrom_32 : decode cX0_copyFrom 32 = .ok (.aload_n 0, 1) := by decide +kernel
theorem dX0_copyFrom_33 : decode cX0_copyFrom 33 = .ok (.aload_n 1, 1) := by decide +kernel
theorem dX0_copyFrom_34 : decode cX0_copyFrom 34 = .ok (.getfield 22, 3) := by decide +kernel
theorem dX0_copyFrom_37 : decode cX0_copyFrom 37 = .ok (.putfield 22, 3) := by decide +kernel
theorem dX0_copyFrom_40 : decode cX0_copyFrom 40 = .ok (.return_, 1) := by decide +kernel
def F_X0_copyFrom (o : Nat) (y1 : Nat) (P : VP) (post : VP → Prop) : Prop :=
  ∀ P5 : VP, P5 = vup P 16 o 0 (P 16 y1 0) → (∀ P13 : VP, P13 = vup P5 16 o 1 (P5 16 y1 1) → (∀ P21 : VP, P21 = vup P13 16 o 2 (P13 16 y1 2) → (∀ P29 : VP, P29 = vup P21 16 o 3 (P21 16 y1 3) → ((P29 16 y1 4 = 0 ∨ P29 16 y1 4 = 1) ∧ (∀ P37 : VP, P37 = vup P29 16 o 4 (P29 16 y1 4) → (post P37))))))
set_option maxRecDepth 4000 in
theorem s_X0_copyFrom {l : Launch} {g : vG} {o : Nat} {y1 : Nat} {P Q : VP} {post : VP → Prop} (ho : o < vcnt 16) (hy1 : y1 < vcnt 16) (h : F_X0_copyFrom o y1 P post) : VC l g yX0_copyFrom cX0_copyFrom 2 none 0 [vR 16 o, vR 16 y1] (vjn P Q) (vcV Q post) := by
  refine VC.of (by decide +kernel) (Nat.le_of_ble_eq_true rfl) (show VM l g RX0 cX0_copyFrom 2 none 0 (vcV Q post) 0 [(0, vR 16 o), (1, vR 16 y1)] [] (vjn P Q) from ?_)
  unfold F_X0_copyFrom at h
  refine vr_aload_n 0 0 dX0_copyFrom_0 rfl rfl ?_
  refine vr_aload_n 1 1 dX0_copyFrom_1 rfl rfl ?_
  refine vg_16_0 RX0 rfl hy1 fl_0_7 dX0_copyFrom_2 ?_
  obtain ⟨P5, eP5⟩ : ∃ y : VP, y = vup P 16 o 0 (P 16 y1 0) := ⟨_, rfl⟩
  have h := h P5 eP5
  refine vp_16_0 RX0 rfl ho fl_0_7 eP5 dX0_copyFrom_5 ?_
  refine vr_aload_n 0 0 dX0_copyFrom_8 rfl rfl ?_
  refine vr_aload_n 1 1 dX0_copyFrom_9 rfl rfl ?_
  refine vg_16_1 RX0 rfl hy1 fl_0_13 dX0_copyFrom_10 ?_
  obtain ⟨P13, eP13⟩ : ∃ y : VP, y = vup P5 16 o 1 (P5 16 y1 1) := ⟨_, rfl⟩
  have h := h P13 eP13
  refine vp_16_1 RX0 rfl ho fl_0_13 eP13 dX0_copyFrom_13 ?_
  refine vr_aload_n 0 0 dX0_copyFrom_16 rfl rfl ?_
  refine vr_aload_n 1 1 dX0_copyFrom_17 rfl rfl ?_
  refine vg_16_2 RX0 rfl hy1 fl_0_16 dX0_copyFrom_18 ?_
  obtain ⟨P21, eP21⟩ : ∃ y : VP, y = vup P13 16 o 2 (P13 16 y1 2) := ⟨_, rfl⟩
  have h := h P21 eP21
  refine vp_16_2 RX0 rfl ho fl_0_16 eP21 dX0_copyFrom_21 ?_
  refine vr_aload_n 0 0 dX0_copyFrom_24 rfl rfl ?_
  refine vr_aload_n 1 1 dX0_copyFrom_25 rfl rfl ?_
  refine vg_16_3 RX0 rfl hy1 fl_0_19 dX0_copyFrom_26 ?_
  obtain ⟨P29, eP29⟩ : ∃ y : VP, y = vup P21 16 o 3 (P21 16 y1 3) := ⟨_, rfl⟩
  have h := h P29 eP29
  refine vp_16_3 RX0 rfl ho fl_0_19 eP29 dX0_copyFrom_29 ?_
  refine vr_aload_n 0 0 dX0_copyFrom_32 rfl rfl ?_
  refine vr_aload_n 1 1 dX0_copyFrom_33 rfl rfl ?_
  refine vg_16_4 RX0 rfl hy1 fl_0_22 dX0_copyFrom_34 ?_
  have hb := h.1
  have h := h.2
  obtain ⟨P37, eP37⟩ : ∃ y : VP, y = vup P29 16 o 4 (P29 16 y1 4) := ⟨_, rfl⟩
  have h := h P37 eP37
  refine vp_16_4 RX0 rfl ho fl_0_22 hb eP37 dX0_copyFrom_37 ?_
  exact vr_vret rfl ⟨_, rfl, rfl, h⟩ dX0_copyFrom_40
theorem dX1_argumentAt_0 : decode cX1_argumentAt 0 = .ok (.iload_n 1, 1) := by decide +kernel
theorem dX1_argumentAt_1 : decode cX1_argumentAt 1 = .ok (.ifCond .lt 29, 3) := by decide +kernel
theorem dX1_argumentAt_4 : decode cX1_argumentAt 4 = .ok (.iload_n 1, 1) := by decide +kernel
theorem dX1_argumentAt_5 : decode cX1_argumentAt 5 = .ok (.aload_n 0, 1) := by decide +kernel
theorem dX1_argumentAt_6 : decode cX1_argumentAt 6 = .ok (.getfield 18, 3) := by decide +kernel
theorem dX1_argumentAt_9 : decode cX1_argumentAt 9 = .ok (.if_icmp .ge 21, 3) := by decide +kernel
theorem dX1_argumentAt_12 : decode cX1_argumentAt 12 = .ok (.iload_n 1, 1) := by decide +kernel
theorem dX1_argumentAt_13 : decode cX1_argumentAt 13 = .ok (.aload_n 0, 1) := by decide +kernel
theorem dX1_argumentAt_14 : decode cX1_argumentAt 14 = .ok (.getfield 11, 3) := by decide +kernel
theorem dX1_argumentAt_17 : decode cX1_argumentAt 17 = .ok (.arraylength, 1) := by decide +kernel
theorem dX1_argumentAt_18 : decode cX1_argumentAt 18 = .ok (.if_icmp .ge 12, 3) := by decide +kernel
theorem dX1_argumentAt_21 : decode cX1_argumentAt 21 = .ok (.aload_n 0, 1) := by decide +kernel
theorem dX1_argumentAt_22 : decode cX1_argumentAt 22 = .ok (.getfield 11, 3) := by decide +kernel
theorem dX1_argumentAt_25 : decode cX1_argumentAt 25 = .ok (.iload_n 1, 1) := by decide +kernel
theorem dX1_argumentAt_26 : decode cX1_argumentAt 26 = .ok (.aaload, 1) := by decide +kernel
theorem dX1_argumentAt_27 : decode cX1_argumentAt 27 = .ok (.goto 4, 3) := by decide +kernel
theorem dX1_argumentAt_30 : decode cX1_argumentAt 30 = .ok (.aconst_null, 1) := by decide +kernel
theorem dX1_argumentAt_31 : decode cX1_argumentAt 31 = .ok (.areturn, 1) := by decide +kernel
def F_X1_argumentAt (o : Nat) (x1 : Int32) (P : VP) (post : Option Nat → Prop) : Prop :=
  (x1 < 0 → post none) ∧ (¬ x1 < 0 → (x1 < P 14 o 4 → (x1 < 3 → (0 ≤ x1 ∧ x1 < 3) ∧ (post (some ((3 * o + ix x1))))) ∧ (¬ x1 < 3 → post none)) ∧ (¬ x1 < P 14 o 4 → post none))
set_option maxRecDepth 4000 in
theorem s_X1_argumentAt {l : Launch} {g : vG} {o : Nat} {x1 : Int32} {P Q : VP} {post : Option Nat → Prop} (ho : o < vcnt 14) (h : F_X1_argumentAt o x1 P post) : VC l g yX1_argumentAt cX1_argumentAt 2 (some (.object "RingGates$Argument")) 0 [vR 14 o, vI x1] (vjn P Q) (vpO 16 (vjn P Q) post) := by
  refine VC.of (by decide +kernel) (Nat.le_of_ble_eq_true rfl) (show VM l g RX1 cX1_argumentAt 2 (some (.object "RingGates$Argument")) 0 (vpO 16 (vjn P Q) post) 0 [(0, vR 14 o), (1, vI x1)] [] (vjn P Q) from ?_)
  unfold F_X1_argumentAt at h
  refine vr_iload_n 1 1 dX1_argumentAt_0 rfl rfl ?_
  refine vr_iflt 30 dX1_argumentAt_1 (by decide) (fun c1 => ?_) (fun c1 => ?_)
  · have h := h.1 c1
    refine vr_anull dX1_argumentAt_30 ?_
    exact vr_aret rfl ⟨rfl, none, rfl, vnone, h⟩ dX1_argumentAt_31
  · have h := h.2 c1
    refine vr_iload_n 1 1 dX1_argumentAt_4 rfl rfl ?_
    refine vr_aload_n 0 0 dX1_argumentAt_5 rfl rfl ?_
    refine vg_14_4 RX1 rfl ho fl_1_18 dX1_argumentAt_6 ?_
    refine vr_icmpge 30 dX1_argumentAt_9 (by decide) (fun c9 => ?_) (fun c9 => ?_)
    · have h := h.1 c9
      refine vr_iload_n 1 1 dX1_argumentAt_12 rfl rfl ?_
      refine vr_aload_n 0 0 dX1_argumentAt_13 rfl rfl ?_
      refine vg_14_5 RX1 rfl ho fl_1_11 dX1_argumentAt_14 ?_
      refine vl_15 ho dX1_argumentAt_17 ?_
      refine vr_icmpge 30 dX1_argumentAt_18 (by decide) (fun c18 => ?_) (fun c18 => ?_)
      · have h := h.1 c18
        refine vr_aload_n 0 0 dX1_argumentAt_21 rfl rfl ?_
        refine vg_14_5 RX1 rfl ho fl_1_11 dX1_argumentAt_22 ?_
        refine vr_iload_n 1 1 dX1_argumentAt_25 rfl rfl ?_
        have hi := h.1
        have h := h.2
        refine vq_15 ho hi dX1_argumentAt_26 (fun hq26 => ?_)
        refine vr_goto 31 dX1_argumentAt_27 (by decide) ?_
        exact vr_aret rfl ⟨rfl, some ((3 * o + ix x1)), rfl, vsome hq26, h⟩ dX1_argumentAt_31
      · have h := h.2 c18
        refine vr_anull dX1_argumentAt_30 ?_
        exact vr_aret rfl ⟨rfl, none, rfl, vnone, h⟩ dX1_argumentAt_31
    · have h := h.2 c9
      refine vr_anull dX1_argumentAt_30 ?_
      exact vr_aret rfl ⟨rfl, none, rfl, vnone, h⟩ dX1_argumentAt_31
theorem dX1_copyFrom_0 : decode cX1_copyFrom 0 = .ok (.aload_n 0, 1) := by decide +kernel
theorem dX1_copyFrom_1 : decode cX1_copyFrom 1 = .ok (.aload_n 1, 1) := by decide +kernel
theorem dX1_copyFrom_2 : decode cX1_copyFrom 2 = .ok (.getfield 22, 3) := by decide +kernel
theorem dX1_copyFrom_5 : decode cX1_copyFrom 5 = .ok (.putfield 22, 3) := by decide +kernel
theorem dX1_copyFrom_8 : decode cX1_copyFrom 8 = .ok (.aload_n 0, 1) := by decide +kernel
theorem dX1_copyFrom_9 : decode cX1_copyFrom 9 = .ok (.aload_n 1, 1) := by decide +kernel
theorem dX1_copyFrom_10 : decode cX1_copyFrom 10 = .ok (.getfield 25, 3) := by decide +kernel
theorem dX1_copyFrom_13 : decode cX1_copyFrom 13 = .ok (.putfield 25, 3) := by decide +kernel
theorem dX1_copyFrom_16 : decode cX1_copyFrom 16 = .ok (.aload_n 0, 1) := by decide +kernel
theorem dX1_copyFrom_17 : decode cX1_copyFrom 17 = .ok (.aload_n 1, 1) := by decide +kernel
theorem dX1_copyFrom_18 : decode cX1_copyFrom 18 = .ok (.getfield 28, 3) := by decide +kernel
theorem dX1_copyFrom_21 : decode cX1_copyFrom 21 = .ok (.putfield 28, 3) := by decide +kernel
theorem dX1_copyFrom_24 : decode cX1_copyFrom 24 = .ok (.aload_n 0, 1) := by decide +kernel
theorem dX1_copyFrom_25 : decode cX1_copyFrom 25 = .ok (.aload_n 1, 1) := by decide +kernel
theorem dX1_copyFrom_26 : decode cX1_copyFrom 26 = .ok (.getfield 31, 3) := by decide +kernel
theorem dX1_copyFrom_29 : decode cX1_copyFrom 29 = .ok (.putfield 31, 3) := by decide +kernel
theorem dX1_copyFrom_32 : decode cX1_copyFrom 32 = .ok (.aload_n 0, 1) := by decide +kernel
theorem dX1_copyFrom_33 : decode cX1_copyFrom 33 = .ok (.aload_n 1, 1) := by decide +kernel
theorem dX1_copyFrom_34 : decode cX1_copyFrom 34 = .ok (.getfield 18, 3) := by decide +kernel
theorem dX1_copyFrom_37 : decode cX1_copyFrom 37 = .ok (.putfield 18, 3) := by decide +kernel
theorem dX1_copyFrom_40 : decode cX1_copyFrom 40 = .ok (.iconst 0, 1) := by decide +kernel
theorem dX1_copyFrom_41 : decode cX1_copyFrom 41 = .ok (.istore_n 2, 1) := by decide +kernel
theorem dX1_copyFrom_42 : decode cX1_copyFrom 42 = .ok (.iload_n 2, 1) := by decide +kernel
theorem dX1_copyFrom_43 : decode cX1_copyFrom 43 = .ok (.aload_n 0, 1) := by decide +kernel
theorem dX1_copyFrom_44 : decode cX1_copyFrom 44 = .ok (.getfield 11, 3) := by decide +kernel
theorem dX1_copyFrom_47 : decode cX1_copyFrom 47 = .ok (.arraylength, 1) := by decide +kernel
theorem dX1_copyFrom_48 : decode cX1_copyFrom 48 = .ok (.if_icmp .ge 48, 3) := by decide +kernel
theorem dX1_copyFrom_51 : decode cX1_copyFrom 51 = .ok (.iload_n 2, 1) := by decide +kernel
theorem dX1_copyFrom_52 : decode cX1_copyFrom 52 = .ok (.aload_n 1, 1) := by decide +kernel
theorem dX1_copyFrom_53 : decode cX1_copyFrom 53 = .ok (.getfield 11, 3) := by decide +kernel
theorem dX1_copyFrom_56 : decode cX1_copyFrom 56 = .ok (.arraylength, 1) := by decide +kernel
theorem dX1_copyFrom_57 : decode cX1_copyFrom 57 = .ok (.if_icmp .ge 39, 3) := by decide +kernel
theorem dX1_copyFrom_60 : decode cX1_copyFrom 60 = .ok (.aload_n 1, 1) := by decide +kernel
theorem dX1_copyFrom_61 : decode cX1_copyFrom 61 = .ok (.getfield 11, 3) := by decide +kernel
theorem dX1_copyFrom_64 : decode cX1_copyFrom 64 = .ok (.iload_n 2, 1) := by decide +kernel
theorem dX1_copyFrom_65 : decode cX1_copyFrom 65 = .ok (.aaload, 1) := by decide +kernel
theorem dX1_copyFrom_66 : decode cX1_copyFrom 66 = .ok (.astore_n 3, 1) := by decide +kernel
theorem dX1_copyFrom_67 : decode cX1_copyFrom 67 = .ok (.aload_n 0, 1) := by decide +kernel
theorem dX1_copyFrom_68 : decode cX1_copyFrom 68 = .ok (.getfield 11, 3) := by decide +kernel
theorem dX1_copyFrom_71 : decode cX1_copyFrom 71 = .ok (.iload_n 2, 1) := by decide +kernel
theorem dX1_copyFrom_72 : decode cX1_copyFrom 72 = .ok (.aaload, 1) := by decide +kernel
theorem dX1_copyFrom_73 : decode cX1_copyFrom 73 = .ok (.astore 4, 2) := by decide +kernel
theorem dX1_copyFrom_75 : decode cX1_copyFrom 75 = .ok (.aload_n 3, 1) := by decide +kernel
theorem dX1_copyFrom_76 : decode cX1_copyFrom 76 = .ok (.ifnull 14, 3) := by decide +kernel
theorem dX1_copyFrom_79 : decode cX1_copyFrom 79 = .ok (.aload 4, 2) := by decide +kernel
theorem dX1_copyFrom_81 : decode cX1_copyFrom 81 = .ok (.ifnull 9, 3) := by decide +kernel
theorem dX1_copyFrom_84 : decode cX1_copyFrom 84 = .ok (.aload 4, 2) := by decide +kernel
theorem dX1_copyFrom_86 : decode cX1_copyFrom 86 = .ok (.aload_n 3, 1) := by decide +kernel
theorem dX1_copyFrom_87 : decode cX1_copyFrom 87 = .ok (.invokevirtual 35, 3) := by decide +kernel
theorem dX1_copyFrom_90 : decode cX1_copyFrom 90 = .ok (.iinc 2 1, 3) := by decide +kernel
theorem dX1_copyFrom_93 : decode cX1_copyFrom 93 = .ok (.goto (-51), 3) := by decide +kernel
theorem dX1_copyFrom_96 : decode cX1_copyFrom 96 = .ok (.return_, 1) := by decide +kernel
def F_X1_copyFrom_l42 (o : Nat) (y1 : Nat)  (post : VP → Prop)   (X : Int32 → VP → Prop) (v2 : Int32) (P : VP) : Prop :=
  (v2 < 3 → (v2 < 3 → (0 ≤ v2 ∧ v2 < 3) ∧ ((0 ≤ v2 ∧ v2 < 3) ∧ (F_X0_copyFrom ((3 * o + ix v2)) ((3 * y1 + ix v2)) P (fun P87 => X (v2 + 1) P87)))) ∧ (¬ v2 < 3 → post P)) ∧ (¬ v2 < 3 → post P)
set_option maxRecDepth 4000 in
theorem s_X1_copyFrom_l42 {l : Launch} {g : vG} {o : Nat} {y1 : Nat} {Q : VP} {post : VP → Prop}    {v2 : Int32} {P : VP} (ho : o < vcnt 14) (hy1 : y1 < vcnt 14)  (h : vL2 (F_X1_copyFrom_l42 o y1  post  ) v2 P) : VM l g RX1 cX1_copyFrom 5 none 1 (vcV Q post) 42 [(0, vR 14 o), (1, vR 14 y1), (2, vI v2)] [] (vjn P Q) := by
  refine vL2_s (T := fun v2 P => VM l g RX1 cX1_copyFrom 5 none 1 (vcV Q post) 42 [(0, vR 14 o), (1, vR 14 y1), (2, vI v2)] [] (vjn P Q)) ?_ h
  clear h
  intro X hX v2 P h
  unfold F_X1_copyFrom_l42 at h
  refine vr_iload_n 2 2 dX1_copyFrom_42 rfl rfl ?_
  refine vr_aload_n 0 0 dX1_copyFrom_43 rfl rfl ?_
  refine vg_14_5 RX1 rfl ho fl_1_11 dX1_copyFrom_44 ?_
  refine vl_15 ho dX1_copyFrom_47 ?_
  refine vr_icmpge 96 dX1_copyFrom_48 (by decide) (fun c48 => ?_) (fun c48 => ?_)
  · have h := h.1 c48
    refine vr_iload_n 2 2 dX1_copyFrom_51 rfl rfl ?_
    refine vr_aload_n 1 1 dX1_copyFrom_52 rfl rfl ?_
    refine vg_14_5 RX1 rfl hy1 fl_1_11 dX1_copyFrom_53 ?_
    refine vl_15 hy1 dX1_copyFrom_56 ?_
    refine vr_icmpge 96 dX1_copyFrom_57 (by decide) (fun c57 => ?_) (fun c57 => ?_)
    · have h := h.1 c57
      refine vr_aload_n 1 1 dX1_copyFrom_60 rfl rfl ?_
      refine vg_14_5 RX1 rfl hy1 fl_1_11 dX1_copyFrom_61 ?_
      refine vr_iload_n 2 2 dX1_copyFrom_64 rfl rfl ?_
      have hi := h.1
      have h := h.2
      refine vq_15 hy1 hi dX1_copyFrom_65 (fun hq65 => ?_)
      refine vr_astore_n 3 [(3, vR 16 ((3 * y1 + ix v2))), (0, vR 14 o), (1, vR 14 y1), (2, vI v2)] dX1_copyFrom_66 rfl (by decide) rfl ?_
      refine vr_aload_n 0 1 dX1_copyFrom_67 rfl rfl ?_
      refine vg_14_5 RX1 rfl ho fl_1_11 dX1_copyFrom_68 ?_
      refine vr_iload_n 2 3 dX1_copyFrom_71 rfl rfl ?_
      have hi := h.1
      have h := h.2
      refine vq_15 ho hi dX1_copyFrom_72 (fun hq72 => ?_)
      refine vr_astore [(4, vR 16 ((3 * o + ix v2))), (3, vR 16 ((3 * y1 + ix v2))), (0, vR 14 o), (1, vR 14 y1), (2, vI v2)] dX1_copyFrom_73 (by decide) rfl ?_
      refine vr_aload_n 3 1 dX1_copyFrom_75 rfl rfl ?_
      refine vr_ifnullR dX1_copyFrom_76 ?_
      refine vr_aload 0 dX1_copyFrom_79 rfl ?_
      refine vr_ifnullR dX1_copyFrom_81 ?_
      refine vr_aload 0 dX1_copyFrom_84 rfl ?_
      refine vr_aload_n 3 1 dX1_copyFrom_86 rfl rfl ?_
      refine vr_callV RX1 (s_X0_copyFrom hq72 hq65 h) rfl hq72 rfl rfl rfl ml_1_35 rfl yh_X0_copyFrom rfl ⟨Nat.le_of_ble_eq_true rfl, Nat.le_of_ble_eq_true rfl⟩ (Nat.le_of_ble_eq_true rfl) ⟨Nat.zero_le _, Nat.zero_le _⟩ dX1_copyFrom_87 (kcv fun P87 h => ?_)
      refine vr_iinc (v2 + 1) 4 [(2, vI (v2 + 1)), (4, vR 16 ((3 * o + ix v2))), (3, vR 16 ((3 * y1 + ix v2))), (0, vR 14 o), (1, vR 14 y1)] dX1_copyFrom_90 rfl rfl (by decide) rfl ?_
      refine vr_goto 42 dX1_copyFrom_93 (by decide) ?_
      refine vr_sub [3, 4, 0] [(0, vR 14 o), (1, vR 14 y1), (2, vI (v2 + 1))] rfl ?_
      exact hX _ _ h
    · have h := h.2 c57
      exact vr_vret rfl ⟨_, rfl, rfl, h⟩ dX1_copyFrom_96
  · have h := h.2 c48
    exact vr_vret rfl ⟨_, rfl, rfl, h⟩ dX1_copyFrom_96
def F_X1_copyFrom (o : Nat) (y1 : Nat) (P : VP) (post : VP → Prop) : Prop :=
  ∀ P5 : VP, P5 = vup P 14 o 0 (P 14 y1 0) → (∀ P13 : VP, P13 = vup P5 14 o 1 (P5 14 y1 1) → (∀ P21 : VP, P21 = vup P13 14 o 2 (P13 14 y1 2) → ((P21 14 y1 3 = 0 ∨ P21 14 y1 3 = 1) ∧ (∀ P29 : VP, P29 = vup P21 14 o 3 (P21 14 y1 3) → (∀ P37 : VP, P37 = vup P29 14 o 4 (P29 14 y1 4) → (vL2 (F_X1_copyFrom_l42 o y1  post  ) ((0 : Int32)) P37))))))
set_option maxRecDepth 4000 in
theorem s_X1_copyFrom {l : Launch} {g : vG} {o : Nat} {y1 : Nat} {P Q : VP} {post : VP → Prop} (ho : o < vcnt 14) (hy1 : y1 < vcnt 14) (h : F_X1_copyFrom o y1 P post) : VC l g yX1_copyFrom cX1_copyFrom 5 none 1 [vR 14 o, vR 14 y1] (vjn P Q) (vcV Q post) := by
  refine VC.of (by decide +kernel) (Nat.le_of_ble_eq_true rfl) (show VM l g RX1 cX1_copyFrom 5 none 1 (vcV Q post) 0 [(0, vR 14 o), (1, vR 14 y1)] [] (vjn P Q) from ?_)
  unfold F_X1_copyFrom at h
  refine vr_aload_n 0 0 dX1_copyFrom_0 rfl rfl ?_
  refine vr_aload_n 1 1 dX1_copyFrom_1 rfl rfl ?_
  refine vg_14_0 RX1 rfl hy1 fl_1_22 dX1_copyFrom_2 ?_
  obtain ⟨P5, eP5⟩ : ∃ y : VP, y = vup P 14 o 0 (P 14 y1 0) := ⟨_, rfl⟩
  have h := h P5 eP5
  refine vp_14_0 RX1 rfl ho fl_1_22 eP5 dX1_copyFrom_5 ?_
  refine vr_aload_n 0 0 dX1_copyFrom_8 rfl rfl ?_
  refine vr_aload_n 1 1 dX1_copyFrom_9 rfl rfl ?_
  refine vg_14_1 RX1 rfl hy1 fl_1_25 dX1_copyFrom_10 ?_
  obtain ⟨P13, eP13⟩ : ∃ y : VP, y = vup P5 14 o 1 (P5 14 y1 1) := ⟨_, rfl⟩
  have h := h P13 eP13
  refine vp_14_1 RX1 rfl ho fl_1_25 eP13 dX1_copyFrom_13 ?_
  refine vr_aload_n 0 0 dX1_copyFrom_16 rfl rfl ?_
  refine vr_aload_n 1 1 dX1_copyFrom_17 rfl rfl ?_
  refine vg_14_2 RX1 rfl hy1 fl_1_28 dX1_copyFrom_18 ?_
  obtain ⟨P21, eP21⟩ : ∃ y : VP, y = vup P13 14 o 2 (P13 14 y1 2) := ⟨_, rfl⟩
  have h := h P21 eP21
  refine vp_14_2 RX1 rfl ho fl_1_28 eP21 dX1_copyFrom_21 ?_
  refine vr_aload_n 0 0 dX1_copyFrom_24 rfl rfl ?_
  refine vr_aload_n 1 1 dX1_copyFrom_25 rfl rfl ?_
  refine vg_14_3 RX1 rfl hy1 fl_1_31 dX1_copyFrom_26 ?_
  have hb := h.1
  have h := h.2
  obtain ⟨P29, eP29⟩ : ∃ y : VP, y = vup P21 14 o 3 (P21 14 y1 3) := ⟨_, rfl⟩
  have h := h P29 eP29
  refine vp_14_3 RX1 rfl ho fl_1_31 hb eP29 dX1_copyFrom_29 ?_
  refine vr_aload_n 0 0 dX1_copyFrom_32 rfl rfl ?_
  refine vr_aload_n 1 1 dX1_copyFrom_33 rfl rfl ?_
  refine vg_14_4 RX1 rfl hy1 fl_1_18 dX1_copyFrom_34 ?_
  obtain ⟨P37, eP37⟩ : ∃ y : VP, y = vup P29 14 o 4 (P29 14 y1 4) := ⟨_, rfl⟩
  have h := h P37 eP37
  refine vp_14_4 RX1 rfl ho fl_1_18 eP37 dX1_copyFrom_37 ?_
  refine vr_iconst 0 dX1_copyFrom_40 (by decide) ?_
  refine vr_istore_n 2 [(2, vI 0), (0, vR 14 o), (1, vR 14 y1)] dX1_copyFrom_41 rfl (by decide) rfl ?_
  refine vr_sub [1, 2, 0] [(0, vR 14 o), (1, vR 14 y1), (2, vI 0)] rfl ?_
  exact s_X1_copyFrom_l42 ho hy1  h
theorem dX4_clear_0 : decode cX4_clear 0 = .ok (.iconst 0, 1) := by decide +kernel
theorem dX4_clear_1 : decode cX4_clear 1 = .ok (.istore_n 1, 1) := by decide +kernel
theorem dX4_clear_2 : decode cX4_clear 2 = .ok (.iload_n 1, 1) := by decide +kernel
theorem dX4_clear_3 : decode cX4_clear 3 = .ok (.aload_n 0, 1) := by decide +kernel
theorem dX4_clear_4 : decode cX4_clear 4 = .ok (.getfield 9, 3) := by decide +kernel
theorem dX4_clear_7 : decode cX4_clear 7 = .ok (.arraylength, 1) := by decide +kernel
theorem dX4_clear_8 : decode cX4_clear 8 = .ok (.if_icmp .ge 16, 3) := by decide +kernel
theorem dX4_clear_11 : decode cX4_clear 11 = .ok (.aload_n 0, 1) := by decide +kernel
theorem dX4_clear_12 : decode cX4_clear 12 = .ok (.getfield 9, 3) := by decide +kernel
theorem dX4_clear_15 : decode cX4_clear 15 = .ok (.iload_n 1, 1) := by decide +kernel
theorem dX4_clear_16 : decode cX4_clear 16 = .ok (.iconst 0, 1) := by decide +kernel
theorem dX4_clear_17 : decode cX4_clear 17 = .ok (.iastore, 1) := by decide +kernel
theorem dX4_clear_18 : decode cX4_clear 18 = .ok (.iinc 1 1, 3) := by decide +kernel
theorem dX4_clear_21 : decode cX4_clear 21 = .ok (.goto (-19), 3) := by decide +kernel
theorem dX4_clear_24 : decode cX4_clear 24 = .ok (.return_, 1) := by decide +kernel
def F_X4_clear_l2 (o : Nat)  (post : VP → Prop)   (X : Int32 → VP → Prop) (v1 : Int32) (P : VP) : Prop :=
  (v1 < 8 → (0 ≤ v1 ∧ v1 < 8) ∧ (∀ P17 : VP, P17 = vup P 12 o (ix v1) 0 → (X (v1 + 1) P17))) ∧ (¬ v1 < 8 → post P)
set_option maxRecDepth 4000 in
theorem s_X4_clear_l2 {l : Launch} {g : vG} {o : Nat} {Q : VP} {post : VP → Prop}    {v1 : Int32} {P : VP} (ho : o < vcnt 11)  (h : vL2 (F_X4_clear_l2 o  post  ) v1 P) : VM l g RX4 cX4_clear 2 none 0 (vcV Q post) 2 [(0, vR 11 o), (1, vI v1)] [] (vjn P Q) := by
  refine vL2_s (T := fun v1 P => VM l g RX4 cX4_clear 2 none 0 (vcV Q post) 2 [(0, vR 11 o), (1, vI v1)] [] (vjn P Q)) ?_ h
  clear h
  intro X hX v1 P h
  unfold F_X4_clear_l2 at h
  refine vr_iload_n 1 1 dX4_clear_2 rfl rfl ?_
  refine vr_aload_n 0 0 dX4_clear_3 rfl rfl ?_
  refine vg_11_0 RX4 rfl ho fl_4_9 dX4_clear_4 ?_
  refine vr_alen 8 ((ia_12 (x := o) ho)).2.1 ((ia_12 (x := o) ho)).1 rfl dX4_clear_7 ?_
  refine vr_icmpge 24 dX4_clear_8 (by decide) (fun c8 => ?_) (fun c8 => ?_)
  · have h := h.1 c8
    refine vr_aload_n 0 0 dX4_clear_11 rfl rfl ?_
    refine vg_11_0 RX4 rfl ho fl_4_9 dX4_clear_12 ?_
    refine vr_iload_n 1 1 dX4_clear_15 rfl rfl ?_
    refine vr_iconst 0 dX4_clear_16 (by decide) ?_
    have hi := h.1
    have h := h.2
    obtain ⟨P17, eP17⟩ : ∃ y : VP, y = vup P 12 o (ix v1) 0 := ⟨_, rfl⟩
    have h := h P17 eP17
    refine vr_iastP 8 (ia_12 (x := o) ho) rfl hi eP17 dX4_clear_17 ?_
    refine vr_iinc (v1 + 1) 1 [(1, vI (v1 + 1)), (0, vR 11 o)] dX4_clear_18 rfl rfl (by decide) rfl ?_
    refine vr_goto 2 dX4_clear_21 (by decide) ?_
    refine vr_sub [1, 0] [(0, vR 11 o), (1, vI (v1 + 1))] rfl ?_
    exact hX _ _ h
  · have h := h.2 c8
    exact vr_vret rfl ⟨_, rfl, rfl, h⟩ dX4_clear_24
def F_X4_clear (o : Nat) (P : VP) (post : VP → Prop) : Prop :=
  vL2 (F_X4_clear_l2 o  post  ) ((0 : Int32)) P
set_option maxRecDepth 4000 in
theorem s_X4_clear {l : Launch} {g : vG} {o : Nat} {P Q : VP} {post : VP → Prop} (ho : o < vcnt 11) (h : F_X4_clear o P post) : VC l g yX4_clear cX4_clear 2 none 0 [vR 11 o] (vjn P Q) (vcV Q post) := by
  refine VC.of (by decide +kernel) (Nat.le_of_ble_eq_true rfl) (show VM l g RX4 cX4_clear 2 none 0 (vcV Q post) 0 [(0, vR 11 o)] [] (vjn P Q) from ?_)
  unfold F_X4_clear at h
  refine vr_iconst 0 dX4_clear_0 (by decide) ?_
  refine vr_istore_n 1 [(1, vI 0), (0, vR 11 o)] dX4_clear_1 rfl (by decide) rfl ?_
  refine vr_sub [1, 0] [(0, vR 11 o), (1, vI 0)] rfl ?_
  exact s_X4_clear_l2 ho  h
theorem dX2_begin_0 : decode cX2_begin 0 = .ok (.aload_n 0, 1) := by decide +kernel
theorem dX2_begin_1 : decode cX2_begin 1 = .ok (.iload_n 1, 1) := by decide +kernel
theorem dX2_begin_2 : decode cX2_begin 2 = .ok (.putfield 36, 3) := by decide +kernel
theorem dX2_begin_5 : decode cX2_begin 5 = .ok (.aload_n 0, 1) := by decide +kernel
theorem dX2_begin_6 : decode cX2_begin 6 = .ok (.iload_n 2, 1) := by decide +kernel
theorem dX2_begin_7 : decode cX2_begin 7 = .ok (.putfield 39, 3) := by decide +kernel
theorem dX2_begin_10 : decode cX2_begin 10 = .ok (.aload_n 0, 1) := by decide +kernel
theorem dX2_begin_11 : decode cX2_begin 11 = .ok (.iload_n 3, 1) := by decide +kernel
theorem dX2_begin_12 : decode cX2_begin 12 = .ok (.putfield 25, 3) := by decide +kernel
theorem dX2_begin_15 : decode cX2_begin 15 = .ok (.aload_n 0, 1) := by decide +kernel
theorem dX2_begin_16 : decode cX2_begin 16 = .ok (.iconst 0, 1) := by decide +kernel
theorem dX2_begin_17 : decode cX2_begin 17 = .ok (.putfield 42, 3) := by decide +kernel
theorem dX2_begin_20 : decode cX2_begin 20 = .ok (.aload_n 0, 1) := by decide +kernel
theorem dX2_begin_21 : decode cX2_begin 21 = .ok (.getfield 21, 3) := by decide +kernel
theorem dX2_begin_24 : decode cX2_begin 24 = .ok (.invokevirtual 45, 3) := by decide +kernel
theorem dX2_begin_27 : decode cX2_begin 27 = .ok (.return_, 1) := by decide +kernel
def F_X2_begin (o : Nat) (x1 : Int32) (x2 : Int32) (x3 : Int32) (P : VP) (post : VP → Prop) : Prop :=
  ∀ P2 : VP, P2 = vup P 1 o 2 x1 → (∀ P7 : VP, P7 = vup P2 1 o 3 x2 → (∀ P12 : VP, P12 = vup P7 1 o 4 x3 → (∀ P17 : VP, P17 = vup P12 1 o 5 0 → (F_X4_clear o P17 (fun P24 => post P24)))))
set_option maxRecDepth 4000 in
theorem s_X2_begin {l : Launch} {g : vG} {o : Nat} {x1 : Int32} {x2 : Int32} {x3 : Int32} {P Q : VP} {post : VP → Prop} (ho : o < vcnt 1) (h : F_X2_begin o x1 x2 x3 P post) : VC l g yX2_begin cX2_begin 4 none 1 [vR 1 o, vI x1, vI x2, vI x3] (vjn P Q) (vcV Q post) := by
  refine VC.of (by decide +kernel) (Nat.le_of_ble_eq_true rfl) (show VM l g RX2 cX2_begin 4 none 1 (vcV Q post) 0 [(0, vR 1 o), (1, vI x1), (2, vI x2), (3, vI x3)] [] (vjn P Q) from ?_)
  unfold F_X2_begin at h
  refine vr_aload_n 0 0 dX2_begin_0 rfl rfl ?_
  refine vr_iload_n 1 1 dX2_begin_1 rfl rfl ?_
  obtain ⟨P2, eP2⟩ : ∃ y : VP, y = vup P 1 o 2 x1 := ⟨_, rfl⟩
  have h := h P2 eP2
  refine vp_1_2 RX2 rfl ho fl_2_36 eP2 dX2_begin_2 ?_
  refine vr_aload_n 0 0 dX2_begin_5 rfl rfl ?_
  refine vr_iload_n 2 2 dX2_begin_6 rfl rfl ?_
  obtain ⟨P7, eP7⟩ : ∃ y : VP, y = vup P2 1 o 3 x2 := ⟨_, rfl⟩
  have h := h P7 eP7
  refine vp_1_3 RX2 rfl ho fl_2_39 eP7 dX2_begin_7 ?_
  refine vr_aload_n 0 0 dX2_begin_10 rfl rfl ?_
  refine vr_iload_n 3 3 dX2_begin_11 rfl rfl ?_
  obtain ⟨P12, eP12⟩ : ∃ y : VP, y = vup P7 1 o 4 x3 := ⟨_, rfl⟩
  have h := h P12 eP12
  refine vp_1_4 RX2 rfl ho fl_2_25 eP12 dX2_begin_12 ?_
  refine vr_aload_n 0 0 dX2_begin_15 rfl rfl ?_
  refine vr_iconst 0 dX2_begin_16 (by decide) ?_
  obtain ⟨P17, eP17⟩ : ∃ y : VP, y = vup P12 1 o 5 0 := ⟨_, rfl⟩
  have h := h P17 eP17
  refine vp_1_5 RX2 rfl ho fl_2_42 eP17 dX2_begin_17 ?_
  refine vr_aload_n 0 0 dX2_begin_20 rfl rfl ?_
  refine vg_1_1 RX2 rfl ho fl_2_21 dX2_begin_21 ?_
  refine vr_callV RX2 (s_X4_clear ho h) rfl ho rfl rfl rfl ml_2_45 rfl yh_X4_clear rfl ⟨Nat.le_of_ble_eq_true rfl, Nat.le_of_ble_eq_true rfl⟩ (Nat.le_of_ble_eq_true rfl) ⟨Nat.zero_le _, Nat.zero_le _⟩ dX2_begin_24 (kcv fun P24 h => ?_)
  exact vr_vret rfl ⟨_, rfl, rfl, h⟩ dX2_begin_27
theorem dX3_has_0 : decode cX3_has 0 = .ok (.iload_n 1, 1) := by decide +kernel
theorem dX3_has_1 : decode cX3_has 1 = .ok (.ifCond .lt 21, 3) := by decide +kernel
theorem dX3_has_4 : decode cX3_has 4 = .ok (.iload_n 1, 1) := by decide +kernel
theorem dX3_has_5 : decode cX3_has 5 = .ok (.aload_n 0, 1) := by decide +kernel
theorem dX3_has_6 : decode cX3_has 6 = .ok (.getfield 21, 3) := by decide +kernel
theorem dX3_has_9 : decode cX3_has 9 = .ok (.if_icmp .ge 13, 3) := by decide +kernel
theorem dX3_has_12 : decode cX3_has 12 = .ok (.iload_n 1, 1) := by decide +kernel
theorem dX3_has_13 : decode cX3_has 13 = .ok (.bipush 24, 2) := by decide +kernel
theorem dX3_has_15 : decode cX3_has 15 = .ok (.if_icmp .ge 7, 3) := by decide +kernel
theorem dX3_has_18 : decode cX3_has 18 = .ok (.iconst 1, 1) := by decide +kernel
theorem dX3_has_19 : decode cX3_has 19 = .ok (.goto 4, 3) := by decide +kernel
theorem dX3_has_22 : decode cX3_has 22 = .ok (.iconst 0, 1) := by decide +kernel
theorem dX3_has_23 : decode cX3_has 23 = .ok (.ireturn, 1) := by decide +kernel
def F_X3_has (o : Nat) (x1 : Int32) (P : VP) (post : Int32 → Prop) : Prop :=
  (x1 < 0 → post ((0 : Int32))) ∧ (¬ x1 < 0 → (x1 < P 7 o 4 → (x1 < 24 → post ((1 : Int32))) ∧ (¬ x1 < 24 → post ((0 : Int32)))) ∧ (¬ x1 < P 7 o 4 → post ((0 : Int32))))
set_option maxRecDepth 4000 in
theorem s_X3_has {l : Launch} {g : vG} {o : Nat} {x1 : Int32} {P Q : VP} {post : Int32 → Prop} (ho : o < vcnt 7) (h : F_X3_has o x1 P post) : VC l g yX3_has cX3_has 2 (some .boolean) 0 [vR 7 o, vI x1] (vjn P Q) (vpI (vjn P Q) post) := by
  refine VC.of (by decide +kernel) (Nat.le_of_ble_eq_true rfl) (show VM l g RX3 cX3_has 2 (some .boolean) 0 (vpI (vjn P Q) post) 0 [(0, vR 7 o), (1, vI x1)] [] (vjn P Q) from ?_)
  unfold F_X3_has at h
  refine vr_iload_n 1 1 dX3_has_0 rfl rfl ?_
  refine vr_iflt 22 dX3_has_1 (by decide) (fun c1 => ?_) (fun c1 => ?_)
  · have h := h.1 c1
    refine vr_iconst 0 dX3_has_22 (by decide) ?_
    exact vr_zret rfl (Or.inl rfl) ⟨rfl, _, rfl, h⟩ dX3_has_23
  · have h := h.2 c1
    refine vr_iload_n 1 1 dX3_has_4 rfl rfl ?_
    refine vr_aload_n 0 0 dX3_has_5 rfl rfl ?_
    refine vg_7_4 RX3 rfl ho fl_3_21 dX3_has_6 ?_
    refine vr_icmpge 22 dX3_has_9 (by decide) (fun c9 => ?_) (fun c9 => ?_)
    · have h := h.1 c9
      refine vr_iload_n 1 1 dX3_has_12 rfl rfl ?_
      refine vr_bipush 24 dX3_has_13 (by decide) ?_
      refine vr_icmpge 22 dX3_has_15 (by decide) (fun c15 => ?_) (fun c15 => ?_)
      · have h := h.1 c15
        refine vr_iconst 1 dX3_has_18 (by decide) ?_
        refine vr_goto 23 dX3_has_19 (by decide) ?_
        exact vr_zret rfl (Or.inr rfl) ⟨rfl, _, rfl, h⟩ dX3_has_23
      · have h := h.2 c15
        refine vr_iconst 0 dX3_has_22 (by decide) ?_
        exact vr_zret rfl (Or.inl rfl) ⟨rfl, _, rfl, h⟩ dX3_has_23
    · have h := h.2 c9
      refine vr_iconst 0 dX3_has_22 (by decide) ?_
      exact vr_zret rfl (Or.inl rfl) ⟨rfl, _, rfl, h⟩ dX3_has_23
theorem dX3_kindAt_0 : decode cX3_kindAt 0 = .ok (.aload_n 0, 1) := by decide +kernel
theorem dX3_kindAt_1 : decode cX3_kindAt 1 = .ok (.iload_n 1, 1) := by decide +kernel
theorem dX3_kindAt_2 : decode cX3_kindAt 2 = .ok (.invokevirtual 25, 3) := by decide +kernel
theorem dX3_kindAt_5 : decode cX3_kindAt 5 = .ok (.ifCond .eq 12, 3) := by decide +kernel
theorem dX3_kindAt_8 : decode cX3_kindAt 8 = .ok (.aload_n 0, 1) := by decide +kernel
theorem dX3_kindAt_9 : decode cX3_kindAt 9 = .ok (.getfield 9, 3) := by decide +kernel
theorem dX3_kindAt_12 : decode cX3_kindAt 12 = .ok (.iload_n 1, 1) := by decide +kernel
theorem dX3_kindAt_13 : decode cX3_kindAt 13 = .ok (.iaload, 1) := by decide +kernel
theorem dX3_kindAt_14 : decode cX3_kindAt 14 = .ok (.goto 4, 3) := by decide +kernel
theorem dX3_kindAt_17 : decode cX3_kindAt 17 = .ok (.iconst 0, 1) := by decide +kernel
theorem dX3_kindAt_18 : decode cX3_kindAt 18 = .ok (.ireturn, 1) := by decide +kernel
def F_X3_kindAt (o : Nat) (x1 : Int32) (P : VP) (post : Int32 → Prop) : Prop :=
  F_X3_has o x1 P (fun r2 => (r2 = 0 → post ((0 : Int32))) ∧ (¬ r2 = 0 → (0 ≤ x1 ∧ x1 < 24) ∧ (post (P 8 o (ix x1)))))
set_option maxRecDepth 4000 in
theorem s_X3_kindAt {l : Launch} {g : vG} {o : Nat} {x1 : Int32} {P Q : VP} {post : Int32 → Prop} (ho : o < vcnt 7) (h : F_X3_kindAt o x1 P post) : VC l g yX3_kindAt cX3_kindAt 2 (some .int) 1 [vR 7 o, vI x1] (vjn P Q) (vpI (vjn P Q) post) := by
  refine VC.of (by decide +kernel) (Nat.le_of_ble_eq_true rfl) (show VM l g RX3 cX3_kindAt 2 (some .int) 1 (vpI (vjn P Q) post) 0 [(0, vR 7 o), (1, vI x1)] [] (vjn P Q) from ?_)
  unfold F_X3_kindAt at h
  refine vr_aload_n 0 0 dX3_kindAt_0 rfl rfl ?_
  refine vr_iload_n 1 1 dX3_kindAt_1 rfl rfl ?_
  refine vr_callV RX3 (s_X3_has ho h) rfl ho rfl rfl rfl ml_3_25 rfl yh_X3_has rfl ⟨Nat.le_of_ble_eq_true rfl, Nat.le_of_ble_eq_true rfl⟩ (Nat.le_of_ble_eq_true rfl) ⟨Nat.zero_le _, Nat.zero_le _⟩ dX3_kindAt_2 (ki fun r2 h => ?_)
  refine vr_ifeq 17 dX3_kindAt_5 (by decide) (fun c5 => ?_) (fun c5 => ?_)
  · have h := h.1 c5
    refine vr_iconst 0 dX3_kindAt_17 (by decide) ?_
    exact vr_iret rfl ⟨rfl, _, rfl, h⟩ dX3_kindAt_18
  · have h := h.2 c5
    refine vr_aload_n 0 0 dX3_kindAt_8 rfl rfl ?_
    refine vg_7_10 RX3 rfl ho fl_3_9 dX3_kindAt_9 ?_
    refine vr_iload_n 1 1 dX3_kindAt_12 rfl rfl ?_
    have hi := h.1
    have h := h.2
    refine vr_ialdP 24 (ia_8 (x := o) ho) rfl hi dX3_kindAt_13 ?_
    refine vr_goto 18 dX3_kindAt_14 (by decide) ?_
    exact vr_iret rfl ⟨rfl, _, rfl, h⟩ dX3_kindAt_18
theorem dX3_letsGo_0 : decode cX3_letsGo 0 = .ok (.aload_n 0, 1) := by decide +kernel
theorem dX3_letsGo_1 : decode cX3_letsGo 1 = .ok (.getfield 29, 3) := by decide +kernel
theorem dX3_letsGo_4 : decode cX3_letsGo 4 = .ok (.iconst 4, 1) := by decide +kernel
theorem dX3_letsGo_5 : decode cX3_letsGo 5 = .ok (.iand, 1) := by decide +kernel
theorem dX3_letsGo_6 : decode cX3_letsGo 6 = .ok (.ifCond .eq 23, 3) := by decide +kernel
theorem dX3_letsGo_9 : decode cX3_letsGo 9 = .ok (.iload_n 1, 1) := by decide +kernel
theorem dX3_letsGo_10 : decode cX3_letsGo 10 = .ok (.aload_n 0, 1) := by decide +kernel
theorem dX3_letsGo_11 : decode cX3_letsGo 11 = .ok (.getfield 35, 3) := by decide +kernel
theorem dX3_letsGo_14 : decode cX3_letsGo 14 = .ok (.if_icmp .lt 15, 3) := by decide +kernel
theorem dX3_letsGo_17 : decode cX3_letsGo 17 = .ok (.iload_n 1, 1) := by decide +kernel
theorem dX3_letsGo_18 : decode cX3_letsGo 18 = .ok (.aload_n 0, 1) := by decide +kernel
theorem dX3_letsGo_19 : decode cX3_letsGo 19 = .ok (.getfield 32, 3) := by decide +kernel
theorem dX3_letsGo_22 : decode cX3_letsGo 22 = .ok (.if_icmp .gt 7, 3) := by decide +kernel
theorem dX3_letsGo_25 : decode cX3_letsGo 25 = .ok (.iconst 1, 1) := by decide +kernel
theorem dX3_letsGo_26 : decode cX3_letsGo 26 = .ok (.goto 4, 3) := by decide +kernel
theorem dX3_letsGo_29 : decode cX3_letsGo 29 = .ok (.iconst 0, 1) := by decide +kernel
theorem dX3_letsGo_30 : decode cX3_letsGo 30 = .ok (.ireturn, 1) := by decide +kernel
def F_X3_letsGo (o : Nat) (x1 : Int32) (P : VP) (post : Int32 → Prop) : Prop :=
  ((P 7 o 8) &&& 4 = 0 → post ((0 : Int32))) ∧ (¬ (P 7 o 8) &&& 4 = 0 → (x1 < P 7 o 5 → post ((0 : Int32))) ∧ (¬ x1 < P 7 o 5 → (P 7 o 6 < x1 → post ((0 : Int32))) ∧ (¬ P 7 o 6 < x1 → post ((1 : Int32)))))
set_option maxRecDepth 4000 in
theorem s_X3_letsGo {l : Launch} {g : vG} {o : Nat} {x1 : Int32} {P Q : VP} {post : Int32 → Prop} (ho : o < vcnt 7) (h : F_X3_letsGo o x1 P post) : VC l g yX3_letsGo cX3_letsGo 2 (some .boolean) 0 [vR 7 o, vI x1] (vjn P Q) (vpI (vjn P Q) post) := by
  refine VC.of (by decide +kernel) (Nat.le_of_ble_eq_true rfl) (show VM l g RX3 cX3_letsGo 2 (some .boolean) 0 (vpI (vjn P Q) post) 0 [(0, vR 7 o), (1, vI x1)] [] (vjn P Q) from ?_)
  unfold F_X3_letsGo at h
  refine vr_aload_n 0 0 dX3_letsGo_0 rfl rfl ?_
  refine vg_7_8 RX3 rfl ho fl_3_29 dX3_letsGo_1 ?_
  refine vr_iconst 4 dX3_letsGo_4 (by decide) ?_
  refine vr_iand dX3_letsGo_5 ?_
  refine vr_ifeq 29 dX3_letsGo_6 (by decide) (fun c6 => ?_) (fun c6 => ?_)
  · have h := h.1 c6
    refine vr_iconst 0 dX3_letsGo_29 (by decide) ?_
    exact vr_zret rfl (Or.inl rfl) ⟨rfl, _, rfl, h⟩ dX3_letsGo_30
  · have h := h.2 c6
    refine vr_iload_n 1 1 dX3_letsGo_9 rfl rfl ?_
    refine vr_aload_n 0 0 dX3_letsGo_10 rfl rfl ?_
    refine vg_7_5 RX3 rfl ho fl_3_35 dX3_letsGo_11 ?_
    refine vr_icmplt 29 dX3_letsGo_14 (by decide) (fun c14 => ?_) (fun c14 => ?_)
    · have h := h.1 c14
      refine vr_iconst 0 dX3_letsGo_29 (by decide) ?_
      exact vr_zret rfl (Or.inl rfl) ⟨rfl, _, rfl, h⟩ dX3_letsGo_30
    · have h := h.2 c14
      refine vr_iload_n 1 1 dX3_letsGo_17 rfl rfl ?_
      refine vr_aload_n 0 0 dX3_letsGo_18 rfl rfl ?_
      refine vg_7_6 RX3 rfl ho fl_3_32 dX3_letsGo_19 ?_
      refine vr_icmpgt 29 dX3_letsGo_22 (by decide) (fun c22 => ?_) (fun c22 => ?_)
      · have h := h.1 c22
        refine vr_iconst 0 dX3_letsGo_29 (by decide) ?_
        exact vr_zret rfl (Or.inl rfl) ⟨rfl, _, rfl, h⟩ dX3_letsGo_30
      · have h := h.2 c22
        refine vr_iconst 1 dX3_letsGo_25 (by decide) ?_
        refine vr_goto 30 dX3_letsGo_26 (by decide) ?_
        exact vr_zret rfl (Or.inr rfl) ⟨rfl, _, rfl, h⟩ dX3_letsGo_30
theorem dX3_valueAt_0 : decode cX3_valueAt 0 = .ok (.aload_n 0, 1) := by decide +kernel
theorem dX3_valueAt_1 : decode cX3_valueAt 1 = .ok (.iload_n 1, 1) := by decide +kernel
theorem dX3_valueAt_2 : decode cX3_valueAt 2 = .ok (.invokevirtual 25, 3) := by decide +kernel
theorem dX3_valueAt_5 : decode cX3_valueAt 5 = .ok (.ifCond .eq 12, 3) := by decide +kernel
theorem dX3_valueAt_8 : decode cX3_valueAt 8 = .ok (.aload_n 0, 1) := by decide +kernel
theorem dX3_valueAt_9 : decode cX3_valueAt 9 = .ok (.getfield 15, 3) := by decide +kernel
theorem dX3_valueAt_12 : decode cX3_valueAt 12 = .ok (.iload_n 1, 1) := by decide +kernel
theorem dX3_valueAt_13 : decode cX3_valueAt 13 = .ok (.iaload, 1) := by decide +kernel
theorem dX3_valueAt_14 : decode cX3_valueAt 14 = .ok (.goto 4, 3) := by decide +kernel
theorem dX3_valueAt_17 : decode cX3_valueAt 17 = .ok (.iconst 0, 1) := by decide +kernel
theorem dX3_valueAt_18 : decode cX3_valueAt 18 = .ok (.ireturn, 1) := by decide +kernel
def F_X3_valueAt (o : Nat) (x1 : Int32) (P : VP) (post : Int32 → Prop) : Prop :=
  F_X3_has o x1 P (fun r2 => (r2 = 0 → post ((0 : Int32))) ∧ (¬ r2 = 0 → (0 ≤ x1 ∧ x1 < 24) ∧ (post (P 9 o (ix x1)))))
set_option maxRecDepth 4000 in
theorem s_X3_valueAt {l : Launch} {g : vG} {o : Nat} {x1 : Int32} {P Q : VP} {post : Int32 → Prop} (ho : o < vcnt 7) (h : F_X3_valueAt o x1 P post) : VC l g yX3_valueAt cX3_valueAt 2 (some .int) 1 [vR 7 o, vI x1] (vjn P Q) (vpI (vjn P Q) post) := by
  refine VC.of (by decide +kernel) (Nat.le_of_ble_eq_true rfl) (show VM l g RX3 cX3_valueAt 2 (some .int) 1 (vpI (vjn P Q) post) 0 [(0, vR 7 o), (1, vI x1)] [] (vjn P Q) from ?_)
  unfold F_X3_valueAt at h
  refine vr_aload_n 0 0 dX3_valueAt_0 rfl rfl ?_
  refine vr_iload_n 1 1 dX3_valueAt_1 rfl rfl ?_
  refine vr_callV RX3 (s_X3_has ho h) rfl ho rfl rfl rfl ml_3_25 rfl yh_X3_has rfl ⟨Nat.le_of_ble_eq_true rfl, Nat.le_of_ble_eq_true rfl⟩ (Nat.le_of_ble_eq_true rfl) ⟨Nat.zero_le _, Nat.zero_le _⟩ dX3_valueAt_2 (ki fun r2 h => ?_)
  refine vr_ifeq 17 dX3_valueAt_5 (by decide) (fun c5 => ?_) (fun c5 => ?_)
  · have h := h.1 c5
    refine vr_iconst 0 dX3_valueAt_17 (by decide) ?_
    exact vr_iret rfl ⟨rfl, _, rfl, h⟩ dX3_valueAt_18
  · have h := h.2 c5
    refine vr_aload_n 0 0 dX3_valueAt_8 rfl rfl ?_
    refine vg_7_11 RX3 rfl ho fl_3_15 dX3_valueAt_9 ?_
    refine vr_iload_n 1 1 dX3_valueAt_12 rfl rfl ?_
    have hi := h.1
    have h := h.2
    refine vr_ialdP 24 (ia_9 (x := o) ho) rfl hi dX3_valueAt_13 ?_
    refine vr_goto 18 dX3_valueAt_14 (by decide) ?_
    exact vr_iret rfl ⟨rfl, _, rfl, h⟩ dX3_valueAt_18
theorem dX6_find_0 : decode cX6_find 0 = .ok (.iload_n 1, 1) := by decide +kernel
theorem dX6_find_1 : decode cX6_find 1 = .ok (.ifCond .lt 12, 3) := by decide +kernel
theorem dX6_find_4 : decode cX6_find 4 = .ok (.iload_n 1, 1) := by decide +kernel
theorem dX6_find_5 : decode cX6_find 5 = .ok (.aload_n 0, 1) := by decide +kernel
theorem dX6_find_6 : decode cX6_find 6 = .ok (.getfield 27, 3) := by decide +kernel
theorem dX6_find_9 : decode cX6_find 9 = .ok (.arraylength, 1) := by decide +kernel
theorem dX6_find_10 : decode cX6_find 10 = .ok (.if_icmp .lt 5, 3) := by decide +kernel
theorem dX6_find_13 : decode cX6_find 13 = .ok (.aconst_null, 1) := by decide +kernel
theorem dX6_find_14 : decode cX6_find 14 = .ok (.areturn, 1) := by decide +kernel
theorem dX6_find_15 : decode cX6_find 15 = .ok (.aload_n 0, 1) := by decide +kernel
theorem dX6_find_16 : decode cX6_find 16 = .ok (.getfield 27, 3) := by decide +kernel
theorem dX6_find_19 : decode cX6_find 19 = .ok (.iload_n 1, 1) := by decide +kernel
theorem dX6_find_20 : decode cX6_find 20 = .ok (.aaload, 1) := by decide +kernel
theorem dX6_find_21 : decode cX6_find 21 = .ok (.astore_n 2, 1) := by decide +kernel
theorem dX6_find_22 : decode cX6_find 22 = .ok (.aload_n 2, 1) := by decide +kernel
theorem dX6_find_23 : decode cX6_find 23 = .ok (.ifnull 14, 3) := by decide +kernel
theorem dX6_find_26 : decode cX6_find 26 = .ok (.aload_n 2, 1) := by decide +kernel
theorem dX6_find_27 : decode cX6_find 27 = .ok (.getfield 39, 3) := by decide +kernel
theorem dX6_find_30 : decode cX6_find 30 = .ok (.ifCond .eq 7, 3) := by decide +kernel
theorem dX6_find_33 : decode cX6_find 33 = .ok (.aload_n 2, 1) := by decide +kernel
theorem dX6_find_34 : decode cX6_find 34 = .ok (.goto 4, 3) := by decide +kernel
theorem dX6_find_37 : decode cX6_find 37 = .ok (.aconst_null, 1) := by decide +kernel
theorem dX6_find_38 : decode cX6_find 38 = .ok (.areturn, 1) := by decide +kernel
def F_X6_find (o : Nat) (x1 : Int32) (P : VP) (post : Option Nat → Prop) : Prop :=
  (x1 < 0 → post none) ∧ (¬ x1 < 0 → (x1 < 16 → (0 ≤ x1 ∧ x1 < 16) ∧ ((P 7 ((16 * o + ix x1)) 0 = 0 → post none) ∧ (¬ P 7 ((16 * o + ix x1)) 0 = 0 → post (some ((16 * o + ix x1)))))) ∧ (¬ x1 < 16 → post none))
set_option maxRecDepth 4000 in
theorem s_X6_find {l : Launch} {g : vG} {o : Nat} {x1 : Int32} {P Q : VP} {post : Option Nat → Prop} (ho : o < vcnt 2) (h : F_X6_find o x1 P post) : VC l g yX6_find cX6_find 3 (some (.object "RingGates$Segment")) 0 [vR 2 o, vI x1] (vjn P Q) (vpO 7 (vjn P Q) post) := by
  refine VC.of (by decide +kernel) (Nat.le_of_ble_eq_true rfl) (show VM l g RX6 cX6_find 3 (some (.object "RingGates$Segment")) 0 (vpO 7 (vjn P Q) post) 0 [(0, vR 2 o), (1, vI x1)] [] (vjn P Q) from ?_)
  unfold F_X6_find at h
  refine vr_iload_n 1 1 dX6_find_0 rfl rfl ?_
  refine vr_iflt 13 dX6_find_1 (by decide) (fun c1 => ?_) (fun c1 => ?_)
  · have h := h.1 c1
    refine vr_anull dX6_find_13 ?_
    exact vr_aret rfl ⟨rfl, none, rfl, vnone, h⟩ dX6_find_14
  · have h := h.2 c1
    refine vr_iload_n 1 1 dX6_find_4 rfl rfl ?_
    refine vr_aload_n 0 0 dX6_find_5 rfl rfl ?_
    refine vg_2_6 RX6 rfl ho fl_6_27 dX6_find_6 ?_
    refine vl_6 ho dX6_find_9 ?_
    refine vr_icmplt 15 dX6_find_10 (by decide) (fun c10 => ?_) (fun c10 => ?_)
    · have h := h.1 c10
      refine vr_aload_n 0 0 dX6_find_15 rfl rfl ?_
      refine vg_2_6 RX6 rfl ho fl_6_27 dX6_find_16 ?_
      refine vr_iload_n 1 1 dX6_find_19 rfl rfl ?_
      have hi := h.1
      have h := h.2
      refine vq_6 ho hi dX6_find_20 (fun hq20 => ?_)
      refine vr_astore_n 2 [(2, vR 7 ((16 * o + ix x1))), (0, vR 2 o), (1, vI x1)] dX6_find_21 rfl (by decide) rfl ?_
      refine vr_aload_n 2 0 dX6_find_22 rfl rfl ?_
      refine vr_ifnullR dX6_find_23 ?_
      refine vr_aload_n 2 0 dX6_find_26 rfl rfl ?_
      refine vg_7_0 RX6 rfl hq20 fl_6_39 dX6_find_27 ?_
      refine vr_ifeq 37 dX6_find_30 (by decide) (fun c30 => ?_) (fun c30 => ?_)
      · have h := h.1 c30
        refine vr_anull dX6_find_37 ?_
        exact vr_aret rfl ⟨rfl, none, rfl, vnone, h⟩ dX6_find_38
      · have h := h.2 c30
        refine vr_aload_n 2 0 dX6_find_33 rfl rfl ?_
        refine vr_goto 38 dX6_find_34 (by decide) ?_
        exact vr_aret rfl ⟨rfl, some ((16 * o + ix x1)), rfl, vsome hq20, h⟩ dX6_find_38
    · have h := h.2 c10
      refine vr_anull dX6_find_13 ?_
      exact vr_aret rfl ⟨rfl, none, rfl, vnone, h⟩ dX6_find_14
theorem dX2_actHere_0 : decode cX2_actHere 0 = .ok (.aload_n 0, 1) := by decide +kernel
theorem dX2_actHere_1 : decode cX2_actHere 1 = .ok (.getfield 12, 3) := by decide +kernel
theorem dX2_actHere_4 : decode cX2_actHere 4 = .ok (.aload_n 0, 1) := by decide +kernel
theorem dX2_actHere_5 : decode cX2_actHere 5 = .ok (.getfield 36, 3) := by decide +kernel
theorem dX2_actHere_8 : decode cX2_actHere 8 = .ok (.invokevirtual 59, 3) := by decide +kernel
theorem dX2_actHere_11 : decode cX2_actHere 11 = .ok (.astore_n 1, 1) := by decide +kernel
theorem dX2_actHere_12 : decode cX2_actHere 12 = .ok (.aload_n 1, 1) := by decide +kernel
theorem dX2_actHere_13 : decode cX2_actHere 13 = .ok (.ifnonnull 6, 3) := by decide +kernel
theorem dX2_actHere_16 : decode cX2_actHere 16 = .ok (.bipush (-20), 2) := by decide +kernel
theorem dX2_actHere_18 : decode cX2_actHere 18 = .ok (.ireturn, 1) := by decide +kernel
theorem dX2_actHere_19 : decode cX2_actHere 19 = .ok (.aload_n 1, 1) := by decide +kernel
theorem dX2_actHere_20 : decode cX2_actHere 20 = .ok (.aload_n 0, 1) := by decide +kernel
theorem dX2_actHere_21 : decode cX2_actHere 21 = .ok (.getfield 39, 3) := by decide +kernel
theorem dX2_actHere_24 : decode cX2_actHere 24 = .ok (.invokevirtual 63, 3) := by decide +kernel
theorem dX2_actHere_27 : decode cX2_actHere 27 = .ok (.ifCond .ne 6, 3) := by decide +kernel
theorem dX2_actHere_30 : decode cX2_actHere 30 = .ok (.bipush (-21), 2) := by decide +kernel
theorem dX2_actHere_32 : decode cX2_actHere 32 = .ok (.ireturn, 1) := by decide +kernel
theorem dX2_actHere_33 : decode cX2_actHere 33 = .ok (.aload_n 1, 1) := by decide +kernel
theorem dX2_actHere_34 : decode cX2_actHere 34 = .ok (.aload_n 0, 1) := by decide +kernel
theorem dX2_actHere_35 : decode cX2_actHere 35 = .ok (.getfield 25, 3) := by decide +kernel
theorem dX2_actHere_38 : decode cX2_actHere 38 = .ok (.invokevirtual 69, 3) := by decide +kernel
theorem dX2_actHere_41 : decode cX2_actHere 41 = .ok (.ifCond .ne 6, 3) := by decide +kernel
theorem dX2_actHere_44 : decode cX2_actHere 44 = .ok (.bipush (-22), 2) := by decide +kernel
theorem dX2_actHere_46 : decode cX2_actHere 46 = .ok (.ireturn, 1) := by decide +kernel
theorem dX2_actHere_47 : decode cX2_actHere 47 = .ok (.aload_n 1, 1) := by decide +kernel
theorem dX2_actHere_48 : decode cX2_actHere 48 = .ok (.aload_n 0, 1) := by decide +kernel
theorem dX2_actHere_49 : decode cX2_actHere 49 = .ok (.getfield 39, 3) := by decide +kernel
theorem dX2_actHere_52 : decode cX2_actHere 52 = .ok (.invokevirtual 72, 3) := by decide +kernel
theorem dX2_actHere_55 : decode cX2_actHere 55 = .ok (.bipush 6, 2) := by decide +kernel
theorem dX2_actHere_57 : decode cX2_actHere 57 = .ok (.if_icmp .eq 22, 3) := by decide +kernel
theorem dX2_actHere_60 : decode cX2_actHere 60 = .ok (.aload_n 1, 1) := by decide +kernel
theorem dX2_actHere_61 : decode cX2_actHere 61 = .ok (.aload_n 0, 1) := by decide +kernel
theorem dX2_actHere_62 : decode cX2_actHere 62 = .ok (.getfield 39, 3) := by decide +kernel
theorem dX2_actHere_65 : decode cX2_actHere 65 = .ok (.invokevirtual 72, 3) := by decide +kernel
theorem dX2_actHere_68 : decode cX2_actHere 68 = .ok (.ifCond .ne 8, 3) := by decide +kernel
theorem dX2_actHere_71 : decode cX2_actHere 71 = .ok (.bipush (-23), 2) := by decide +kernel
theorem dX2_actHere_73 : decode cX2_actHere 73 = .ok (.goto 5, 3) := by decide +kernel
theorem dX2_actHere_76 : decode cX2_actHere 76 = .ok (.bipush (-24), 2) := by decide +kernel
theorem dX2_actHere_78 : decode cX2_actHere 78 = .ok (.ireturn, 1) := by decide +kernel
theorem dX2_actHere_79 : decode cX2_actHere 79 = .ok (.aload_n 1, 1) := by decide +kernel
theorem dX2_actHere_80 : decode cX2_actHere 80 = .ok (.aload_n 0, 1) := by decide +kernel
theorem dX2_actHere_81 : decode cX2_actHere 81 = .ok (.getfield 39, 3) := by decide +kernel
theorem dX2_actHere_84 : decode cX2_actHere 84 = .ok (.invokevirtual 76, 3) := by decide +kernel
theorem dX2_actHere_87 : decode cX2_actHere 87 = .ok (.ireturn, 1) := by decide +kernel
def F_X2_actHere (o : Nat) (P : VP) (post : Int32 → Prop) : Prop :=
  (F_X6_find o (P 1 o 2) P (fun r8 => match r8 with | none => (post (((-20) : Int32))) | some yr8 => (F_X3_has yr8 (P 1 o 3) P (fun r24 => (r24 = 0 → post (((-21) : Int32))) ∧ (¬ r24 = 0 → F_X3_letsGo yr8 (P 1 o 4) P (fun r38 => (r38 = 0 → post (((-22) : Int32))) ∧ (¬ r38 = 0 → F_X3_kindAt yr8 (P 1 o 3) P (fun r52 => (r52 = 6 → F_X3_valueAt yr8 (P 1 o 3) P (fun r84 => post r84)) ∧ (¬ r52 = 6 → F_X3_kindAt yr8 (P 1 o 3) P (fun r65 => (r65 = 0 → post (((-23) : Int32))) ∧ (¬ r65 = 0 → post (((-24) : Int32)))))))))))))
set_option maxRecDepth 4000 in
theorem s_X2_actHere {l : Launch} {g : vG} {o : Nat} {P Q : VP} {post : Int32 → Prop} (ho : o < vcnt 1) (h : F_X2_actHere o P post) : VC l g yX2_actHere cX2_actHere 2 (some .int) 2 [vR 1 o] (vjn P Q) (vpI (vjn P Q) post) := by
  refine VC.of (by decide +kernel) (Nat.le_of_ble_eq_true rfl) (show VM l g RX2 cX2_actHere 2 (some .int) 2 (vpI (vjn P Q) post) 0 [(0, vR 1 o)] [] (vjn P Q) from ?_)
  unfold F_X2_actHere at h
  refine vr_aload_n 0 0 dX2_actHere_0 rfl rfl ?_
  refine vg_1_0 RX2 rfl ho fl_2_12 dX2_actHere_1 ?_
  refine vr_aload_n 0 0 dX2_actHere_4 rfl rfl ?_
  refine vg_1_2 RX2 rfl ho fl_2_36 dX2_actHere_5 ?_
  refine vr_callV RX2 (s_X6_find ho h) rfl ho rfl rfl rfl ml_2_59 rfl yh_X6_find rfl ⟨Nat.le_of_ble_eq_true rfl, Nat.le_of_ble_eq_true rfl⟩ (Nat.le_of_ble_eq_true rfl) ⟨Nat.zero_le _, Nat.zero_le _⟩ dX2_actHere_8 (ko fun r8 hvr8 h => ?_)
  refine vr_astore_n 1 [(1, vO 7 r8), (0, vR 1 o)] dX2_actHere_11 rfl (by decide) rfl ?_
  refine vr_aload_n 1 0 dX2_actHere_12 rfl rfl ?_
  rcases r8 with _ | yr8
  · refine vr_ifnonnullN dX2_actHere_13 ?_
    refine vr_bipush (-20) dX2_actHere_16 (by decide) ?_
    exact vr_iret rfl ⟨rfl, _, rfl, h⟩ dX2_actHere_18
  · refine vr_ifnonnullR 19 dX2_actHere_13 (by decide) ?_
    refine vr_aload_n 1 0 dX2_actHere_19 rfl rfl ?_
    refine vr_aload_n 0 1 dX2_actHere_20 rfl rfl ?_
    refine vg_1_3 RX2 rfl ho fl_2_39 dX2_actHere_21 ?_
    refine vr_callV RX2 (s_X3_has (hvr8 _ rfl) h) rfl (hvr8 _ rfl) rfl rfl rfl ml_2_63 rfl yh_X3_has rfl ⟨Nat.le_of_ble_eq_true rfl, Nat.le_of_ble_eq_true rfl⟩ (Nat.le_of_ble_eq_true rfl) ⟨Nat.zero_le _, Nat.zero_le _⟩ dX2_actHere_24 (ki fun r24 h => ?_)
    refine vr_ifne 33 dX2_actHere_27 (by decide) (fun c27 => ?_) (fun c27 => ?_)
    · have h := h.1 c27
      refine vr_bipush (-21) dX2_actHere_30 (by decide) ?_
      exact vr_iret rfl ⟨rfl, _, rfl, h⟩ dX2_actHere_32
    · have h := h.2 c27
      refine vr_aload_n 1 0 dX2_actHere_33 rfl rfl ?_
      refine vr_aload_n 0 1 dX2_actHere_34 rfl rfl ?_
      refine vg_1_4 RX2 rfl ho fl_2_25 dX2_actHere_35 ?_
      refine vr_callV RX2 (s_X3_letsGo (hvr8 _ rfl) h) rfl (hvr8 _ rfl) rfl rfl rfl ml_2_69 rfl yh_X3_letsGo rfl ⟨Nat.le_of_ble_eq_true rfl, Nat.le_of_ble_eq_true rfl⟩ (Nat.le_of_ble_eq_true rfl) ⟨Nat.zero_le _, Nat.zero_le _⟩ dX2_actHere_38 (ki fun r38 h => ?_)
      refine vr_ifne 47 dX2_actHere_41 (by decide) (fun c41 => ?_) (fun c41 => ?_)
      · have h := h.1 c41
        refine vr_bipush (-22) dX2_actHere_44 (by decide) ?_
        exact vr_iret rfl ⟨rfl, _, rfl, h⟩ dX2_actHere_46
      · have h := h.2 c41
        refine vr_aload_n 1 0 dX2_actHere_47 rfl rfl ?_
        refine vr_aload_n 0 1 dX2_actHere_48 rfl rfl ?_
        refine vg_1_3 RX2 rfl ho fl_2_39 dX2_actHere_49 ?_
        refine vr_callV RX2 (s_X3_kindAt (hvr8 _ rfl) h) rfl (hvr8 _ rfl) rfl rfl rfl ml_2_72 rfl yh_X3_kindAt rfl ⟨Nat.le_of_ble_eq_true rfl, Nat.le_of_ble_eq_true rfl⟩ (Nat.le_of_ble_eq_true rfl) ⟨Nat.zero_le _, Nat.zero_le _⟩ dX2_actHere_52 (ki fun r52 h => ?_)
        refine vr_bipush 6 dX2_actHere_55 (by decide) ?_
        refine vr_icmpeq 79 dX2_actHere_57 (by decide) (fun c57 => ?_) (fun c57 => ?_)
        · have h := h.1 c57
          refine vr_aload_n 1 0 dX2_actHere_79 rfl rfl ?_
          refine vr_aload_n 0 1 dX2_actHere_80 rfl rfl ?_
          refine vg_1_3 RX2 rfl ho fl_2_39 dX2_actHere_81 ?_
          refine vr_callV RX2 (s_X3_valueAt (hvr8 _ rfl) h) rfl (hvr8 _ rfl) rfl rfl rfl ml_2_76 rfl yh_X3_valueAt rfl ⟨Nat.le_of_ble_eq_true rfl, Nat.le_of_ble_eq_true rfl⟩ (Nat.le_of_ble_eq_true rfl) ⟨Nat.zero_le _, Nat.zero_le _⟩ dX2_actHere_84 (ki fun r84 h => ?_)
          exact vr_iret rfl ⟨rfl, _, rfl, h⟩ dX2_actHere_87
        · have h := h.2 c57
          refine vr_aload_n 1 0 dX2_actHere_60 rfl rfl ?_
          refine vr_aload_n 0 1 dX2_actHere_61 rfl rfl ?_
          refine vg_1_3 RX2 rfl ho fl_2_39 dX2_actHere_62 ?_
          refine vr_callV RX2 (s_X3_kindAt (hvr8 _ rfl) h) rfl (hvr8 _ rfl) rfl rfl rfl ml_2_72 rfl yh_X3_kindAt rfl ⟨Nat.le_of_ble_eq_true rfl, Nat.le_of_ble_eq_true rfl⟩ (Nat.le_of_ble_eq_true rfl) ⟨Nat.zero_le _, Nat.zero_le _⟩ dX2_actHere_65 (ki fun r65 h => ?_)
          refine vr_ifne 76 dX2_actHere_68 (by decide) (fun c68 => ?_) (fun c68 => ?_)
          · have h := h.1 c68
            refine vr_bipush (-23) dX2_actHere_71 (by decide) ?_
            refine vr_goto 78 dX2_actHere_73 (by decide) ?_
            exact vr_iret rfl ⟨rfl, _, rfl, h⟩ dX2_actHere_78
          · have h := h.2 c68
            refine vr_bipush (-24) dX2_actHere_76 (by decide) ?_
            exact vr_iret rfl ⟨rfl, _, rfl, h⟩ dX2_actHere_78
theorem dX2_keepPlace_0 : decode cX2_keepPlace 0 = .ok (.aload_n 1, 1) := by decide +kernel
theorem dX2_keepPlace_1 : decode cX2_keepPlace 1 = .ok (.ifnull 32, 3) := by decide +kernel
theorem dX2_keepPlace_4 : decode cX2_keepPlace 4 = .ok (.aload_n 1, 1) := by decide +kernel
theorem dX2_keepPlace_5 : decode cX2_keepPlace 5 = .ok (.aload_n 0, 1) := by decide +kernel
theorem dX2_keepPlace_6 : decode cX2_keepPlace 6 = .ok (.getfield 105, 3) := by decide +kernel
theorem dX2_keepPlace_9 : decode cX2_keepPlace 9 = .ok (.putfield 155, 3) := by decide +kernel
theorem dX2_keepPlace_12 : decode cX2_keepPlace 12 = .ok (.aload_n 1, 1) := by decide +kernel
theorem dX2_keepPlace_13 : decode cX2_keepPlace 13 = .ok (.aload_n 0, 1) := by decide +kernel
theorem dX2_keepPlace_14 : decode cX2_keepPlace 14 = .ok (.getfield 108, 3) := by decide +kernel
theorem dX2_keepPlace_17 : decode cX2_keepPlace 17 = .ok (.putfield 158, 3) := by decide +kernel
theorem dX2_keepPlace_20 : decode cX2_keepPlace 20 = .ok (.aload_n 1, 1) := by decide +kernel
theorem dX2_keepPlace_21 : decode cX2_keepPlace 21 = .ok (.aload_n 0, 1) := by decide +kernel
theorem dX2_keepPlace_22 : decode cX2_keepPlace 22 = .ok (.getfield 111, 3) := by decide +kernel
theorem dX2_keepPlace_25 : decode cX2_keepPlace 25 = .ok (.putfield 159, 3) := by decide +kernel
theorem dX2_keepPlace_28 : decode cX2_keepPlace 28 = .ok (.aload_n 1, 1) := by decide +kernel
theorem dX2_keepPlace_29 : decode cX2_keepPlace 29 = .ok (.iconst 0, 1) := by decide +kernel
theorem dX2_keepPlace_30 : decode cX2_keepPlace 30 = .ok (.putfield 160, 3) := by decide +kernel
theorem dX2_keepPlace_33 : decode cX2_keepPlace 33 = .ok (.return_, 1) := by decide +kernel
def F_X2_keepPlace (o : Nat) (o1 : Option Nat) (P : VP) (post : VP → Prop) : Prop :=
  (match o1 with | none => (post P) | some yo1 => (∀ P9 : VP, P9 = vup P 16 yo1 0 (P 1 o 7) → (∀ P17 : VP, P17 = vup P9 16 yo1 1 (P9 1 o 8) → (∀ P25 : VP, P25 = vup P17 16 yo1 2 (P17 1 o 9) → (∀ P30 : VP, P30 = vup P25 16 yo1 4 0 → (post P30))))))
set_option maxRecDepth 4000 in
theorem s_X2_keepPlace {l : Launch} {g : vG} {o : Nat} {o1 : Option Nat} {P Q : VP} {post : VP → Prop} (ho : o < vcnt 1) (ho1 : ∀ x, o1 = some x → x < vcnt 16) (h : F_X2_keepPlace o o1 P post) : VC l g yX2_keepPlace cX2_keepPlace 2 none 0 [vR 1 o, vO 16 o1] (vjn P Q) (vcV Q post) := by
  refine VC.of (by decide +kernel) (Nat.le_of_ble_eq_true rfl) (show VM l g RX2 cX2_keepPlace 2 none 0 (vcV Q post) 0 [(0, vR 1 o), (1, vO 16 o1)] [] (vjn P Q) from ?_)
  unfold F_X2_keepPlace at h
  refine vr_aload_n 1 1 dX2_keepPlace_0 rfl rfl ?_
  rcases o1 with _ | yo1
  · refine vr_ifnullN 33 dX2_keepPlace_1 (by decide) ?_
    exact vr_vret rfl ⟨_, rfl, rfl, h⟩ dX2_keepPlace_33
  · refine vr_ifnullR dX2_keepPlace_1 ?_
    refine vr_aload_n 1 1 dX2_keepPlace_4 rfl rfl ?_
    refine vr_aload_n 0 0 dX2_keepPlace_5 rfl rfl ?_
    refine vg_1_7 RX2 rfl ho fl_2_105 dX2_keepPlace_6 ?_
    obtain ⟨P9, eP9⟩ : ∃ y : VP, y = vup P 16 yo1 0 (P 1 o 7) := ⟨_, rfl⟩
    have h := h P9 eP9
    refine vp_16_0 RX2 rfl (ho1 _ rfl) fl_2_155 eP9 dX2_keepPlace_9 ?_
    refine vr_aload_n 1 1 dX2_keepPlace_12 rfl rfl ?_
    refine vr_aload_n 0 0 dX2_keepPlace_13 rfl rfl ?_
    refine vg_1_8 RX2 rfl ho fl_2_108 dX2_keepPlace_14 ?_
    obtain ⟨P17, eP17⟩ : ∃ y : VP, y = vup P9 16 yo1 1 (P9 1 o 8) := ⟨_, rfl⟩
    have h := h P17 eP17
    refine vp_16_1 RX2 rfl (ho1 _ rfl) fl_2_158 eP17 dX2_keepPlace_17 ?_
    refine vr_aload_n 1 1 dX2_keepPlace_20 rfl rfl ?_
    refine vr_aload_n 0 0 dX2_keepPlace_21 rfl rfl ?_
    refine vg_1_9 RX2 rfl ho fl_2_111 dX2_keepPlace_22 ?_
    obtain ⟨P25, eP25⟩ : ∃ y : VP, y = vup P17 16 yo1 2 (P17 1 o 9) := ⟨_, rfl⟩
    have h := h P25 eP25
    refine vp_16_2 RX2 rfl (ho1 _ rfl) fl_2_159 eP25 dX2_keepPlace_25 ?_
    refine vr_aload_n 1 1 dX2_keepPlace_28 rfl rfl ?_
    refine vr_iconst 0 dX2_keepPlace_29 (by decide) ?_
    obtain ⟨P30, eP30⟩ : ∃ y : VP, y = vup P25 16 yo1 4 0 := ⟨_, rfl⟩
    have h := h P30 eP30
    refine vp_16_4 RX2 rfl (ho1 _ rfl) fl_2_160 (Or.inl rfl) eP30 dX2_keepPlace_30 ?_
    exact vr_vret rfl ⟨_, rfl, rfl, h⟩ dX2_keepPlace_33
theorem dX7_ringIn_0 : decode cX7_ringIn 0 = .ok (.iload_n 0, 1) := by decide +kernel
theorem dX7_ringIn_1 : decode cX7_ringIn 1 = .ok (.bipush 100, 2) := by decide +kernel
theorem dX7_ringIn_3 : decode cX7_ringIn 3 = .ok (.idiv, 1) := by decide +kernel
theorem dX7_ringIn_4 : decode cX7_ringIn 4 = .ok (.bipush 10, 2) := by decide +kernel
theorem dX7_ringIn_6 : decode cX7_ringIn 6 = .ok (.irem, 1) := by decide +kernel
theorem dX7_ringIn_7 : decode cX7_ringIn 7 = .ok (.ireturn, 1) := by decide +kernel
def F_X7_ringIn (x0 : Int32) (P : VP) (post : Int32 → Prop) : Prop :=
  post ((x0 / 100) - (x0 / 100) / 10 * 10)
set_option maxRecDepth 4000 in
theorem s_X7_ringIn {l : Launch} {g : vG} {x0 : Int32} {P Q : VP} {post : Int32 → Prop}  (h : F_X7_ringIn x0 P post) : VC l g yX7_ringIn cX7_ringIn 1 (some .int) 0 [vI x0] (vjn P Q) (vpI (vjn P Q) post) := by
  refine VC.of (by decide +kernel) (Nat.le_of_ble_eq_true rfl) (show VM l g RX7 cX7_ringIn 1 (some .int) 0 (vpI (vjn P Q) post) 0 [(0, vI x0)] [] (vjn P Q) from ?_)
  unfold F_X7_ringIn at h
  refine vr_iload_n 0 0 dX7_ringIn_0 rfl rfl ?_
  refine vr_bipush 100 dX7_ringIn_1 (by decide) ?_
  refine vr_idiv dX7_ringIn_3 (by decide) ?_
  refine vr_bipush 10 dX7_ringIn_4 (by decide) ?_
  refine vr_irem dX7_ringIn_6 (by decide) ?_
  exact vr_iret rfl ⟨rfl, _, rfl, h⟩ dX7_ringIn_7
theorem dX7_segmentIn_0 : decode cX7_segmentIn 0 = .ok (.iload_n 0, 1) := by decide +kernel
theorem dX7_segmentIn_1 : decode cX7_segmentIn 1 = .ok (.sipush 1000, 3) := by decide +kernel
theorem dX7_segmentIn_4 : decode cX7_segmentIn 4 = .ok (.idiv, 1) := by decide +kernel
theorem dX7_segmentIn_5 : decode cX7_segmentIn 5 = .ok (.ireturn, 1) := by decide +kernel
def F_X7_segmentIn (x0 : Int32) (P : VP) (post : Int32 → Prop) : Prop :=
  post (x0 / 1000)
set_option maxRecDepth 4000 in
theorem s_X7_segmentIn {l : Launch} {g : vG} {x0 : Int32} {P Q : VP} {post : Int32 → Prop}  (h : F_X7_segmentIn x0 P post) : VC l g yX7_segmentIn cX7_segmentIn 1 (some .int) 0 [vI x0] (vjn P Q) (vpI (vjn P Q) post) := by
  refine VC.of (by decide +kernel) (Nat.le_of_ble_eq_true rfl) (show VM l g RX7 cX7_segmentIn 1 (some .int) 0 (vpI (vjn P Q) post) 0 [(0, vI x0)] [] (vjn P Q) from ?_)
  unfold F_X7_segmentIn at h
  refine vr_iload_n 0 0 dX7_segmentIn_0 rfl rfl ?_
  refine vr_sipush 1000 dX7_segmentIn_1 (by decide) ?_
  refine vr_idiv dX7_segmentIn_4 (by decide) ?_
  exact vr_iret rfl ⟨rfl, _, rfl, h⟩ dX7_segmentIn_5
theorem dX7_wordIn_0 : decode cX7_wordIn 0 = .ok (.iload_n 0, 1) := by decide +kernel
theorem dX7_wordIn_1 : decode cX7_wordIn 1 = .ok (.bipush 100, 2) := by decide +kernel
theorem dX7_wordIn_3 : decode cX7_wordIn 3 = .ok (.irem, 1) := by decide +kernel
theorem dX7_wordIn_4 : decode cX7_wordIn 4 = .ok (.ireturn, 1) := by decide +kernel
def F_X7_wordIn (x0 : Int32) (P : VP) (post : Int32 → Prop) : Prop :=
  post (x0 - x0 / 100 * 100)
set_option maxRecDepth 4000 in
theorem s_X7_wordIn {l : Launch} {g : vG} {x0 : Int32} {P Q : VP} {post : Int32 → Prop}  (h : F_X7_wordIn x0 P post) : VC l g yX7_wordIn cX7_wordIn 1 (some .int) 0 [vI x0] (vjn P Q) (vpI (vjn P Q) post) := by
  refine VC.of (by decide +kernel) (Nat.le_of_ble_eq_true rfl) (show VM l g RX7 cX7_wordIn 1 (some .int) 0 (vpI (vjn P Q) post) 0 [(0, vI x0)] [] (vjn P Q) from ?_)
  unfold F_X7_wordIn at h
  refine vr_iload_n 0 0 dX7_wordIn_0 rfl rfl ?_
  refine vr_bipush 100 dX7_wordIn_1 (by decide) ?_
  refine vr_irem dX7_wordIn_3 (by decide) ?_
  exact vr_iret rfl ⟨rfl, _, rfl, h⟩ dX7_wordIn_4
theorem dX3_become_0 : decode cX3_become 0 = .ok (.aload_n 0, 1) := by decide +kernel
theorem dX3_become_1 : decode cX3_become 1 = .ok (.iload_n 1, 1) := by decide +kernel
theorem dX3_become_2 : decode cX3_become 2 = .ok (.invokevirtual 25, 3) := by decide +kernel
theorem dX3_become_5 : decode cX3_become 5 = .ok (.ifCond .eq 25, 3) := by decide +kernel
theorem dX3_become_8 : decode cX3_become 8 = .ok (.aload_n 0, 1) := by decide +kernel
theorem dX3_become_9 : decode cX3_become 9 = .ok (.getfield 9, 3) := by decide +kernel
theorem dX3_become_12 : decode cX3_become 12 = .ok (.iload_n 1, 1) := by decide +kernel
theorem dX3_become_13 : decode cX3_become 13 = .ok (.iload_n 2, 1) := by decide +kernel
theorem dX3_become_14 : decode cX3_become 14 = .ok (.iastore, 1) := by decide +kernel
theorem dX3_become_15 : decode cX3_become 15 = .ok (.aload_n 0, 1) := by decide +kernel
theorem dX3_become_16 : decode cX3_become 16 = .ok (.getfield 15, 3) := by decide +kernel
theorem dX3_become_19 : decode cX3_become 19 = .ok (.iload_n 1, 1) := by decide +kernel
theorem dX3_become_20 : decode cX3_become 20 = .ok (.iload_n 3, 1) := by decide +kernel
theorem dX3_become_21 : decode cX3_become 21 = .ok (.iastore, 1) := by decide +kernel
theorem dX3_become_22 : decode cX3_become 22 = .ok (.aload_n 0, 1) := by decide +kernel
theorem dX3_become_23 : decode cX3_become 23 = .ok (.getfield 18, 3) := by decide +kernel
theorem dX3_become_26 : decode cX3_become 26 = .ok (.iload_n 1, 1) := by decide +kernel
theorem dX3_become_27 : decode cX3_become 27 = .ok (.iload 4, 2) := by decide +kernel
theorem dX3_become_29 : decode cX3_become 29 = .ok (.iastore, 1) := by decide +kernel
theorem dX3_become_30 : decode cX3_become 30 = .ok (.return_, 1) := by decide +kernel
def F_X3_become (o : Nat) (x1 : Int32) (x2 : Int32) (x3 : Int32) (x4 : Int32) (P : VP) (post : VP → Prop) : Prop :=
  F_X3_has o x1 P (fun r2 => (r2 = 0 → post P) ∧ (¬ r2 = 0 → (0 ≤ x1 ∧ x1 < 24) ∧ (∀ P14 : VP, P14 = vup P 8 o (ix x1) x2 → ((0 ≤ x1 ∧ x1 < 24) ∧ (∀ P21 : VP, P21 = vup P14 9 o (ix x1) x3 → ((0 ≤ x1 ∧ x1 < 24) ∧ (∀ P29 : VP, P29 = vup P21 10 o (ix x1) x4 → (post P29))))))))
set_option maxRecDepth 4000 in
theorem s_X3_become {l : Launch} {g : vG} {o : Nat} {x1 : Int32} {x2 : Int32} {x3 : Int32} {x4 : Int32} {P Q : VP} {post : VP → Prop} (ho : o < vcnt 7) (h : F_X3_become o x1 x2 x3 x4 P post) : VC l g yX3_become cX3_become 5 none 1 [vR 7 o, vI x1, vI x2, vI x3, vI x4] (vjn P Q) (vcV Q post) := by
  refine VC.of (by decide +kernel) (Nat.le_of_ble_eq_true rfl) (show VM l g RX3 cX3_become 5 none 1 (vcV Q post) 0 [(0, vR 7 o), (1, vI x1), (2, vI x2), (3, vI x3), (4, vI x4)] [] (vjn P Q) from ?_)
  unfold F_X3_become at h
  refine vr_aload_n 0 0 dX3_become_0 rfl rfl ?_
  refine vr_iload_n 1 1 dX3_become_1 rfl rfl ?_
  refine vr_callV RX3 (s_X3_has ho h) rfl ho rfl rfl rfl ml_3_25 rfl yh_X3_has rfl ⟨Nat.le_of_ble_eq_true rfl, Nat.le_of_ble_eq_true rfl⟩ (Nat.le_of_ble_eq_true rfl) ⟨Nat.zero_le _, Nat.zero_le _⟩ dX3_become_2 (ki fun r2 h => ?_)
  refine vr_ifeq 30 dX3_become_5 (by decide) (fun c5 => ?_) (fun c5 => ?_)
  · have h := h.1 c5
    exact vr_vret rfl ⟨_, rfl, rfl, h⟩ dX3_become_30
  · have h := h.2 c5
    refine vr_aload_n 0 0 dX3_become_8 rfl rfl ?_
    refine vg_7_10 RX3 rfl ho fl_3_9 dX3_become_9 ?_
    refine vr_iload_n 1 1 dX3_become_12 rfl rfl ?_
    refine vr_iload_n 2 2 dX3_become_13 rfl rfl ?_
    have hi := h.1
    have h := h.2
    obtain ⟨P14, eP14⟩ : ∃ y : VP, y = vup P 8 o (ix x1) x2 := ⟨_, rfl⟩
    have h := h P14 eP14
    refine vr_iastP 24 (ia_8 (x := o) ho) rfl hi eP14 dX3_become_14 ?_
    refine vr_aload_n 0 0 dX3_become_15 rfl rfl ?_
    refine vg_7_11 RX3 rfl ho fl_3_15 dX3_become_16 ?_
    refine vr_iload_n 1 1 dX3_become_19 rfl rfl ?_
    refine vr_iload_n 3 3 dX3_become_20 rfl rfl ?_
    have hi := h.1
    have h := h.2
    obtain ⟨P21, eP21⟩ : ∃ y : VP, y = vup P14 9 o (ix x1) x3 := ⟨_, rfl⟩
    have h := h P21 eP21
    refine vr_iastP 24 (ia_9 (x := o) ho) rfl hi eP21 dX3_become_21 ?_
    refine vr_aload_n 0 0 dX3_become_22 rfl rfl ?_
    refine vg_7_12 RX3 rfl ho fl_3_18 dX3_become_23 ?_
    refine vr_iload_n 1 1 dX3_become_26 rfl rfl ?_
    refine vr_iload 4 dX3_become_27 rfl ?_
    have hi := h.1
    have h := h.2
    obtain ⟨P29, eP29⟩ : ∃ y : VP, y = vup P21 10 o (ix x1) x4 := ⟨_, rfl⟩
    have h := h P29 eP29
    refine vr_iastP 24 (ia_10 (x := o) ho) rfl hi eP29 dX3_become_29 ?_
    exact vr_vret rfl ⟨_, rfl, rfl, h⟩ dX3_become_30
theorem dX3_letsRead_0 : decode cX3_letsRead 0 = .ok (.aload_n 0, 1) := by decide +kernel
theorem dX3_letsRead_1 : decode cX3_letsRead 1 = .ok (.getfield 29, 3) := by decide +kernel
theorem dX3_letsRead_4 : decode cX3_letsRead 4 = .ok (.iconst 1, 1) := by decide +kernel
theorem dX3_letsRead_5 : decode cX3_letsRead 5 = .ok (.iand, 1) := by decide +kernel
theorem dX3_letsRead_6 : decode cX3_letsRead 6 = .ok (.ifCond .eq 15, 3) := by decide +kernel
theorem dX3_letsRead_9 : decode cX3_letsRead 9 = .ok (.iload_n 1, 1) := by decide +kernel
theorem dX3_letsRead_10 : decode cX3_letsRead 10 = .ok (.aload_n 0, 1) := by decide +kernel
theorem dX3_letsRead_11 : decode cX3_letsRead 11 = .ok (.getfield 32, 3) := by decide +kernel
theorem dX3_letsRead_14 : decode cX3_letsRead 14 = .ok (.if_icmp .gt 7, 3) := by decide +kernel
theorem dX3_letsRead_17 : decode cX3_letsRead 17 = .ok (.iconst 1, 1) := by decide +kernel
theorem dX3_letsRead_18 : decode cX3_letsRead 18 = .ok (.goto 4, 3) := by decide +kernel
theorem dX3_letsRead_21 : decode cX3_letsRead 21 = .ok (.iconst 0, 1) := by decide +kernel
theorem dX3_letsRead_22 : decode cX3_letsRead 22 = .ok (.ireturn, 1) := by decide +kernel
def F_X3_letsRead (o : Nat) (x1 : Int32) (P : VP) (post : Int32 → Prop) : Prop :=
  ((P 7 o 8) &&& 1 = 0 → post ((0 : Int32))) ∧ (¬ (P 7 o 8) &&& 1 = 0 → (P 7 o 6 < x1 → post ((0 : Int32))) ∧ (¬ P 7 o 6 < x1 → post ((1 : Int32))))
set_option maxRecDepth 4000 in
theorem s_X3_letsRead {l : Launch} {g : vG} {o : Nat} {x1 : Int32} {P Q : VP} {post : Int32 → Prop} (ho : o < vcnt 7) (h : F_X3_letsRead o x1 P post) : VC l g yX3_letsRead cX3_letsRead 2 (some .boolean) 0 [vR 7 o, vI x1] (vjn P Q) (vpI (vjn P Q) post) := by
  refine VC.of (by decide +kernel) (Nat.le_of_ble_eq_true rfl) (show VM l g RX3 cX3_letsRead 2 (some .boolean) 0 (vpI (vjn P Q) post) 0 [(0, vR 7 o), (1, vI x1)] [] (vjn P Q) from ?_)
  unfold F_X3_letsRead at h
  refine vr_aload_n 0 0 dX3_letsRead_0 rfl rfl ?_
  refine vg_7_8 RX3 rfl ho fl_3_29 dX3_letsRead_1 ?_
  refine vr_iconst 1 dX3_letsRead_4 (by decide) ?_
  refine vr_iand dX3_letsRead_5 ?_
  refine vr_ifeq 21 dX3_letsRead_6 (by decide) (fun c6 => ?_) (fun c6 => ?_)
  · have h := h.1 c6
    refine vr_iconst 0 dX3_letsRead_21 (by decide) ?_
    exact vr_zret rfl (Or.inl rfl) ⟨rfl, _, rfl, h⟩ dX3_letsRead_22
  · have h := h.2 c6
    refine vr_iload_n 1 1 dX3_letsRead_9 rfl rfl ?_
    refine vr_aload_n 0 0 dX3_letsRead_10 rfl rfl ?_
    refine vg_7_6 RX3 rfl ho fl_3_32 dX3_letsRead_11 ?_
    refine vr_icmpgt 21 dX3_letsRead_14 (by decide) (fun c14 => ?_) (fun c14 => ?_)
    · have h := h.1 c14
      refine vr_iconst 0 dX3_letsRead_21 (by decide) ?_
      exact vr_zret rfl (Or.inl rfl) ⟨rfl, _, rfl, h⟩ dX3_letsRead_22
    · have h := h.2 c14
      refine vr_iconst 1 dX3_letsRead_17 (by decide) ?_
      refine vr_goto 22 dX3_letsRead_18 (by decide) ?_
      exact vr_zret rfl (Or.inr rfl) ⟨rfl, _, rfl, h⟩ dX3_letsRead_22
theorem dX6_named_0 : decode cX6_named 0 = .ok (.iconst 0, 1) := by decide +kernel
theorem dX6_named_1 : decode cX6_named 1 = .ok (.istore_n 3, 1) := by decide +kernel
theorem dX6_named_2 : decode cX6_named 2 = .ok (.iload_n 3, 1) := by decide +kernel
theorem dX6_named_3 : decode cX6_named 3 = .ok (.aload_n 0, 1) := by decide +kernel
theorem dX6_named_4 : decode cX6_named 4 = .ok (.getfield 27, 3) := by decide +kernel
theorem dX6_named_7 : decode cX6_named 7 = .ok (.arraylength, 1) := by decide +kernel
theorem dX6_named_8 : decode cX6_named 8 = .ok (.if_icmp .ge 50, 3) := by decide +kernel
theorem dX6_named_11 : decode cX6_named 11 = .ok (.aload_n 0, 1) := by decide +kernel
theorem dX6_named_12 : decode cX6_named 12 = .ok (.getfield 27, 3) := by decide +kernel
theorem dX6_named_15 : decode cX6_named 15 = .ok (.iload_n 3, 1) := by decide +kernel
theorem dX6_named_16 : decode cX6_named 16 = .ok (.aaload, 1) := by decide +kernel
theorem dX6_named_17 : decode cX6_named 17 = .ok (.astore 4, 2) := by decide +kernel
theorem dX6_named_19 : decode cX6_named 19 = .ok (.aload 4, 2) := by decide +kernel
theorem dX6_named_21 : decode cX6_named 21 = .ok (.ifnull 31, 3) := by decide +kernel
theorem dX6_named_24 : decode cX6_named 24 = .ok (.aload 4, 2) := by decide +kernel
theorem dX6_named_26 : decode cX6_named 26 = .ok (.getfield 39, 3) := by decide +kernel
theorem dX6_named_29 : decode cX6_named 29 = .ok (.ifCond .eq 23, 3) := by decide +kernel
theorem dX6_named_32 : decode cX6_named 32 = .ok (.aload 4, 2) := by decide +kernel
theorem dX6_named_34 : decode cX6_named 34 = .ok (.getfield 46, 3) := by decide +kernel
theorem dX6_named_37 : decode cX6_named 37 = .ok (.iload_n 1, 1) := by decide +kernel
theorem dX6_named_38 : decode cX6_named 38 = .ok (.if_icmp .ne 14, 3) := by decide +kernel
theorem dX6_named_41 : decode cX6_named 41 = .ok (.aload 4, 2) := by decide +kernel
theorem dX6_named_43 : decode cX6_named 43 = .ok (.getfield 49, 3) := by decide +kernel
theorem dX6_named_46 : decode cX6_named 46 = .ok (.iload_n 2, 1) := by decide +kernel
theorem dX6_named_47 : decode cX6_named 47 = .ok (.if_icmp .ne 5, 3) := by decide +kernel
theorem dX6_named_50 : decode cX6_named 50 = .ok (.iload_n 3, 1) := by decide +kernel
theorem dX6_named_51 : decode cX6_named 51 = .ok (.ireturn, 1) := by decide +kernel
theorem dX6_named_52 : decode cX6_named 52 = .ok (.iinc 3 1, 3) := by decide +kernel
theorem dX6_named_55 : decode cX6_named 55 = .ok (.goto (-53), 3) := by decide +kernel
theorem dX6_named_58 : decode cX6_named 58 = .ok (.iconst (-1), 1) := by decide +kernel
theorem dX6_named_59 : decode cX6_named 59 = .ok (.ireturn, 1) := by decide +kernel
def F_X6_named_l2 (o : Nat) (x1 : Int32) (x2 : Int32) (P : VP) (post : Int32 → Prop)   (X : Int32 → Prop) (v3 : Int32) : Prop :=
  (v3 < 16 → (0 ≤ v3 ∧ v3 < 16) ∧ ((P 7 ((16 * o + ix v3)) 0 = 0 → X (v3 + 1)) ∧ (¬ P 7 ((16 * o + ix v3)) 0 = 0 → (P 7 ((16 * o + ix v3)) 1 = x1 → (P 7 ((16 * o + ix v3)) 2 = x2 → post v3) ∧ (¬ P 7 ((16 * o + ix v3)) 2 = x2 → X (v3 + 1))) ∧ (¬ P 7 ((16 * o + ix v3)) 1 = x1 → X (v3 + 1))))) ∧ (¬ v3 < 16 → post (((-1) : Int32)))
set_option maxRecDepth 4000 in
theorem s_X6_named_l2 {l : Launch} {g : vG} {o : Nat} {x1 : Int32} {x2 : Int32} {P Q : VP} {post : Int32 → Prop}    {v3 : Int32} (ho : o < vcnt 2)  (h : vL1 (F_X6_named_l2 o x1 x2 P post  ) v3) : VM l g RX6 cX6_named 5 (some .int) 0 (vpI (vjn P Q) post) 2 [(0, vR 2 o), (1, vI x1), (2, vI x2), (3, vI v3)] [] (vjn P Q) := by
  refine vL1_s (T := fun v3 => VM l g RX6 cX6_named 5 (some .int) 0 (vpI (vjn P Q) post) 2 [(0, vR 2 o), (1, vI x1), (2, vI x2), (3, vI v3)] [] (vjn P Q)) ?_ h
  clear h
  intro X hX v3 h
  unfold F_X6_named_l2 at h
  refine vr_iload_n 3 3 dX6_named_2 rfl rfl ?_
  refine vr_aload_n 0 0 dX6_named_3 rfl rfl ?_
  refine vg_2_6 RX6 rfl ho fl_6_27 dX6_named_4 ?_
  refine vl_6 ho dX6_named_7 ?_
  refine vr_icmpge 58 dX6_named_8 (by decide) (fun c8 => ?_) (fun c8 => ?_)
  · have h := h.1 c8
    refine vr_aload_n 0 0 dX6_named_11 rfl rfl ?_
    refine vg_2_6 RX6 rfl ho fl_6_27 dX6_named_12 ?_
    refine vr_iload_n 3 3 dX6_named_15 rfl rfl ?_
    have hi := h.1
    have h := h.2
    refine vq_6 ho hi dX6_named_16 (fun hq16 => ?_)
    refine vr_astore [(4, vR 7 ((16 * o + ix v3))), (0, vR 2 o), (1, vI x1), (2, vI x2), (3, vI v3)] dX6_named_17 (by decide) rfl ?_
    refine vr_aload 0 dX6_named_19 rfl ?_
    refine vr_ifnullR dX6_named_21 ?_
    refine vr_aload 0 dX6_named_24 rfl ?_
    refine vg_7_0 RX6 rfl hq16 fl_6_39 dX6_named_26 ?_
    refine vr_ifeq 52 dX6_named_29 (by decide) (fun c29 => ?_) (fun c29 => ?_)
    · have h := h.1 c29
      refine vr_iinc (v3 + 1) 4 [(3, vI (v3 + 1)), (4, vR 7 ((16 * o + ix v3))), (0, vR 2 o), (1, vI x1), (2, vI x2)] dX6_named_52 rfl rfl (by decide) rfl ?_
      refine vr_goto 2 dX6_named_55 (by decide) ?_
      refine vr_sub [2, 3, 4, 0] [(0, vR 2 o), (1, vI x1), (2, vI x2), (3, vI (v3 + 1))] rfl ?_
      exact hX _ h
    · have h := h.2 c29
      refine vr_aload 0 dX6_named_32 rfl ?_
      refine vg_7_1 RX6 rfl hq16 fl_6_46 dX6_named_34 ?_
      refine vr_iload_n 1 2 dX6_named_37 rfl rfl ?_
      refine vr_icmpne 52 dX6_named_38 (by decide) (fun c38 => ?_) (fun c38 => ?_)
      · have h := h.1 c38
        refine vr_aload 0 dX6_named_41 rfl ?_
        refine vg_7_2 RX6 rfl hq16 fl_6_49 dX6_named_43 ?_
        refine vr_iload_n 2 3 dX6_named_46 rfl rfl ?_
        refine vr_icmpne 52 dX6_named_47 (by decide) (fun c47 => ?_) (fun c47 => ?_)
        · have h := h.1 c47
          refine vr_iload_n 3 4 dX6_named_50 rfl rfl ?_
          exact vr_iret rfl ⟨rfl, _, rfl, h⟩ dX6_named_51
        · have h := h.2 c47
          refine vr_iinc (v3 + 1) 4 [(3, vI (v3 + 1)), (4, vR 7 ((16 * o + ix v3))), (0, vR 2 o), (1, vI x1), (2, vI x2)] dX6_named_52 rfl rfl (by decide) rfl ?_
          refine vr_goto 2 dX6_named_55 (by decide) ?_
          refine vr_sub [2, 3, 4, 0] [(0, vR 2 o), (1, vI x1), (2, vI x2), (3, vI (v3 + 1))] rfl ?_
          exact hX _ h
      · have h := h.2 c38
        refine vr_iinc (v3 + 1) 4 [(3, vI (v3 + 1)), (4, vR 7 ((16 * o + ix v3))), (0, vR 2 o), (1, vI x1), (2, vI x2)] dX6_named_52 rfl rfl (by decide) rfl ?_
        refine vr_goto 2 dX6_named_55 (by decide) ?_
        refine vr_sub [2, 3, 4, 0] [(0, vR 2 o), (1, vI x1), (2, vI x2), (3, vI (v3 + 1))] rfl ?_
        exact hX _ h
  · have h := h.2 c8
    refine vr_iconst (-1) dX6_named_58 (by decide) ?_
    exact vr_iret rfl ⟨rfl, _, rfl, h⟩ dX6_named_59
def F_X6_named (o : Nat) (x1 : Int32) (x2 : Int32) (P : VP) (post : Int32 → Prop) : Prop :=
  vL1 (F_X6_named_l2 o x1 x2 P post  ) ((0 : Int32))
set_option maxRecDepth 4000 in
theorem s_X6_named {l : Launch} {g : vG} {o : Nat} {x1 : Int32} {x2 : Int32} {P Q : VP} {post : Int32 → Prop} (ho : o < vcnt 2) (h : F_X6_named o x1 x2 P post) : VC l g yX6_named cX6_named 5 (some .int) 0 [vR 2 o, vI x1, vI x2] (vjn P Q) (vpI (vjn P Q) post) := by
  refine VC.of (by decide +kernel) (Nat.le_of_ble_eq_true rfl) (show VM l g RX6 cX6_named 5 (some .int) 0 (vpI (vjn P Q) post) 0 [(0, vR 2 o), (1, vI x1), (2, vI x2)] [] (vjn P Q) from ?_)
  unfold F_X6_named at h
  refine vr_iconst 0 dX6_named_0 (by decide) ?_
  refine vr_istore_n 3 [(3, vI 0), (0, vR 2 o), (1, vI x1), (2, vI x2)] dX6_named_1 rfl (by decide) rfl ?_
  refine vr_sub [1, 2, 3, 0] [(0, vR 2 o), (1, vI x1), (2, vI x2), (3, vI 0)] rfl ?_
  exact s_X6_named_l2 ho  h
theorem dX6_seek_0 : decode cX6_seek 0 = .ok (.aload_n 0, 1) := by decide +kernel
theorem dX6_seek_1 : decode cX6_seek 1 = .ok (.aload_n 1, 1) := by decide +kernel
theorem dX6_seek_2 : decode cX6_seek 2 = .ok (.getfield 46, 3) := by decide +kernel
theorem dX6_seek_5 : decode cX6_seek 5 = .ok (.iload_n 2, 1) := by decide +kernel
theorem dX6_seek_6 : decode cX6_seek 6 = .ok (.invokevirtual 102, 3) := by decide +kernel
theorem dX6_seek_9 : decode cX6_seek 9 = .ok (.istore_n 3, 1) := by decide +kernel
theorem dX6_seek_10 : decode cX6_seek 10 = .ok (.iconst 0, 1) := by decide +kernel
theorem dX6_seek_11 : decode cX6_seek 11 = .ok (.istore 4, 2) := by decide +kernel
theorem dX6_seek_13 : decode cX6_seek 13 = .ok (.iload_n 3, 1) := by decide +kernel
theorem dX6_seek_14 : decode cX6_seek 14 = .ok (.ifCond .ge 41, 3) := by decide +kernel
theorem dX6_seek_17 : decode cX6_seek 17 = .ok (.iload 4, 2) := by decide +kernel
theorem dX6_seek_19 : decode cX6_seek 19 = .ok (.aload_n 0, 1) := by decide +kernel
theorem dX6_seek_20 : decode cX6_seek 20 = .ok (.getfield 36, 3) := by decide +kernel
theorem dX6_seek_23 : decode cX6_seek 23 = .ok (.if_icmp .ge 32, 3) := by decide +kernel
theorem dX6_seek_26 : decode cX6_seek 26 = .ok (.iload 4, 2) := by decide +kernel
theorem dX6_seek_28 : decode cX6_seek 28 = .ok (.aload_n 0, 1) := by decide +kernel
theorem dX6_seek_29 : decode cX6_seek 29 = .ok (.getfield 22, 3) := by decide +kernel
theorem dX6_seek_32 : decode cX6_seek 32 = .ok (.arraylength, 1) := by decide +kernel
theorem dX6_seek_33 : decode cX6_seek 33 = .ok (.if_icmp .ge 22, 3) := by decide +kernel
theorem dX6_seek_36 : decode cX6_seek 36 = .ok (.aload_n 0, 1) := by decide +kernel
theorem dX6_seek_37 : decode cX6_seek 37 = .ok (.aload_n 0, 1) := by decide +kernel
theorem dX6_seek_38 : decode cX6_seek 38 = .ok (.getfield 22, 3) := by decide +kernel
theorem dX6_seek_41 : decode cX6_seek 41 = .ok (.iload 4, 2) := by decide +kernel
theorem dX6_seek_43 : decode cX6_seek 43 = .ok (.iaload, 1) := by decide +kernel
theorem dX6_seek_44 : decode cX6_seek 44 = .ok (.iload_n 2, 1) := by decide +kernel
theorem dX6_seek_45 : decode cX6_seek 45 = .ok (.invokevirtual 102, 3) := by decide +kernel
theorem dX6_seek_48 : decode cX6_seek 48 = .ok (.istore_n 3, 1) := by decide +kernel
theorem dX6_seek_49 : decode cX6_seek 49 = .ok (.iinc 4 1, 3) := by decide +kernel
theorem dX6_seek_52 : decode cX6_seek 52 = .ok (.goto (-39), 3) := by decide +kernel
theorem dX6_seek_55 : decode cX6_seek 55 = .ok (.iload_n 3, 1) := by decide +kernel
theorem dX6_seek_56 : decode cX6_seek 56 = .ok (.ireturn, 1) := by decide +kernel
def F_X6_seek_l13 (o : Nat) (y1 : Nat) (x2 : Int32) (P : VP) (post : Int32 → Prop)   (X : Int32 → Int32 → Prop) (v3 : Int32) (v4 : Int32) : Prop :=
  (v3 < 0 → (v4 < P 2 o 3 → (v4 < 4 → (0 ≤ v4 ∧ v4 < 4) ∧ (F_X6_named o (P 5 o (ix v4)) x2 P (fun r45 => X r45 (v4 + 1)))) ∧ (¬ v4 < 4 → post v3)) ∧ (¬ v4 < P 2 o 3 → post v3)) ∧ (¬ v3 < 0 → post v3)
set_option maxRecDepth 4000 in
theorem s_X6_seek_l13 {l : Launch} {g : vG} {o : Nat} {y1 : Nat} {x2 : Int32} {P Q : VP} {post : Int32 → Prop}    {v3 : Int32} {v4 : Int32} (ho : o < vcnt 2) (hy1 : y1 < vcnt 7)  (h : vL2 (F_X6_seek_l13 o y1 x2 P post  ) v3 v4) : VM l g RX6 cX6_seek 5 (some .int) 1 (vpI (vjn P Q) post) 13 [(0, vR 2 o), (2, vI x2), (3, vI v3), (4, vI v4)] [] (vjn P Q) := by
  refine vL2_s (T := fun v3 v4 => VM l g RX6 cX6_seek 5 (some .int) 1 (vpI (vjn P Q) post) 13 [(0, vR 2 o), (2, vI x2), (3, vI v3), (4, vI v4)] [] (vjn P Q)) ?_ h
  clear h
  intro X hX v3 v4 h
  unfold F_X6_seek_l13 at h
  refine vr_iload_n 3 2 dX6_seek_13 rfl rfl ?_
  refine vr_ifge 55 dX6_seek_14 (by decide) (fun c14 => ?_) (fun c14 => ?_)
  · have h := h.1 c14
    refine vr_iload 3 dX6_seek_17 rfl ?_
    refine vr_aload_n 0 0 dX6_seek_19 rfl rfl ?_
    refine vg_2_3 RX6 rfl ho fl_6_36 dX6_seek_20 ?_
    refine vr_icmpge 55 dX6_seek_23 (by decide) (fun c23 => ?_) (fun c23 => ?_)
    · have h := h.1 c23
      refine vr_iload 3 dX6_seek_26 rfl ?_
      refine vr_aload_n 0 0 dX6_seek_28 rfl rfl ?_
      refine vg_2_4 RX6 rfl ho fl_6_22 dX6_seek_29 ?_
      refine vr_alen 4 ((ia_5 (x := o) ho)).2.1 ((ia_5 (x := o) ho)).1 rfl dX6_seek_32 ?_
      refine vr_icmpge 55 dX6_seek_33 (by decide) (fun c33 => ?_) (fun c33 => ?_)
      · have h := h.1 c33
        refine vr_aload_n 0 0 dX6_seek_36 rfl rfl ?_
        refine vr_aload_n 0 0 dX6_seek_37 rfl rfl ?_
        refine vg_2_4 RX6 rfl ho fl_6_22 dX6_seek_38 ?_
        refine vr_iload 3 dX6_seek_41 rfl ?_
        have hi := h.1
        have h := h.2
        refine vr_ialdP 4 (ia_5 (x := o) ho) rfl hi dX6_seek_43 ?_
        refine vr_iload_n 2 1 dX6_seek_44 rfl rfl ?_
        refine vr_callV RX6 (s_X6_named ho h) rfl ho rfl rfl rfl ml_6_102 rfl yh_X6_named rfl ⟨Nat.le_of_ble_eq_true rfl, Nat.le_of_ble_eq_true rfl⟩ (Nat.le_of_ble_eq_true rfl) ⟨Nat.zero_le _, Nat.zero_le _⟩ dX6_seek_45 (ki fun r45 h => ?_)
        refine vr_istore_n 3 [(3, vI r45), (0, vR 2 o), (2, vI x2), (4, vI v4)] dX6_seek_48 rfl (by decide) rfl ?_
        refine vr_iinc (v4 + 1) 3 [(4, vI (v4 + 1)), (3, vI r45), (0, vR 2 o), (2, vI x2)] dX6_seek_49 rfl rfl (by decide) rfl ?_
        refine vr_goto 13 dX6_seek_52 (by decide) ?_
        refine vr_sub [2, 3, 1, 0] [(0, vR 2 o), (2, vI x2), (3, vI r45), (4, vI (v4 + 1))] rfl ?_
        exact hX _ _ h
      · have h := h.2 c33
        refine vr_iload_n 3 2 dX6_seek_55 rfl rfl ?_
        exact vr_iret rfl ⟨rfl, _, rfl, h⟩ dX6_seek_56
    · have h := h.2 c23
      refine vr_iload_n 3 2 dX6_seek_55 rfl rfl ?_
      exact vr_iret rfl ⟨rfl, _, rfl, h⟩ dX6_seek_56
  · have h := h.2 c14
    refine vr_iload_n 3 2 dX6_seek_55 rfl rfl ?_
    exact vr_iret rfl ⟨rfl, _, rfl, h⟩ dX6_seek_56
def F_X6_seek (o : Nat) (y1 : Nat) (x2 : Int32) (P : VP) (post : Int32 → Prop) : Prop :=
  F_X6_named o (P 7 y1 1) x2 P (fun r6 => vL2 (F_X6_seek_l13 o y1 x2 P post  ) r6 ((0 : Int32)))
set_option maxRecDepth 4000 in
theorem s_X6_seek {l : Launch} {g : vG} {o : Nat} {y1 : Nat} {x2 : Int32} {P Q : VP} {post : Int32 → Prop} (ho : o < vcnt 2) (hy1 : y1 < vcnt 7) (h : F_X6_seek o y1 x2 P post) : VC l g yX6_seek cX6_seek 5 (some .int) 1 [vR 2 o, vR 7 y1, vI x2] (vjn P Q) (vpI (vjn P Q) post) := by
  refine VC.of (by decide +kernel) (Nat.le_of_ble_eq_true rfl) (show VM l g RX6 cX6_seek 5 (some .int) 1 (vpI (vjn P Q) post) 0 [(0, vR 2 o), (1, vR 7 y1), (2, vI x2)] [] (vjn P Q) from ?_)
  unfold F_X6_seek at h
  refine vr_aload_n 0 0 dX6_seek_0 rfl rfl ?_
  refine vr_aload_n 1 1 dX6_seek_1 rfl rfl ?_
  refine vg_7_1 RX6 rfl hy1 fl_6_46 dX6_seek_2 ?_
  refine vr_iload_n 2 2 dX6_seek_5 rfl rfl ?_
  refine vr_callV RX6 (s_X6_named ho h) rfl ho rfl rfl rfl ml_6_102 rfl yh_X6_named rfl ⟨Nat.le_of_ble_eq_true rfl, Nat.le_of_ble_eq_true rfl⟩ (Nat.le_of_ble_eq_true rfl) ⟨Nat.zero_le _, Nat.zero_le _⟩ dX6_seek_6 (ki fun r6 h => ?_)
  refine vr_istore_n 3 [(3, vI r6), (0, vR 2 o), (1, vR 7 y1), (2, vI x2)] dX6_seek_9 rfl (by decide) rfl ?_
  refine vr_iconst 0 dX6_seek_10 (by decide) ?_
  refine vr_istore [(4, vI 0), (3, vI r6), (0, vR 2 o), (1, vR 7 y1), (2, vI x2)] dX6_seek_11 (by decide) rfl ?_
  refine vr_sub [2, 4, 1, 0] [(0, vR 2 o), (2, vI x2), (3, vI r6), (4, vI 0)] rfl ?_
  exact s_X6_seek_l13 ho hy1  h
theorem dX2_goThrough_0 : decode cX2_goThrough 0 = .ok (.aload_n 1, 1) := by decide +kernel
theorem dX2_goThrough_1 : decode cX2_goThrough 1 = .ok (.aload_n 0, 1) := by decide +kernel
theorem dX2_goThrough_2 : decode cX2_goThrough 2 = .ok (.getfield 111, 3) := by decide +kernel
theorem dX2_goThrough_5 : decode cX2_goThrough 5 = .ok (.invokevirtual 194, 3) := by decide +kernel
theorem dX2_goThrough_8 : decode cX2_goThrough 8 = .ok (.ifCond .ne 6, 3) := by decide +kernel
theorem dX2_goThrough_11 : decode cX2_goThrough 11 = .ok (.bipush (-22), 2) := by decide +kernel
theorem dX2_goThrough_13 : decode cX2_goThrough 13 = .ok (.ireturn, 1) := by decide +kernel
theorem dX2_goThrough_14 : decode cX2_goThrough 14 = .ok (.iload_n 2, 1) := by decide +kernel
theorem dX2_goThrough_15 : decode cX2_goThrough 15 = .ok (.ifCond .ne 6, 3) := by decide +kernel
theorem dX2_goThrough_18 : decode cX2_goThrough 18 = .ok (.bipush (-23), 2) := by decide +kernel
theorem dX2_goThrough_20 : decode cX2_goThrough 20 = .ok (.ireturn, 1) := by decide +kernel
theorem dX2_goThrough_21 : decode cX2_goThrough 21 = .ok (.iload_n 2, 1) := by decide +kernel
theorem dX2_goThrough_22 : decode cX2_goThrough 22 = .ok (.iconst 1, 1) := by decide +kernel
theorem dX2_goThrough_23 : decode cX2_goThrough 23 = .ok (.if_icmp .eq 9, 3) := by decide +kernel
theorem dX2_goThrough_26 : decode cX2_goThrough 26 = .ok (.iload_n 2, 1) := by decide +kernel
theorem dX2_goThrough_27 : decode cX2_goThrough 27 = .ok (.bipush 6, 2) := by decide +kernel
theorem dX2_goThrough_29 : decode cX2_goThrough 29 = .ok (.if_icmp .ne 6, 3) := by decide +kernel
theorem dX2_goThrough_32 : decode cX2_goThrough 32 = .ok (.bipush (-24), 2) := by decide +kernel
theorem dX2_goThrough_34 : decode cX2_goThrough 34 = .ok (.ireturn, 1) := by decide +kernel
theorem dX2_goThrough_35 : decode cX2_goThrough 35 = .ok (.aload_n 1, 1) := by decide +kernel
theorem dX2_goThrough_36 : decode cX2_goThrough 36 = .ok (.aload_n 0, 1) := by decide +kernel
theorem dX2_goThrough_37 : decode cX2_goThrough 37 = .ok (.getfield 108, 3) := by decide +kernel
theorem dX2_goThrough_40 : decode cX2_goThrough 40 = .ok (.invokevirtual 76, 3) := by decide +kernel
theorem dX2_goThrough_43 : decode cX2_goThrough 43 = .ok (.istore 4, 2) := by decide +kernel
theorem dX2_goThrough_45 : decode cX2_goThrough 45 = .ok (.iload_n 2, 1) := by decide +kernel
theorem dX2_goThrough_46 : decode cX2_goThrough 46 = .ok (.iconst 4, 1) := by decide +kernel
theorem dX2_goThrough_47 : decode cX2_goThrough 47 = .ok (.if_icmp .ne 69, 3) := by decide +kernel
theorem dX2_goThrough_50 : decode cX2_goThrough 50 = .ok (.iload 4, 2) := by decide +kernel
theorem dX2_goThrough_52 : decode cX2_goThrough 52 = .ok (.istore 5, 2) := by decide +kernel
theorem dX2_goThrough_54 : decode cX2_goThrough 54 = .ok (.aload_n 0, 1) := by decide +kernel
theorem dX2_goThrough_55 : decode cX2_goThrough 55 = .ok (.getfield 12, 3) := by decide +kernel
theorem dX2_goThrough_58 : decode cX2_goThrough 58 = .ok (.aload_n 1, 1) := by decide +kernel
theorem dX2_goThrough_59 : decode cX2_goThrough 59 = .ok (.iload 5, 2) := by decide +kernel
theorem dX2_goThrough_61 : decode cX2_goThrough 61 = .ok (.bipush 100, 2) := by decide +kernel
theorem dX2_goThrough_63 : decode cX2_goThrough 63 = .ok (.idiv, 1) := by decide +kernel
theorem dX2_goThrough_64 : decode cX2_goThrough 64 = .ok (.invokevirtual 197, 3) := by decide +kernel
theorem dX2_goThrough_67 : decode cX2_goThrough 67 = .ok (.istore 6, 2) := by decide +kernel
theorem dX2_goThrough_69 : decode cX2_goThrough 69 = .ok (.iload 6, 2) := by decide +kernel
theorem dX2_goThrough_71 : decode cX2_goThrough 71 = .ok (.ifCond .ge 6, 3) := by decide +kernel
theorem dX2_goThrough_74 : decode cX2_goThrough 74 = .ok (.bipush (-26), 2) := by decide +kernel
theorem dX2_goThrough_76 : decode cX2_goThrough 76 = .ok (.ireturn, 1) := by decide +kernel
theorem dX2_goThrough_77 : decode cX2_goThrough 77 = .ok (.sipush 1000, 3) := by decide +kernel
theorem dX2_goThrough_80 : decode cX2_goThrough 80 = .ok (.iload 6, 2) := by decide +kernel
theorem dX2_goThrough_82 : decode cX2_goThrough 82 = .ok (.imul, 1) := by decide +kernel
theorem dX2_goThrough_83 : decode cX2_goThrough 83 = .ok (.bipush 100, 2) := by decide +kernel
theorem dX2_goThrough_85 : decode cX2_goThrough 85 = .ok (.aload_n 0, 1) := by decide +kernel
theorem dX2_goThrough_86 : decode cX2_goThrough 86 = .ok (.getfield 111, 3) := by decide +kernel
theorem dX2_goThrough_89 : decode cX2_goThrough 89 = .ok (.imul, 1) := by decide +kernel
theorem dX2_goThrough_90 : decode cX2_goThrough 90 = .ok (.iadd, 1) := by decide +kernel
theorem dX2_goThrough_91 : decode cX2_goThrough 91 = .ok (.iload 5, 2) := by decide +kernel
theorem dX2_goThrough_93 : decode cX2_goThrough 93 = .ok (.bipush 100, 2) := by decide +kernel
theorem dX2_goThrough_95 : decode cX2_goThrough 95 = .ok (.irem, 1) := by decide +kernel
theorem dX2_goThrough_96 : decode cX2_goThrough 96 = .ok (.iadd, 1) := by decide +kernel
theorem dX2_goThrough_97 : decode cX2_goThrough 97 = .ok (.istore 4, 2) := by decide +kernel
theorem dX2_goThrough_99 : decode cX2_goThrough 99 = .ok (.iload_n 3, 1) := by decide +kernel
theorem dX2_goThrough_100 : decode cX2_goThrough 100 = .ok (.ifCond .eq 16, 3) := by decide +kernel
theorem dX2_goThrough_103 : decode cX2_goThrough 103 = .ok (.aload_n 1, 1) := by decide +kernel
theorem dX2_goThrough_104 : decode cX2_goThrough 104 = .ok (.aload_n 0, 1) := by decide +kernel
theorem dX2_goThrough_105 : decode cX2_goThrough 105 = .ok (.getfield 108, 3) := by decide +kernel
theorem dX2_goThrough_108 : decode cX2_goThrough 108 = .ok (.iconst 5, 1) := by decide +kernel
theorem dX2_goThrough_109 : decode cX2_goThrough 109 = .ok (.iload 4, 2) := by decide +kernel
theorem dX2_goThrough_111 : decode cX2_goThrough 111 = .ok (.iload 5, 2) := by decide +kernel
theorem dX2_goThrough_113 : decode cX2_goThrough 113 = .ok (.invokevirtual 201, 3) := by decide +kernel
theorem dX2_goThrough_116 : decode cX2_goThrough 116 = .ok (.aload_n 0, 1) := by decide +kernel
theorem dX2_goThrough_117 : decode cX2_goThrough 117 = .ok (.iload 4, 2) := by decide +kernel
theorem dX2_goThrough_119 : decode cX2_goThrough 119 = .ok (.invokestatic 205, 3) := by decide +kernel
theorem dX2_goThrough_122 : decode cX2_goThrough 122 = .ok (.putfield 105, 3) := by decide +kernel
theorem dX2_goThrough_125 : decode cX2_goThrough 125 = .ok (.aload_n 0, 1) := by decide +kernel
theorem dX2_goThrough_126 : decode cX2_goThrough 126 = .ok (.iload 4, 2) := by decide +kernel
theorem dX2_goThrough_128 : decode cX2_goThrough 128 = .ok (.invokestatic 208, 3) := by decide +kernel
theorem dX2_goThrough_131 : decode cX2_goThrough 131 = .ok (.putfield 108, 3) := by decide +kernel
theorem dX2_goThrough_134 : decode cX2_goThrough 134 = .ok (.aload_n 0, 1) := by decide +kernel
theorem dX2_goThrough_135 : decode cX2_goThrough 135 = .ok (.aload_n 0, 1) := by decide +kernel
theorem dX2_goThrough_136 : decode cX2_goThrough 136 = .ok (.getfield 111, 3) := by decide +kernel
theorem dX2_goThrough_139 : decode cX2_goThrough 139 = .ok (.iload 4, 2) := by decide +kernel
theorem dX2_goThrough_141 : decode cX2_goThrough 141 = .ok (.invokestatic 211, 3) := by decide +kernel
theorem dX2_goThrough_144 : decode cX2_goThrough 144 = .ok (.invokestatic 185, 3) := by decide +kernel
theorem dX2_goThrough_147 : decode cX2_goThrough 147 = .ok (.aload_n 1, 1) := by decide +kernel
theorem dX2_goThrough_148 : decode cX2_goThrough 148 = .ok (.getfield 214, 3) := by decide +kernel
theorem dX2_goThrough_151 : decode cX2_goThrough 151 = .ok (.invokestatic 185, 3) := by decide +kernel
theorem dX2_goThrough_154 : decode cX2_goThrough 154 = .ok (.putfield 111, 3) := by decide +kernel
theorem dX2_goThrough_157 : decode cX2_goThrough 157 = .ok (.iconst 0, 1) := by decide +kernel
theorem dX2_goThrough_158 : decode cX2_goThrough 158 = .ok (.ireturn, 1) := by decide +kernel
def F_X2_goThrough_b116 (o : Nat) (y1 : Nat) (x2 : Int32) (x3 : Int32) (P : VP) (post : Int32 → VP → Prop)  (v4 : Int32) : Prop :=
  F_X7_segmentIn v4 P (fun r119 => ∀ P122 : VP, P122 = vup P 1 o 7 r119 → (F_X7_wordIn v4 P122 (fun r128 => ∀ P131 : VP, P131 = vup P122 1 o 8 r128 → (F_X7_ringIn v4 P131 (fun r141 => ∀ P154 : VP, P154 = vup P131 1 o 9 (imax (imax (P131 1 o 9) r141) (P131 7 y1 5)) → (post ((0 : Int32)) P154))))))
set_option maxRecDepth 4000 in
theorem s_X2_goThrough_b116 {l : Launch} {g : vG} {o : Nat} {y1 : Nat} {x2 : Int32} {x3 : Int32} {P Q : VP} {post : Int32 → VP → Prop}  {v4 : Int32}  (ho : o < vcnt 1) (hy1 : y1 < vcnt 7)  (h : F_X2_goThrough_b116 o y1 x2 x3 P post  v4) : VM l g RX2 cX2_goThrough 7 (some .int) 2 (vcI Q post) 116 [(0, vR 1 o), (1, vR 7 y1), (4, vI v4)] [] (vjn P Q) := by
  unfold F_X2_goThrough_b116 at h
  refine vr_aload_n 0 0 dX2_goThrough_116 rfl rfl ?_
  refine vr_iload 2 dX2_goThrough_117 rfl ?_
  refine vr_callN RX2 "RingGates" (s_X7_segmentIn h) rfl mn_2_205 ml_2_205 rfl yh_X7_segmentIn rfl ⟨Nat.le_of_ble_eq_true rfl, Nat.le_of_ble_eq_true rfl⟩ (Nat.le_of_ble_eq_true rfl) ⟨Nat.zero_le _, Nat.zero_le _⟩ dX2_goThrough_119 (ki fun r119 h => ?_)
  obtain ⟨P122, eP122⟩ : ∃ y : VP, y = vup P 1 o 7 r119 := ⟨_, rfl⟩
  have h := h P122 eP122
  refine vp_1_7 RX2 rfl ho fl_2_105 eP122 dX2_goThrough_122 ?_
  refine vr_aload_n 0 0 dX2_goThrough_125 rfl rfl ?_
  refine vr_iload 2 dX2_goThrough_126 rfl ?_
  refine vr_callN RX2 "RingGates" (s_X7_wordIn h) rfl mn_2_208 ml_2_208 rfl yh_X7_wordIn rfl ⟨Nat.le_of_ble_eq_true rfl, Nat.le_of_ble_eq_true rfl⟩ (Nat.le_of_ble_eq_true rfl) ⟨Nat.zero_le _, Nat.zero_le _⟩ dX2_goThrough_128 (ki fun r128 h => ?_)
  obtain ⟨P131, eP131⟩ : ∃ y : VP, y = vup P122 1 o 8 r128 := ⟨_, rfl⟩
  have h := h P131 eP131
  refine vp_1_8 RX2 rfl ho fl_2_108 eP131 dX2_goThrough_131 ?_
  refine vr_aload_n 0 0 dX2_goThrough_134 rfl rfl ?_
  refine vr_aload_n 0 0 dX2_goThrough_135 rfl rfl ?_
  refine vg_1_9 RX2 rfl ho fl_2_111 dX2_goThrough_136 ?_
  refine vr_iload 2 dX2_goThrough_139 rfl ?_
  refine vr_callN RX2 "RingGates" (s_X7_ringIn h) rfl mn_2_211 ml_2_211 rfl yh_X7_ringIn rfl ⟨Nat.le_of_ble_eq_true rfl, Nat.le_of_ble_eq_true rfl⟩ (Nat.le_of_ble_eq_true rfl) ⟨Nat.zero_le _, Nat.zero_le _⟩ dX2_goThrough_141 (ki fun r141 h => ?_)
  refine vr_max mk_2_185 mm_max ⟨Nat.le_of_ble_eq_true rfl, Nat.le_of_ble_eq_true rfl⟩ ⟨Nat.zero_le _, Nat.zero_le _⟩ dX2_goThrough_144 ?_
  refine vr_aload_n 1 1 dX2_goThrough_147 rfl rfl ?_
  refine vg_7_5 RX2 rfl hy1 fl_2_214 dX2_goThrough_148 ?_
  refine vr_max mk_2_185 mm_max ⟨Nat.le_of_ble_eq_true rfl, Nat.le_of_ble_eq_true rfl⟩ ⟨Nat.zero_le _, Nat.zero_le _⟩ dX2_goThrough_151 ?_
  obtain ⟨P154, eP154⟩ : ∃ y : VP, y = vup P131 1 o 9 (imax (imax (P131 1 o 9) r141) (P131 7 y1 5)) := ⟨_, rfl⟩
  have h := h P154 eP154
  refine vp_1_9 RX2 rfl ho fl_2_111 eP154 dX2_goThrough_154 ?_
  refine vr_iconst 0 dX2_goThrough_157 (by decide) ?_
  exact vr_iret rfl ⟨_, _, rfl, rfl, h⟩ dX2_goThrough_158
def F_X2_goThrough (o : Nat) (y1 : Nat) (x2 : Int32) (x3 : Int32) (P : VP) (post : Int32 → VP → Prop) : Prop :=
  F_X3_letsRead y1 (P 1 o 9) P (fun r5 => (r5 = 0 → post (((-22) : Int32)) P) ∧ (¬ r5 = 0 → (x2 = 0 → post (((-23) : Int32)) P) ∧ (¬ x2 = 0 → (x2 = 1 → post (((-24) : Int32)) P) ∧ (¬ x2 = 1 → (x2 = 6 → post (((-24) : Int32)) P) ∧ (¬ x2 = 6 → F_X3_valueAt y1 (P 1 o 8) P (fun r40 => (x2 = 4 → F_X6_seek o y1 (r40 / 100) P (fun r64 => (r64 < 0 → post (((-26) : Int32)) P) ∧ (¬ r64 < 0 → ∀ v4_97 : Int32, v4_97 = ((1000 * r64) + (100 * (P 1 o 9))) + (r40 - r40 / 100 * 100) → ((x3 = 0 → F_X2_goThrough_b116 o y1 x2 x3 P post  v4_97) ∧ (¬ x3 = 0 → F_X3_become y1 (P 1 o 8) ((5 : Int32)) v4_97 r40 P (fun P113 => F_X2_goThrough_b116 o y1 x2 x3 P113 post  v4_97)))))) ∧ (¬ x2 = 4 → F_X2_goThrough_b116 o y1 x2 x3 P post  r40)))))))
set_option maxRecDepth 4000 in
theorem s_X2_goThrough {l : Launch} {g : vG} {o : Nat} {y1 : Nat} {x2 : Int32} {x3 : Int32} {P Q : VP} {post : Int32 → VP → Prop} (ho : o < vcnt 1) (hy1 : y1 < vcnt 7) (h : F_X2_goThrough o y1 x2 x3 P post) : VC l g yX2_goThrough cX2_goThrough 7 (some .int) 2 [vR 1 o, vR 7 y1, vI x2, vI x3] (vjn P Q) (vcI Q post) := by
  refine VC.of (by decide +kernel) (Nat.le_of_ble_eq_true rfl) (show VM l g RX2 cX2_goThrough 7 (some .int) 2 (vcI Q post) 0 [(0, vR 1 o), (1, vR 7 y1), (2, vI x2), (3, vI x3)] [] (vjn P Q) from ?_)
  unfold F_X2_goThrough at h
  refine vr_aload_n 1 1 dX2_goThrough_0 rfl rfl ?_
  refine vr_aload_n 0 0 dX2_goThrough_1 rfl rfl ?_
  refine vg_1_9 RX2 rfl ho fl_2_111 dX2_goThrough_2 ?_
  refine vr_callV RX2 (s_X3_letsRead hy1 h) rfl hy1 rfl rfl rfl ml_2_194 rfl yh_X3_letsRead rfl ⟨Nat.le_of_ble_eq_true rfl, Nat.le_of_ble_eq_true rfl⟩ (Nat.le_of_ble_eq_true rfl) ⟨Nat.zero_le _, Nat.zero_le _⟩ dX2_goThrough_5 (ki fun r5 h => ?_)
  refine vr_ifne 14 dX2_goThrough_8 (by decide) (fun c8 => ?_) (fun c8 => ?_)
  · have h := h.1 c8
    refine vr_bipush (-22) dX2_goThrough_11 (by decide) ?_
    exact vr_iret rfl ⟨_, _, rfl, rfl, h⟩ dX2_goThrough_13
  · have h := h.2 c8
    refine vr_iload_n 2 2 dX2_goThrough_14 rfl rfl ?_
    refine vr_ifne 21 dX2_goThrough_15 (by decide) (fun c15 => ?_) (fun c15 => ?_)
    · have h := h.1 c15
      refine vr_bipush (-23) dX2_goThrough_18 (by decide) ?_
      exact vr_iret rfl ⟨_, _, rfl, rfl, h⟩ dX2_goThrough_20
    · have h := h.2 c15
      refine vr_iload_n 2 2 dX2_goThrough_21 rfl rfl ?_
      refine vr_iconst 1 dX2_goThrough_22 (by decide) ?_
      refine vr_icmpeq 32 dX2_goThrough_23 (by decide) (fun c23 => ?_) (fun c23 => ?_)
      · have h := h.1 c23
        refine vr_bipush (-24) dX2_goThrough_32 (by decide) ?_
        exact vr_iret rfl ⟨_, _, rfl, rfl, h⟩ dX2_goThrough_34
      · have h := h.2 c23
        refine vr_iload_n 2 2 dX2_goThrough_26 rfl rfl ?_
        refine vr_bipush 6 dX2_goThrough_27 (by decide) ?_
        refine vr_icmpne 35 dX2_goThrough_29 (by decide) (fun c29 => ?_) (fun c29 => ?_)
        · have h := h.1 c29
          refine vr_bipush (-24) dX2_goThrough_32 (by decide) ?_
          exact vr_iret rfl ⟨_, _, rfl, rfl, h⟩ dX2_goThrough_34
        · have h := h.2 c29
          refine vr_aload_n 1 1 dX2_goThrough_35 rfl rfl ?_
          refine vr_aload_n 0 0 dX2_goThrough_36 rfl rfl ?_
          refine vg_1_8 RX2 rfl ho fl_2_108 dX2_goThrough_37 ?_
          refine vr_callV RX2 (s_X3_valueAt hy1 h) rfl hy1 rfl rfl rfl ml_2_76 rfl yh_X3_valueAt rfl ⟨Nat.le_of_ble_eq_true rfl, Nat.le_of_ble_eq_true rfl⟩ (Nat.le_of_ble_eq_true rfl) ⟨Nat.zero_le _, Nat.zero_le _⟩ dX2_goThrough_40 (ki fun r40 h => ?_)
          refine vr_istore [(4, vI r40), (0, vR 1 o), (1, vR 7 y1), (2, vI x2), (3, vI x3)] dX2_goThrough_43 (by decide) rfl ?_
          refine vr_iload_n 2 3 dX2_goThrough_45 rfl rfl ?_
          refine vr_iconst 4 dX2_goThrough_46 (by decide) ?_
          refine vr_icmpne 116 dX2_goThrough_47 (by decide) (fun c47 => ?_) (fun c47 => ?_)
          · have h := h.1 c47
            refine vr_iload 0 dX2_goThrough_50 rfl ?_
            refine vr_istore [(5, vI r40), (4, vI r40), (0, vR 1 o), (1, vR 7 y1), (2, vI x2), (3, vI x3)] dX2_goThrough_52 (by decide) rfl ?_
            refine vr_aload_n 0 2 dX2_goThrough_54 rfl rfl ?_
            refine vg_1_0 RX2 rfl ho fl_2_12 dX2_goThrough_55 ?_
            refine vr_aload_n 1 3 dX2_goThrough_58 rfl rfl ?_
            refine vr_iload 0 dX2_goThrough_59 rfl ?_
            refine vr_bipush 100 dX2_goThrough_61 (by decide) ?_
            refine vr_idiv dX2_goThrough_63 (by decide) ?_
            refine vr_callV RX2 (s_X6_seek ho hy1 h) rfl ho rfl rfl rfl ml_2_197 rfl yh_X6_seek rfl ⟨Nat.le_of_ble_eq_true rfl, Nat.le_of_ble_eq_true rfl⟩ (Nat.le_of_ble_eq_true rfl) ⟨Nat.zero_le _, Nat.zero_le _⟩ dX2_goThrough_64 (ki fun r64 h => ?_)
            refine vr_istore [(6, vI r64), (5, vI r40), (4, vI r40), (0, vR 1 o), (1, vR 7 y1), (2, vI x2), (3, vI x3)] dX2_goThrough_67 (by decide) rfl ?_
            refine vr_iload 0 dX2_goThrough_69 rfl ?_
            refine vr_ifge 77 dX2_goThrough_71 (by decide) (fun c71 => ?_) (fun c71 => ?_)
            · have h := h.1 c71
              refine vr_bipush (-26) dX2_goThrough_74 (by decide) ?_
              exact vr_iret rfl ⟨_, _, rfl, rfl, h⟩ dX2_goThrough_76
            · have h := h.2 c71
              refine vr_sipush 1000 dX2_goThrough_77 (by decide) ?_
              refine vr_iload 0 dX2_goThrough_80 rfl ?_
              refine vr_imul dX2_goThrough_82 ?_
              refine vr_bipush 100 dX2_goThrough_83 (by decide) ?_
              refine vr_aload_n 0 3 dX2_goThrough_85 rfl rfl ?_
              refine vg_1_9 RX2 rfl ho fl_2_111 dX2_goThrough_86 ?_
              refine vr_imul dX2_goThrough_89 ?_
              refine vr_iadd dX2_goThrough_90 ?_
              refine vr_iload 1 dX2_goThrough_91 rfl ?_
              refine vr_bipush 100 dX2_goThrough_93 (by decide) ?_
              refine vr_irem dX2_goThrough_95 (by decide) ?_
              refine vr_iadd dX2_goThrough_96 ?_
              obtain ⟨v4_97, ev4_97⟩ : ∃ y : Int32, y = ((1000 * r64) + (100 * (P 1 o 9))) + (r40 - r40 / 100 * 100) := ⟨_, rfl⟩
              have h := h v4_97 ev4_97
              refine vr_nm ev4_97 ?_
              refine vr_istore [(4, vI v4_97), (6, vI r64), (5, vI r40), (0, vR 1 o), (1, vR 7 y1), (2, vI x2), (3, vI x3)] dX2_goThrough_97 (by decide) rfl ?_
              refine vr_iload_n 3 6 dX2_goThrough_99 rfl rfl ?_
              refine vr_ifeq 116 dX2_goThrough_100 (by decide) (fun c100 => ?_) (fun c100 => ?_)
              · have h := h.1 c100
                refine vr_sub [3, 4, 0] [(0, vR 1 o), (1, vR 7 y1), (4, vI v4_97)] rfl ?_
                exact s_X2_goThrough_b116 ho hy1  h
              · have h := h.2 c100
                refine vr_aload_n 1 4 dX2_goThrough_103 rfl rfl ?_
                refine vr_aload_n 0 3 dX2_goThrough_104 rfl rfl ?_
                refine vg_1_8 RX2 rfl ho fl_2_108 dX2_goThrough_105 ?_
                refine vr_iconst 5 dX2_goThrough_108 (by decide) ?_
                refine vr_iload 0 dX2_goThrough_109 rfl ?_
                refine vr_iload 2 dX2_goThrough_111 rfl ?_
                refine vr_callV RX2 (s_X3_become hy1 h) rfl hy1 rfl rfl rfl ml_2_201 rfl yh_X3_become rfl ⟨Nat.le_of_ble_eq_true rfl, Nat.le_of_ble_eq_true rfl⟩ (Nat.le_of_ble_eq_true rfl) ⟨Nat.zero_le _, Nat.zero_le _⟩ dX2_goThrough_113 (kcv fun P113 h => ?_)
                refine vr_sub [3, 4, 0] [(0, vR 1 o), (1, vR 7 y1), (4, vI v4_97)] rfl ?_
                exact s_X2_goThrough_b116 ho hy1  h
          · have h := h.2 c47
            refine vr_sub [1, 2, 0] [(0, vR 1 o), (1, vR 7 y1), (4, vI r40)] rfl ?_
            exact s_X2_goThrough_b116 ho hy1  h
theorem dX2_seekOperand_0 : decode cX2_seekOperand 0 = .ok (.aload_n 0, 1) := by decide +kernel
theorem dX2_seekOperand_1 : decode cX2_seekOperand 1 = .ok (.iload_n 1, 1) := by decide +kernel
theorem dX2_seekOperand_2 : decode cX2_seekOperand 2 = .ok (.putfield 105, 3) := by decide +kernel
theorem dX2_seekOperand_5 : decode cX2_seekOperand 5 = .ok (.aload_n 0, 1) := by decide +kernel
theorem dX2_seekOperand_6 : decode cX2_seekOperand 6 = .ok (.iload_n 2, 1) := by decide +kernel
theorem dX2_seekOperand_7 : decode cX2_seekOperand 7 = .ok (.putfield 108, 3) := by decide +kernel
theorem dX2_seekOperand_10 : decode cX2_seekOperand 10 = .ok (.aload_n 0, 1) := by decide +kernel
theorem dX2_seekOperand_11 : decode cX2_seekOperand 11 = .ok (.iload_n 3, 1) := by decide +kernel
theorem dX2_seekOperand_12 : decode cX2_seekOperand 12 = .ok (.putfield 111, 3) := by decide +kernel
theorem dX2_seekOperand_15 : decode cX2_seekOperand 15 = .ok (.iconst 0, 1) := by decide +kernel
theorem dX2_seekOperand_16 : decode cX2_seekOperand 16 = .ok (.istore 5, 2) := by decide +kernel
theorem dX2_seekOperand_18 : decode cX2_seekOperand 18 = .ok (.iload 5, 2) := by decide +kernel
theorem dX2_seekOperand_20 : decode cX2_seekOperand 20 = .ok (.bipush 6, 2) := by decide +kernel
theorem dX2_seekOperand_22 : decode cX2_seekOperand 22 = .ok (.if_icmp .ge 127, 3) := by decide +kernel
theorem dX2_seekOperand_25 : decode cX2_seekOperand 25 = .ok (.aload_n 0, 1) := by decide +kernel
theorem dX2_seekOperand_26 : decode cX2_seekOperand 26 = .ok (.getfield 12, 3) := by decide +kernel
theorem dX2_seekOperand_29 : decode cX2_seekOperand 29 = .ok (.aload_n 0, 1) := by decide +kernel
theorem dX2_seekOperand_30 : decode cX2_seekOperand 30 = .ok (.getfield 105, 3) := by decide +kernel
theorem dX2_seekOperand_33 : decode cX2_seekOperand 33 = .ok (.invokevirtual 59, 3) := by decide +kernel
theorem dX2_seekOperand_36 : decode cX2_seekOperand 36 = .ok (.astore 6, 2) := by decide +kernel
theorem dX2_seekOperand_38 : decode cX2_seekOperand 38 = .ok (.aload 6, 2) := by decide +kernel
theorem dX2_seekOperand_40 : decode cX2_seekOperand 40 = .ok (.ifnonnull 6, 3) := by decide +kernel
theorem dX2_seekOperand_43 : decode cX2_seekOperand 43 = .ok (.bipush (-20), 2) := by decide +kernel
theorem dX2_seekOperand_45 : decode cX2_seekOperand 45 = .ok (.ireturn, 1) := by decide +kernel
theorem dX2_seekOperand_46 : decode cX2_seekOperand 46 = .ok (.aload 6, 2) := by decide +kernel
theorem dX2_seekOperand_48 : decode cX2_seekOperand 48 = .ok (.aload_n 0, 1) := by decide +kernel
theorem dX2_seekOperand_49 : decode cX2_seekOperand 49 = .ok (.getfield 108, 3) := by decide +kernel
theorem dX2_seekOperand_52 : decode cX2_seekOperand 52 = .ok (.invokevirtual 63, 3) := by decide +kernel
theorem dX2_seekOperand_55 : decode cX2_seekOperand 55 = .ok (.ifCond .ne 6, 3) := by decide +kernel
theorem dX2_seekOperand_58 : decode cX2_seekOperand 58 = .ok (.bipush (-21), 2) := by decide +kernel
theorem dX2_seekOperand_60 : decode cX2_seekOperand 60 = .ok (.ireturn, 1) := by decide +kernel
theorem dX2_seekOperand_61 : decode cX2_seekOperand 61 = .ok (.aload 6, 2) := by decide +kernel
theorem dX2_seekOperand_63 : decode cX2_seekOperand 63 = .ok (.aload_n 0, 1) := by decide +kernel
theorem dX2_seekOperand_64 : decode cX2_seekOperand 64 = .ok (.getfield 108, 3) := by decide +kernel
theorem dX2_seekOperand_67 : decode cX2_seekOperand 67 = .ok (.invokevirtual 72, 3) := by decide +kernel
theorem dX2_seekOperand_70 : decode cX2_seekOperand 70 = .ok (.istore 7, 2) := by decide +kernel
theorem dX2_seekOperand_72 : decode cX2_seekOperand 72 = .ok (.iload 7, 2) := by decide +kernel
theorem dX2_seekOperand_74 : decode cX2_seekOperand 74 = .ok (.iconst 2, 1) := by decide +kernel
theorem dX2_seekOperand_75 : decode cX2_seekOperand 75 = .ok (.if_icmp .eq 21, 3) := by decide +kernel
theorem dX2_seekOperand_78 : decode cX2_seekOperand 78 = .ok (.iload 7, 2) := by decide +kernel
theorem dX2_seekOperand_80 : decode cX2_seekOperand 80 = .ok (.iconst 3, 1) := by decide +kernel
theorem dX2_seekOperand_81 : decode cX2_seekOperand 81 = .ok (.if_icmp .eq 15, 3) := by decide +kernel
theorem dX2_seekOperand_84 : decode cX2_seekOperand 84 = .ok (.iload 7, 2) := by decide +kernel
theorem dX2_seekOperand_86 : decode cX2_seekOperand 86 = .ok (.iconst 5, 1) := by decide +kernel
theorem dX2_seekOperand_87 : decode cX2_seekOperand 87 = .ok (.if_icmp .eq 9, 3) := by decide +kernel
theorem dX2_seekOperand_90 : decode cX2_seekOperand 90 = .ok (.iload 7, 2) := by decide +kernel
theorem dX2_seekOperand_92 : decode cX2_seekOperand 92 = .ok (.iconst 4, 1) := by decide +kernel
theorem dX2_seekOperand_93 : decode cX2_seekOperand 93 = .ok (.if_icmp .ne 7, 3) := by decide +kernel
theorem dX2_seekOperand_96 : decode cX2_seekOperand 96 = .ok (.iconst 1, 1) := by decide +kernel
theorem dX2_seekOperand_97 : decode cX2_seekOperand 97 = .ok (.goto 4, 3) := by decide +kernel
theorem dX2_seekOperand_100 : decode cX2_seekOperand 100 = .ok (.iconst 0, 1) := by decide +kernel
theorem dX2_seekOperand_101 : decode cX2_seekOperand 101 = .ok (.istore 8, 2) := by decide +kernel
theorem dX2_seekOperand_103 : decode cX2_seekOperand 103 = .ok (.iload 5, 2) := by decide +kernel
theorem dX2_seekOperand_105 : decode cX2_seekOperand 105 = .ok (.ifCond .ne 10, 3) := by decide +kernel
theorem dX2_seekOperand_108 : decode cX2_seekOperand 108 = .ok (.iload 8, 2) := by decide +kernel
theorem dX2_seekOperand_110 : decode cX2_seekOperand 110 = .ok (.ifCond .ne 5, 3) := by decide +kernel
theorem dX2_seekOperand_113 : decode cX2_seekOperand 113 = .ok (.iconst 0, 1) := by decide +kernel
theorem dX2_seekOperand_114 : decode cX2_seekOperand 114 = .ok (.ireturn, 1) := by decide +kernel
theorem dX2_seekOperand_115 : decode cX2_seekOperand 115 = .ok (.aload_n 0, 1) := by decide +kernel
theorem dX2_seekOperand_116 : decode cX2_seekOperand 116 = .ok (.aload 6, 2) := by decide +kernel
theorem dX2_seekOperand_118 : decode cX2_seekOperand 118 = .ok (.iload 7, 2) := by decide +kernel
theorem dX2_seekOperand_120 : decode cX2_seekOperand 120 = .ok (.iload 4, 2) := by decide +kernel
theorem dX2_seekOperand_122 : decode cX2_seekOperand 122 = .ok (.invokevirtual 190, 3) := by decide +kernel
theorem dX2_seekOperand_125 : decode cX2_seekOperand 125 = .ok (.istore 9, 2) := by decide +kernel
theorem dX2_seekOperand_127 : decode cX2_seekOperand 127 = .ok (.iload 9, 2) := by decide +kernel
theorem dX2_seekOperand_129 : decode cX2_seekOperand 129 = .ok (.ifCond .eq 6, 3) := by decide +kernel
theorem dX2_seekOperand_132 : decode cX2_seekOperand 132 = .ok (.iload 9, 2) := by decide +kernel
theorem dX2_seekOperand_134 : decode cX2_seekOperand 134 = .ok (.ireturn, 1) := by decide +kernel
theorem dX2_seekOperand_135 : decode cX2_seekOperand 135 = .ok (.iload 7, 2) := by decide +kernel
theorem dX2_seekOperand_137 : decode cX2_seekOperand 137 = .ok (.iconst 3, 1) := by decide +kernel
theorem dX2_seekOperand_138 : decode cX2_seekOperand 138 = .ok (.if_icmp .eq 5, 3) := by decide +kernel
theorem dX2_seekOperand_141 : decode cX2_seekOperand 141 = .ok (.iconst 0, 1) := by decide +kernel
theorem dX2_seekOperand_142 : decode cX2_seekOperand 142 = .ok (.ireturn, 1) := by decide +kernel
theorem dX2_seekOperand_143 : decode cX2_seekOperand 143 = .ok (.iinc 5 1, 3) := by decide +kernel
theorem dX2_seekOperand_146 : decode cX2_seekOperand 146 = .ok (.goto (-128), 3) := by decide +kernel
theorem dX2_seekOperand_149 : decode cX2_seekOperand 149 = .ok (.bipush (-25), 2) := by decide +kernel
theorem dX2_seekOperand_151 : decode cX2_seekOperand 151 = .ok (.ireturn, 1) := by decide +kernel
def F_X2_seekOperand_b115 (o : Nat) (x1 : Int32) (x2 : Int32) (x3 : Int32) (x4 : Int32) (P : VP) (post : Int32 → VP → Prop) (X18 : Int32 → VP → Prop) (v5 : Int32) (v6 : Nat) (v7 : Int32) : Prop :=
  F_X2_goThrough o v6 v7 x4 P (fun r122 P122 => (r122 = 0 → (v7 = 3 → X18 (v5 + 1) P122) ∧ (¬ v7 = 3 → post ((0 : Int32)) P122)) ∧ (¬ r122 = 0 → post r122 P122))
set_option maxRecDepth 4000 in
theorem s_X2_seekOperand_b115 {l : Launch} {g : vG} {o : Nat} {x1 : Int32} {x2 : Int32} {x3 : Int32} {x4 : Int32} {P Q : VP} {post : Int32 → VP → Prop} {X18 : Int32 → VP → Prop} {v5 : Int32} {v6 : Nat} {v7 : Int32}  (ho : o < vcnt 1) (hv6 : v6 < vcnt 7) (hX18 : ∀ v5_ P_, X18 v5_ P_ → VM l g RX2 cX2_seekOperand 10 (some .int) 3 (vcI Q post) 18 [(0, vR 1 o), (4, vI x4), (5, vI v5_)] [] (vjn P_ Q)) (h : F_X2_seekOperand_b115 o x1 x2 x3 x4 P post X18 v5 v6 v7) : VM l g RX2 cX2_seekOperand 10 (some .int) 3 (vcI Q post) 115 [(0, vR 1 o), (4, vI x4), (5, vI v5), (6, vR 7 v6), (7, vI v7)] [] (vjn P Q) := by
  unfold F_X2_seekOperand_b115 at h
  refine vr_aload_n 0 0 dX2_seekOperand_115 rfl rfl ?_
  refine vr_aload 3 dX2_seekOperand_116 rfl ?_
  refine vr_iload 4 dX2_seekOperand_118 rfl ?_
  refine vr_iload 1 dX2_seekOperand_120 rfl ?_
  refine vr_callV RX2 (s_X2_goThrough ho hv6 h) rfl ho rfl rfl rfl ml_2_190 rfl yh_X2_goThrough rfl ⟨Nat.le_of_ble_eq_true rfl, Nat.le_of_ble_eq_true rfl⟩ (Nat.le_of_ble_eq_true rfl) ⟨Nat.zero_le _, Nat.zero_le _⟩ dX2_seekOperand_122 (kci fun r122 P122 h => ?_)
  refine vr_istore [(9, vI r122), (0, vR 1 o), (4, vI x4), (5, vI v5), (6, vR 7 v6), (7, vI v7)] dX2_seekOperand_125 (by decide) rfl ?_
  refine vr_iload 0 dX2_seekOperand_127 rfl ?_
  refine vr_ifeq 135 dX2_seekOperand_129 (by decide) (fun c129 => ?_) (fun c129 => ?_)
  · have h := h.1 c129
    refine vr_iload 5 dX2_seekOperand_135 rfl ?_
    refine vr_iconst 3 dX2_seekOperand_137 (by decide) ?_
    refine vr_icmpeq 143 dX2_seekOperand_138 (by decide) (fun c138 => ?_) (fun c138 => ?_)
    · have h := h.1 c138
      refine vr_iinc (v5 + 1) 3 [(5, vI (v5 + 1)), (9, vI r122), (0, vR 1 o), (4, vI x4), (6, vR 7 v6), (7, vI v7)] dX2_seekOperand_143 rfl rfl (by decide) rfl ?_
      refine vr_goto 18 dX2_seekOperand_146 (by decide) ?_
      refine vr_sub [2, 3, 0] [(0, vR 1 o), (4, vI x4), (5, vI (v5 + 1))] rfl ?_
      exact hX18 _ _ h
    · have h := h.2 c138
      refine vr_iconst 0 dX2_seekOperand_141 (by decide) ?_
      exact vr_iret rfl ⟨_, _, rfl, rfl, h⟩ dX2_seekOperand_142
  · have h := h.2 c129
    refine vr_iload 0 dX2_seekOperand_132 rfl ?_
    exact vr_iret rfl ⟨_, _, rfl, rfl, h⟩ dX2_seekOperand_134
def F_X2_seekOperand_l18 (o : Nat) (x1 : Int32) (x2 : Int32) (x3 : Int32) (x4 : Int32)  (post : Int32 → VP → Prop)   (X : Int32 → VP → Prop) (v5 : Int32) (P : VP) : Prop :=
  (v5 < 6 → (F_X6_find o (P 1 o 7) P (fun r33 => match r33 with | none => (post (((-20) : Int32)) P) | some yr33 => (F_X3_has yr33 (P 1 o 8) P (fun r52 => (r52 = 0 → post (((-21) : Int32)) P) ∧ (¬ r52 = 0 → F_X3_kindAt yr33 (P 1 o 8) P (fun r67 => (r67 = 2 → (v5 = 0 → ((1 : Int32) = 0 → post ((0 : Int32)) P) ∧ (¬ (1 : Int32) = 0 → F_X2_seekOperand_b115 o x1 x2 x3 x4 P post X  v5 yr33 r67)) ∧ (¬ v5 = 0 → F_X2_seekOperand_b115 o x1 x2 x3 x4 P post X  v5 yr33 r67)) ∧ (¬ r67 = 2 → (r67 = 3 → (v5 = 0 → ((1 : Int32) = 0 → post ((0 : Int32)) P) ∧ (¬ (1 : Int32) = 0 → F_X2_seekOperand_b115 o x1 x2 x3 x4 P post X  v5 yr33 r67)) ∧ (¬ v5 = 0 → F_X2_seekOperand_b115 o x1 x2 x3 x4 P post X  v5 yr33 r67)) ∧ (¬ r67 = 3 → (r67 = 5 → (v5 = 0 → ((1 : Int32) = 0 → post ((0 : Int32)) P) ∧ (¬ (1 : Int32) = 0 → F_X2_seekOperand_b115 o x1 x2 x3 x4 P post X  v5 yr33 r67)) ∧ (¬ v5 = 0 → F_X2_seekOperand_b115 o x1 x2 x3 x4 P post X  v5 yr33 r67)) ∧ (¬ r67 = 5 → (r67 = 4 → (v5 = 0 → ((1 : Int32) = 0 → post ((0 : Int32)) P) ∧ (¬ (1 : Int32) = 0 → F_X2_seekOperand_b115 o x1 x2 x3 x4 P post X  v5 yr33 r67)) ∧ (¬ v5 = 0 → F_X2_seekOperand_b115 o x1 x2 x3 x4 P post X  v5 yr33 r67)) ∧ (¬ r67 = 4 → (v5 = 0 → ((0 : Int32) = 0 → post ((0 : Int32)) P) ∧ (¬ (0 : Int32) = 0 → F_X2_seekOperand_b115 o x1 x2 x3 x4 P post X  v5 yr33 r67)) ∧ (¬ v5 = 0 → F_X2_seekOperand_b115 o x1 x2 x3 x4 P post X  v5 yr33 r67)))))))))))) ∧ (¬ v5 < 6 → post (((-25) : Int32)) P)
set_option maxRecDepth 4000 in
theorem s_X2_seekOperand_l18 {l : Launch} {g : vG} {o : Nat} {x1 : Int32} {x2 : Int32} {x3 : Int32} {x4 : Int32} {Q : VP} {post : Int32 → VP → Prop}    {v5 : Int32} {P : VP} (ho : o < vcnt 1)  (h : vL2 (F_X2_seekOperand_l18 o x1 x2 x3 x4  post  ) v5 P) : VM l g RX2 cX2_seekOperand 10 (some .int) 3 (vcI Q post) 18 [(0, vR 1 o), (4, vI x4), (5, vI v5)] [] (vjn P Q) := by
  refine vL2_s (T := fun v5 P => VM l g RX2 cX2_seekOperand 10 (some .int) 3 (vcI Q post) 18 [(0, vR 1 o), (4, vI x4), (5, vI v5)] [] (vjn P Q)) ?_ h
  clear h
  intro X hX v5 P h
  unfold F_X2_seekOperand_l18 at h
  refine vr_iload 2 dX2_seekOperand_18 rfl ?_
  refine vr_bipush 6 dX2_seekOperand_20 (by decide) ?_
  refine vr_icmpge 149 dX2_seekOperand_22 (by decide) (fun c22 => ?_) (fun c22 => ?_)
  · have h := h.1 c22
    refine vr_aload_n 0 0 dX2_seekOperand_25 rfl rfl ?_
    refine vg_1_0 RX2 rfl ho fl_2_12 dX2_seekOperand_26 ?_
    refine vr_aload_n 0 0 dX2_seekOperand_29 rfl rfl ?_
    refine vg_1_7 RX2 rfl ho fl_2_105 dX2_seekOperand_30 ?_
    refine vr_callV RX2 (s_X6_find ho h) rfl ho rfl rfl rfl ml_2_59 rfl yh_X6_find rfl ⟨Nat.le_of_ble_eq_true rfl, Nat.le_of_ble_eq_true rfl⟩ (Nat.le_of_ble_eq_true rfl) ⟨Nat.zero_le _, Nat.zero_le _⟩ dX2_seekOperand_33 (ko fun r33 hvr33 h => ?_)
    refine vr_astore [(6, vO 7 r33), (0, vR 1 o), (4, vI x4), (5, vI v5)] dX2_seekOperand_36 (by decide) rfl ?_
    refine vr_aload 0 dX2_seekOperand_38 rfl ?_
    rcases r33 with _ | yr33
    · refine vr_ifnonnullN dX2_seekOperand_40 ?_
      refine vr_bipush (-20) dX2_seekOperand_43 (by decide) ?_
      exact vr_iret rfl ⟨_, _, rfl, rfl, h⟩ dX2_seekOperand_45
    · refine vr_ifnonnullR 46 dX2_seekOperand_40 (by decide) ?_
      refine vr_aload 0 dX2_seekOperand_46 rfl ?_
      refine vr_aload_n 0 1 dX2_seekOperand_48 rfl rfl ?_
      refine vg_1_8 RX2 rfl ho fl_2_108 dX2_seekOperand_49 ?_
      refine vr_callV RX2 (s_X3_has (hvr33 _ rfl) h) rfl (hvr33 _ rfl) rfl rfl rfl ml_2_63 rfl yh_X3_has rfl ⟨Nat.le_of_ble_eq_true rfl, Nat.le_of_ble_eq_true rfl⟩ (Nat.le_of_ble_eq_true rfl) ⟨Nat.zero_le _, Nat.zero_le _⟩ dX2_seekOperand_52 (ki fun r52 h => ?_)
      refine vr_ifne 61 dX2_seekOperand_55 (by decide) (fun c55 => ?_) (fun c55 => ?_)
      · have h := h.1 c55
        refine vr_bipush (-21) dX2_seekOperand_58 (by decide) ?_
        exact vr_iret rfl ⟨_, _, rfl, rfl, h⟩ dX2_seekOperand_60
      · have h := h.2 c55
        refine vr_aload 0 dX2_seekOperand_61 rfl ?_
        refine vr_aload_n 0 1 dX2_seekOperand_63 rfl rfl ?_
        refine vg_1_8 RX2 rfl ho fl_2_108 dX2_seekOperand_64 ?_
        refine vr_callV RX2 (s_X3_kindAt (hvr33 _ rfl) h) rfl (hvr33 _ rfl) rfl rfl rfl ml_2_72 rfl yh_X3_kindAt rfl ⟨Nat.le_of_ble_eq_true rfl, Nat.le_of_ble_eq_true rfl⟩ (Nat.le_of_ble_eq_true rfl) ⟨Nat.zero_le _, Nat.zero_le _⟩ dX2_seekOperand_67 (ki fun r67 h => ?_)
        refine vr_istore [(7, vI r67), (6, vR 7 yr33), (0, vR 1 o), (4, vI x4), (5, vI v5)] dX2_seekOperand_70 (by decide) rfl ?_
        refine vr_iload 0 dX2_seekOperand_72 rfl ?_
        refine vr_iconst 2 dX2_seekOperand_74 (by decide) ?_
        refine vr_icmpeq 96 dX2_seekOperand_75 (by decide) (fun c75 => ?_) (fun c75 => ?_)
        · have h := h.1 c75
          refine vr_iconst 1 dX2_seekOperand_96 (by decide) ?_
          refine vr_goto 101 dX2_seekOperand_97 (by decide) ?_
          refine vr_istore [(8, vI 1), (7, vI r67), (6, vR 7 yr33), (0, vR 1 o), (4, vI x4), (5, vI v5)] dX2_seekOperand_101 (by decide) rfl ?_
          refine vr_iload 5 dX2_seekOperand_103 rfl ?_
          refine vr_ifne 115 dX2_seekOperand_105 (by decide) (fun c105 => ?_) (fun c105 => ?_)
          · have h := h.1 c105
            refine vr_iload 0 dX2_seekOperand_108 rfl ?_
            refine vr_ifne 115 dX2_seekOperand_110 (by decide) (fun c110 => ?_) (fun c110 => ?_)
            · have h := h.1 c110
              refine vr_iconst 0 dX2_seekOperand_113 (by decide) ?_
              exact vr_iret rfl ⟨_, _, rfl, rfl, h⟩ dX2_seekOperand_114
            · have h := h.2 c110
              refine vr_sub [3, 4, 5, 2, 1] [(0, vR 1 o), (4, vI x4), (5, vI v5), (6, vR 7 yr33), (7, vI r67)] rfl ?_
              exact s_X2_seekOperand_b115 ho (hvr33 _ rfl) hX  h
          · have h := h.2 c105
            refine vr_sub [3, 4, 5, 2, 1] [(0, vR 1 o), (4, vI x4), (5, vI v5), (6, vR 7 yr33), (7, vI r67)] rfl ?_
            exact s_X2_seekOperand_b115 ho (hvr33 _ rfl) hX  h
        · have h := h.2 c75
          refine vr_iload 0 dX2_seekOperand_78 rfl ?_
          refine vr_iconst 3 dX2_seekOperand_80 (by decide) ?_
          refine vr_icmpeq 96 dX2_seekOperand_81 (by decide) (fun c81 => ?_) (fun c81 => ?_)
          · have h := h.1 c81
            refine vr_iconst 1 dX2_seekOperand_96 (by decide) ?_
            refine vr_goto 101 dX2_seekOperand_97 (by decide) ?_
            refine vr_istore [(8, vI 1), (7, vI r67), (6, vR 7 yr33), (0, vR 1 o), (4, vI x4), (5, vI v5)] dX2_seekOperand_101 (by decide) rfl ?_
            refine vr_iload 5 dX2_seekOperand_103 rfl ?_
            refine vr_ifne 115 dX2_seekOperand_105 (by decide) (fun c105 => ?_) (fun c105 => ?_)
            · have h := h.1 c105
              refine vr_iload 0 dX2_seekOperand_108 rfl ?_
              refine vr_ifne 115 dX2_seekOperand_110 (by decide) (fun c110 => ?_) (fun c110 => ?_)
              · have h := h.1 c110
                refine vr_iconst 0 dX2_seekOperand_113 (by decide) ?_
                exact vr_iret rfl ⟨_, _, rfl, rfl, h⟩ dX2_seekOperand_114
              · have h := h.2 c110
                refine vr_sub [3, 4, 5, 2, 1] [(0, vR 1 o), (4, vI x4), (5, vI v5), (6, vR 7 yr33), (7, vI r67)] rfl ?_
                exact s_X2_seekOperand_b115 ho (hvr33 _ rfl) hX  h
            · have h := h.2 c105
              refine vr_sub [3, 4, 5, 2, 1] [(0, vR 1 o), (4, vI x4), (5, vI v5), (6, vR 7 yr33), (7, vI r67)] rfl ?_
              exact s_X2_seekOperand_b115 ho (hvr33 _ rfl) hX  h
          · have h := h.2 c81
            refine vr_iload 0 dX2_seekOperand_84 rfl ?_
            refine vr_iconst 5 dX2_seekOperand_86 (by decide) ?_
            refine vr_icmpeq 96 dX2_seekOperand_87 (by decide) (fun c87 => ?_) (fun c87 => ?_)
            · have h := h.1 c87
              refine vr_iconst 1 dX2_seekOperand_96 (by decide) ?_
              refine vr_goto 101 dX2_seekOperand_97 (by decide) ?_
              refine vr_istore [(8, vI 1), (7, vI r67), (6, vR 7 yr33), (0, vR 1 o), (4, vI x4), (5, vI v5)] dX2_seekOperand_101 (by decide) rfl ?_
              refine vr_iload 5 dX2_seekOperand_103 rfl ?_
              refine vr_ifne 115 dX2_seekOperand_105 (by decide) (fun c105 => ?_) (fun c105 => ?_)
              · have h := h.1 c105
                refine vr_iload 0 dX2_seekOperand_108 rfl ?_
                refine vr_ifne 115 dX2_seekOperand_110 (by decide) (fun c110 => ?_) (fun c110 => ?_)
                · have h := h.1 c110
                  refine vr_iconst 0 dX2_seekOperand_113 (by decide) ?_
                  exact vr_iret rfl ⟨_, _, rfl, rfl, h⟩ dX2_seekOperand_114
                · have h := h.2 c110
                  refine vr_sub [3, 4, 5, 2, 1] [(0, vR 1 o), (4, vI x4), (5, vI v5), (6, vR 7 yr33), (7, vI r67)] rfl ?_
                  exact s_X2_seekOperand_b115 ho (hvr33 _ rfl) hX  h
              · have h := h.2 c105
                refine vr_sub [3, 4, 5, 2, 1] [(0, vR 1 o), (4, vI x4), (5, vI v5), (6, vR 7 yr33), (7, vI r67)] rfl ?_
                exact s_X2_seekOperand_b115 ho (hvr33 _ rfl) hX  h
            · have h := h.2 c87
              refine vr_iload 0 dX2_seekOperand_90 rfl ?_
              refine vr_iconst 4 dX2_seekOperand_92 (by decide) ?_
              refine vr_icmpne 100 dX2_seekOperand_93 (by decide) (fun c93 => ?_) (fun c93 => ?_)
              · have h := h.1 c93
                refine vr_iconst 1 dX2_seekOperand_96 (by decide) ?_
                refine vr_goto 101 dX2_seekOperand_97 (by decide) ?_
                refine vr_istore [(8, vI 1), (7, vI r67), (6, vR 7 yr33), (0, vR 1 o), (4, vI x4), (5, vI v5)] dX2_seekOperand_101 (by decide) rfl ?_
                refine vr_iload 5 dX2_seekOperand_103 rfl ?_
                refine vr_ifne 115 dX2_seekOperand_105 (by decide) (fun c105 => ?_) (fun c105 => ?_)
                · have h := h.1 c105
                  refine vr_iload 0 dX2_seekOperand_108 rfl ?_
                  refine vr_ifne 115 dX2_seekOperand_110 (by decide) (fun c110 => ?_) (fun c110 => ?_)
                  · have h := h.1 c110
                    refine vr_iconst 0 dX2_seekOperand_113 (by decide) ?_
                    exact vr_iret rfl ⟨_, _, rfl, rfl, h⟩ dX2_seekOperand_114
                  · have h := h.2 c110
                    refine vr_sub [3, 4, 5, 2, 1] [(0, vR 1 o), (4, vI x4), (5, vI v5), (6, vR 7 yr33), (7, vI r67)] rfl ?_
                    exact s_X2_seekOperand_b115 ho (hvr33 _ rfl) hX  h
                · have h := h.2 c105
                  refine vr_sub [3, 4, 5, 2, 1] [(0, vR 1 o), (4, vI x4), (5, vI v5), (6, vR 7 yr33), (7, vI r67)] rfl ?_
                  exact s_X2_seekOperand_b115 ho (hvr33 _ rfl) hX  h
              · have h := h.2 c93
                refine vr_iconst 0 dX2_seekOperand_100 (by decide) ?_
                refine vr_istore [(8, vI 0), (7, vI r67), (6, vR 7 yr33), (0, vR 1 o), (4, vI x4), (5, vI v5)] dX2_seekOperand_101 (by decide) rfl ?_
                refine vr_iload 5 dX2_seekOperand_103 rfl ?_
                refine vr_ifne 115 dX2_seekOperand_105 (by decide) (fun c105 => ?_) (fun c105 => ?_)
                · have h := h.1 c105
                  refine vr_iload 0 dX2_seekOperand_108 rfl ?_
                  refine vr_ifne 115 dX2_seekOperand_110 (by decide) (fun c110 => ?_) (fun c110 => ?_)
                  · have h := h.1 c110
                    refine vr_iconst 0 dX2_seekOperand_113 (by decide) ?_
                    exact vr_iret rfl ⟨_, _, rfl, rfl, h⟩ dX2_seekOperand_114
                  · have h := h.2 c110
                    refine vr_sub [3, 4, 5, 2, 1] [(0, vR 1 o), (4, vI x4), (5, vI v5), (6, vR 7 yr33), (7, vI r67)] rfl ?_
                    exact s_X2_seekOperand_b115 ho (hvr33 _ rfl) hX  h
                · have h := h.2 c105
                  refine vr_sub [3, 4, 5, 2, 1] [(0, vR 1 o), (4, vI x4), (5, vI v5), (6, vR 7 yr33), (7, vI r67)] rfl ?_
                  exact s_X2_seekOperand_b115 ho (hvr33 _ rfl) hX  h
  · have h := h.2 c22
    refine vr_bipush (-25) dX2_seekOperand_149 (by decide) ?_
    exact vr_iret rfl ⟨_, _, rfl, rfl, h⟩ dX2_seekOperand_151
def F_X2_seekOperand (o : Nat) (x1 : Int32) (x2 : Int32) (x3 : Int32) (x4 : Int32) (P : VP) (post : Int32 → VP → Prop) : Prop :=
  ∀ P2 : VP, P2 = vup P 1 o 7 x1 → (∀ P7 : VP, P7 = vup P2 1 o 8 x2 → (∀ P12 : VP, P12 = vup P7 1 o 9 x3 → (vL2 (F_X2_seekOperand_l18 o x1 x2 x3 x4  post  ) ((0 : Int32)) P12)))
set_option maxRecDepth 4000 in
theorem s_X2_seekOperand {l : Launch} {g : vG} {o : Nat} {x1 : Int32} {x2 : Int32} {x3 : Int32} {x4 : Int32} {P Q : VP} {post : Int32 → VP → Prop} (ho : o < vcnt 1) (h : F_X2_seekOperand o x1 x2 x3 x4 P post) : VC l g yX2_seekOperand cX2_seekOperand 10 (some .int) 3 [vR 1 o, vI x1, vI x2, vI x3, vI x4] (vjn P Q) (vcI Q post) := by
  refine VC.of (by decide +kernel) (Nat.le_of_ble_eq_true rfl) (show VM l g RX2 cX2_seekOperand 10 (some .int) 3 (vcI Q post) 0 [(0, vR 1 o), (1, vI x1), (2, vI x2), (3, vI x3), (4, vI x4)] [] (vjn P Q) from ?_)
  unfold F_X2_seekOperand at h
  refine vr_aload_n 0 0 dX2_seekOperand_0 rfl rfl ?_
  refine vr_iload_n 1 1 dX2_seekOperand_1 rfl rfl ?_
  obtain ⟨P2, eP2⟩ : ∃ y : VP, y = vup P 1 o 7 x1 := ⟨_, rfl⟩
  have h := h P2 eP2
  refine vp_1_7 RX2 rfl ho fl_2_105 eP2 dX2_seekOperand_2 ?_
  refine vr_aload_n 0 0 dX2_seekOperand_5 rfl rfl ?_
  refine vr_iload_n 2 2 dX2_seekOperand_6 rfl rfl ?_
  obtain ⟨P7, eP7⟩ : ∃ y : VP, y = vup P2 1 o 8 x2 := ⟨_, rfl⟩
  have h := h P7 eP7
  refine vp_1_8 RX2 rfl ho fl_2_108 eP7 dX2_seekOperand_7 ?_
  refine vr_aload_n 0 0 dX2_seekOperand_10 rfl rfl ?_
  refine vr_iload_n 3 3 dX2_seekOperand_11 rfl rfl ?_
  obtain ⟨P12, eP12⟩ : ∃ y : VP, y = vup P7 1 o 9 x3 := ⟨_, rfl⟩
  have h := h P12 eP12
  refine vp_1_9 RX2 rfl ho fl_2_111 eP12 dX2_seekOperand_12 ?_
  refine vr_iconst 0 dX2_seekOperand_15 (by decide) ?_
  refine vr_istore [(5, vI 0), (0, vR 1 o), (1, vI x1), (2, vI x2), (3, vI x3), (4, vI x4)] dX2_seekOperand_16 (by decide) rfl ?_
  refine vr_sub [1, 5, 0] [(0, vR 1 o), (4, vI x4), (5, vI 0)] rfl ?_
  exact s_X2_seekOperand_l18 ho  h
theorem dX2_fetch_0 : decode cX2_fetch 0 = .ok (.aload_n 0, 1) := by decide +kernel
theorem dX2_fetch_1 : decode cX2_fetch 1 = .ok (.getfield 12, 3) := by decide +kernel
theorem dX2_fetch_4 : decode cX2_fetch 4 = .ok (.iload_n 1, 1) := by decide +kernel
theorem dX2_fetch_5 : decode cX2_fetch 5 = .ok (.invokevirtual 59, 3) := by decide +kernel
theorem dX2_fetch_8 : decode cX2_fetch 8 = .ok (.astore 4, 2) := by decide +kernel
theorem dX2_fetch_10 : decode cX2_fetch 10 = .ok (.aload 4, 2) := by decide +kernel
theorem dX2_fetch_12 : decode cX2_fetch 12 = .ok (.ifnonnull 6, 3) := by decide +kernel
theorem dX2_fetch_15 : decode cX2_fetch 15 = .ok (.bipush (-20), 2) := by decide +kernel
theorem dX2_fetch_17 : decode cX2_fetch 17 = .ok (.ireturn, 1) := by decide +kernel
theorem dX2_fetch_18 : decode cX2_fetch 18 = .ok (.aload 4, 2) := by decide +kernel
theorem dX2_fetch_20 : decode cX2_fetch 20 = .ok (.iload_n 2, 1) := by decide +kernel
theorem dX2_fetch_21 : decode cX2_fetch 21 = .ok (.invokevirtual 63, 3) := by decide +kernel
theorem dX2_fetch_24 : decode cX2_fetch 24 = .ok (.ifCond .ne 6, 3) := by decide +kernel
theorem dX2_fetch_27 : decode cX2_fetch 27 = .ok (.bipush (-21), 2) := by decide +kernel
theorem dX2_fetch_29 : decode cX2_fetch 29 = .ok (.ireturn, 1) := by decide +kernel
theorem dX2_fetch_30 : decode cX2_fetch 30 = .ok (.aload 4, 2) := by decide +kernel
theorem dX2_fetch_32 : decode cX2_fetch 32 = .ok (.iload_n 3, 1) := by decide +kernel
theorem dX2_fetch_33 : decode cX2_fetch 33 = .ok (.invokevirtual 194, 3) := by decide +kernel
theorem dX2_fetch_36 : decode cX2_fetch 36 = .ok (.ifCond .ne 6, 3) := by decide +kernel
theorem dX2_fetch_39 : decode cX2_fetch 39 = .ok (.bipush (-22), 2) := by decide +kernel
theorem dX2_fetch_41 : decode cX2_fetch 41 = .ok (.ireturn, 1) := by decide +kernel
theorem dX2_fetch_42 : decode cX2_fetch 42 = .ok (.aload 4, 2) := by decide +kernel
theorem dX2_fetch_44 : decode cX2_fetch 44 = .ok (.iload_n 2, 1) := by decide +kernel
theorem dX2_fetch_45 : decode cX2_fetch 45 = .ok (.invokevirtual 72, 3) := by decide +kernel
theorem dX2_fetch_48 : decode cX2_fetch 48 = .ok (.iconst 1, 1) := by decide +kernel
theorem dX2_fetch_49 : decode cX2_fetch 49 = .ok (.if_icmp .eq 20, 3) := by decide +kernel
theorem dX2_fetch_52 : decode cX2_fetch 52 = .ok (.aload 4, 2) := by decide +kernel
theorem dX2_fetch_54 : decode cX2_fetch 54 = .ok (.iload_n 2, 1) := by decide +kernel
theorem dX2_fetch_55 : decode cX2_fetch 55 = .ok (.invokevirtual 72, 3) := by decide +kernel
theorem dX2_fetch_58 : decode cX2_fetch 58 = .ok (.ifCond .ne 8, 3) := by decide +kernel
theorem dX2_fetch_61 : decode cX2_fetch 61 = .ok (.bipush (-23), 2) := by decide +kernel
theorem dX2_fetch_63 : decode cX2_fetch 63 = .ok (.goto 5, 3) := by decide +kernel
theorem dX2_fetch_66 : decode cX2_fetch 66 = .ok (.bipush (-24), 2) := by decide +kernel
theorem dX2_fetch_68 : decode cX2_fetch 68 = .ok (.ireturn, 1) := by decide +kernel
theorem dX2_fetch_69 : decode cX2_fetch 69 = .ok (.aload_n 0, 1) := by decide +kernel
theorem dX2_fetch_70 : decode cX2_fetch 70 = .ok (.aload 4, 2) := by decide +kernel
theorem dX2_fetch_72 : decode cX2_fetch 72 = .ok (.iload_n 2, 1) := by decide +kernel
theorem dX2_fetch_73 : decode cX2_fetch 73 = .ok (.invokevirtual 76, 3) := by decide +kernel
theorem dX2_fetch_76 : decode cX2_fetch 76 = .ok (.putfield 117, 3) := by decide +kernel
theorem dX2_fetch_79 : decode cX2_fetch 79 = .ok (.iconst 0, 1) := by decide +kernel
theorem dX2_fetch_80 : decode cX2_fetch 80 = .ok (.ireturn, 1) := by decide +kernel
def F_X2_fetch (o : Nat) (x1 : Int32) (x2 : Int32) (x3 : Int32) (P : VP) (post : Int32 → VP → Prop) : Prop :=
  (F_X6_find o x1 P (fun r5 => match r5 with | none => (post (((-20) : Int32)) P) | some yr5 => (F_X3_has yr5 x2 P (fun r21 => (r21 = 0 → post (((-21) : Int32)) P) ∧ (¬ r21 = 0 → F_X3_letsRead yr5 x3 P (fun r33 => (r33 = 0 → post (((-22) : Int32)) P) ∧ (¬ r33 = 0 → F_X3_kindAt yr5 x2 P (fun r45 => (r45 = 1 → F_X3_valueAt yr5 x2 P (fun r73 => ∀ P76 : VP, P76 = vup P 1 o 10 r73 → (post ((0 : Int32)) P76))) ∧ (¬ r45 = 1 → F_X3_kindAt yr5 x2 P (fun r55 => (r55 = 0 → post (((-23) : Int32)) P) ∧ (¬ r55 = 0 → post (((-24) : Int32)) P)))))))))))
set_option maxRecDepth 4000 in
theorem s_X2_fetch {l : Launch} {g : vG} {o : Nat} {x1 : Int32} {x2 : Int32} {x3 : Int32} {P Q : VP} {post : Int32 → VP → Prop} (ho : o < vcnt 1) (h : F_X2_fetch o x1 x2 x3 P post) : VC l g yX2_fetch cX2_fetch 5 (some .int) 2 [vR 1 o, vI x1, vI x2, vI x3] (vjn P Q) (vcI Q post) := by
  refine VC.of (by decide +kernel) (Nat.le_of_ble_eq_true rfl) (show VM l g RX2 cX2_fetch 5 (some .int) 2 (vcI Q post) 0 [(0, vR 1 o), (1, vI x1), (2, vI x2), (3, vI x3)] [] (vjn P Q) from ?_)
  unfold F_X2_fetch at h
  refine vr_aload_n 0 0 dX2_fetch_0 rfl rfl ?_
  refine vg_1_0 RX2 rfl ho fl_2_12 dX2_fetch_1 ?_
  refine vr_iload_n 1 1 dX2_fetch_4 rfl rfl ?_
  refine vr_callV RX2 (s_X6_find ho h) rfl ho rfl rfl rfl ml_2_59 rfl yh_X6_find rfl ⟨Nat.le_of_ble_eq_true rfl, Nat.le_of_ble_eq_true rfl⟩ (Nat.le_of_ble_eq_true rfl) ⟨Nat.zero_le _, Nat.zero_le _⟩ dX2_fetch_5 (ko fun r5 hvr5 h => ?_)
  refine vr_astore [(4, vO 7 r5), (0, vR 1 o), (1, vI x1), (2, vI x2), (3, vI x3)] dX2_fetch_8 (by decide) rfl ?_
  refine vr_aload 0 dX2_fetch_10 rfl ?_
  rcases r5 with _ | yr5
  · refine vr_ifnonnullN dX2_fetch_12 ?_
    refine vr_bipush (-20) dX2_fetch_15 (by decide) ?_
    exact vr_iret rfl ⟨_, _, rfl, rfl, h⟩ dX2_fetch_17
  · refine vr_ifnonnullR 18 dX2_fetch_12 (by decide) ?_
    refine vr_aload 0 dX2_fetch_18 rfl ?_
    refine vr_iload_n 2 3 dX2_fetch_20 rfl rfl ?_
    refine vr_callV RX2 (s_X3_has (hvr5 _ rfl) h) rfl (hvr5 _ rfl) rfl rfl rfl ml_2_63 rfl yh_X3_has rfl ⟨Nat.le_of_ble_eq_true rfl, Nat.le_of_ble_eq_true rfl⟩ (Nat.le_of_ble_eq_true rfl) ⟨Nat.zero_le _, Nat.zero_le _⟩ dX2_fetch_21 (ki fun r21 h => ?_)
    refine vr_ifne 30 dX2_fetch_24 (by decide) (fun c24 => ?_) (fun c24 => ?_)
    · have h := h.1 c24
      refine vr_bipush (-21) dX2_fetch_27 (by decide) ?_
      exact vr_iret rfl ⟨_, _, rfl, rfl, h⟩ dX2_fetch_29
    · have h := h.2 c24
      refine vr_aload 0 dX2_fetch_30 rfl ?_
      refine vr_iload_n 3 4 dX2_fetch_32 rfl rfl ?_
      refine vr_callV RX2 (s_X3_letsRead (hvr5 _ rfl) h) rfl (hvr5 _ rfl) rfl rfl rfl ml_2_194 rfl yh_X3_letsRead rfl ⟨Nat.le_of_ble_eq_true rfl, Nat.le_of_ble_eq_true rfl⟩ (Nat.le_of_ble_eq_true rfl) ⟨Nat.zero_le _, Nat.zero_le _⟩ dX2_fetch_33 (ki fun r33 h => ?_)
      refine vr_ifne 42 dX2_fetch_36 (by decide) (fun c36 => ?_) (fun c36 => ?_)
      · have h := h.1 c36
        refine vr_bipush (-22) dX2_fetch_39 (by decide) ?_
        exact vr_iret rfl ⟨_, _, rfl, rfl, h⟩ dX2_fetch_41
      · have h := h.2 c36
        refine vr_aload 0 dX2_fetch_42 rfl ?_
        refine vr_iload_n 2 3 dX2_fetch_44 rfl rfl ?_
        refine vr_callV RX2 (s_X3_kindAt (hvr5 _ rfl) h) rfl (hvr5 _ rfl) rfl rfl rfl ml_2_72 rfl yh_X3_kindAt rfl ⟨Nat.le_of_ble_eq_true rfl, Nat.le_of_ble_eq_true rfl⟩ (Nat.le_of_ble_eq_true rfl) ⟨Nat.zero_le _, Nat.zero_le _⟩ dX2_fetch_45 (ki fun r45 h => ?_)
        refine vr_iconst 1 dX2_fetch_48 (by decide) ?_
        refine vr_icmpeq 69 dX2_fetch_49 (by decide) (fun c49 => ?_) (fun c49 => ?_)
        · have h := h.1 c49
          refine vr_aload_n 0 1 dX2_fetch_69 rfl rfl ?_
          refine vr_aload 0 dX2_fetch_70 rfl ?_
          refine vr_iload_n 2 3 dX2_fetch_72 rfl rfl ?_
          refine vr_callV RX2 (s_X3_valueAt (hvr5 _ rfl) h) rfl (hvr5 _ rfl) rfl rfl rfl ml_2_76 rfl yh_X3_valueAt rfl ⟨Nat.le_of_ble_eq_true rfl, Nat.le_of_ble_eq_true rfl⟩ (Nat.le_of_ble_eq_true rfl) ⟨Nat.zero_le _, Nat.zero_le _⟩ dX2_fetch_73 (ki fun r73 h => ?_)
          obtain ⟨P76, eP76⟩ : ∃ y : VP, y = vup P 1 o 10 r73 := ⟨_, rfl⟩
          have h := h P76 eP76
          refine vp_1_10 RX2 rfl ho fl_2_117 eP76 dX2_fetch_76 ?_
          refine vr_iconst 0 dX2_fetch_79 (by decide) ?_
          exact vr_iret rfl ⟨_, _, rfl, rfl, h⟩ dX2_fetch_80
        · have h := h.2 c49
          refine vr_aload 0 dX2_fetch_52 rfl ?_
          refine vr_iload_n 2 3 dX2_fetch_54 rfl rfl ?_
          refine vr_callV RX2 (s_X3_kindAt (hvr5 _ rfl) h) rfl (hvr5 _ rfl) rfl rfl rfl ml_2_72 rfl yh_X3_kindAt rfl ⟨Nat.le_of_ble_eq_true rfl, Nat.le_of_ble_eq_true rfl⟩ (Nat.le_of_ble_eq_true rfl) ⟨Nat.zero_le _, Nat.zero_le _⟩ dX2_fetch_55 (ki fun r55 h => ?_)
          refine vr_ifne 66 dX2_fetch_58 (by decide) (fun c58 => ?_) (fun c58 => ?_)
          · have h := h.1 c58
            refine vr_bipush (-23) dX2_fetch_61 (by decide) ?_
            refine vr_goto 68 dX2_fetch_63 (by decide) ?_
            exact vr_iret rfl ⟨_, _, rfl, rfl, h⟩ dX2_fetch_68
          · have h := h.2 c58
            refine vr_bipush (-24) dX2_fetch_66 (by decide) ?_
            exact vr_iret rfl ⟨_, _, rfl, rfl, h⟩ dX2_fetch_68
theorem dX2_takeCopies_0 : decode cX2_takeCopies 0 = .ok (.iconst 0, 1) := by decide +kernel
theorem dX2_takeCopies_1 : decode cX2_takeCopies 1 = .ok (.istore_n 1, 1) := by decide +kernel
theorem dX2_takeCopies_2 : decode cX2_takeCopies 2 = .ok (.iload_n 1, 1) := by decide +kernel
theorem dX2_takeCopies_3 : decode cX2_takeCopies 3 = .ok (.aload_n 0, 1) := by decide +kernel
theorem dX2_takeCopies_4 : decode cX2_takeCopies 4 = .ok (.getfield 32, 3) := by decide +kernel
theorem dX2_takeCopies_7 : decode cX2_takeCopies 7 = .ok (.getfield 137, 3) := by decide +kernel
theorem dX2_takeCopies_10 : decode cX2_takeCopies 10 = .ok (.if_icmp .ge 58, 3) := by decide +kernel
theorem dX2_takeCopies_13 : decode cX2_takeCopies 13 = .ok (.iload_n 1, 1) := by decide +kernel
theorem dX2_takeCopies_14 : decode cX2_takeCopies 14 = .ok (.iconst 3, 1) := by decide +kernel
theorem dX2_takeCopies_15 : decode cX2_takeCopies 15 = .ok (.if_icmp .ge 53, 3) := by decide +kernel
theorem dX2_takeCopies_18 : decode cX2_takeCopies 18 = .ok (.aload_n 0, 1) := by decide +kernel
theorem dX2_takeCopies_19 : decode cX2_takeCopies 19 = .ok (.getfield 32, 3) := by decide +kernel
theorem dX2_takeCopies_22 : decode cX2_takeCopies 22 = .ok (.iload_n 1, 1) := by decide +kernel
theorem dX2_takeCopies_23 : decode cX2_takeCopies 23 = .ok (.invokevirtual 140, 3) := by decide +kernel
theorem dX2_takeCopies_26 : decode cX2_takeCopies 26 = .ok (.astore_n 2, 1) := by decide +kernel
theorem dX2_takeCopies_27 : decode cX2_takeCopies 27 = .ok (.aload_n 2, 1) := by decide +kernel
theorem dX2_takeCopies_28 : decode cX2_takeCopies 28 = .ok (.ifnull 34, 3) := by decide +kernel
theorem dX2_takeCopies_31 : decode cX2_takeCopies 31 = .ok (.aload_n 0, 1) := by decide +kernel
theorem dX2_takeCopies_32 : decode cX2_takeCopies 32 = .ok (.aload_n 2, 1) := by decide +kernel
theorem dX2_takeCopies_33 : decode cX2_takeCopies 33 = .ok (.getfield 155, 3) := by decide +kernel
theorem dX2_takeCopies_36 : decode cX2_takeCopies 36 = .ok (.aload_n 2, 1) := by decide +kernel
theorem dX2_takeCopies_37 : decode cX2_takeCopies 37 = .ok (.getfield 158, 3) := by decide +kernel
theorem dX2_takeCopies_40 : decode cX2_takeCopies 40 = .ok (.aload_n 2, 1) := by decide +kernel
theorem dX2_takeCopies_41 : decode cX2_takeCopies 41 = .ok (.getfield 159, 3) := by decide +kernel
theorem dX2_takeCopies_44 : decode cX2_takeCopies 44 = .ok (.invokevirtual 114, 3) := by decide +kernel
theorem dX2_takeCopies_47 : decode cX2_takeCopies 47 = .ok (.istore_n 3, 1) := by decide +kernel
theorem dX2_takeCopies_48 : decode cX2_takeCopies 48 = .ok (.iload_n 3, 1) := by decide +kernel
theorem dX2_takeCopies_49 : decode cX2_takeCopies 49 = .ok (.ifCond .eq 5, 3) := by decide +kernel
theorem dX2_takeCopies_52 : decode cX2_takeCopies 52 = .ok (.iload_n 3, 1) := by decide +kernel
theorem dX2_takeCopies_53 : decode cX2_takeCopies 53 = .ok (.ireturn, 1) := by decide +kernel
theorem dX2_takeCopies_54 : decode cX2_takeCopies 54 = .ok (.aload_n 2, 1) := by decide +kernel
theorem dX2_takeCopies_55 : decode cX2_takeCopies 55 = .ok (.aload_n 0, 1) := by decide +kernel
theorem dX2_takeCopies_56 : decode cX2_takeCopies 56 = .ok (.getfield 117, 3) := by decide +kernel
theorem dX2_takeCopies_59 : decode cX2_takeCopies 59 = .ok (.putfield 163, 3) := by decide +kernel
theorem dX2_takeCopies_62 : decode cX2_takeCopies 62 = .ok (.iinc 1 1, 3) := by decide +kernel
theorem dX2_takeCopies_65 : decode cX2_takeCopies 65 = .ok (.goto (-63), 3) := by decide +kernel
theorem dX2_takeCopies_68 : decode cX2_takeCopies 68 = .ok (.iconst 0, 1) := by decide +kernel
theorem dX2_takeCopies_69 : decode cX2_takeCopies 69 = .ok (.ireturn, 1) := by decide +kernel
def F_X2_takeCopies_l2 (o : Nat)  (post : Int32 → VP → Prop)   (X : Int32 → VP → Prop) (v1 : Int32) (P : VP) : Prop :=
  (v1 < P 14 ((49 * o + 48)) 4 → (v1 < 3 → (F_X1_argumentAt ((49 * o + 48)) v1 P (fun r23 => match r23 with | none => (X (v1 + 1) P) | some yr23 => (F_X2_fetch o (P 16 yr23 0) (P 16 yr23 1) (P 16 yr23 2) P (fun r44 P44 => (r44 = 0 → ∀ P59 : VP, P59 = vup P44 16 yr23 3 (P44 1 o 10) → (X (v1 + 1) P59)) ∧ (¬ r44 = 0 → post r44 P44)))))) ∧ (¬ v1 < 3 → post ((0 : Int32)) P)) ∧ (¬ v1 < P 14 ((49 * o + 48)) 4 → post ((0 : Int32)) P)
set_option maxRecDepth 4000 in
theorem s_X2_takeCopies_l2 {l : Launch} {g : vG} {o : Nat} {Q : VP} {post : Int32 → VP → Prop}    {v1 : Int32} {P : VP} (ho : o < vcnt 1)  (h : vL2 (F_X2_takeCopies_l2 o  post  ) v1 P) : VM l g RX2 cX2_takeCopies 4 (some .int) 3 (vcI Q post) 2 [(0, vR 1 o), (1, vI v1)] [] (vjn P Q) := by
  refine vL2_s (T := fun v1 P => VM l g RX2 cX2_takeCopies 4 (some .int) 3 (vcI Q post) 2 [(0, vR 1 o), (1, vI v1)] [] (vjn P Q)) ?_ h
  clear h
  intro X hX v1 P h
  unfold F_X2_takeCopies_l2 at h
  refine vr_iload_n 1 1 dX2_takeCopies_2 rfl rfl ?_
  refine vr_aload_n 0 0 dX2_takeCopies_3 rfl rfl ?_
  refine vg_1_6 RX2 rfl ho fl_2_32 dX2_takeCopies_4 ?_
  refine vg_14_4 RX2 rfl (vb_14 ho) fl_2_137 dX2_takeCopies_7 ?_
  refine vr_icmpge 68 dX2_takeCopies_10 (by decide) (fun c10 => ?_) (fun c10 => ?_)
  · have h := h.1 c10
    refine vr_iload_n 1 1 dX2_takeCopies_13 rfl rfl ?_
    refine vr_iconst 3 dX2_takeCopies_14 (by decide) ?_
    refine vr_icmpge 68 dX2_takeCopies_15 (by decide) (fun c15 => ?_) (fun c15 => ?_)
    · have h := h.1 c15
      refine vr_aload_n 0 0 dX2_takeCopies_18 rfl rfl ?_
      refine vg_1_6 RX2 rfl ho fl_2_32 dX2_takeCopies_19 ?_
      refine vr_iload_n 1 1 dX2_takeCopies_22 rfl rfl ?_
      refine vr_callV RX2 (s_X1_argumentAt (vb_14 ho) h) rfl (vb_14 ho) rfl rfl rfl ml_2_140 rfl yh_X1_argumentAt rfl ⟨Nat.le_of_ble_eq_true rfl, Nat.le_of_ble_eq_true rfl⟩ (Nat.le_of_ble_eq_true rfl) ⟨Nat.zero_le _, Nat.zero_le _⟩ dX2_takeCopies_23 (ko fun r23 hvr23 h => ?_)
      refine vr_astore_n 2 [(2, vO 16 r23), (0, vR 1 o), (1, vI v1)] dX2_takeCopies_26 rfl (by decide) rfl ?_
      refine vr_aload_n 2 0 dX2_takeCopies_27 rfl rfl ?_
      rcases r23 with _ | yr23
      · refine vr_ifnullN 62 dX2_takeCopies_28 (by decide) ?_
        refine vr_iinc (v1 + 1) 2 [(1, vI (v1 + 1)), (2, vN), (0, vR 1 o)] dX2_takeCopies_62 rfl rfl (by decide) rfl ?_
        refine vr_goto 2 dX2_takeCopies_65 (by decide) ?_
        refine vr_sub [2, 0] [(0, vR 1 o), (1, vI (v1 + 1))] rfl ?_
        exact hX _ _ h
      · refine vr_ifnullR dX2_takeCopies_28 ?_
        refine vr_aload_n 0 1 dX2_takeCopies_31 rfl rfl ?_
        refine vr_aload_n 2 0 dX2_takeCopies_32 rfl rfl ?_
        refine vg_16_0 RX2 rfl (hvr23 _ rfl) fl_2_155 dX2_takeCopies_33 ?_
        refine vr_aload_n 2 0 dX2_takeCopies_36 rfl rfl ?_
        refine vg_16_1 RX2 rfl (hvr23 _ rfl) fl_2_158 dX2_takeCopies_37 ?_
        refine vr_aload_n 2 0 dX2_takeCopies_40 rfl rfl ?_
        refine vg_16_2 RX2 rfl (hvr23 _ rfl) fl_2_159 dX2_takeCopies_41 ?_
        refine vr_callV RX2 (s_X2_fetch ho h) rfl ho rfl rfl rfl ml_2_114 rfl yh_X2_fetch rfl ⟨Nat.le_of_ble_eq_true rfl, Nat.le_of_ble_eq_true rfl⟩ (Nat.le_of_ble_eq_true rfl) ⟨Nat.zero_le _, Nat.zero_le _⟩ dX2_takeCopies_44 (kci fun r44 P44 h => ?_)
        refine vr_istore_n 3 [(3, vI r44), (2, vR 16 yr23), (0, vR 1 o), (1, vI v1)] dX2_takeCopies_47 rfl (by decide) rfl ?_
        refine vr_iload_n 3 0 dX2_takeCopies_48 rfl rfl ?_
        refine vr_ifeq 54 dX2_takeCopies_49 (by decide) (fun c49 => ?_) (fun c49 => ?_)
        · have h := h.1 c49
          refine vr_aload_n 2 1 dX2_takeCopies_54 rfl rfl ?_
          refine vr_aload_n 0 2 dX2_takeCopies_55 rfl rfl ?_
          refine vg_1_10 RX2 rfl ho fl_2_117 dX2_takeCopies_56 ?_
          obtain ⟨P59, eP59⟩ : ∃ y : VP, y = vup P44 16 yr23 3 (P44 1 o 10) := ⟨_, rfl⟩
          have h := h P59 eP59
          refine vp_16_3 RX2 rfl (hvr23 _ rfl) fl_2_163 eP59 dX2_takeCopies_59 ?_
          refine vr_iinc (v1 + 1) 3 [(1, vI (v1 + 1)), (3, vI r44), (2, vR 16 yr23), (0, vR 1 o)] dX2_takeCopies_62 rfl rfl (by decide) rfl ?_
          refine vr_goto 2 dX2_takeCopies_65 (by decide) ?_
          refine vr_sub [3, 0] [(0, vR 1 o), (1, vI (v1 + 1))] rfl ?_
          exact hX _ _ h
        · have h := h.2 c49
          refine vr_iload_n 3 0 dX2_takeCopies_52 rfl rfl ?_
          exact vr_iret rfl ⟨_, _, rfl, rfl, h⟩ dX2_takeCopies_53
    · have h := h.2 c15
      refine vr_iconst 0 dX2_takeCopies_68 (by decide) ?_
      exact vr_iret rfl ⟨_, _, rfl, rfl, h⟩ dX2_takeCopies_69
  · have h := h.2 c10
    refine vr_iconst 0 dX2_takeCopies_68 (by decide) ?_
    exact vr_iret rfl ⟨_, _, rfl, rfl, h⟩ dX2_takeCopies_69
def F_X2_takeCopies (o : Nat) (P : VP) (post : Int32 → VP → Prop) : Prop :=
  vL2 (F_X2_takeCopies_l2 o  post  ) ((0 : Int32)) P
set_option maxRecDepth 4000 in
theorem s_X2_takeCopies {l : Launch} {g : vG} {o : Nat} {P Q : VP} {post : Int32 → VP → Prop} (ho : o < vcnt 1) (h : F_X2_takeCopies o P post) : VC l g yX2_takeCopies cX2_takeCopies 4 (some .int) 3 [vR 1 o] (vjn P Q) (vcI Q post) := by
  refine VC.of (by decide +kernel) (Nat.le_of_ble_eq_true rfl) (show VM l g RX2 cX2_takeCopies 4 (some .int) 3 (vcI Q post) 0 [(0, vR 1 o)] [] (vjn P Q) from ?_)
  unfold F_X2_takeCopies at h
  refine vr_iconst 0 dX2_takeCopies_0 (by decide) ?_
  refine vr_istore_n 1 [(1, vI 0), (0, vR 1 o)] dX2_takeCopies_1 rfl (by decide) rfl ?_
  refine vr_sub [1, 0] [(0, vR 1 o), (1, vI 0)] rfl ?_
  exact s_X2_takeCopies_l2 ho  h
theorem dX4_heightOf_0 : decode cX4_heightOf 0 = .ok (.iload_n 1, 1) := by decide +kernel
theorem dX4_heightOf_1 : decode cX4_heightOf 1 = .ok (.ifCond .lt 21, 3) := by decide +kernel
theorem dX4_heightOf_4 : decode cX4_heightOf 4 = .ok (.iload_n 1, 1) := by decide +kernel
theorem dX4_heightOf_5 : decode cX4_heightOf 5 = .ok (.aload_n 0, 1) := by decide +kernel
theorem dX4_heightOf_6 : decode cX4_heightOf 6 = .ok (.getfield 9, 3) := by decide +kernel
theorem dX4_heightOf_9 : decode cX4_heightOf 9 = .ok (.arraylength, 1) := by decide +kernel
theorem dX4_heightOf_10 : decode cX4_heightOf 10 = .ok (.if_icmp .ge 12, 3) := by decide +kernel
theorem dX4_heightOf_13 : decode cX4_heightOf 13 = .ok (.aload_n 0, 1) := by decide +kernel
theorem dX4_heightOf_14 : decode cX4_heightOf 14 = .ok (.getfield 9, 3) := by decide +kernel
theorem dX4_heightOf_17 : decode cX4_heightOf 17 = .ok (.iload_n 1, 1) := by decide +kernel
theorem dX4_heightOf_18 : decode cX4_heightOf 18 = .ok (.iaload, 1) := by decide +kernel
theorem dX4_heightOf_19 : decode cX4_heightOf 19 = .ok (.goto 4, 3) := by decide +kernel
theorem dX4_heightOf_22 : decode cX4_heightOf 22 = .ok (.iconst 0, 1) := by decide +kernel
theorem dX4_heightOf_23 : decode cX4_heightOf 23 = .ok (.ireturn, 1) := by decide +kernel
def F_X4_heightOf (o : Nat) (x1 : Int32) (P : VP) (post : Int32 → Prop) : Prop :=
  (x1 < 0 → post ((0 : Int32))) ∧ (¬ x1 < 0 → (x1 < 8 → (0 ≤ x1 ∧ x1 < 8) ∧ (post (P 12 o (ix x1)))) ∧ (¬ x1 < 8 → post ((0 : Int32))))
set_option maxRecDepth 4000 in
theorem s_X4_heightOf {l : Launch} {g : vG} {o : Nat} {x1 : Int32} {P Q : VP} {post : Int32 → Prop} (ho : o < vcnt 11) (h : F_X4_heightOf o x1 P post) : VC l g yX4_heightOf cX4_heightOf 2 (some .int) 0 [vR 11 o, vI x1] (vjn P Q) (vpI (vjn P Q) post) := by
  refine VC.of (by decide +kernel) (Nat.le_of_ble_eq_true rfl) (show VM l g RX4 cX4_heightOf 2 (some .int) 0 (vpI (vjn P Q) post) 0 [(0, vR 11 o), (1, vI x1)] [] (vjn P Q) from ?_)
  unfold F_X4_heightOf at h
  refine vr_iload_n 1 1 dX4_heightOf_0 rfl rfl ?_
  refine vr_iflt 22 dX4_heightOf_1 (by decide) (fun c1 => ?_) (fun c1 => ?_)
  · have h := h.1 c1
    refine vr_iconst 0 dX4_heightOf_22 (by decide) ?_
    exact vr_iret rfl ⟨rfl, _, rfl, h⟩ dX4_heightOf_23
  · have h := h.2 c1
    refine vr_iload_n 1 1 dX4_heightOf_4 rfl rfl ?_
    refine vr_aload_n 0 0 dX4_heightOf_5 rfl rfl ?_
    refine vg_11_0 RX4 rfl ho fl_4_9 dX4_heightOf_6 ?_
    refine vr_alen 8 ((ia_12 (x := o) ho)).2.1 ((ia_12 (x := o) ho)).1 rfl dX4_heightOf_9 ?_
    refine vr_icmpge 22 dX4_heightOf_10 (by decide) (fun c10 => ?_) (fun c10 => ?_)
    · have h := h.1 c10
      refine vr_aload_n 0 0 dX4_heightOf_13 rfl rfl ?_
      refine vg_11_0 RX4 rfl ho fl_4_9 dX4_heightOf_14 ?_
      refine vr_iload_n 1 1 dX4_heightOf_17 rfl rfl ?_
      have hi := h.1
      have h := h.2
      refine vr_ialdP 8 (ia_12 (x := o) ho) rfl hi dX4_heightOf_18 ?_
      refine vr_goto 23 dX4_heightOf_19 (by decide) ?_
      exact vr_iret rfl ⟨rfl, _, rfl, h⟩ dX4_heightOf_23
    · have h := h.2 c10
      refine vr_iconst 0 dX4_heightOf_22 (by decide) ?_
      exact vr_iret rfl ⟨rfl, _, rfl, h⟩ dX4_heightOf_23
