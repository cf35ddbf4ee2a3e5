/-! the walk: the relation without the machine's own places; gone through, with and without a snap -/
def RN (i κ : Nat) (P Q : VP) : Prop := RD i κ P Q ∧ RG i κ P Q ∧ RW i κ P Q ∧ RF i κ P Q
theorem RN_of {i κ : Nat} {P Q : VP} (h : RM i κ P Q) : RN i κ P Q := h.2
theorem RN_word {i κ : Nat} {P Q : VP} {s w k v n a0 a1 a2 a3 a4 a5 : Int32} (h : RN i κ P Q) (hs : 0 ≤ s ∧ s < 16) (hw : 0 ≤ w ∧ w < 24) (hr : WR k v n a0 a1 a2 a3 a4 a5) : RN i κ (WP P (16 * i + ix s) w k v n) (WQ Q κ s w a0 a1 a2 a3 a4 a5) := by
  obtain ⟨m2, m3, m4, m5⟩ := h
  have lo : ∀ a : Int32, 0 ≤ a ∧ a < 192 → WQ Q κ s w a0 a1 a2 a3 a4 a5 κ 0 (ix a) = Q κ 0 (ix a) := fun a ha => WQ_ne hs hw ha.1 (z_lw hs hw ha)
  refine ⟨RD_eq m2 (fun k j k0 k1 => WP_ne (by omega)) (fun a ha => lo a (g_6 ha)), RG_eq m3 (fun s j => WP_ne (by omega)) (fun a ha => lo a (z_lh ha)) (by rw [lo 0 (by decide)]; exact z_le _), ?_, RF_eq m5 (fun j => WP_ne (by omega)) (fun x j _ => WP_ne (by omega)) (fun x j _ => WP_ne (by omega)) (fun a ha => WQ_ne hs hw (g_1 hs hw ha).1 (g_1 hs hw ha).2)⟩
  intro t u t0 t1 u0 u1 hy
  rw [WP_ne (by omega)] at hy
  by_cases q : t = s ∧ u = w
  · obtain ⟨rfl, rfl⟩ := q
    obtain ⟨p1, p2, p3⟩ := WP_at P (16 * i + ix t) u k v n
    obtain ⟨q0, q1, q2, q3, q4, q5⟩ := WQ_at (Q := Q) (κ := κ) (a0 := a0) (a1 := a1) (a2 := a2) (a3 := a3) (a4 := a4) (a5 := a5) hs hw
    rw [p1, p2, p3, q0, q1, q2, q3, q4, q5]
    exact hr
  · have ht : 0 ≤ t ∧ t < 16 := ⟨t0, t1⟩
    have hu : 0 ≤ u ∧ u < 24 := ⟨u0, u1⟩
    have hA := g_2 hs ht hw hu q
    have hne : ¬ (16 * i + ix t = 16 * i + ix s ∧ ix u = ix w) := fun e => q ⟨ix_inj t0 hs.1 (by omega), ix_inj u0 hw.1 e.2⟩
    have g := fun j hj => g_3 (j := j) hA (g_4 ht hu) (g_4 hs hw) hj
    rw [WP_ne (by omega), WP_ne (by omega), WP_ne (by omega), WQ_ne hs hw (z_wd ht hu).1 (g_3b hA (g_4 ht hu) (g_4 hs hw)), WQ_ne hs hw (z_wc ht hu (by decide)).1 (g 1 (by decide)), WQ_ne hs hw (z_wc ht hu (by decide)).1 (g 2 (by decide)), WQ_ne hs hw (z_wc ht hu (by decide)).1 (g 3 (by decide)), WQ_ne hs hw (z_wc ht hu (by decide)).1 (g 4 (by decide)), WQ_ne hs hw (z_wc ht hu (by decide)).1 (g 5 (by decide))]
    exact m4 t u t0 t1 u0 u1 hy
theorem RN_regs {i κ : Nat} {P Q : VP} {s w e s' w' e' : Int32} (h : RN i κ P Q) (hk : ¬ κ = 22) : RN i κ (LPc P i s w e) (LGm Q s' w' e') := by
  obtain ⟨m2, m3, m4, m5⟩ := h
  have q : ∀ j, LGm Q s' w' e' κ 0 j = Q κ 0 j := fun j => LGm_ne (by omega)
  exact ⟨RD_eq m2 (fun k j _ _ => LPc_ne (by omega)) (fun _ _ => q _), RG_eq m3 (fun s j => LPc_ne (by omega)) (fun _ _ => q _) (by rw [q]; exact z_le _), RW_eq m4 (fun k s j _ _ => LPc_ne (by omega)) (fun _ _ => q _), RF_eq m5 (fun j => LPc_ne (by omega)) (fun x j _ => LPc_ne (by omega)) (fun x j _ => LPc_ne (by omega)) (fun _ _ => q _)⟩
/-- what a walk leaves as it was -/
def KW (i : Nat) (P P1 : VP) : Prop := ∀ k x j, ¬ (k = 1 ∧ x = i ∧ 7 ≤ j ∧ j ≤ 9) → ¬ ((k = 8 ∨ k = 9 ∨ k = 10) ∧ x / 16 = i) → P1 k x j = P k x j
def KX (κ : Nat) (Q Q1 : VP) : Prop := (∀ k x j, ¬ k = κ → ¬ (k = 22 ∧ 13 ≤ j ∧ j ≤ 15) → Q1 k x j = Q k x j) ∧ ∀ a : Int32, 0 ≤ a → ¬ (200 ≤ a ∧ a < 2504) → Q1 κ 0 (ix a) = Q κ 0 (ix a)
def RO (i : Nat) (P P1 : VP) : Prop := ∀ k x j, ¬ (k = 1 ∧ x = i ∧ 7 ≤ j ∧ j ≤ 9) → P1 k x j = P k x j
def WK (i κ : Nat) (f : Int32) (P Q P1 Q1 : VP) : Prop := KW i P P1 ∧ KX κ Q Q1 ∧ BI P1 ∧ (f = 1 → RN i κ P1 Q1) ∧ (f = 0 → RO i P P1)
theorem WK_t {i κ : Nat} {f : Int32} {P Q P1 Q1 P2 Q2 : VP} (h : WK i κ f P Q P1 Q1) (h' : WK i κ f P1 Q1 P2 Q2) : WK i κ f P Q P2 Q2 :=
  ⟨fun k x j a b => (h'.1 k x j a b).trans (h.1 k x j a b), ⟨fun k x j a b => (h'.2.1.1 k x j a b).trans (h.2.1.1 k x j a b), fun a a0 a1 => (h'.2.1.2 a a0 a1).trans (h.2.1.2 a a0 a1)⟩, h'.2.2.1, h'.2.2.2.1, fun q k x j a => (h'.2.2.2.2 q k x j a).trans (h.2.2.2.2 q k x j a)⟩
theorem KW_L {i : Nat} {P P1 : VP} {s w e : Int32} (h : KW i P P1) : KW i P (LPc P1 i s w e) := fun k x j a b => by
  rw [LPc_ne a]; exact h k x j a b
theorem KX_L {κ : Nat} {Q Q1 : VP} {s w e : Int32} (hk : ¬ κ = 22) (h : KX κ Q Q1) : KX κ Q (LGm Q1 s w e) := by
  refine ⟨fun k x j a b => ?_, fun a a0 a1 => ?_⟩
  · rw [LGm_ne b]; exact h.1 k x j a b
  · rw [LGm_ne (by omega)]; exact h.2 a a0 a1
theorem KW_W {i : Nat} {P P1 : VP} {s w k v n : Int32} (h : KW i P P1) (hs : 0 ≤ s ∧ s < 16) : KW i P (WP P1 (16 * i + ix s) w k v n) := fun k x j a b => by
  rw [WP_ne (fun q => b ⟨q.1, by have := ix16 s hs; omega⟩)]
  exact h k x j a b
theorem z_xw {s w a : Int32} (hs : 0 ≤ s ∧ s < 16) (hw : 0 ≤ w ∧ w < 24) (h : ¬ (200 ≤ a ∧ a < 2504)) : ¬ (wa s w ≤ a ∧ a ≤ wa s w + 5) := by lia
theorem KX_W {κ : Nat} {Q Q1 : VP} {s w a0 a1 a2 a3 a4 a5 : Int32} (h : KX κ Q Q1) (hs : 0 ≤ s ∧ s < 16) (hw : 0 ≤ w ∧ w < 24) : KX κ Q (WQ Q1 κ s w a0 a1 a2 a3 a4 a5) := by
  refine ⟨fun k x j a b => ?_, fun a a0 a1 => ?_⟩
  · rw [WQ_k a]; exact h.1 k x j a b
  · rw [WQ_ne hs hw a0 (z_xw hs hw a1)]; exact h.2 a a0 a1
theorem KW_r (i : Nat) (P : VP) : KW i P P := fun _ _ _ _ _ => rfl
theorem KX_r (κ : Nat) (Q : VP) : KX κ Q Q := ⟨fun _ _ _ _ _ => rfl, fun _ _ _ => rfl⟩
theorem RO_L (i : Nat) (P : VP) (s w e : Int32) : RO i P (LPc P i s w e) := fun _ _ _ a => LPc_ne a
/-- where the walk has come, on both sides -/
def WL (i : Nat) (P Q : VP) : Prop := P 1 i 7 = Q 22 0 14 ∧ P 1 i 8 = Q 22 0 15 ∧ P 1 i 9 = Q 22 0 13 ∧ 0 ≤ Q 22 0 13 ∧ Q 22 0 13 < 8
theorem WL_at {i : Nat} {P Q : VP} {s w e : Int32} (he : 0 ≤ e ∧ e < 8) : WL i (LPc P i s w e) (LGm Q s w e) := by
  obtain ⟨p1, p2, p3⟩ := LPc_at P i s w e
  obtain ⟨q1, q2, q3⟩ := LGm_at Q s w e
  unfold WL
  rw [p1, p2, p3, q1, q2, q3]
  exact ⟨rfl, rfl, rfl, he.1, he.2⟩
theorem d_thru {i κ : Nat} {P Q : VP} {s w e k f : Int32} (hf : f = 0 ∨ f = 1) (hB : BI P) (hN : RN i κ P Q) (hκ : vlI κ = 3464) (hk22 : ¬ κ = 22) (hs : 0 ≤ s ∧ s < 16) (hy : P 7 (16 * i + ix s) 0 = 1) (hw : 0 ≤ w ∧ w < P 7 (16 * i + ix s) 4) (p8 : P 1 i 8 = w) (p9 : P 1 i 9 = e) (q14 : Q 22 0 14 = s) (q15 : Q 22 0 15 = w) (q13 : Q 22 0 13 = e) (he : 0 ≤ e ∧ e < 8) (hr : An (F_X3_letsRead (16 * i + ix s) e P) 1) (hkd : Q κ 0 (ix (wa s w)) = k) (hk : k = 2 ∨ k = 3 ∨ k = 4 ∨ k = 5) : ((∀ post : Int32 → VP → Prop, post (-26) P → F_X2_goThrough i (16 * i + ix s) k f P post) ∧ (∀ post : Int32 → VP → Prop, post (-26) Q → F_X8_through κ k Q post)) ∨ ∃ P1 Q1, WK i κ f P Q P1 Q1 ∧ (k = 3 → RN i κ P1 Q1) ∧ WL i P1 Q1 ∧ (∀ post : Int32 → VP → Prop, post 0 P1 → F_X2_goThrough i (16 * i + ix s) k f P post) ∧ (∀ post : Int32 → VP → Prop, post 0 Q1 → F_X8_through κ k Q post) := by
  obtain ⟨hD, hG, hW, -⟩ := id hN
  have hw24 := z_lt24 hw (hB.2.1 _).2
  have hwr := hW s w hs.1 hs.2 hw24.1 hw24.2 hy
  have hH := (hG s hs.1 hs.2).2 hy
  have cv := c_valueAt hB (y := 16 * i + ix s) hw24
  obtain ⟨-, -, -, -, h5, -, -, -, -, -, -, b1, b2, b3, b4⟩ := id hH
  have r1' : 0 ≤ Q κ 0 (ix (112 + s)) ∧ Q κ 0 (ix (112 + s)) < 8 := ⟨b1, z_lt3 b2 b3 b4⟩
  have n0 : ¬ k = 0 ∧ ¬ k = 1 ∧ ¬ k = 6 := by
    rcases hk with rfl | rfl | rfl | rfl <;> decide
  by_cases k4 : k = 4
  · subst k4
    obtain ⟨ev, c1, c2⟩ := wr_4 hwr hkd
    obtain ⟨dv1, dv2⟩ := dv_link c1 c2
    obtain ⟨r, lk, fr⟩ := m_found (κ := κ) (Q := Q) hκ hD.2.2.2.2.2.2.1 hs (n := Q κ 0 (ix (wa s w + 1)))
    have sk := c_seek hG hD hB hH.1 lk
    have t1 := m_told (κ := κ) (Q := Q) (j := 1) hκ hs hw24 (by decide)
    have t2 := m_told (κ := κ) (Q := Q) (j := 2) hκ hs hw24 (by decide)
    by_cases hr0 : r < 0
    · refine Or.inl ⟨fun post hp => ?_, fun post hp => ?_⟩
      · unfold F_X2_goThrough
        rw [p9, p8]
        refine hr _ (br_f (by decide) (br_f n0.1 (br_f n0.2.1 (br_f n0.2.2 (cv _ (br_t rfl ?_))))))
        rw [ev, dv1]
        exact sk _ (br_t hr0 hp)
      · unfold F_X8_through
        rw [q14, q15]
        exact br_t rfl (t1 _ (t2 _ (fr _ (br_t hr0 hp))))
    · have hrr : 0 ≤ r ∧ r < 16 := (LK_r lk).resolve_left (fun q => hr0 (by rw [q]; decide))
      have hN2 := RN_word (k := 5) (v := 1000 * r + 100 * e + Q κ 0 (ix (wa s w + 2))) (n := 100 * Q κ 0 (ix (wa s w + 1)) + Q κ 0 (ix (wa s w + 2))) (a0 := 5) (a1 := e) (a2 := r) (a3 := Q κ 0 (ix (wa s w + 2))) (a4 := Q κ 0 (ix (wa s w + 1))) (a5 := Q κ 0 (ix (wa s w + 2))) hN hs hw24 ⟨rfl, Or.inr (Or.inr (Or.inr (Or.inr (Or.inl ⟨rfl, rfl, rfl, ⟨he, hrr, c2⟩, c1, c2⟩))))⟩
      have hB2 := BI_W (k := 5) (v := 1000 * r + 100 * e + Q κ 0 (ix (wa s w + 2))) (n := 100 * Q κ 0 (ix (wa s w + 1)) + Q κ 0 (ix (wa s w + 2))) hB hw
      obtain ⟨w0, w1, w2, w3, w4, w5⟩ := WQ_at (Q := Q) (κ := κ) (a0 := 5) (a1 := e) (a2 := r) (a3 := Q κ 0 (ix (wa s w + 2))) (a4 := Q κ 0 (ix (wa s w + 1))) (a5 := Q κ 0 (ix (wa s w + 2))) hs hw24
      have h112 := WQ_ne (Q := Q) (κ := κ) (a0 := 5) (a1 := e) (a2 := r) (a3 := Q κ 0 (ix (wa s w + 2))) (a4 := Q κ 0 (ix (wa s w + 1))) (a5 := Q κ 0 (ix (wa s w + 2))) hs hw24 (z_p (z_h (c := 112) (m := 7) hs (by decide) (by decide))) (z_lw hs hw24 (z_lh (z_h (c := 112) (m := 7) hs (by decide) (by decide))))
      have r1q := r1'
      rw [← h112] at r1q
      have hE := imax_in he (imax_in he r1q)
      have thr : ∀ post : Int32 → VP → Prop, post 0 (LGm (WQ Q κ s w 5 e r (Q κ 0 (ix (wa s w + 2))) (Q κ 0 (ix (wa s w + 1))) (Q κ 0 (ix (wa s w + 2)))) r (Q κ 0 (ix (wa s w + 2))) (imax e (imax e (WQ Q κ s w 5 e r (Q κ 0 (ix (wa s w + 2))) (Q κ 0 (ix (wa s w + 1))) (Q κ 0 (ix (wa s w + 2))) κ 0 (ix (112 + s)))))) → F_X8_through κ 4 Q post := by
        obtain ⟨l1, l2⟩ := d_land (i := i) (y := 16 * i + ix s) (P := P) (e := e) hκ hk22 hs hw24 (by rw [h112]; exact h5) p9 (by rw [WQ_k (fun q => hk22 q.symm)]; exact q13) w1 w2 w3 he hrr c2
        intro post hp
        unfold F_X8_through
        rw [q14, q15, q13]
        exact br_t rfl (t1 _ (t2 _ (fr _ (br_f hr0 (m_writes hκ hs hw24 (l2 _ _ hp))))))
      rcases hf with rfl | rfl
      · obtain ⟨l1, l2⟩ := d_land (i := i) (y := 16 * i + ix s) (P := P) (e := e) hκ hk22 hs hw24 (by rw [h112]; exact h5) p9 (by rw [WQ_k (fun q => hk22 q.symm)]; exact q13) w1 w2 w3 he hrr c2
        refine Or.inr ⟨_, _, ⟨KW_L (KW_r _ _), KX_L hk22 (KX_W (KX_r _ _) hs hw24), BI_regs hB, fun q => absurd q (by decide), fun _ => RO_L _ _ _ _ _⟩, fun q => absurd q (by decide), WL_at (s := r) (w := Q κ 0 (ix (wa s w + 2))) hE, fun post hp => ?_, thr⟩
        unfold F_X2_goThrough
        rw [p9, p8]
        refine hr _ (br_f (by decide) (br_f n0.1 (br_f n0.2.1 (br_f n0.2.2 (cv _ (br_t rfl ?_))))))
        rw [ev, dv1]
        refine sk _ (br_f hr0 (fun v4 e4 => br_t rfl ?_))
        rw [dv1] at dv2
        rw [dv2] at e4
        subst e4
        exact l1 _ _ _ hp
      · obtain ⟨l1, l2⟩ := d_land (i := i) (y := 16 * i + ix s) (P := WP P (16 * i + ix s) w 5 (1000 * r + 100 * e + Q κ 0 (ix (wa s w + 2))) (100 * Q κ 0 (ix (wa s w + 1)) + Q κ 0 (ix (wa s w + 2)))) (e := e) hκ hk22 hs hw24 (by rw [WP_ne (by omega), h112]; exact h5) (by rw [WP_ne (by omega)]; exact p9) (by rw [WQ_k (fun q => hk22 q.symm)]; exact q13) w1 w2 w3 he hrr c2
        refine Or.inr ⟨_, _, ⟨KW_L (KW_W (KW_r _ _) hs), KX_L hk22 (KX_W (KX_r _ _) hs hw24), BI_regs hB2, fun _ => RN_regs hN2 hk22, fun q => absurd q (by decide)⟩, fun q => absurd q (by decide), WL_at (s := r) (w := Q κ 0 (ix (wa s w + 2))) hE, fun post hp => ?_, thr⟩
        unfold F_X2_goThrough
        rw [p9, p8]
        refine hr _ (br_f (by decide) (br_f n0.1 (br_f n0.2.1 (br_f n0.2.2 (cv _ (br_t rfl ?_))))))
        rw [ev, dv1]
        refine sk _ (br_f hr0 (fun v4 e4 => br_f (by decide) ?_))
        rw [dv1] at dv2
        rw [dv2] at e4
        subst e4
        exact c_become (c_has hB hw) hw24 (l1 _ _ _ hp)
  · have hk3 : Q κ 0 (ix (wa s w)) = 2 ∨ Q κ 0 (ix (wa s w)) = 3 ∨ Q κ 0 (ix (wa s w)) = 5 := by
      rw [hkd]
      rcases hk with q | q | q | q
      · exact Or.inl q
      · exact Or.inr (Or.inl q)
      · exact absurd q k4
      · exact Or.inr (Or.inr q)
    obtain ⟨ev, c1, c2, c3⟩ := wr_p hwr hk3
    obtain ⟨l1, l2⟩ := d_land (i := i) (y := 16 * i + ix s) (P := P) (Q := Q) (e := e) hκ hk22 hs hw24 h5 p9 q13 rfl rfl rfl c1 c2 c3
    refine Or.inr ⟨_, _, ⟨KW_L (KW_r _ _), KX_L hk22 (KX_r _ _), BI_regs hB, fun _ => RN_regs hN hk22, fun _ => RO_L _ _ _ _ _⟩, fun _ => RN_regs hN hk22, WL_at (s := Q κ 0 (ix (wa s w + 2))) (w := Q κ 0 (ix (wa s w + 3))) (imax_in he (imax_in c1 r1')), fun post hp => ?_, fun post hp => ?_⟩
    · unfold F_X2_goThrough
      rw [p9, p8]
      refine hr _ (br_f (by decide) (br_f n0.1 (br_f n0.2.1 (br_f n0.2.2 (cv _ (br_f k4 ?_))))))
      rw [ev]
      exact l1 _ _ _ hp
    · unfold F_X8_through
      rw [q14, q15]
      exact br_f k4 (l2 _ _ hp)
