theorem z_lt3 {a b c : Int32} (h1 : a ≤ b) (h2 : b ≤ c) (h3 : c < 8) : a < 8 := by lia
/-- what a step leaves as it was -/
def KP (i : Nat) (P P1 : VP) : Prop := ∀ k x j, ¬ (own k x = i ∧ 1 ≤ k ∧ k ≤ 16) → P1 k x j = P k x j
def KQ (κ : Nat) (Q Q1 : VP) : Prop := ∀ k x j, ¬ k = κ → ¬ (k = 22 ∧ 13 ≤ j ∧ j ≤ 17) → Q1 k x j = Q k x j
theorem KP_L {i : Nat} {P P1 : VP} {s w e : Int32} (h : KP i P P1) : KP i P (LPc P1 i s w e) := fun k x j hk => by
  rw [LPc_ne (fun q => hk ⟨by rw [q.1, q.2.1]; rfl, by omega, by omega⟩)]
  exact h k x j hk
theorem KP_W {i : Nat} {P P1 : VP} {s w k v n : Int32} (h : KP i P P1) (hs : 0 ≤ s ∧ s < 16) : KP i P (WP P1 (16 * i + ix s) w k v n) := fun k x j hk => by
  rw [WP_ne (fun q => hk ⟨by unfold own; rw [if_pos ⟨by omega, by omega⟩]; have := ix16 s hs; omega, by omega, by omega⟩)]
  exact h k x j hk
theorem KQ_L {κ : Nat} {Q Q1 : VP} {s w e : Int32} (h : KQ κ Q Q1) : KQ κ Q (LGm Q1 s w e) := fun k x j hk hj => by
  rw [LGm_ne (by omega)]
  exact h k x j hk hj
theorem KQ_W {κ : Nat} {Q Q1 : VP} {s w a0 a1 a2 a3 a4 a5 : Int32} (h : KQ κ Q Q1) : KQ κ Q (WQ Q1 κ s w a0 a1 a2 a3 a4 a5) := fun k x j hk hj => by
  rw [WQ_k hk]
  exact h k x j hk hj
theorem d_through {i κ : Nat} {P Q : VP} {s w e k : Int32} (hB : BI P) (hM : RM i κ P Q) (hκ : vlI κ = 3464) (hk22 : ¬ κ = 22) (hs : 0 ≤ s ∧ s < 16) (hy : P 7 (16 * i + ix s) 0 = 1) (hw : 0 ≤ w ∧ w < P 7 (16 * i + ix s) 4) (p8 : P 1 i 8 = w) (p9 : P 1 i 9 = e) (q14 : Q 22 0 14 = s) (q15 : Q 22 0 15 = w) (q13 : Q 22 0 13 = e) (he : 0 ≤ e ∧ e < 8) (hr : An (F_X3_letsRead (16 * i + ix s) e P) 1) (hkd : Q κ 0 (ix (wa s w)) = k) (hk : k = 2 ∨ k = 3 ∨ k = 4 ∨ k = 5) : ((∀ post : Int32 → VP → Prop, post (-26) P → F_X2_goThrough i (16 * i + ix s) k 1 P post) ∧ (∀ post : Int32 → VP → Prop, post (-26) Q → F_X8_through κ k Q post)) ∨ ∃ P1 Q1 s' w' e', ((0 ≤ s' ∧ s' < 16) ∧ (0 ≤ w' ∧ w' < 24) ∧ (0 ≤ e' ∧ e' < 8)) ∧ KP i P P1 ∧ KQ κ Q Q1 ∧ BI P1 ∧ RM i κ P1 Q1 ∧ (P1 1 i 7 = s' ∧ P1 1 i 8 = w' ∧ P1 1 i 9 = e') ∧ (Q1 22 0 14 = s' ∧ Q1 22 0 15 = w' ∧ Q1 22 0 13 = e') ∧ (∀ post : Int32 → VP → Prop, post 0 P1 → F_X2_goThrough i (16 * i + ix s) k 1 P post) ∧ (∀ post : Int32 → VP → Prop, post 0 Q1 → F_X8_through κ k Q post) := by
  obtain ⟨-, hD, hG, hW, -⟩ := id hM
  have hw24 := z_lt24 hw (hB.2.1 _).2
  have hwr := hW s w hs.1 hs.2 hw24.1 hw24.2 hy
  have hH := (hG s hs.1 hs.2).2 hy
  have cv := c_valueAt hB (y := 16 * i + ix s) hw24
  obtain ⟨-, -, -, -, h5, -, -, -, -, -, -, b1, b2, b3, b4⟩ := id hH
  have r1' : 0 ≤ Q κ 0 (ix (112 + s)) ∧ Q κ 0 (ix (112 + s)) < 8 := ⟨b1, z_lt3 b2 b3 b4⟩
  have n0 : ¬ k = 0 ∧ ¬ k = 1 ∧ ¬ k = 6 := by
    rcases hk with rfl | rfl | rfl | rfl <;> decide
  by_cases k4 : k = 4
  · subst k4
    obtain ⟨ev, c1, c2⟩ := wr_4 hwr hkd
    obtain ⟨dv1, dv2⟩ := dv_link c1 c2
    obtain ⟨r, lk, fr⟩ := m_found (κ := κ) (Q := Q) hκ hD.2.2.2.2.2.2.1 hs (n := Q κ 0 (ix (wa s w + 1)))
    have sk := c_seek hG hD hB hH.1 lk
    have t1 := m_told (κ := κ) (Q := Q) (j := 1) hκ hs hw24 (by decide)
    have t2 := m_told (κ := κ) (Q := Q) (j := 2) hκ hs hw24 (by decide)
    by_cases hr0 : r < 0
    · refine Or.inl ⟨fun post hp => ?_, fun post hp => ?_⟩
      · unfold F_X2_goThrough
        rw [p9, p8]
        refine hr _ (br_f (by decide) (br_f n0.1 (br_f n0.2.1 (br_f n0.2.2 (cv _ (br_t rfl ?_))))))
        rw [ev, dv1]
        exact sk _ (br_t hr0 hp)
      · unfold F_X8_through
        rw [q14, q15]
        exact br_t rfl (t1 _ (t2 _ (fr _ (br_t hr0 hp))))
    · have hrr : 0 ≤ r ∧ r < 16 := (LK_r lk).resolve_left (fun q => hr0 (by rw [q]; decide))
      have hM2 := RM_word (k := 5) (v := 1000 * r + 100 * e + Q κ 0 (ix (wa s w + 2))) (n := 100 * Q κ 0 (ix (wa s w + 1)) + Q κ 0 (ix (wa s w + 2))) (a0 := 5) (a1 := e) (a2 := r) (a3 := Q κ 0 (ix (wa s w + 2))) (a4 := Q κ 0 (ix (wa s w + 1))) (a5 := Q κ 0 (ix (wa s w + 2))) hM hs hw24 ⟨rfl, Or.inr (Or.inr (Or.inr (Or.inr (Or.inl ⟨rfl, rfl, rfl, ⟨he, hrr, c2⟩, c1, c2⟩))))⟩
      have hB2 := BI_W (k := 5) (v := 1000 * r + 100 * e + Q κ 0 (ix (wa s w + 2))) (n := 100 * Q κ 0 (ix (wa s w + 1)) + Q κ 0 (ix (wa s w + 2))) hB hw
      obtain ⟨w0, w1, w2, w3, w4, w5⟩ := WQ_at (Q := Q) (κ := κ) (a0 := 5) (a1 := e) (a2 := r) (a3 := Q κ 0 (ix (wa s w + 2))) (a4 := Q κ 0 (ix (wa s w + 1))) (a5 := Q κ 0 (ix (wa s w + 2))) hs hw24
      have h112 := WQ_ne (Q := Q) (κ := κ) (a0 := 5) (a1 := e) (a2 := r) (a3 := Q κ 0 (ix (wa s w + 2))) (a4 := Q κ 0 (ix (wa s w + 1))) (a5 := Q κ 0 (ix (wa s w + 2))) hs hw24 (z_p (z_h (c := 112) (m := 7) hs (by decide) (by decide))) (z_lw hs hw24 (z_lh (z_h (c := 112) (m := 7) hs (by decide) (by decide))))
      obtain ⟨l1, l2⟩ := d_land (i := i) (y := 16 * i + ix s) (P := WP P (16 * i + ix s) w 5 (1000 * r + 100 * e + Q κ 0 (ix (wa s w + 2))) (100 * Q κ 0 (ix (wa s w + 1)) + Q κ 0 (ix (wa s w + 2)))) (e := e) hκ hk22 hs hw24 (by rw [WP_ne (by omega), h112]; exact h5) (by rw [WP_ne (by omega)]; exact p9) (by rw [WQ_k (fun q => hk22 q.symm)]; exact q13) w1 w2 w3 he hrr c2
      have r1q := r1'
      rw [← h112] at r1q
      have hE := imax_in he (imax_in he r1q)
      refine Or.inr ⟨_, _, r, Q κ 0 (ix (wa s w + 2)), _, ⟨hrr, c2, hE⟩, KP_L (KP_W (fun _ _ _ _ => rfl) hs), KQ_L (KQ_W (fun _ _ _ _ _ => rfl)), BI_regs hB2, RM_regs hM2 hk22, LPc_at _ _ _ _ _, LGm_at _ _ _ _, fun post hp => ?_, fun post hp => ?_⟩
      · unfold F_X2_goThrough
        rw [p9, p8]
        refine hr _ (br_f (by decide) (br_f n0.1 (br_f n0.2.1 (br_f n0.2.2 (cv _ (br_t rfl ?_))))))
        rw [ev, dv1]
        refine sk _ (br_f hr0 (fun v4 e4 => br_f (by decide) ?_))
        rw [dv1] at dv2
        rw [dv2] at e4
        subst e4
        exact c_become (c_has hB hw) hw24 (l1 _ _ _ hp)
      · unfold F_X8_through
        rw [q14, q15, q13]
        exact br_t rfl (t1 _ (t2 _ (fr _ (br_f hr0 (m_writes hκ hs hw24 (l2 _ _ hp))))))
  · have hk3 : Q κ 0 (ix (wa s w)) = 2 ∨ Q κ 0 (ix (wa s w)) = 3 ∨ Q κ 0 (ix (wa s w)) = 5 := by
      rw [hkd]
      rcases hk with q | q | q | q
      · exact Or.inl q
      · exact Or.inr (Or.inl q)
      · exact absurd q k4
      · exact Or.inr (Or.inr q)
    obtain ⟨ev, c1, c2, c3⟩ := wr_p hwr hk3
    obtain ⟨l1, l2⟩ := d_land (i := i) (y := 16 * i + ix s) (P := P) (Q := Q) (e := e) hκ hk22 hs hw24 h5 p9 q13 rfl rfl rfl c1 c2 c3
    refine Or.inr ⟨_, _, _, _, _, ⟨c2, c3, imax_in he (imax_in c1 r1')⟩, KP_L (fun _ _ _ _ => rfl), KQ_L (fun _ _ _ _ _ => rfl), BI_regs hB, RM_regs hM hk22, LPc_at _ _ _ _ _, LGm_at _ _ _ _, fun post hp => ?_, fun post hp => ?_⟩
    · unfold F_X2_goThrough
      rw [p9, p8]
      refine hr _ (br_f (by decide) (br_f n0.1 (br_f n0.2.1 (br_f n0.2.2 (cv _ (br_f k4 ?_))))))
      rw [ev]
      exact l1 _ _ _ hp
    · unfold F_X8_through
      rw [q14, q15]
      exact br_f k4 (l2 _ _ hp)
