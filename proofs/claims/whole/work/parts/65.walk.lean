/-! the walk: seekOperand ~ comes -/
/-- what stands at a place: 0 there, -21, -20; on both sides -/
def TH (i κ : Nat) (P Q : VP) (s w a : Int32) : Prop := (a = 0 ∧ (0 ≤ s ∧ s < 16) ∧ (0 ≤ w ∧ w < 24) ∧ (0 ≤ w ∧ w < P 7 (16 * i + ix s) 4) ∧ P 7 (16 * i + ix s) 0 = 1 ∧ RH P Q κ (16 * i + ix s) s ∧ An (F_X6_find i s P) (some (16 * i + ix s)) ∧ An (F_X3_has (16 * i + ix s) w P) 1) ∨ (a = -21 ∧ An (F_X6_find i s P) (some (16 * i + ix s)) ∧ An (F_X3_has (16 * i + ix s) w P) 0) ∨ (a = -20 ∧ An (F_X6_find i s P) none)
theorem d_TH {i κ : Nat} {P Q : VP} (hB : BI P) (hG : RG i κ P Q) (hκ : vlI κ = 3464) (s w : Int32) : ∃ a, TH i κ P Q s w a ∧ An (F_X8_there κ s w Q) a := by
  rcases d_there hG hB hκ s w with ⟨⟨h1, h2⟩, hw, hl, h3, h4, h5, h6, h7⟩ | ⟨h1, h2, h3⟩ | ⟨h1, h2⟩
  · exact ⟨0, Or.inl ⟨rfl, h1, hw, ⟨hw.1, by rw [h4.2.2.2.1]; exact hl⟩, h3, h4, h5, h6⟩, h7⟩
  · exact ⟨-21, Or.inr (Or.inl ⟨rfl, h1, h2⟩), h3⟩
  · exact ⟨-20, Or.inr (Or.inr ⟨rfl, h1⟩), h2⟩
theorem wr_k {k v n a0 a1 a2 a3 a4 a5 : Int32} (h : WR k v n a0 a1 a2 a3 a4 a5) (hk : ¬ (a0 = 2 ∨ a0 = 3 ∨ a0 = 4 ∨ a0 = 5)) : a0 = 0 ∨ a0 = 1 ∨ a0 = 6 := by
  obtain ⟨-, q⟩ := h
  rcases q with ⟨q, -⟩ | ⟨q, -⟩ | ⟨q, -⟩ | ⟨q, -⟩ | ⟨q, -⟩ | ⟨q, -⟩
  · exact Or.inl q
  · exact Or.inr (Or.inl q)
  · rcases q with q | q
    · exact absurd (Or.inl q) hk
    · exact absurd (Or.inr (Or.inl q)) hk
  · exact absurd (Or.inr (Or.inr (Or.inl q))) hk
  · exact absurd (Or.inr (Or.inr (Or.inr q))) hk
  · exact Or.inr (Or.inr q)
theorem in_25 {k : Int32} (h : k = 2 ∨ k = 3 ∨ k = 4 ∨ k = 5) : 2 ≤ k ∧ k ≤ 5 := by
  rcases h with rfl | rfl | rfl | rfl <;> decide
theorem ni_25 {k : Int32} (h : k = 0 ∨ k = 1 ∨ k = 6) : ¬ (2 ≤ k ∧ k ≤ 5) := by
  rcases h with rfl | rfl | rfl <;> decide
theorem g_s5 {b : Int32} (h0 : 0 ≤ b) (h : b < 6) (h5 : ¬ b = 5) : (0 ≤ b + 1 ∧ b + 1 < 6) ∧ ¬ b + 1 = 0 := by lia
theorem g_m7 {b : Int32} (h0 : 0 ≤ b) (h : b < 6) : ix (7 - (b + 1)) < ix (7 - b) := ix_lt (by lia) (by lia)
theorem d_walk {i κ : Nat} {P Q : VP} {f : Int32} (hf : f = 0 ∨ f = 1) (hB : BI P) (hN : RN i κ P Q) (hκ : vlI κ = 3464) (hk22 : ¬ κ = 22) (s w e : Int32) (he : 0 ≤ e ∧ e < 8) : ∃ r P1 Q1, (WK i κ f P Q P1 Q1 ∧ (r = 0 → WL i P1 Q1)) ∧ Am (F_X2_seekOperand i s w e f P) r P1 ∧ Am (F_X8_comes κ s w e Q) r Q1 := by
  have hN0 := RN_regs (s := s) (w := w) (e := e) (s' := s) (w' := w) (e' := e) hN hk22
  have hB0 := BI_regs (i := i) (s := s) (w := w) (e := e) hB
  obtain ⟨a, hT, ta⟩ := d_TH hB0 hN0.2.1 hκ s w
  obtain ⟨p7, p8, p9⟩ := LPc_at P i s w e
  obtain ⟨q14, q15, q13⟩ := LGm_at Q s w e
  obtain ⟨r, Q1, P1, g1, g2, g3⟩ := lr4_2 (F_X8_comes_l30 κ s w e) (F_X2_seekOperand_l18 i s w e f)
    (fun a1 a2 a3 Q' b P' => (∃ s w e, (P' 1 i 7 = s ∧ P' 1 i 8 = w ∧ P' 1 i 9 = e ∧ Q' 22 0 14 = s ∧ Q' 22 0 15 = w ∧ Q' 22 0 13 = e ∧ 0 ≤ e ∧ e < 8) ∧ WK i κ f P Q P' Q' ∧ RN i κ P' Q' ∧ TH i κ P' Q' s w a1 ∧ (0 ≤ b ∧ b < 6) ∧ a3 = b ∧ ((b = 0 ∧ a2 = 0) ∨ (¬ b = 0 ∧ a2 = 1))) ∨ (b = 6 ∧ ∃ Q1, WK i κ f P Q P' Q1 ∧ ∀ (p : Int32 → VP → Prop) (X : Int32 → Int32 → Int32 → VP → Prop), p (-25) Q1 → F_X8_comes_l30 κ s w e p X a1 a2 a3 Q'))
    (fun r Q1 P1 => WK i κ f P Q P1 Q1 ∧ (r = 0 → WL i P1 Q1)) (fun _ _ _ _ b _ => ix (7 - b)) (fun a1 a2 a3 Q' b P' hI => by
    rcases hI with ⟨s', w', e', ⟨p7, p8, p9, q14, q15, q13, e0, e8⟩, hWK, hN', hT, ⟨b0, b6⟩, h3, ha2⟩ | ⟨h6, Q1, hWK, hq⟩
    · subst h3
      have hB' := hWK.2.2.1
      rcases hT with ⟨h0, hs', hw24, hwl, hy, hH, fS, hH1⟩ | ⟨h0, fS, hN1⟩ | ⟨h0, fN⟩
      · subst h0
        have hwr := hN'.2.2.1 s' w' hs'.1 hs'.2 hw24.1 hw24.2 hy
        obtain ⟨r0, hr0, rd1, rd2⟩ := d_read (e := e') hκ hs' hH
        have ck := c_kindAt hB' (y := 16 * i + ix s') hw24
        rw [hwr.1] at ck
        have t0 := m_told0 (κ := κ) (Q := Q') hκ hs' hw24
        by_cases hk : Q' κ 0 (ix (wa s' w')) = 2 ∨ Q' κ 0 (ix (wa s' w')) = 3 ∨ Q' κ 0 (ix (wa s' w')) = 4 ∨ Q' κ 0 (ix (wa s' w')) = 5
        · have cl : ∀ (p : Int32 → VP → Prop) (X : Int32 → VP → Prop), F_X2_seekOperand_b115 i s w e f P' p X a3 (16 * i + ix s') (Q' κ 0 (ix (wa s' w'))) → F_X2_seekOperand_l18 i s w e f p X a3 P' := by
            intro p X hb
            unfold F_X2_seekOperand_l18
            rw [p7, p8]
            refine br_t b6 (fS _ (hH1 _ (br_f (by decide) (ck _ ?_))))
            rcases hk with q | q | q | q
            · exact br_t q ⟨fun _ => br_f (by decide) hb, fun _ => hb⟩
            · exact br_f (by rw [q]; decide) (br_t q ⟨fun _ => br_f (by decide) hb, fun _ => hb⟩)
            · exact br_f (by rw [q]; decide) (br_f (by rw [q]; decide) (br_f (by rw [q]; decide) (br_t q ⟨fun _ => br_f (by decide) hb, fun _ => hb⟩)))
            · exact br_f (by rw [q]; decide) (br_f (by rw [q]; decide) (br_t q ⟨fun _ => br_f (by decide) hb, fun _ => hb⟩))
          have ml : ∀ (p : Int32 → VP → Prop) (X : Int32 → Int32 → Int32 → VP → Prop), F_X8_comes_b76 κ s w e Q' p X a3 (Q' κ 0 (ix (wa s' w'))) 1 → F_X8_comes_l30 κ s w e p X 0 a2 a3 Q' := by
            intro p X hb
            unfold F_X8_comes_l30
            rw [q14, q15]
            exact br_t rfl (t0 _ (m_inT (x := Q' κ 0 (ix (wa s' w'))) (lo := 2) (hi := 5) (in_25 hk) _ (br_f (by decide) hb)))
          rcases hr0 with rfl | rfl
          · refine Or.inr (Or.inr ⟨-22, Q', P', ⟨hWK, fun q => absurd q (by decide)⟩, fun p X hp => ml p X ?_, fun p X hp => cl p X ?_⟩)
            · unfold F_X8_comes_b76
              rw [q14, q13]
              exact rd2 _ (br_t rfl hp)
            · unfold F_X2_seekOperand_b115 F_X2_goThrough
              rw [p9]
              exact rd1 _ (br_t rfl (br_f (by decide) hp))
          · rcases d_thru hf hB' hN' hκ hk22 hs' hy hwl p8 p9 q14 q15 q13 ⟨e0, e8⟩ rd1 rfl hk with ⟨g1, g2⟩ | ⟨P1, Q1, hW1, hR3, hL, g1, g2⟩
            · refine Or.inr (Or.inr ⟨-26, Q', P', ⟨hWK, fun q => absurd q (by decide)⟩, fun p X hp => ml p X ?_, fun p X hp => cl p X ?_⟩)
              · unfold F_X8_comes_b76
                rw [q14, q13]
                exact rd2 _ (br_f (by decide) (br_f (by decide) (g2 _ (br_f (by decide) hp))))
              · unfold F_X2_seekOperand_b115
                exact g1 _ (br_f (by decide) hp)
            · have hT2 := WK_t hWK hW1
              by_cases k3 : Q' κ 0 (ix (wa s' w')) = 3
              · by_cases h5 : a3 = 5
                · refine Or.inr (Or.inl ⟨a3 + 1, P1, Or.inr ⟨by rw [h5]; decide, Q1, hT2, fun p X hp => ml p X ?_⟩, g_m7 b0 b6, fun p X hX => cl p X ?_⟩)
                  · unfold F_X8_comes_b76
                    rw [q14, q13]
                    exact rd2 _ (br_f (by decide) (br_f (by decide) (g2 _ (br_t rfl (br_t k3 (br_t h5 hp))))))
                  · unfold F_X2_seekOperand_b115
                    exact g1 _ (br_t rfl (br_t k3 hX))
                · obtain ⟨a', hT', ta'⟩ := d_TH hW1.2.2.1 (hR3 k3).2.1 hκ (Q1 22 0 14) (Q1 22 0 15)
                  obtain ⟨b1, b2⟩ := g_s5 b0 b6 h5
                  refine Or.inl ⟨a', 1, a3 + 1, Q1, a3 + 1, P1, Or.inl ⟨Q1 22 0 14, Q1 22 0 15, Q1 22 0 13, ⟨hL.1, hL.2.1, hL.2.2.1, rfl, rfl, rfl, hL.2.2.2.1, hL.2.2.2.2⟩, hT2, hR3 k3, hT', b1, rfl, Or.inr ⟨b2, rfl⟩⟩, g_m7 b0 b6, fun p X hX => ml p X ?_, fun p X hX => cl p X ?_⟩
                  · unfold F_X8_comes_b76
                    rw [q14, q13]
                    exact rd2 _ (br_f (by decide) (br_f (by decide) (g2 _ (br_t rfl (br_t k3 (br_f h5 (ta' _ hX)))))))
                  · unfold F_X2_seekOperand_b115
                    exact g1 _ (br_t rfl (br_t k3 hX))
              · refine Or.inr (Or.inr ⟨0, Q1, P1, ⟨hT2, fun _ => hL⟩, fun p X hp => ml p X ?_, fun p X hp => cl p X ?_⟩)
                · unfold F_X8_comes_b76
                  rw [q14, q13]
                  exact rd2 _ (br_f (by decide) (br_f (by decide) (g2 _ (br_t rfl (br_f k3 hp)))))
                · unfold F_X2_seekOperand_b115
                  exact g1 _ (br_t rfl (br_f k3 hp))
        · have hk' := wr_k hwr hk
          have n2 : ¬ Q' κ 0 (ix (wa s' w')) = 2 := fun q => hk (Or.inl q)
          have n3 : ¬ Q' κ 0 (ix (wa s' w')) = 3 := fun q => hk (Or.inr (Or.inl q))
          have n4 : ¬ Q' κ 0 (ix (wa s' w')) = 4 := fun q => hk (Or.inr (Or.inr (Or.inl q)))
          have n5 : ¬ Q' κ 0 (ix (wa s' w')) = 5 := fun q => hk (Or.inr (Or.inr (Or.inr q)))
          rcases ha2 with ⟨hb, rfl⟩ | ⟨hb, rfl⟩
          · refine Or.inr (Or.inr ⟨0, Q', P', ⟨hWK, fun _ => ⟨p7.trans q14.symm, p8.trans q15.symm, p9.trans q13.symm, by rw [q13]; exact e0, by rw [q13]; exact e8⟩⟩, fun p X hp => ?_, fun p X hp => ?_⟩)
            · unfold F_X8_comes_l30
              rw [q14, q15]
              exact br_t rfl (t0 _ (m_inF (x := Q' κ 0 (ix (wa s' w'))) (lo := 2) (hi := 5) (ni_25 hk') _ (br_t rfl (br_t rfl hp))))
            · unfold F_X2_seekOperand_l18
              rw [p7, p8]
              exact br_t b6 (fS _ (hH1 _ (br_f (by decide) (ck _ (br_f n2 (br_f n3 (br_f n5 (br_f n4 (br_t hb (br_t rfl hp))))))))))
          · have cl : ∀ (p : Int32 → VP → Prop) (X : Int32 → VP → Prop), F_X2_seekOperand_b115 i s w e f P' p X a3 (16 * i + ix s') (Q' κ 0 (ix (wa s' w'))) → F_X2_seekOperand_l18 i s w e f p X a3 P' := by
              intro p X hb'
              unfold F_X2_seekOperand_l18
              rw [p7, p8]
              exact br_t b6 (fS _ (hH1 _ (br_f (by decide) (ck _ (br_f n2 (br_f n3 (br_f n5 (br_f n4 (br_f hb hb')))))))))
            have ml : ∀ (p : Int32 → VP → Prop) (X : Int32 → Int32 → Int32 → VP → Prop), F_X8_comes_b76 κ s w e Q' p X a3 (Q' κ 0 (ix (wa s' w'))) 0 → F_X8_comes_l30 κ s w e p X 0 1 a3 Q' := by
              intro p X hb'
              unfold F_X8_comes_l30
              rw [q14, q15]
              exact br_t rfl (t0 _ (m_inF (x := Q' κ 0 (ix (wa s' w'))) (lo := 2) (hi := 5) (ni_25 hk') _ (br_t rfl (br_f (by decide) hb'))))
            have fin : ∀ r : Int32, ¬ r = 0 → (∀ p X, p r Q' → F_X8_comes_b76 κ s w e Q' p X a3 (Q' κ 0 (ix (wa s' w'))) 0) → (∀ post : Int32 → VP → Prop, post r P' → F_X2_goThrough i (16 * i + ix s') (Q' κ 0 (ix (wa s' w'))) f P' post) → ∃ r Q1 P1, (WK i κ f P Q P1 Q1 ∧ (r = 0 → WL i P1 Q1)) ∧ (∀ (p : Int32 → VP → Prop) (X : Int32 → Int32 → Int32 → VP → Prop), p r Q1 → F_X8_comes_l30 κ s w e p X 0 1 a3 Q') ∧ (∀ (p : Int32 → VP → Prop) (X : Int32 → VP → Prop), p r P1 → F_X2_seekOperand_l18 i s w e f p X a3 P') := by
              intro r hr h1 h2
              refine ⟨r, Q', P', ⟨hWK, fun q => absurd q hr⟩, fun p X hp => ml p X (h1 p X hp), fun p X hp => cl p X ?_⟩
              unfold F_X2_seekOperand_b115
              exact h2 _ (br_f hr hp)
            refine Or.inr (Or.inr ?_)
            rcases hr0 with rfl | rfl
            · refine fin (-22) (by decide) (fun p X hp => ?_) (fun post hp => ?_)
              · unfold F_X8_comes_b76
                rw [q14, q13]
                exact rd2 _ (br_t rfl hp)
              · unfold F_X2_goThrough
                rw [p9]
                exact rd1 _ (br_t rfl hp)
            · by_cases k0 : Q' κ 0 (ix (wa s' w')) = 0
              · refine fin (-23) (by decide) (fun p X hp => ?_) (fun post hp => ?_)
                · unfold F_X8_comes_b76
                  rw [q14, q13]
                  exact rd2 _ (br_f (by decide) (br_t rfl (br_t k0 hp)))
                · unfold F_X2_goThrough
                  rw [p9]
                  exact rd1 _ (br_f (by decide) (br_t k0 hp))
              · refine fin (-24) (by decide) (fun p X hp => ?_) (fun post hp => ?_)
                · unfold F_X8_comes_b76
                  rw [q14, q13]
                  exact rd2 _ (br_f (by decide) (br_t rfl (br_f k0 hp)))
                · unfold F_X2_goThrough
                  rw [p9]
                  refine rd1 _ (br_f (by decide) (br_f k0 ?_))
                  rcases hk' with q | q | q
                  · exact absurd q k0
                  · exact br_t q hp
                  · exact br_f (by rw [q]; decide) (br_t q hp)
      · subst h0
        refine Or.inr (Or.inr ⟨-21, Q', P', ⟨hWK, fun q => absurd q (by decide)⟩, fun p X hp => ?_, fun p X hp => ?_⟩)
        · unfold F_X8_comes_l30
          exact br_f (by decide) hp
        · unfold F_X2_seekOperand_l18
          rw [p7, p8]
          exact br_t b6 (fS _ (hN1 _ (br_t rfl hp)))
      · subst h0
        refine Or.inr (Or.inr ⟨-20, Q', P', ⟨hWK, fun q => absurd q (by decide)⟩, fun p X hp => ?_, fun p X hp => ?_⟩)
        · unfold F_X8_comes_l30
          exact br_f (by decide) hp
        · unfold F_X2_seekOperand_l18
          rw [p7]
          exact br_t b6 (fN _ hp)
    · refine Or.inr (Or.inr ⟨-25, Q1, P', ⟨hWK, fun q => absurd q (by decide)⟩, hq, fun p X hp => ?_⟩)
      unfold F_X2_seekOperand_l18
      exact br_f (by rw [h6]; decide) hp)
    (a1 := a) (a2 := 0) (a3 := 0) (a4 := LGm Q s w e) (b1 := 0) (b2 := LPc P i s w e)
    (Or.inl ⟨s, w, e, ⟨p7, p8, p9, q14, q15, q13, he.1, he.2⟩, ⟨KW_L (KW_r _ _), KX_L hk22 (KX_r _ _), hB0, fun _ => hN0, fun _ => RO_L _ _ _ _ _⟩, hN0, hT, by decide, rfl, Or.inl ⟨rfl, rfl⟩⟩)
  refine ⟨r, P1, Q1, g1, fun p hp => ?_, fun p hp => ?_⟩
  · unfold F_X2_seekOperand
    intro P2 e1 P7 e2 P12 e3
    subst e1 e2 e3
    exact g3 p hp
  · unfold F_X8_comes
    intro Q3 e1 Q8 e2 Q13 e3
    subst e1 e2 e3
    exact ta _ (g2 p hp)
