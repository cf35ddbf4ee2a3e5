/-! operand -/
theorem RR_op {P Q P1 Q1 : VP} (h : RR P Q) (hp : RO 0 P P1) (hq : ∀ k x j, ¬ k = 24 → ¬ (k = 22 ∧ 13 ≤ j ∧ j ≤ 15) → Q1 k x j = Q k x j) : RR P1 Q1 := by
  obtain ⟨hB, hM, ⟨t1, t2, t3⟩, hK, r1, r2, r3⟩ := h
  have q23 : ∀ j, Q1 23 0 j = Q 23 0 j := fun j => hq 23 0 j (by decide) (by omega)
  have hS := RSw_of hM
  refine ⟨BI_eq hB (fun k x j k0 _ => hp k x j (by omega)), RM_q (Q := Q) ?_ (fun a _ _ => q23 _), ⟨?_, ?_, ?_⟩, fun q => ?_, ?_, ?_, fun j j0 j1 => ?_⟩
  · exact RM_mk ⟨(hp 1 0 2 (by omega)).trans hS.1, (hp 1 0 4 (by omega)).trans hS.2.1, (hp 1 0 5 (by omega)).trans hS.2.2.1, hS.2.2.2⟩ ((hp 1 0 3 (by omega)).trans hM.1.2.1) (RN_eq (RN_of hM) (fun k x j hk => hp k x j (by omega)) (fun _ _ _ => rfl))
  · rw [hp 0 0 4 (by omega), hq 22 0 3 (by decide) (by omega)]; exact t1
  · rw [hp 0 0 4 (by omega)]; exact t2
  · rw [hp 0 0 5 (by omega), hq 22 0 4 (by decide) (by omega)]; exact t3
  · rw [hp 0 0 4 (by omega)] at q
    refine RM_oth (hK q) (fun k x j a b c => hp k x j (fun e => ?_)) (fun j => hq 25 0 j (by decide) (by omega))
    rw [e.1, e.2.1] at a
    exact absurd a (by decide)
  · rw [hp 17 0 1 (by omega), hq 22 0 6 (by decide) (by omega)]; exact r1
  · rw [hq 22 0 6 (by decide) (by omega)]; exact r2
  · rw [hq 22 0 6 (by decide) (by omega)] at j1
    rw [hp 18 0 _ (by omega), hq 26 0 _ (by decide) (by omega)]; exact r3 j j0 j1
theorem D_operand {P Q : VP} (h : RR P Q) (x1 x2 x3 x4 : Int32) : ∃ r P1 Q1, RR P1 Q1 ∧ Am (F_X7_operand x1 x2 x3 x4 P) r P1 ∧ Am (F_X8_operand x1 x2 x3 x4 Q) r Q1 := by
  have hB := h.1
  have hM := h.2.1
  rcases d_isSeg hM.2.2.1 hB x1 with ⟨⟨g0, g1⟩, g2, g3, g4, g5⟩ | ⟨-, g4, g5⟩
  · have k4 := g3.2.2.2.1
    have kl := g3.2.2.2.2.2.2.2.2.2.2.1
    obtain ⟨i1, i2⟩ := m_isWord (Q := Q) (w := x2) g0 kl
    by_cases hw : 0 ≤ x2 ∧ x2 < Q 23 0 (ix (96 + x1))
    · have cw := c_has hB (y := 16 * 0 + ix x1) (w := x2) (by rw [k4]; exact hw)
      by_cases h3 : 0 ≤ x3 ∧ x3 < 8
      · by_cases h4 : 0 ≤ x4 ∧ x4 < 3
        · obtain ⟨Q8, ⟨z1, z2⟩, z3⟩ := m_copies (k0 := 23) (k1 := 24) (Q := Q) (by decide) rfl rfl
          have hM2 : RM 0 24 P Q8 := RM_arr hM z2
          obtain ⟨r, P1, Q1, ⟨hW, hL⟩, f1, f2⟩ := d_walk (f := 0) (Or.inl rfl) hB (RN_of hM2) rfl (by decide) x1 x2 x3 h3
          have hR : RR P1 Q1 := RR_op h (hW.2.2.2.2 rfl) (fun k x j a b => (hW.2.1.1 k x j a b).trans (z1 k x j a))
          have cl : ∀ p : Int32 → VP → Prop, ((r = 0 → (x4 = 0 → p (P1 1 0 9) P1) ∧ (¬ x4 = 0 → (x4 = 1 → p (P1 1 0 7) P1) ∧ (¬ x4 = 1 → p (P1 1 0 8) P1))) ∧ (¬ r = 0 → p r P1)) → F_X7_operand x1 x2 x3 x4 P p := by
            intro p hp
            unfold F_X7_operand
            exact g4 _ (cw _ (br_f (by decide) (c_belowT h3 _ (br_f (by decide) (c_belowT h4 _ (br_f (by decide) (f1 _ hp)))))))
          have ml : ∀ p : Int32 → VP → Prop, ((r = 0 → (x4 = 0 → p (Q1 22 0 13) Q1) ∧ (¬ x4 = 0 → (x4 = 1 → p (Q1 22 0 14) Q1) ∧ (¬ x4 = 1 → p (Q1 22 0 15) Q1))) ∧ (¬ r = 0 → p r Q1)) → F_X8_operand x1 x2 x3 x4 Q p := by
            intro p hp
            unfold F_X8_operand
            exact g5 _ (br_f (by decide) (i1 hw _ (br_f (by decide) (m_inT (x := x3) (lo := 0) (hi := 7) ⟨h3.1, by lia⟩ _ (br_f (by decide) (m_inT (x := x4) (lo := 0) (hi := 2) ⟨h4.1, by lia⟩ _ (br_f (by decide) (z3 _ (f2 _ hp)))))))))
          by_cases h0 : r = 0
          · obtain ⟨l7, l8, l9, -⟩ := hL h0
            by_cases n0 : x4 = 0
            · exact ⟨_, P1, Q1, hR, fun p hp => cl p (br_t h0 (br_t n0 hp)), fun p hp => ml p (br_t h0 (br_t n0 (by rw [← l9]; exact hp)))⟩
            · by_cases n1 : x4 = 1
              · exact ⟨_, P1, Q1, hR, fun p hp => cl p (br_t h0 (br_f n0 (br_t n1 hp))), fun p hp => ml p (br_t h0 (br_f n0 (br_t n1 (by rw [← l7]; exact hp))))⟩
              · exact ⟨_, P1, Q1, hR, fun p hp => cl p (br_t h0 (br_f n0 (br_f n1 hp))), fun p hp => ml p (br_t h0 (br_f n0 (br_f n1 (by rw [← l8]; exact hp))))⟩
          · exact ⟨r, P1, Q1, hR, fun p hp => cl p (br_f h0 hp), fun p hp => ml p (br_f h0 hp)⟩
        · refine ⟨-1, P, Q, h, fun p hp => ?_, fun p hp => ?_⟩
          · unfold F_X7_operand
            exact g4 _ (cw _ (br_f (by decide) (c_belowT h3 _ (br_f (by decide) (c_belowF h4 _ (br_t rfl hp))))))
          · unfold F_X8_operand
            exact g5 _ (br_f (by decide) (i1 hw _ (br_f (by decide) (m_inT (x := x3) (lo := 0) (hi := 7) ⟨h3.1, by lia⟩ _ (br_f (by decide) (m_inF (x := x4) (lo := 0) (hi := 2) (by lia) _ (br_t rfl hp)))))))
      · refine ⟨-1, P, Q, h, fun p hp => ?_, fun p hp => ?_⟩
        · unfold F_X7_operand
          exact g4 _ (cw _ (br_f (by decide) (c_belowF h3 _ (br_t rfl hp))))
        · unfold F_X8_operand
          exact g5 _ (br_f (by decide) (i1 hw _ (br_f (by decide) (m_inF (x := x3) (lo := 0) (hi := 7) (by lia) _ (br_t rfl hp)))))
    · refine ⟨-1, P, Q, h, fun p hp => ?_, fun p hp => ?_⟩
      · unfold F_X7_operand
        exact g4 _ (c_hasN (by rw [k4]; exact hw) _ (br_t rfl hp))
      · unfold F_X8_operand
        exact g5 _ (br_f (by decide) (i2 hw _ (br_t rfl hp)))
  · refine ⟨-1, P, Q, h, fun p hp => ?_, fun p hp => ?_⟩
    · unfold F_X7_operand
      exact g4 _ hp
    · unfold F_X8_operand
      exact g5 _ (br_t rfl hp)
