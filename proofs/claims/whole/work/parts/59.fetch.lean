/-! fetch ~ numberAt -/
theorem wr_1 {k v n a0 a1 a2 a3 a4 a5 : Int32} (h : WR k v n a0 a1 a2 a3 a4 a5) (h1 : a0 = 1) : v = a1 ∧ n = 0 := by
  obtain ⟨-, q⟩ := h
  rcases q with ⟨q, -⟩ | ⟨-, q⟩ | ⟨q, -⟩ | ⟨q, -⟩ | ⟨q, -⟩ | ⟨q, -⟩
  · exact absurd (h1.symm.trans q) (by decide)
  · exact q
  · rcases q with q | q
    · exact absurd (h1.symm.trans q) (by decide)
    · exact absurd (h1.symm.trans q) (by decide)
  · exact absurd (h1.symm.trans q) (by decide)
  · exact absurd (h1.symm.trans q) (by decide)
  · exact absurd (h1.symm.trans q) (by decide)
theorem d_fetch {i κ : Nat} {P Q : VP} (hB : BI P) (hG : RG i κ P Q) (hW : RW i κ P Q) (hκ : vlI κ = 3464) (s w e : Int32) : ((0 ≤ s ∧ s < 16) ∧ (0 ≤ w ∧ w < 24) ∧ (∀ post : Int32 → VP → Prop, post 0 (vup P 1 i 10 (Q κ 0 (ix (wa s w + 1)))) → F_X2_fetch i s w e P post) ∧ An (F_X8_numberAt κ s w e Q) 0) ∨ ∃ r, ¬ r = 0 ∧ (∀ post : Int32 → VP → Prop, post r P → F_X2_fetch i s w e P post) ∧ An (F_X8_numberAt κ s w e Q) r := by
  rcases d_there hG hB hκ s w with ⟨⟨h1, h2⟩, hw, -, h3, h4, h5, h6, h7⟩ | ⟨h1, h2, h3⟩ | ⟨h1, h2⟩
  · obtain ⟨r, r0, r1, r2⟩ := d_read (e := e) hκ h1 h4
    have hwr := hW s w h1.1 h1.2 hw.1 hw.2 h3
    have ck := c_kindAt hB (y := 16 * i + ix s) hw
    have cv := c_valueAt hB (y := 16 * i + ix s) hw
    have t0 := m_told0 (κ := κ) (Q := Q) hκ h1 hw
    have e0 := hwr.1
    rcases r0 with rfl | rfl
    · refine Or.inr ⟨-22, by decide, fun post hp => ?_, fun p hp => ?_⟩
      · unfold F_X2_fetch
        exact h5 _ (h6 _ (br_f (by decide) (r1 _ (br_t rfl hp))))
      · unfold F_X8_numberAt
        exact h7 _ (br_t rfl (r2 _ (br_t rfl hp)))
    · by_cases k0 : Q κ 0 (ix (wa s w)) = 0
      · refine Or.inr ⟨-23, by decide, fun post hp => ?_, fun p hp => ?_⟩
        · unfold F_X2_fetch
          exact h5 _ (h6 _ (br_f (by decide) (r1 _ (br_f (by decide) (ck _ (br_f (by rw [e0, k0]; decide) (ck _ (br_t (by rw [e0]; exact k0) hp))))))))
        · unfold F_X8_numberAt
          exact h7 _ (br_t rfl (r2 _ (br_f (by decide) (t0 _ (br_t k0 hp)))))
      · by_cases k1 : Q κ 0 (ix (wa s w)) = 1
        · refine Or.inl ⟨h1, hw, fun post hp => ?_, fun p hp => ?_⟩
          · unfold F_X2_fetch
            refine h5 _ (h6 _ (br_f (by decide) (r1 _ (br_f (by decide) (ck _ (br_t (by rw [e0]; exact k1) (cv _ (fun P76 q => ?_))))))))
            rw [(wr_1 hwr k1).1] at q
            rw [q]
            exact hp
          · unfold F_X8_numberAt
            exact h7 _ (br_t rfl (r2 _ (br_f (by decide) (t0 _ (br_f k0 (br_t k1 hp))))))
        · refine Or.inr ⟨-24, by decide, fun post hp => ?_, fun p hp => ?_⟩
          · unfold F_X2_fetch
            exact h5 _ (h6 _ (br_f (by decide) (r1 _ (br_f (by decide) (ck _ (br_f (by rw [e0]; exact k1) (ck _ (br_f (by rw [e0]; exact k0) hp))))))))
          · unfold F_X8_numberAt
            exact h7 _ (br_t rfl (r2 _ (br_f (by decide) (t0 _ (br_f k0 (br_f k1 hp))))))
  · refine Or.inr ⟨-21, by decide, fun post hp => ?_, fun p hp => ?_⟩
    · unfold F_X2_fetch
      exact h1 _ (h2 _ (br_t rfl hp))
    · unfold F_X8_numberAt
      exact h3 _ (br_f (by decide) hp)
  · refine Or.inr ⟨-20, by decide, fun post hp => ?_, fun p hp => ?_⟩
    · unfold F_X2_fetch
      exact h1 _ hp
    · unfold F_X8_numberAt
      exact h2 _ (br_f (by decide) hp)
