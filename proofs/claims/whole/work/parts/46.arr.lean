/-! the reference's rows copied; the relation at another row -/
theorem x_1 {a : Int32} (h : 3 ≤ a ∧ a < 7) : 0 ≤ a ∧ a < 3464 := by lia
theorem x_2 {a : Int32} (h : (0 ≤ a ∧ a < 3) ∨ (7 ≤ a ∧ a < 11) ∨ (16 ≤ a ∧ a < 32)) : 0 ≤ a ∧ a < 3464 := by lia
theorem x_3 {a : Int32} (h : 32 ≤ a ∧ a < 192) : 0 ≤ a ∧ a < 3464 := by lia
theorem x_4 {a : Int32} (h : 200 ≤ a ∧ a < 2504) : 0 ≤ a ∧ a < 3464 := by lia
theorem x_5 {a : Int32} (h : (192 ≤ a ∧ a < 200) ∨ (2504 ≤ a ∧ a < 3464)) : 0 ≤ a ∧ a < 3464 := by lia
theorem RM_q {i κ : Nat} {P Q Q' : VP} (h : RM i κ P Q) (hq : ∀ a : Int32, 0 ≤ a → a < 3464 → Q' κ 0 (ix a) = Q κ 0 (ix a)) : RM i κ P Q' := by
  obtain ⟨h1, h2, h3, h4, h5⟩ := h
  have e : ∀ a : Int32, (0 ≤ a ∧ a < 3464) → Q' κ 0 (ix a) = Q κ 0 (ix a) := fun a ha => hq a ha.1 ha.2
  refine ⟨RS_eq h1 (fun _ => rfl) (fun a ha => e a (x_1 ha)), RD_eq h2 (fun _ _ _ _ => rfl) (fun a ha => e a (x_2 ha)), RG_eq h3 (fun _ _ => rfl) (fun a ha => e a (x_3 ha)) ?_, RW_eq h4 (fun _ _ _ _ _ => rfl) (fun a ha => e a (x_4 ha)), RF_eq h5 (fun _ => rfl) (fun _ _ _ => rfl) (fun _ _ _ => rfl) (fun a ha => e a (x_5 ha))⟩
  rw [e 0 (by decide)]
  exact z_le _
theorem RM_arr {i κ κ' : Nat} {P Q Q' : VP} (h : RM i κ P Q) (hq : ∀ a : Int32, 0 ≤ a → a < 3464 → Q' κ' 0 (ix a) = Q κ 0 (ix a)) : RM i κ' P Q' := by
  have h1 : RM i 0 P (fun _ _ j => Q κ 0 j) := h
  have h2 : RM i 0 P (fun _ _ j => Q' κ' 0 j) := RM_q h1 hq
  exact h2
theorem x_st {v : Int32} (h0 : 0 ≤ v) (h : v < 3464) : 0 ≤ v + 1 ∧ v + 1 ≤ 3464 ∧ 0 ≤ 3464 - (v + 1) ∧ 3464 - (v + 1) < 3464 - v := by lia
theorem x_lt {a v : Int32} (h : a < v + 1) (h0 : 0 ≤ v) (hv : v < 3464) (hn : ¬ a = v) : a < v := by lia
theorem x_end {a v : Int32} (h : ¬ v < 3464) (ha : a < 3464) : a < v := by lia
theorem m_copies {k0 k1 : Nat} {Q : VP} (hk : ¬ k0 = k1) (e0 : vlI k0 = 3464) (e1 : vlI k1 = 3464) : ∃ Q', ((∀ k x j, ¬ k = k1 → Q' k x j = Q k x j) ∧ ∀ a : Int32, 0 ≤ a → a < 3464 → Q' k1 0 (ix a) = Q k0 0 (ix a)) ∧ ∀ post : VP → Prop, post Q' → F_X8_copies k0 k1 Q post := by
  obtain ⟨Q', h1, h2⟩ := lk2 (ρ := VP) (fun p => F_X8_copies_l2 k0 k1 p) (fun v Q1 => (0 ≤ v ∧ v ≤ 3464) ∧ (∀ k x j, ¬ k = k1 → Q1 k x j = Q k x j) ∧ ∀ a : Int32, 0 ≤ a → a < v → Q1 k1 0 (ix a) = Q k0 0 (ix a)) (fun Q' => (∀ k x j, ¬ k = k1 → Q' k x j = Q k x j) ∧ ∀ a : Int32, 0 ≤ a → a < 3464 → Q' k1 0 (ix a) = Q k0 0 (ix a)) (fun v _ => ix (3464 - v)) (by
    rintro v Q1 ⟨⟨i0, i1⟩, i2, i3⟩
    by_cases h : v < 3464
    · obtain ⟨s1, s2, s3, s4⟩ := x_st i0 h
      refine Or.inl ⟨v + 1, vup Q1 k1 0 (ix v) (Q1 k0 0 (ix v)), ⟨⟨s1, s2⟩, fun k x j hj => ?_, fun a a0 ha => ?_⟩, ix_lt s3 s4, fun p X hX => ?_⟩
      · rw [kup_ne hj]; exact i2 k x j hj
      · by_cases q : a = v
        · subst q
          rw [vup_eq]
          exact i2 k0 0 _ hk
        · rw [qup_ne i0 a0 q]
          exact i3 a a0 (x_lt ha i0 h q)
      · unfold F_X8_copies_l2
        rw [e0, e1]
        exact br_t h ⟨⟨i0, h⟩, ⟨i0, h⟩, fun Q14 e => by rw [e]; exact hX⟩
    · refine Or.inr ⟨Q1, ⟨i2, fun a a0 ha => i3 a a0 (x_end h ha)⟩, fun p X hp => ?_⟩
      unfold F_X8_copies_l2
      exact br_f h hp) (a1 := 0) (a2 := Q) ⟨by decide, fun _ _ _ _ => rfl, fun a a0 ha => absurd ha (z_nl2 a0)⟩
  exact ⟨Q', h1, fun post hp => by unfold F_X8_copies; exact h2 post hp⟩
/-! is every cell within its quota -/
theorem x_n8 {v n : Int32} (h0 : 0 ≤ v) (h : v < n) (hn : n ≤ 8) : 0 ≤ v + 1 ∧ v + 1 ≤ n ∧ 0 ≤ 8 - (v + 1) ∧ 8 - (v + 1) < 8 - v ∧ 0 ≤ 24 + v ∧ 24 + v < 3464 := by lia
theorem d_within {i κ : Nat} {P Q : VP} (hD : RD i κ P Q) (hG : RG i κ P Q) (hB : BI P) (hκ : vlI κ = 3464) : ∃ r, (r = 0 ∨ r = 1) ∧ An (F_X6_isAnyOverfull i P) (1 - r) ∧ An (F_X8_isWithin κ Q) r := by
  have e0 := hD.1
  have hn := hD.2.2.2.2.2.1
  obtain ⟨r, hr, h1, h2⟩ := lk1_1 (ρ := Int32) (fun p => F_X6_isAnyOverfull_l2 i P (fun r => p (1 - r))) (F_X8_isWithin_l2 κ Q) (fun a b => a = b ∧ 0 ≤ a ∧ a ≤ Q κ 0 (ix 0)) (fun r => r = 0 ∨ r = 1) (fun a => ix (8 - a)) (by
    rintro v b ⟨rfl, i0, i1⟩
    by_cases h : v < Q κ 0 (ix 0)
    · obtain ⟨s1, s2, s3, s4, s5, s6⟩ := x_n8 i0 h hn.2
      have cq := c_quotaOf hD ⟨i0, h⟩
      by_cases hq : 0 < Q κ 0 (ix (24 + v))
      · obtain ⟨u, -, u1, u2⟩ := d_used hD hG hB hκ v
        by_cases hu : Q κ 0 (ix (24 + v)) < u
        · refine Or.inr ⟨0, Or.inl rfl, fun p X hp => ?_, fun p X hp => ?_⟩
          · show F_X6_isAnyOverfull_l2 _ _ _ _ _
            unfold F_X6_isAnyOverfull_l2
            rw [e0]
            exact br_t h (cq _ (br_t hq (u1 _ (cq _ (br_t hu hp)))))
          · unfold F_X8_isWithin_l2
            rw [hκ]
            exact ⟨⟨by decide, by decide⟩, br_t h ⟨⟨s5, s6⟩, br_t hq (u2 _ ⟨⟨s5, s6⟩, br_t hu hp⟩)⟩⟩
        · refine Or.inl ⟨v + 1, v + 1, ⟨rfl, s1, s2⟩, ix_lt s3 s4, fun p X hX => ?_, fun p X hX => ?_⟩
          · show F_X6_isAnyOverfull_l2 _ _ _ _ _
            unfold F_X6_isAnyOverfull_l2
            rw [e0]
            exact br_t h (cq _ (br_t hq (u1 _ (cq _ (br_f hu hX)))))
          · unfold F_X8_isWithin_l2
            rw [hκ]
            exact ⟨⟨by decide, by decide⟩, br_t h ⟨⟨s5, s6⟩, br_t hq (u2 _ ⟨⟨s5, s6⟩, br_f hu hX⟩)⟩⟩
      · refine Or.inl ⟨v + 1, v + 1, ⟨rfl, s1, s2⟩, ix_lt s3 s4, fun p X hX => ?_, fun p X hX => ?_⟩
        · show F_X6_isAnyOverfull_l2 _ _ _ _ _
          unfold F_X6_isAnyOverfull_l2
          rw [e0]
          exact br_t h (cq _ (br_f hq hX))
        · unfold F_X8_isWithin_l2
          rw [hκ]
          exact ⟨⟨by decide, by decide⟩, br_t h ⟨⟨s5, s6⟩, br_f hq hX⟩⟩
    · refine Or.inr ⟨1, Or.inr rfl, fun p X hp => ?_, fun p X hp => ?_⟩
      · show F_X6_isAnyOverfull_l2 _ _ _ _ _
        unfold F_X6_isAnyOverfull_l2
        rw [e0]
        exact br_f h hp
      · unfold F_X8_isWithin_l2
        rw [hκ]
        exact ⟨⟨by decide, by decide⟩, br_f h hp⟩) (a1 := 0) (b1 := 0) ⟨rfl, by decide, z_1 hn.1⟩
  refine ⟨r, hr, fun p hp => ?_, fun p hp => by unfold F_X8_isWithin; exact h2 _ hp⟩
  unfold F_X6_isAnyOverfull
  have h3 := h1 (fun c => p (1 - c)) hp
  have e : (fun r : Int32 => p (1 - (1 - r))) = p := funext fun c => by rw [show 1 - (1 - c) = c by lia]
  dsimp only at h3
  rw [e] at h3
  exact h3
