/-! pointer; room; the least number free -/
theorem z_sg {x : Int32} (h : ¬ 15 < x) : x < 16 := by lia
theorem z_sg' {x : Int32} (h : 15 < x) : ¬ x < 16 := by lia
theorem z_rg {x : Int32} (h : ¬ 7 < x) : x < 8 := by lia
theorem z_rg' {x : Int32} (h : 7 < x) : ¬ x < 8 := by lia
theorem z_wg {x : Int32} (h : ¬ 23 < x) : x < 24 := by lia
theorem z_wg' {x : Int32} (h : 23 < x) : ¬ x < 24 := by lia
theorem D_pointer {P Q : VP} (h : RR P Q) (x1 x2 x3 x4 : Int32) : ∃ r P1 Q1, RR P1 Q1 ∧ Am (F_X7_pointer x1 x2 x3 x4 P) r P1 ∧ Am (F_X8_pointer x1 x2 x3 x4 Q) r Q1 := by
  rcases d_isSeg h.2.1.2.2.1 h.1 x1 with ⟨⟨g0, g1⟩, g2, g3, g4, g5⟩ | ⟨-, g4, g5⟩
  · by_cases h0 : x3 < 0
    · refine ⟨-1, P, Q, h, fun p hp => ?_, fun p hp => ?_⟩
      · unfold F_X7_pointer
        exact br_t h0 hp
      · unfold F_X8_pointer F_X8_isPointer
        exact g5 _ (br_f (by decide) (br_t h0 (br_t rfl hp)))
    by_cases h1 : 15 < x3 / 1000
    · refine ⟨-1, P, Q, h, fun p hp => ?_, fun p hp => ?_⟩
      · unfold F_X7_pointer F_X7_segmentIn
        exact br_f h0 (br_f (z_sg' h1) hp)
      · unfold F_X8_pointer F_X8_isPointer
        exact g5 _ (br_f (by decide) (br_f h0 (br_t h1 (br_t rfl hp))))
    by_cases h2 : 7 < (x3 / 100) - (x3 / 100) / 10 * 10
    · refine ⟨-1, P, Q, h, fun p hp => ?_, fun p hp => ?_⟩
      · unfold F_X7_pointer F_X7_segmentIn F_X7_ringIn
        exact br_f h0 (br_t (z_sg h1) (br_f (z_rg' h2) hp))
      · unfold F_X8_pointer F_X8_isPointer
        exact g5 _ (br_f (by decide) (br_f h0 (br_f h1 (br_t h2 (br_t rfl hp)))))
    by_cases h3 : 23 < x3 - x3 / 100 * 100
    · refine ⟨-1, P, Q, h, fun p hp => ?_, fun p hp => ?_⟩
      · unfold F_X7_pointer F_X7_segmentIn F_X7_ringIn F_X7_wordIn
        exact br_f h0 (br_t (z_sg h1) (br_t (z_rg h2) (br_f (z_wg' h3) hp)))
      · unfold F_X8_pointer F_X8_isPointer
        exact g5 _ (br_f (by decide) (br_f h0 (br_f h1 (br_f h2 (br_t h3 (br_t rfl hp))))))
    · have hx : 0 ≤ x3 := by lia
      obtain ⟨d1, d2, d3, d4⟩ := dv_in hx
      have hr : ∀ k, k = 2 ∨ k = 3 → WR k x3 0 k ((x3 / 100) - (x3 / 100) / 10 * 10) (x3 / 1000) (x3 - x3 / 100 * 100) 0 0 := fun k hk => ⟨rfl, Or.inr (Or.inr (Or.inl ⟨hk, d4, rfl, ⟨d2, z_rg h2⟩, ⟨d1, z_sg h1⟩, d3.1, z_wg h3⟩))⟩
      by_cases h4 : x4 = 0
      · obtain ⟨r, P1, Q1, q1, q2, q3⟩ := d_write1 (x2 := x2) h g0 g2 g3 (hr 2 (Or.inl rfl))
        refine ⟨r, P1, Q1, q1, fun p hp => ?_, fun p hp => ?_⟩
        · unfold F_X7_pointer F_X7_segmentIn F_X7_ringIn F_X7_wordIn
          exact br_f h0 (br_t (z_sg h1) (br_t (z_rg h2) (br_t (z_wg h3) (g4 _ (br_t h4 (q2 _ hp))))))
        · unfold F_X8_pointer F_X8_isPointer F_X8_pointer_b30
          exact g5 _ (br_f (by decide) (br_f h0 (br_f h1 (br_f h2 (br_f h3 (br_f (by decide) (br_t h4 (q3 _ hp))))))))
      · obtain ⟨r, P1, Q1, q1, q2, q3⟩ := d_write1 (x2 := x2) h g0 g2 g3 (hr 3 (Or.inr rfl))
        refine ⟨r, P1, Q1, q1, fun p hp => ?_, fun p hp => ?_⟩
        · unfold F_X7_pointer F_X7_segmentIn F_X7_ringIn F_X7_wordIn
          exact br_f h0 (br_t (z_sg h1) (br_t (z_rg h2) (br_t (z_wg h3) (g4 _ (br_f h4 (q2 _ hp))))))
        · unfold F_X8_pointer F_X8_isPointer F_X8_pointer_b30
          exact g5 _ (br_f (by decide) (br_f h0 (br_f h1 (br_f h2 (br_f h3 (br_f (by decide) (br_f h4 (q3 _ hp))))))))
  · refine ⟨-1, P, Q, h, fun p hp => ?_, fun p hp => ?_⟩
    · unfold F_X7_pointer F_X7_segmentIn F_X7_ringIn F_X7_wordIn F_X7_write
      by_cases h0 : x3 < 0
      · exact br_t h0 hp
      by_cases h1 : x3 / 1000 < 16
      · by_cases h2 : (x3 / 100) - (x3 / 100) / 10 * 10 < 8
        · by_cases h3 : x3 - x3 / 100 * 100 < 24
          · refine br_f h0 (br_t h1 (br_t h2 (br_t h3 (g4 _ ?_))))
            by_cases h4 : x4 = 0
            · exact br_t h4 hp
            · exact br_f h4 hp
          · exact br_f h0 (br_t h1 (br_t h2 (br_f h3 hp)))
        · exact br_f h0 (br_t h1 (br_f h2 hp))
      · exact br_f h0 (br_f h1 hp)
    · unfold F_X8_pointer
      exact g5 _ (br_t rfl hp)
theorem z_d8 {x n : Int32} (h : 0 ≤ x ∧ x < n) (hn : n ≤ 8) : 0 ≤ 24 + x ∧ 24 + x < 3464 := by lia
theorem d_room {P Q : VP} (h : RR P Q) {x1 : Int32} (hx : 0 ≤ x1 ∧ x1 < Q 23 0 (ix 0)) (x2 : Int32) : ∃ r, (r = 0 ∨ r = 1) ∧ An (F_X6_hasRoom 0 x1 x2 P) r ∧ An (F_X8_hasRoom x1 x2 Q) r := by
  have hD := h.2.1.2.1
  obtain ⟨c, ⟨c0, -⟩, c1, c2⟩ := d_cell hD (κ := 23) rfl x1 hx
  obtain ⟨u, -, u1, u2⟩ := d_used hD h.2.1.2.2.1 h.1 (κ := 23) rfl c
  have q1 := c_quotaOf hD c0
  have hc := z_d8 c0 hD.2.2.2.2.2.1.2
  by_cases h3 : Q 23 0 (ix (24 + c)) < u + x2
  · refine ⟨0, Or.inl rfl, fun p hp => ?_, fun p hp => ?_⟩
    · unfold F_X6_hasRoom
      exact c1 _ (u1 _ (q1 _ (br_t h3 hp)))
    · unfold F_X8_hasRoom
      exact c2 _ (u2 _ ⟨hc, br_t h3 hp⟩)
  · refine ⟨1, Or.inr rfl, fun p hp => ?_, fun p hp => ?_⟩
    · unfold F_X6_hasRoom
      exact c1 _ (u1 _ (q1 _ (br_f h3 hp)))
    · unfold F_X8_hasRoom
      exact c2 _ (u2 _ ⟨hc, br_f h3 hp⟩)
def LF (Q : VP) (r : Int32) : Prop := (r = 16 ∧ ∀ s : Int32, 0 ≤ s → s < 16 → Q 23 0 (ix (32 + s)) = 1) ∨ ((0 ≤ r ∧ r < 16) ∧ ¬ Q 23 0 (ix (32 + r)) = 1 ∧ ∀ s : Int32, 0 ≤ s → s < r → Q 23 0 (ix (32 + s)) = 1)
theorem LF_ex (Q : VP) : ∃ r, LF Q r := by
  obtain ⟨r, hr, -⟩ := lk1 (ρ := Int32) (fun p X a => (a < 16 → (¬ Q 23 0 (ix (32 + a)) = 1 → p a) ∧ (Q 23 0 (ix (32 + a)) = 1 → X (a + 1))) ∧ (¬ a < 16 → p 16)) (fun a => (0 ≤ a ∧ a ≤ 16) ∧ ∀ s : Int32, 0 ≤ s → s < a → Q 23 0 (ix (32 + s)) = 1) (LF Q) (fun a => ix (16 - a)) (fun a ⟨⟨h0, h1⟩, h2⟩ => by
    by_cases h3 : a < 16
    · by_cases h4 : Q 23 0 (ix (32 + a)) = 1
      · refine Or.inl ⟨a + 1, ⟨⟨by lia, by lia⟩, fun s q1 q2 => ?_⟩, ix_lt (by lia) (by lia), fun p X hp => ⟨fun _ => ⟨fun q => absurd h4 q, fun _ => hp⟩, fun q => absurd h3 q⟩⟩
        by_cases h5 : s = a
        · rw [h5]; exact h4
        · exact h2 s q1 (by lia)
      · exact Or.inr ⟨a, Or.inr ⟨⟨h0, h3⟩, h4, h2⟩, fun p X hp => ⟨fun _ => ⟨fun _ => hp, fun q => absurd q h4⟩, fun q => absurd h3 q⟩⟩
    · exact Or.inr ⟨16, Or.inl ⟨rfl, fun s q1 q2 => h2 s q1 (by lia)⟩, fun p X hp => ⟨fun q => absurd q h3, fun _ => hp⟩⟩) (a1 := 0) ⟨⟨by decide, by decide⟩, fun s q1 q2 => absurd q2 (by lia)⟩
  exact ⟨r, hr⟩
theorem LF_r {Q : VP} {r : Int32} (h : LF Q r) : (r = 16 ∨ (0 ≤ r ∧ r < 16)) ∧ (∀ s : Int32, 0 ≤ s → s < r → Q 23 0 (ix (32 + s)) = 1) := by
  rcases h with ⟨rfl, q⟩ | ⟨q0, -, q⟩
  · exact ⟨Or.inl rfl, q⟩
  · exact ⟨Or.inr q0, q⟩
theorem z_l1 {a r : Int32} (h0 : 0 ≤ a) (h1 : a < r) (hr : r = 16 ∨ (0 ≤ r ∧ r < 16)) : a < 16 ∧ 0 ≤ a + 1 ∧ a + 1 ≤ r ∧ 0 ≤ 16 - (a + 1) ∧ 16 - (a + 1) < 16 - a ∧ 0 ≤ 32 + a ∧ 32 + a < 3464 := by lia
theorem z_l2 {a r : Int32} (h : a ≤ r) (h1 : ¬ a < r) : a = r := by lia
theorem c_least {P Q : VP} (hG : RG 0 23 P Q) (hB : BI P) {r : Int32} (hr : LF Q r) : An (F_X6_leastFree 0 P) (if r = 16 then -1 else r) := by
  intro p hp
  obtain ⟨r1, r2⟩ := LF_r hr
  unfold F_X6_leastFree
  refine vL1_i (fun a => 0 ≤ a ∧ a ≤ r) (fun a => ix (16 - a)) ?_ ⟨by decide, by lia⟩
  rintro X a ⟨a0, a1⟩ hX
  unfold F_X6_leastFree_l2
  by_cases h1 : a < r
  · obtain ⟨i1, i2, i3, i4, i5, -⟩ := z_l1 a0 h1 r1
    have e := (hG a a0 i1).1
    rw [r2 a a0 h1] at e
    exact br_t i1 ⟨⟨a0, i1⟩, br_f (by rw [e]; decide) (hX _ ⟨i2, i3⟩ (ix_lt i4 i5))⟩
  · have e := z_l2 a1 h1
    subst e
    rcases hr with ⟨rfl, -⟩ | ⟨q0, q1, -⟩
    · rw [if_pos rfl] at hp
      exact br_f (by decide) hp
    · rw [if_neg (by lia)] at hp
      have e := (hG a a0 q0.2).1
      refine br_t q0.2 ⟨⟨a0, q0.2⟩, br_t ?_ hp⟩
      rcases hB.1 (16 * 0 + ix a) with w | w
      · exact w
      · exact absurd (e.symm.trans w) q1
theorem m_least {Q : VP} {r : Int32} (hr : LF Q r) (x1 x2 x3 : Int32) (post : Int32 → VP → Prop) (hp : F_X8_segment_b71 x1 x2 x3 Q post r) : vL1 (F_X8_segment_l44 x1 x2 x3 Q post) 0 := by
  obtain ⟨r1, r2⟩ := LF_r hr
  refine vL1_i (fun a => 0 ≤ a ∧ a ≤ r) (fun a => ix (16 - a)) ?_ ⟨by decide, by lia⟩
  rintro X a ⟨a0, a1⟩ hX
  unfold F_X8_segment_l44
  by_cases h1 : a < r
  · obtain ⟨i1, i2, i3, i4, i5, i6, i7⟩ := z_l1 a0 h1 r1
    exact br_t i1 ⟨⟨i6, i7⟩, br_t (r2 a a0 h1) (hX _ ⟨i2, i3⟩ (ix_lt i4 i5))⟩
  · have e := z_l2 a1 h1
    subst e
    rcases hr with ⟨rfl, -⟩ | ⟨q0, q1, -⟩
    · exact br_f (by decide) hp
    · exact br_t q0.2 ⟨⟨by lia, by lia⟩, br_f q1 hp⟩
