/-! the calls that change nothing, further -/
theorem m_there {κ : Nat} {s w : Int32} {Q : VP} (hκ : vlI κ = 3464) (ht : An (F_X8_isThere κ s Q) 1) (hs : 0 ≤ s ∧ s < 16) (hl : 1 ≤ Q κ 0 (ix (96 + s)) ∧ Q κ 0 (ix (96 + s)) ≤ 24) : (0 ≤ w ∧ w < Q κ 0 (ix (96 + s)) → An (F_X8_there κ s w Q) 0) ∧ (¬ (0 ≤ w ∧ w < Q κ 0 (ix (96 + s))) → An (F_X8_there κ s w Q) (-21)) := by
  refine ⟨fun h p hp => ?_, fun h p hp => ?_⟩
  · unfold F_X8_there
    rw [hκ]
    exact ht _ (br_f (by decide) ⟨⟨by lia, by lia⟩, m_inT (x := w) (lo := 0) (hi := Q κ 0 (ix (96 + s)) - 1) ⟨h.1, by lia⟩ _ (br_f (by decide) hp)⟩)
  · unfold F_X8_there
    rw [hκ]
    exact ht _ (br_f (by decide) ⟨⟨by lia, by lia⟩, m_inF (x := w) (lo := 0) (hi := Q κ 0 (ix (96 + s)) - 1) (by lia) _ (br_t rfl hp)⟩)
theorem m_thereN {κ : Nat} {s w : Int32} {Q : VP} (ht : An (F_X8_isThere κ s Q) 0) : An (F_X8_there κ s w Q) (-20) := by
  intro p hp
  unfold F_X8_there
  exact ht _ (br_t rfl hp)
/-- a place: there, no such word, no such segment -/
theorem d_there {i κ : Nat} {P Q : VP} (hG : RG i κ P Q) (hB : BI P) (hκ : vlI κ = 3464) (s w : Int32) : (((0 ≤ s ∧ s < 16) ∧ Q κ 0 (ix (32 + s)) = 1) ∧ (0 ≤ w ∧ w < 24) ∧ w < Q κ 0 (ix (96 + s)) ∧ P 7 (16 * i + ix s) 0 = 1 ∧ RH P Q κ (16 * i + ix s) s ∧ An (F_X6_find i s P) (some (16 * i + ix s)) ∧ An (F_X3_has (16 * i + ix s) w P) 1 ∧ An (F_X8_there κ s w Q) 0) ∨ (An (F_X6_find i s P) (some (16 * i + ix s)) ∧ An (F_X3_has (16 * i + ix s) w P) 0 ∧ An (F_X8_there κ s w Q) (-21)) ∨ (An (F_X6_find i s P) none ∧ An (F_X8_there κ s w Q) (-20)) := by
  rcases d_find hG hB hκ s with ⟨h1, h2, h3, h4, h5⟩ | ⟨h0, h1, h2⟩
  · have k4 := h3.2.2.2.1
    have kl := h3.2.2.2.2.2.2.2.2.2.2.1
    obtain ⟨t1, t2⟩ := m_there (w := w) hκ h5 h1.1 kl
    by_cases hw : 0 ≤ w ∧ w < Q κ 0 (ix (96 + s))
    · exact Or.inl ⟨h1, ⟨hw.1, by lia⟩, hw.2, h2, h3, h4, c_has hB (by rw [k4]; exact hw), t1 hw⟩
    · exact Or.inr (Or.inl ⟨h4, c_hasN (by rw [k4]; exact hw), t2 hw⟩)
  · exact Or.inr (Or.inr ⟨h1, m_thereN h2⟩)
/-- what ENTERS answers at a place that is there -/
def EN (κ : Nat) (Q : VP) (s w e : Int32) : Int32 := if Q κ 0 (ix (160 + s)) &&& 4 = 0 then -22 else if e < Q κ 0 (ix (112 + s)) then Q κ 0 (ix (112 + s)) else if Q κ 0 (ix (128 + s)) < e then (if Q κ 0 (ix (144 + s)) < e then -28 else if w < Q κ 0 (ix (176 + s)) then Q κ 0 (ix (128 + s)) else -27) else e
theorem d_enters {i κ : Nat} {P Q : VP} (hG : RG i κ P Q) (hB : BI P) (hκ : vlI κ = 3464) (s w e : Int32) : ((((0 ≤ s ∧ s < 16) ∧ Q κ 0 (ix (32 + s)) = 1) ∧ RH P Q κ (16 * i + ix s) s ∧ w < Q κ 0 (ix (96 + s))) ∧ An (F_X6_ringEntered i s w e P) (EN κ Q s w e) ∧ An (F_X8_entered κ s w e Q) (EN κ Q s w e)) ∨ ∃ r, r < 0 ∧ An (F_X6_ringEntered i s w e P) r ∧ An (F_X8_entered κ s w e Q) r := by
  rcases d_there hG hB hκ s w with ⟨h1, h2, hw, h3, h4, h5, h6, h7⟩ | ⟨h1, h2, h3⟩ | ⟨h1, h2⟩
  · obtain ⟨k1, k2, k3, k4, k5, k6, k7, k8, k9, -⟩ := id h4
    refine Or.inl ⟨⟨h1, h4, hw⟩, fun p hp => ?_, fun p hp => ?_⟩
    · unfold F_X6_ringEntered
      refine h5 _ (h6 _ ?_)
      (try dsimp only)
      rw [k5, k6, k7, k8, k9]
      unfold EN at hp
      clear hG hB h5 h6 h7
      grind (splits := 40)
    · unfold F_X8_entered
      rw [hκ]
      refine h7 _ ?_
      unfold EN at hp
      clear hG hB h5 h6 h7
      grind (splits := 40)
  · refine Or.inr ⟨-21, by decide, fun p hp => ?_, fun p hp => ?_⟩
    · unfold F_X6_ringEntered
      exact h1 _ (h2 _ (br_t rfl hp))
    · unfold F_X8_entered
      exact h3 _ (br_f (by decide) hp)
  · refine Or.inr ⟨-20, by decide, fun p hp => ?_, fun p hp => ?_⟩
    · unfold F_X6_ringEntered
      exact h1 _ hp
    · unfold F_X8_entered
      exact h2 _ (br_f (by decide) hp)
theorem D_enters {P Q : VP} (h : RR P Q) (x1 x2 x3 : Int32) : ∃ r, An (F_X7_enters x1 x2 x3 P) r ∧ An (F_X8_enters x1 x2 x3 Q) r := by
  obtain ⟨hB, ⟨hS, hD, hG, hW, hF⟩, -⟩ := h
  by_cases h1 : 0 ≤ x1 ∧ x1 < 16
  · by_cases h2 : 0 ≤ x2 ∧ x2 < 24
    · by_cases h3 : 0 ≤ x3 ∧ x3 < 8
      · obtain ⟨r, e1, e2⟩ : ∃ r, An (F_X6_ringEntered 0 x1 x2 x3 P) r ∧ An (F_X8_entered 23 x1 x2 x3 Q) r := by
          rcases d_enters hG hB (κ := 23) rfl x1 x2 x3 with ⟨-, e1, e2⟩ | ⟨r, -, e1, e2⟩
          · exact ⟨_, e1, e2⟩
          · exact ⟨_, e1, e2⟩
        refine ⟨r, fun p hp => ?_, fun p hp => ?_⟩
        · unfold F_X7_enters
          exact c_belowT h1 _ (br_f (by decide) (c_belowT h2 _ (br_f (by decide) (c_belowT h3 _ (br_f (by decide) (e1 _ hp))))))
        · unfold F_X8_enters
          exact m_inT (x := x1) (lo := 0) (hi := 15) (by lia) _ (br_f (by decide) (m_inT (x := x2) (lo := 0) (hi := 23) (by lia) _ (br_f (by decide) (m_inT (x := x3) (lo := 0) (hi := 7) (by lia) _ (br_f (by decide) (e2 _ hp))))))
      · refine ⟨-1, fun p hp => ?_, fun p hp => ?_⟩
        · unfold F_X7_enters
          exact c_belowT h1 _ (br_f (by decide) (c_belowT h2 _ (br_f (by decide) (c_belowF h3 _ (br_t rfl hp)))))
        · unfold F_X8_enters
          exact m_inT (x := x1) (lo := 0) (hi := 15) (by lia) _ (br_f (by decide) (m_inT (x := x2) (lo := 0) (hi := 23) (by lia) _ (br_f (by decide) (m_inF (x := x3) (lo := 0) (hi := 7) (by lia) _ (br_t rfl hp)))))
    · refine ⟨-1, fun p hp => ?_, fun p hp => ?_⟩
      · unfold F_X7_enters
        exact c_belowT h1 _ (br_f (by decide) (c_belowF h2 _ (br_t rfl hp)))
      · unfold F_X8_enters
        exact m_inT (x := x1) (lo := 0) (hi := 15) (by lia) _ (br_f (by decide) (m_inF (x := x2) (lo := 0) (hi := 23) (by lia) _ (br_t rfl hp)))
  · refine ⟨-1, fun p hp => ?_, fun p hp => ?_⟩
    · unfold F_X7_enters
      exact c_belowF h1 _ (br_t rfl hp)
    · unfold F_X8_enters
      exact m_inF (x := x1) (lo := 0) (hi := 15) (by lia) _ (br_t rfl hp)
/-! counts -/
theorem d_segsIn {P Q : VP} (hG : RG 0 23 P Q) (hB : BI P) (x : Int32) : ∃ r, True ∧ An (F_X6_segmentsIn 0 x P) r ∧ An (F_X8_segmentsIn x Q) r := by
  refine lk2_2 (F_X6_segmentsIn_l4 0 x P) (F_X8_segmentsIn_l4 x Q) (fun u s u' s' => u = u' ∧ s = s' ∧ 0 ≤ s ∧ s ≤ 16) (fun _ => True) (fun u s => ix (16 - s)) ?_ ⟨rfl, rfl, by decide, by decide⟩
  rintro u s u' s' ⟨rfl, rfl, h0, h1⟩
  by_cases h2 : s < 16
  · rcases d_find hG hB (κ := 23) rfl s with ⟨g1, g2, g3, g4, g5⟩ | ⟨g3, g1, g2⟩
    · have k1 := g3.1
      by_cases hr : Q 23 0 (ix (48 + s)) = x
      · refine Or.inl ⟨u + 1, s + 1, u + 1, s + 1, ⟨rfl, rfl, by lia, by lia⟩, ix_lt (by lia) (by lia), fun p X hX => ?_, fun p X hX => ?_⟩
        · unfold F_X6_segmentsIn_l4
          refine br_t h2 (g4 _ ?_)
          dsimp only
          rw [k1]
          exact br_t hr hX
        · unfold F_X8_segmentsIn_l4
          exact br_t h2 ⟨⟨by lia, by lia⟩, br_t g1.2 ⟨⟨by lia, by lia⟩, br_t hr hX⟩⟩
      · refine Or.inl ⟨u + 0, s + 1, u + 0, s + 1, ⟨rfl, rfl, by lia, by lia⟩, ix_lt (by lia) (by lia), fun p X hX => ?_, fun p X hX => ?_⟩
        · unfold F_X6_segmentsIn_l4
          refine br_t h2 (g4 _ ?_)
          dsimp only
          rw [k1]
          exact br_f hr hX
        · unfold F_X8_segmentsIn_l4
          exact br_t h2 ⟨⟨by lia, by lia⟩, br_t g1.2 ⟨⟨by lia, by lia⟩, br_f hr hX⟩⟩
    · refine Or.inl ⟨u + 0, s + 1, u + 0, s + 1, ⟨rfl, rfl, by lia, by lia⟩, ix_lt (by lia) (by lia), fun p X hX => ?_, fun p X hX => ?_⟩
      · unfold F_X6_segmentsIn_l4
        exact br_t h2 (g1 _ hX)
      · unfold F_X8_segmentsIn_l4
        exact br_t h2 ⟨⟨by lia, by lia⟩, br_f (fun q => g3 ⟨⟨h0, h2⟩, q⟩) hX⟩
  · refine Or.inr ⟨u, trivial, fun p X hp => ?_, fun p X hp => ?_⟩
    · unfold F_X6_segmentsIn_l4
      exact br_f h2 hp
    · unfold F_X8_segmentsIn_l4
      exact br_f h2 hp
theorem D_cell {P Q : VP} (h : RR P Q) (x1 x2 : Int32) : ∃ r, An (F_X7_cell x1 x2 P) r ∧ An (F_X8_cell x1 x2 Q) r := by
  obtain ⟨hB, ⟨hS, hD, hG, hW, hF⟩, -⟩ := h
  rcases d_isDir hD x1 with ⟨g1, g2, g3⟩ | ⟨g1, g2, g3⟩
  · have q1 := c_quotaOf hD g1
    have q2 := c_aboveOf hD g1
    obtain ⟨c, c0, c1, c2⟩ := d_cell hD (κ := 23) rfl x1 g1
    obtain ⟨u, -, u1, u2⟩ := d_used hD hG hB (κ := 23) rfl c
    obtain ⟨n, -, n1, n2⟩ := d_segsIn hG hB x1
    obtain ⟨-, -, -, -, -, ⟨e1, e2⟩, -⟩ := hD
    have hx : x1 < 8 := by lia
    by_cases h0 : x2 = 0
    · by_cases hr : x1 = 0
      · exact ⟨-2, fun p hp => by unfold F_X7_cell; exact g2 _ (br_f (by decide) (br_t h0 (br_t hr hp))), fun p hp => by unfold F_X8_cell; exact g3 _ (br_f (by decide) (br_t h0 (br_t hr hp)))⟩
      · exact ⟨_, fun p hp => by unfold F_X7_cell; exact g2 _ (br_f (by decide) (br_t h0 (br_f hr (q2 _ hp)))), fun p hp => by unfold F_X8_cell; exact g3 _ (br_f (by decide) (br_t h0 (br_f hr ⟨⟨by lia, by lia⟩, hp⟩)))⟩
    by_cases h1 : x2 = 1
    · exact ⟨_, fun p hp => by unfold F_X7_cell; exact g2 _ (br_f (by decide) (br_f h0 (br_t h1 (q1 _ hp)))), fun p hp => by unfold F_X8_cell; exact g3 _ (br_f (by decide) (br_f h0 (br_t h1 ⟨⟨by lia, by lia⟩, hp⟩)))⟩
    by_cases h2 : x2 = 2
    · exact ⟨u, fun p hp => by unfold F_X7_cell; exact g2 _ (br_f (by decide) (br_f h0 (br_f h1 (br_t h2 (c1 _ (u1 _ hp)))))), fun p hp => by unfold F_X8_cell; exact g3 _ (br_f (by decide) (br_f h0 (br_f h1 (br_t h2 (c2 _ (u2 _ hp))))))⟩
    by_cases h3 : x2 = 3
    · exact ⟨c, fun p hp => by unfold F_X7_cell; exact g2 _ (br_f (by decide) (br_f h0 (br_f h1 (br_f h2 (br_t h3 (c1 _ hp)))))), fun p hp => by unfold F_X8_cell; exact g3 _ (br_f (by decide) (br_f h0 (br_f h1 (br_f h2 (br_t h3 (c2 _ hp))))))⟩
    by_cases h4 : x2 = 4
    · exact ⟨n, fun p hp => by unfold F_X7_cell; exact g2 _ (br_f (by decide) (br_f h0 (br_f h1 (br_f h2 (br_f h3 (br_t h4 (n1 _ hp))))))), fun p hp => by unfold F_X8_cell; exact g3 _ (br_f (by decide) (br_f h0 (br_f h1 (br_f h2 (br_f h3 (br_t h4 (n2 _ hp)))))))⟩
    · exact ⟨-1, fun p hp => by unfold F_X7_cell; exact g2 _ (br_f (by decide) (br_f h0 (br_f h1 (br_f h2 (br_f h3 (br_f h4 hp)))))), fun p hp => by unfold F_X8_cell; exact g3 _ (br_f (by decide) (br_f h0 (br_f h1 (br_f h2 (br_f h3 (br_f h4 hp))))))⟩
  · exact ⟨-1, fun p hp => by unfold F_X7_cell; exact g2 _ (br_t rfl hp), fun p hp => by unfold F_X8_cell; exact g3 _ (br_t rfl hp)⟩
theorem d_segs {P Q : VP} (hG : RG 0 23 P Q) (hB : BI P) : ∃ r, True ∧ An (F_X6_segmentsThere 0 P) r ∧ An (F_X8_segments Q) r := by
  refine lk2_2 (F_X6_segmentsThere_l4 0 P) (F_X8_segments_l4 Q) (fun u s u' s' => u = u' ∧ s = s' ∧ 0 ≤ s ∧ s ≤ 16) (fun _ => True) (fun u s => ix (16 - s)) ?_ ⟨rfl, rfl, by decide, by decide⟩
  rintro u s u' s' ⟨rfl, rfl, h0, h1⟩
  by_cases h2 : s < 16
  · rcases d_find hG hB (κ := 23) rfl s with ⟨g1, g2, g3, g4, g5⟩ | ⟨g3, g1, g2⟩
    · refine Or.inl ⟨u + 1, s + 1, u + Q 23 0 (ix (32 + s)), s + 1, ⟨by rw [g1.2], rfl, by lia, by lia⟩, ix_lt (by lia) (by lia), fun p X hX => ?_, fun p X hX => ?_⟩
      · unfold F_X6_segmentsThere_l4
        exact br_t h2 (g4 _ hX)
      · unfold F_X8_segments_l4
        exact br_t h2 ⟨⟨by lia, by lia⟩, hX⟩
    · have z : Q 23 0 (ix (32 + s)) = 0 := by
        obtain ⟨a1, -⟩ := hG s h0 h2
        have a2 := hB.1 (16 * 0 + ix s)
        have a3 : ¬ Q 23 0 (ix (32 + s)) = 1 := fun q => g3 ⟨⟨h0, h2⟩, q⟩
        grind
      refine Or.inl ⟨u + 0, s + 1, u + Q 23 0 (ix (32 + s)), s + 1, ⟨by rw [z], rfl, by lia, by lia⟩, ix_lt (by lia) (by lia), fun p X hX => ?_, fun p X hX => ?_⟩
      · unfold F_X6_segmentsThere_l4
        exact br_t h2 (g1 _ hX)
      · unfold F_X8_segments_l4
        exact br_t h2 ⟨⟨by lia, by lia⟩, hX⟩
  · refine Or.inr ⟨u, trivial, fun p X hp => ?_, fun p X hp => ?_⟩
    · unfold F_X6_segmentsThere_l4
      exact br_f h2 hp
    · unfold F_X8_segments_l4
      exact br_f h2 hp
theorem d_recs {P Q : VP} (hG : RG 0 23 P Q) (hB : BI P) : ∃ r, True ∧ An (F_X6_recordsOfAll 0 P) r ∧ An (F_X8_recordsAll Q) r := by
  refine lk2_2 (F_X6_recordsOfAll_l4 0 P) (F_X8_recordsAll_l4 Q) (fun u s u' s' => u = u' ∧ s = s' ∧ 0 ≤ s ∧ s ≤ 16) (fun _ => True) (fun u s => ix (16 - s)) ?_ ⟨rfl, rfl, by decide, by decide⟩
  rintro u s u' s' ⟨rfl, rfl, h0, h1⟩
  by_cases h2 : s < 16
  · rcases d_find hG hB (κ := 23) rfl s with ⟨g1, g2, g3, g4, g5⟩ | ⟨g3, g1, g2⟩
    · have k4 := g3.2.2.2.1
      refine Or.inl ⟨u + (Q 23 0 (ix (96 + s)) + 7) / 8, s + 1, u + (Q 23 0 (ix (96 + s)) + 7) / 8, s + 1, ⟨rfl, rfl, by lia, by lia⟩, ix_lt (by lia) (by lia), fun p X hX => ?_, fun p X hX => ?_⟩
      · unfold F_X6_recordsOfAll_l4
        refine br_t h2 (g4 _ ?_)
        dsimp only
        rw [k4]
        exact c_rec _ _ hX
      · unfold F_X8_recordsAll_l4
        exact br_t h2 ⟨⟨by lia, by lia⟩, br_t g1.2 ⟨⟨by lia, by lia⟩, m_rec _ _ hX⟩⟩
    · refine Or.inl ⟨u + 0, s + 1, u + 0, s + 1, ⟨rfl, rfl, by lia, by lia⟩, ix_lt (by lia) (by lia), fun p X hX => ?_, fun p X hX => ?_⟩
      · unfold F_X6_recordsOfAll_l4
        exact br_t h2 (g1 _ hX)
      · unfold F_X8_recordsAll_l4
        exact br_t h2 ⟨⟨by lia, by lia⟩, br_f (fun q => g3 ⟨⟨h0, h2⟩, q⟩) hX⟩
  · refine Or.inr ⟨u, trivial, fun p X hp => ?_, fun p X hp => ?_⟩
    · unfold F_X6_recordsOfAll_l4
      exact br_f h2 hp
    · unfold F_X8_recordsAll_l4
      exact br_f h2 hp
theorem d_cells {P Q : VP} (hD : RD 0 23 P Q) : ∃ r, True ∧ An (F_X6_cells 0 P) r ∧ An (F_X8_cells 0 Q) r := by
  have hD0 := hD
  obtain ⟨e0, -, -, -, -, ⟨e1, e2⟩, -⟩ := hD
  refine lk2_2 (F_X6_cells_l4 0 P) (F_X8_cells_l4 0 Q) (fun u s u' s' => u = u' ∧ s = s' ∧ 0 ≤ s ∧ s ≤ Q 23 0 (ix 0)) (fun _ => True) (fun u s => ix (16 - s)) ?_ ⟨rfl, rfl, by decide, by lia⟩
  rintro u s u' s' ⟨rfl, rfl, h0, h1⟩
  by_cases h2 : s < Q 23 0 (ix 0)
  · have q := c_quotaOf hD0 (x := s) ⟨h0, h2⟩
    by_cases h3 : 0 < Q 23 0 (ix (24 + s))
    · refine Or.inl ⟨u + 1, s + 1, u + 1, s + 1, ⟨rfl, rfl, by lia, by lia⟩, ix_lt (by lia) (by lia), fun p X hX => ?_, fun p X hX => ?_⟩
      · unfold F_X6_cells_l4
        exact br_t (by lia) (q _ (br_t h3 hX))
      · unfold F_X8_cells_l4
        exact ⟨⟨by decide, by decide⟩, br_t h2 (br_t rfl ⟨⟨by lia, by lia⟩, br_t h3 hX⟩)⟩
    · refine Or.inl ⟨u + 0, s + 1, u + 0, s + 1, ⟨rfl, rfl, by lia, by lia⟩, ix_lt (by lia) (by lia), fun p X hX => ?_, fun p X hX => ?_⟩
      · unfold F_X6_cells_l4
        exact br_t (by lia) (q _ (br_f h3 hX))
      · unfold F_X8_cells_l4
        exact ⟨⟨by decide, by decide⟩, br_t h2 (br_t rfl ⟨⟨by lia, by lia⟩, br_f h3 hX⟩)⟩
  · refine Or.inr ⟨u, trivial, fun p X hp => ?_, fun p X hp => ?_⟩
    · unfold F_X6_cells_l4
      exact br_f (by lia) hp
    · unfold F_X8_cells_l4
      exact ⟨⟨by decide, by decide⟩, br_f h2 hp⟩
theorem d_quotas {P Q : VP} (hD : RD 0 23 P Q) : ∃ r, True ∧ An (F_X6_quotaOfAll 0 P) r ∧ An (F_X8_cells 1 Q) r := by
  have hD0 := hD
  obtain ⟨e0, -, -, -, -, ⟨e1, e2⟩, -⟩ := hD
  refine lk2_2 (F_X6_quotaOfAll_l4 0 P) (F_X8_cells_l4 1 Q) (fun u s u' s' => u = u' ∧ s = s' ∧ 0 ≤ s ∧ s ≤ Q 23 0 (ix 0)) (fun _ => True) (fun u s => ix (16 - s)) ?_ ⟨rfl, rfl, by decide, by lia⟩
  rintro u s u' s' ⟨rfl, rfl, h0, h1⟩
  by_cases h2 : s < Q 23 0 (ix 0)
  · have q := c_quotaOf hD0 (x := s) ⟨h0, h2⟩
    refine Or.inl ⟨u + Q 23 0 (ix (24 + s)), s + 1, u + Q 23 0 (ix (24 + s)), s + 1, ⟨rfl, rfl, by lia, by lia⟩, ix_lt (by lia) (by lia), fun p X hX => ?_, fun p X hX => ?_⟩
    · unfold F_X6_quotaOfAll_l4
      exact br_t (by lia) (q _ hX)
    · unfold F_X8_cells_l4
      exact ⟨⟨by decide, by decide⟩, br_t h2 (br_f (by decide) ⟨⟨by lia, by lia⟩, hX⟩)⟩
  · refine Or.inr ⟨u, trivial, fun p X hp => ?_, fun p X hp => ?_⟩
    · unfold F_X6_quotaOfAll_l4
      exact br_f (by lia) hp
    · unfold F_X8_cells_l4
      exact ⟨⟨by decide, by decide⟩, br_f h2 hp⟩
