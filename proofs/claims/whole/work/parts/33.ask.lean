/-! the calls that change nothing -/
theorem c_belowT {x b : Int32} {P : VP} (h : 0 ≤ x ∧ x < b) : An (F_X7_isBelow x b P) 1 := by
  intro p hp
  unfold F_X7_isBelow
  exact br_f (by lia) (br_t h.2 hp)
theorem c_belowF {x b : Int32} {P : VP} (h : ¬ (0 ≤ x ∧ x < b)) : An (F_X7_isBelow x b P) 0 := by
  intro p hp
  unfold F_X7_isBelow
  by_cases h1 : x < 0
  · exact br_t h1 hp
  · exact br_f h1 (br_f (by lia) hp)
theorem D_lookup {P Q : VP} (h : RR P Q) (x1 x2 : Int32) : ∃ r, An (F_X7_lookup x1 x2 P) r ∧ An (F_X8_lookup x1 x2 Q) r := by
  obtain ⟨hB, ⟨hS, hD, hG, hW, hF⟩, -⟩ := h
  rcases d_isSeg hG hB x1 with ⟨g1, g2, g3, g4, g5⟩ | ⟨g1, g4, g5⟩
  · by_cases hb : 0 ≤ x2 ∧ x2 < 26
    · obtain ⟨r, r1, r2⟩ := m_found (κ := 23) (n := x2) rfl hD.2.2.2.2.2.2.1 g1.1
      have r3 := c_seek hG hD hB g3.1 r1
      rcases LK_r r1 with e | e
      · refine ⟨-2, fun p hp => ?_, fun p hp => ?_⟩
        · unfold F_X7_lookup
          exact g4 _ (c_belowT hb _ (br_f (by decide) (r3 _ (br_t (by lia) hp))))
        · unfold F_X8_lookup
          exact g5 _ (br_f (by decide) (m_inT (x := x2) (lo := 0) (hi := 25) ⟨hb.1, by lia⟩ _ (br_f (by decide) (r2 _ (br_t (by lia) hp)))))
      · refine ⟨r, fun p hp => ?_, fun p hp => ?_⟩
        · unfold F_X7_lookup
          exact g4 _ (c_belowT hb _ (br_f (by decide) (r3 _ (br_f (by lia) hp))))
        · unfold F_X8_lookup
          exact g5 _ (br_f (by decide) (m_inT (x := x2) (lo := 0) (hi := 25) ⟨hb.1, by lia⟩ _ (br_f (by decide) (r2 _ (br_f (by lia) hp)))))
    · refine ⟨-1, fun p hp => ?_, fun p hp => ?_⟩
      · unfold F_X7_lookup
        exact g4 _ (c_belowF hb _ (br_t rfl hp))
      · unfold F_X8_lookup
        exact g5 _ (br_f (by decide) (m_inF (x := x2) (lo := 0) (hi := 25) (by lia) _ (br_t rfl hp)))
  · refine ⟨-1, fun p hp => ?_, fun p hp => ?_⟩
    · unfold F_X7_lookup
      exact g4 _ hp
    · unfold F_X8_lookup
      exact g5 _ (br_t rfl hp)
theorem D_of {P Q : VP} (h : RR P Q) (x1 x2 : Int32) : ∃ r, An (F_X7_of x1 x2 P) r ∧ An (F_X8_of x1 x2 Q) r := by
  obtain ⟨hB, ⟨hS, hD, hG, hW, hF⟩, -⟩ := h
  rcases d_isSeg hG hB x1 with ⟨g1, g2, g3, g4, g5⟩ | ⟨g1, g4, g5⟩
  · obtain ⟨k1, k2, k3, k4, k5, k6, k7, k8, k9, -⟩ := g3
    refine ⟨if x2 = 0 then Q 23 0 (ix (48 + x1)) else if x2 = 1 then Q 23 0 (ix (64 + x1)) else if x2 = 2 then Q 23 0 (ix (96 + x1)) else if x2 = 3 then Q 23 0 (ix (112 + x1)) else if x2 = 4 then Q 23 0 (ix (128 + x1)) else if x2 = 5 then Q 23 0 (ix (144 + x1)) else if x2 = 6 then Q 23 0 (ix (160 + x1)) else if x2 = 7 then Q 23 0 (ix (176 + x1)) else if x2 = 8 then Q 23 0 (ix (80 + x1)) else if x2 = 9 then (Q 23 0 (ix (96 + x1)) + 7) / 8 else -1, fun p hp => ?_, fun p hp => ?_⟩
    · unfold F_X7_of
      refine g4 _ ?_
      dsimp only
      unfold F_X7_recordsOf
      rw [k1, k2, k3, k4, k5, k6, k7, k8, k9, rec_eq]
      clear g4 g5 hB hS hD hG hW hF
      grind (splits := 30)
    · unfold F_X8_of
      refine g5 _ ?_
      unfold F_X8_records
      have := g1.1
      clear g4 g5 hB hS hD hG hW hF
      grind (splits := 30)
  · refine ⟨-1, fun p hp => ?_, fun p hp => ?_⟩
    · unfold F_X7_of
      exact g4 _ hp
    · unfold F_X8_of
      exact g5 _ (br_t rfl hp)
theorem D_word {P Q : VP} (h : RR P Q) (x1 x2 x3 : Int32) : ∃ r, An (F_X7_word x1 x2 x3 P) r ∧ An (F_X8_word x1 x2 x3 Q) r := by
  obtain ⟨hB, ⟨hS, hD, hG, hW, hF⟩, -⟩ := h
  rcases d_isSeg hG hB x1 with ⟨g1, g2, g3, g4, g5⟩ | ⟨g1, g4, g5⟩
  · obtain ⟨k1, k2, k3, k4, k5, k6, k7, k8, k9, -, kl, -⟩ := g3
    obtain ⟨w1, w2⟩ := m_isWord (w := x2) g1.1 kl
    by_cases hw : 0 ≤ x2 ∧ x2 < Q 23 0 (ix (96 + x1))
    · have hw2 : 0 ≤ x2 ∧ x2 < 24 := ⟨hw.1, by lia⟩
      have w3 := w1 hw
      have c1 := c_has hB (y := 16 * 0 + ix x1) (w := x2) (by rw [k4]; exact hw)
      have c2 := c_kindAt hB (y := 16 * 0 + ix x1) hw2
      have c3 := c_valueAt hB (y := 16 * 0 + ix x1) hw2
      have c4 := c_knownAt hB (y := 16 * 0 + ix x1) hw2
      have t0 := m_told0 (κ := 23) (Q := Q) rfl g1.1 hw2
      have t1 := m_told (κ := 23) (Q := Q) (j := 1) rfl g1.1 hw2 (by decide)
      have t2 := m_told (κ := 23) (Q := Q) (j := 2) rfl g1.1 hw2 (by decide)
      have t3 := m_told (κ := 23) (Q := Q) (j := 3) rfl g1.1 hw2 (by decide)
      have t4 := m_told (κ := 23) (Q := Q) (j := 4) rfl g1.1 hw2 (by decide)
      have t5 := m_told (κ := 23) (Q := Q) (j := 5) rfl g1.1 hw2 (by decide)
      obtain ⟨e0, e1⟩ := hW x1 x2 g1.1.1 g1.1.2 hw2.1 hw2.2 g2
      by_cases h0 : x3 = 0
      · refine ⟨P 8 (16 * 0 + ix x1) (ix x2), fun p hp => ?_, fun p hp => ?_⟩
        · unfold F_X7_word
          exact g4 _ (c1 _ (br_f (by decide) (br_t h0 (c2 _ hp))))
        · unfold F_X8_word
          rw [e0] at hp
          exact g5 _ (br_f (by decide) (w3 _ (br_f (by decide) (m_inT (x := x3) (lo := 0) (hi := 2) (by lia) _ (br_f (by decide) (t0 _ (br_t h0 hp)))))))
      by_cases h1 : x3 = 1
      · refine ⟨P 9 (16 * 0 + ix x1) (ix x2), fun p hp => ?_, fun p hp => ?_⟩
        · unfold F_X7_word
          exact g4 _ (c1 _ (br_f (by decide) (br_f h0 (br_t h1 (c3 _ hp)))))
        · unfold F_X8_word
          refine g5 _ (br_f (by decide) (w3 _ (br_f (by decide) (m_inT (x := x3) (lo := 0) (hi := 2) (by lia) _ (br_f (by decide) (t0 _ (br_f h0 (br_t h1 ?_))))))))
          unfold F_X8_toldOf
          refine t1 _ (t2 _ (t3 _ (t0 _ ?_)))
          grind
      by_cases h2 : x3 = 2
      · refine ⟨P 10 (16 * 0 + ix x1) (ix x2), fun p hp => ?_, fun p hp => ?_⟩
        · unfold F_X7_word
          exact g4 _ (c1 _ (br_f (by decide) (br_f h0 (br_f h1 (br_t h2 (c4 _ hp))))))
        · unfold F_X8_word
          refine g5 _ (br_f (by decide) (w3 _ (br_f (by decide) (m_inT (x := x3) (lo := 0) (hi := 2) (by lia) _ (br_f (by decide) (t0 _ (br_f h0 (br_f h1 ?_))))))))
          by_cases h5 : Q 23 0 (ix (wa x1 x2)) = 5
          · refine br_t h5 (t4 _ (t5 _ ?_))
            grind
          · refine br_f h5 ?_
            grind
      · refine ⟨-2000000000, fun p hp => ?_, fun p hp => ?_⟩
        · unfold F_X7_word
          exact g4 _ (c1 _ (br_f (by decide) (br_f h0 (br_f h1 (br_f h2 hp)))))
        · unfold F_X8_word
          exact g5 _ (br_f (by decide) (w3 _ (br_f (by decide) (m_inF (x := x3) (lo := 0) (hi := 2) (by lia) _ (br_t rfl hp)))))
    · have w3 := w2 hw
      have c1 := c_hasN (P := P) (y := 16 * 0 + ix x1) (w := x2) (by rw [k4]; exact hw)
      refine ⟨-2000000000, fun p hp => ?_, fun p hp => ?_⟩
      · unfold F_X7_word
        exact g4 _ (c1 _ (br_t rfl hp))
      · unfold F_X8_word
        exact g5 _ (br_f (by decide) (w3 _ (br_t rfl hp)))
  · refine ⟨-2000000000, fun p hp => ?_, fun p hp => ?_⟩
    · unfold F_X7_word
      exact g4 _ hp
    · unfold F_X8_word
      exact g5 _ (br_t rfl hp)
theorem D_why {P Q : VP} (h : RR P Q) : ∃ r, An (F_X7_why P) r ∧ An (F_X8_why Q) r := by
  obtain ⟨hB, hM, ⟨-, -, e⟩, -⟩ := h
  refine ⟨Q 22 0 4, fun p hp => ?_, fun p hp => ?_⟩
  · unfold F_X7_why
    rw [e]; exact hp
  · unfold F_X8_why
    exact hp
theorem c_height {i κ : Nat} {P Q : VP} (hF : RF i κ P Q) {r : Int32} (h : 0 ≤ r ∧ r < 8) : An (F_X4_heightOf i r P) (Q κ 0 (ix (192 + r))) := by
  intro p hp
  have h1 := (hF r h.1 h.2).1
  unfold F_X4_heightOf
  rw [h1]
  exact br_f (by lia) (br_t h.2 ⟨h, hp⟩)
theorem D_machine {P Q : VP} (h : RR P Q) (x1 : Int32) : ∃ r, An (F_X7_machine x1 P) r ∧ An (F_X8_machine x1 Q) r := by
  obtain ⟨hB, ⟨⟨s1, s2, s3, s4, -⟩, hD, hG, hW, hF⟩, -⟩ := h
  by_cases h1 : 0 ≤ x1 ∧ x1 ≤ 3
  · refine ⟨Q 23 0 (ix (3 + x1)), fun p hp => ?_, fun p hp => ?_⟩
    · unfold F_X7_machine
      rw [s1, s2, s3, s4]
      by_cases e0 : x1 = 0
      · subst e0; exact br_t rfl hp
      by_cases e1 : x1 = 1
      · subst e1; exact br_f e0 (br_t rfl hp)
      by_cases e2 : x1 = 2
      · subst e2; exact br_f e0 (br_f e1 (br_t rfl hp))
      · have e3 : x1 = 3 := by lia
        subst e3; exact br_f e0 (br_f e1 (br_f e2 (br_t rfl hp)))
    · unfold F_X8_machine
      exact m_inT (x := x1) (lo := 0) (hi := 3) h1 _ (br_f (by decide) ⟨⟨by lia, by lia⟩, hp⟩)
  by_cases h2 : 10 ≤ x1 ∧ x1 ≤ 17
  · refine ⟨Q 23 0 (ix (192 + (x1 - 10))), fun p hp => ?_, fun p hp => ?_⟩
    · unfold F_X7_machine
      exact br_f (by lia) (br_f (by lia) (br_f (by lia) (br_f (by lia) (br_f (by lia) (br_t (by lia) (c_height hF (r := x1 - 10) ⟨by lia, by lia⟩ _ hp))))))
    · unfold F_X8_machine
      have e : (192 + x1) - 10 = 192 + (x1 - 10) := by lia
      rw [e]
      exact m_inF (x := x1) (lo := 0) (hi := 3) h1 _ (br_t rfl (m_inT (x := x1) (lo := 10) (hi := 17) h2 _ (br_f (by decide) ⟨⟨by lia, by lia⟩, hp⟩)))
  · refine ⟨-2000000000, fun p hp => ?_, fun p hp => ?_⟩
    · unfold F_X7_machine
      refine br_f (by lia) (br_f (by lia) (br_f (by lia) (br_f (by lia) ?_)))
      by_cases h3 : x1 < 10
      · exact br_t h3 hp
      · exact br_f h3 (br_f (by lia) hp)
    · unfold F_X8_machine
      exact m_inF (x := x1) (lo := 0) (hi := 3) h1 _ (br_t rfl (m_inF (x := x1) (lo := 10) (hi := 17) h2 _ (br_t rfl hp)))
theorem c_frameAt {i κ : Nat} {P Q : VP} (hF : RF i κ P Q) {r k : Int32} (h : 0 ≤ r ∧ r < 8) (hk : 0 ≤ k) : (k < Q κ 0 (ix (192 + r)) → An (F_X4_frameAt i r k P) (some (49 * i + ix ((r * 6) + k)))) ∧ (¬ k < Q κ 0 (ix (192 + r)) → An (F_X4_frameAt i r k P) none) := by
  have hh := c_height hF h
  have h1 := (hF r h.1 h.2).2.1
  refine ⟨fun q p hp => ?_, fun q p hp => ?_⟩
  · unfold F_X4_frameAt
    exact br_f (by lia) (hh _ (br_t q (br_t (by lia) (br_f (by lia) (br_t (by lia) ⟨⟨by lia, by lia⟩, hp⟩)))))
  · unfold F_X4_frameAt
    exact br_f (by lia) (hh _ (br_f q hp))
theorem D_frame {P Q : VP} (h : RR P Q) (x1 x2 x3 : Int32) : ∃ r, An (F_X7_frame x1 x2 x3 P) r ∧ An (F_X8_frame x1 x2 x3 Q) r := by
  obtain ⟨hB, ⟨hS, hD, hG, hW, hF⟩, -⟩ := h
  by_cases h1 : 0 ≤ x1 ∧ x1 < 8
  · by_cases h2 : x2 < 0
    · refine ⟨-1, fun p hp => ?_, fun p hp => ?_⟩
      · unfold F_X7_frame
        exact c_belowT h1 _ (br_f (by decide) (br_t h2 hp))
      · unfold F_X8_frame
        exact m_inT (x := x1) (lo := 0) (hi := 7) (by lia) _ (br_f (by decide) (br_t h2 hp))
    · by_cases h3 : 0 ≤ x3 ∧ x3 < 5
      · obtain ⟨c1, c2⟩ := c_frameAt hF h1 (k := x2) (by lia)
        obtain ⟨-, hh, hf⟩ := hF x1 h1.1 h1.2
        by_cases h4 : x2 < Q 23 0 (ix (192 + x1))
        · obtain ⟨f0, f1, f2, f3, f4, f5, f6, f7, -⟩ := hf x2 (by lia) h4
          refine ⟨Q 23 0 (ix ((2504 + (20 * ((6 * x1) + x2))) + x3)), fun p hp => ?_, fun p hp => ?_⟩
          · unfold F_X7_frame
            refine c_belowT h1 _ (br_f (by decide) (br_f h2 (c_belowT h3 _ (br_f (by decide) (c1 h4 _ ?_)))))
            dsimp only
            rw [f0, f1, f2, f3, f4]
            by_cases e0 : x3 = 0
            · subst e0
              have e : 2504 + 20 * (6 * x1 + x2) + 0 = 2504 + 20 * (6 * x1 + x2) := by lia
              rw [e] at hp
              exact br_t rfl hp
            by_cases e1 : x3 = 1
            · subst e1; exact br_f e0 (br_t rfl hp)
            by_cases e2 : x3 = 2
            · subst e2; exact br_f e0 (br_f e1 (br_t rfl hp))
            by_cases e3 : x3 = 3
            · subst e3; exact br_f e0 (br_f e1 (br_f e2 (br_t rfl hp)))
            · have e4 : x3 = 4 := by lia
              subst e4
              refine br_f e0 (br_f e1 (br_f e2 (br_f e3 ?_)))
              rcases f7 with f7 | f7
              · rw [f7] at hp ⊢
                exact br_t rfl hp
              · rw [f7] at hp ⊢
                exact br_f (by decide) hp
          · unfold F_X8_frame
            refine m_inT (x := x1) (lo := 0) (hi := 7) (by lia) _ (br_f (by decide) (br_f h2 (m_inT (x := x3) (lo := 0) (hi := 4) (by lia) _ (br_f (by decide) ⟨⟨by lia, by lia⟩, br_t h4 ?_⟩))))
            unfold F_X8_frameAt
            exact ⟨⟨by lia, by lia⟩, hp⟩
        · refine ⟨-2, fun p hp => ?_, fun p hp => ?_⟩
          · unfold F_X7_frame
            exact c_belowT h1 _ (br_f (by decide) (br_f h2 (c_belowT h3 _ (br_f (by decide) (c2 h4 _ hp)))))
          · unfold F_X8_frame
            exact m_inT (x := x1) (lo := 0) (hi := 7) (by lia) _ (br_f (by decide) (br_f h2 (m_inT (x := x3) (lo := 0) (hi := 4) (by lia) _ (br_f (by decide) ⟨⟨by lia, by lia⟩, br_f h4 hp⟩))))
      · refine ⟨-1, fun p hp => ?_, fun p hp => ?_⟩
        · unfold F_X7_frame
          exact c_belowT h1 _ (br_f (by decide) (br_f h2 (c_belowF h3 _ (br_t rfl hp))))
        · unfold F_X8_frame
          exact m_inT (x := x1) (lo := 0) (hi := 7) (by lia) _ (br_f (by decide) (br_f h2 (m_inF (x := x3) (lo := 0) (hi := 4) (by lia) _ (br_t rfl hp))))
  · refine ⟨-1, fun p hp => ?_, fun p hp => ?_⟩
    · unfold F_X7_frame
      exact c_belowF h1 _ (br_t rfl hp)
    · unfold F_X8_frame
      exact m_inF (x := x1) (lo := 0) (hi := 7) (by lia) _ (br_t rfl hp)
/-! access -/
theorem d_read {κ y : Nat} {s e : Int32} {P Q : VP} (hκ : vlI κ = 3464) (hs : 0 ≤ s ∧ s < 16) (hH : RH P Q κ y s) : ∃ r, (r = 0 ∨ r = 1) ∧ An (F_X3_letsRead y e P) r ∧ An (F_X8_mayRead κ s e Q) r := by
  obtain ⟨-, -, -, -, k5, k6, k7, k8, -⟩ := hH
  refine ⟨if Q κ 0 (ix (160 + s)) &&& 1 = 0 then 0 else if Q κ 0 (ix (128 + s)) < e then 0 else 1, by grind, fun p hp => ?_, fun p hp => ?_⟩
  · unfold F_X3_letsRead
    rw [k8, k6]
    grind
  · unfold F_X8_mayRead
    rw [hκ]
    grind
theorem d_write {κ y : Nat} {s e : Int32} {P Q : VP} (hκ : vlI κ = 3464) (hs : 0 ≤ s ∧ s < 16) (hH : RH P Q κ y s) : ∃ r, (r = 0 ∨ r = 1) ∧ An (F_X3_letsWrite y e P) r ∧ An (F_X8_mayWrite κ s e Q) r := by
  obtain ⟨-, -, -, -, k5, k6, k7, k8, -⟩ := hH
  refine ⟨if Q κ 0 (ix (160 + s)) &&& 2 = 0 then 0 else if Q κ 0 (ix (112 + s)) < e then 0 else 1, by grind, fun p hp => ?_, fun p hp => ?_⟩
  · unfold F_X3_letsWrite
    rw [k8, k5]
    grind
  · unfold F_X8_mayWrite
    rw [hκ]
    grind
theorem d_go {κ y : Nat} {s e : Int32} {P Q : VP} (hκ : vlI κ = 3464) (hs : 0 ≤ s ∧ s < 16) (hH : RH P Q κ y s) : ∃ r, (r = 0 ∨ r = 1) ∧ An (F_X3_letsGo y e P) r ∧ An (F_X8_mayGo κ s e Q) r := by
  obtain ⟨-, -, -, -, k5, k6, k7, k8, -⟩ := hH
  refine ⟨if Q κ 0 (ix (160 + s)) &&& 4 = 0 then 0 else if Q κ 0 (ix (112 + s)) ≤ e ∧ e ≤ Q κ 0 (ix (128 + s)) then 1 else 0, by grind, fun p hp => ?_, fun p hp => ?_⟩
  · unfold F_X3_letsGo
    rw [k8, k5, k6]
    grind
  · unfold F_X8_mayGo
    rw [hκ]
    refine ⟨⟨by lia, by lia⟩, ?_⟩
    by_cases h1 : Q κ 0 (ix (160 + s)) &&& 4 = 0
    · refine br_t h1 ?_
      rw [if_pos h1] at hp
      exact hp
    · refine br_f h1 ⟨⟨by lia, by lia⟩, ⟨by lia, by lia⟩, ?_⟩
      rw [if_neg h1] at hp
      refine m_in e _ _ Q (fun h => br_f (by decide) ?_) (fun h => br_t rfl ?_)
      · rw [if_pos h] at hp; exact hp
      · rw [if_neg h] at hp; exact hp
theorem D_access {P Q : VP} (h : RR P Q) (x1 x2 : Int32) : ∃ r, An (F_X7_access x1 x2 P) r ∧ An (F_X8_access x1 x2 Q) r := by
  obtain ⟨hB, ⟨hS, hD, hG, hW, hF⟩, -⟩ := h
  rcases d_isSeg hG hB x1 with ⟨g1, g2, g3, g4, g5⟩ | ⟨g1, g4, g5⟩
  · by_cases hb : 0 ≤ x2 ∧ x2 < 8
    · obtain ⟨r, hr, r1, r2⟩ := d_read (κ := 23) (e := x2) rfl g1.1 g3
      obtain ⟨w, hw, w1, w2⟩ := d_write (κ := 23) (e := x2) rfl g1.1 g3
      obtain ⟨o, ho, o1, o2⟩ := d_go (κ := 23) (e := x2) rfl g1.1 g3
      refine ⟨((if r = 0 then 0 else 1) + (if w = 0 then 0 else 2)) + (if o = 0 then 0 else 4), fun p hp => ?_, fun p hp => ?_⟩
      · unfold F_X7_access F_X7_access_b40 F_X7_access_b53
        refine g4 _ (c_belowT hb _ (br_f (by decide) (r1 _ ?_)))
        rcases hr with rfl | rfl <;> rcases hw with rfl | rfl <;> rcases ho with rfl | rfl <;> first | exact br_t rfl (w1 _ (br_t rfl (o1 _ (br_t rfl hp)))) | exact br_t rfl (w1 _ (br_t rfl (o1 _ (br_f (by decide) hp)))) | exact br_t rfl (w1 _ (br_f (by decide) (o1 _ (br_t rfl hp)))) | exact br_t rfl (w1 _ (br_f (by decide) (o1 _ (br_f (by decide) hp)))) | exact br_f (by decide) (w1 _ (br_t rfl (o1 _ (br_t rfl hp)))) | exact br_f (by decide) (w1 _ (br_t rfl (o1 _ (br_f (by decide) hp)))) | exact br_f (by decide) (w1 _ (br_f (by decide) (o1 _ (br_t rfl hp)))) | exact br_f (by decide) (w1 _ (br_f (by decide) (o1 _ (br_f (by decide) hp))))
      · unfold F_X8_access F_X8_access_b39 F_X8_access_b56
        refine g5 _ (br_f (by decide) (m_inT (x := x2) (lo := 0) (hi := 7) (by lia) _ (br_f (by decide) (r2 _ ?_))))
        rcases hr with rfl | rfl <;> rcases hw with rfl | rfl <;> rcases ho with rfl | rfl <;> first | exact br_t rfl (w2 _ (br_t rfl (o2 _ (br_t rfl hp)))) | exact br_t rfl (w2 _ (br_t rfl (o2 _ (br_f (by decide) hp)))) | exact br_t rfl (w2 _ (br_f (by decide) (o2 _ (br_t rfl hp)))) | exact br_t rfl (w2 _ (br_f (by decide) (o2 _ (br_f (by decide) hp)))) | exact br_f (by decide) (w2 _ (br_t rfl (o2 _ (br_t rfl hp)))) | exact br_f (by decide) (w2 _ (br_t rfl (o2 _ (br_f (by decide) hp)))) | exact br_f (by decide) (w2 _ (br_f (by decide) (o2 _ (br_t rfl hp)))) | exact br_f (by decide) (w2 _ (br_f (by decide) (o2 _ (br_f (by decide) hp))))
    · refine ⟨-1, fun p hp => ?_, fun p hp => ?_⟩
      · unfold F_X7_access
        exact g4 _ (c_belowF hb _ (br_t rfl hp))
      · unfold F_X8_access
        exact g5 _ (br_f (by decide) (m_inF (x := x2) (lo := 0) (hi := 7) (by lia) _ (br_t rfl hp)))
  · refine ⟨-1, fun p hp => ?_, fun p hp => ?_⟩
    · unfold F_X7_access
      exact g4 _ hp
    · unfold F_X8_access
      exact g5 _ (br_t rfl hp)
