/-! two loops, the second of which may go on alone; unsnap -/
theorem lr3_3 {A1 A2 A3 B1 B2 B3 ρ : Type} (f : (ρ → VP → Prop) → (A1 → A2 → A3 → Prop) → A1 → A2 → A3 → Prop) (g : (ρ → VP → Prop) → (B1 → B2 → B3 → Prop) → B1 → B2 → B3 → Prop) (I : A1 → A2 → A3 → B1 → B2 → B3 → Prop) (Fc : ρ → VP → VP → Prop) (μ : A1 → A2 → A3 → B1 → B2 → B3 → Nat)
    (hs : ∀ a1 a2 a3 b1 b2 b3, I a1 a2 a3 b1 b2 b3 → (∃ c1 c2 c3 d1 d2 d3, I c1 c2 c3 d1 d2 d3 ∧ μ c1 c2 c3 d1 d2 d3 < μ a1 a2 a3 b1 b2 b3 ∧ (∀ (p : ρ → VP → Prop) (X : A1 → A2 → A3 → Prop), X c1 c2 c3 → f p X a1 a2 a3) ∧ (∀ (p : ρ → VP → Prop) (X : B1 → B2 → B3 → Prop), X d1 d2 d3 → g p X b1 b2 b3)) ∨ (∃ d1 d2 d3, I a1 a2 a3 d1 d2 d3 ∧ μ a1 a2 a3 d1 d2 d3 < μ a1 a2 a3 b1 b2 b3 ∧ (∀ (p : ρ → VP → Prop) (X : B1 → B2 → B3 → Prop), X d1 d2 d3 → g p X b1 b2 b3)) ∨ (∃ r P1 Q1, Fc r P1 Q1 ∧ (∀ (p : ρ → VP → Prop) (X : A1 → A2 → A3 → Prop), p r P1 → f p X a1 a2 a3) ∧ (∀ (p : ρ → VP → Prop) (X : B1 → B2 → B3 → Prop), p r Q1 → g p X b1 b2 b3))) {a1 : A1} {a2 : A2} {a3 : A3} {b1 : B1} {b2 : B2} {b3 : B3} (h : I a1 a2 a3 b1 b2 b3) : ∃ r P1 Q1, Fc r P1 Q1 ∧ Am (fun p => vL3 (f p) a1 a2 a3) r P1 ∧ Am (fun p => vL3 (g p) b1 b2 b3) r Q1 := by
  have key : ∀ m a1 a2 a3 b1 b2 b3, I a1 a2 a3 b1 b2 b3 → μ a1 a2 a3 b1 b2 b3 < m → ∃ r P1 Q1, Fc r P1 Q1 ∧ (∃ k, ∀ p : ρ → VP → Prop, p r P1 → vl3 (f p) k a1 a2 a3) ∧ (∃ k, ∀ p : ρ → VP → Prop, p r Q1 → vl3 (g p) k b1 b2 b3) := by
    intro m
    induction m with
    | zero => intro a1 a2 a3 b1 b2 b3 _ h; exact absurd h (Nat.not_lt_zero _)
    | succ m ih =>
      intro a1 a2 a3 b1 b2 b3 hI hm
      rcases hs a1 a2 a3 b1 b2 b3 hI with ⟨c1, c2, c3, d1, d2, d3, h1, h2, h3, h4⟩ | ⟨d1, d2, d3, h1, h2, h4⟩ | ⟨r, P1, Q1, h1, h2, h3⟩
      · obtain ⟨r, P1, Q1, g1, ⟨k, g2⟩, ⟨k', g3⟩⟩ := ih c1 c2 c3 d1 d2 d3 h1 (by omega)
        exact ⟨r, P1, Q1, g1, ⟨k + 1, fun p hp => h3 p _ (g2 p hp)⟩, ⟨k' + 1, fun p hp => h4 p _ (g3 p hp)⟩⟩
      · obtain ⟨r, P1, Q1, g1, ⟨k, g2⟩, ⟨k', g3⟩⟩ := ih a1 a2 a3 d1 d2 d3 h1 (by omega)
        exact ⟨r, P1, Q1, g1, ⟨k, g2⟩, ⟨k' + 1, fun p hp => h4 p _ (g3 p hp)⟩⟩
      · exact ⟨r, P1, Q1, h1, ⟨1, fun p hp => h2 p _ hp⟩, ⟨1, fun p hp => h3 p _ hp⟩⟩
  obtain ⟨r, P1, Q1, g1, ⟨k, g2⟩, ⟨k', g3⟩⟩ := key _ a1 a2 a3 b1 b2 b3 h (Nat.lt_succ_self _)
  exact ⟨r, P1, Q1, g1, fun p hp => ⟨k, g2 p hp⟩, fun p hp => ⟨k', g3 p hp⟩⟩
theorem n_a {w L : Int32} (h0 : 0 ≤ w) (h : w < L) (hL : L ≤ 24) : (0 ≤ w ∧ w < 24) ∧ 0 ≤ w + 1 ∧ w + 1 ≤ 24 ∧ w + 1 ≤ L ∧ 0 ≤ 24 - (w + 1) ∧ 24 - (w + 1) < 24 - w := by lia
theorem n_b {w L : Int32} (h0 : 0 ≤ w) (h : w < 24) (hL : L ≤ w) : 0 ≤ w + 1 ∧ w + 1 ≤ 24 ∧ L ≤ w + 1 ∧ 0 ≤ 24 - (w + 1) ∧ 24 - (w + 1) < 24 - w := by lia
theorem n_c {w L : Int32} (h : w ≤ L) (h' : ¬ w < L) : w = L := by lia
theorem n_d {w : Int32} (h : w ≤ 24) (h' : ¬ w < 24) : w = 24 := by lia
theorem n_e {L : Int32} (h : 24 ≤ L) (h' : L ≤ 24) : L = 24 := by lia
theorem D_unsnap {P Q : VP} (h : RR P Q) (x1 : Int32) : ∃ r P1 Q1, RR P1 Q1 ∧ Am (F_X7_unsnap x1 P) r P1 ∧ Am (F_X8_unsnap x1 Q) r Q1 := by
  rcases d_isSeg h.2.1.2.2.1 h.1 x1 with ⟨⟨g0, g1⟩, g2, g3, g4, g5⟩ | ⟨-, g4, g5⟩
  · have hL := (h.1.2.1 (16 * 0 + ix x1)).2
    obtain ⟨L, hLe⟩ : ∃ L, P 7 (16 * 0 + ix x1) 4 = L := ⟨_, rfl⟩
    rw [hLe] at hL
    have hL0 : 0 ≤ L := by rw [← hLe]; exact (h.1.2.1 _).1
    obtain ⟨r, P1, Q1, hr, r1, r2⟩ := lr3_3 (ρ := Int32) (fun p => F_X3_unsnapAll_l4 (16 * 0 + ix x1) p) (fun p => F_X8_unsnap_l14 x1 p) (fun v w P1 v' w' Q1 => v = v' ∧ RR P1 Q1 ∧ P1 7 (16 * 0 + ix x1) 0 = 1 ∧ P1 7 (16 * 0 + ix x1) 4 = L ∧ (0 ≤ w' ∧ w' ≤ 24) ∧ ((w = w' ∧ w' ≤ L) ∨ (w = L ∧ L ≤ w'))) (fun _ P1 Q1 => RR P1 Q1) (fun _ _ _ _ w' _ => ix (24 - w')) (by
      rintro v w P1 v' w' Q1 ⟨rfl, hR, hy, h4, ⟨i0, i1⟩, hw⟩
      have hB := hR.1
      by_cases hlt : w' < L
      · have hww : w = w' := by
          rcases hw with ⟨q, -⟩ | ⟨-, q⟩
          · exact q
          · exact absurd hlt (z_nl2 q)
        subst hww
        obtain ⟨w24, j0, j1, j2, j3, j4⟩ := n_a i0 hlt hL
        have hwr := hR.2.1.2.2.2.1 x1 w g0.1 g0.2 w24.1 w24.2 hy
        have ck := c_kindAt hB (y := 16 * 0 + ix x1) w24
        have t0 := m_told0 (κ := 23) (Q := Q1) rfl g0 w24
        by_cases h5 : Q1 23 0 (ix (wa x1 w)) = 5
        · obtain ⟨-, en, -, b4, b5⟩ := wr_5 hwr h5
          have kn := c_knownAt hB (y := 16 * 0 + ix x1) w24
          have t4 := m_told (κ := 23) (Q := Q1) (j := 4) rfl g0 w24 (by decide)
          have t5 := m_told (κ := 23) (Q := Q1) (j := 5) rfl g0 w24 (by decide)
          have hlt' : 0 ≤ w ∧ w < P1 7 (16 * 0 + ix x1) 4 := ⟨i0, by rw [h4]; exact hlt⟩
          refine Or.inl ⟨v + 1, w + 1, WP P1 (16 * 0 + ix x1) w 4 (P1 10 (16 * 0 + ix x1) (ix w)) 0, v + 1, w + 1, WQ Q1 23 x1 w 4 (Q1 23 0 (ix (wa x1 w + 4))) (Q1 23 0 (ix (wa x1 w + 5))) 0 0 0, ⟨rfl, RR_word hR g0 hy hlt' ⟨rfl, Or.inr (Or.inr (Or.inr (Or.inl ⟨rfl, en, rfl, b4, b5⟩)))⟩, ?_, ?_, ⟨j0, j1⟩, Or.inl ⟨rfl, j2⟩⟩, ix_lt j3 j4, fun p X hX => ?_, fun p X hX => ?_⟩
          · rw [WP_ne (by omega)]; exact hy
          · rw [WP_ne (by omega)]; exact h4
          · unfold F_X3_unsnapAll_l4
            rw [h4]
            exact br_t hlt (ck _ (br_t (by rw [hwr.1]; exact h5) (kn _ (c_become (c_has hB hlt') w24 hX))))
          · unfold F_X8_unsnap_l14
            exact br_t w24.2 (t0 _ (br_t h5 (t4 _ (t5 _ (m_writes rfl g0 w24 hX)))))
        · refine Or.inl ⟨v, w + 1, P1, v, w + 1, Q1, ⟨rfl, hR, hy, h4, ⟨j0, j1⟩, Or.inl ⟨rfl, j2⟩⟩, ix_lt j3 j4, fun p X hX => ?_, fun p X hX => ?_⟩
          · unfold F_X3_unsnapAll_l4
            rw [h4]
            exact br_t hlt (ck _ (br_f (by rw [hwr.1]; exact h5) hX))
          · unfold F_X8_unsnap_l14
            exact br_t w24.2 (t0 _ (br_f h5 hX))
      · have hge := z_nl hlt
        have hwL : w = L := by
          rcases hw with ⟨q, q'⟩ | ⟨q, -⟩
          · rw [q]; exact n_c q' hlt
          · exact q
        by_cases h24 : w' < 24
        · obtain ⟨j0, j1, j2, j3, j4⟩ := n_b i0 h24 hge
          have hwr := hR.2.1.2.2.2.1 x1 w' g0.1 g0.2 i0 h24 hy
          have hz := (hB.2.2.1 (16 * 0 + ix x1) w' i0 h24 (by rw [h4]; exact hge)).1
          have t0 := m_told0 (κ := 23) (Q := Q1) rfl g0 ⟨i0, h24⟩
          have h5 : ¬ Q1 23 0 (ix (wa x1 w')) = 5 := by rw [← hwr.1, hz]; decide
          refine Or.inr (Or.inl ⟨v, w' + 1, Q1, ⟨rfl, hR, hy, h4, ⟨j0, j1⟩, Or.inr ⟨hwL, j2⟩⟩, ix_lt j3 j4, fun p X hX => ?_⟩)
          unfold F_X8_unsnap_l14
          exact br_t h24 (t0 _ (br_f h5 hX))
        · refine Or.inr (Or.inr ⟨v, P1, Q1, hR, fun p X hp => ?_, fun p X hp => ?_⟩)
          · unfold F_X3_unsnapAll_l4
            rw [h4, hwL]
            exact br_f (z_nl2 (z_le L)) hp
          · unfold F_X8_unsnap_l14
            exact br_f h24 hp) (a1 := 0) (a2 := 0) (a3 := P) (b1 := 0) (b2 := 0) (b3 := Q) ⟨rfl, h, g2, hLe, by decide, Or.inl ⟨rfl, hL0⟩⟩
    refine ⟨r, P1, Q1, hr, fun p hp => ?_, fun p hp => ?_⟩
    · unfold F_X7_unsnap F_X3_unsnapAll
      exact g4 _ (r1 _ hp)
    · unfold F_X8_unsnap
      exact g5 _ (br_f (by decide) (r2 _ hp))
  · refine ⟨-1, P, Q, h, fun p hp => ?_, fun p hp => ?_⟩
    · unfold F_X7_unsnap
      exact g4 _ hp
    · unfold F_X8_unsnap
      exact g5 _ (br_t rfl hp)
