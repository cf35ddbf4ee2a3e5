/-! stale, drawn, ways -/
theorem lk3_3 {A1 A2 A3 B1 B2 B3 ρ : Type} (f : (ρ → Prop) → (A1 → A2 → A3 → Prop) → A1 → A2 → A3 → Prop) (g : (ρ → Prop) → (B1 → B2 → B3 → Prop) → B1 → B2 → B3 → Prop) (I : A1 → A2 → A3 → B1 → B2 → B3 → Prop) (Fc : ρ → Prop) (μ : A1 → A2 → A3 → Nat)
    (hs : ∀ a1 a2 a3 b1 b2 b3, I a1 a2 a3 b1 b2 b3 → (∃ c1 c2 c3 d1 d2 d3, I c1 c2 c3 d1 d2 d3 ∧ μ c1 c2 c3 < μ a1 a2 a3 ∧ (∀ (p : (ρ → Prop)) (X : A1 → A2 → A3 → Prop), X c1 c2 c3 → f p X a1 a2 a3) ∧ (∀ (p : (ρ → Prop)) (X : B1 → B2 → B3 → Prop), X d1 d2 d3 → g p X b1 b2 b3)) ∨ (∃ r, Fc r ∧ (∀ (p : (ρ → Prop)) (X : A1 → A2 → A3 → Prop), p r → f p X a1 a2 a3) ∧ (∀ (p : (ρ → Prop)) (X : B1 → B2 → B3 → Prop), p r → g p X b1 b2 b3))) {a1 : A1} {a2 : A2} {a3 : A3} {b1 : B1} {b2 : B2} {b3 : B3} (h : I a1 a2 a3 b1 b2 b3) : ∃ r, Fc r ∧ An (fun p => vL3 (f p) a1 a2 a3) r ∧ An (fun p => vL3 (g p) b1 b2 b3) r := by
  have key : ∀ k a1 a2 a3 b1 b2 b3, I a1 a2 a3 b1 b2 b3 → μ a1 a2 a3 < k → ∃ r, Fc r ∧ (∀ p : (ρ → Prop), p r → vl3 (f p) k a1 a2 a3) ∧ (∀ p : (ρ → Prop), p r → vl3 (g p) k b1 b2 b3) := by
    intro k
    induction k with
    | zero => intro a1 a2 a3 b1 b2 b3 _ h; exact absurd h (Nat.not_lt_zero _)
    | succ k ih =>
      intro a1 a2 a3 b1 b2 b3 hI hm
      rcases hs a1 a2 a3 b1 b2 b3 hI with ⟨c1, c2, c3, d1, d2, d3, h1, h2, h3, h4⟩ | ⟨r, h1, h2, h3⟩
      · obtain ⟨r, g1, g2, g3⟩ := ih c1 c2 c3 d1 d2 d3 h1 (by omega)
        exact ⟨r, g1, fun p hp => h3 p _ (g2 p hp), fun p hp => h4 p _ (g3 p hp)⟩
      · exact ⟨r, h1, fun p hp => h2 p _ hp, fun p hp => h3 p _ hp⟩
  obtain ⟨r, g1, g2, g3⟩ := key (μ a1 a2 a3 + 1) a1 a2 a3 b1 b2 b3 h (Nat.lt_succ_self _)
  exact ⟨r, g1, fun p hp => ⟨_, g2 p hp⟩, fun p hp => ⟨_, g3 p hp⟩⟩
theorem wr_5 {k v n a0 a1 a2 a3 a4 a5 : Int32} (h : WR k v n a0 a1 a2 a3 a4 a5) (h5 : a0 = 5) : v = 1000 * a2 + 100 * a1 + a3 ∧ n = 100 * a4 + a5 ∧ ((0 ≤ a1 ∧ a1 < 8) ∧ (0 ≤ a2 ∧ a2 < 16) ∧ 0 ≤ a3 ∧ a3 < 24) ∧ (0 ≤ a4 ∧ a4 < 26) ∧ 0 ≤ a5 ∧ a5 < 24 := by
  obtain ⟨-, q⟩ := h
  rcases q with ⟨q, -⟩ | ⟨q, -⟩ | ⟨q, -⟩ | ⟨q, -⟩ | ⟨-, q⟩ | ⟨q, -⟩
  · exact absurd (h5.symm.trans q) (by decide)
  · exact absurd (h5.symm.trans q) (by decide)
  · rcases q with q | q
    · exact absurd (h5.symm.trans q) (by decide)
    · exact absurd (h5.symm.trans q) (by decide)
  · exact absurd (h5.symm.trans q) (by decide)
  · exact q
  · exact absurd (h5.symm.trans q) (by decide)
theorem d_staleIn {P Q : VP} (hD : RD 0 23 P Q) (hG : RG 0 23 P Q) (hW : RW 0 23 P Q) (hB : BI P) {s : Int32} (hs : 0 ≤ s ∧ s < 16) (ht : Q 23 0 (ix (32 + s)) = 1) (hp1 : P 7 (16 * 0 + ix s) 0 = 1) (hH : RH P Q 23 (16 * 0 + ix s) s) (u : Int32) : ∃ r, An (F_X6_staleIn 0 (16 * 0 + ix s) P) r ∧ ∀ (post : Int32 → Prop) (X4 : Int32 → Int32 → Prop), X4 (u + r) (s + 1) → vL2 (F_X8_snapped_l13 1 Q post X4 s) u 0 := by
  have k4 := hH.2.2.2.1
  have kl := hH.2.2.2.2.2.2.2.2.2.2.1
  obtain ⟨⟨v, z⟩, hz, h1, h2⟩ := lk2_2 (ρ := Int32 × Int32) (fun p => F_X6_staleIn_l4 0 (16 * 0 + ix s) P (fun c => p (u + c, s + 1))) (fun p => F_X8_snapped_l13 1 Q (fun _ => True) (fun a b => p (a, b)) s) (fun c w v w' => (v = u + c ∧ w = w') ∧ 0 ≤ w ∧ w ≤ Q 23 0 (ix (96 + s))) (fun r => r.2 = s + 1) (fun c w => ix (24 - w)) (by
    rintro c w v w' ⟨⟨rfl, rfl⟩, h0, h1⟩
    by_cases h2 : w < Q 23 0 (ix (96 + s))
    · have hw : 0 ≤ w ∧ w < 24 := ⟨h0, by lia⟩
      have c2 := c_kindAt hB (y := 16 * 0 + ix s) hw
      have t0 := m_told0 (κ := 23) (Q := Q) rfl hs hw
      have hwr := hW s w hs.1 hs.2 hw.1 hw.2 hp1
      have e0 := hwr.1
      by_cases h5 : Q 23 0 (ix (wa s w)) = 5
      · obtain ⟨ev, en, ⟨b1, b2, b3⟩, b4, b5⟩ := wr_5 hwr h5
        have kn : An (F_X3_knownAt (16 * 0 + ix s) w P) (100 * Q 23 0 (ix (wa s w + 4)) + Q 23 0 (ix (wa s w + 5))) := by rw [← en]; exact c_knownAt hB hw
        have va : An (F_X3_valueAt (16 * 0 + ix s) w P) (1000 * Q 23 0 (ix (wa s w + 2)) + 100 * Q 23 0 (ix (wa s w + 1)) + Q 23 0 (ix (wa s w + 3))) := by rw [← ev]; exact c_valueAt hB hw
        obtain ⟨r, lk, fr⟩ := m_found (κ := 23) (Q := Q) rfl hD.2.2.2.2.2.2.1 hs (n := Q 23 0 (ix (wa s w + 4)))
        have sk : An (F_X6_seek 0 (16 * 0 + ix s) ((100 * Q 23 0 (ix (wa s w + 4)) + Q 23 0 (ix (wa s w + 5))) / 100) P) r := by rw [(dv_link b4 b5).1]; exact c_seek hG hD hB hH.1 lk
        have sg : An (F_X7_segmentIn (1000 * Q 23 0 (ix (wa s w + 2)) + 100 * Q 23 0 (ix (wa s w + 1)) + Q 23 0 (ix (wa s w + 3))) P) (Q 23 0 (ix (wa s w + 2))) := fun p hp => by unfold F_X7_segmentIn; rw [(dv_ptr b1 b2 b3).1]; exact hp
        have t2 := m_told (κ := 23) (Q := Q) (j := 2) rfl hs hw (by decide)
        have t4 := m_told (κ := 23) (Q := Q) (j := 4) rfl hs hw (by decide)
        by_cases hr : r = Q 23 0 (ix (wa s w + 2))
        · refine Or.inl ⟨c, w + 1, u + c + 0, w + 1, ⟨⟨by lia, rfl⟩, by lia, by lia⟩, ix_lt (by lia) (by lia), fun p X hX => ?_, fun p X hX => ?_⟩
          · show F_X6_staleIn_l4 _ _ _ _ _ _ _
            unfold F_X6_staleIn_l4
            rw [k4]
            exact br_t h2 (c2 _ (br_t (by rw [e0]; exact h5) (kn _ (sk _ (va _ (sg _ (br_t hr hX)))))))
          · show F_X8_snapped_l13 _ _ _ _ _ _ _ _
            unfold F_X8_snapped_l13
            refine ⟨⟨by lia, by lia⟩, br_t ht ⟨⟨by lia, by lia⟩, br_t h2 (t0 _ (br_t h5 ?_))⟩⟩
            unfold F_X8_snapped_b60
            exact br_f (by decide) (br_f (by decide) (t4 _ (fr _ (t2 _ (br_t hr hX)))))
        · refine Or.inl ⟨c + 1, w + 1, u + c + 1, w + 1, ⟨⟨by lia, rfl⟩, by lia, by lia⟩, ix_lt (by lia) (by lia), fun p X hX => ?_, fun p X hX => ?_⟩
          · show F_X6_staleIn_l4 _ _ _ _ _ _ _
            unfold F_X6_staleIn_l4
            rw [k4]
            exact br_t h2 (c2 _ (br_t (by rw [e0]; exact h5) (kn _ (sk _ (va _ (sg _ (br_f hr hX)))))))
          · show F_X8_snapped_l13 _ _ _ _ _ _ _ _
            unfold F_X8_snapped_l13
            refine ⟨⟨by lia, by lia⟩, br_t ht ⟨⟨by lia, by lia⟩, br_t h2 (t0 _ (br_t h5 ?_))⟩⟩
            unfold F_X8_snapped_b60
            exact br_f (by decide) (br_f (by decide) (t4 _ (fr _ (t2 _ (br_f hr hX)))))
      · refine Or.inl ⟨c, w + 1, u + c + 0, w + 1, ⟨⟨by lia, rfl⟩, by lia, by lia⟩, ix_lt (by lia) (by lia), fun p X hX => ?_, fun p X hX => ?_⟩
        · show F_X6_staleIn_l4 _ _ _ _ _ _ _
          unfold F_X6_staleIn_l4
          rw [k4]
          exact br_t h2 (c2 _ (br_f (by rw [e0]; exact h5) hX))
        · show F_X8_snapped_l13 _ _ _ _ _ _ _ _
          unfold F_X8_snapped_l13
          refine ⟨⟨by lia, by lia⟩, br_t ht ⟨⟨by lia, by lia⟩, br_t h2 (t0 _ (br_f h5 ?_))⟩⟩
          unfold F_X8_snapped_b60
          exact br_t rfl hX
    · refine Or.inr ⟨(u + c, s + 1), rfl, fun p X hp => ?_, fun p X hp => ?_⟩
      · show F_X6_staleIn_l4 _ _ _ _ _ _ _
        unfold F_X6_staleIn_l4
        rw [k4]
        exact br_f h2 hp
      · show F_X8_snapped_l13 _ _ _ _ _ _ _ _
        unfold F_X8_snapped_l13
        exact ⟨⟨by lia, by lia⟩, br_t ht ⟨⟨by lia, by lia⟩, br_f h2 hp⟩⟩) (a1 := 0) (a2 := 0) (b1 := u) (b2 := 0) ⟨⟨by lia, rfl⟩, by decide, by lia⟩
  have hz' : z = s + 1 := hz
  subst hz'
  refine ⟨v - u, fun p hp => ?_, fun post X4 hX => ?_⟩
  · have h3 := h1 (fun q => p (q.1 - u)) hp
    have e : (fun c => p (u + c - u)) = p := funext fun c => by rw [show u + c - u = c by lia]
    dsimp only at h3
    rw [e] at h3
    unfold F_X6_staleIn
    exact h3
  · have e : u + (v - u) = v := by lia
    rw [e] at hX
    have h3 := h2 (fun q => X4 q.1 q.2) hX
    obtain ⟨n, hn⟩ := h3
    refine ⟨n, ?_⟩
    have e2 : F_X8_snapped_l13 1 Q post X4 s = F_X8_snapped_l13 1 Q (fun _ => True) X4 s := by
      unfold F_X8_snapped_l13 F_X8_snapped_b60
      rfl
    rw [e2]
    exact hn
theorem D_stale {P Q : VP} (h : RR P Q) : ∃ r, An (F_X7_stale P) r ∧ An (F_X8_stale Q) r := by
  obtain ⟨hB, ⟨hS, hD, hG, hW, hF⟩, -⟩ := h
  obtain ⟨r, -, r1, r2⟩ : ∃ r, True ∧ An (F_X7_stale P) r ∧ An (F_X8_snapped 1 Q) r := by
    refine lk2_2 (F_X7_stale_l4 P) (F_X8_snapped_l4 1 Q) (fun u s u' s' => u = u' ∧ s = s' ∧ 0 ≤ s ∧ s ≤ 16) (fun _ => True) (fun u s => ix (16 - s)) ?_ ⟨rfl, rfl, by decide, by decide⟩
    rintro u s u' s' ⟨rfl, rfl, h0, h1⟩
    by_cases h2 : s < 16
    · rcases d_find hG hB (κ := 23) rfl s with ⟨g1, g2, g3, g4, g5⟩ | ⟨g3, g1, g2⟩
      · obtain ⟨r, r1, r2⟩ := d_staleIn hD hG hW hB g1.1 g1.2 g2 g3 u
        refine Or.inl ⟨u + r, s + 1, u + r, s + 1, ⟨rfl, rfl, by lia, by lia⟩, ix_lt (by lia) (by lia), fun p X hX => ?_, fun p X hX => ?_⟩
        · unfold F_X7_stale_l4
          exact br_t h2 (g4 _ (r1 _ hX))
        · unfold F_X8_snapped_l4
          exact br_t h2 (r2 _ _ hX)
      · refine Or.inl ⟨u, s + 1, u, s + 1, ⟨rfl, rfl, by lia, by lia⟩, ix_lt (by lia) (by lia), fun p X hX => ?_, fun p X hX => ?_⟩
        · unfold F_X7_stale_l4
          exact br_t h2 (g1 _ hX)
        · unfold F_X8_snapped_l4
          refine br_t h2 ⟨1, ?_⟩
          show F_X8_snapped_l13 _ _ _ _ _ _ _ _
          unfold F_X8_snapped_l13
          exact ⟨⟨by lia, by lia⟩, br_f (fun q => g3 ⟨⟨h0, h2⟩, q⟩) hX⟩
    · refine Or.inr ⟨u, trivial, fun p X hp => ?_, fun p X hp => ?_⟩
      · unfold F_X7_stale_l4
        exact br_f h2 hp
      · unfold F_X8_snapped_l4
        exact br_f h2 hp
  exact ⟨r, r1, fun p hp => by unfold F_X8_stale; exact r2 _ hp⟩
theorem d_granted {P Q : VP} {y : Nat} {s e k : Int32} (hs : 0 ≤ s ∧ s < 16) (hH : RH P Q 23 y s) : ∃ r, (r = 0 ∨ r = 1) ∧ An (F_X7_isGranted y e k P) r ∧ ∀ b : Int32 → Prop, b r → (k = 0 → F_X8_mayRead 23 s e Q (fun r86 => (r86 = 0 → b 0) ∧ (¬ r86 = 0 → b 1))) ∧ (¬ k = 0 → (k = 1 → F_X8_mayWrite 23 s e Q (fun r109 => (r109 = 0 → b 0) ∧ (¬ r109 = 0 → b 1))) ∧ (¬ k = 1 → F_X8_mayGo 23 s e Q (fun r126 => (r126 = 0 → b 0) ∧ (¬ r126 = 0 → b 1)))) := by
  have cc : ∀ (r : Int32) (b : Int32 → Prop), (r = 0 ∨ r = 1) → b r → (r = 0 → b 0) ∧ (¬ r = 0 → b 1) := by
    rintro r b (rfl | rfl) hb
    · exact br_t rfl hb
    · exact br_f (by decide) hb
  by_cases h0 : k = 0
  · obtain ⟨r, e1, e2, e3⟩ := d_read (κ := 23) (e := e) rfl hs hH
    exact ⟨r, e1, fun p hp => by unfold F_X7_isGranted; exact br_t h0 (e2 _ ⟨e1, hp⟩), fun b hb => br_t h0 (e3 _ (cc r b e1 hb))⟩
  by_cases h1 : k = 1
  · obtain ⟨r, e1, e2, e3⟩ := d_write (κ := 23) (e := e) rfl hs hH
    exact ⟨r, e1, fun p hp => by unfold F_X7_isGranted; exact br_f h0 (br_t h1 (e2 _ ⟨e1, hp⟩)), fun b hb => br_f h0 (br_t h1 (e3 _ (cc r b e1 hb)))⟩
  · obtain ⟨r, e1, e2, e3⟩ := d_go (κ := 23) (e := e) rfl hs hH
    exact ⟨r, e1, fun p hp => by unfold F_X7_isGranted; exact br_f h0 (br_f h1 (e2 _ ⟨e1, hp⟩)), fun b hb => br_f h0 (br_f h1 (e3 _ (cc r b e1 hb)))⟩
theorem D_drawn {P Q : VP} (h : RR P Q) (x1 x2 : Int32) : ∃ r, An (F_X7_drawn x1 x2 P) r ∧ An (F_X8_drawn x1 x2 Q) r := by
  obtain ⟨hB, ⟨hS, hD, hG, hW, hF⟩, -⟩ := h
  by_cases hx : 1 ≤ x2 ∧ x2 ≤ 200
  · obtain ⟨r, -, r1, r2⟩ : ∃ r, True ∧ An (fun p => vL3 (F_X7_drawn_l22 x1 x2 P p) 0 x1 0) r ∧ An (fun p => vL3 (F_X8_drawn_l22 x1 x2 Q p) x1 0 0) r := by
      refine lk3_3 (F_X7_drawn_l22 x1 x2 P) (F_X8_drawn_l22 x1 x2 Q) (fun c d i d' c' i' => (c = c' ∧ d = d' ∧ i = i') ∧ 0 ≤ i ∧ i ≤ x2) (fun _ => True) (fun c d i => ix (200 - i)) ?_ ⟨⟨rfl, rfl, rfl⟩, by decide, by lia⟩
      rintro c d i d' c' i' ⟨⟨rfl, rfl, rfl⟩, h0, h1⟩
      by_cases h2 : i < x2
      · rcases d_isSeg hG hB ((vush ((d * 1103515245) + 12345) 11) &&& 15) with ⟨g1, g2, g3, g4, g5⟩ | ⟨g1, g4, g5⟩
        · obtain ⟨r, q1, q2, q3⟩ := d_granted (P := P) (Q := Q) (e := (vush ((d * 1103515245) + 12345) 8) &&& 7) (k := (vush ((d * 1103515245) + 12345) 16) - (vush ((d * 1103515245) + 12345) 16) / 3 * 3) g1.1 g3
          refine Or.inl ⟨c + r, (d * 1103515245) + 12345, i + 1, (d * 1103515245) + 12345, c + r, i + 1, ⟨⟨rfl, rfl, rfl⟩, by lia, by lia⟩, ix_lt (by lia) (by lia), fun p X hX => ?_, fun p X hX => ?_⟩
          · unfold F_X7_drawn_l22
            refine br_t h2 (g4 _ (q2 _ ?_))
            rcases q1 with rfl | rfl
            · rw [show c + 0 = c by lia] at hX
              exact br_t rfl hX
            · exact br_f (by decide) hX
          · unfold F_X8_drawn_l22
            refine br_t h2 (fun v6 h6 v7 h7 v8 h8 => ?_)
            subst h6 h7 h8
            refine g5 _ (br_f (by decide) (q3 (fun t => F_X8_drawn_b137 x1 x2 Q p X ((d * 1103515245) + 12345) c i t) ?_))
            show F_X8_drawn_b137 _ _ _ _ _ _ _ _ _
            unfold F_X8_drawn_b137
            rcases q1 with rfl | rfl
            · exact br_t rfl hX
            · exact br_f (by decide) hX
        · refine Or.inl ⟨c + 0, (d * 1103515245) + 12345, i + 1, (d * 1103515245) + 12345, c + 0, i + 1, ⟨⟨rfl, rfl, rfl⟩, by lia, by lia⟩, ix_lt (by lia) (by lia), fun p X hX => ?_, fun p X hX => ?_⟩
          · unfold F_X7_drawn_l22
            rw [show c + 0 = c by lia] at hX
            exact br_t h2 (g4 _ hX)
          · unfold F_X8_drawn_l22
            refine br_t h2 (fun v6 h6 v7 h7 v8 h8 => ?_)
            subst h6 h7 h8
            refine g5 _ (br_t rfl ?_)
            unfold F_X8_drawn_b137
            exact br_t rfl hX
      · refine Or.inr ⟨c, trivial, fun p X hp => ?_, fun p X hp => ?_⟩
        · unfold F_X7_drawn_l22
          exact br_f h2 hp
        · unfold F_X8_drawn_l22
          exact br_f h2 hp
    refine ⟨r, fun p hp => ?_, fun p hp => ?_⟩
    · unfold F_X7_drawn
      exact br_f (by lia) (br_f (by lia) (r1 _ hp))
    · unfold F_X8_drawn
      exact m_inT (x := x2) (lo := 1) (hi := 200) hx _ (br_f (by decide) (r2 _ hp))
  · refine ⟨-1, fun p hp => ?_, fun p hp => ?_⟩
    · unfold F_X7_drawn
      by_cases h1 : x2 < 1
      · exact br_t h1 hp
      · exact br_f h1 (br_t (by lia) hp)
    · unfold F_X8_drawn
      exact m_inF (x := x2) (lo := 1) (hi := 200) hx _ (br_t rfl hp)
