theorem FR_copy {P P' Q : VP} {κ a b : Nat} {f : Int32} (h : FR P Q κ b f) (h1 : ∀ j, j ≤ 4 → P' 14 a j = P 14 b j) (h2 : ∀ m : Int32, 0 ≤ m → m < 3 → ∀ j, j ≤ 4 → P' 16 (3 * a + ix m) j = P 16 (3 * b + ix m) j) : FR P' Q κ a f := by
  unfold FR at h ⊢
  rw [h1 0 (by decide), h1 1 (by decide), h1 2 (by decide), h1 3 (by decide), h1 4 (by decide)]
  obtain ⟨k1, k2, k3, k4, k5, k6, ⟨k7, k8⟩, k9, k10⟩ := h
  refine ⟨k1, k2, k3, k4, k5, k6, ⟨k7, k8⟩, k9, fun j j0 j1 => ?_⟩
  have j3 := z_j j1 k8
  rw [h2 j j0 j3 0 (by decide), h2 j j0 j3 1 (by decide), h2 j j0 j3 2 (by decide), h2 j j0 j3 3 (by decide), h2 j j0 j3 4 (by decide)]
  exact k10 j j0 j1
theorem e_eq {r' r : Int32} (h : r ≤ r') (h' : ¬ r' = r) : r + 1 ≤ r' := by lia
theorem e_ge {r' r : Int32} (h : r + 1 ≤ r') (hr : 0 ≤ r ∧ r < 8) : r ≤ r' ∧ ¬ r' = r ∧ 0 ≤ r' := by lia
theorem c_copyStacks {o b κ : Nat} {P Q : VP} (hob : ¬ b = o) (hB : BI P) (hF : RF b κ P Q) : ∃ P', (UO o P P' ∧ BI P' ∧ RF o κ P' Q) ∧ ∀ post : VP → Prop, post P' → F_X4_copyFrom o b P post := by
  obtain ⟨P0, ⟨c1, c2⟩, c3⟩ := c_clear (P := P) (i := o)
  have hB0 : BI P0 := BI_eq' hB (fun k x j hk _ => c1 k x j (by omega))
  obtain ⟨P', ⟨h1, h2, h3⟩, h4⟩ := lk2 (ρ := VP) (fun p => F_X4_copyFrom_l6 o b p) (fun r R => (0 ≤ r ∧ r ≤ 8) ∧ UO o P R ∧ BI R ∧ (∀ r' : Int32, 0 ≤ r' → r' < r → R 12 o (ix r') = P 12 b (ix r') ∧ ∀ k' : Int32, 0 ≤ k' → k' < P 12 b (ix r') → CF o b P R r' k') ∧ ∀ r' : Int32, r ≤ r' → r' < 8 → R 12 o (ix r') = 0) (fun R => UO o P R ∧ BI R ∧ ∀ r' : Int32, 0 ≤ r' → r' < 8 → R 12 o (ix r') = P 12 b (ix r') ∧ ∀ k' : Int32, 0 ≤ k' → k' < P 12 b (ix r') → CF o b P R r' k') (fun r _ => ix (8 - r)) (by
    rintro r R ⟨⟨i0, i1⟩, i2, i3, i4, i5⟩
    by_cases h : r < 8
    · obtain ⟨s1, s2, s3, s4, -⟩ := s_st i0 h
      obtain ⟨e1, e2, -⟩ := hF r i0 h
      obtain ⟨R2, ⟨g1, g2, g3, g4, g5⟩, g6⟩ := c_inner (n := P 12 b (ix r)) hob ⟨i0, h⟩ rfl (by rw [e1]; exact e2) i2 i3 (i5 r (z_le r) h)
      refine Or.inl ⟨r + 1, R2, ⟨⟨s1, s2⟩, g1, g2, fun r' r0 r1 => ?_, fun r' r0 r1 => ?_⟩, ix_lt s3 s4, fun p X hX => ?_⟩
      · by_cases q : r' = r
        · subst q
          exact ⟨g3, g5⟩
        · have hlt := s_lt r1 i0 h q
          have h8 := (p_lr hlt h).1
          obtain ⟨u1, u2⟩ := i4 r' r0 hlt
          obtain ⟨v1, v2⟩ := g4 r' r0 h8 q
          obtain ⟨e1', e2', -⟩ := hF r' r0 h8
          exact ⟨v1.trans u1, fun k' k0 k1 => v2 k' k0 (p_2 ⟨k0, k1⟩ (by rw [e1']; exact e2'.2)).2 (u2 k' k0 k1)⟩
      · obtain ⟨t1, t2, t3⟩ := e_ge r0 ⟨i0, h⟩
        rw [(g4 r' t3 r1 t2).1]
        exact i5 r' t1 r1
      · unfold F_X4_copyFrom_l6
        exact br_t h (g6 _ _ hX)
    · refine Or.inr ⟨R, ⟨i2, i3, fun r' r0 r1 => i4 r' r0 (s_end h r1)⟩, fun p X hp => ?_⟩
      unfold F_X4_copyFrom_l6
      exact br_f h hp) (a1 := 0) (a2 := P0) ⟨by decide, fun k x j a1 _ _ => c1 k x j a1, hB0, fun r' r0 r1 => absurd r1 (z_nl2 r0), fun r' r0 r1 => c2 r' r0 r1⟩
  refine ⟨P', ⟨h1, h2, fun r r0 r1 => ?_⟩, fun post hp => ?_⟩
  · obtain ⟨e1, e2, e3⟩ := hF r r0 r1
    obtain ⟨u1, u2⟩ := h3 r r0 r1
    refine ⟨u1.trans e1, e2, fun k k0 k1 => ?_⟩
    obtain ⟨w1, w2⟩ := u2 k k0 (by rw [e1]; exact k1)
    exact FR_copy (e3 k k0 k1) w1 w2
  · unfold F_X4_copyFrom
    exact c3 _ (h4 _ hp)
/-- the whole machine -/
theorem c_copyMachine {o b κ : Nat} {P Q : VP} (hob : ¬ b = o) (hB : BI P) (hM : RM b κ P Q) : ∃ P', ((∀ k x j, ¬ (own k x = o ∧ 1 ≤ k ∧ k ≤ 16) → P' k x j = P k x j) ∧ BI P' ∧ RM o κ P' Q) ∧ ∀ post : VP → Prop, post P' → F_X2_copyFrom o b P post := by
  obtain ⟨hS, hD, hG, hW, hF⟩ := hM
  obtain ⟨A, ⟨a1, a2, a3, a4, a5⟩, a6⟩ := c_copyWorld (o := o) hob hB hD hG hW
  have hFA : RF b κ A Q := RF_eq hF (fun j => a1 12 b j (by omega) (by omega)) (fun x j _ => a1 14 _ j (by omega) (by omega)) (fun x j _ => a1 16 _ j (by omega) (by omega)) (fun _ _ => rfl)
  obtain ⟨C, ⟨c1, c2, c3⟩, c4⟩ := c_copyStacks (o := o) hob a2 hFA
  have src : ∀ j, C 1 b j = P 1 b j := fun j => (c1 1 b j (by omega) (by omega) (by omega)).trans (a1 1 b j (by omega) (by omega))
  have ne : ∀ (R : VP) (j i : Nat) (v : Int32), vup R 1 o j v 1 b i = R 1 b i := fun R j i v => vup_ne (fun q => hob q.2.1)
  obtain ⟨P', hP'⟩ : ∃ P', vup (vup (vup (vup C 1 o 2 (P 1 b 2)) 1 o 3 (P 1 b 3)) 1 o 4 (P 1 b 4)) 1 o 5 (P 1 b 5) = P' := ⟨_, rfl⟩
  have n1 : ∀ k x j, ¬ (k = 1 ∧ x = o) → P' k x j = C k x j := fun k x j hk => by
    rw [← hP', vup_ne (by omega), vup_ne (by omega), vup_ne (by omega), vup_ne (by omega)]
  have n2 : P' 1 o 2 = P 1 b 2 ∧ P' 1 o 3 = P 1 b 3 ∧ P' 1 o 4 = P 1 b 4 ∧ P' 1 o 5 = P 1 b 5 := by
    rw [← hP']
    refine ⟨?_, ?_, ?_, ?_⟩ <;> simp [vup]
  refine ⟨P', ⟨fun k x j hk => ?_, BI_eq' c2 (fun k x j hk _ => n1 k x j (by omega)), ?_, ?_, ?_, ?_, ?_⟩, fun post hp => ?_⟩
  · have h1 : ¬ (k = 1 ∧ x = o) := fun q => hk ⟨by rw [q.1, q.2]; rfl, by omega, by omega⟩
    have h12 : ¬ (k = 12 ∧ x = o) := fun q => hk ⟨by rw [q.1, q.2]; rfl, by omega, by omega⟩
    have h14 : ¬ (k = 14 ∧ x / 49 = o) := fun q => hk ⟨by rw [q.1]; exact q.2, by omega, by omega⟩
    have h16 : ¬ (k = 16 ∧ x / 147 = o) := fun q => hk ⟨by rw [q.1]; exact q.2, by omega, by omega⟩
    have h25 : ¬ ((2 ≤ k ∧ k ≤ 5) ∧ x = o) := fun q => hk ⟨by unfold own; rw [if_neg (by omega), if_neg (by omega), if_neg (by omega), if_neg (by omega)]; exact q.2, by omega, by omega⟩
    have h7 : ¬ ((7 ≤ k ∧ k ≤ 10) ∧ x / 16 = o) := fun q => hk ⟨by unfold own; rw [if_pos q.1]; exact q.2, by omega, by omega⟩
    rw [n1 k x j h1, c1 k x j h12 h14 h16]
    exact a1 k x j h25 h7
  · unfold RS at hS ⊢
    rw [n2.1, n2.2.1, n2.2.2.1, n2.2.2.2]
    exact hS
  · exact RD_eq a3 (fun k j k0 k1 => (n1 k o j (by omega)).trans (c1 k o j (by omega) (by omega) (by omega))) (fun _ _ => rfl)
  · exact RG_eq a4 (fun s j => (n1 7 _ j (by omega)).trans (c1 7 _ j (by omega) (by omega) (by omega))) (fun _ _ => rfl) (z_le _)
  · exact RW_eq a5 (fun k s j k0 k1 => (n1 k _ j (by omega)).trans (c1 k _ j (by omega) (by omega) (by omega))) (fun _ _ => rfl)
  · exact RF_eq c3 (fun j => n1 12 o j (by omega)) (fun x j _ => n1 14 _ j (by omega)) (fun x j _ => n1 16 _ j (by omega)) (fun _ _ => rfl)
  · unfold F_X2_copyFrom
    refine a6 _ (c4 _ (fun P27 e1 P35 e2 P43 e3 P51 e4 => ?_))
    rw [src] at e1
    subst e1
    rw [ne, src] at e2
    subst e2
    rw [ne, ne, src] at e3
    subst e3
    rw [ne, ne, ne, src] at e4
    rw [e4, hP']
    exact hp
