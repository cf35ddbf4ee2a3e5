/-! a machine copied: rows of numbers, a segment, a world -/
theorem k_st {v N : Int32} (h0 : 0 ≤ v) (h : v < N) (hN : N ≤ 24) : 0 ≤ v + 1 ∧ v + 1 ≤ N ∧ 0 ≤ 24 - (v + 1) ∧ 24 - (v + 1) < 24 - v := by lia
theorem k_lt {a v : Int32} (h : a < v + 1) (h0 : 0 ≤ v) (hv : v < 24) (hn : ¬ a = v) : a < v := by lia
theorem k_end {a v N : Int32} (h : ¬ v < N) (ha : a < N) : a < v := by lia
theorem k_24 {v N : Int32} (h : v < N) (hN : N ≤ 24) : v < 24 := by lia
theorem c_nums {k a b : Nat} {N : Int32} (hk : vlI k = N) (hN : 0 ≤ N ∧ N ≤ 24) (hab : ¬ b = a) (P : VP) : ∃ P', ((∀ k' x j, ¬ (k' = k ∧ x = a) → P' k' x j = P k' x j) ∧ ∀ i : Int32, 0 ≤ i → i < N → P' k a (ix i) = P k b (ix i)) ∧ ∀ post : VP → Prop, post P' → F_X7_copyNumbers k b k a P post := by
  obtain ⟨P', h1, h2⟩ := lk2 (ρ := VP) (fun p => F_X7_copyNumbers_l2 k b k a p) (fun v P1 => (0 ≤ v ∧ v ≤ N) ∧ (∀ k' x j, ¬ (k' = k ∧ x = a) → P1 k' x j = P k' x j) ∧ ∀ i : Int32, 0 ≤ i → i < v → P1 k a (ix i) = P k b (ix i)) (fun P' => (∀ k' x j, ¬ (k' = k ∧ x = a) → P' k' x j = P k' x j) ∧ ∀ i : Int32, 0 ≤ i → i < N → P' k a (ix i) = P k b (ix i)) (fun v _ => ix (24 - v)) (by
    rintro v P1 ⟨⟨i0, i1⟩, i2, i3⟩
    by_cases h : v < N
    · obtain ⟨s1, s2, s3, s4⟩ := k_st i0 h hN.2
      refine Or.inl ⟨v + 1, vup P1 k a (ix v) (P1 k b (ix v)), ⟨⟨s1, s2⟩, fun k' x j hj => ?_, fun i j0 j1 => ?_⟩, ix_lt s3 s4, fun p X hX => ?_⟩
      · rw [vup_ne (fun q => hj ⟨q.1, q.2.1⟩)]; exact i2 k' x j hj
      · by_cases q : i = v
        · rw [q, vup_eq]; exact i2 k b _ (fun q => hab q.2)
        · rw [qup_ne i0 j0 q]; exact i3 i j0 (k_lt j1 i0 (k_24 h hN.2) q)
      · unfold F_X7_copyNumbers_l2
        rw [hk]
        exact br_t h (br_t h ⟨⟨i0, h⟩, ⟨i0, h⟩, fun P19 e => by rw [e]; exact hX⟩)
    · refine Or.inr ⟨P1, ⟨i2, fun i j0 j1 => i3 i j0 (k_end h j1)⟩, fun p X hp => ?_⟩
      unfold F_X7_copyNumbers_l2
      rw [hk]
      exact br_f h hp) (a1 := 0) (a2 := P) ⟨⟨by decide, hN.1⟩, fun _ _ _ _ => rfl, fun i j0 j1 => absurd j1 (z_nl2 j0)⟩
  exact ⟨P', h1, fun post hp => by unfold F_X7_copyNumbers; exact h2 post hp⟩
/-- one segment is another's copy -/
def SC (a b : Nat) (P P' : VP) : Prop := (∀ k x j, ¬ ((7 ≤ k ∧ k ≤ 10) ∧ x = a) → P' k x j = P k x j) ∧ P' 7 a 0 = P 7 b 0 ∧ (P 7 b 0 = 1 → (∀ j, j ≤ 9 → P' 7 a j = P 7 b j) ∧ ∀ w : Int32, 0 ≤ w → w < 24 → P' 8 a (ix w) = P 8 b (ix w) ∧ P' 9 a (ix w) = P 9 b (ix w) ∧ P' 10 a (ix w) = P 10 b (ix w))
theorem c_copySeg {a b : Nat} {P : VP} (hab : ¬ b = a) (hB : BI P) : ∃ P', (SC a b P P' ∧ BI P') ∧ ∀ post : VP → Prop, post P' → F_X3_copyFrom a b P post := by
  by_cases h0 : P 7 b 0 = 0
  · refine ⟨vup P 7 a 0 (P 7 b 0), ⟨⟨fun k x j hj => vup_ne (by omega), vup_eq _ _ _ _ _, fun q => absurd (h0.symm.trans q) (by decide)⟩, BI_h hB (by decide) (fun _ => Or.inl h0) (fun q => absurd q (by decide))⟩, fun post hp => ?_⟩
    unfold F_X3_copyFrom
    refine ⟨Or.inl h0, fun P5 e => ?_⟩
    subst e
    exact br_t (by rw [vup_eq]; exact h0) hp
  · have h1 : P 7 b 0 = 1 := (hB.1 b).resolve_left h0
    obtain ⟨H, hH⟩ : ∃ H, vup (vup (vup (vup (vup (vup (vup (vup (vup (vup P 7 a 0 (P 7 b 0)) 7 a 1 (P 7 b 1)) 7 a 2 (P 7 b 2)) 7 a 3 (P 7 b 3)) 7 a 4 (P 7 b 4)) 7 a 5 (P 7 b 5)) 7 a 6 (P 7 b 6)) 7 a 7 (P 7 b 7)) 7 a 8 (P 7 b 8)) 7 a 9 (P 7 b 9) = H := ⟨_, rfl⟩
    have n1 : ∀ k x j, ¬ (k = 7 ∧ x = a) → H k x j = P k x j := fun k x j hj => by
      rw [← hH, vup_ne (by omega), vup_ne (by omega), vup_ne (by omega), vup_ne (by omega), vup_ne (by omega), vup_ne (by omega), vup_ne (by omega), vup_ne (by omega), vup_ne (by omega), vup_ne (by omega)]
    have n2 : ∀ j, j ≤ 9 → H 7 a j = P 7 b j := fun j hj => by
      have : j = 0 ∨ j = 1 ∨ j = 2 ∨ j = 3 ∨ j = 4 ∨ j = 5 ∨ j = 6 ∨ j = 7 ∨ j = 8 ∨ j = 9 := by omega
      rw [← hH]
      rcases this with rfl | rfl | rfl | rfl | rfl | rfl | rfl | rfl | rfl | rfl <;> simp [vup]
    obtain ⟨P8, ⟨a1, a2⟩, a3⟩ := c_nums (k := 8) (N := 24) rfl (by decide) hab H
    obtain ⟨P9, ⟨b1, b2⟩, b3⟩ := c_nums (k := 9) (N := 24) rfl (by decide) hab P8
    obtain ⟨P10, ⟨c1, c2⟩, c3⟩ := c_nums (k := 10) (N := 24) rfl (by decide) hab P9
    have m1 : ∀ k x j, ¬ ((7 ≤ k ∧ k ≤ 10) ∧ x = a) → P10 k x j = P k x j := fun k x j hj => by
      rw [c1 k x j (by omega), b1 k x j (by omega), a1 k x j (by omega), n1 k x j (by omega)]
    have m2 : ∀ j, j ≤ 9 → P10 7 a j = P 7 b j := fun j hj => by
      rw [c1 7 a j (by omega), b1 7 a j (by omega), a1 7 a j (by omega), n2 j hj]
    have m3 : ∀ w : Int32, 0 ≤ w → w < 24 → P10 8 a (ix w) = P 8 b (ix w) ∧ P10 9 a (ix w) = P 9 b (ix w) ∧ P10 10 a (ix w) = P 10 b (ix w) := fun w w0 w1 => by
      refine ⟨?_, ?_, ?_⟩
      · rw [c1 8 a _ (by omega), b1 8 a _ (by omega), a2 w w0 w1, n1 8 b _ (by omega)]
      · rw [c1 9 a _ (by omega), b2 w w0 w1, a1 9 b _ (by omega), n1 9 b _ (by omega)]
      · rw [c2 w w0 w1, b1 10 b _ (by omega), a1 10 b _ (by omega), n1 10 b _ (by omega)]
    refine ⟨P10, ⟨⟨m1, m2 0 (by decide), fun _ => ⟨m2, m3⟩⟩, ?_⟩, fun post hp => ?_⟩
    · refine BI_y (y := a) hB (fun k x j hx _ _ => m1 k x j (by omega)) (fun k x j hk _ => m1 k x j (by omega)) (by rw [m2 0 (by decide)]; exact hB.1 b) (by rw [m2 4 (by decide)]; exact hB.2.1 b) (fun w w0 w1 hw => ?_) (by rw [m2 9 (by decide)]; exact hB.2.2.2.2.2 b)
      rw [m2 4 (by decide)] at hw
      obtain ⟨e1, e2, e3⟩ := m3 w w0 w1
      rw [e1, e2, e3]
      exact hB.2.2.1 b w w0 w1 hw
    · unfold F_X3_copyFrom
      refine ⟨Or.inr h1, fun A0 e0 => br_f (by rw [e0, vup_eq]; exact h0) (fun A1 e1 A2 e2 A3 e3 A4 e4 A5 e5 A6 e6 A7 e7 A8 e8 A9 e9 => ?_)⟩
      have ne : ∀ (R : VP) (j i : Nat) (v : Int32), vup R 7 a j v 7 b i = R 7 b i := fun R j i v => vup_ne (fun q => hab q.2.1)
      have hA : A9 = H := by
        subst e0
        rw [ne] at e1
        subst e1
        rw [ne, ne] at e2
        subst e2
        rw [ne, ne, ne] at e3
        subst e3
        rw [ne, ne, ne, ne] at e4
        subst e4
        rw [ne, ne, ne, ne, ne] at e5
        subst e5
        rw [ne, ne, ne, ne, ne, ne] at e6
        subst e6
        rw [ne, ne, ne, ne, ne, ne, ne] at e7
        subst e7
        rw [ne, ne, ne, ne, ne, ne, ne, ne] at e8
        subst e8
        rw [ne, ne, ne, ne, ne, ne, ne, ne, ne] at e9
        rw [e9]
        exact hH
      rw [hA]
      exact a3 _ (b3 _ (c3 _ hp))
