/-! a frame copied -/
theorem BI_16 {P : VP} {x j : Nat} {v : Int32} (h : BI P) (h4 : j = 4 → v = 0 ∨ v = 1) : BI (vup P 16 x j v) := by
  obtain ⟨a, b, c, d, e, f⟩ := h
  refine ⟨fun x => ?_, fun x => ?_, fun x w w0 w1 hw => ?_, fun x => ?_, fun y => ?_, fun x => ?_⟩
  · rw [kup_ne (by decide)]; exact a x
  · rw [kup_ne (by decide)]; exact b x
  · rw [kup_ne (by decide)] at hw
    rw [kup_ne (by decide), kup_ne (by decide), kup_ne (by decide)]; exact c x w w0 w1 hw
  · rw [kup_ne (by decide)]; exact d x
  · by_cases q : y = x ∧ j = 4
    · rw [q.1, q.2, vup_eq]; exact h4 q.2
    · rw [vup_ne (by omega)]; exact e y
  · rw [kup_ne (by decide)]; exact f x
theorem BI_14 {P : VP} {x j : Nat} {v : Int32} (h : BI P) (h3 : j = 3 → v = 0 ∨ v = 1) : BI (vup P 14 x j v) := by
  obtain ⟨a, b, c, d, e, f⟩ := h
  refine ⟨fun x => ?_, fun x => ?_, fun x w w0 w1 hw => ?_, fun y => ?_, fun x => ?_, fun x => ?_⟩
  · rw [kup_ne (by decide)]; exact a x
  · rw [kup_ne (by decide)]; exact b x
  · rw [kup_ne (by decide)] at hw
    rw [kup_ne (by decide), kup_ne (by decide), kup_ne (by decide)]; exact c x w w0 w1 hw
  · by_cases q : y = x ∧ j = 3
    · rw [q.1, q.2, vup_eq]; exact h3 q.2
    · rw [vup_ne (by omega)]; exact d y
  · rw [kup_ne (by decide)]; exact e x
  · rw [kup_ne (by decide)]; exact f x
theorem c_copyArg {a b : Nat} {P : VP} (hab : ¬ b = a) (hB : BI P) : ∃ P', ((∀ k x j, ¬ (k = 16 ∧ x = a) → P' k x j = P k x j) ∧ (∀ j, j ≤ 4 → P' 16 a j = P 16 b j) ∧ BI P') ∧ ∀ post : VP → Prop, post P' → F_X0_copyFrom a b P post := by
  have ne : ∀ (R : VP) (j i : Nat) (v : Int32), vup R 16 a j v 16 b i = R 16 b i := fun R j i v => vup_ne (fun q => hab q.2.1)
  refine ⟨vup (vup (vup (vup (vup P 16 a 0 (P 16 b 0)) 16 a 1 (P 16 b 1)) 16 a 2 (P 16 b 2)) 16 a 3 (P 16 b 3)) 16 a 4 (P 16 b 4), ⟨fun k x j hj => ?_, fun j hj => ?_, ?_⟩, fun post hp => ?_⟩
  · rw [vup_ne (by omega), vup_ne (by omega), vup_ne (by omega), vup_ne (by omega), vup_ne (by omega)]
  · have : j = 0 ∨ j = 1 ∨ j = 2 ∨ j = 3 ∨ j = 4 := by omega
    rcases this with rfl | rfl | rfl | rfl | rfl <;> simp [vup]
  · exact BI_16 (BI_16 (BI_16 (BI_16 (BI_16 hB (fun q => absurd q (by decide))) (fun q => absurd q (by decide))) (fun q => absurd q (by decide))) (fun q => absurd q (by decide))) (fun _ => hB.2.2.2.2.1 b)
  · unfold F_X0_copyFrom
    intro A0 e0 A1 e1 A2 e2 A3 e3
    subst e0
    rw [ne] at e1
    subst e1
    rw [ne, ne] at e2
    subst e2
    rw [ne, ne, ne] at e3
    subst e3
    refine ⟨?_, fun A4 e4 => ?_⟩
    · rw [ne, ne, ne, ne]; exact hB.2.2.2.2.1 b
    · rw [ne, ne, ne, ne] at e4
      subst e4
      exact hp
theorem l_st {v : Int32} (h0 : 0 ≤ v) (h : v < 3) : 0 ≤ v + 1 ∧ v + 1 ≤ 3 ∧ 0 ≤ 3 - (v + 1) ∧ 3 - (v + 1) < 3 - v := by lia
theorem l_lt {a v : Int32} (h : a < v + 1) (h0 : 0 ≤ v) (hv : v < 3) (hn : ¬ a = v) : a < v := by lia
theorem l_end {a v : Int32} (h : ¬ v < 3) (ha : a < 3) : a < v := by lia
theorem c_copyArgs {a b : Nat} {P : VP} (hab : ¬ b = a) (hB : BI P) : ∃ P', ((∀ k x j, ¬ (k = 16 ∧ x / 3 = a) → P' k x j = P k x j) ∧ (∀ m : Int32, 0 ≤ m → m < 3 → ∀ j, j ≤ 4 → P' 16 (3 * a + ix m) j = P 16 (3 * b + ix m) j) ∧ BI P') ∧ ∀ post : VP → Prop, post P' → vL2 (F_X1_copyFrom_l42 a b post) 0 P := by
  obtain ⟨P', h1, h2⟩ := lk2 (ρ := VP) (fun p => F_X1_copyFrom_l42 a b p) (fun v P1 => (0 ≤ v ∧ v ≤ 3) ∧ (∀ k x j, ¬ (k = 16 ∧ x / 3 = a) → P1 k x j = P k x j) ∧ (∀ m : Int32, 0 ≤ m → m < v → ∀ j, j ≤ 4 → P1 16 (3 * a + ix m) j = P 16 (3 * b + ix m) j) ∧ BI P1) (fun P' => (∀ k x j, ¬ (k = 16 ∧ x / 3 = a) → P' k x j = P k x j) ∧ (∀ m : Int32, 0 ≤ m → m < 3 → ∀ j, j ≤ 4 → P' 16 (3 * a + ix m) j = P 16 (3 * b + ix m) j) ∧ BI P') (fun v _ => ix (3 - v)) (by
    rintro v P1 ⟨⟨i0, i1⟩, i2, i3, i4⟩
    by_cases h : v < 3
    · obtain ⟨s1, s2, s3, s4⟩ := l_st i0 h
      have hv : ix v < 3 := ix_b (N := 3) (by decide) rfl i0 h
      obtain ⟨P2, ⟨g1, g2, g3⟩, g4⟩ := c_copyArg (a := 3 * a + ix v) (b := 3 * b + ix v) (by omega) i4
      refine Or.inl ⟨v + 1, P2, ⟨⟨s1, s2⟩, fun k x j hj => ?_, fun m m0 m1 j hj => ?_, g3⟩, ix_lt s3 s4, fun p X hX => ?_⟩
      · rw [g1 k x j (fun q => hj ⟨q.1, by omega⟩)]; exact i2 k x j hj
      · by_cases q : m = v
        · subst q
          rw [g2 j hj]; exact i2 16 _ j (by omega)
        · have hne := ix_ne m0 i0 q
          rw [g1 16 _ j (by omega)]
          exact i3 m m0 (l_lt m1 i0 h q) j hj
      · unfold F_X1_copyFrom_l42
        exact br_t h (br_t h ⟨⟨i0, h⟩, ⟨i0, h⟩, g4 _ hX⟩)
    · refine Or.inr ⟨P1, ⟨i2, fun m m0 m1 => i3 m m0 (l_end h m1), i4⟩, fun p X hp => ?_⟩
      unfold F_X1_copyFrom_l42
      exact br_f h hp) (a1 := 0) (a2 := P) ⟨by decide, fun _ _ _ _ => rfl, fun i j0 j1 => absurd j1 (z_nl2 j0), hB⟩
  exact ⟨P', h1, fun post hp => h2 post hp⟩
def FC (a b : Nat) (P P' : VP) : Prop := (∀ k x j, ¬ ((k = 14 ∧ x = a) ∨ (k = 16 ∧ x / 3 = a)) → P' k x j = P k x j) ∧ (∀ j, j ≤ 4 → P' 14 a j = P 14 b j) ∧ (∀ m : Int32, 0 ≤ m → m < 3 → ∀ j, j ≤ 4 → P' 16 (3 * a + ix m) j = P 16 (3 * b + ix m) j) ∧ BI P'
theorem c_copyFrame {a b : Nat} {P : VP} (hab : ¬ b = a) (hB : BI P) : ∃ P', FC a b P P' ∧ ∀ post : VP → Prop, post P' → F_X1_copyFrom a b P post := by
  have ne : ∀ (R : VP) (j i : Nat) (v : Int32), vup R 14 a j v 14 b i = R 14 b i := fun R j i v => vup_ne (fun q => hab q.2.1)
  obtain ⟨H, hH⟩ : ∃ H, vup (vup (vup (vup (vup P 14 a 0 (P 14 b 0)) 14 a 1 (P 14 b 1)) 14 a 2 (P 14 b 2)) 14 a 3 (P 14 b 3)) 14 a 4 (P 14 b 4) = H := ⟨_, rfl⟩
  have n1 : ∀ k x j, ¬ (k = 14 ∧ x = a) → H k x j = P k x j := fun k x j hj => by
    rw [← hH, vup_ne (by omega), vup_ne (by omega), vup_ne (by omega), vup_ne (by omega), vup_ne (by omega)]
  have n2 : ∀ j, j ≤ 4 → H 14 a j = P 14 b j := fun j hj => by
    have : j = 0 ∨ j = 1 ∨ j = 2 ∨ j = 3 ∨ j = 4 := by omega
    rw [← hH]
    rcases this with rfl | rfl | rfl | rfl | rfl <;> simp [vup]
  have n3 : BI H := by
    rw [← hH]
    exact BI_14 (BI_14 (BI_14 (BI_14 (BI_14 hB (fun q => absurd q (by decide))) (fun q => absurd q (by decide))) (fun q => absurd q (by decide))) (fun _ => hB.2.2.2.1 b)) (fun q => absurd q (by decide))
  obtain ⟨P', ⟨g1, g2, g3⟩, g4⟩ := c_copyArgs (a := a) (b := b) hab n3
  refine ⟨P', ⟨fun k x j hj => ?_, fun j hj => ?_, fun m m0 m1 j hj => ?_, g3⟩, fun post hp => ?_⟩
  · rw [g1 k x j (fun q => hj (Or.inr q)), n1 k x j (fun q => hj (Or.inl q))]
  · rw [g1 14 a j (by omega), n2 j hj]
  · rw [g2 m m0 m1 j hj, n1 16 _ j (by omega)]
  · unfold F_X1_copyFrom
    intro A0 e0 A1 e1 A2 e2
    subst e0
    rw [ne] at e1
    subst e1
    rw [ne, ne] at e2
    subst e2
    refine ⟨?_, fun A3 e3 A4 e4 => ?_⟩
    · rw [ne, ne, ne]; exact hB.2.2.2.1 b
    · rw [ne, ne, ne] at e3
      subst e3
      rw [ne, ne, ne, ne] at e4
      rw [e4, hH]
      exact g4 _ hp
