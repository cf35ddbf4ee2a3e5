def SF (P P' : VP) (a b : Nat) : Prop := P' 7 a 0 = P 7 b 0 ∧ (P 7 b 0 = 1 → (∀ j, j ≤ 9 → P' 7 a j = P 7 b j) ∧ ∀ w : Int32, 0 ≤ w → w < 24 → P' 8 a (ix w) = P 8 b (ix w) ∧ P' 9 a (ix w) = P 9 b (ix w) ∧ P' 10 a (ix w) = P 10 b (ix w))
theorem t_st {v : Int32} (h0 : 0 ≤ v) (h : v < 16) : 0 ≤ v + 1 ∧ v + 1 ≤ 16 ∧ 0 ≤ 16 - (v + 1) ∧ 16 - (v + 1) < 16 - v := by lia
theorem t_lt {a v : Int32} (h : a < v + 1) (h0 : 0 ≤ v) (hv : v < 16) (hn : ¬ a = v) : a < v := by lia
theorem t_16 {a v : Int32} (h : a < v) (hv : v < 16) : a < 16 := by lia
theorem t_end {a v : Int32} (h : ¬ v < 16) (ha : a < 16) : a < v := by lia
theorem c_copySegs {o b : Nat} {P : VP} (hob : ¬ b = o) (hB : BI P) : ∃ P', ((∀ k x j, ¬ ((7 ≤ k ∧ k ≤ 10) ∧ x / 16 = o) → P' k x j = P k x j) ∧ BI P' ∧ ∀ s : Int32, 0 ≤ s → s < 16 → SF P P' (16 * o + ix s) (16 * b + ix s)) ∧ ∀ post : VP → Prop, post P' → vL2 (F_X6_copyFrom_l59 o b post) 0 P := by
  obtain ⟨P', h1, h2⟩ := lk2 (ρ := VP) (fun p => F_X6_copyFrom_l59 o b p) (fun v P1 => (0 ≤ v ∧ v ≤ 16) ∧ (∀ k x j, ¬ ((7 ≤ k ∧ k ≤ 10) ∧ x / 16 = o) → P1 k x j = P k x j) ∧ BI P1 ∧ ∀ s : Int32, 0 ≤ s → s < v → SF P P1 (16 * o + ix s) (16 * b + ix s)) (fun P' => (∀ k x j, ¬ ((7 ≤ k ∧ k ≤ 10) ∧ x / 16 = o) → P' k x j = P k x j) ∧ BI P' ∧ ∀ s : Int32, 0 ≤ s → s < 16 → SF P P' (16 * o + ix s) (16 * b + ix s)) (fun v _ => ix (16 - v)) (by
    rintro v P1 ⟨⟨i0, i1⟩, i2, i3, i4⟩
    by_cases h : v < 16
    · obtain ⟨s1, s2, s3, s4⟩ := t_st i0 h
      have hv := ix16 v ⟨i0, h⟩
      obtain ⟨P2, ⟨⟨g1, g2, g3⟩, g4⟩, g5⟩ := c_copySeg (a := 16 * o + ix v) (b := 16 * b + ix v) (by omega) i3
      refine Or.inl ⟨v + 1, P2, ⟨⟨s1, s2⟩, fun k x j hj => ?_, g4, fun s z0 z1 => ?_⟩, ix_lt s3 s4, fun p X hX => ?_⟩
      · rw [g1 k x j (fun q => hj ⟨q.1, by omega⟩)]; exact i2 k x j hj
      · have src : ∀ k j, P1 k (16 * b + ix v) j = P k (16 * b + ix v) j := fun k j => i2 k _ j (by omega)
        by_cases q : s = v
        · subst q
          refine ⟨g2.trans (src 7 0), fun e => ?_⟩
          obtain ⟨f1, f2⟩ := g3 ((src 7 0).trans e)
          refine ⟨fun j hj => (f1 j hj).trans (src 7 j), fun w w0 w1 => ?_⟩
          obtain ⟨u1, u2, u3⟩ := f2 w w0 w1
          exact ⟨u1.trans (src 8 _), u2.trans (src 9 _), u3.trans (src 10 _)⟩
        · have hne := ix_ne z0 i0 q
          have hs := t_lt z1 i0 h q
          have dst : ∀ k j, P2 k (16 * o + ix s) j = P1 k (16 * o + ix s) j := fun k j => g1 k _ j (by omega)
          obtain ⟨f0, f1⟩ := i4 s z0 hs
          refine ⟨(dst 7 0).trans f0, fun e => ?_⟩
          obtain ⟨f2, f3⟩ := f1 e
          refine ⟨fun j hj => (dst 7 j).trans (f2 j hj), fun w w0 w1 => ?_⟩
          obtain ⟨u1, u2, u3⟩ := f3 w w0 w1
          exact ⟨(dst 8 _).trans u1, (dst 9 _).trans u2, (dst 10 _).trans u3⟩
      · unfold F_X6_copyFrom_l59
        exact br_t h (br_t h ⟨⟨i0, h⟩, ⟨i0, h⟩, g5 _ hX⟩)
    · refine Or.inr ⟨P1, ⟨i2, i3, fun s z0 z1 => i4 s z0 (t_end h z1)⟩, fun p X hp => ?_⟩
      unfold F_X6_copyFrom_l59
      exact br_f h hp) (a1 := 0) (a2 := P) ⟨by decide, fun _ _ _ _ => rfl, hB, fun i j0 j1 => absurd j1 (z_nl2 j0)⟩
  exact ⟨P', h1, fun post hp => h2 post hp⟩
theorem c_copyWorld {o b κ : Nat} {P Q : VP} (hob : ¬ b = o) (hB : BI P) (hD : RD b κ P Q) (hG : RG b κ P Q) (hW : RW b κ P Q) : ∃ P', ((∀ k x j, ¬ ((2 ≤ k ∧ k ≤ 5) ∧ x = o) → ¬ ((7 ≤ k ∧ k ≤ 10) ∧ x / 16 = o) → P' k x j = P k x j) ∧ BI P' ∧ RD o κ P' Q ∧ RG o κ P' Q ∧ RW o κ P' Q) ∧ ∀ post : VP → Prop, post P' → F_X6_copyFrom o b P post := by
  obtain ⟨A1, ⟨a1, a2⟩, a3⟩ := c_nums (k := 3) (N := 8) rfl (by decide) hob (vup P 2 o 0 (P 2 b 0))
  obtain ⟨A2, ⟨b1, b2⟩, b3⟩ := c_nums (k := 4) (N := 8) rfl (by decide) hob A1
  obtain ⟨A3, ⟨c1, c2⟩, c3⟩ := c_nums (k := 5) (N := 4) rfl (by decide) hob (vup A2 2 o 3 (P 2 b 3))
  have e23 : ∀ j, A2 2 b j = P 2 b j := fun j => by
    rw [b1 2 b j (by omega), a1 2 b j (by omega), vup_ne (by omega)]
  have e25 : ∀ j, A3 2 b j = P 2 b j := fun j => by
    rw [c1 2 b j (by omega), vup_ne (by omega), e23]
  have keep : ∀ k x j, ¬ ((2 ≤ k ∧ k ≤ 5) ∧ x = o) → vup A3 2 o 5 (P 2 b 5) k x j = P k x j := fun k x j hk => by
    rw [vup_ne (by omega), c1 k x j (by omega), vup_ne (by omega), b1 k x j (by omega), a1 k x j (by omega), vup_ne (by omega)]
  have hB4 : BI (vup A3 2 o 5 (P 2 b 5)) := BI_eq hB (fun k x j k0 _ => keep k x j (by omega))
  obtain ⟨P', ⟨d1, d2, d3⟩, d4⟩ := c_copySegs (o := o) hob hB4
  have f20 : P' 2 o 0 = P 2 b 0 := by
    rw [d1 2 o 0 (by omega), vup_ne (by omega), c1 2 o 0 (by omega), vup_ne (by omega), b1 2 o 0 (by omega), a1 2 o 0 (by omega), vup_eq]
  have f23 : P' 2 o 3 = P 2 b 3 := by
    rw [d1 2 o 3 (by omega), vup_ne (by omega), c1 2 o 3 (by omega), vup_eq]
  have f25 : P' 2 o 5 = P 2 b 5 := by
    rw [d1 2 o 5 (by omega), vup_eq]
  have f3 : ∀ i : Int32, 0 ≤ i → i < 8 → P' 3 o (ix i) = P 3 b (ix i) := fun i i0 i1 => by
    rw [d1 3 o _ (by omega), vup_ne (by omega), c1 3 o _ (by omega), vup_ne (by omega), b1 3 o _ (by omega), a2 i i0 i1, vup_ne (by omega)]
  have f4 : ∀ i : Int32, 0 ≤ i → i < 8 → P' 4 o (ix i) = P 4 b (ix i) := fun i i0 i1 => by
    rw [d1 4 o _ (by omega), vup_ne (by omega), c1 4 o _ (by omega), vup_ne (by omega), b2 i i0 i1, a1 4 b _ (by omega), vup_ne (by omega)]
  have f5 : ∀ i : Int32, 0 ≤ i → i < 4 → P' 5 o (ix i) = P 5 b (ix i) := fun i i0 i1 => by
    rw [d1 5 o _ (by omega), vup_ne (by omega), c2 i i0 i1, vup_ne (by omega), b1 5 b _ (by omega), a1 5 b _ (by omega), vup_ne (by omega)]
  have src : ∀ (s : Int32) k j, 7 ≤ k → vup A3 2 o 5 (P 2 b 5) k (16 * b + ix s) j = P k (16 * b + ix s) j := fun s k j hk => keep k _ j (by omega)
  refine ⟨P', ⟨fun k x j h1 h2 => (d1 k x j h2).trans (keep k x j h1), d2, ?_, ?_, ?_⟩, fun post hp => ?_⟩
  · obtain ⟨g0, g5, g3, gR, gD, gI⟩ := hD
    refine ⟨by rw [f20]; exact g0, by rw [f25]; exact g5, by rw [f23]; exact g3, fun j j0 j1 => by rw [f5 j j0 j1]; exact gR j j0 j1, fun j j0 j1 => ⟨by rw [f3 j j0 j1]; exact (gD j j0 j1).1, by rw [f4 j j0 j1]; exact (gD j j0 j1).2⟩, gI⟩
  · intro s s0 s1
    obtain ⟨u0, u1⟩ := d3 s s0 s1
    obtain ⟨v0, v1⟩ := hG s s0 s1
    rw [src s 7 0 (by decide)] at u0 u1
    refine ⟨u0.trans v0, fun q => ?_⟩
    have q' := u0.symm.trans q
    obtain ⟨w1, -⟩ := u1 q'
    have hH := v1 q'
    have w : ∀ j, j ≤ 9 → P' 7 (16 * o + ix s) j = P 7 (16 * b + ix s) j := fun j hj => (w1 j hj).trans (src s 7 j (by decide))
    unfold RH at hH ⊢
    rw [w 1 (by decide), w 2 (by decide), w 3 (by decide), w 4 (by decide), w 5 (by decide), w 6 (by decide), w 7 (by decide), w 8 (by decide), w 9 (by decide)]
    exact hH
  · intro s w s0 s1 w0 w1 hy
    obtain ⟨u0, u1⟩ := d3 s s0 s1
    rw [src s 7 0 (by decide)] at u0 u1
    have q' := u0.symm.trans hy
    obtain ⟨-, w2⟩ := u1 q'
    obtain ⟨x1, x2, x3⟩ := w2 w w0 w1
    rw [x1, x2, x3, src s 8 _ (by decide), src s 9 _ (by decide), src s 10 _ (by decide)]
    exact hW s w s0 s1 w0 w1 q'
  · unfold F_X6_copyFrom
    intro P5 e5
    subst e5
    refine a3 _ (b3 _ (fun P35 e35 => ?_))
    rw [e23 3] at e35
    subst e35
    refine c3 _ (fun P54 e54 => ?_)
    rw [e25 5] at e54
    subst e54
    exact d4 _ hp
