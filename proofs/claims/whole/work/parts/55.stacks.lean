/-! the stacks copied -/
def CF (o b : Nat) (P P1 : VP) (r k : Int32) : Prop := (∀ j, j ≤ 4 → P1 14 (49 * o + ix ((r * 6) + k)) j = P 14 (49 * b + ix ((r * 6) + k)) j) ∧ ∀ m : Int32, 0 ≤ m → m < 3 → ∀ j, j ≤ 4 → P1 16 (3 * (49 * o + ix ((r * 6) + k)) + ix m) j = P 16 (3 * (49 * b + ix ((r * 6) + k)) + ix m) j
def UO (o : Nat) (P P1 : VP) : Prop := ∀ k x j, ¬ (k = 12 ∧ x = o) → ¬ (k = 14 ∧ x / 49 = o) → ¬ (k = 16 ∧ x / 147 = o) → P1 k x j = P k x j
theorem p_ne {r k r' k' : Int32} (hr : 0 ≤ r ∧ r < 8) (hr' : 0 ≤ r' ∧ r' < 8) (hk : 0 ≤ k ∧ k < 6) (hk' : 0 ≤ k' ∧ k' < 6) (h : ¬ (r' = r ∧ k' = k)) : ¬ (r' * 6) + k' = (r * 6) + k := by lia
theorem p_st {k n : Int32} (hk : 0 ≤ k) (h : k < n) (hn : n ≤ 6) : 0 ≤ k + 1 ∧ k + 1 ≤ n ∧ 0 ≤ 6 - (k + 1) ∧ 6 - (k + 1) < 6 - k := by lia
theorem p_lt {a v : Int32} (h : a < v + 1) (h0 : 0 ≤ v) (hv : v < 6) (hn : ¬ a = v) : a < v := by lia
theorem p_tr {a b c : Int32} (h : a < b) (h' : b < c) : a < c := by lia
theorem p_48 {r k : Int32} (hr : 0 ≤ r ∧ r < 8) (hk : 0 ≤ k ∧ k < 6) : ix ((r * 6) + k) < 48 := ix_b (N := 48) (by decide) rfl (p_1 hr hk).1 (p_1 hr hk).2
theorem p_lr {r' r : Int32} (h : r' < r) (hr : r < 8) : r' < 8 ∧ ¬ r' = r := by lia
theorem c_inner {o b : Nat} {P P1 : VP} {r n : Int32} (hob : ¬ b = o) (hr : 0 ≤ r ∧ r < 8) (hn : P 12 b (ix r) = n) (h6 : 0 ≤ n ∧ n ≤ 6) (hU : UO o P P1) (hB : BI P1) (h0 : P1 12 o (ix r) = 0) : ∃ P2, (UO o P P2 ∧ BI P2 ∧ P2 12 o (ix r) = n ∧ (∀ r' : Int32, 0 ≤ r' → r' < 8 → ¬ r' = r → P2 12 o (ix r') = P1 12 o (ix r') ∧ ∀ k' : Int32, 0 ≤ k' → k' < 6 → CF o b P P1 r' k' → CF o b P P2 r' k') ∧ ∀ k' : Int32, 0 ≤ k' → k' < n → CF o b P P2 r k') ∧ ∀ (post : VP → Prop) (X6 : Int32 → VP → Prop), X6 (r + 1) P2 → vL2 (F_X4_copyFrom_l14 o b post X6 r) 0 P1 := by
  obtain ⟨⟨z, P2⟩, ⟨hz, hP⟩, h2⟩ := lk2 (ρ := Int32 × VP) (fun p => F_X4_copyFrom_l14 o b (fun _ => True) (fun v P => p (v, P)) r) (fun k R => (0 ≤ k ∧ k ≤ n) ∧ UO o P R ∧ BI R ∧ R 12 o (ix r) = k ∧ (∀ r' : Int32, 0 ≤ r' → r' < 8 → ¬ r' = r → R 12 o (ix r') = P1 12 o (ix r') ∧ ∀ k' : Int32, 0 ≤ k' → k' < 6 → CF o b P P1 r' k' → CF o b P R r' k') ∧ ∀ k' : Int32, 0 ≤ k' → k' < k → CF o b P R r k') (fun q => q.1 = r + 1 ∧ (UO o P q.2 ∧ BI q.2 ∧ q.2 12 o (ix r) = n ∧ (∀ r' : Int32, 0 ≤ r' → r' < 8 → ¬ r' = r → q.2 12 o (ix r') = P1 12 o (ix r') ∧ ∀ k' : Int32, 0 ≤ k' → k' < 6 → CF o b P P1 r' k' → CF o b P q.2 r' k') ∧ ∀ k' : Int32, 0 ≤ k' → k' < n → CF o b P q.2 r k')) (fun k _ => ix (6 - k)) (by
    rintro k R ⟨⟨i0, i1⟩, i2, i3, i4, i5, i6⟩
    have hb : R 12 b (ix r) = n := by rw [i2 12 b _ (by omega) (by omega) (by omega)]; exact hn
    by_cases h : k < n
    · obtain ⟨s1, s2, s3, s4⟩ := p_st i0 h h6.2
      have k6 := p_2 ⟨i0, h⟩ h6.2
      have hx := p_48 hr k6
      obtain ⟨R', ⟨g1, g2, g3, g4, g5⟩, g6⟩ := c_push (o := o) (y := 49 * b + ix ((r * 6) + k)) i3 hr k6 i4 (by omega)
      have other : ∀ r' k' : Int32, 0 ≤ r' ∧ r' < 8 → 0 ≤ k' ∧ k' < 6 → ¬ (r' = r ∧ k' = k) → CF o b P R r' k' → CF o b P R' r' k' := fun r' k' hr' hk' hne hc => by
        have hn2 := ix_ne (p_1 hr' hk').1 (p_1 hr k6).1 (p_ne hr hr' k6 hk' hne)
        refine ⟨fun j hj => ?_, fun m m0 m1 j hj => ?_⟩
        · rw [g1 14 _ j (by omega) (by omega) (by omega)]; exact hc.1 j hj
        · have hm : ix m < 3 := ix_b (N := 3) (by decide) rfl m0 m1
          rw [g1 16 _ j (by omega) (by omega) (by omega)]; exact hc.2 m m0 m1 j hj
      refine Or.inl ⟨k + 1, R', ⟨⟨s1, s2⟩, fun k' x j a1 a2 a3 => ?_, g5, g2, fun r' r0 r1 hne => ⟨?_, fun k' k0 k1 hc => ?_⟩, fun k' k0 k1 => ?_⟩, ix_lt s3 s4, fun p X hX => ?_⟩
      · rw [g1 k' x j (by omega) (by omega) (by omega)]; exact i2 k' x j a1 a2 a3
      · have := ix_ne r0 hr.1 hne
        rw [g1 12 o _ (by omega) (by omega) (by omega)]; exact (i5 r' r0 r1 hne).1
      · exact other r' k' ⟨r0, r1⟩ ⟨k0, k1⟩ (fun q => hne q.1) ((i5 r' r0 r1 hne).2 k' k0 k1 hc)
      · by_cases q : k' = k
        · subst q
          refine ⟨fun j hj => ?_, fun m m0 m1 j hj => ?_⟩
          · rw [g3 j hj]; exact i2 14 _ j (by omega) (by omega) (by omega)
          · have hm : ix m < 3 := ix_b (N := 3) (by decide) rfl m0 m1
            rw [g4 m m0 m1 j hj]; exact i2 16 _ j (by omega) (by omega) (by omega)
        · have hk2 := p_lt k1 i0 k6.2 q
          exact other r k' hr (p_2 ⟨k0, p_tr hk2 h⟩ h6.2) (fun w => q w.2) (i6 k' k0 hk2)
      · show F_X4_copyFrom_l14 _ _ _ _ _ _ _ _
        unfold F_X4_copyFrom_l14
        exact c_height2 hr hb _ (br_t h (c_frameAt2 hr hb ⟨i0, h⟩ h6.2 _ (g6 _ hX)))
    · have e : k = n := n_c i1 h
      refine Or.inr ⟨(r + 1, R), ⟨rfl, i2, i3, i4.trans e, i5, fun k' k0 k1 => i6 k' k0 (by rw [e]; exact k1)⟩, fun p X hp => ?_⟩
      show F_X4_copyFrom_l14 _ _ _ _ _ _ _ _
      unfold F_X4_copyFrom_l14
      exact c_height2 hr hb _ (br_f h hp)) (a1 := 0) (a2 := P1) ⟨⟨by decide, h6.1⟩, hU, hB, h0, fun _ _ _ _ => ⟨rfl, fun _ _ _ hc => hc⟩, fun k' k0 k1 => absurd k1 (z_nl2 k0)⟩
  have hz' : z = r + 1 := hz
  subst hz'
  exact ⟨P2, hP, fun post X6 hX => h2 (fun q => X6 q.1 q.2) hX⟩
