/-! a frame pushed -/
theorem c_height2 {P : VP} {o : Nat} {r n : Int32} (hr : 0 ≤ r ∧ r < 8) (hn : P 12 o (ix r) = n) : An (F_X4_heightOf o r P) n := by
  intro p hp
  unfold F_X4_heightOf
  rw [hn]
  exact br_f (z_nl2 hr.1) (br_t hr.2 ⟨hr, hp⟩)
theorem p_1 {r k : Int32} (hr : 0 ≤ r ∧ r < 8) (hk : 0 ≤ k ∧ k < 6) : 0 ≤ (r * 6) + k ∧ (r * 6) + k < 48 := by lia
theorem p_2 {k n : Int32} (hk : 0 ≤ k ∧ k < n) (hn : n ≤ 6) : 0 ≤ k ∧ k < 6 := by lia
theorem p_3 {k : Int32} (hk : 0 ≤ k ∧ k < 6) : (k + 1) - 1 = k ∧ (0 ≤ k ∧ k < k + 1) ∧ k + 1 ≤ 6 := by lia
theorem c_frameAt2 {P : VP} {o : Nat} {r k n : Int32} (hr : 0 ≤ r ∧ r < 8) (hn : P 12 o (ix r) = n) (hk : 0 ≤ k ∧ k < n) (h6 : n ≤ 6) : An (F_X4_frameAt o r k P) (some (49 * o + ix ((r * 6) + k))) := by
  intro p hp
  have i := p_2 hk h6
  have j := p_1 hr i
  unfold F_X4_frameAt
  exact br_f (z_nl2 hk.1) (c_height2 hr hn _ (br_t hk.2 (br_t i.2 (br_f (z_nl2 j.1) (br_t j.2 ⟨j, hp⟩)))))
theorem c_push {P : VP} {o y : Nat} {r k : Int32} (hB : BI P) (hr : 0 ≤ r ∧ r < 8) (hk : 0 ≤ k ∧ k < 6) (hn : P 12 o (ix r) = k) (hy : ¬ y = 49 * o + ix ((r * 6) + k)) : ∃ P', ((∀ k' x j, ¬ (k' = 12 ∧ x = o ∧ j = ix r) → ¬ (k' = 14 ∧ x = 49 * o + ix ((r * 6) + k)) → ¬ (k' = 16 ∧ x / 3 = 49 * o + ix ((r * 6) + k)) → P' k' x j = P k' x j) ∧ P' 12 o (ix r) = k + 1 ∧ (∀ j, j ≤ 4 → P' 14 (49 * o + ix ((r * 6) + k)) j = P 14 y j) ∧ (∀ m : Int32, 0 ≤ m → m < 3 → ∀ j, j ≤ 4 → P' 16 (3 * (49 * o + ix ((r * 6) + k)) + ix m) j = P 16 (3 * y + ix m) j) ∧ BI P') ∧ ∀ post : Int32 → VP → Prop, post 1 P' → F_X4_push o r (some y) P post := by
  have hB1 : BI (vup P 12 o (ix r) (k + 1)) := by
    refine BI_eq' hB (fun k' x j h _ => kup_ne ?_)
    omega
  obtain ⟨P', ⟨g1, g2, g3, g4⟩, g5⟩ := c_copyFrame (a := 49 * o + ix ((r * 6) + k)) (b := y) hy hB1
  obtain ⟨i1, i2, i3⟩ := p_3 hk
  refine ⟨P', ⟨fun k' x j h1 h2 h3 => ?_, ?_, fun j hj => ?_, fun m m0 m1 j hj => ?_, g4⟩, fun post hp => ?_⟩
  · rw [g1 k' x j (fun q => q.elim h2 h3), vup_ne h1]
  · rw [g1 12 o _ (by omega), vup_eq]
  · rw [g2 j hj, kup_ne (by decide)]
  · rw [g3 m m0 m1 j hj, kup_ne (by decide)]
  · unfold F_X4_push
    refine br_f (z_nl2 hr.1) (br_t hr.2 ⟨hr, ?_⟩)
    rw [hn]
    refine br_t hk.2 ⟨hr, hr, fun P39 e => ?_⟩
    subst e
    unfold F_X4_latestOf
    refine c_height2 (n := k + 1) hr (vup_eq _ _ _ _ _) _ ?_
    rw [i1]
    exact c_frameAt2 (n := k + 1) hr (vup_eq _ _ _ _ _) i2 i3 _ (g5 _ hp)
