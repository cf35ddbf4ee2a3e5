/-! image, back -/
theorem D_image {P Q : VP} (h : RR P Q) : ∃ r P1 Q1, RR P1 Q1 ∧ Am (F_X7_image P) r P1 ∧ Am (F_X8_image Q) r Q1 := by
  obtain ⟨hB, hM, ⟨t1, t2, t3⟩, hK, r1, r2, r3⟩ := id h
  obtain ⟨P8, ⟨c1, c2, c3⟩, c4⟩ := c_copyMachine (o := 1) (by decide) hB hM
  obtain ⟨Q8, ⟨z1, z2⟩, z3⟩ := m_copies (k0 := 23) (k1 := 25) (Q := Q) (by decide) rfl rfl
  have hP : ∀ k x j, ¬ (own k x = 1 ∧ 1 ≤ k ∧ k ≤ 16) → ¬ k = 0 → vup P8 0 0 4 1 k x j = P k x j := fun k x j a b => by
    rw [kup_ne b]; exact c1 k x j a
  have hQ : ∀ k x j, ¬ k = 25 → ¬ (k = 22 ∧ j = 3) → vup Q8 22 0 3 1 k x j = Q k x j := fun k x j a b => by
    rw [vup_ne (by omega)]; exact z1 k x j a
  have hM0 : RM 0 23 (vup P8 0 0 4 1) (vup Q8 22 0 3 1) := RM_oth hM (fun k x j a b c => hP k x j (by omega) (by omega)) (fun j => hQ 23 0 j (by decide) (by omega))
  have hM1 : RM 1 25 (vup P8 0 0 4 1) (vup Q8 22 0 3 1) := RM_oth (RM_arr c3 z2) (fun k x j _ b _ => kup_ne (by omega)) (fun j => kup_ne (by decide))
  have hBB : BI (vup P8 0 0 4 1) := BI_eq' c2 (fun k x j a _ => kup_ne (by omega))
  have hR : RR (vup P8 0 0 4 1) (vup Q8 22 0 3 1) := by
    refine ⟨hBB, hM0, ⟨?_, ?_, ?_⟩, fun _ => hM1, ?_, ?_, fun j j0 j1 => ?_⟩
    · rw [vup_eq, vup_eq]
    · rw [vup_eq]; exact Or.inr rfl
    · rw [vup_ne (by omega), c1 0 0 5 (by omega), hQ 22 0 4 (by decide) (by decide)]; exact t3
    · rw [hP 17 0 1 (by omega) (by decide), hQ 22 0 6 (by decide) (by decide)]; exact r1
    · rw [hQ 22 0 6 (by decide) (by decide)]; exact r2
    · rw [hQ 22 0 6 (by decide) (by decide)] at j1
      rw [hP 18 0 _ (by omega) (by decide), hQ 26 0 _ (by decide) (by omega)]; exact r3 j j0 j1
  obtain ⟨r, -, s1, s2⟩ := d_segs hM0.2.2.1 hBB
  refine ⟨r, vup P8 0 0 4 1, vup Q8 22 0 3 1, hR, fun p hp => ?_, fun p hp => ?_⟩
  · unfold F_X7_image
    exact c4 _ (fun P13 e => by rw [e]; exact s1 _ hp)
  · unfold F_X8_image
    exact z3 _ (fun Q13 e => by rw [e]; exact s2 _ hp)
theorem D_back {P Q : VP} (h : RR P Q) : ∃ r P1 Q1, RR P1 Q1 ∧ Am (F_X7_back P) r P1 ∧ Am (F_X8_back Q) r Q1 := by
  obtain ⟨hB, hM, ⟨t1, t2, t3⟩, hK, r1, r2, r3⟩ := id h
  by_cases h0 : P 0 0 4 = 0
  · refine ⟨-5, P, Q, h, fun p hp => ?_, fun p hp => ?_⟩
    · unfold F_X7_back
      exact br_t h0 hp
    · unfold F_X8_back
      exact br_t (by rw [← t1]; exact h0) hp
  · have h1 : P 0 0 4 = 1 := t2.resolve_left h0
    obtain ⟨P8, ⟨c1, c2, c3⟩, c4⟩ := c_copyMachine (o := 0) (by decide) hB (hK h1)
    obtain ⟨Q8, ⟨z1, z2⟩, z3⟩ := m_copies (k0 := 25) (k1 := 23) (Q := Q) (by decide) rfl rfl
    have hM0 : RM 0 23 P8 Q8 := RM_arr c3 z2
    have hM1 : RM 1 25 P8 Q8 := RM_oth (hK h1) (fun k x j a _ _ => c1 k x j (by omega)) (fun j => z1 25 0 j (by decide))
    have hR : RR P8 Q8 := by
      refine ⟨c2, hM0, ⟨?_, ?_, ?_⟩, fun _ => hM1, ?_, ?_, fun j j0 j1 => ?_⟩
      · rw [c1 0 0 4 (by omega), z1 22 0 3 (by decide)]; exact t1
      · rw [c1 0 0 4 (by omega)]; exact t2
      · rw [c1 0 0 5 (by omega), z1 22 0 4 (by decide)]; exact t3
      · rw [c1 17 0 1 (by omega), z1 22 0 6 (by decide)]; exact r1
      · rw [z1 22 0 6 (by decide)]; exact r2
      · rw [z1 22 0 6 (by decide)] at j1
        rw [c1 18 0 _ (by omega), z1 26 0 _ (by decide)]; exact r3 j j0 j1
    obtain ⟨r, -, s1, s2⟩ := d_segs hM0.2.2.1 c2
    refine ⟨r, P8, Q8, hR, fun p hp => ?_, fun p hp => ?_⟩
    · unfold F_X7_back
      exact br_f h0 (c4 _ (s1 _ hp))
    · unfold F_X8_back
      exact br_f (by rw [← t1]; exact h0) (z3 _ (s2 _ hp))
