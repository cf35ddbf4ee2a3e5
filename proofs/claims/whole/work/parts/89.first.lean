/-! the relation at birth -/
theorem nI_ix {s : Int32} (h0 : 0 ≤ s) (h1 : s < 2147483647) : nI (ix s) = s := by
  have h2 : ix s < 2147483647 := ix_b (by decide) rfl h0 h1
  exact ix_inj (nI_pos' (by omega)) h0 (nI_clamp (by omega))
theorem all_nI {N : Int32} {n : Nat} {p : Int32 → Prop} (hN : Int32.ofNat n = N) (hn : n < 2147483647) (h : ∀ k, k < n → p (nI k)) {s : Int32} (h0 : 0 ≤ s) (h1 : s < N) : p s := by
  have h2 : ix s < n := ix_b (by omega) hN h0 h1
  have h3 : nI (ix s) = s := by
    exact ix_inj (nI_pos' (by omega)) h0 (nI_clamp (by omega))
  rw [← h3]
  exact h _ h2
theorem R0_D : RDI 23 Q0 := ⟨⟨by decide +kernel, by decide +kernel⟩, ⟨by decide +kernel, by decide +kernel⟩, fun d h1 h2 => absurd (show d < 1 from h2) (Int32.not_lt.mpr h1), fun d h0 h1 => all_nI (n := 8) (p := fun d => 0 ≤ Q0 23 0 (ix (24 + d)) ∧ Q0 23 0 (ix (24 + d)) ≤ 64) rfl (by decide) (by decide +kernel) h0 h1, fun d h0 h1 => by
    have h2 : 0 ≤ d := Int32.le_trans (by decide) (show (1 : Int32) ≤ d from h0)
    exact all_nI (n := 8) (p := fun d => 1 ≤ d → Q0 23 0 (ix (24 + d)) = 0) rfl (by decide) (by decide +kernel) h2 h1 h0, by decide +kernel, by decide +kernel⟩
theorem R0_M : RM 0 23 P0 Q0 := by
  refine ⟨⟨by decide +kernel, by decide +kernel, by decide +kernel, by decide +kernel, by decide +kernel, by decide +kernel⟩, ⟨by decide +kernel, by decide +kernel, by decide +kernel, fun j h0 h1 => ?_, fun d h0 h1 => ?_, R0_D⟩, fun s h0 h1 => ⟨?_, fun h => absurd h (show ¬ (0 : Int32) = 1 by decide)⟩, fun s w _ _ _ _ h => absurd h (show ¬ (0 : Int32) = 1 by decide), fun r h0 h1 => ?_⟩
  · exact all_nI (n := 4) (p := fun j => P0 5 0 (ix j) = Q0 23 0 (ix (7 + j))) rfl (by decide) (by decide +kernel) h0 h1
  · exact all_nI (n := 8) (p := fun d => P0 3 0 (ix d) = Q0 23 0 (ix (16 + d)) ∧ P0 4 0 (ix d) = Q0 23 0 (ix (24 + d))) rfl (by decide) (by decide +kernel) h0 h1
  · exact all_nI (n := 16) (p := fun s => (0 : Int32) = Q0 23 0 (ix (32 + s))) rfl (by decide) (by decide +kernel) h0 h1
  · have h2 : Q0 23 0 (ix (192 + r)) = 0 := all_nI (n := 8) (p := fun r => Q0 23 0 (ix (192 + r)) = 0) rfl (by decide) (by decide +kernel) h0 h1
    rw [h2]
    exact ⟨rfl, ⟨by decide, by decide⟩, fun k g0 g1 => absurd g1 (Int32.not_lt.mpr g0)⟩
theorem RR0 : RR P0 Q0 := ⟨⟨fun _ => Or.inl rfl, fun _ => ⟨show (0 : Int32) ≤ 0 by decide, show (0 : Int32) ≤ 24 by decide⟩, fun _ _ _ _ _ => ⟨rfl, rfl, rfl⟩, fun _ => Or.inl rfl, fun _ => Or.inl rfl, fun _ => show (0 : Int32) ≤ 0 by decide⟩, R0_M, ⟨rfl, Or.inl rfl, rfl⟩, fun h => absurd h (show ¬ (0 : Int32) = 1 by decide), rfl, ⟨show (0 : Int32) ≤ 0 by decide, show (0 : Int32) ≤ 120 by decide⟩, fun j h0 h1 => absurd (show j < 0 from h1) (Int32.not_lt.mpr h0)⟩
