/-! two loops: the first of four places, the second of two, which may go on alone -/
theorem lr4_2 {A1 A2 A3 A4 B1 B2 ρ : Type} (f : (ρ → VP → Prop) → (A1 → A2 → A3 → A4 → Prop) → A1 → A2 → A3 → A4 → Prop) (g : (ρ → VP → Prop) → (B1 → B2 → Prop) → B1 → B2 → Prop) (I : A1 → A2 → A3 → A4 → B1 → B2 → Prop) (Fc : ρ → VP → VP → Prop) (μ : A1 → A2 → A3 → A4 → B1 → B2 → Nat)
    (hs : ∀ a1 a2 a3 a4 b1 b2, I a1 a2 a3 a4 b1 b2 → (∃ c1 c2 c3 c4 d1 d2, I c1 c2 c3 c4 d1 d2 ∧ μ c1 c2 c3 c4 d1 d2 < μ a1 a2 a3 a4 b1 b2 ∧ (∀ (p : ρ → VP → Prop) (X : A1 → A2 → A3 → A4 → Prop), X c1 c2 c3 c4 → f p X a1 a2 a3 a4) ∧ (∀ (p : ρ → VP → Prop) (X : B1 → B2 → Prop), X d1 d2 → g p X b1 b2)) ∨ (∃ d1 d2, I a1 a2 a3 a4 d1 d2 ∧ μ a1 a2 a3 a4 d1 d2 < μ a1 a2 a3 a4 b1 b2 ∧ (∀ (p : ρ → VP → Prop) (X : B1 → B2 → Prop), X d1 d2 → g p X b1 b2)) ∨ (∃ r P1 Q1, Fc r P1 Q1 ∧ (∀ (p : ρ → VP → Prop) (X : A1 → A2 → A3 → A4 → Prop), p r P1 → f p X a1 a2 a3 a4) ∧ (∀ (p : ρ → VP → Prop) (X : B1 → B2 → Prop), p r Q1 → g p X b1 b2))) {a1 : A1} {a2 : A2} {a3 : A3} {a4 : A4} {b1 : B1} {b2 : B2} (h : I a1 a2 a3 a4 b1 b2) : ∃ r P1 Q1, Fc r P1 Q1 ∧ Am (fun p => vL4 (f p) a1 a2 a3 a4) r P1 ∧ Am (fun p => vL2 (g p) b1 b2) r Q1 := by
  have key : ∀ m a1 a2 a3 a4 b1 b2, I a1 a2 a3 a4 b1 b2 → μ a1 a2 a3 a4 b1 b2 < m → ∃ r P1 Q1, Fc r P1 Q1 ∧ (∃ k, ∀ p : ρ → VP → Prop, p r P1 → vl4 (f p) k a1 a2 a3 a4) ∧ (∃ k, ∀ p : ρ → VP → Prop, p r Q1 → vl2 (g p) k b1 b2) := by
    intro m
    induction m with
    | zero => intro a1 a2 a3 a4 b1 b2 _ h; exact absurd h (Nat.not_lt_zero _)
    | succ m ih =>
      intro a1 a2 a3 a4 b1 b2 hI hm
      rcases hs a1 a2 a3 a4 b1 b2 hI with ⟨c1, c2, c3, c4, d1, d2, h1, h2, h3, h4⟩ | ⟨d1, d2, h1, h2, h4⟩ | ⟨r, P1, Q1, h1, h2, h3⟩
      · obtain ⟨r, P1, Q1, g1, ⟨k, g2⟩, ⟨k', g3⟩⟩ := ih c1 c2 c3 c4 d1 d2 h1 (by omega)
        exact ⟨r, P1, Q1, g1, ⟨k + 1, fun p hp => h3 p _ (g2 p hp)⟩, ⟨k' + 1, fun p hp => h4 p _ (g3 p hp)⟩⟩
      · obtain ⟨r, P1, Q1, g1, ⟨k, g2⟩, ⟨k', g3⟩⟩ := ih a1 a2 a3 a4 d1 d2 h1 (by omega)
        exact ⟨r, P1, Q1, g1, ⟨k, g2⟩, ⟨k' + 1, fun p hp => h4 p _ (g3 p hp)⟩⟩
      · exact ⟨r, P1, Q1, h1, ⟨1, fun p hp => h2 p _ hp⟩, ⟨1, fun p hp => h3 p _ hp⟩⟩
  obtain ⟨r, P1, Q1, g1, ⟨k, g2⟩, ⟨k', g3⟩⟩ := key _ a1 a2 a3 a4 b1 b2 h (Nat.lt_succ_self _)
  exact ⟨r, P1, Q1, g1, fun p hp => ⟨k, g2 p hp⟩, fun p hp => ⟨k', g3 p hp⟩⟩
