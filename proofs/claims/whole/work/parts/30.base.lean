/-! plain facts -/
theorem fa_lt (a b : Int32) : a < b ↔ a.toInt < b.toInt := Int32.lt_iff_toInt_lt
theorem fa_le (a b : Int32) : a ≤ b ↔ a.toInt ≤ b.toInt := Int32.le_iff_toInt_le
theorem fa_lt64 (a b : Int64) : a < b ↔ a.toInt < b.toInt := Int64.lt_iff_toInt_lt
theorem fa_wide_lt (a b : Int32) : a.toInt64 < b.toInt64 ↔ a < b := by rw [fa_lt64, fa_lt, Int32.toInt_toInt64, Int32.toInt_toInt64]
theorem fa_wide_eq (a b : Int32) : a.toInt64 = b.toInt64 ↔ a = b := by
  constructor
  · intro h
    have h1 := congrArg Int64.toInt h
    rw [Int32.toInt_toInt64, Int32.toInt_toInt64] at h1
    exact Int32.toInt_inj.mp h1
  · rintro rfl; rfl
theorem lgc_lt (a b : Int32) : lg_cmp a.toInt64 b.toInt64 < 0 ↔ a < b := by
  unfold lg_cmp
  by_cases h1 : b < a
  · rw [if_pos (show a.toInt64 > b.toInt64 from (fa_wide_lt b a).mpr h1)]
    exact ⟨fun h => absurd h (by decide), fun h => absurd h (by lia)⟩
  · rw [if_neg (show ¬ a.toInt64 > b.toInt64 from fun q => h1 ((fa_wide_lt b a).mp q))]
    by_cases h2 : a = b
    · rw [if_pos ((fa_wide_eq a b).mpr h2)]
      exact ⟨fun h => absurd h (by decide), fun h => absurd h (by lia)⟩
    · rw [if_neg (fun q => h2 ((fa_wide_eq a b).mp q))]
      exact ⟨fun _ => by lia, fun _ => by decide⟩
theorem lgc_gt (a b : Int32) : 0 < lg_cmp a.toInt64 b.toInt64 ↔ b < a := by
  unfold lg_cmp
  by_cases h1 : b < a
  · rw [if_pos (show a.toInt64 > b.toInt64 from (fa_wide_lt b a).mpr h1)]
    exact ⟨fun _ => h1, fun _ => by decide⟩
  · rw [if_neg (show ¬ a.toInt64 > b.toInt64 from fun q => h1 ((fa_wide_lt b a).mp q))]
    by_cases h2 : a = b
    · rw [if_pos ((fa_wide_eq a b).mpr h2)]
      exact ⟨fun h => absurd h (by decide), fun h => absurd h h1⟩
    · rw [if_neg (fun q => h2 ((fa_wide_eq a b).mp q))]
      exact ⟨fun h => absurd h (by decide), fun h => absurd h h1⟩
theorem ix_inj {a b : Int32} (ha : 0 ≤ a) (hb : 0 ≤ b) (h : ix a = ix b) : a = b := by
  have h1 := Int32.le_iff_toInt_le.mp ha
  have h2 := Int32.le_iff_toInt_le.mp hb
  have h3 : a.toInt.toNat = b.toInt.toNat := h
  exact Int32.toInt_inj.mp (by simp at h1 h2; omega)
theorem ix_ne {a b : Int32} (ha : 0 ≤ a) (hb : 0 ≤ b) (h : ¬ a = b) : ¬ ix a = ix b := fun q => h (ix_inj ha hb q)
theorem ix_lt {a b : Int32} (ha : 0 ≤ a) (h : a < b) : ix a < ix b := by
  have h1 := Int32.le_iff_toInt_le.mp ha
  have h2 := Int32.lt_iff_toInt_lt.mp h
  show a.toInt.toNat < b.toInt.toNat
  simp at h1
  omega
theorem ix_lt' {a b : Int32} (hb : 0 < b) (h : a < b) : ix a < ix b := by
  have h1 := Int32.lt_iff_toInt_lt.mp hb
  have h2 := Int32.lt_iff_toInt_lt.mp h
  show a.toInt.toNat < b.toInt.toNat
  simp at h1
  omega
theorem ix_b {a : Int32} {n : Nat} {N : Int32} (hn : n < 2147483648) (hN : Int32.ofNat n = N) (ha : 0 ≤ a) (h : a < N) : ix a < n := vin_lt (vin_of hN hn ⟨ha, h⟩)
theorem vup_eq (P : VP) (k x j : Nat) (v : Int32) : vup P k x j v k x j = v := by simp [vup]
theorem vup_ne {P : VP} {k x j k' x' j' : Nat} {v : Int32} (h : ¬ (k' = k ∧ x' = x ∧ j' = j)) : vup P k x j v k' x' j' = P k' x' j' := by unfold vup; rw [if_neg h]
/-- another place of the same array -/
theorem qup_ne {P : VP} {k x : Nat} {a b v : Int32} (ha : 0 ≤ a) (hb : 0 ≤ b) (h : ¬ b = a) : vup P k x (ix a) v k x (ix b) = P k x (ix b) := vup_ne (fun q => ix_ne hb ha h q.2.2)
theorem kup_ne {P : VP} {k x j k' x' j' : Nat} {v : Int32} (h : ¬ k' = k) : vup P k x j v k' x' j' = P k' x' j' := vup_ne (fun q => h q.1)
theorem xup_ne {P : VP} {k x j k' x' j' : Nat} {v : Int32} (h : ¬ x' = x) : vup P k x j v k' x' j' = P k' x' j' := vup_ne (fun q => h q.2.1)
/-! the answer of a function in CPS -/
def An {ρ : Type} (F : (ρ → Prop) → Prop) (r : ρ) : Prop := ∀ p : ρ → Prop, p r → F p
def Am {ρ : Type} (F : (ρ → VP → Prop) → Prop) (r : ρ) (P : VP) : Prop := ∀ p : ρ → VP → Prop, p r P → F p
theorem m_in (x lo hi : Int32) (Q : VP) {p : Int32 → Prop} (h1 : lo ≤ x ∧ x ≤ hi → p 1) (h0 : ¬ (lo ≤ x ∧ x ≤ hi) → p 0) : F_X8_in x.toInt64 lo.toInt64 hi.toInt64 Q p := by
  unfold F_X8_in
  rw [lgc_lt, lgc_gt]
  refine ⟨fun h => h0 (by lia), fun h => ⟨fun h2 => h0 (by lia), fun h2 => h1 (by lia)⟩⟩
theorem m_inT {x lo hi : Int32} {Q : VP} (h : lo ≤ x ∧ x ≤ hi) : An (F_X8_in x.toInt64 lo.toInt64 hi.toInt64 Q) 1 := fun _ hp => m_in x lo hi Q (fun _ => hp) (fun q => absurd h q)
theorem m_inF {x lo hi : Int32} {Q : VP} (h : ¬ (lo ≤ x ∧ x ≤ hi)) : An (F_X8_in x.toInt64 lo.toInt64 hi.toInt64 Q) 0 := fun _ hp => m_in x lo hi Q (fun q => absurd q h) (fun _ => hp)
/-! loops in step -/
theorem lk1 {A1 ρ : Type} (b : (ρ → Prop) → (A1 → Prop) → A1 → Prop) (I : A1 → Prop) (Fc : ρ → Prop) (μ : A1 → Nat)
    (hs : ∀ a1, I a1 → (∃ c1, I c1 ∧ μ c1 < μ a1 ∧ ∀ (p : ρ → Prop) (X : A1 → Prop), X c1 → b p X a1) ∨ (∃ r, Fc r ∧ ∀ (p : ρ → Prop) (X : A1 → Prop), p r → b p X a1)) {a1 : A1} (h : I a1) : ∃ r, Fc r ∧ An (fun p => vL1 (b p) a1) r := by
  have key : ∀ m a1, I a1 → μ a1 < m → ∃ r, Fc r ∧ ∀ p : ρ → Prop, p r → vl1 (b p) m a1 := by
    intro m
    induction m with
    | zero => intro a1 _ h; exact absurd h (Nat.not_lt_zero _)
    | succ m ih =>
      intro a1 hI hm
      rcases hs a1 hI with ⟨c1, h1, h2, h3⟩ | ⟨r, h1, h2⟩
      · obtain ⟨r, g1, g2⟩ := ih c1 h1 (by omega)
        exact ⟨r, g1, fun p hp => h3 p _ (g2 p hp)⟩
      · exact ⟨r, h1, fun p hp => h2 p _ hp⟩
  obtain ⟨r, g1, g2⟩ := key (μ a1 + 1) a1 h (Nat.lt_succ_self _)
  exact ⟨r, g1, fun p hp => ⟨_, g2 p hp⟩⟩
theorem lk2 {A1 A2 ρ : Type} (b : (ρ → Prop) → (A1 → A2 → Prop) → A1 → A2 → Prop) (I : A1 → A2 → Prop) (Fc : ρ → Prop) (μ : A1 → A2 → Nat)
    (hs : ∀ a1 a2, I a1 a2 → (∃ c1 c2, I c1 c2 ∧ μ c1 c2 < μ a1 a2 ∧ ∀ (p : ρ → Prop) (X : A1 → A2 → Prop), X c1 c2 → b p X a1 a2) ∨ (∃ r, Fc r ∧ ∀ (p : ρ → Prop) (X : A1 → A2 → Prop), p r → b p X a1 a2)) {a1 : A1} {a2 : A2} (h : I a1 a2) : ∃ r, Fc r ∧ An (fun p => vL2 (b p) a1 a2) r := by
  have key : ∀ m a1 a2, I a1 a2 → μ a1 a2 < m → ∃ r, Fc r ∧ ∀ p : ρ → Prop, p r → vl2 (b p) m a1 a2 := by
    intro m
    induction m with
    | zero => intro a1 a2 _ h; exact absurd h (Nat.not_lt_zero _)
    | succ m ih =>
      intro a1 a2 hI hm
      rcases hs a1 a2 hI with ⟨c1, c2, h1, h2, h3⟩ | ⟨r, h1, h2⟩
      · obtain ⟨r, g1, g2⟩ := ih c1 c2 h1 (by omega)
        exact ⟨r, g1, fun p hp => h3 p _ (g2 p hp)⟩
      · exact ⟨r, h1, fun p hp => h2 p _ hp⟩
  obtain ⟨r, g1, g2⟩ := key (μ a1 a2 + 1) a1 a2 h (Nat.lt_succ_self _)
  exact ⟨r, g1, fun p hp => ⟨_, g2 p hp⟩⟩
theorem lk3 {A1 A2 A3 ρ : Type} (b : (ρ → Prop) → (A1 → A2 → A3 → Prop) → A1 → A2 → A3 → Prop) (I : A1 → A2 → A3 → Prop) (Fc : ρ → Prop) (μ : A1 → A2 → A3 → Nat)
    (hs : ∀ a1 a2 a3, I a1 a2 a3 → (∃ c1 c2 c3, I c1 c2 c3 ∧ μ c1 c2 c3 < μ a1 a2 a3 ∧ ∀ (p : ρ → Prop) (X : A1 → A2 → A3 → Prop), X c1 c2 c3 → b p X a1 a2 a3) ∨ (∃ r, Fc r ∧ ∀ (p : ρ → Prop) (X : A1 → A2 → A3 → Prop), p r → b p X a1 a2 a3)) {a1 : A1} {a2 : A2} {a3 : A3} (h : I a1 a2 a3) : ∃ r, Fc r ∧ An (fun p => vL3 (b p) a1 a2 a3) r := by
  have key : ∀ m a1 a2 a3, I a1 a2 a3 → μ a1 a2 a3 < m → ∃ r, Fc r ∧ ∀ p : ρ → Prop, p r → vl3 (b p) m a1 a2 a3 := by
    intro m
    induction m with
    | zero => intro a1 a2 a3 _ h; exact absurd h (Nat.not_lt_zero _)
    | succ m ih =>
      intro a1 a2 a3 hI hm
      rcases hs a1 a2 a3 hI with ⟨c1, c2, c3, h1, h2, h3⟩ | ⟨r, h1, h2⟩
      · obtain ⟨r, g1, g2⟩ := ih c1 c2 c3 h1 (by omega)
        exact ⟨r, g1, fun p hp => h3 p _ (g2 p hp)⟩
      · exact ⟨r, h1, fun p hp => h2 p _ hp⟩
  obtain ⟨r, g1, g2⟩ := key (μ a1 a2 a3 + 1) a1 a2 a3 h (Nat.lt_succ_self _)
  exact ⟨r, g1, fun p hp => ⟨_, g2 p hp⟩⟩
theorem lk4 {A1 A2 A3 A4 ρ : Type} (b : (ρ → Prop) → (A1 → A2 → A3 → A4 → Prop) → A1 → A2 → A3 → A4 → Prop) (I : A1 → A2 → A3 → A4 → Prop) (Fc : ρ → Prop) (μ : A1 → A2 → A3 → A4 → Nat)
    (hs : ∀ a1 a2 a3 a4, I a1 a2 a3 a4 → (∃ c1 c2 c3 c4, I c1 c2 c3 c4 ∧ μ c1 c2 c3 c4 < μ a1 a2 a3 a4 ∧ ∀ (p : ρ → Prop) (X : A1 → A2 → A3 → A4 → Prop), X c1 c2 c3 c4 → b p X a1 a2 a3 a4) ∨ (∃ r, Fc r ∧ ∀ (p : ρ → Prop) (X : A1 → A2 → A3 → A4 → Prop), p r → b p X a1 a2 a3 a4)) {a1 : A1} {a2 : A2} {a3 : A3} {a4 : A4} (h : I a1 a2 a3 a4) : ∃ r, Fc r ∧ An (fun p => vL4 (b p) a1 a2 a3 a4) r := by
  have key : ∀ m a1 a2 a3 a4, I a1 a2 a3 a4 → μ a1 a2 a3 a4 < m → ∃ r, Fc r ∧ ∀ p : ρ → Prop, p r → vl4 (b p) m a1 a2 a3 a4 := by
    intro m
    induction m with
    | zero => intro a1 a2 a3 a4 _ h; exact absurd h (Nat.not_lt_zero _)
    | succ m ih =>
      intro a1 a2 a3 a4 hI hm
      rcases hs a1 a2 a3 a4 hI with ⟨c1, c2, c3, c4, h1, h2, h3⟩ | ⟨r, h1, h2⟩
      · obtain ⟨r, g1, g2⟩ := ih c1 c2 c3 c4 h1 (by omega)
        exact ⟨r, g1, fun p hp => h3 p _ (g2 p hp)⟩
      · exact ⟨r, h1, fun p hp => h2 p _ hp⟩
  obtain ⟨r, g1, g2⟩ := key (μ a1 a2 a3 a4 + 1) a1 a2 a3 a4 h (Nat.lt_succ_self _)
  exact ⟨r, g1, fun p hp => ⟨_, g2 p hp⟩⟩
theorem lk1_1 {A1 B1 ρ : Type} (f : (ρ → Prop) → (A1 → Prop) → A1 → Prop) (g : (ρ → Prop) → (B1 → Prop) → B1 → Prop) (I : A1 → B1 → Prop) (Fc : ρ → Prop) (μ : A1 → Nat)
    (hs : ∀ a1 b1, I a1 b1 → (∃ c1 d1, I c1 d1 ∧ μ c1 < μ a1 ∧ (∀ (p : (ρ → Prop)) (X : A1 → Prop), X c1 → f p X a1) ∧ (∀ (p : (ρ → Prop)) (X : B1 → Prop), X d1 → g p X b1)) ∨ (∃ r, Fc r ∧ (∀ (p : (ρ → Prop)) (X : A1 → Prop), p r → f p X a1) ∧ (∀ (p : (ρ → Prop)) (X : B1 → Prop), p r → g p X b1))) {a1 : A1} {b1 : B1} (h : I a1 b1) : ∃ r, Fc r ∧ An (fun p => vL1 (f p) a1) r ∧ An (fun p => vL1 (g p) b1) r := by
  have key : ∀ k a1 b1, I a1 b1 → μ a1 < k → ∃ r, Fc r ∧ (∀ p : (ρ → Prop), p r → vl1 (f p) k a1) ∧ (∀ p : (ρ → Prop), p r → vl1 (g p) k b1) := by
    intro k
    induction k with
    | zero => intro a1 b1 _ h; exact absurd h (Nat.not_lt_zero _)
    | succ k ih =>
      intro a1 b1 hI hm
      rcases hs a1 b1 hI with ⟨c1, d1, h1, h2, h3, h4⟩ | ⟨r, h1, h2, h3⟩
      · obtain ⟨r, g1, g2, g3⟩ := ih c1 d1 h1 (by omega)
        exact ⟨r, g1, fun p hp => h3 p _ (g2 p hp), fun p hp => h4 p _ (g3 p hp)⟩
      · exact ⟨r, h1, fun p hp => h2 p _ hp, fun p hp => h3 p _ hp⟩
  obtain ⟨r, g1, g2, g3⟩ := key (μ a1 + 1) a1 b1 h (Nat.lt_succ_self _)
  exact ⟨r, g1, fun p hp => ⟨_, g2 p hp⟩, fun p hp => ⟨_, g3 p hp⟩⟩
theorem lk2_2 {A1 A2 B1 B2 ρ : Type} (f : (ρ → Prop) → (A1 → A2 → Prop) → A1 → A2 → Prop) (g : (ρ → Prop) → (B1 → B2 → Prop) → B1 → B2 → Prop) (I : A1 → A2 → B1 → B2 → Prop) (Fc : ρ → Prop) (μ : A1 → A2 → Nat)
    (hs : ∀ a1 a2 b1 b2, I a1 a2 b1 b2 → (∃ c1 c2 d1 d2, I c1 c2 d1 d2 ∧ μ c1 c2 < μ a1 a2 ∧ (∀ (p : (ρ → Prop)) (X : A1 → A2 → Prop), X c1 c2 → f p X a1 a2) ∧ (∀ (p : (ρ → Prop)) (X : B1 → B2 → Prop), X d1 d2 → g p X b1 b2)) ∨ (∃ r, Fc r ∧ (∀ (p : (ρ → Prop)) (X : A1 → A2 → Prop), p r → f p X a1 a2) ∧ (∀ (p : (ρ → Prop)) (X : B1 → B2 → Prop), p r → g p X b1 b2))) {a1 : A1} {a2 : A2} {b1 : B1} {b2 : B2} (h : I a1 a2 b1 b2) : ∃ r, Fc r ∧ An (fun p => vL2 (f p) a1 a2) r ∧ An (fun p => vL2 (g p) b1 b2) r := by
  have key : ∀ k a1 a2 b1 b2, I a1 a2 b1 b2 → μ a1 a2 < k → ∃ r, Fc r ∧ (∀ p : (ρ → Prop), p r → vl2 (f p) k a1 a2) ∧ (∀ p : (ρ → Prop), p r → vl2 (g p) k b1 b2) := by
    intro k
    induction k with
    | zero => intro a1 a2 b1 b2 _ h; exact absurd h (Nat.not_lt_zero _)
    | succ k ih =>
      intro a1 a2 b1 b2 hI hm
      rcases hs a1 a2 b1 b2 hI with ⟨c1, c2, d1, d2, h1, h2, h3, h4⟩ | ⟨r, h1, h2, h3⟩
      · obtain ⟨r, g1, g2, g3⟩ := ih c1 c2 d1 d2 h1 (by omega)
        exact ⟨r, g1, fun p hp => h3 p _ (g2 p hp), fun p hp => h4 p _ (g3 p hp)⟩
      · exact ⟨r, h1, fun p hp => h2 p _ hp, fun p hp => h3 p _ hp⟩
  obtain ⟨r, g1, g2, g3⟩ := key (μ a1 a2 + 1) a1 a2 b1 b2 h (Nat.lt_succ_self _)
  exact ⟨r, g1, fun p hp => ⟨_, g2 p hp⟩, fun p hp => ⟨_, g3 p hp⟩⟩
theorem lk1_2 {A1 B1 B2 ρ : Type} (f : (ρ → Prop) → (A1 → Prop) → A1 → Prop) (g : (ρ → Prop) → (B1 → B2 → Prop) → B1 → B2 → Prop) (I : A1 → B1 → B2 → Prop) (Fc : ρ → Prop) (μ : A1 → Nat)
    (hs : ∀ a1 b1 b2, I a1 b1 b2 → (∃ c1 d1 d2, I c1 d1 d2 ∧ μ c1 < μ a1 ∧ (∀ (p : (ρ → Prop)) (X : A1 → Prop), X c1 → f p X a1) ∧ (∀ (p : (ρ → Prop)) (X : B1 → B2 → Prop), X d1 d2 → g p X b1 b2)) ∨ (∃ r, Fc r ∧ (∀ (p : (ρ → Prop)) (X : A1 → Prop), p r → f p X a1) ∧ (∀ (p : (ρ → Prop)) (X : B1 → B2 → Prop), p r → g p X b1 b2))) {a1 : A1} {b1 : B1} {b2 : B2} (h : I a1 b1 b2) : ∃ r, Fc r ∧ An (fun p => vL1 (f p) a1) r ∧ An (fun p => vL2 (g p) b1 b2) r := by
  have key : ∀ k a1 b1 b2, I a1 b1 b2 → μ a1 < k → ∃ r, Fc r ∧ (∀ p : (ρ → Prop), p r → vl1 (f p) k a1) ∧ (∀ p : (ρ → Prop), p r → vl2 (g p) k b1 b2) := by
    intro k
    induction k with
    | zero => intro a1 b1 b2 _ h; exact absurd h (Nat.not_lt_zero _)
    | succ k ih =>
      intro a1 b1 b2 hI hm
      rcases hs a1 b1 b2 hI with ⟨c1, d1, d2, h1, h2, h3, h4⟩ | ⟨r, h1, h2, h3⟩
      · obtain ⟨r, g1, g2, g3⟩ := ih c1 d1 d2 h1 (by omega)
        exact ⟨r, g1, fun p hp => h3 p _ (g2 p hp), fun p hp => h4 p _ (g3 p hp)⟩
      · exact ⟨r, h1, fun p hp => h2 p _ hp, fun p hp => h3 p _ hp⟩
  obtain ⟨r, g1, g2, g3⟩ := key (μ a1 + 1) a1 b1 b2 h (Nat.lt_succ_self _)
  exact ⟨r, g1, fun p hp => ⟨_, g2 p hp⟩, fun p hp => ⟨_, g3 p hp⟩⟩
theorem lk2_1 {A1 A2 B1 ρ : Type} (f : (ρ → Prop) → (A1 → A2 → Prop) → A1 → A2 → Prop) (g : (ρ → Prop) → (B1 → Prop) → B1 → Prop) (I : A1 → A2 → B1 → Prop) (Fc : ρ → Prop) (μ : A1 → A2 → Nat)
    (hs : ∀ a1 a2 b1, I a1 a2 b1 → (∃ c1 c2 d1, I c1 c2 d1 ∧ μ c1 c2 < μ a1 a2 ∧ (∀ (p : (ρ → Prop)) (X : A1 → A2 → Prop), X c1 c2 → f p X a1 a2) ∧ (∀ (p : (ρ → Prop)) (X : B1 → Prop), X d1 → g p X b1)) ∨ (∃ r, Fc r ∧ (∀ (p : (ρ → Prop)) (X : A1 → A2 → Prop), p r → f p X a1 a2) ∧ (∀ (p : (ρ → Prop)) (X : B1 → Prop), p r → g p X b1))) {a1 : A1} {a2 : A2} {b1 : B1} (h : I a1 a2 b1) : ∃ r, Fc r ∧ An (fun p => vL2 (f p) a1 a2) r ∧ An (fun p => vL1 (g p) b1) r := by
  have key : ∀ k a1 a2 b1, I a1 a2 b1 → μ a1 a2 < k → ∃ r, Fc r ∧ (∀ p : (ρ → Prop), p r → vl2 (f p) k a1 a2) ∧ (∀ p : (ρ → Prop), p r → vl1 (g p) k b1) := by
    intro k
    induction k with
    | zero => intro a1 a2 b1 _ h; exact absurd h (Nat.not_lt_zero _)
    | succ k ih =>
      intro a1 a2 b1 hI hm
      rcases hs a1 a2 b1 hI with ⟨c1, c2, d1, h1, h2, h3, h4⟩ | ⟨r, h1, h2, h3⟩
      · obtain ⟨r, g1, g2, g3⟩ := ih c1 c2 d1 h1 (by omega)
        exact ⟨r, g1, fun p hp => h3 p _ (g2 p hp), fun p hp => h4 p _ (g3 p hp)⟩
      · exact ⟨r, h1, fun p hp => h2 p _ hp, fun p hp => h3 p _ hp⟩
  obtain ⟨r, g1, g2, g3⟩ := key (μ a1 a2 + 1) a1 a2 b1 h (Nat.lt_succ_self _)
  exact ⟨r, g1, fun p hp => ⟨_, g2 p hp⟩, fun p hp => ⟨_, g3 p hp⟩⟩
theorem lq2_2 {A1 A2 B1 B2 ρ : Type} (f : (ρ → VP → Prop) → (A1 → A2 → Prop) → A1 → A2 → Prop) (g : (ρ → VP → Prop) → (B1 → B2 → Prop) → B1 → B2 → Prop) (I : A1 → A2 → B1 → B2 → Prop) (Fc : ρ → VP → VP → Prop) (μ : A1 → A2 → Nat)
    (hs : ∀ a1 a2 b1 b2, I a1 a2 b1 b2 → (∃ c1 c2 d1 d2, I c1 c2 d1 d2 ∧ μ c1 c2 < μ a1 a2 ∧ (∀ (p : (ρ → VP → Prop)) (X : A1 → A2 → Prop), X c1 c2 → f p X a1 a2) ∧ (∀ (p : (ρ → VP → Prop)) (X : B1 → B2 → Prop), X d1 d2 → g p X b1 b2)) ∨ (∃ r P1 Q1, Fc r P1 Q1 ∧ (∀ (p : (ρ → VP → Prop)) (X : A1 → A2 → Prop), p r P1 → f p X a1 a2) ∧ (∀ (p : (ρ → VP → Prop)) (X : B1 → B2 → Prop), p r Q1 → g p X b1 b2))) {a1 : A1} {a2 : A2} {b1 : B1} {b2 : B2} (h : I a1 a2 b1 b2) : ∃ r P1 Q1, Fc r P1 Q1 ∧ Am (fun p => vL2 (f p) a1 a2) r P1 ∧ Am (fun p => vL2 (g p) b1 b2) r Q1 := by
  have key : ∀ k a1 a2 b1 b2, I a1 a2 b1 b2 → μ a1 a2 < k → ∃ r P1 Q1, Fc r P1 Q1 ∧ (∀ p : (ρ → VP → Prop), p r P1 → vl2 (f p) k a1 a2) ∧ (∀ p : (ρ → VP → Prop), p r Q1 → vl2 (g p) k b1 b2) := by
    intro k
    induction k with
    | zero => intro a1 a2 b1 b2 _ h; exact absurd h (Nat.not_lt_zero _)
    | succ k ih =>
      intro a1 a2 b1 b2 hI hm
      rcases hs a1 a2 b1 b2 hI with ⟨c1, c2, d1, d2, h1, h2, h3, h4⟩ | ⟨r, P1, Q1, h1, h2, h3⟩
      · obtain ⟨r, P1, Q1, g1, g2, g3⟩ := ih c1 c2 d1 d2 h1 (by omega)
        exact ⟨r, P1, Q1, g1, fun p hp => h3 p _ (g2 p hp), fun p hp => h4 p _ (g3 p hp)⟩
      · exact ⟨r, P1, Q1, h1, fun p hp => h2 p _ hp, fun p hp => h3 p _ hp⟩
  obtain ⟨r, P1, Q1, g1, g2, g3⟩ := key (μ a1 a2 + 1) a1 a2 b1 b2 h (Nat.lt_succ_self _)
  exact ⟨r, P1, Q1, g1, fun p hp => ⟨_, g2 p hp⟩, fun p hp => ⟨_, g3 p hp⟩⟩
theorem lq3_3 {A1 A2 A3 B1 B2 B3 ρ : Type} (f : (ρ → VP → Prop) → (A1 → A2 → A3 → Prop) → A1 → A2 → A3 → Prop) (g : (ρ → VP → Prop) → (B1 → B2 → B3 → Prop) → B1 → B2 → B3 → Prop) (I : A1 → A2 → A3 → B1 → B2 → B3 → Prop) (Fc : ρ → VP → VP → Prop) (μ : A1 → A2 → A3 → Nat)
    (hs : ∀ a1 a2 a3 b1 b2 b3, I a1 a2 a3 b1 b2 b3 → (∃ c1 c2 c3 d1 d2 d3, I c1 c2 c3 d1 d2 d3 ∧ μ c1 c2 c3 < μ a1 a2 a3 ∧ (∀ (p : (ρ → VP → Prop)) (X : A1 → A2 → A3 → Prop), X c1 c2 c3 → f p X a1 a2 a3) ∧ (∀ (p : (ρ → VP → Prop)) (X : B1 → B2 → B3 → Prop), X d1 d2 d3 → g p X b1 b2 b3)) ∨ (∃ r P1 Q1, Fc r P1 Q1 ∧ (∀ (p : (ρ → VP → Prop)) (X : A1 → A2 → A3 → Prop), p r P1 → f p X a1 a2 a3) ∧ (∀ (p : (ρ → VP → Prop)) (X : B1 → B2 → B3 → Prop), p r Q1 → g p X b1 b2 b3))) {a1 : A1} {a2 : A2} {a3 : A3} {b1 : B1} {b2 : B2} {b3 : B3} (h : I a1 a2 a3 b1 b2 b3) : ∃ r P1 Q1, Fc r P1 Q1 ∧ Am (fun p => vL3 (f p) a1 a2 a3) r P1 ∧ Am (fun p => vL3 (g p) b1 b2 b3) r Q1 := by
  have key : ∀ k a1 a2 a3 b1 b2 b3, I a1 a2 a3 b1 b2 b3 → μ a1 a2 a3 < k → ∃ r P1 Q1, Fc r P1 Q1 ∧ (∀ p : (ρ → VP → Prop), p r P1 → vl3 (f p) k a1 a2 a3) ∧ (∀ p : (ρ → VP → Prop), p r Q1 → vl3 (g p) k b1 b2 b3) := by
    intro k
    induction k with
    | zero => intro a1 a2 a3 b1 b2 b3 _ h; exact absurd h (Nat.not_lt_zero _)
    | succ k ih =>
      intro a1 a2 a3 b1 b2 b3 hI hm
      rcases hs a1 a2 a3 b1 b2 b3 hI with ⟨c1, c2, c3, d1, d2, d3, h1, h2, h3, h4⟩ | ⟨r, P1, Q1, h1, h2, h3⟩
      · obtain ⟨r, P1, Q1, g1, g2, g3⟩ := ih c1 c2 c3 d1 d2 d3 h1 (by omega)
        exact ⟨r, P1, Q1, g1, fun p hp => h3 p _ (g2 p hp), fun p hp => h4 p _ (g3 p hp)⟩
      · exact ⟨r, P1, Q1, h1, fun p hp => h2 p _ hp, fun p hp => h3 p _ hp⟩
  obtain ⟨r, P1, Q1, g1, g2, g3⟩ := key (μ a1 a2 a3 + 1) a1 a2 a3 b1 b2 b3 h (Nat.lt_succ_self _)
  exact ⟨r, P1, Q1, g1, fun p hp => ⟨_, g2 p hp⟩, fun p hp => ⟨_, g3 p hp⟩⟩
theorem lq1_1 {A1 B1 ρ : Type} (f : (ρ → VP → Prop) → (A1 → Prop) → A1 → Prop) (g : (ρ → VP → Prop) → (B1 → Prop) → B1 → Prop) (I : A1 → B1 → Prop) (Fc : ρ → VP → VP → Prop) (μ : A1 → Nat)
    (hs : ∀ a1 b1, I a1 b1 → (∃ c1 d1, I c1 d1 ∧ μ c1 < μ a1 ∧ (∀ (p : (ρ → VP → Prop)) (X : A1 → Prop), X c1 → f p X a1) ∧ (∀ (p : (ρ → VP → Prop)) (X : B1 → Prop), X d1 → g p X b1)) ∨ (∃ r P1 Q1, Fc r P1 Q1 ∧ (∀ (p : (ρ → VP → Prop)) (X : A1 → Prop), p r P1 → f p X a1) ∧ (∀ (p : (ρ → VP → Prop)) (X : B1 → Prop), p r Q1 → g p X b1))) {a1 : A1} {b1 : B1} (h : I a1 b1) : ∃ r P1 Q1, Fc r P1 Q1 ∧ Am (fun p => vL1 (f p) a1) r P1 ∧ Am (fun p => vL1 (g p) b1) r Q1 := by
  have key : ∀ k a1 b1, I a1 b1 → μ a1 < k → ∃ r P1 Q1, Fc r P1 Q1 ∧ (∀ p : (ρ → VP → Prop), p r P1 → vl1 (f p) k a1) ∧ (∀ p : (ρ → VP → Prop), p r Q1 → vl1 (g p) k b1) := by
    intro k
    induction k with
    | zero => intro a1 b1 _ h; exact absurd h (Nat.not_lt_zero _)
    | succ k ih =>
      intro a1 b1 hI hm
      rcases hs a1 b1 hI with ⟨c1, d1, h1, h2, h3, h4⟩ | ⟨r, P1, Q1, h1, h2, h3⟩
      · obtain ⟨r, P1, Q1, g1, g2, g3⟩ := ih c1 d1 h1 (by omega)
        exact ⟨r, P1, Q1, g1, fun p hp => h3 p _ (g2 p hp), fun p hp => h4 p _ (g3 p hp)⟩
      · exact ⟨r, P1, Q1, h1, fun p hp => h2 p _ hp, fun p hp => h3 p _ hp⟩
  obtain ⟨r, P1, Q1, g1, g2, g3⟩ := key (μ a1 + 1) a1 b1 h (Nat.lt_succ_self _)
  exact ⟨r, P1, Q1, g1, fun p hp => ⟨_, g2 p hp⟩, fun p hp => ⟨_, g3 p hp⟩⟩
theorem lq1_2 {A1 B1 B2 ρ : Type} (f : (ρ → VP → Prop) → (A1 → Prop) → A1 → Prop) (g : (ρ → VP → Prop) → (B1 → B2 → Prop) → B1 → B2 → Prop) (I : A1 → B1 → B2 → Prop) (Fc : ρ → VP → VP → Prop) (μ : A1 → Nat)
    (hs : ∀ a1 b1 b2, I a1 b1 b2 → (∃ c1 d1 d2, I c1 d1 d2 ∧ μ c1 < μ a1 ∧ (∀ (p : (ρ → VP → Prop)) (X : A1 → Prop), X c1 → f p X a1) ∧ (∀ (p : (ρ → VP → Prop)) (X : B1 → B2 → Prop), X d1 d2 → g p X b1 b2)) ∨ (∃ r P1 Q1, Fc r P1 Q1 ∧ (∀ (p : (ρ → VP → Prop)) (X : A1 → Prop), p r P1 → f p X a1) ∧ (∀ (p : (ρ → VP → Prop)) (X : B1 → B2 → Prop), p r Q1 → g p X b1 b2))) {a1 : A1} {b1 : B1} {b2 : B2} (h : I a1 b1 b2) : ∃ r P1 Q1, Fc r P1 Q1 ∧ Am (fun p => vL1 (f p) a1) r P1 ∧ Am (fun p => vL2 (g p) b1 b2) r Q1 := by
  have key : ∀ k a1 b1 b2, I a1 b1 b2 → μ a1 < k → ∃ r P1 Q1, Fc r P1 Q1 ∧ (∀ p : (ρ → VP → Prop), p r P1 → vl1 (f p) k a1) ∧ (∀ p : (ρ → VP → Prop), p r Q1 → vl2 (g p) k b1 b2) := by
    intro k
    induction k with
    | zero => intro a1 b1 b2 _ h; exact absurd h (Nat.not_lt_zero _)
    | succ k ih =>
      intro a1 b1 b2 hI hm
      rcases hs a1 b1 b2 hI with ⟨c1, d1, d2, h1, h2, h3, h4⟩ | ⟨r, P1, Q1, h1, h2, h3⟩
      · obtain ⟨r, P1, Q1, g1, g2, g3⟩ := ih c1 d1 d2 h1 (by omega)
        exact ⟨r, P1, Q1, g1, fun p hp => h3 p _ (g2 p hp), fun p hp => h4 p _ (g3 p hp)⟩
      · exact ⟨r, P1, Q1, h1, fun p hp => h2 p _ hp, fun p hp => h3 p _ hp⟩
  obtain ⟨r, P1, Q1, g1, g2, g3⟩ := key (μ a1 + 1) a1 b1 b2 h (Nat.lt_succ_self _)
  exact ⟨r, P1, Q1, g1, fun p hp => ⟨_, g2 p hp⟩, fun p hp => ⟨_, g3 p hp⟩⟩
theorem lq2_1 {A1 A2 B1 ρ : Type} (f : (ρ → VP → Prop) → (A1 → A2 → Prop) → A1 → A2 → Prop) (g : (ρ → VP → Prop) → (B1 → Prop) → B1 → Prop) (I : A1 → A2 → B1 → Prop) (Fc : ρ → VP → VP → Prop) (μ : A1 → A2 → Nat)
    (hs : ∀ a1 a2 b1, I a1 a2 b1 → (∃ c1 c2 d1, I c1 c2 d1 ∧ μ c1 c2 < μ a1 a2 ∧ (∀ (p : (ρ → VP → Prop)) (X : A1 → A2 → Prop), X c1 c2 → f p X a1 a2) ∧ (∀ (p : (ρ → VP → Prop)) (X : B1 → Prop), X d1 → g p X b1)) ∨ (∃ r P1 Q1, Fc r P1 Q1 ∧ (∀ (p : (ρ → VP → Prop)) (X : A1 → A2 → Prop), p r P1 → f p X a1 a2) ∧ (∀ (p : (ρ → VP → Prop)) (X : B1 → Prop), p r Q1 → g p X b1))) {a1 : A1} {a2 : A2} {b1 : B1} (h : I a1 a2 b1) : ∃ r P1 Q1, Fc r P1 Q1 ∧ Am (fun p => vL2 (f p) a1 a2) r P1 ∧ Am (fun p => vL1 (g p) b1) r Q1 := by
  have key : ∀ k a1 a2 b1, I a1 a2 b1 → μ a1 a2 < k → ∃ r P1 Q1, Fc r P1 Q1 ∧ (∀ p : (ρ → VP → Prop), p r P1 → vl2 (f p) k a1 a2) ∧ (∀ p : (ρ → VP → Prop), p r Q1 → vl1 (g p) k b1) := by
    intro k
    induction k with
    | zero => intro a1 a2 b1 _ h; exact absurd h (Nat.not_lt_zero _)
    | succ k ih =>
      intro a1 a2 b1 hI hm
      rcases hs a1 a2 b1 hI with ⟨c1, c2, d1, h1, h2, h3, h4⟩ | ⟨r, P1, Q1, h1, h2, h3⟩
      · obtain ⟨r, P1, Q1, g1, g2, g3⟩ := ih c1 c2 d1 h1 (by omega)
        exact ⟨r, P1, Q1, g1, fun p hp => h3 p _ (g2 p hp), fun p hp => h4 p _ (g3 p hp)⟩
      · exact ⟨r, P1, Q1, h1, fun p hp => h2 p _ hp, fun p hp => h3 p _ hp⟩
  obtain ⟨r, P1, Q1, g1, g2, g3⟩ := key (μ a1 a2 + 1) a1 a2 b1 h (Nat.lt_succ_self _)
  exact ⟨r, P1, Q1, g1, fun p hp => ⟨_, g2 p hp⟩, fun p hp => ⟨_, g3 p hp⟩⟩
theorem lq2_4 {A1 A2 B1 B2 B3 B4 ρ : Type} (f : (ρ → VP → Prop) → (A1 → A2 → Prop) → A1 → A2 → Prop) (g : (ρ → VP → Prop) → (B1 → B2 → B3 → B4 → Prop) → B1 → B2 → B3 → B4 → Prop) (I : A1 → A2 → B1 → B2 → B3 → B4 → Prop) (Fc : ρ → VP → VP → Prop) (μ : A1 → A2 → Nat)
    (hs : ∀ a1 a2 b1 b2 b3 b4, I a1 a2 b1 b2 b3 b4 → (∃ c1 c2 d1 d2 d3 d4, I c1 c2 d1 d2 d3 d4 ∧ μ c1 c2 < μ a1 a2 ∧ (∀ (p : (ρ → VP → Prop)) (X : A1 → A2 → Prop), X c1 c2 → f p X a1 a2) ∧ (∀ (p : (ρ → VP → Prop)) (X : B1 → B2 → B3 → B4 → Prop), X d1 d2 d3 d4 → g p X b1 b2 b3 b4)) ∨ (∃ r P1 Q1, Fc r P1 Q1 ∧ (∀ (p : (ρ → VP → Prop)) (X : A1 → A2 → Prop), p r P1 → f p X a1 a2) ∧ (∀ (p : (ρ → VP → Prop)) (X : B1 → B2 → B3 → B4 → Prop), p r Q1 → g p X b1 b2 b3 b4))) {a1 : A1} {a2 : A2} {b1 : B1} {b2 : B2} {b3 : B3} {b4 : B4} (h : I a1 a2 b1 b2 b3 b4) : ∃ r P1 Q1, Fc r P1 Q1 ∧ Am (fun p => vL2 (f p) a1 a2) r P1 ∧ Am (fun p => vL4 (g p) b1 b2 b3 b4) r Q1 := by
  have key : ∀ k a1 a2 b1 b2 b3 b4, I a1 a2 b1 b2 b3 b4 → μ a1 a2 < k → ∃ r P1 Q1, Fc r P1 Q1 ∧ (∀ p : (ρ → VP → Prop), p r P1 → vl2 (f p) k a1 a2) ∧ (∀ p : (ρ → VP → Prop), p r Q1 → vl4 (g p) k b1 b2 b3 b4) := by
    intro k
    induction k with
    | zero => intro a1 a2 b1 b2 b3 b4 _ h; exact absurd h (Nat.not_lt_zero _)
    | succ k ih =>
      intro a1 a2 b1 b2 b3 b4 hI hm
      rcases hs a1 a2 b1 b2 b3 b4 hI with ⟨c1, c2, d1, d2, d3, d4, h1, h2, h3, h4⟩ | ⟨r, P1, Q1, h1, h2, h3⟩
      · obtain ⟨r, P1, Q1, g1, g2, g3⟩ := ih c1 c2 d1 d2 d3 d4 h1 (by omega)
        exact ⟨r, P1, Q1, g1, fun p hp => h3 p _ (g2 p hp), fun p hp => h4 p _ (g3 p hp)⟩
      · exact ⟨r, P1, Q1, h1, fun p hp => h2 p _ hp, fun p hp => h3 p _ hp⟩
  obtain ⟨r, P1, Q1, g1, g2, g3⟩ := key (μ a1 a2 + 1) a1 a2 b1 b2 b3 b4 h (Nat.lt_succ_self _)
  exact ⟨r, P1, Q1, g1, fun p hp => ⟨_, g2 p hp⟩, fun p hp => ⟨_, g3 p hp⟩⟩
