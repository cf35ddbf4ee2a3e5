/-! the relation -/
/-- the head of a segment that is there -/
def RH (P Q : VP) (κ y : Nat) (s : Int32) : Prop := P 7 y 1 = Q κ 0 (ix (48 + s)) ∧ P 7 y 2 = Q κ 0 (ix (64 + s)) ∧ P 7 y 3 = Q κ 0 (ix (80 + s)) ∧ P 7 y 4 = Q κ 0 (ix (96 + s)) ∧ P 7 y 5 = Q κ 0 (ix (112 + s)) ∧ P 7 y 6 = Q κ 0 (ix (128 + s)) ∧ P 7 y 7 = Q κ 0 (ix (144 + s)) ∧ P 7 y 8 = Q κ 0 (ix (160 + s)) ∧ P 7 y 9 = Q κ 0 (ix (176 + s))
  ∧ (0 ≤ Q κ 0 (ix (48 + s)) ∧ Q κ 0 (ix (48 + s)) < Q κ 0 (ix 0)) ∧ (1 ≤ Q κ 0 (ix (96 + s)) ∧ Q κ 0 (ix (96 + s)) ≤ 24) ∧ 0 ≤ Q κ 0 (ix (112 + s)) ∧ Q κ 0 (ix (112 + s)) ≤ Q κ 0 (ix (128 + s)) ∧ Q κ 0 (ix (128 + s)) ≤ Q κ 0 (ix (144 + s)) ∧ Q κ 0 (ix (144 + s)) < 8
def RG (i κ : Nat) (P Q : VP) : Prop := ∀ s : Int32, 0 ≤ s → s < 16 → P 7 (16 * i + ix s) 0 = Q κ 0 (ix (32 + s)) ∧ (P 7 (16 * i + ix s) 0 = 1 → RH P Q κ (16 * i + ix s) s)
/-- what holds of the class's own numbers alone -/
def BI (P : VP) : Prop := (∀ x, P 7 x 0 = 0 ∨ P 7 x 0 = 1) ∧ (∀ x, 0 ≤ P 7 x 4 ∧ P 7 x 4 ≤ 24) ∧ (∀ x (w : Int32), 0 ≤ w → w < 24 → P 7 x 4 ≤ w → P 8 x (ix w) = 0 ∧ P 9 x (ix w) = 0 ∧ P 10 x (ix w) = 0) ∧ (∀ x, P 14 x 3 = 0 ∨ P 14 x 3 = 1) ∧ (∀ x, P 16 x 4 = 0 ∨ P 16 x 4 = 1) ∧ (∀ x, 0 ≤ P 7 x 9)
/-- the machine -/
def RS (i κ : Nat) (P Q : VP) : Prop := P 1 i 2 = Q κ 0 (ix 3) ∧ P 1 i 3 = Q κ 0 (ix 4) ∧ P 1 i 4 = Q κ 0 (ix 5) ∧ P 1 i 5 = Q κ 0 (ix 6) ∧ 0 ≤ Q κ 0 (ix 5) ∧ Q κ 0 (ix 5) < 8
/-- directories: what holds of the reference's row -/
def RDI (κ : Nat) (Q : VP) : Prop := (1 ≤ Q κ 0 (ix 0) ∧ Q κ 0 (ix 0) ≤ 8) ∧ (0 ≤ Q κ 0 (ix 2) ∧ Q κ 0 (ix 2) ≤ 4) ∧ (∀ d : Int32, 1 ≤ d → d < Q κ 0 (ix 0) → 0 ≤ Q κ 0 (ix (16 + d)) ∧ Q κ 0 (ix (16 + d)) < d) ∧ (∀ d : Int32, 0 ≤ d → d < 8 → 0 ≤ Q κ 0 (ix (24 + d)) ∧ Q κ 0 (ix (24 + d)) ≤ 64) ∧ (∀ d : Int32, Q κ 0 (ix 0) ≤ d → d < 8 → Q κ 0 (ix (24 + d)) = 0) ∧ 0 < Q κ 0 (ix 24)
  ∧ Q κ 0 (ix 24) + Q κ 0 (ix 25) + Q κ 0 (ix 26) + Q κ 0 (ix 27) + Q κ 0 (ix 28) + Q κ 0 (ix 29) + Q κ 0 (ix 30) + Q κ 0 (ix 31) = 64
def RD (i κ : Nat) (P Q : VP) : Prop := P 2 i 0 = Q κ 0 (ix 0) ∧ P 2 i 5 = Q κ 0 (ix 1) ∧ P 2 i 3 = Q κ 0 (ix 2) ∧ (∀ j : Int32, 0 ≤ j → j < 4 → P 5 i (ix j) = Q κ 0 (ix (7 + j))) ∧ (∀ d : Int32, 0 ≤ d → d < 8 → P 3 i (ix d) = Q κ 0 (ix (16 + d)) ∧ P 4 i (ix d) = Q κ 0 (ix (24 + d))) ∧ RDI κ Q
/-- a word: class's kind, value, known; the reference's six -/
def WR (k v n a0 a1 a2 a3 a4 a5 : Int32) : Prop := k = a0 ∧ ((a0 = 0 ∧ v = 0 ∧ n = 0) ∨ (a0 = 1 ∧ v = a1 ∧ n = 0)
  ∨ ((a0 = 2 ∨ a0 = 3) ∧ v = 1000 * a2 + 100 * a1 + a3 ∧ n = 0 ∧ (0 ≤ a1 ∧ a1 < 8) ∧ (0 ≤ a2 ∧ a2 < 16) ∧ 0 ≤ a3 ∧ a3 < 24)
  ∨ (a0 = 4 ∧ v = 100 * a1 + a2 ∧ n = 0 ∧ (0 ≤ a1 ∧ a1 < 26) ∧ 0 ≤ a2 ∧ a2 < 24)
  ∨ (a0 = 5 ∧ v = 1000 * a2 + 100 * a1 + a3 ∧ n = 100 * a4 + a5 ∧ ((0 ≤ a1 ∧ a1 < 8) ∧ (0 ≤ a2 ∧ a2 < 16) ∧ 0 ≤ a3 ∧ a3 < 24) ∧ (0 ≤ a4 ∧ a4 < 26) ∧ 0 ≤ a5 ∧ a5 < 24)
  ∨ (a0 = 6 ∧ v = 1000 * a1 + 10 * a2 + a3 ∧ n = 0 ∧ (0 ≤ a1 ∧ a1 < 10) ∧ (0 ≤ a2 ∧ a2 < 24) ∧ 0 ≤ a3 ∧ a3 < 4))
abbrev wa (s w : Int32) : Int32 := 200 + (6 * ((24 * s) + w))
def RW (i κ : Nat) (P Q : VP) : Prop := ∀ s w : Int32, 0 ≤ s → s < 16 → 0 ≤ w → w < 24 → P 7 (16 * i + ix s) 0 = 1 → WR (P 8 (16 * i + ix s) (ix w)) (P 9 (16 * i + ix s) (ix w)) (P 10 (16 * i + ix s) (ix w)) (Q κ 0 (ix (wa s w))) (Q κ 0 (ix (wa s w + 1))) (Q κ 0 (ix (wa s w + 2))) (Q κ 0 (ix (wa s w + 3))) (Q κ 0 (ix (wa s w + 4))) (Q κ 0 (ix (wa s w + 5)))
/-- a frame x of the class, at f in the reference's row -/
def FR (P Q : VP) (κ x : Nat) (f : Int32) : Prop := P 14 x 0 = Q κ 0 (ix f) ∧ P 14 x 1 = Q κ 0 (ix (f + 1)) ∧ P 14 x 2 = Q κ 0 (ix (f + 2)) ∧ P 14 x 4 = Q κ 0 (ix (f + 3)) ∧ P 14 x 3 = Q κ 0 (ix (f + 4)) ∧ (0 ≤ Q κ 0 (ix (f + 2)) ∧ Q κ 0 (ix (f + 2)) < 8) ∧ (0 ≤ Q κ 0 (ix (f + 3)) ∧ Q κ 0 (ix (f + 3)) ≤ 3) ∧ (Q κ 0 (ix (f + 4)) = 0 ∨ Q κ 0 (ix (f + 4)) = 1)
  ∧ ∀ j : Int32, 0 ≤ j → j < Q κ 0 (ix (f + 3)) → P 16 (3 * x + ix j) 2 = Q κ 0 (ix ((f + 5) + (5 * j))) ∧ P 16 (3 * x + ix j) 0 = Q κ 0 (ix (((f + 5) + (5 * j)) + 1)) ∧ P 16 (3 * x + ix j) 1 = Q κ 0 (ix (((f + 5) + (5 * j)) + 2)) ∧ (Q κ 0 (ix (f + 4)) = 1 → P 16 (3 * x + ix j) 3 = Q κ 0 (ix (((f + 5) + (5 * j)) + 3))) ∧ P 16 (3 * x + ix j) 4 = Q κ 0 (ix (((f + 5) + (5 * j)) + 4)) ∧ (Q κ 0 (ix (f + 4)) = 0 → Q κ 0 (ix (((f + 5) + (5 * j)) + 4)) = 0)
def RF (i κ : Nat) (P Q : VP) : Prop := ∀ r : Int32, 0 ≤ r → r < 8 → P 12 i (ix r) = Q κ 0 (ix (192 + r)) ∧ (0 ≤ Q κ 0 (ix (192 + r)) ∧ Q κ 0 (ix (192 + r)) ≤ 6) ∧ ∀ k : Int32, 0 ≤ k → k < Q κ 0 (ix (192 + r)) → FR P Q κ (49 * i + ix ((r * 6) + k)) (2504 + (20 * ((6 * r) + k)))
def RM (i κ : Nat) (P Q : VP) : Prop := RS i κ P Q ∧ RD i κ P Q ∧ RG i κ P Q ∧ RW i κ P Q ∧ RF i κ P Q
/-- the tape -/
def RT (P Q : VP) : Prop := P 17 0 1 = Q 22 0 6 ∧ (0 ≤ Q 22 0 6 ∧ Q 22 0 6 ≤ 120) ∧ ∀ j : Int32, 0 ≤ j → j < Q 22 0 6 → P 18 0 (ix j) = Q 26 0 (ix j)
def RR (P Q : VP) : Prop := BI P ∧ RM 0 23 P Q ∧ (P 0 0 4 = Q 22 0 3 ∧ (P 0 0 4 = 0 ∨ P 0 0 4 = 1) ∧ P 0 0 5 = Q 22 0 4) ∧ (P 0 0 4 = 1 → RM 1 25 P Q) ∧ RT P Q
/-! segments and directories, both sides in step -/
theorem c_findS {i : Nat} {s : Int32} {P : VP} (h0 : 0 ≤ s) (h1 : s < 16) (h : P 7 (16 * i + ix s) 0 = 1) : An (F_X6_find i s P) (some (16 * i + ix s)) := by
  intro p hp
  unfold F_X6_find
  grind
theorem c_findN {i : Nat} {s : Int32} {P : VP} (h : 0 ≤ s → s < 16 → P 7 (16 * i + ix s) 0 = 0) : An (F_X6_find i s P) none := by
  intro p hp
  unfold F_X6_find
  grind
theorem m_isThere {κ : Nat} {s : Int32} {Q : VP} (hκ : vlI κ = 3464) {r : Int32} (hr : r = if 0 ≤ s ∧ s < 16 ∧ Q κ 0 (ix (32 + s)) = 1 then 1 else 0) : An (F_X8_isThere κ s Q) r := by
  intro p hp
  unfold F_X8_isThere
  rw [hκ]
  refine m_in s 0 15 Q (fun h => ?_) (fun h => ?_)
  · grind
  · grind
/-- there, and its head; or not there -/
theorem d_find {i κ : Nat} {P Q : VP} (hG : RG i κ P Q) (hB : BI P) (hκ : vlI κ = 3464) (s : Int32) : (((0 ≤ s ∧ s < 16) ∧ Q κ 0 (ix (32 + s)) = 1) ∧ P 7 (16 * i + ix s) 0 = 1 ∧ RH P Q κ (16 * i + ix s) s ∧ An (F_X6_find i s P) (some (16 * i + ix s)) ∧ An (F_X8_isThere κ s Q) 1) ∨ (¬ ((0 ≤ s ∧ s < 16) ∧ Q κ 0 (ix (32 + s)) = 1) ∧ An (F_X6_find i s P) none ∧ An (F_X8_isThere κ s Q) 0) := by
  by_cases h : (0 ≤ s ∧ s < 16) ∧ Q κ 0 (ix (32 + s)) = 1
  · obtain ⟨g1, g2⟩ := hG s h.1.1 h.1.2
    have g3 := g1.trans h.2
    exact Or.inl ⟨h, g3, g2 g3, c_findS h.1.1 h.1.2 g3, m_isThere hκ (by rw [if_pos ⟨h.1.1, h.1.2, h.2⟩])⟩
  · refine Or.inr ⟨h, c_findN fun h0 h1 => ?_, m_isThere hκ (by rw [if_neg]; exact fun q => h ⟨⟨q.1, q.2.1⟩, q.2.2⟩)⟩
    obtain ⟨g1, -⟩ := hG s h0 h1
    have g3 := hB.1 (16 * i + ix s)
    grind
theorem d_isSeg {P Q : VP} (hG : RG 0 23 P Q) (hB : BI P) (s : Int32) : (((0 ≤ s ∧ s < 16) ∧ Q 23 0 (ix (32 + s)) = 1) ∧ P 7 (16 * 0 + ix s) 0 = 1 ∧ RH P Q 23 (16 * 0 + ix s) s ∧ An (F_X6_find 0 s P) (some (16 * 0 + ix s)) ∧ An (F_X8_isSegment s Q) 1) ∨ (¬ ((0 ≤ s ∧ s < 16) ∧ Q 23 0 (ix (32 + s)) = 1) ∧ An (F_X6_find 0 s P) none ∧ An (F_X8_isSegment s Q) 0) := by
  rcases d_find hG hB rfl s with ⟨h1, h2, h3, h4, h5⟩ | ⟨h0, h1, h2⟩
  · exact Or.inl ⟨h1, h2, h3, h4, fun p hp => h5 _ ⟨Or.inr rfl, hp⟩⟩
  · exact Or.inr ⟨h0, h1, fun p hp => h2 _ ⟨Or.inl rfl, hp⟩⟩
theorem d_isDir {P Q : VP} (hD : RD 0 23 P Q) (x : Int32) : ((0 ≤ x ∧ x < Q 23 0 (ix 0)) ∧ An (F_X6_hasDirectory 0 x P) 1 ∧ An (F_X8_isDirectory x Q) 1) ∨ (¬ (0 ≤ x ∧ x < Q 23 0 (ix 0)) ∧ An (F_X6_hasDirectory 0 x P) 0 ∧ An (F_X8_isDirectory x Q) 0) := by
  obtain ⟨e0, -, -, -, -, ⟨e1, e2⟩, -⟩ := hD
  by_cases h : 0 ≤ x ∧ x < Q 23 0 (ix 0)
  · refine Or.inl ⟨h, fun p hp => ?_, fun p hp => ?_⟩
    · unfold F_X6_hasDirectory
      grind
    · unfold F_X8_isDirectory
      exact ⟨⟨by decide, by decide⟩, m_inT (x := x) (lo := 0) (hi := Q 23 0 (ix 0) - 1) ⟨h.1, by lia⟩ _ ⟨Or.inr rfl, hp⟩⟩
  · refine Or.inr ⟨h, fun p hp => ?_, fun p hp => ?_⟩
    · unfold F_X6_hasDirectory
      grind
    · unfold F_X8_isDirectory
      exact ⟨⟨by decide, by decide⟩, m_inF (x := x) (lo := 0) (hi := Q 23 0 (ix 0) - 1) (by lia) _ ⟨Or.inl rfl, hp⟩⟩
theorem c_hasDir {i κ : Nat} {P Q : VP} (hD : RD i κ P Q) {x : Int32} (h : 0 ≤ x ∧ x < Q κ 0 (ix 0)) : An (F_X6_hasDirectory i x P) 1 := by
  obtain ⟨e0, -, -, -, -, ⟨e1, e2⟩, -⟩ := hD
  intro p hp
  unfold F_X6_hasDirectory
  grind
theorem c_quotaOf {i κ : Nat} {P Q : VP} (hD : RD i κ P Q) {x : Int32} (h : 0 ≤ x ∧ x < Q κ 0 (ix 0)) : An (F_X6_quotaOf i x P) (Q κ 0 (ix (24 + x))) := by
  have h1 := c_hasDir hD h
  obtain ⟨e0, -, -, -, e3, ⟨e1, e2⟩, -⟩ := hD
  have e4 := e3 x h.1 (by lia)
  intro p hp
  unfold F_X6_quotaOf
  refine h1 _ ?_
  grind
theorem c_aboveOf {i κ : Nat} {P Q : VP} (hD : RD i κ P Q) {x : Int32} (h : 0 ≤ x ∧ x < Q κ 0 (ix 0)) : An (F_X6_aboveOf i x P) (Q κ 0 (ix (16 + x))) := by
  have h1 := c_hasDir hD h
  obtain ⟨e0, -, -, -, e3, ⟨e1, e2⟩, -⟩ := hD
  have e4 := e3 x h.1 (by lia)
  intro p hp
  unfold F_X6_aboveOf
  refine h1 _ ?_
  grind
/-- the cell nearest to a directory -/
theorem d_cell {i κ : Nat} {P Q : VP} (hD : RD i κ P Q) (hκ : vlI κ = 3464) (x : Int32) (h : 0 ≤ x ∧ x < Q κ 0 (ix 0)) : ∃ r, ((0 ≤ r ∧ r < Q κ 0 (ix 0)) ∧ ¬ Q κ 0 (ix (24 + r)) = 0 ∧ r ≤ x) ∧ An (F_X6_cellFrom i x P) r ∧ An (F_X8_cellOf κ x Q) r := by
  have hD0 := hD
  obtain ⟨e0, -, -, -, e3, ⟨e1, e2⟩, -, e4, e5, -, e6, -⟩ := hD
  refine lk2_1 (F_X6_cellFrom_l4 i x P) (F_X8_cellOf_l2 κ x Q) (fun a b c => a = c ∧ (0 ≤ a ∧ a ≤ x) ∧ 0 ≤ b ∧ b ≤ 7 - a) _ (fun a b => ix a) ?_ ⟨rfl, ⟨h.1, by lia⟩, by decide, by lia⟩
  rintro a b c ⟨rfl, ⟨h1, h2⟩, h3, h4⟩
  have q1 := c_quotaOf hD0 (x := a) ⟨h1, by lia⟩
  have q2 := c_aboveOf hD0 (x := a) ⟨h1, by lia⟩
  by_cases hz : Q κ 0 (ix (24 + a)) = 0
  · have ha : ¬ a = 0 := by
      intro q
      subst q
      have : (24 : Int32) + 0 = 24 := by decide
      rw [this] at hz
      lia
    have e7 := e4 a (by lia) (by lia)
    refine Or.inl ⟨Q κ 0 (ix (16 + a)), b + 1, Q κ 0 (ix (16 + a)), ⟨rfl, ⟨e7.1, by lia⟩, by lia, by lia⟩, ix_lt e7.1 e7.2, fun p X hX => ?_, fun p X hX => ?_⟩
    · unfold F_X6_cellFrom_l4
      refine br_t (by lia) (br_f ha (q1 _ (br_t hz (q2 _ hX))))
    · unfold F_X8_cellOf_l2
      rw [hκ]
      exact ⟨⟨by lia, by lia⟩, br_t hz ⟨⟨by lia, by lia⟩, hX⟩⟩
  · refine Or.inr ⟨a, ⟨⟨h1, by lia⟩, hz, h2⟩, fun p X hp => ?_, fun p X hp => ?_⟩
    · unfold F_X6_cellFrom_l4
      by_cases ha : a = 0
      · exact br_t (by lia) (br_t ha hp)
      · exact br_t (by lia) (br_f ha (q1 _ (br_f hz hp)))
    · unfold F_X8_cellOf_l2
      rw [hκ]
      exact ⟨⟨by lia, by lia⟩, br_f hz hp⟩
theorem rec_eq (x : Int32) : ((x + 8) - 1) / 8 = (x + 7) / 8 := by
  have : x + 8 - 1 = x + 7 := by lia
  rw [this]
theorem c_rec {P : VP} (x : Int32) : An (F_X7_recordsOf x P) ((x + 7) / 8) := fun p hp => by unfold F_X7_recordsOf; rw [rec_eq]; exact hp
theorem m_rec {Q : VP} (x : Int32) : An (F_X8_records x Q) ((x + 7) / 8) := fun p hp => by unfold F_X8_records; exact hp
theorem d_used {i κ : Nat} {P Q : VP} (hD : RD i κ P Q) (hG : RG i κ P Q) (hB : BI P) (hκ : vlI κ = 3464) (x : Int32) : ∃ r, True ∧ An (F_X6_usedOf i x P) r ∧ An (F_X8_used κ x Q) r := by
  refine lk2_2 (F_X6_usedOf_l4 i x P) (F_X8_used_l4 κ x Q) (fun u s u' s' => u = u' ∧ s = s' ∧ 0 ≤ s ∧ s ≤ 16) (fun _ => True) (fun u s => ix (16 - s)) ?_ ⟨rfl, rfl, by decide, by decide⟩
  rintro u s u' s' ⟨rfl, rfl, h0, h1⟩
  by_cases h2 : s < 16
  · rcases d_find hG hB hκ s with ⟨g1, g2, g3, g4, g5⟩ | ⟨g3, g1, g2⟩
    · obtain ⟨k1, -, -, k4, -, -, -, -, -, k5, -⟩ := id g3
      obtain ⟨r, -, r1, r2⟩ := d_cell hD hκ (Q κ 0 (ix (48 + s))) k5
      by_cases hr : r = x
      · refine Or.inl ⟨u + (Q κ 0 (ix (96 + s)) + 7) / 8, s + 1, u + (Q κ 0 (ix (96 + s)) + 7) / 8, s + 1, ⟨rfl, rfl, by lia, by lia⟩, ix_lt (by lia) (by lia), fun p X hX => ?_, fun p X hX => ?_⟩
        · unfold F_X6_usedOf_l4
          refine br_t h2 (g4 _ ?_)
          dsimp only
          rw [k1, k4]
          exact r1 _ (br_t hr (c_rec _ _ hX))
        · unfold F_X8_used_l4
          rw [hκ]
          exact br_t h2 ⟨⟨by lia, by lia⟩, br_t g1.2 ⟨⟨by lia, by lia⟩, r2 _ (br_t hr ⟨⟨by lia, by lia⟩, m_rec _ _ hX⟩)⟩⟩
      · refine Or.inl ⟨u, s + 1, u + 0, s + 1, ⟨by lia, rfl, by lia, by lia⟩, ix_lt (by lia) (by lia), fun p X hX => ?_, fun p X hX => ?_⟩
        · unfold F_X6_usedOf_l4
          refine br_t h2 (g4 _ ?_)
          dsimp only
          rw [k1, k4]
          exact r1 _ (br_f hr hX)
        · unfold F_X8_used_l4
          rw [hκ]
          exact br_t h2 ⟨⟨by lia, by lia⟩, br_t g1.2 ⟨⟨by lia, by lia⟩, r2 _ (br_f hr hX)⟩⟩
    · have g3 : ¬ Q κ 0 (ix (32 + s)) = 1 := fun q => g3 ⟨⟨h0, h2⟩, q⟩
      refine Or.inl ⟨u, s + 1, u + 0, s + 1, ⟨by lia, rfl, by lia, by lia⟩, ix_lt (by lia) (by lia), fun p X hX => ?_, fun p X hX => ?_⟩
      · unfold F_X6_usedOf_l4
        exact br_t h2 (g1 _ hX)
      · unfold F_X8_used_l4
        rw [hκ]
        exact br_t h2 ⟨⟨by lia, by lia⟩, br_f g3 hX⟩
  · refine Or.inr ⟨u, trivial, fun p X hp => ?_, fun p X hp => ?_⟩
    · unfold F_X6_usedOf_l4
      exact br_f h2 hp
    · unfold F_X8_used_l4
      exact br_f h2 hp
