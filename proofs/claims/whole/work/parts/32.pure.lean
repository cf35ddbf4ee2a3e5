/-! pure functions, both sides: words, names -/
theorem c_has {y : Nat} {w : Int32} {P : VP} (hB : BI P) (h : 0 ≤ w ∧ w < P 7 y 4) : An (F_X3_has y w P) 1 := by
  intro p hp
  have := hB.2.1 y
  unfold F_X3_has
  grind
theorem c_hasN {y : Nat} {w : Int32} {P : VP} (h : ¬ (0 ≤ w ∧ w < P 7 y 4)) : An (F_X3_has y w P) 0 := by
  intro p hp
  unfold F_X3_has
  grind
theorem c_kindAt {y : Nat} {w : Int32} {P : VP} (hB : BI P) (h : 0 ≤ w ∧ w < 24) : An (F_X3_kindAt y w P) (P 8 y (ix w)) := by
  intro p hp
  unfold F_X3_kindAt
  by_cases h1 : w < P 7 y 4
  · exact c_has hB ⟨h.1, h1⟩ _ (br_f (by decide) ⟨h, hp⟩)
  · refine c_hasN (fun q => h1 q.2) _ (br_t rfl ?_)
    have := (hB.2.2.1 y w h.1 h.2 (by lia)).1
    rw [← this]; exact hp
theorem c_valueAt {y : Nat} {w : Int32} {P : VP} (hB : BI P) (h : 0 ≤ w ∧ w < 24) : An (F_X3_valueAt y w P) (P 9 y (ix w)) := by
  intro p hp
  unfold F_X3_valueAt
  by_cases h1 : w < P 7 y 4
  · exact c_has hB ⟨h.1, h1⟩ _ (br_f (by decide) ⟨h, hp⟩)
  · refine c_hasN (fun q => h1 q.2) _ (br_t rfl ?_)
    have := (hB.2.2.1 y w h.1 h.2 (by lia)).2.1
    rw [← this]; exact hp
theorem c_knownAt {y : Nat} {w : Int32} {P : VP} (hB : BI P) (h : 0 ≤ w ∧ w < 24) : An (F_X3_knownAt y w P) (P 10 y (ix w)) := by
  intro p hp
  unfold F_X3_knownAt
  by_cases h1 : w < P 7 y 4
  · exact c_has hB ⟨h.1, h1⟩ _ (br_f (by decide) ⟨h, hp⟩)
  · refine c_hasN (fun q => h1 q.2) _ (br_t rfl ?_)
    have := (hB.2.2.1 y w h.1 h.2 (by lia)).2.2
    rw [← this]; exact hp
theorem m_told {κ : Nat} {s w j : Int32} {Q : VP} (hκ : vlI κ = 3464) (hs : 0 ≤ s ∧ s < 16) (hw : 0 ≤ w ∧ w < 24) (hj : 0 ≤ j ∧ j < 6) : An (F_X8_told κ s w j Q) (Q κ 0 (ix (wa s w + j))) := by
  intro p hp
  unfold F_X8_told
  rw [hκ]
  exact ⟨⟨by lia, by lia⟩, hp⟩
theorem m_told0 {κ : Nat} {s w : Int32} {Q : VP} (hκ : vlI κ = 3464) (hs : 0 ≤ s ∧ s < 16) (hw : 0 ≤ w ∧ w < 24) : An (F_X8_told κ s w 0 Q) (Q κ 0 (ix (wa s w))) := by
  have h := m_told (Q := Q) (j := 0) hκ hs hw ⟨by decide, by decide⟩
  have e : wa s w + 0 = wa s w := by lia
  rw [e] at h
  exact h
theorem m_isWord {s w : Int32} {Q : VP} (hs : 0 ≤ s ∧ s < 16) (hl : 1 ≤ Q 23 0 (ix (96 + s)) ∧ Q 23 0 (ix (96 + s)) ≤ 24) : (0 ≤ w ∧ w < Q 23 0 (ix (96 + s)) → An (F_X8_isWord s w Q) 1) ∧ (¬ (0 ≤ w ∧ w < Q 23 0 (ix (96 + s))) → An (F_X8_isWord s w Q) 0) := by
  refine ⟨fun h p hp => ?_, fun h p hp => ?_⟩
  · unfold F_X8_isWord
    exact ⟨⟨by lia, by lia⟩, m_inT (x := w) (lo := 0) (hi := Q 23 0 (ix (96 + s)) - 1) ⟨h.1, by lia⟩ _ ⟨Or.inr rfl, hp⟩⟩
  · unfold F_X8_isWord
    exact ⟨⟨by lia, by lia⟩, m_inF (x := w) (lo := 0) (hi := Q 23 0 (ix (96 + s)) - 1) (by lia) _ ⟨Or.inl rfl, hp⟩⟩
/-- who has this name in a directory -/
def nmt (κ : Nat) (Q : VP) (d n s : Int32) : Prop := Q κ 0 (ix (32 + s)) = 1 ∧ Q κ 0 (ix (48 + s)) = d ∧ Q κ 0 (ix (64 + s)) = n
def NM (κ : Nat) (Q : VP) (d n r : Int32) : Prop := (r = -1 ∧ ∀ s : Int32, 0 ≤ s → s < 16 → ¬ nmt κ Q d n s) ∨ ((0 ≤ r ∧ r < 16) ∧ nmt κ Q d n r ∧ ∀ s : Int32, 0 ≤ s → s < r → ¬ nmt κ Q d n s)
theorem NM_ex (κ : Nat) (Q : VP) (d n : Int32) : ∃ r, NM κ Q d n r := by
  obtain ⟨r, hr, -⟩ := lk1 (ρ := Int32) (fun p X a => (a < 16 → (nmt κ Q d n a → p a) ∧ (¬ nmt κ Q d n a → X (a + 1))) ∧ (¬ a < 16 → p (-1))) (fun a => (0 ≤ a ∧ a ≤ 16) ∧ ∀ s : Int32, 0 ≤ s → s < a → ¬ nmt κ Q d n s) (NM κ Q d n) (fun a => ix (16 - a)) (fun a ⟨⟨h0, h1⟩, h2⟩ => by
    by_cases h3 : a < 16
    · by_cases h4 : nmt κ Q d n a
      · exact Or.inr ⟨a, Or.inr ⟨⟨h0, h3⟩, h4, h2⟩, fun p X hp => ⟨fun _ => ⟨fun _ => hp, fun q => absurd h4 q⟩, fun q => absurd h3 q⟩⟩
      · refine Or.inl ⟨a + 1, ⟨⟨by lia, by lia⟩, fun s q1 q2 => ?_⟩, ix_lt (by lia) (by lia), fun p X hp => ⟨fun _ => ⟨fun q => absurd q h4, fun _ => hp⟩, fun q => absurd h3 q⟩⟩
        by_cases h5 : s = a
        · rw [h5]; exact h4
        · exact h2 s q1 (by lia)
    · exact Or.inr ⟨-1, Or.inl ⟨rfl, fun s q1 q2 => h2 s q1 (by lia)⟩, fun p X hp => ⟨fun q => absurd q h3, fun _ => hp⟩⟩) (a1 := 0) ⟨⟨by decide, by decide⟩, fun s q1 q2 => absurd q2 (by lia)⟩
  exact ⟨r, hr⟩
theorem NM_at {κ : Nat} {Q : VP} {d n r a : Int32} (h : NM κ Q d n r) (h0 : 0 ≤ a) (h1 : a < 16) (h2 : ∀ s : Int32, 0 ≤ s → s < a → ¬ nmt κ Q d n s) (h3 : nmt κ Q d n a) : r = a := by
  rcases h with ⟨-, g⟩ | ⟨g1, g2, g3⟩
  · exact absurd h3 (g a h0 h1)
  · by_cases q1 : r < a
    · exact absurd g2 (h2 r g1.1 q1)
    · by_cases q2 : a < r
      · exact absurd h3 (g3 a h0 q2)
      · lia
theorem NM_no {κ : Nat} {Q : VP} {d n r : Int32} (h : NM κ Q d n r) (h2 : ∀ s : Int32, 0 ≤ s → s < 16 → ¬ nmt κ Q d n s) : r = -1 := by
  rcases h with ⟨g, -⟩ | ⟨g1, g2, g3⟩
  · exact g
  · exact absurd g2 (h2 r g1.1 g1.2)
theorem NM_r {κ : Nat} {Q : VP} {d n r : Int32} (h : NM κ Q d n r) : r = -1 ∨ (0 ≤ r ∧ r < 16) := h.imp (fun g => g.1) (fun g => g.1)
theorem c_named {i κ : Nat} {P Q : VP} (hG : RG i κ P Q) (hB : BI P) {d n r : Int32} (hr : NM κ Q d n r) : An (F_X6_named i d n P) r := by
  obtain ⟨r', rfl, h⟩ := lk1 (F_X6_named_l2 i d n P) (fun a => (0 ≤ a ∧ a ≤ 16) ∧ ∀ s : Int32, 0 ≤ s → s < a → ¬ nmt κ Q d n s) (fun x => x = r) (fun a => ix (16 - a)) (fun a ⟨⟨h0, h1⟩, h2⟩ => by
    by_cases h3 : a < 16
    · obtain ⟨g1, g2⟩ := hG a h0 h3
      have g3 := hB.1 (16 * i + ix a)
      by_cases h4 : nmt κ Q d n a
      · refine Or.inr ⟨a, (NM_at hr h0 h3 h2 h4).symm, fun p X hp => ?_⟩
        obtain ⟨e1, e2, -⟩ := g2 (g1.trans h4.1)
        unfold nmt at h4
        unfold F_X6_named_l2
        grind
      · refine Or.inl ⟨a + 1, ⟨⟨by lia, by lia⟩, fun s q1 q2 => ?_⟩, ix_lt (by lia) (by lia), fun p X hX => ?_⟩
        · by_cases h5 : s = a
          · rw [h5]; exact h4
          · exact h2 s q1 (by lia)
        · unfold nmt at h4
          unfold F_X6_named_l2
          by_cases h6 : Q κ 0 (ix (32 + a)) = 1
          · obtain ⟨e1, e2, -⟩ := g2 (g1.trans h6)
            grind
          · grind
    · exact Or.inr ⟨-1, (NM_no hr fun s q1 q2 => h2 s q1 (by lia)).symm, fun p X hp => by unfold F_X6_named_l2; exact br_f h3 hp⟩) (a1 := 0) ⟨⟨by decide, by decide⟩, fun s q1 q2 => absurd q2 (by lia)⟩
  exact h
theorem m_named {Q : VP} {d n r : Int32} (hr : NM 23 Q d n r) : An (F_X8_named d n Q) r := by
  obtain ⟨r', rfl, h⟩ := lk1 (F_X8_named_l2 d n Q) (fun a => (0 ≤ a ∧ a ≤ 16) ∧ ∀ s : Int32, 0 ≤ s → s < a → ¬ nmt 23 Q d n s) (fun x => x = r) (fun a => ix (16 - a)) (fun a ⟨⟨h0, h1⟩, h2⟩ => by
    by_cases h3 : a < 16
    · by_cases h4 : nmt 23 Q d n a
      · refine Or.inr ⟨a, (NM_at hr h0 h3 h2 h4).symm, fun p X hp => ?_⟩
        unfold nmt at h4
        unfold F_X8_named_l2
        grind
      · refine Or.inl ⟨a + 1, ⟨⟨by lia, by lia⟩, fun s q1 q2 => ?_⟩, ix_lt (by lia) (by lia), fun p X hX => ?_⟩
        · by_cases h5 : s = a
          · rw [h5]; exact h4
          · exact h2 s q1 (by lia)
        · unfold nmt at h4
          unfold F_X8_named_l2
          grind
    · exact Or.inr ⟨-1, (NM_no hr fun s q1 q2 => h2 s q1 (by lia)).symm, fun p X hp => by unfold F_X8_named_l2; exact br_f h3 hp⟩) (a1 := 0) ⟨⟨by decide, by decide⟩, fun s q1 q2 => absurd q2 (by lia)⟩
  exact h
/-- the reference's inner loop: the answer, or on to the next directory -/
theorem m_foundIn {κ : Nat} {Q : VP} (hκ : vlI κ = 3464) {x1 n d r v3 : Int32} (hr : NM κ Q d n r) (p : Int32 → Prop) (X2 : Int32 → Prop) (h1 : 0 ≤ r → p r) (h2 : r = -1 → X2 (v3 + 1)) : vL1 (F_X8_found_l33 κ x1 n Q p X2 v3 d) 0 := by
  refine vL1_i (fun a => (0 ≤ a ∧ a ≤ 16) ∧ ∀ s : Int32, 0 ≤ s → s < a → ¬ nmt κ Q d n s) (fun a => ix (16 - a)) (fun X a ⟨⟨h0, h3⟩, h4⟩ hX => ?_) ⟨⟨by decide, by decide⟩, fun s q1 q2 => absurd q2 (by lia)⟩
  unfold F_X8_found_l33
  rw [hκ]
  by_cases h5 : a < 16
  · by_cases h6 : nmt κ Q d n a
    · have e := NM_at hr h0 h5 h4 h6
      subst e
      have h7 := h1 h0
      unfold nmt at h6
      refine br_t h5 ⟨⟨by lia, by lia⟩, br_t h6.1 ⟨⟨by lia, by lia⟩, br_t h6.2.1 ⟨⟨by lia, by lia⟩, br_t h6.2.2 h7⟩⟩⟩
    · have h7 := hX (a + 1) ⟨⟨by lia, by lia⟩, fun s q1 q2 => by
        by_cases h5 : s = a
        · rw [h5]; exact h6
        · exact h4 s q1 (by lia)⟩ (ix_lt (by lia) (by lia))
      unfold nmt at h6
      grind
  · exact br_f h5 (h2 (NM_no hr fun s q1 q2 => h4 s q1 (by lia)))
/-- LOOKUP: by the own directory, then by the rules -/
def LK (κ : Nat) (Q : VP) (s n r : Int32) : Prop := (NM κ Q (Q κ 0 (ix (48 + s))) n r ∧ 0 ≤ r) ∨ (NM κ Q (Q κ 0 (ix (48 + s))) n (-1) ∧ ((∃ k : Int32, (0 ≤ k ∧ k < Q κ 0 (ix 2)) ∧ (∀ j : Int32, 0 ≤ j → j < k → NM κ Q (Q κ 0 (ix (7 + j))) n (-1)) ∧ NM κ Q (Q κ 0 (ix (7 + k))) n r ∧ 0 ≤ r) ∨ (r = -1 ∧ ∀ j : Int32, 0 ≤ j → j < Q κ 0 (ix 2) → NM κ Q (Q κ 0 (ix (7 + j))) n (-1))))
theorem LK_r {κ : Nat} {Q : VP} {s n r : Int32} (h : LK κ Q s n r) : r = -1 ∨ (0 ≤ r ∧ r < 16) := by
  rcases h with ⟨h, -⟩ | ⟨-, ⟨k, -, -, h, -⟩ | ⟨h, -⟩⟩
  · exact NM_r h
  · exact NM_r h
  · exact Or.inl h
theorem m_found {κ : Nat} {Q : VP} (hκ : vlI κ = 3464) (hI : 0 ≤ Q κ 0 (ix 2) ∧ Q κ 0 (ix 2) ≤ 4) {s n : Int32} (hs : 0 ≤ s ∧ s < 16) : ∃ r, LK κ Q s n r ∧ An (F_X8_found κ s n Q) r := by
  obtain ⟨r0, h0⟩ := NM_ex κ Q (Q κ 0 (ix (48 + s))) n
  refine lk1 (F_X8_found_l2 κ s n Q) (fun a => a = -1 ∨ ((0 ≤ a ∧ a ≤ Q κ 0 (ix 2)) ∧ NM κ Q (Q κ 0 (ix (48 + s))) n (-1) ∧ ∀ j : Int32, 0 ≤ j → j < a → NM κ Q (Q κ 0 (ix (7 + j))) n (-1))) (LK κ Q s n) (fun a => ix (5 - a)) ?_ (Or.inl rfl)
  rintro a (rfl | ⟨⟨h1, h2⟩, h3, h4⟩)
  · rcases NM_r h0 with e | e
    · subst e
      refine Or.inl ⟨0, Or.inr ⟨⟨by decide, hI.1⟩, h0, fun j q1 q2 => absurd q2 (by lia)⟩, by decide, fun p X hX => ?_⟩
      unfold F_X8_found_l2
      rw [hκ]
      refine ⟨⟨by decide, by decide⟩, br_t (by lia) (br_t (by decide) ⟨⟨by lia, by lia⟩, m_foundIn hκ h0 _ _ (fun q => absurd q (by decide)) (fun _ => hX)⟩)⟩
    · refine Or.inr ⟨r0, Or.inl ⟨h0, e.1⟩, fun p X hp => ?_⟩
      unfold F_X8_found_l2
      rw [hκ]
      refine ⟨⟨by decide, by decide⟩, br_t (by lia) (br_t (by decide) ⟨⟨by lia, by lia⟩, m_foundIn hκ h0 _ _ (fun _ => hp) (fun q => absurd e.1 (by rw [q]; decide))⟩)⟩
  · by_cases h5 : a < Q κ 0 (ix 2)
    · obtain ⟨r1, g0⟩ := NM_ex κ Q (Q κ 0 (ix (7 + a))) n
      rcases NM_r g0 with e | e
      · subst e
        refine Or.inl ⟨a + 1, Or.inr ⟨⟨by lia, by lia⟩, h3, fun j q1 q2 => ?_⟩, ix_lt (by lia) (by lia), fun p X hX => ?_⟩
        · by_cases q : j = a
          · rw [q]; exact g0
          · exact h4 j q1 (by lia)
        · unfold F_X8_found_l2
          rw [hκ]
          exact ⟨⟨by decide, by decide⟩, br_t h5 (br_f (by lia) ⟨⟨by lia, by lia⟩, m_foundIn hκ g0 _ _ (fun q => absurd q (by decide)) (fun _ => hX)⟩)⟩
      · refine Or.inr ⟨r1, Or.inr ⟨h3, Or.inl ⟨a, ⟨h1, h5⟩, h4, g0, e.1⟩⟩, fun p X hp => ?_⟩
        unfold F_X8_found_l2
        rw [hκ]
        exact ⟨⟨by decide, by decide⟩, br_t h5 (br_f (by lia) ⟨⟨by lia, by lia⟩, m_foundIn hκ g0 _ _ (fun _ => hp) (fun q => absurd e.1 (by rw [q]; decide))⟩)⟩
    · refine Or.inr ⟨-1, Or.inr ⟨h3, Or.inr ⟨rfl, fun j q1 q2 => h4 j q1 (by lia)⟩⟩, fun p X hp => ?_⟩
      unfold F_X8_found_l2
      rw [hκ]
      exact ⟨⟨by decide, by decide⟩, br_f h5 hp⟩
theorem NM_u {κ : Nat} {Q : VP} {d n r r' : Int32} (h : NM κ Q d n r) (h' : NM κ Q d n r') : r = r' := by
  rcases h' with ⟨g, g1⟩ | ⟨g1, g2, g3⟩
  · rw [g]; exact NM_no h g1
  · exact NM_at h g1.1 g1.2 g3 g2
theorem c_seek {i κ : Nat} {P Q : VP} (hG : RG i κ P Q) (hD : RD i κ P Q) (hB : BI P) {y : Nat} {s n r : Int32} (hy : P 7 y 1 = Q κ 0 (ix (48 + s))) (hr : LK κ Q s n r) : An (F_X6_seek i y n P) r := by
  obtain ⟨-, -, e3, e4, -, -, ⟨e5, e6⟩, -⟩ := hD
  obtain ⟨r0, h0⟩ := NM_ex κ Q (Q κ 0 (ix (48 + s))) n
  intro p hp
  unfold F_X6_seek
  rw [hy]
  refine c_named hG hB h0 _ ?_
  refine vL2_i (fun v k => (0 ≤ v ∧ v = r) ∨ (v = -1 ∧ (0 ≤ k ∧ k ≤ Q κ 0 (ix 2)) ∧ NM κ Q (Q κ 0 (ix (48 + s))) n (-1) ∧ ∀ j : Int32, 0 ≤ j → j < k → NM κ Q (Q κ 0 (ix (7 + j))) n (-1))) (fun v k => ix (5 - v - k)) (fun X v k hI hX => ?_) ?_
  · unfold F_X6_seek_l13
    rcases hI with ⟨g1, rfl⟩ | ⟨rfl, ⟨g1, g2⟩, g3, g4⟩
    · exact br_f (by lia) hp
    · by_cases h1 : k < Q κ 0 (ix 2)
      · obtain ⟨r1, k0⟩ := NM_ex κ Q (Q κ 0 (ix (7 + k))) n
        refine br_t (by decide) (br_t (by lia) (br_t (by lia) ⟨⟨by lia, by lia⟩, ?_⟩))
        rw [e4 k g1 (by lia)]
        refine c_named hG hB k0 _ (hX _ _ ?_ ?_)
        · rcases NM_r k0 with e | e
          · subst e
            refine Or.inr ⟨rfl, ⟨by lia, by lia⟩, g3, fun j q1 q2 => ?_⟩
            by_cases q : j = k
            · rw [q]; exact k0
            · exact g4 j q1 (by lia)
          · refine Or.inl ⟨e.1, ?_⟩
            rcases hr with ⟨a1, a2⟩ | ⟨-, ⟨k', b1, b2, b3, b4⟩ | ⟨-, b2⟩⟩
            · have := NM_u a1 g3
              lia
            · by_cases q1 : k' < k
              · have := NM_u (g4 k' b1.1 q1) b3
                lia
              · by_cases q2 : k < k'
                · have := NM_u (b2 k g1 q2) k0
                  lia
                · have : k' = k := by lia
                  subst this
                  exact NM_u k0 b3
            · have := NM_u (b2 k g1 h1) k0
              lia
        · rcases NM_r k0 with e | e
          · subst e
            exact ix_lt (by lia) (by lia)
          · by_cases q : 0 ≤ 5 - r1 - (k + 1)
            · exact ix_lt q (by lia)
            · exact ix_lt' (by lia) (by lia)
      · have e : r = -1 := by
          rcases hr with ⟨a1, a2⟩ | ⟨-, ⟨k', b1, b2, b3, b4⟩ | ⟨b, -⟩⟩
          · have := NM_u a1 g3
            lia
          · have := NM_u (g4 k' b1.1 (by lia)) b3
            lia
          · exact b
        rw [e] at hp
        exact br_t (by decide) (br_f (by lia) hp)
  · rcases NM_r h0 with e | e
    · subst e
      exact Or.inr ⟨rfl, ⟨by decide, e5⟩, h0, fun j q1 q2 => absurd q2 (by lia)⟩
    · refine Or.inl ⟨e.1, ?_⟩
      rcases hr with ⟨a1, -⟩ | ⟨a1, -⟩
      · exact NM_u h0 a1
      · have := NM_u h0 a1
        lia
