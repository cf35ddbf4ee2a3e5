/-! sets of rings, told by the bits of a number 1..255 -/
set_option maxRecDepth 100000 in
theorem bs_all {v x : Int32} (hv : 0 ≤ v ∧ v < 256) (hx : 0 ≤ x ∧ x < 8) : (v &&& (1 <<< (x &&& 31)) = 0 ↔ ¬ (v >>> (x &&& 31)) &&& 1 = 1) ∧ ((v >>> (x &&& 31)) &&& 1 = 0 ↔ v &&& (1 <<< (x &&& 31)) = 0) ∧ ((1 : Int32) ≤ v ||| (1 <<< (x &&& 31)) ∧ v ||| (1 <<< (x &&& 31)) < (256 : Int32)) ∧ (v ||| (1 <<< (x &&& 31))) ||| (1 <<< (x &&& 31)) = v ||| (1 <<< (x &&& 31)) ∧ v ||| 0 = v := by
  obtain ⟨i, hi, rfl⟩ := in_nI (n := 256) (by decide) rfl hv
  obtain ⟨j, hj, rfl⟩ := in_nI (n := 8) (by decide) rfl hx
  exact (show ∀ i, i < 256 → ∀ j, j < 8 → (nI i &&& (1 <<< (nI j &&& 31)) = 0 ↔ ¬ (nI i >>> (nI j &&& 31)) &&& 1 = 1) ∧ ((nI i >>> (nI j &&& 31)) &&& 1 = 0 ↔ nI i &&& (1 <<< (nI j &&& 31)) = 0) ∧ ((1 : Int32) ≤ nI i ||| (1 <<< (nI j &&& 31)) ∧ nI i ||| (1 <<< (nI j &&& 31)) < (256 : Int32)) ∧ (nI i ||| (1 <<< (nI j &&& 31))) ||| (1 <<< (nI j &&& 31)) = nI i ||| (1 <<< (nI j &&& 31)) ∧ nI i ||| 0 = nI i by decide +kernel) i hi j hj
set_option maxRecDepth 100000 in
theorem bs_low {v : Int32} (hv : 1 ≤ v ∧ v < 256) : ∃ j : Int32, (0 ≤ j ∧ j < 8) ∧ ¬ v &&& (1 <<< (j &&& 31)) = 0 := by
  obtain ⟨i, hi, rfl⟩ := in_nI (x := v) (n := 256) (by decide) rfl ⟨by lia, hv.2⟩
  have h := (show ∀ i, i < 256 → i = 0 ∨ ∃ j, j < 8 ∧ (0 ≤ nI j ∧ nI j < 8) ∧ ¬ nI i &&& (1 <<< (nI j &&& 31)) = 0 by decide +kernel) i hi
  rcases h with rfl | ⟨j, -, h1, h2⟩
  · exact absurd hv.1 (by decide)
  · exact ⟨nI j, h1, h2⟩
set_option maxRecDepth 100000 in
theorem bs_one {x : Int32} (hx : 0 ≤ x ∧ x < 8) : 1 ≤ (1 : Int32) <<< (x &&& 31) ∧ (1 : Int32) <<< (x &&& 31) < 256 := by
  obtain ⟨j, hj, rfl⟩ := in_nI (n := 8) (by decide) rfl hx
  exact (show ∀ j, j < 8 → 1 ≤ (1 : Int32) <<< (nI j &&& 31) ∧ (1 : Int32) <<< (nI j &&& 31) < 256 by decide +kernel) j hj
theorem d_low {P Q : VP} {v : Int32} (hv : 1 ≤ v ∧ v < 256) (x1 x2 : Int32) : ∃ r, True ∧ An (F_X7_lowestBit v P) r ∧ An (fun p => vL1 (F_X8_ways_l80 x1 x2 Q p v) 0) r := by
  obtain ⟨j, hj, hb⟩ := bs_low hv
  refine lk1_1 (F_X7_lowestBit_l2 v P) (fun p => F_X8_ways_l80 x1 x2 Q p v) (fun a b => a = b ∧ 0 ≤ a ∧ a ≤ j) (fun _ => True) (fun a => ix (8 - a)) ?_ ⟨rfl, by decide, hj.1⟩
  rintro a b ⟨rfl, h0, h1⟩
  have ha : 0 ≤ a ∧ a < 8 := ⟨h0, by lia⟩
  have t := (bs_all ⟨by lia, hv.2⟩ ha).2.1
  by_cases h2 : v &&& (1 <<< (a &&& 31)) = 0
  · have h3 : ¬ a = j := fun q => hb (by rw [← q]; exact h2)
    refine Or.inl ⟨a + 1, a + 1, ⟨rfl, by lia, by lia⟩, ix_lt (by lia) (by lia), fun p X hX => ?_, fun p X hX => ?_⟩
    · unfold F_X7_lowestBit_l2
      exact br_t ha.2 (br_t h2 hX)
    · show F_X8_ways_l80 _ _ _ _ _ _ _
      unfold F_X8_ways_l80
      exact br_t (t.2 h2) hX
  · refine Or.inr ⟨a, trivial, fun p X hp => ?_, fun p X hp => ?_⟩
    · unfold F_X7_lowestBit_l2
      exact br_t ha.2 (br_f h2 hp)
    · show F_X8_ways_l80 _ _ _ _ _ _ _
      unfold F_X8_ways_l80
      exact br_f (fun q => h2 (t.1 q)) hp
def fb (v e : Int32) : Int32 := if e < 0 then v else v ||| (1 <<< (e &&& 31))
theorem fb_in {v e : Int32} (hv : 1 ≤ v ∧ v < 256) (he : e < 0 ∨ (0 ≤ e ∧ e < 8)) : 1 ≤ fb v e ∧ fb v e < 256 := by
  unfold fb
  by_cases h : e < 0
  · rw [if_pos h]; exact hv
  · rw [if_neg h]
    rcases he with q | q
    · exact absurd q h
    · exact (bs_all ⟨by lia, hv.2⟩ q).2.2.1
theorem m_words {Q : VP} {x1 s e e0 v : Int32} (hbit : (x1 >>> (e &&& 31)) &&& 1 = 1) (hv : 1 ≤ v ∧ v < 256) (he : e0 < 0 ∨ (0 ≤ e0 ∧ e0 < 8)) (hE : ∀ w : Int32, 0 ≤ w → w < 24 → ∃ ew, An (F_X8_entered 23 s w e Q) ew ∧ (ew < 0 ∨ ew = e0) ∧ (w = 0 → ew = e0)) (post : Int32 → Prop) (X4 X13 : Int32 → Int32 → Prop) (hX : X13 (fb v e0) (s + 1)) : vL2 (F_X8_further_l23 x1 Q post X4 X13 e s) v 0 := by
  refine vL2_i (fun v' w => (w = 0 ∧ v' = v) ∨ ((1 ≤ w ∧ w ≤ 24) ∧ v' = fb v e0)) (fun _ w => ix (24 - w)) ?_ (Or.inl ⟨rfl, rfl⟩)
  rintro X v' w h hY
  have key : 0 ≤ w ∧ w ≤ 24 := by
    rcases h with ⟨q, -⟩ | ⟨q, -⟩
    · rw [q]; decide
    · exact ⟨by lia, q.2⟩
  have hf := fb_in hv he
  unfold F_X8_further_l23
  by_cases h2 : w < 24
  · obtain ⟨ew, q1, q2, q3⟩ := hE w key.1 h2
    have hm : ix (24 - (w + 1)) < ix (24 - w) := ix_lt (by lia) (by lia)
    refine br_t h2 (br_t hbit (q1 _ ?_))
    by_cases h3 : ew < 0
    · refine br_t h3 (hY _ _ (Or.inr ⟨⟨by lia, by lia⟩, ?_⟩) hm)
      rcases h with ⟨h5, h6⟩ | ⟨h5, h6⟩
      · have h7 := q3 h5
        rw [h6]
        unfold fb
        rw [if_pos (by rw [← h7]; exact h3)]
        exact (bs_all (x := 0) ⟨by lia, hv.2⟩ (by decide)).2.2.2.2
      · rw [h6]
        exact (bs_all (x := 0) ⟨by lia, hf.2⟩ (by decide)).2.2.2.2
    · have h4 : ew = e0 := q2.resolve_left h3
      have h8 : ¬ e0 < 0 := by rw [← h4]; exact h3
      have h9 : 0 ≤ e0 ∧ e0 < 8 := he.resolve_left h8
      refine br_f h3 (hY _ _ (Or.inr ⟨⟨by lia, by lia⟩, ?_⟩) hm)
      rw [h4]
      rcases h with ⟨h5, h6⟩ | ⟨h5, h6⟩
      · rw [h6]; unfold fb; rw [if_neg h8]
      · rw [h6]; unfold fb; rw [if_neg h8]
        exact (bs_all ⟨by lia, hv.2⟩ h9).2.2.2.1
  · refine br_f h2 ?_
    rcases h with ⟨q, -⟩ | ⟨-, q⟩
    · exact absurd h2 (by rw [q]; decide)
    · rw [q]; exact hX
theorem EN_w {κ : Nat} {Q : VP} {s w e : Int32} (hw : 0 ≤ w) : EN κ Q s w e < 0 ∨ EN κ Q s w e = EN κ Q s 0 e := by
  unfold EN
  by_cases h1 : Q κ 0 (ix (160 + s)) &&& 4 = 0
  · rw [if_pos h1]; exact Or.inl (by decide)
  rw [if_neg h1, if_neg h1]
  by_cases h2 : e < Q κ 0 (ix (112 + s))
  · rw [if_pos h2, if_pos h2]; exact Or.inr rfl
  rw [if_neg h2, if_neg h2]
  by_cases h3 : Q κ 0 (ix (128 + s)) < e
  · rw [if_pos h3, if_pos h3]
    by_cases h4 : Q κ 0 (ix (144 + s)) < e
    · rw [if_pos h4]; exact Or.inl (by decide)
    rw [if_neg h4, if_neg h4]
    by_cases h5 : w < Q κ 0 (ix (176 + s))
    · rw [if_pos h5, if_pos (by lia)]; exact Or.inr rfl
    · rw [if_neg h5]; exact Or.inl (by decide)
  · rw [if_neg h3, if_neg h3]; exact Or.inr rfl
theorem EN_in {P Q : VP} {κ y : Nat} {s w e : Int32} (hH : RH P Q κ y s) (he : 0 ≤ e ∧ e < 8) : EN κ Q s w e < 0 ∨ (0 ≤ EN κ Q s w e ∧ EN κ Q s w e < 8) := by
  obtain ⟨-, -, -, -, -, -, -, -, -, -, -, k1, k2, k3, k4⟩ := hH
  unfold EN
  by_cases h1 : Q κ 0 (ix (160 + s)) &&& 4 = 0
  · rw [if_pos h1]; exact Or.inl (by decide)
  rw [if_neg h1]
  by_cases h2 : e < Q κ 0 (ix (112 + s))
  · rw [if_pos h2]; exact Or.inr ⟨by lia, by lia⟩
  rw [if_neg h2]
  by_cases h3 : Q κ 0 (ix (128 + s)) < e
  · rw [if_pos h3]
    by_cases h4 : Q κ 0 (ix (144 + s)) < e
    · rw [if_pos h4]; exact Or.inl (by decide)
    rw [if_neg h4]
    by_cases h5 : w < Q κ 0 (ix (176 + s))
    · rw [if_pos h5]; exact Or.inr ⟨by lia, by lia⟩
    · rw [if_neg h5]; exact Or.inl (by decide)
  · rw [if_neg h3]; exact Or.inr he
theorem d_entersT {i κ : Nat} {P Q : VP} (hG : RG i κ P Q) (hB : BI P) (hκ : vlI κ = 3464) {s w : Int32} (e : Int32) (hs : 0 ≤ s ∧ s < 16) (ht : Q κ 0 (ix (32 + s)) = 1) : RH P Q κ (16 * i + ix s) s ∧ (0 ≤ w ∧ w < Q κ 0 (ix (96 + s)) → An (F_X6_ringEntered i s w e P) (EN κ Q s w e) ∧ An (F_X8_entered κ s w e Q) (EN κ Q s w e)) ∧ (¬ (0 ≤ w ∧ w < Q κ 0 (ix (96 + s))) → An (F_X8_entered κ s w e Q) (-21)) := by
  rcases d_find hG hB hκ s with ⟨h1, h3, h4, h5, g5⟩ | ⟨g, -, -⟩
  · obtain ⟨k1, k2, k3, k4, k5, k6, k7, k8, k9, -, kl, -⟩ := id h4
    refine ⟨h4, fun hw => ?_, fun hw => ?_⟩
    · have h6 := c_has (y := 16 * i + ix s) (w := w) hB (by rw [k4]; exact hw)
      have h7 := (m_there (w := w) hκ g5 hs kl).1 hw
      refine ⟨fun p hp => ?_, fun p hp => ?_⟩
      · unfold F_X6_ringEntered
        refine h5 _ (h6 _ ?_)
        (try dsimp only)
        rw [k5, k6, k7, k8, k9]
        unfold EN at hp
        clear hG hB h5 h6 h7 g5
        grind (splits := 40)
      · unfold F_X8_entered
        rw [hκ]
        refine h7 _ ?_
        unfold EN at hp
        clear hG hB h5 h6 h7 g5
        grind (splits := 40)
    · have h7 := (m_there (w := w) hκ g5 hs kl).2 hw
      intro p hp
      unfold F_X8_entered
      exact h7 _ (br_f (by decide) hp)
  · exact absurd ⟨hs, ht⟩ g
theorem d_ringSegs {P Q : VP} (hG : RG 0 23 P Q) (hB : BI P) {x1 e v : Int32} (hx : 1 ≤ x1 ∧ x1 < 256) (he : 0 ≤ e ∧ e < 8) (hbit : ¬ x1 &&& (1 <<< (e &&& 31)) = 0) (hv : 1 ≤ v ∧ v < 256) : ∃ v', (1 ≤ v' ∧ v' < 256) ∧ (∀ (post : Int32 → Prop) (X4 : Int32 → Int32 → Prop), X4 v' (e + 1) → vL2 (F_X6_reachedByOneCall_l13 0 x1 P post X4 e) v 0) ∧ (∀ (post : Int32 → Prop) (X4 : Int32 → Int32 → Prop), X4 v' (e + 1) → vL2 (F_X8_further_l13 x1 Q post X4 e) v 0) := by
  have hb2 : (x1 >>> (e &&& 31)) &&& 1 = 1 := Classical.byContradiction fun q => hbit ((bs_all ⟨by lia, hx.2⟩ he).1.2 q)
  obtain ⟨⟨v', z⟩, ⟨hz, hr⟩, h1, h2⟩ := lk2_2 (ρ := Int32 × Int32) (fun p => F_X6_reachedByOneCall_l13 0 x1 P (fun _ => True) (fun a b => p (a, b)) e) (fun p => F_X8_further_l13 x1 Q (fun _ => True) (fun a b => p (a, b)) e) (fun a s a' s' => (a = a' ∧ s = s') ∧ (0 ≤ s ∧ s ≤ 16) ∧ 1 ≤ a ∧ a < 256) (fun r => r.2 = e + 1 ∧ 1 ≤ r.1 ∧ r.1 < 256) (fun _ s => ix (16 - s)) (by
    rintro a s a' s' ⟨⟨rfl, rfl⟩, ⟨h0, h1⟩, ha⟩
    by_cases h2 : s < 16
    · by_cases ht : Q 23 0 (ix (32 + s)) = 1
      · obtain ⟨hH, t1, -⟩ := d_entersT (w := 0) hG hB (κ := 23) rfl e ⟨h0, h2⟩ ht
        obtain ⟨t2, t3⟩ := t1 ⟨by decide, by have := hH.2.2.2.2.2.2.2.2.2.2.1; lia⟩
        have hin := EN_in (w := 0) hH he
        refine Or.inl ⟨fb a (EN 23 Q s 0 e), s + 1, fb a (EN 23 Q s 0 e), s + 1, ⟨⟨rfl, rfl⟩, ⟨by lia, by lia⟩, fb_in ha hin⟩, ix_lt (by lia) (by lia), fun p X hX => ?_, fun p X hX => ?_⟩
        · show F_X6_reachedByOneCall_l13 _ _ _ _ _ _ _ _ _
          unfold F_X6_reachedByOneCall_l13
          refine br_f hbit (br_t h2 (t2 _ ?_))
          unfold fb at hX
          by_cases h5 : EN 23 Q s 0 e < 0
          · rw [if_pos h5] at hX; exact br_t h5 hX
          · rw [if_neg h5] at hX; exact br_f h5 hX
        · show F_X8_further_l13 _ _ _ _ _ _ _ _
          unfold F_X8_further_l13
          refine br_t h2 (m_words hb2 ha hin (fun w w0 w1 => ?_) _ _ _ hX)
          by_cases hw : 0 ≤ w ∧ w < Q 23 0 (ix (96 + s))
          · exact ⟨_, ((d_entersT (w := w) hG hB (κ := 23) rfl e ⟨h0, h2⟩ ht).2.1 hw).2, EN_w w0, fun q => by rw [q]⟩
          · exact ⟨_, (d_entersT (w := w) hG hB (κ := 23) rfl e ⟨h0, h2⟩ ht).2.2 hw, Or.inl (by decide), fun q => absurd (show 0 ≤ w ∧ w < Q 23 0 (ix (96 + s)) from ⟨w0, by have := hH.2.2.2.2.2.2.2.2.2.2.1; lia⟩) hw⟩
      · rcases d_find hG hB (κ := 23) rfl s with ⟨g, -⟩ | ⟨-, g1, g2⟩
        · exact absurd g.2 ht
        · have e20 : fb a (-20) = a := by unfold fb; rw [if_pos (by decide)]
          refine Or.inl ⟨a, s + 1, a, s + 1, ⟨⟨rfl, rfl⟩, ⟨by lia, by lia⟩, ha⟩, ix_lt (by lia) (by lia), fun p X hX => ?_, fun p X hX => ?_⟩
          · show F_X6_reachedByOneCall_l13 _ _ _ _ _ _ _ _ _
            unfold F_X6_reachedByOneCall_l13
            refine br_f hbit (br_t h2 ?_)
            unfold F_X6_ringEntered
            exact g1 _ (br_t (by decide) hX)
          · show F_X8_further_l13 _ _ _ _ _ _ _ _
            unfold F_X8_further_l13
            refine br_t h2 (m_words (e0 := -20) hb2 ha (Or.inl (by decide)) (fun w w0 w1 => ⟨-20, fun p hp => ?_, Or.inr rfl, fun _ => rfl⟩) _ _ _ (by rw [e20]; exact hX))
            unfold F_X8_entered
            exact m_thereN g2 _ (br_f (by decide) hp)
    · refine Or.inr ⟨(a, e + 1), ⟨rfl, ha⟩, fun p X hp => ?_, fun p X hp => ?_⟩
      · show F_X6_reachedByOneCall_l13 _ _ _ _ _ _ _ _ _
        unfold F_X6_reachedByOneCall_l13
        exact br_f hbit (br_f h2 hp)
      · show F_X8_further_l13 _ _ _ _ _ _ _ _
        unfold F_X8_further_l13
        exact br_f h2 hp) (a1 := v) (a2 := 0) (b1 := v) (b2 := 0) ⟨⟨rfl, rfl⟩, ⟨by decide, by decide⟩, hv⟩
  have hz' : z = e + 1 := hz
  subst hz'
  exact ⟨v', hr, fun post X4 hX => h1 (fun q => X4 q.1 q.2) hX, fun post X4 hX => h2 (fun q => X4 q.1 q.2) hX⟩
theorem m_ringNone {Q : VP} {x1 e v : Int32} (hbit : ¬ (x1 >>> (e &&& 31)) &&& 1 = 1) (post : Int32 → Prop) (X4 : Int32 → Int32 → Prop) (hX : X4 v (e + 1)) : vL2 (F_X8_further_l13 x1 Q post X4 e) v 0 := by
  refine vL2_i (fun a s => a = v ∧ 0 ≤ s ∧ s ≤ 16) (fun _ s => ix (16 - s)) ?_ ⟨rfl, by decide, by decide⟩
  rintro X a s ⟨rfl, h0, h1⟩ hY
  unfold F_X8_further_l13
  by_cases h2 : s < 16
  · refine br_t h2 ⟨1, ?_⟩
    show F_X8_further_l23 _ _ _ _ _ _ _ _ _ _
    unfold F_X8_further_l23
    exact br_t (by decide) (br_f hbit (hY _ _ ⟨rfl, by lia, by lia⟩ (ix_lt (by lia) (by lia))))
  · exact br_f h2 hX
theorem d_further {P Q : VP} (hG : RG 0 23 P Q) (hB : BI P) {x1 : Int32} (hx : 1 ≤ x1 ∧ x1 < 256) : ∃ r, (1 ≤ r ∧ r < 256) ∧ An (F_X6_reachedByOneCall 0 x1 P) r ∧ An (F_X8_further x1 Q) r := by
  refine lk2_2 (F_X6_reachedByOneCall_l4 0 x1 P) (F_X8_further_l4 x1 Q) (fun a e a' e' => (a = a' ∧ e = e') ∧ (0 ≤ e ∧ e ≤ 8) ∧ 1 ≤ a ∧ a < 256) (fun r => 1 ≤ r ∧ r < 256) (fun _ e => ix (8 - e)) ?_ ⟨⟨rfl, rfl⟩, ⟨by decide, by decide⟩, hx⟩
  rintro a e a' e' ⟨⟨rfl, rfl⟩, ⟨h0, h1⟩, ha⟩
  by_cases h2 : e < 8
  · by_cases hbit : x1 &&& (1 <<< (e &&& 31)) = 0
    · refine Or.inl ⟨a, e + 1, a, e + 1, ⟨⟨rfl, rfl⟩, ⟨by lia, by lia⟩, ha⟩, ix_lt (by lia) (by lia), fun p X hX => ?_, fun p X hX => ?_⟩
      · unfold F_X6_reachedByOneCall_l4
        refine br_t h2 ⟨1, ?_⟩
        show F_X6_reachedByOneCall_l13 _ _ _ _ _ _ _ _ _
        unfold F_X6_reachedByOneCall_l13
        exact br_t hbit hX
      · unfold F_X8_further_l4
        exact br_t h2 (m_ringNone ((bs_all ⟨by lia, hx.2⟩ ⟨h0, h2⟩).1.1 hbit) _ _ hX)
    · obtain ⟨v', hv', q1, q2⟩ := d_ringSegs hG hB hx ⟨h0, h2⟩ hbit ha
      refine Or.inl ⟨v', e + 1, v', e + 1, ⟨⟨rfl, rfl⟩, ⟨by lia, by lia⟩, hv'⟩, ix_lt (by lia) (by lia), fun p X hX => ?_, fun p X hX => ?_⟩
      · unfold F_X6_reachedByOneCall_l4
        exact br_t h2 (q1 _ _ hX)
      · unfold F_X8_further_l4
        exact br_t h2 (q2 _ _ hX)
  · refine Or.inr ⟨a, ha, fun p X hp => ?_, fun p X hp => ?_⟩
    · unfold F_X6_reachedByOneCall_l4
      exact br_f h2 hp
    · unfold F_X8_further_l4
      exact br_f h2 hp
theorem D_ways {P Q : VP} (h : RR P Q) (x1 x2 : Int32) : ∃ r, An (F_X7_ways x1 x2 P) r ∧ An (F_X8_ways x1 x2 Q) r := by
  obtain ⟨hB, ⟨hS, hD, hG, hW, hF⟩, -⟩ := h
  by_cases h1 : 0 ≤ x1 ∧ x1 < 8
  · by_cases h2 : -1 ≤ x2 ∧ x2 < 8
    · obtain ⟨r, -, r1, r2⟩ : ∃ r, True ∧ An (fun p => vL2 (F_X7_ways_l29 x1 x2 P p) (1 <<< (x1 &&& 31)) 0) r ∧ An (fun p => vL2 (F_X8_ways_l35 x1 x2 Q p) (1 <<< (x1 &&& 31)) 0) r := by
        refine lk2_2 (F_X7_ways_l29 x1 x2 P) (F_X8_ways_l35 x1 x2 Q) (fun a k a' k' => (a = a' ∧ k = k') ∧ (0 ≤ k ∧ k ≤ 8) ∧ 1 ≤ a ∧ a < 256) (fun _ => True) (fun _ k => ix (8 - k)) ?_ ⟨⟨rfl, rfl⟩, ⟨by decide, by decide⟩, bs_one h1⟩
        rintro a k a' k' ⟨⟨rfl, rfl⟩, ⟨k0, k1⟩, ha⟩
        by_cases h3 : k < 8
        · obtain ⟨v', hv', q1, q2⟩ := d_further hG hB ha
          by_cases h4 : x2 < 0
          · refine Or.inl ⟨v', k + 1, v', k + 1, ⟨⟨rfl, rfl⟩, ⟨by lia, by lia⟩, hv'⟩, ix_lt (by lia) (by lia), fun p X hX => ?_, fun p X hX => ?_⟩
            · unfold F_X7_ways_l29 F_X7_ways_b51
              exact br_t h3 (br_t h4 (q1 _ hX))
            · unfold F_X8_ways_l35 F_X8_ways_b58
              exact br_t h3 (br_t h4 (q2 _ hX))
          · have hb := (bs_all (v := a) (x := x2) ⟨by lia, ha.2⟩ ⟨by lia, h2.2⟩).1
            by_cases h5 : a &&& (1 <<< (x2 &&& 31)) = 0
            · refine Or.inl ⟨v', k + 1, v', k + 1, ⟨⟨rfl, rfl⟩, ⟨by lia, by lia⟩, hv'⟩, ix_lt (by lia) (by lia), fun p X hX => ?_, fun p X hX => ?_⟩
              · unfold F_X7_ways_l29 F_X7_ways_b51
                exact br_t h3 (br_f h4 (br_t h5 (q1 _ hX)))
              · unfold F_X8_ways_l35 F_X8_ways_b58
                exact br_t h3 (br_f h4 (br_f (hb.1 h5) (q2 _ hX)))
            · refine Or.inr ⟨k, trivial, fun p X hp => ?_, fun p X hp => ?_⟩
              · unfold F_X7_ways_l29
                exact br_t h3 (br_f h4 (br_f h5 hp))
              · unfold F_X8_ways_l35
                exact br_t h3 (br_f h4 (br_t (Classical.byContradiction fun q => h5 (hb.2 q)) hp))
        · by_cases h4 : x2 < 0
          · obtain ⟨r, -, q1, q2⟩ := d_low (P := P) (Q := Q) ha x1 x2
            refine Or.inr ⟨r, trivial, fun p X hp => ?_, fun p X hp => ?_⟩
            · unfold F_X7_ways_l29
              exact br_f h3 (br_t h4 (q1 _ hp))
            · unfold F_X8_ways_l35
              exact br_f h3 (br_t h4 (q2 _ hp))
          · refine Or.inr ⟨-2, trivial, fun p X hp => ?_, fun p X hp => ?_⟩
            · unfold F_X7_ways_l29
              exact br_f h3 (br_f h4 hp)
            · unfold F_X8_ways_l35
              exact br_f h3 (br_f h4 hp)
      refine ⟨r, fun p hp => ?_, fun p hp => ?_⟩
      · unfold F_X7_ways
        exact c_belowT h1 _ (br_f (by decide) (br_f (by lia) (br_t h2.2 (r1 _ hp))))
      · unfold F_X8_ways
        exact m_inT (x := x1) (lo := 0) (hi := 7) ⟨h1.1, by lia⟩ _ (br_f (by decide) (m_inT (x := x2) (lo := -1) (hi := 7) ⟨h2.1, by lia⟩ _ (br_f (by decide) (r2 _ hp))))
    · refine ⟨-1, fun p hp => ?_, fun p hp => ?_⟩
      · unfold F_X7_ways
        refine c_belowT h1 _ (br_f (by decide) ?_)
        by_cases h3 : x2 < -1
        · exact br_t h3 hp
        · exact br_f h3 (br_f (by lia) hp)
      · unfold F_X8_ways
        exact m_inT (x := x1) (lo := 0) (hi := 7) ⟨h1.1, by lia⟩ _ (br_f (by decide) (m_inF (x := x2) (lo := -1) (hi := 7) (by lia) _ (br_t rfl hp)))
  · refine ⟨-1, fun p hp => ?_, fun p hp => ?_⟩
    · unfold F_X7_ways
      exact c_belowF h1 _ (br_t rfl hp)
    · unfold F_X8_ways
      exact m_inF (x := x1) (lo := 0) (hi := 7) (by lia) _ (br_t rfl hp)
