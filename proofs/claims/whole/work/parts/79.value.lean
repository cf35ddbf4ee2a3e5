/-! the text: a value, a letter -/
theorem i_val {P Q : VP} {L : Int32} {B : Int32 → Int32} {x m v1 : Int32} (h : TS P Q L B x m) (hx : 0 ≤ x ∧ x ≤ L) (hm : 0 ≤ m ∧ m ≤ 60) :
  (∃ f v' P1 Q1, 0 ≤ f ∧ P1 17 0 7 = f ∧ FCp P P1 ∧ FMq Q Q1 ∧ Q1 22 0 9 = f ∧ (∀ post : Int32 → VP → Prop, post v' P1 → F_X5_readNumber 4 9999 P post) ∧ (∀ post : Int32 → VP → Prop, post 0 Q1 → F_X8_many (Q 22 0 8) 48 57 Q (fun r57 => (r57 < 1 → F_X8_stops Q (fun r72 Q72 => (r72 = 0 ∨ r72 = 1) ∧ (post r72 Q72))) ∧ (¬ r57 < 1 → ((4 : Int32) < r57 → F_X8_stops Q (fun r72 Q72 => (r72 = 0 ∨ r72 = 1) ∧ (post r72 Q72))) ∧ (¬ (4 : Int32) < r57 → vL2 (F_X8_value_l81 Q post v1 r57) 0 0))))) ∨
  (∃ v y P1 Q1, (x < y ∧ y ≤ L) ∧ TS P1 Q1 L B y m ∧ (∀ k x' j, ¬ (k = 17 ∧ x' = 0 ∧ j = 6) → P1 k x' j = P k x' j) ∧ Q1 27 0 (ix ((4 * m) + 1)) = (if v1 = 0 then v else -v) ∧ (∀ k x' j, ¬ (k = 22 ∧ j = 8) → ¬ (k = 27 ∧ j = ix ((4 * m) + 1)) → Q1 k x' j = Q k x' j) ∧ (∀ post : Int32 → VP → Prop, post v P1 → F_X5_readNumber 4 9999 P post) ∧ (∀ post : Int32 → VP → Prop, post 1 Q1 → F_X8_many (Q 22 0 8) 48 57 Q (fun r57 => (r57 < 1 → F_X8_stops Q (fun r72 Q72 => (r72 = 0 ∨ r72 = 1) ∧ (post r72 Q72))) ∧ (¬ r57 < 1 → ((4 : Int32) < r57 → F_X8_stops Q (fun r72 Q72 => (r72 = 0 ∨ r72 = 1) ∧ (post r72 Q72))) ∧ (¬ (4 : Int32) < r57 → vL2 (F_X8_value_l81 Q post v1 r57) 0 0))))) := by
  have hL := h.1.2.2.1.2
  obtain ⟨e, hr⟩ := RU_ex (lo := 48) (hi := 57) h.1 hx (by decide)
  obtain ⟨v, P1, ⟨c1, c2, c3, c4⟩, c5⟩ := c_number (d := 4) (most := 9999) h.1 hx.1 h.2.1.1 hr (Or.inr rfl)
  have mm := m_many h.1 hx.1 hr
  have e120 := q_5 hr.1.2 hL
  obtain ⟨a1, a2, a3, a4⟩ := q_3 hx.1 ⟨hr.1.1, e120⟩
  have rb := RU_at hr hx.1 hL
  have hTB : TB P1 Q L B := TB_of h.1 (c2 17 0 1 (by omega)) (fun j => c2 18 0 j (by omega)) rfl (fun _ => rfl)
  by_cases ok : 1 ≤ e - x ∧ e - x ≤ 4
  · have vin := VL_in (B := B) (x := x) (n := e - x) ok rb
    obtain ⟨c6, c7⟩ := c3 ⟨ok, vin.2⟩
    have fr7 : ∀ k x' j, ¬ (k = 17 ∧ x' = 0 ∧ j = 6) → P1 k x' j = P k x' j := fun k x' j hk => by
      by_cases q : k = 17 ∧ x' = 0 ∧ j = 7
      · rw [q.1, q.2.1, q.2.2]; exact c7
      · exact c2 k x' j (by omega)
    refine Or.inr ⟨v, e, P1, vup (vup Q 22 0 8 e) 27 0 (ix ((4 * m) + 1)) (if v1 = 0 then v else -v), ⟨by have := ok.1; lia, hr.1.2⟩, ⟨TB_of hTB rfl (fun _ => rfl) ?_ (fun j => ?_), ⟨c1, ?_⟩, ⟨?_, ?_⟩, ?_, ?_⟩, fr7, vup_eq _ _ _ _ _, fun k x' j a b => ?_, c5, fun post hp' => ?_⟩
    · rw [kup_ne (by decide), vup_ne (by omega)]
    · rw [kup_ne (by decide), kup_ne (by decide)]
    · rw [kup_ne (by decide), vup_eq]
    · rw [c7]; exact h.2.2.1.1
    · rw [kup_ne (by decide), vup_ne (by omega)]; exact h.2.2.1.2
    · rw [c2 17 0 2 (by omega)]; exact h.2.2.2.1
    · rw [kup_ne (by decide), vup_ne (by omega)]; exact h.2.2.2.2
    · rw [vup_ne (by omega), vup_ne (by omega)]
    · rw [h.2.1.2]
      refine mm _ (br_f (by have := ok.1; lia) (br_f (by have := ok.2; lia) (vL2_i (fun v3 v4 => (0 ≤ v4 ∧ v4 ≤ e - x) ∧ v3 = VL B x v4) (fun _ v4 => ix ((e - x) - v4)) (fun X v3 v4 ⟨⟨v0, v1'⟩, hv⟩ hX => ?_) ⟨⟨by decide, a2⟩, rfl⟩)))
      unfold F_X8_value_l81
      rw [h.2.1.2]
      by_cases hv4 : v4 < e - x
      · obtain ⟨w1, w2, w3, w4⟩ := q_12 v0 hv4 ok.2
        refine br_t hv4 (m_byte h.1 (t_6 hx.1 ⟨v0, hv4⟩ ⟨hr.1.1, e120⟩).1 _ (hX _ _ ⟨w1, ?_⟩ (ix_lt w3 w4)))
        rw [VL_st w2, hv]
      · have hve : v4 = e - x := by lia
        subst hve
        refine br_f hv4 (fun Q120 e1 => ?_)
        rw [a1] at e1
        subst e1
        rw [vup_ne (by omega), h.2.2.2.2]
        rw [hv, ← c6]
        by_cases z : v1 = 0
        · rw [if_pos z] at hp'
          refine br_t z ⟨q_10 hm (by decide), fun Q145 e2 => ?_⟩
          subst e2
          exact hp'
        · rw [if_neg z] at hp'
          refine br_f z ⟨q_10 hm (by decide), fun Q145 e2 => ?_⟩
          subst e2
          exact hp'
  · refine Or.inl ⟨x, v, P1, vup Q 22 0 9 x, hx.1, c4 (fun q => ok q.1), fun k x' j a b => c2 k x' j (by omega), fun k x' j a b => vup_ne (by omega), vup_eq _ _ _ _ _, c5, fun post hp' => ?_⟩
    have stop : F_X8_stops Q (fun r72 Q72 => (r72 = 0 ∨ r72 = 1) ∧ post r72 Q72) := m_stops h.2.1.2 h.2.2.1.2 hp'
    rw [h.2.1.2]
    by_cases z1 : e - x < 1
    · exact mm _ (br_t z1 stop)
    · exact mm _ (br_f z1 (br_t (by lia) stop))
theorem q_13 (x : Int32) : x + 0 = x := by lia
theorem i_value {P Q : VP} {L : Int32} {B : Int32 → Int32} {x m : Int32} (h : TS P Q L B x m) (hx : 0 ≤ x ∧ x ≤ L) (hm : 0 ≤ m ∧ m ≤ 60) : PI P Q L B x m 86 1 (fun _ => True) (fun post => F_X8_byteAt (Q 22 0 8) Q (fun r16 => (r16 = 45 → ((1 : Int32) = 0 → F_X8_value_b44 Q post ((1 : Int32)) ((0 : Int32)) (Q 22 0 8)) ∧ (¬ (1 : Int32) = 0 → F_X8_value_b44 Q post ((1 : Int32)) ((1 : Int32)) (Q 22 0 8))) ∧ (¬ r16 = 45 → ((0 : Int32) = 0 → F_X8_value_b44 Q post ((0 : Int32)) ((0 : Int32)) (Q 22 0 8)) ∧ (¬ (0 : Int32) = 0 → F_X8_value_b44 Q post ((0 : Int32)) ((1 : Int32)) (Q 22 0 8))))) := by
  have cb := c_byte h.1 hx.1
  have mb := m_byte h.1 hx.1
  have hL := h.1.2.2.1.2
  have hc : ∀ post : Int32 → VP → Prop, F_X5_readSigned P post → F_X5_readPart 86 P post := fun post hp => by
    unfold F_X5_readPart
    exact br_f (by decide) (br_f (by decide) (br_f (by decide) (br_f (by decide) (br_f (by decide) (br_f (by decide) (br_f (by decide) (br_f (by decide) (br_f (by decide) (br_f (by decide) (br_f (by decide) (br_t rfl hp)))))))))))
  by_cases hb : B x = 45
  · have hxL := B_lt h.1 (x := x) (by rw [hb]; decide)
    obtain ⟨w1, w2, w3⟩ := q_9 ⟨hx.1, hxL⟩ hL
    have h2 := TS_at (y := x + 1) h
    have cl : ∀ post : Int32 → VP → Prop, F_X5_readNumber 4 9999 (vup P 17 0 6 (x + 1)) (fun r37 P37 => post (-r37) P37) → F_X5_readPart 86 P post := fun post hp => by
      refine hc post ?_
      unfold F_X5_readSigned
      rw [h.2.1.1]
      refine cb _ (br_t hb (fun P29 e1 => ?_))
      subst e1
      exact hp
    have e8 : vup Q 22 0 8 (x + 1) 22 0 8 = x + 1 := vup_eq _ _ _ _ _
    rcases i_val (v1 := 1) h2 ⟨w1, w2⟩ hm with ⟨f, v', P1, Q1, f0, f1, f2, f3, f4, f5, f6⟩ | ⟨v, y, P1, Q1, ⟨y1, y2⟩, y3, y4, y5, y6, y7, y8⟩
    · refine Or.inl ⟨f, -v', P1, Q1, f0, f1, fun k x' j a b => ?_, fun k x' j a b => ?_, f4, fun post hp => cl post (f5 _ hp), fun post hp => ?_⟩
      · rw [f2 k x' j a b, vup_ne (by omega)]
      · rw [f3 k x' j a b, vup_ne (by omega)]
      · rw [h.2.1.2]
        refine mb _ (br_t hb (br_f (by decide) ?_))
        unfold F_X8_value_b44
        intro Q45 e1
        subst e1
        exact f6 post hp
    · refine Or.inr ⟨-v, y, P1, Q1, trivial, ⟨p_tr w3 y1, y2⟩, y3, fun k x' j a => ?_, y5, fun k x' j a b => ?_, fun post hp => cl post (y7 _ hp), fun post hp => ?_⟩
      · rw [y4 k x' j a, vup_ne a]
      · rw [y6 k x' j a b, vup_ne (by omega)]
      · rw [h.2.1.2]
        refine mb _ (br_t hb (br_f (by decide) ?_))
        unfold F_X8_value_b44
        intro Q45 e1
        subst e1
        exact y8 post hp
  · have h2 : TS P (vup Q 22 0 8 (x + 0)) L B x m := by
      obtain ⟨h1, h2, h3, h4⟩ := h
      refine ⟨TB_of h1 rfl (fun _ => rfl) (vup_ne (by omega)) (fun j => kup_ne (by decide)), ⟨h2.1, by rw [vup_eq, q_13]⟩, ⟨h3.1, ?_⟩, h4.1, ?_⟩
      · rw [vup_ne (by omega)]; exact h3.2
      · rw [vup_ne (by omega)]; exact h4.2
    have cl : ∀ post : Int32 → VP → Prop, F_X5_readNumber 4 9999 P post → F_X5_readPart 86 P post := fun post hp => by
      refine hc post ?_
      unfold F_X5_readSigned
      rw [h.2.1.1]
      exact cb _ (br_f hb hp)
    rcases i_val (v1 := 0) h2 hx hm with ⟨f, v', P1, Q1, f0, f1, f2, f3, f4, f5, f6⟩ | ⟨v, y, P1, Q1, ⟨y1, y2⟩, y3, y4, y5, y6, y7, y8⟩
    · refine Or.inl ⟨f, v', P1, Q1, f0, f1, f2, fun k x' j a b => ?_, f4, fun post hp => cl post (f5 _ hp), fun post hp => ?_⟩
      · rw [f3 k x' j a b, vup_ne (by omega)]
      · rw [h.2.1.2]
        refine mb _ (br_f hb (br_t rfl ?_))
        unfold F_X8_value_b44
        intro Q45 e1
        subst e1
        exact f6 post hp
    · refine Or.inr ⟨v, y, P1, Q1, trivial, ⟨y1, y2⟩, y3, y4, y5, fun k x' j a b => ?_, fun post hp => cl post (y7 _ hp), fun post hp => ?_⟩
      · rw [y6 k x' j a b, vup_ne (by omega)]
      · rw [h.2.1.2]
        refine mb _ (br_f hb (br_t rfl ?_))
        unfold F_X8_value_b44
        intro Q45 e1
        subst e1
        exact y8 post hp
theorem q_14 {x e : Int32} (hx : 0 ≤ x) (he : x ≤ e ∧ e ≤ 120) (h : e - x = 1) : e = x + 1 := by lia
theorem i_letter {P Q : VP} {L : Int32} {B : Int32 → Int32} {x m : Int32} (h : TS P Q L B x m) (hx : 0 ≤ x ∧ x ≤ L) (hm : 0 ≤ m ∧ m ≤ 60) : PI P Q L B x m 76 1 (fun v => 0 ≤ v ∧ v < 26) (fun post => F_X8_many (Q 22 0 8) 97 122 Q (fun r20 => (r20 = 1 → F_X8_byteAt (Q 22 0 8) Q (fun r49 => (0 ≤ (4 * (Q 22 0 11)) + 1 ∧ (4 * (Q 22 0 11)) + 1 < 480) ∧ (∀ Q55 : VP, Q55 = vup Q 27 0 (ix ((4 * (Q 22 0 11)) + 1)) (r49 - 97) → (∀ Q63 : VP, Q63 = vup Q55 22 0 8 ((Q55 22 0 8) + 1) → (post ((1 : Int32)) Q63))))) ∧ (¬ r20 = 1 → F_X8_stops Q (fun r28 Q28 => (r28 = 0 ∨ r28 = 1) ∧ (post r28 Q28))))) := by
  have hL := h.1.2.2.1.2
  obtain ⟨e, hr⟩ := RU_ex (lo := 97) (hi := 122) h.1 hx (by decide)
  have mm := m_many h.1 hx.1 hr
  have e120 := q_5 hr.1.2 hL
  have rb := RU_at hr hx.1 hL
  obtain ⟨r1, r2⟩ := hr.1
  have hc : ∀ post : Int32 → VP → Prop, F_X5_readName P post → F_X5_readPart 76 P post := fun post hp => by
    unfold F_X5_readPart
    exact br_f (by decide) (br_t rfl hp)
  obtain ⟨⟨v, P1⟩, g1, g2⟩ := lk1 (A1 := VP) (ρ := Int32 × VP) (fun p => F_X5_readName_l5 (fun r P => p (r, P)) x)
    (fun P' => (x ≤ P' 17 0 6 ∧ P' 17 0 6 ≤ e) ∧ ∀ k x' j, ¬ (k = 17 ∧ x' = 0 ∧ j = 6) → P' k x' j = P k x' j)
    (fun z => z.1 = B x - 97 ∧ z.2 17 0 6 = e ∧ (∀ k x' j, ¬ (k = 17 ∧ x' = 0 ∧ (j = 6 ∨ j = 7)) → z.2 k x' j = P k x' j) ∧ (e - x = 1 → z.2 17 0 7 = P 17 0 7) ∧ (¬ e - x = 1 → z.2 17 0 7 = x)) (fun P' => ix (e - P' 17 0 6)) (fun P' ⟨⟨y0, y1⟩, hf⟩ => by
      have hT : TB P' Q L B := TB_of h.1 (hf 17 0 1 (by omega)) (fun j => hf 18 0 j (by omega)) rfl (fun _ => rfl)
      have hy0 : 0 ≤ P' 17 0 6 := q_5 hx.1 y0
      have cb := c_byte hT hy0
      have hlen := hT.1
      by_cases hye : P' 17 0 6 = e
      · have fin : ∀ p : Int32 × VP → Prop, ((P' 17 0 6 - x = 1 → F_X5_readName_b58 P' (fun r P => p (r, P)) x) ∧ (¬ P' 17 0 6 - x = 1 → ∀ P55 : VP, P55 = vup P' 17 0 7 x → F_X5_readName_b58 P55 (fun r P => p (r, P)) x)) → ∀ X, F_X5_readName_l5 (fun r P => p (r, P)) x X P' := by
          intro p hb X
          unfold F_X5_readName_l5
          by_cases hl : P' 17 0 6 < P' 17 0 1
          · exact br_t hl (cb _ (c_isLetter.2 (by rw [hye]; exact hr.2.2) _ (br_t rfl hb)))
          · exact br_f hl hb
        by_cases h1 : e - x = 1
        · refine Or.inr ⟨(B x - 97, P'), ⟨rfl, hye, fun k x' j hk => hf k x' j (by omega), fun _ => hf 17 0 7 (by omega), fun q => absurd h1 q⟩, fun p X hp => fin p (br_t (by rw [hye]; exact h1) ?_) X⟩
          unfold F_X5_readName_b58
          exact c_byte hT hx.1 _ hp
        · have hT2 : TB (vup P' 17 0 7 x) Q L B := TB_of hT (vup_ne (by omega)) (fun j => kup_ne (by decide)) rfl (fun _ => rfl)
          have bad : vup P' 17 0 7 x 17 0 6 = e ∧ (∀ k x' j, ¬ (k = 17 ∧ x' = 0 ∧ (j = 6 ∨ j = 7)) → vup P' 17 0 7 x k x' j = P k x' j) ∧ (e - x = 1 → vup P' 17 0 7 x 17 0 7 = P 17 0 7) ∧ (¬ e - x = 1 → vup P' 17 0 7 x 17 0 7 = x) := ⟨by rw [vup_ne (by omega)]; exact hye, fun k x' j hk => by rw [vup_ne (by omega)]; exact hf k x' j (by omega), fun q => absurd q h1, fun _ => vup_eq _ _ _ _ _⟩
          refine Or.inr ⟨(B x - 97, vup P' 17 0 7 x), ⟨rfl, bad⟩, fun p X hp => fin p (br_f (by rw [hye]; exact h1) (fun P55 e1 => ?_)) X⟩
          subst e1
          unfold F_X5_readName_b58
          exact c_byte hT2 hx.1 _ hp
      · obtain ⟨z1, ⟨z2, z3⟩, z4, z5, z6⟩ := q_4 hy0 ⟨y1, e120⟩ hye
        have hb := hr.2.1 (P' 17 0 6) y0 z1
        have hl : P' 17 0 6 < P' 17 0 1 := by rw [hlen]; exact z_lt z1 r2
        refine Or.inl ⟨vup P' 17 0 6 (P' 17 0 6 + 1), ⟨by rw [vup_eq]; exact ⟨q_5 y0 z6, z3⟩, fun k x' j hk => by rw [vup_ne (by omega)]; exact hf k x' j hk⟩, by rw [vup_eq]; exact ix_lt z4 z5, fun p X hX => ?_⟩
        unfold F_X5_readName_l5
        refine br_t hl (cb _ (c_isLetter.1 hb _ (br_f (by decide) (fun P37 e1 => ?_))))
        subst e1
        exact hX)
    (a1 := P) ⟨by rw [h.2.1.1]; exact ⟨z_le x, r1⟩, fun _ _ _ _ => rfl⟩
  obtain ⟨c6, c1, c2, c3, c4⟩ : v = B x - 97 ∧ P1 17 0 6 = e ∧ (∀ k x' j, ¬ (k = 17 ∧ x' = 0 ∧ (j = 6 ∨ j = 7)) → P1 k x' j = P k x' j) ∧ (e - x = 1 → P1 17 0 7 = P 17 0 7) ∧ (¬ e - x = 1 → P1 17 0 7 = x) := g1
  have cl : ∀ post : Int32 → VP → Prop, post v P1 → F_X5_readPart 76 P post := fun post hp => by
    refine hc post ?_
    unfold F_X5_readName
    rw [h.2.1.1]
    exact g2 (fun z => post z.1 z.2) hp
  have hTB : TB P1 Q L B := TB_of h.1 (c2 17 0 1 (by omega)) (fun j => c2 18 0 j (by omega)) rfl (fun _ => rfl)
  by_cases ok : e - x = 1
  · have hex := q_14 hx.1 ⟨r1, e120⟩ ok
    have c7 := c3 ok
    have b0 := rb 0 (by decide) (by rw [ok]; decide)
    rw [q_13] at b0
    have fr7 : ∀ k x' j, ¬ (k = 17 ∧ x' = 0 ∧ j = 6) → P1 k x' j = P k x' j := fun k x' j hk => by
      by_cases q : k = 17 ∧ x' = 0 ∧ j = 7
      · rw [q.1, q.2.1, q.2.2]; exact c7
      · exact c2 k x' j (by omega)
    refine Or.inr ⟨B x - 97, e, P1, vup (vup Q 27 0 (ix ((4 * m) + 1)) (B x - 97)) 22 0 8 e, ⟨by lia, by lia⟩, ⟨by rw [hex]; exact t_5 hx.1 (B_lt h.1 (x := x) (by lia)) hL, r2⟩, ⟨TB_of hTB rfl (fun _ => rfl) ?_ (fun j => ?_), ⟨c1, vup_eq _ _ _ _ _⟩, ⟨?_, ?_⟩, ?_, ?_⟩, fr7, ?_, fun k x' j a b => ?_, fun post hp => cl post (by rw [c6]; exact hp), fun post hp' => ?_⟩
    · rw [vup_ne (by omega), kup_ne (by decide)]
    · rw [kup_ne (by decide), kup_ne (by decide)]
    · rw [c7]; exact h.2.2.1.1
    · rw [vup_ne (by omega), kup_ne (by decide)]; exact h.2.2.1.2
    · rw [c2 17 0 2 (by omega)]; exact h.2.2.2.1
    · rw [vup_ne (by omega), kup_ne (by decide)]; exact h.2.2.2.2
    · rw [kup_ne (by decide), vup_eq]
    · rw [vup_ne (by omega), vup_ne (by omega)]
    · rw [h.2.1.2, h.2.2.2.2]
      refine mm _ (br_t ok (m_byte h.1 hx.1 _ ⟨q_10 hm (by decide), fun Q55 e1 Q63 e2 => ?_⟩))
      subst e1
      rw [kup_ne (by decide), h.2.1.2, ← hex] at e2
      subst e2
      exact hp'
  · refine Or.inl ⟨x, v, P1, vup Q 22 0 9 x, hx.1, c4 ok, fun k x' j a b => c2 k x' j (by omega), fun k x' j a b => vup_ne (by omega), vup_eq _ _ _ _ _, cl, fun post hp' => ?_⟩
    rw [h.2.1.2]
    exact mm _ (br_f ok (m_stops h.2.1.2 h.2.2.1.2 hp'))
