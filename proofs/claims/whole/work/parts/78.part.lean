/-! the text: a part of a line, on both sides -/
def TS (P Q : VP) (L : Int32) (B : Int32 → Int32) (x m : Int32) : Prop := TB P Q L B ∧ (P 17 0 6 = x ∧ Q 22 0 8 = x) ∧ (P 17 0 7 = -1 ∧ Q 22 0 9 = -1) ∧ P 17 0 2 = m ∧ Q 22 0 11 = m
def FCp (P P1 : VP) : Prop := ∀ k x j, ¬ (k = 17 ∧ x = 0 ∧ (j = 2 ∨ j = 6 ∨ j = 7)) → ¬ (19 ≤ k ∧ k ≤ 21) → P1 k x j = P k x j
def FMq (Q Q1 : VP) : Prop := ∀ k x j, ¬ (k = 22 ∧ 8 ≤ j ∧ j ≤ 11) → ¬ k = 27 → Q1 k x j = Q k x j
theorem FCp_t {P P1 P2 : VP} (h : FCp P P1) (h' : FCp P1 P2) : FCp P P2 := fun k x j a b => (h' k x j a b).trans (h k x j a b)
theorem FMq_t {Q Q1 Q2 : VP} (h : FMq Q Q1) (h' : FMq Q1 Q2) : FMq Q Q2 := fun k x j a b => (h' k x j a b).trans (h k x j a b)
def BD (l c i : Int32) (P : VP) (X : Int32 → VP → Prop) : Prop := F_X5_readBlank P (fun P37 => (P37 17 0 7 < 0 → (0 ≤ i ∧ i < l) ∧ (F_X5_readPart c P37 (fun r58 P58 => (0 ≤ i ∧ i < 3) ∧ (∀ P65 : VP, P65 = vup P58 21 0 (ix i) r58 → (X (i + 1) P65))))) ∧ (¬ P37 17 0 7 < 0 → (0 ≤ i ∧ i < 3) ∧ (∀ P65 : VP, P65 = vup P37 21 0 (ix i) 0 → (X (i + 1) P65))))
def PI (P Q : VP) (L : Int32) (B : Int32 → Int32) (x m c part : Int32) (R : Int32 → Prop) (H : (Int32 → VP → Prop) → Prop) : Prop :=
  (∃ f v' P1 Q1, 0 ≤ f ∧ P1 17 0 7 = f ∧ FCp P P1 ∧ FMq Q Q1 ∧ Q1 22 0 9 = f ∧ (∀ post : Int32 → VP → Prop, post v' P1 → F_X5_readPart c P post) ∧ (∀ post : Int32 → VP → Prop, post 0 Q1 → H post)) ∨
  (∃ v y P1 Q1, R v ∧ (x < y ∧ y ≤ L) ∧ TS P1 Q1 L B y m ∧ (∀ k x' j, ¬ (k = 17 ∧ x' = 0 ∧ j = 6) → P1 k x' j = P k x' j) ∧ Q1 27 0 (ix ((4 * m) + part)) = v ∧ (∀ k x' j, ¬ (k = 22 ∧ j = 8) → ¬ (k = 27 ∧ j = ix ((4 * m) + part)) → Q1 k x' j = Q k x' j) ∧ (∀ post : Int32 → VP → Prop, post v P1 → F_X5_readPart c P post) ∧ (∀ post : Int32 → VP → Prop, post 1 Q1 → H post))
def PO (P Q : VP) (L : Int32) (B : Int32 → Int32) (x m l c i part : Int32) (R : Int32 → Prop) (G : (Int32 → VP → Prop) → Prop) : Prop :=
  (∃ f P1 Q1, 0 ≤ f ∧ P1 17 0 7 = f ∧ FCp P P1 ∧ FMq Q Q1 ∧ Q1 22 0 9 = f ∧ (∀ X : Int32 → VP → Prop, X (i + 1) P1 → BD l c i P X) ∧ (∀ post : Int32 → VP → Prop, post 0 Q1 → G post)) ∨
  (∃ v y P1 Q1, R v ∧ (x < y ∧ y ≤ L) ∧ TS P1 Q1 L B y m ∧ P1 21 0 (ix i) = v ∧ (∀ k x' j, ¬ (k = 17 ∧ x' = 0 ∧ j = 6) → ¬ (k = 21 ∧ x' = 0 ∧ j = ix i) → P1 k x' j = P k x' j) ∧ Q1 27 0 (ix ((4 * m) + part)) = v ∧ (∀ k x' j, ¬ (k = 22 ∧ j = 8) → ¬ (k = 27 ∧ j = ix ((4 * m) + part)) → Q1 k x' j = Q k x' j) ∧ (∀ X : Int32 → VP → Prop, X (i + 1) P1 → BD l c i P X) ∧ (∀ post : Int32 → VP → Prop, post 1 Q1 → G post))
theorem m_stops {Q : VP} {x : Int32} (h8 : Q 22 0 8 = x) (h9 : Q 22 0 9 = -1) {post : Int32 → VP → Prop} (hp : post 0 (vup Q 22 0 9 x)) : F_X8_stops Q (fun r Q => (r = 0 ∨ r = 1) ∧ post r Q) := by
  unfold F_X8_stops
  refine br_t (by rw [h9]; decide) (fun Q19 e => ⟨Or.inl rfl, ?_⟩)
  rw [h8] at e
  subst e
  exact hp
theorem m_sign {P Q : VP} {L : Int32} {B : Int32 → Int32} {x m c : Int32} (h : TS P Q L B x m) (hx : 0 ≤ x) : (B x = c → ∀ post : Int32 → VP → Prop, post 1 (vup Q 22 0 8 (x + 1)) → F_X8_sign c Q post) ∧ (¬ B x = c → ∀ post : Int32 → VP → Prop, post 0 (vup Q 22 0 9 x) → F_X8_sign c Q post) := by
  have mb := m_byte h.1 hx
  refine ⟨fun hb post hp => ?_, fun hb post hp => ?_⟩
  · unfold F_X8_sign
    rw [h.2.1.2]
    refine mb _ (br_t hb (fun Q24 e => ?_))
    subst e
    exact hp
  · unfold F_X8_sign
    rw [h.2.1.2]
    exact mb _ (br_f hb (m_stops h.2.1.2 h.2.2.1.2 hp))
theorem q_9 {x L : Int32} (hx : 0 ≤ x ∧ x < L) (hL : L ≤ 120) : 0 ≤ x + 1 ∧ x + 1 ≤ L ∧ x < x + 1 := by lia
theorem B_lt {P Q : VP} {L : Int32} {B : Int32 → Int32} (h : TB P Q L B) {x : Int32} (hb : ¬ B x = -1) : x < L := by
  by_cases q : x < L
  · exact q
  · exact absurd (h.2.2.2.2 x q) hb
theorem TS_at {P Q : VP} {L : Int32} {B : Int32 → Int32} {x m y : Int32} (h : TS P Q L B x m) : TS (vup P 17 0 6 y) (vup Q 22 0 8 y) L B y m := by
  obtain ⟨h1, h2, h3, h4⟩ := h
  refine ⟨TB_of h1 (vup_ne (by omega)) (fun j => kup_ne (by decide)) (vup_ne (by omega)) (fun j => kup_ne (by decide)), ⟨vup_eq _ _ _ _ _, vup_eq _ _ _ _ _⟩, ⟨?_, ?_⟩, ?_, ?_⟩
  · rw [vup_ne (by omega)]; exact h3.1
  · rw [vup_ne (by omega)]; exact h3.2
  · rw [vup_ne (by omega)]; exact h4.1
  · rw [vup_ne (by omega)]; exact h4.2
theorem p_blank {P Q : VP} {L : Int32} {B : Int32 → Int32} {x m l c i part : Int32} {R : Int32 → Prop} {H G : (Int32 → VP → Prop) → Prop} (h : TS P Q L B x m) (hx : 0 ≤ x ∧ x ≤ L) (hi : 0 ≤ i ∧ i < l) (hi3 : i < 3) (hI : B x = 32 → PI (vup P 17 0 6 (x + 1)) (vup Q 22 0 8 (x + 1)) L B (x + 1) m c part R H) (hG : ∀ post : Int32 → VP → Prop, (¬ B x = 32 → post 0 (vup Q 22 0 9 x)) → (B x = 32 → H post) → G post) : PO P Q L B x m l c i part R G := by
  have cb := c_byte h.1 hx.1
  have r3 : 0 ≤ i ∧ i < 3 := ⟨hi.1, hi3⟩
  by_cases hb : B x = 32
  · have hxL := B_lt h.1 (x := x) (by rw [hb]; decide)
    obtain ⟨w1, w2, w3⟩ := q_9 ⟨hx.1, hxL⟩ h.1.2.2.1.2
    have bd : ∀ (v : Int32) (P1 : VP), (∀ post : Int32 → VP → Prop, post v P1 → F_X5_readPart c (vup P 17 0 6 (x + 1)) post) → ∀ X : Int32 → VP → Prop, X (i + 1) (vup P1 21 0 (ix i) v) → BD l c i P X := by
      intro v P1 hp X hX
      unfold BD F_X5_readBlank
      rw [h.2.1.1]
      refine cb _ (br_t hb (fun P20 e => ?_))
      subst e
      refine br_t (by rw [vup_ne (by omega), h.2.2.1.1]; decide) ⟨hi, hp _ ⟨r3, fun P65 e => ?_⟩⟩
      subst e
      exact hX
    rcases hI hb with ⟨f, v', P1, Q1, f0, f1, f2, f3, f4, f5, f6⟩ | ⟨v, y, P1, Q1, y0, ⟨y1, y2⟩, y3, y4, y5, y6, y7, y8⟩
    · refine Or.inl ⟨f, vup P1 21 0 (ix i) v', Q1, f0, ?_, fun k x' j a b => ?_, fun k x' j a b => ?_, f4, bd v' P1 f5, fun post hp => hG post (fun q => absurd hb q) (fun _ => f6 post hp)⟩
      · rw [kup_ne (by decide)]; exact f1
      · rw [kup_ne (by omega), f2 k x' j a b, vup_ne (by omega)]
      · rw [f3 k x' j a b, vup_ne (by omega)]
    · refine Or.inr ⟨v, y, vup P1 21 0 (ix i) v, Q1, y0, ⟨p_tr w3 y1, y2⟩, ?_, vup_eq _ _ _ _ _, fun k x' j a b => ?_, y5, fun k x' j a b => ?_, bd v P1 y7, fun post hp => hG post (fun q => absurd hb q) (fun _ => y8 post hp)⟩
      · obtain ⟨h1, h2, h3, h4⟩ := y3
        refine ⟨TB_of h1 (kup_ne (by decide)) (fun j => kup_ne (by decide)) rfl (fun _ => rfl), ⟨?_, h2.2⟩, ⟨?_, h3.2⟩, ?_, h4.2⟩
        · rw [kup_ne (by decide)]; exact h2.1
        · rw [kup_ne (by decide)]; exact h3.1
        · rw [kup_ne (by decide)]; exact h4.1
      · rw [vup_ne b, y4 k x' j a, vup_ne a]
      · rw [y6 k x' j a b, vup_ne (by omega)]
  · refine Or.inl ⟨x, vup (vup P 17 0 7 x) 21 0 (ix i) 0, vup Q 22 0 9 x, hx.1, ?_, fun k x' j a b => ?_, fun k x' j a b => ?_, vup_eq _ _ _ _ _, fun X hX => ?_, fun post hp => hG post (fun _ => hp) (fun q => absurd q hb)⟩
    · rw [kup_ne (by decide), vup_eq]
    · rw [kup_ne (by omega), vup_ne (by omega)]
    · rw [vup_ne (by omega)]
    · unfold BD F_X5_readBlank
      rw [h.2.1.1]
      refine cb _ (br_f hb (fun P31 e => ?_))
      subst e
      refine br_f (by rw [vup_eq]; have := hx.1; lia) ⟨r3, fun P65 e => ?_⟩
      subst e
      exact hX
theorem q_10 {m part : Int32} (hm : 0 ≤ m ∧ m ≤ 60) (hp : 0 ≤ part ∧ part < 4) : 0 ≤ (4 * m) + part ∧ (4 * m) + part < 480 := by lia
theorem q_11 {v n : Int32} (h0 : 0 ≤ v) (h : v < n) (hn : n ≤ 120) (h3 : v < 3) : (0 ≤ v + 1 ∧ v + 1 ≤ n) ∧ v + 1 ≤ 3 ∧ 0 ≤ n - (v + 1) ∧ n - (v + 1) < n - v := by lia
theorem q_12 {v n : Int32} (h0 : 0 ≤ v) (h : v < n) (hn : n ≤ 4) : (0 ≤ v + 1 ∧ v + 1 ≤ n) ∧ (0 ≤ v ∧ v < 4) ∧ 0 ≤ n - (v + 1) ∧ n - (v + 1) < n - v := by lia
theorem RU_at {B : Int32 → Int32} {L lo hi x e : Int32} (h : RU B L lo hi x e) (hx : 0 ≤ x) (hL : L ≤ 120) : ∀ v : Int32, 0 ≤ v → v < e - x → lo ≤ B (x + v) ∧ B (x + v) ≤ hi := fun v v0 v1 => by
  have t := t_6 hx ⟨v0, v1⟩ ⟨h.1.1, q_5 h.1.2 hL⟩
  exact h.2.1 _ (by have := t_6a hx ⟨h.1.1, q_5 h.1.2 hL⟩; lia) t.2
/-- digits of the class and the reference -/
theorem i_digits {P Q : VP} {L : Int32} {B : Int32 → Int32} {x m c part high : Int32} (h : TS P Q L B x m) (hx : 0 ≤ x ∧ x ≤ L) (hm : 0 ≤ m ∧ m ≤ 60) (hp : 0 ≤ part ∧ part < 4) (hc : ∀ post : Int32 → VP → Prop, F_X5_readNumber 2 high P post → F_X5_readPart c P post) : PI P Q L B x m c part (fun v => 0 ≤ v ∧ v ≤ high) (fun post => F_X8_many (Q 22 0 8) 48 57 Q (fun r20 => vL2 (F_X8_digits_l30 part high Q post r20) 0 0)) := by
  have hL := h.1.2.2.1.2
  obtain ⟨e, hr⟩ := RU_ex (lo := 48) (hi := 57) h.1 hx (by decide)
  obtain ⟨v, P1, ⟨c1, c2, c3, c4⟩, c5⟩ := c_number (d := 2) (most := high) h.1 hx.1 h.2.1.1 hr (Or.inl rfl)
  have mm := m_many h.1 hx.1 hr
  have e120 := q_5 hr.1.2 hL
  obtain ⟨a1, a2, a3, a4⟩ := q_3 hx.1 ⟨hr.1.1, e120⟩
  have rb := RU_at hr hx.1 hL
  have hTB : TB P1 Q L B := TB_of h.1 (c2 17 0 1 (by omega)) (fun j => c2 18 0 j (by omega)) rfl (fun _ => rfl)
  by_cases ok : (1 ≤ e - x ∧ e - x ≤ 2) ∧ VL B x (e - x) ≤ high
  · obtain ⟨c6, c7⟩ := c3 ok
    have vin := VL_in (B := B) (x := x) (n := e - x) ⟨ok.1.1, q_5 ok.1.2 (by decide)⟩ rb
    have fr7 : ∀ k x' j, ¬ (k = 17 ∧ x' = 0 ∧ j = 6) → P1 k x' j = P k x' j := fun k x' j hk => by
      by_cases q : k = 17 ∧ x' = 0 ∧ j = 7
      · rw [q.1, q.2.1, q.2.2]; exact c7
      · exact c2 k x' j (by omega)
    refine Or.inr ⟨VL B x (e - x), e, P1, vup (vup Q 22 0 8 e) 27 0 (ix ((4 * m) + part)) (VL B x (e - x)), ⟨vin.1, ok.2⟩, ⟨by have := ok.1.1; lia, hr.1.2⟩, ⟨TB_of hTB rfl (fun _ => rfl) ?_ (fun j => ?_), ⟨c1, ?_⟩, ⟨?_, ?_⟩, ?_, ?_⟩, fr7, vup_eq _ _ _ _ _, fun k x' j a b => ?_, fun post hp => hc post (c5 post (by rw [c6]; exact hp)), fun post hp' => ?_⟩
    · rw [kup_ne (by decide), vup_ne (by omega)]
    · rw [kup_ne (by decide), kup_ne (by decide)]
    · rw [kup_ne (by decide), vup_eq]
    · rw [c7]; exact h.2.2.1.1
    · rw [kup_ne (by decide), vup_ne (by omega)]; exact h.2.2.1.2
    · rw [c2 17 0 2 (by omega)]; exact h.2.2.2.1
    · rw [kup_ne (by decide), vup_ne (by omega)]; exact h.2.2.2.2
    · rw [vup_ne (by omega), vup_ne (by omega)]
    · rw [h.2.1.2]
      refine mm _ (vL2_i (fun v4 v5 => (0 ≤ v5 ∧ v5 ≤ e - x) ∧ v4 = VL B x v5) (fun _ v5 => ix ((e - x) - v5)) (fun X v4 v5 ⟨⟨v0, v1⟩, hv⟩ hX => ?_) ⟨⟨by decide, a2⟩, rfl⟩)
      unfold F_X8_digits_l30
      rw [h.2.1.2]
      by_cases hv5 : v5 < e - x
      · have h3 : v5 < 3 := by have := ok.1.2; lia
        obtain ⟨w1, w2, w3, w4⟩ := q_11 v0 hv5 a4 h3
        refine br_t hv5 (br_t h3 (m_byte h.1 (t_6 hx.1 ⟨v0, hv5⟩ ⟨hr.1.1, e120⟩).1 _ (hX _ _ ⟨w1, ?_⟩ (ix_lt w3 w4))))
        rw [VL_st ⟨v0, by lia⟩, hv]
      · have hve : v5 = e - x := by lia
        subst hve
        refine br_f hv5 ?_
        unfold F_X8_digits_b70
        rw [h.2.1.2]
        refine br_f (by have := ok.1.1; lia) (br_f (by have := ok.1.2; lia) (br_f (by rw [hv]; have := ok.2; lia) (fun Q98 e1 => ?_)))
        rw [a1] at e1
        subst e1
        rw [vup_ne (by omega), h.2.2.2.2]
        refine ⟨q_10 hm hp, fun Q115 e2 => ?_⟩
        rw [hv] at e2
        subst e2
        exact hp'
  · refine Or.inl ⟨x, v, P1, vup Q 22 0 9 x, hx.1, c4 ok, fun k x' j a b => c2 k x' j (by omega), fun k x' j a b => vup_ne (by omega), vup_eq _ _ _ _ _, fun post hp => hc post (c5 post hp), fun post hp' => ?_⟩
    have stop : F_X8_stops Q (fun r87 Q87 => (r87 = 0 ∨ r87 = 1) ∧ post r87 Q87) := m_stops h.2.1.2 h.2.2.1.2 hp'
    have fin : ∀ v4 : Int32, (1 ≤ e - x ∧ e - x ≤ 2 → v4 = VL B x (e - x)) → F_X8_digits_b70 part high Q post (e - x) v4 := by
      intro v4 hv4
      unfold F_X8_digits_b70
      by_cases z1 : e - x < 1
      · exact br_t z1 stop
      · by_cases z2 : 2 < e - x
        · exact br_f z1 (br_t z2 stop)
        · have z3 : 1 ≤ e - x ∧ e - x ≤ 2 := ⟨by lia, by lia⟩
          refine br_f z1 (br_f z2 (br_t ?_ stop))
          rw [hv4 z3]
          by_cases z4 : high < VL B x (e - x)
          · exact z4
          · exact absurd ⟨z3, by lia⟩ ok
    rw [h.2.1.2]
    refine mm _ (vL2_i (fun v4 v5 => (0 ≤ v5 ∧ v5 ≤ e - x) ∧ v5 ≤ 3 ∧ v4 = VL B x v5) (fun _ v5 => ix ((e - x) - v5)) (fun X v4 v5 ⟨⟨v0, v1⟩, v3, hv⟩ hX => ?_) ⟨⟨by decide, a2⟩, by decide, rfl⟩)
    unfold F_X8_digits_l30
    rw [h.2.1.2]
    by_cases hv5 : v5 < e - x
    · by_cases h3 : v5 < 3
      · obtain ⟨w1, w2, w3, w4⟩ := q_11 v0 hv5 a4 h3
        refine br_t hv5 (br_t h3 (m_byte h.1 (t_6 hx.1 ⟨v0, hv5⟩ ⟨hr.1.1, e120⟩).1 _ (hX _ _ ⟨w1, w2, ?_⟩ (ix_lt w3 w4))))
        rw [VL_st ⟨v0, by lia⟩, hv]
      · exact br_t hv5 (br_f h3 (fin v4 (fun q => absurd q.2 (by lia))))
    · have hve : v5 = e - x := by lia
      subst hve
      exact br_f hv5 (fin v4 (fun _ => hv))
