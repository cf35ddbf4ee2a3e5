/-! the text: bytes, runs of letters and digits, words -/
/-- the tape, its length L and its bytes B, on both sides -/
def TB (P Q : VP) (L : Int32) (B : Int32 → Int32) : Prop := P 17 0 1 = L ∧ Q 22 0 7 = L ∧ (0 ≤ L ∧ L ≤ 120) ∧ (∀ j : Int32, 0 ≤ j → j < L → P 18 0 (ix j) = B j ∧ Q 26 0 (ix j) = B j) ∧ ∀ j : Int32, ¬ j < L → B j = -1
theorem t_1 {x L : Int32} (h : x < L) (hL : L ≤ 120) : x < 120 := by lia
theorem c_byte {P Q : VP} {L x : Int32} {B : Int32 → Int32} (h : TB P Q L B) (hx : 0 ≤ x) : An (F_X5_byteAt x P) (B x) := by
  obtain ⟨h1, h2, ⟨h3, h4⟩, h5, h6⟩ := h
  have h0 : ¬ x < 0 := by lia
  intro p hp
  unfold F_X5_byteAt
  by_cases hxl : x < L
  · have h120 := t_1 hxl h4
    refine br_f h0 (br_t (by rw [h1]; exact hxl) (br_t h120 ⟨⟨hx, h120⟩, ?_⟩))
    rw [(h5 x hx hxl).1]
    exact hp
  · refine br_f h0 (br_f (by rw [h1]; exact hxl) ?_)
    rw [← h6 x hxl]
    exact hp
theorem m_byte {P Q : VP} {L x : Int32} {B : Int32 → Int32} (h : TB P Q L B) (hx : 0 ≤ x) : An (F_X8_byteAt x Q) (B x) := by
  obtain ⟨h1, h2, ⟨h3, h4⟩, h5, h6⟩ := h
  intro p hp
  unfold F_X8_byteAt
  by_cases hxl : x < L
  · refine br_t (by rw [h2]; exact hxl) ⟨⟨hx, t_1 hxl h4⟩, ?_⟩
    rw [(h5 x hx hxl).2]
    exact hp
  · refine br_f (by rw [h2]; exact hxl) ?_
    rw [← h6 x hxl]
    exact hp
/-- a run of bytes from x to e -/
def RU (B : Int32 → Int32) (L lo hi x e : Int32) : Prop := (x ≤ e ∧ e ≤ L) ∧ (∀ y : Int32, x ≤ y → y < e → lo ≤ B y ∧ B y ≤ hi) ∧ ¬ (lo ≤ B e ∧ B e ≤ hi)
theorem t_2 {e L : Int32} (h0 : 0 ≤ e) (h : e < L) (hL : L ≤ 120) : (e + 1 ≤ L ∧ 0 ≤ e + 1) ∧ 0 ≤ L - (e + 1) ∧ L - (e + 1) < L - e := by lia
theorem t_3 {x e : Int32} (h : x ≤ e) (he : e < e + 1) : x ≤ e + 1 := by lia
theorem t_4 {y e : Int32} (h : y < e + 1) (h0 : 0 ≤ e) (he : e < 120) (hn : ¬ y = e) : y < e := by lia
theorem t_5 {e L : Int32} (h0 : 0 ≤ e) (h : e < L) (hL : L ≤ 120) : e < e + 1 := by lia
theorem RU_ex {P Q : VP} {L lo hi x : Int32} {B : Int32 → Int32} (h : TB P Q L B) (hx : 0 ≤ x ∧ x ≤ L) (hlo : 0 < lo) : ∃ e, RU B L lo hi x e := by
  obtain ⟨-, -, ⟨h3, h4⟩, -, h6⟩ := h
  obtain ⟨e, he, -⟩ := lk1 (ρ := Int32) (fun p X e => (lo ≤ B e ∧ B e ≤ hi → X (e + 1)) ∧ (¬ (lo ≤ B e ∧ B e ≤ hi) → p e)) (fun e => (x ≤ e ∧ e ≤ L) ∧ 0 ≤ e ∧ ∀ y : Int32, x ≤ y → y < e → lo ≤ B y ∧ B y ≤ hi) (fun e => RU B L lo hi x e) (fun e => ix (L - e)) (fun e ⟨⟨e1, e2⟩, e0, e3⟩ => by
    by_cases hb : lo ≤ B e ∧ B e ≤ hi
    · by_cases hel : e < L
      · obtain ⟨⟨w1, w5⟩, w2, w3⟩ := t_2 e0 hel h4
        refine Or.inl ⟨e + 1, ⟨⟨t_3 e1 (t_5 e0 hel h4), w1⟩, w5, fun y y0 y1 => ?_⟩, ix_lt w2 w3, fun p X hX => br_t hb hX⟩
        by_cases hy : y = e
        · rw [hy]; exact hb
        · exact e3 y y0 (t_4 y1 e0 (t_1 hel h4) hy)
      · rw [h6 e hel] at hb
        exact absurd hb.1 (by lia)
    · exact Or.inr ⟨e, ⟨⟨e1, e2⟩, e3, hb⟩, fun p X hp => br_f hb hp⟩) (a1 := x) ⟨⟨by lia, hx.2⟩, hx.1, fun y y0 y1 => absurd y1 (by lia)⟩
  exact ⟨e, he⟩
theorem m_many {P Q : VP} {L lo hi x e : Int32} {B : Int32 → Int32} (h : TB P Q L B) (hx : 0 ≤ x) (hr : RU B L lo hi x e) : An (F_X8_many x lo hi Q) (e - x) := by
  obtain ⟨⟨r1, r2⟩, r3, r4⟩ := hr
  have hL := h.2.2.1
  intro p hp
  unfold F_X8_many
  refine vL1_i (fun y => x ≤ y ∧ y ≤ e) (fun y => ix (e - y)) (fun X y ⟨y0, y1⟩ hX => ?_) ⟨by lia, r1⟩
  unfold F_X8_many_l3
  refine m_byte h (by lia) _ ?_
  by_cases hy : y = e
  · rw [hy]
    exact m_inF (x := B e) (lo := lo) (hi := hi) r4 _ (br_t rfl hp)
  · have hye : y < e := by lia
    exact m_inT (x := B y) (lo := lo) (hi := hi) (r3 y y0 hye) _ (br_f (by decide) (hX (y + 1) ⟨by lia, by lia⟩ (ix_lt (by lia) (by lia))))
theorem c_isLetter {v : Int32} {P : VP} : (97 ≤ v ∧ v ≤ 122 → An (F_X5_isLetter v P) 1) ∧ (¬ (97 ≤ v ∧ v ≤ 122) → An (F_X5_isLetter v P) 0) := by
  refine ⟨fun h p hp => ?_, fun h p hp => ?_⟩
  · unfold F_X5_isLetter
    exact br_f (by lia) (br_f (by lia) hp)
  · unfold F_X5_isLetter
    by_cases h1 : v < 97
    · exact br_t h1 hp
    · exact br_f h1 (br_t (by lia) hp)
theorem c_isDigit {v : Int32} {P : VP} : (48 ≤ v ∧ v ≤ 57 → An (F_X5_isDigit v P) 1) ∧ (¬ (48 ≤ v ∧ v ≤ 57) → An (F_X5_isDigit v P) 0) := by
  refine ⟨fun h p hp => ?_, fun h p hp => ?_⟩
  · unfold F_X5_isDigit
    exact br_f (by lia) (br_f (by lia) hp)
  · unfold F_X5_isDigit
    by_cases h1 : v < 48
    · exact br_t h1 hp
    · exact br_f h1 (br_t (by lia) hp)
/-- the letters from x to e spell the string j -/
def MT (B : Int32 → Int32) (x e : Int32) (j : Nat) : Prop := e - x = slen j ∧ ∀ v : Int32, 0 ≤ v → v < slen j → B (x + v) = sch j (ix v)
theorem sl_4 : ∀ j, j < 15 → 0 ≤ slen j ∧ slen j ≤ 4 := by decide
theorem t_6a {x e : Int32} (hx : 0 ≤ x) (he : x ≤ e ∧ e ≤ 120) : (0 ≤ e - x ∧ e - x ≤ 120) ∧ x + (e - x) = e ∧ x ≤ 120 := by lia
theorem t_6b {x n v : Int32} (hx : 0 ≤ x) (hx' : x ≤ 120) (hn : n ≤ 120) (hv : 0 ≤ v ∧ v < n) : 0 ≤ x + v ∧ x + v < x + n := by lia
theorem t_6 {x v e : Int32} (hx : 0 ≤ x) (hv : 0 ≤ v ∧ v < e - x) (he : x ≤ e ∧ e ≤ 120) : 0 ≤ x + v ∧ x + v < e := by
  obtain ⟨h1, h2, h3⟩ := t_6a hx he
  have := t_6b hx h3 h1.2 hv
  rw [h2] at this
  exact this
theorem t_7 {v n : Int32} (h0 : 0 ≤ v) (h : v < n) (hn : n ≤ 4) : (0 ≤ v + 1 ∧ v + 1 ≤ n) ∧ 0 ≤ n - (v + 1) ∧ n - (v + 1) < n - v := by lia
theorem c_spelled {P Q : VP} {L x e : Int32} {B : Int32 → Int32} {j : Nat} (h : TB P Q L B) (hx : 0 ≤ x) (hat : P 17 0 6 = x) (he : x ≤ e ∧ e ≤ L) (hj : j < 15) : (MT B x e j → An (F_X5_isSpelled j e P) 1) ∧ (¬ MT B x e j → An (F_X5_isSpelled j e P) 0) := by
  have he' : x ≤ e ∧ e ≤ 120 := ⟨he.1, by have := h.2.2.1.2; lia⟩
  have hs := sl_4 j hj
  refine ⟨fun hm p hp => ?_, fun hm p hp => ?_⟩
  · unfold F_X5_isSpelled
    rw [hat]
    refine br_t hm.1.symm (vL1_i (fun v => 0 ≤ v) (fun v => ix (slen j - v)) (fun X v v0 hX => ?_) (by decide))
    unfold F_X5_isSpelled_l17
    rw [hat]
    by_cases hv : v < slen j
    · obtain ⟨w1, w2, w3⟩ := t_7 v0 hv hs.2
      exact br_t hv (c_byte h (t_6 hx ⟨v0, by rw [hm.1]; exact hv⟩ he').1 _ ⟨⟨v0, hv⟩, br_t (hm.2 v v0 hv) (hX _ w1.1 (ix_lt w2 w3))⟩)
    · exact br_f hv hp
  · unfold F_X5_isSpelled
    rw [hat]
    by_cases hl : slen j = e - x
    · have hd : ∃ r, r = 0 ∧ An (fun p => vL1 (F_X5_isSpelled_l17 j e P p) 0) r := by
        refine lk1 (F_X5_isSpelled_l17 j e P) (fun v => 0 ≤ v ∧ ∀ u : Int32, 0 ≤ u → u < v → u < slen j → B (x + u) = sch j (ix u)) (fun r => r = 0) (fun v => ix (slen j - v)) (fun v ⟨v0, hu⟩ => ?_) ⟨by decide, fun u u0 u1 => absurd u1 (by lia)⟩
        by_cases hv : v < slen j
        · obtain ⟨w1, w2, w3⟩ := t_7 v0 hv hs.2
          have cb := c_byte h (t_6 (v := v) hx ⟨v0, by rw [← hl]; exact hv⟩ he').1
          by_cases hb : B (x + v) = sch j (ix v)
          · refine Or.inl ⟨v + 1, ⟨w1.1, fun u u0 u1 u2 => ?_⟩, ix_lt w2 w3, fun p X hX => ?_⟩
            · by_cases hq : u = v
              · rw [hq]; exact hb
              · exact hu u u0 (by lia) u2
            · unfold F_X5_isSpelled_l17
              rw [hat]
              exact br_t hv (cb _ ⟨⟨v0, hv⟩, br_t hb hX⟩)
          · refine Or.inr ⟨0, rfl, fun p X hp => ?_⟩
            unfold F_X5_isSpelled_l17
            rw [hat]
            exact br_t hv (cb _ ⟨⟨v0, hv⟩, br_f hb hp⟩)
        · exact absurd ⟨hl.symm, fun u u0 u1 => hu u u0 (by lia) u1⟩ hm
      obtain ⟨r, rfl, hr⟩ := hd
      exact br_t hl (hr p hp)
    · exact br_f hl hp
theorem m_is {P Q : VP} {L x e : Int32} {B : Int32 → Int32} {j : Nat} (h : TB P Q L B) (hx : 0 ≤ x) (he : x ≤ e ∧ e ≤ L) (hj : j < 15) : (MT B x e j → An (F_X8_is x (e - x) j Q) 1) ∧ (¬ MT B x e j → An (F_X8_is x (e - x) j Q) 0) := by
  have he' : x ≤ e ∧ e ≤ 120 := ⟨he.1, by have := h.2.2.1.2; lia⟩
  have hs := sl_4 j hj
  refine ⟨fun hm p hp => ?_, fun hm p hp => ?_⟩
  · unfold F_X8_is
    refine br_t hm.1 (vL2_i (fun b v => b = 1 ∧ 0 ≤ v) (fun _ v => ix (slen j - v)) (fun X b v ⟨hb, v0⟩ hX => ?_) ⟨rfl, by decide⟩)
    subst hb
    unfold F_X8_is_l18
    rw [hm.1]
    by_cases hv : v < slen j
    · obtain ⟨w1, w2, w3⟩ := t_7 v0 hv hs.2
      exact br_t hv (br_f (by decide) (m_byte h (t_6 hx ⟨v0, by rw [hm.1]; exact hv⟩ he').1 _ ⟨⟨v0, hv⟩, br_t (hm.2 v v0 hv) (hX _ _ ⟨rfl, w1.1⟩ (ix_lt w2 w3))⟩))
    · exact br_f hv ⟨Or.inr rfl, hp⟩
  · have zero : ∀ (X : Int32 → Int32 → Prop) (v : Int32), F_X8_is_l18 x (e - x) j Q p X 0 v := by
      intro X v
      unfold F_X8_is_l18
      exact ⟨fun _ => br_t rfl ⟨Or.inl rfl, hp⟩, fun _ => ⟨Or.inl rfl, hp⟩⟩
    unfold F_X8_is
    by_cases hl : e - x = slen j
    · refine br_t hl (vL2_i (fun b v => b = 0 ∨ (0 ≤ v ∧ ∀ u : Int32, 0 ≤ u → u < v → u < slen j → B (x + u) = sch j (ix u))) (fun b v => ix (slen j - v)) (fun X b v hI hX => ?_) (Or.inr ⟨by decide, fun u u0 u1 => absurd u1 (by lia)⟩))
      by_cases hb : b = 0
      · subst hb
        exact zero X v
      · obtain ⟨v0, hu⟩ := hI.resolve_left hb
        unfold F_X8_is_l18
        by_cases hv : v < slen j
        · obtain ⟨w1, w2, w3⟩ := t_7 v0 hv hs.2
          refine br_t (by rw [hl]; exact hv) (br_f hb (m_byte h (t_6 hx ⟨v0, by rw [hl]; exact hv⟩ he').1 _ ⟨⟨v0, hv⟩, ?_⟩))
          by_cases hq : B (x + v) = sch j (ix v)
          · refine br_t hq (hX _ _ (Or.inr ⟨w1.1, fun u u0 u1 u2 => ?_⟩) (ix_lt w2 w3))
            by_cases hq' : u = v
            · rw [hq']; exact hq
            · exact hu u u0 (by lia) u2
          · exact br_f hq (hX _ _ (Or.inl rfl) (ix_lt w2 w3))
        · exact absurd ⟨hl, fun u u0 u1 => hu u u0 (by lia) u1⟩ hm
    · exact br_f hl (vL2_end (fun X => zero X 0))
