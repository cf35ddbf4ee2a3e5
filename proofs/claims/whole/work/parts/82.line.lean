/-! the text: a line -/
def Z4q (Q : VP) (m : Int32) : VP := vup (vup (vup (vup Q 27 0 (ix (4 * m)) 0) 27 0 (ix ((4 * m) + 1)) 0) 27 0 (ix ((4 * m) + 2)) 0) 27 0 (ix ((4 * m) + 3)) 0
def Wq (Q : VP) (m e : Int32) : VP := vup (Z4q Q m) 22 0 8 e
def K1q (Q : VP) (m e kd : Int32) : VP := vup (Wq Q m e) 27 0 (ix (4 * m)) kd
def K2q (Q : VP) (m e c : Int32) : VP := vup (K1q Q m e 6) 27 0 (ix ((4 * m) + 1)) c
theorem Z4q_k {Q : VP} {m : Int32} {k x j : Nat} (h : ¬ k = 27) : Z4q Q m k x j = Q k x j := by
  unfold Z4q
  rw [kup_ne h, kup_ne h, kup_ne h, kup_ne h]
theorem x_m4 {m a : Int32} (hm : 0 ≤ m ∧ m ≤ 60) (h : ¬ (4 * m ≤ a ∧ a ≤ (4 * m) + 3)) : ¬ a = 4 * m := by lia
theorem v_54 {m : Int32} (hm : 0 ≤ m ∧ m ≤ 60) : 0 ≤ 4 * m ∧ 4 * m < 480 := by lia
theorem Z4q_ne {Q : VP} {m a : Int32} (hm : 0 ≤ m ∧ m ≤ 60) (ha : 0 ≤ a) (h : ¬ (4 * m ≤ a ∧ a ≤ (4 * m) + 3)) : Z4q Q m 27 0 (ix a) = Q 27 0 (ix a) := by
  unfold Z4q
  rw [qup_ne (q_10 hm (by decide)).1 ha (x_mp hm (by decide) h), qup_ne (q_10 hm (by decide)).1 ha (x_mp hm (by decide) h), qup_ne (q_10 hm (by decide)).1 ha (x_mp hm (by decide) h), qup_ne (v_54 hm).1 ha (x_m4 hm h)]
theorem Z4q_at {Q : VP} {m : Int32} (hm : 0 ≤ m ∧ m ≤ 60) : LNq (Z4q Q m) m 0 0 0 0 := by
  have p0 := (v_54 hm).1
  have p1 := (q_10 (part := 1) hm (by decide)).1
  have p2 := (q_10 (part := 2) hm (by decide)).1
  have p3 := (q_10 (part := 3) hm (by decide)).1
  unfold Z4q
  refine ⟨?_, ?_, ?_, ?_⟩
  · rw [qup_ne p3 p0 (z_dn0 (by decide)), qup_ne p2 p0 (z_dn0 (by decide)), qup_ne p1 p0 (z_dn0 (by decide)), vup_eq]
  · rw [qup_ne p3 p1 (z_dne (by decide)), qup_ne p2 p1 (z_dne (by decide)), vup_eq]
  · rw [qup_ne p3 p2 (z_dne (by decide)), vup_eq]
  · rw [vup_eq]
theorem Wq_at {Q : VP} {m e : Int32} (hm : 0 ≤ m ∧ m ≤ 60) : LNq (Wq Q m e) m 0 0 0 0 := by
  obtain ⟨a, b, c, d⟩ := Z4q_at (Q := Q) hm
  unfold Wq
  exact ⟨(kup_ne (by decide)).trans a, (kup_ne (by decide)).trans b, (kup_ne (by decide)).trans c, (kup_ne (by decide)).trans d⟩
theorem K1q_at {Q : VP} {m e kd : Int32} (hm : 0 ≤ m ∧ m ≤ 60) : LNq (K1q Q m e kd) m kd 0 0 0 := by
  obtain ⟨a, b, c, d⟩ := Wq_at (Q := Q) (e := e) hm
  unfold K1q
  exact ⟨vup_eq _ _ _ _ _, (vup_ne (fun q => q_16 hm (by decide) (by decide) q.2.2.symm)).trans b, (vup_ne (fun q => q_16 hm (by decide) (by decide) q.2.2.symm)).trans c, (vup_ne (fun q => q_16 hm (by decide) (by decide) q.2.2.symm)).trans d⟩
theorem K2q_at {Q : VP} {m e v : Int32} (hm : 0 ≤ m ∧ m ≤ 60) : LNq (K2q Q m e v) m 6 v 0 0 := LN_1 hm (K1q_at hm) v (vup_eq _ _ _ _ _) (fun j hj => vup_ne (fun q => hj q.2.2))
theorem m_lz {Q : VP} {m p p' a : Int32} {post : Int32 → VP → Prop} (h11 : Q 22 0 11 = m) (hm : 0 ≤ m ∧ m ≤ 60) (hp : 0 ≤ p ∧ p < 4) (hp' : p + 1 = p') (ha : (4 * m) + p = a) (h : vL2 (F_X8_line_l2 post) p' (vup Q 27 0 (ix a) 0)) : vL2 (F_X8_line_l2 post) p Q := by
  refine vL2_step (fun X hX => ?_) h
  unfold F_X8_line_l2
  rw [h11]
  refine br_t hp.2 ⟨q_10 hm hp, fun Q20 e => ?_⟩
  rw [ha] at e
  rw [hp']
  subst e
  exact hX
theorem m_line0 {Q : VP} {m : Int32} {post : Int32 → VP → Prop} (h11 : Q 22 0 11 = m) (hm : 0 ≤ m ∧ m ≤ 60) (h : ∀ X : Int32 → VP → Prop, F_X8_line_l2 post X 4 (Z4q Q m)) : F_X8_line Q post := by
  unfold F_X8_line
  refine m_lz (p' := 1) h11 hm (by decide) (by decide) (k_3 m) ?_
  refine m_lz (p' := 2) (m := m) ((kup_ne (by decide)).trans h11) hm (by decide) (by decide) rfl ?_
  refine m_lz (p' := 3) (m := m) (by rw [kup_ne (by decide), kup_ne (by decide)]; exact h11) hm (by decide) (by decide) rfl ?_
  refine m_lz (p' := 4) (m := m) (by rw [kup_ne (by decide), kup_ne (by decide), kup_ne (by decide)]; exact h11) hm (by decide) (by decide) rfl ?_
  exact vL2_end h
theorem TS_Z {P Q : VP} {L : Int32} {B : Int32 → Int32} {x m : Int32} (h : TS P Q L B x m) : TS P (Z4q Q m) L B x m := by
  obtain ⟨h1, h2, h3, h4⟩ := h
  exact ⟨TB_of h1 rfl (fun _ => rfl) (Z4q_k (by decide)) (fun j => Z4q_k (by decide)), ⟨h2.1, (Z4q_k (by decide)).trans h2.2⟩, ⟨h3.1, (Z4q_k (by decide)).trans h3.2⟩, h4.1, (Z4q_k (by decide)).trans h4.2⟩
theorem sl_2 : ∀ j, j < 15 → 2 ≤ slen j := by decide
theorem x_lt2 {x e n : Int32} (hx : 0 ≤ x) (he : x ≤ e ∧ e ≤ 120) (h : e - x = n) (hn : 2 ≤ n) : x < e := by lia
/-- what a word's line begins with -/
theorem l_pre {P Q : VP} {L : Int32} {B : Int32 → Int32} {x m e : Int32} (h : TS P Q L B x m) (hx : 0 ≤ x ∧ x ≤ L) (hm : 0 ≤ m ∧ m ≤ 60) (hr : RU B L 97 122 x e) {j : Nat} (hj : j < 15) (hmt : MT B x e j) : An (F_X8_many x 97 122 (Z4q Q m)) (e - x) ∧ (∀ j', j' < 15 → ¬ j' = j → An (F_X8_is x (e - x) j' (Z4q Q m)) 0) ∧ An (F_X8_is x (e - x) j (Z4q Q m)) 1 ∧ x + (e - x) = e ∧ x < e ∧ e ≤ L ∧ Z4q Q m 22 0 8 = x ∧ Z4q Q m 22 0 11 = m := by
  have hZ := TS_Z h
  have e120 := q_5 hr.1.2 h.1.2.2.1.2
  refine ⟨m_many hZ.1 hx.1 hr, fun j' hj' hn => (m_is hZ.1 hx.1 hr.1 hj').2 (fun q => hn (MT_un hj' hj q hmt)), (m_is hZ.1 hx.1 hr.1 hj).1 hmt, (q_3 hx.1 ⟨hr.1.1, e120⟩).1, x_lt2 hx.1 ⟨hr.1.1, e120⟩ hmt.1 (sl_2 j hj), hr.1.2, hZ.2.1.2, hZ.2.2.2.2⟩
theorem l_stt {P Q Qw : VP} {L : Int32} {B : Int32 → Int32} {x m e a0 a1 a2 a3 : Int32} (h : TS P Q L B x m) (hxe : x < e) (heL : e ≤ L) (h8 : Qw 22 0 8 = e) (hk : ∀ k x' j, ¬ k = 27 → ¬ (k = 22 ∧ j = 8) → Qw k x' j = Q k x' j) (h27 : ∀ a : Int32, 0 ≤ a → ¬ (4 * m ≤ a ∧ a ≤ (4 * m) + 3) → Qw 27 0 (ix a) = Q 27 0 (ix a)) (hl : LNq Qw m a0 a1 a2 a3) : LSt P Q L B x m (vup P 17 0 6 e) Qw e a0 a1 a2 a3 := by
  obtain ⟨h1, h2, h3, h4⟩ := h
  refine ⟨⟨TB_of h1 (vup_ne (by omega)) (fun j => kup_ne (by decide)) (hk 22 0 7 (by decide) (by omega)) (fun j => hk 26 0 j (by decide) (by omega)), ⟨vup_eq _ _ _ _ _, h8⟩, ⟨(vup_ne (by omega)).trans h3.1, (hk 22 0 9 (by decide) (by omega)).trans h3.2⟩, (vup_ne (by omega)).trans h4.1, (hk 22 0 11 (by decide) (by omega)).trans h4.2⟩, ⟨hxe, heL⟩, hl, fun k x' j a b => vup_ne (by omega), fun k x' j a b => hk k x' j b (by omega), fun j => ⟨kup_ne (by decide), kup_ne (by decide)⟩, h27⟩
theorem Wq_st {P Q : VP} {L : Int32} {B : Int32 → Int32} {x m e : Int32} (h : TS P Q L B x m) (hm : 0 ≤ m ∧ m ≤ 60) (hxe : x < e) (heL : e ≤ L) : LSt P Q L B x m (vup P 17 0 6 e) (Wq Q m e) e 0 0 0 0 := by
  refine l_stt h hxe heL (vup_eq _ _ _ _ _) (fun k x' j a b => ?_) (fun a a0 ha => ?_) (Wq_at hm)
  · unfold Wq
    rw [vup_ne (by omega), Z4q_k a]
  · unfold Wq
    rw [kup_ne (by decide), Z4q_ne hm a0 ha]
theorem K1q_st {P Q : VP} {L : Int32} {B : Int32 → Int32} {x m e : Int32} (kd : Int32) (h : TS P Q L B x m) (hm : 0 ≤ m ∧ m ≤ 60) (hxe : x < e) (heL : e ≤ L) : LSt P Q L B x m (vup P 17 0 6 e) (K1q Q m e kd) e kd 0 0 0 := by
  refine l_stt h hxe heL ?_ (fun k x' j a b => ?_) (fun a a0 ha => ?_) (K1q_at hm)
  · unfold K1q Wq
    rw [kup_ne (by decide), vup_eq]
  · unfold K1q Wq
    rw [kup_ne a, vup_ne (by omega), Z4q_k a]
  · unfold K1q Wq
    rw [qup_ne (v_54 hm).1 a0 (x_m4 hm ha), kup_ne (by decide), Z4q_ne hm a0 ha]
theorem K2q_st {P Q : VP} {L : Int32} {B : Int32 → Int32} {x m e : Int32} (c : Int32) (h : TS P Q L B x m) (hm : 0 ≤ m ∧ m ≤ 60) (hxe : x < e) (heL : e ≤ L) : LSt P Q L B x m (vup P 17 0 6 e) (K2q Q m e c) e 6 c 0 0 := by
  refine l_stt h hxe heL ?_ (fun k x' j a b => ?_) (fun a a0 ha => ?_) (K2q_at hm)
  · unfold K2q K1q Wq
    rw [kup_ne (by decide), kup_ne (by decide), vup_eq]
  · unfold K2q K1q Wq
    rw [kup_ne a, kup_ne a, vup_ne (by omega), Z4q_k a]
  · unfold K2q K1q Wq
    rw [qup_ne (q_10 hm (by decide)).1 a0 (x_mp hm (by decide) ha), qup_ne (v_54 hm).1 a0 (x_m4 hm ha), kup_ne (by decide), Z4q_ne hm a0 ha]
theorem po_digits {P Q : VP} {L : Int32} {B : Int32 → Int32} {x m l c i part high : Int32} (h : TS P Q L B x m) (hx : 0 ≤ x ∧ x ≤ L) (hm : 0 ≤ m ∧ m ≤ 60) (hp : 0 ≤ part ∧ part < 4) (hi : 0 ≤ i ∧ i < l) (hi3 : i < 3) (hc : ∀ (P : VP) (post : Int32 → VP → Prop), F_X5_readNumber 2 high P post → F_X5_readPart c P post) : PO P Q L B x m l c i part (fun v => 0 ≤ v ∧ v ≤ high) (fun post => F_X8_digits part high Q post) := by
  have hL := h.1.2.2.1.2
  refine p_blank h hx hi hi3 (fun hb => ?_) (fun post h0 h1 => ?_) (H := fun post => F_X8_many (vup Q 22 0 8 (x + 1) 22 0 8) 48 57 (vup Q 22 0 8 (x + 1)) (fun r20 => vL2 (F_X8_digits_l30 part high (vup Q 22 0 8 (x + 1)) post r20) 0 0))
  · have hxL := B_lt h.1 (x := x) (by rw [hb]; decide)
    obtain ⟨w1, w2, w3⟩ := q_9 ⟨hx.1, hxL⟩ hL
    exact i_digits (TS_at h) ⟨w1, w2⟩ hm hp (hc _)
  · unfold F_X8_digits
    by_cases hb : B x = 32
    · exact (m_sign h hx.1).1 hb _ (br_f (by decide) (h1 hb))
    · exact (m_sign h hx.1).2 hb _ (br_t rfl (h0 hb))
theorem po_value {P Q : VP} {L : Int32} {B : Int32 → Int32} {x m l i : Int32} (h : TS P Q L B x m) (hx : 0 ≤ x ∧ x ≤ L) (hm : 0 ≤ m ∧ m ≤ 60) (hi : 0 ≤ i ∧ i < l) (hi3 : i < 3) : PO P Q L B x m l 86 i 1 (fun _ => True) (fun post => F_X8_value Q post) := by
  have hL := h.1.2.2.1.2
  refine p_blank h hx hi hi3 (fun hb => ?_) (fun post h0 h1 => ?_) (H := fun post => F_X8_byteAt (vup Q 22 0 8 (x + 1) 22 0 8) (vup Q 22 0 8 (x + 1)) (fun r16 => (r16 = 45 → ((1 : Int32) = 0 → F_X8_value_b44 (vup Q 22 0 8 (x + 1)) post ((1 : Int32)) ((0 : Int32)) (vup Q 22 0 8 (x + 1) 22 0 8)) ∧ (¬ (1 : Int32) = 0 → F_X8_value_b44 (vup Q 22 0 8 (x + 1)) post ((1 : Int32)) ((1 : Int32)) (vup Q 22 0 8 (x + 1) 22 0 8))) ∧ (¬ r16 = 45 → ((0 : Int32) = 0 → F_X8_value_b44 (vup Q 22 0 8 (x + 1)) post ((0 : Int32)) ((0 : Int32)) (vup Q 22 0 8 (x + 1) 22 0 8)) ∧ (¬ (0 : Int32) = 0 → F_X8_value_b44 (vup Q 22 0 8 (x + 1)) post ((0 : Int32)) ((1 : Int32)) (vup Q 22 0 8 (x + 1) 22 0 8)))))
  · have hxL := B_lt h.1 (x := x) (by rw [hb]; decide)
    obtain ⟨w1, w2, w3⟩ := q_9 ⟨hx.1, hxL⟩ hL
    exact i_value (TS_at h) ⟨w1, w2⟩ hm
  · unfold F_X8_value
    by_cases hb : B x = 32
    · exact (m_sign h hx.1).1 hb _ (br_f (by decide) (h1 hb))
    · exact (m_sign h hx.1).2 hb _ (br_t rfl (h0 hb))
theorem po_letter {P Q : VP} {L : Int32} {B : Int32 → Int32} {x m l i : Int32} (h : TS P Q L B x m) (hx : 0 ≤ x ∧ x ≤ L) (hm : 0 ≤ m ∧ m ≤ 60) (hi : 0 ≤ i ∧ i < l) (hi3 : i < 3) : PO P Q L B x m l 76 i 1 (fun v => 0 ≤ v ∧ v < 26) (fun post => F_X8_letter Q post) := by
  have hL := h.1.2.2.1.2
  refine p_blank h hx hi hi3 (fun hb => ?_) (fun post h0 h1 => ?_) (H := fun post => F_X8_many (vup Q 22 0 8 (x + 1) 22 0 8) 97 122 (vup Q 22 0 8 (x + 1)) (fun r20 => (r20 = 1 → F_X8_byteAt (vup Q 22 0 8 (x + 1) 22 0 8) (vup Q 22 0 8 (x + 1)) (fun r49 => (0 ≤ (4 * (vup Q 22 0 8 (x + 1) 22 0 11)) + 1 ∧ (4 * (vup Q 22 0 8 (x + 1) 22 0 11)) + 1 < 480) ∧ (∀ Q55 : VP, Q55 = vup (vup Q 22 0 8 (x + 1)) 27 0 (ix ((4 * (vup Q 22 0 8 (x + 1) 22 0 11)) + 1)) (r49 - 97) → (∀ Q63 : VP, Q63 = vup Q55 22 0 8 ((Q55 22 0 8) + 1) → (post ((1 : Int32)) Q63))))) ∧ (¬ r20 = 1 → F_X8_stops (vup Q 22 0 8 (x + 1)) (fun r28 Q28 => (r28 = 0 ∨ r28 = 1) ∧ (post r28 Q28)))))
  · have hxL := B_lt h.1 (x := x) (by rw [hb]; decide)
    obtain ⟨w1, w2, w3⟩ := q_9 ⟨hx.1, hxL⟩ hL
    exact i_letter (TS_at h) ⟨w1, w2⟩ hm
  · unfold F_X8_letter
    by_cases hb : B x = 32
    · exact (m_sign h hx.1).1 hb _ (br_f (by decide) (h1 hb))
    · exact (m_sign h hx.1).2 hb _ (br_t rfl (h0 hb))
theorem rp_75 (P : VP) (post : Int32 → VP → Prop) (hp : F_X5_readNumber 2 2 P post) : F_X5_readPart 75 P post := by
  unfold F_X5_readPart
  exact br_t rfl hp
theorem rp_78 (P : VP) (post : Int32 → VP → Prop) (hp : F_X5_readNumber 2 3 P post) : F_X5_readPart 78 P post := by
  unfold F_X5_readPart
  exact br_f (by decide) (br_f (by decide) (br_f (by decide) (br_t rfl hp)))
theorem rp_82 (P : VP) (post : Int32 → VP → Prop) (hp : F_X5_readNumber 2 7 P post) : F_X5_readPart 82 P post := by
  unfold F_X5_readPart
  exact br_f (by decide) (br_f (by decide) (br_f (by decide) (br_f (by decide) (br_f (by decide) (br_f (by decide) (br_f (by decide) (br_t rfl hp)))))))
theorem rp_83 (P : VP) (post : Int32 → VP → Prop) (hp : F_X5_readNumber 2 15 P post) : F_X5_readPart 83 P post := by
  unfold F_X5_readPart
  exact br_f (by decide) (br_f (by decide) (br_f (by decide) (br_f (by decide) (br_f (by decide) (br_f (by decide) (br_f (by decide) (br_f (by decide) (br_t rfl hp))))))))
theorem rp_87 (P : VP) (post : Int32 → VP → Prop) (hp : F_X5_readNumber 2 23 P post) : F_X5_readPart 87 P post := by
  unfold F_X5_readPart
  exact br_f (by decide) (br_f (by decide) (br_f (by decide) (br_f (by decide) (br_f (by decide) (br_f (by decide) (br_f (by decide) (br_f (by decide) (br_f (by decide) (br_f (by decide) (br_f (by decide) (br_f (by decide) (br_t rfl hp))))))))))))
def tt (k : Nat) : Nat := if k = 0 then 21 else if k ≤ 4 then 15 else if k = 5 then 16 else if k = 6 then 21 else if k ≤ 8 then 17 else if k = 9 then 15 else if k = 10 then 18 else if k ≤ 12 then 19 else if k = 13 then 20 else 21
theorem c_parts {k : Nat} (h : k < 15) {P : VP} : An (F_X5_partsOf (nI k) P) (tt k) := by
  intro p hp
  unfold F_X5_partsOf
  rcases nat_15 h with rfl | rfl | rfl | rfl | rfl | rfl | rfl | rfl | rfl | rfl | rfl | rfl | rfl | rfl | rfl
  · exact br_f (by decide) (br_f (by decide) (br_f (by decide) (br_f (by decide) (br_f (by decide) (br_f (by decide) (br_f (by decide) (br_f (by decide) (br_f (by decide) (br_f (by decide) (br_f (by decide) (br_f (by decide) (br_f (by decide) (hp)))))))))))))
  · exact br_t rfl hp
  · exact br_f (by decide) (br_t rfl hp)
  · exact br_f (by decide) (br_f (by decide) (br_t rfl hp))
  · exact br_f (by decide) (br_f (by decide) (br_f (by decide) (br_t rfl hp)))
  · exact br_f (by decide) (br_f (by decide) (br_f (by decide) (br_f (by decide) (br_t rfl hp))))
  · exact br_f (by decide) (br_f (by decide) (br_f (by decide) (br_f (by decide) (br_f (by decide) (br_t rfl hp)))))
  · exact br_f (by decide) (br_f (by decide) (br_f (by decide) (br_f (by decide) (br_f (by decide) (br_f (by decide) (br_t rfl hp))))))
  · exact br_f (by decide) (br_f (by decide) (br_f (by decide) (br_f (by decide) (br_f (by decide) (br_f (by decide) (br_f (by decide) (br_t rfl hp)))))))
  · exact br_f (by decide) (br_f (by decide) (br_f (by decide) (br_f (by decide) (br_f (by decide) (br_f (by decide) (br_f (by decide) (br_f (by decide) (br_t rfl hp))))))))
  · exact br_f (by decide) (br_f (by decide) (br_f (by decide) (br_f (by decide) (br_f (by decide) (br_f (by decide) (br_f (by decide) (br_f (by decide) (br_f (by decide) (br_t rfl hp)))))))))
  · exact br_f (by decide) (br_f (by decide) (br_f (by decide) (br_f (by decide) (br_f (by decide) (br_f (by decide) (br_f (by decide) (br_f (by decide) (br_f (by decide) (br_f (by decide) (br_t rfl hp))))))))))
  · exact br_f (by decide) (br_f (by decide) (br_f (by decide) (br_f (by decide) (br_f (by decide) (br_f (by decide) (br_f (by decide) (br_f (by decide) (br_f (by decide) (br_f (by decide) (br_f (by decide) (br_t rfl hp)))))))))))
  · exact br_f (by decide) (br_f (by decide) (br_f (by decide) (br_f (by decide) (br_f (by decide) (br_f (by decide) (br_f (by decide) (br_f (by decide) (br_f (by decide) (br_f (by decide) (br_f (by decide) (br_f (by decide) (br_t rfl hp))))))))))))
  · exact br_f (by decide) (br_f (by decide) (br_f (by decide) (br_f (by decide) (br_f (by decide) (br_f (by decide) (br_f (by decide) (br_f (by decide) (br_f (by decide) (br_f (by decide) (br_f (by decide) (br_f (by decide) (br_f (by decide) (hp)))))))))))))
theorem l_open {P Q : VP} {L : Int32} {B : Int32 → Int32} {x m e : Int32} {M : (Int32 → VP → Prop) → Prop} (h : TS P Q L B x m) (hx : 0 ≤ x ∧ x ≤ L) (hr : RU B L 97 122 x e) {k : Nat} (hk : k < 15) (hmt : MT B x e (spl k)) (ho : OUT P Q L B x m (fun post => vL2 (F_X5_readLine_l12 post (nI k) (tt k)) 0 (vup P 17 0 6 e)) M) : OUT P Q L B x m (F_X5_readLine P) M := by
  refine OUT_w ho (fun post hp => ?_) (fun _ hp => hp)
  unfold F_X5_readLine
  exact c_word h.1 hx.1 h.2.1.1 hr hk hmt _ (c_parts hk _ hp)
theorem ixn : ∀ c, c < 10 → ix (nI c) = c ∧ nI c < 10 ∧ 0 ≤ nI c ∧ nI c + 1 = nI (c + 1) := by decide
/-- the reference's acts, tried one behind another -/
theorem m_act {P Z : VP} {L : Int32} {B : Int32 → Int32} {x e : Int32} (h : TB P Z L B) (hx : 0 ≤ x) (he : x ≤ e ∧ e ≤ L) {c : Nat} (hc : c < 10) (hmt : MT B x e c) (post : Int32 → VP → Prop) (hp : F_X8_actLine_b29 x (e - x) Z post (nI c)) : F_X8_actLine x (e - x) Z post := by
  unfold F_X8_actLine
  have key : ∀ d i : Nat, i + d = c → vL1 (F_X8_actLine_l2 x (e - x) Z post) (nI i) := by
    intro d
    induction d with
    | zero =>
      intro i hi
      have hik : i = c := by omega
      subst hik
      refine ⟨1, ?_⟩
      show F_X8_actLine_l2 x (e - x) Z post (vl1 (F_X8_actLine_l2 x (e - x) Z post) 0) (nI i)
      unfold F_X8_actLine_l2
      obtain ⟨i1, i2, i3, i4⟩ := ixn i hc
      rw [i1]
      exact br_t i2 ⟨⟨i3, i2⟩, (m_is h hx he (by omega)).1 hmt _ (br_f (by decide) hp)⟩
    | succ d ih =>
      intro i hi
      have hi10 : i < 10 := by omega
      obtain ⟨n, hn⟩ := ih (i + 1) (by omega)
      refine ⟨n + 1, ?_⟩
      show F_X8_actLine_l2 x (e - x) Z post (vl1 (F_X8_actLine_l2 x (e - x) Z post) n) (nI i)
      have hno : ¬ MT B x e i := fun q => by
        have := MT_un (by omega) (by omega) q hmt
        omega
      unfold F_X8_actLine_l2
      obtain ⟨i1, i2, i3, i4⟩ := ixn i hi10
      rw [i1, i4]
      exact br_t i2 ⟨⟨i3, i2⟩, (m_is h hx he (by omega)).2 hno _ (br_t rfl hn)⟩
  exact key c 0 (by omega)
theorem m_noact {P Z : VP} {L : Int32} {B : Int32 → Int32} {x e : Int32} (h : TB P Z L B) (hx : 0 ≤ x) (he : x ≤ e ∧ e ≤ L) (hmt : ∀ j, j < 15 → ¬ MT B x e j) (post : Int32 → VP → Prop) (hp : F_X8_actLine_b29 x (e - x) Z post 10) : F_X8_actLine x (e - x) Z post := by
  unfold F_X8_actLine
  have key : ∀ d i : Nat, i + d = 10 → vL1 (F_X8_actLine_l2 x (e - x) Z post) (nI i) := by
    intro d
    induction d with
    | zero =>
      intro i hi
      have hik : i = 10 := by omega
      subst hik
      refine ⟨1, ?_⟩
      show F_X8_actLine_l2 x (e - x) Z post (vl1 (F_X8_actLine_l2 x (e - x) Z post) 0) (nI 10)
      unfold F_X8_actLine_l2
      exact br_f (by decide) hp
    | succ d ih =>
      intro i hi
      have hi10 : i < 10 := by omega
      obtain ⟨n, hn⟩ := ih (i + 1) (by omega)
      refine ⟨n + 1, ?_⟩
      show F_X8_actLine_l2 x (e - x) Z post (vl1 (F_X8_actLine_l2 x (e - x) Z post) n) (nI i)
      unfold F_X8_actLine_l2
      obtain ⟨i1, i2, i3, i4⟩ := ixn i hi10
      rw [i1, i4]
      exact br_t i2 ⟨⟨i3, i2⟩, (m_is h hx he (by omega)).2 (hmt i (by omega)) _ (br_t rfl hn)⟩
  exact key 10 0 (by omega)
