/-! the text: each word's line -/
theorem Wq_11 {Q : VP} {m e : Int32} (h : Z4q Q m 22 0 11 = m) : vup (Z4q Q m) 22 0 8 e 22 0 11 = m := (vup_ne (by omega)).trans h
theorem l_none {P Q : VP} {L : Int32} {B : Int32 → Int32} {x m e : Int32} (h : TS P Q L B x m) (hx : 0 ≤ x ∧ x ≤ L) (hm : 0 ≤ m ∧ m ≤ 60) (hr : RU B L 97 122 x e) (hmt : MT B x e 13) (post : Int32 → VP → Prop) (hp : post 1 (Wq Q m e)) : F_X8_line Q post := by
  obtain ⟨mm, is0, is1, ex, hxe, heL, z8, z11⟩ := l_pre h hx hm hr (by decide) hmt
  refine m_line0 h.2.2.2.2 hm (fun X => ?_)
  unfold F_X8_line_l2
  rw [z8]
  refine br_f (by decide) (mm _ (is1 _ (br_f (by decide) (fun Q63 e1 => ?_))))
  rw [ex] at e1
  subst e1
  exact hp
theorem l_num {P Q : VP} {L : Int32} {B : Int32 → Int32} {x m e : Int32} (h : TS P Q L B x m) (hx : 0 ≤ x ∧ x ≤ L) (hm : 0 ≤ m ∧ m ≤ 60) (hr : RU B L 97 122 x e) (hmt : MT B x e 10) (post : Int32 → VP → Prop) (hp : F_X8_value (K1q Q m e 1) (fun r102 Q102 => (r102 = 0 ∨ r102 = 1) ∧ (post r102 Q102))) : F_X8_line Q post := by
  obtain ⟨mm, is0, is1, ex, hxe, heL, z8, z11⟩ := l_pre h hx hm hr (by decide) hmt
  refine m_line0 h.2.2.2.2 hm (fun X => ?_)
  unfold F_X8_line_l2
  rw [z8]
  refine br_f (by decide) (mm _ (is0 13 (by decide) (by decide) _ (br_t rfl (is1 _ (br_f (by decide) (fun Q86 e1 => ?_))))))
  rw [ex] at e1
  subst e1
  rw [Wq_11 z11]
  refine ⟨v_54 hm, fun Q100 e2 => ?_⟩
  subst e2
  exact hp
theorem l_ptr {P Q : VP} {L : Int32} {B : Int32 → Int32} {x m e : Int32} (h : TS P Q L B x m) (hx : 0 ≤ x ∧ x ≤ L) (hm : 0 ≤ m ∧ m ≤ 60) (hr : RU B L 97 122 x e) (hmt : MT B x e 11) (post : Int32 → VP → Prop) (hp : F_X8_digits 1 7 (K1q Q m e 2) (fun r169 Q169 => (r169 = 0 → post 0 Q169) ∧ (¬ r169 = 0 → F_X8_digits 2 15 Q169 (fun r179 Q179 => (r179 = 0 → post 0 Q179) ∧ (¬ r179 = 0 → F_X8_digits 3 23 Q179 (fun r189 Q189 => (r189 = 0 → post 0 Q189) ∧ (¬ r189 = 0 → post 1 Q189))))))) : F_X8_line Q post := by
  obtain ⟨mm, is0, is1, ex, hxe, heL, z8, z11⟩ := l_pre h hx hm hr (by decide) hmt
  have hW : TB P (vup (Z4q Q m) 22 0 8 e) L B := TB_of (TS_Z h).1 rfl (fun _ => rfl) (vup_ne (by omega)) (fun j => kup_ne (by decide))
  refine m_line0 h.2.2.2.2 hm (fun X => ?_)
  unfold F_X8_line_l2
  rw [z8]
  refine br_f (by decide) (mm _ (is0 13 (by decide) (by decide) _ (br_t rfl (is0 10 (by decide) (by decide) _ (br_t rfl (is1 _ (br_f (by decide) ?_)))))))
  unfold F_X8_line_b128
  intro Q135 e1
  rw [z8, ex] at e1
  subst e1
  refine (m_is hW hx.1 hr.1 (by decide)).1 hmt _ (br_f (by decide) ?_)
  unfold F_X8_line_b164
  rw [Wq_11 z11]
  refine ⟨v_54 hm, fun Q164 e2 => ?_⟩
  subst e2
  exact hp
theorem l_ind {P Q : VP} {L : Int32} {B : Int32 → Int32} {x m e : Int32} (h : TS P Q L B x m) (hx : 0 ≤ x ∧ x ≤ L) (hm : 0 ≤ m ∧ m ≤ 60) (hr : RU B L 97 122 x e) (hmt : MT B x e 12) (post : Int32 → VP → Prop) (hp : F_X8_digits 1 7 (K1q Q m e 3) (fun r169 Q169 => (r169 = 0 → post 0 Q169) ∧ (¬ r169 = 0 → F_X8_digits 2 15 Q169 (fun r179 Q179 => (r179 = 0 → post 0 Q179) ∧ (¬ r179 = 0 → F_X8_digits 3 23 Q179 (fun r189 Q189 => (r189 = 0 → post 0 Q189) ∧ (¬ r189 = 0 → post 1 Q189))))))) : F_X8_line Q post := by
  obtain ⟨mm, is0, is1, ex, hxe, heL, z8, z11⟩ := l_pre h hx hm hr (by decide) hmt
  have hW : TB P (vup (Z4q Q m) 22 0 8 e) L B := TB_of (TS_Z h).1 rfl (fun _ => rfl) (vup_ne (by omega)) (fun j => kup_ne (by decide))
  refine m_line0 h.2.2.2.2 hm (fun X => ?_)
  unfold F_X8_line_l2
  rw [z8]
  refine br_f (by decide) (mm _ (is0 13 (by decide) (by decide) _ (br_t rfl (is0 10 (by decide) (by decide) _ (br_t rfl (is0 11 (by decide) (by decide) _ (br_t rfl (is1 _ (br_f (by decide) ?_)))))))))
  unfold F_X8_line_b128
  intro Q135 e1
  rw [z8, ex] at e1
  subst e1
  refine (m_is hW hx.1 hr.1 (by decide)).2 (fun q => absurd (MT_un (by decide) (by decide) q hmt) (by decide)) _ (br_t rfl ?_)
  unfold F_X8_line_b164
  rw [Wq_11 z11]
  refine ⟨v_54 hm, fun Q164 e2 => ?_⟩
  subst e2
  exact hp
theorem l_lnk {P Q : VP} {L : Int32} {B : Int32 → Int32} {x m e : Int32} (h : TS P Q L B x m) (hx : 0 ≤ x ∧ x ≤ L) (hm : 0 ≤ m ∧ m ≤ 60) (hr : RU B L 97 122 x e) (hmt : MT B x e 14) (post : Int32 → VP → Prop) (hp : F_X8_letter (K1q Q m e 4) (fun r235 Q235 => (r235 = 0 → post 0 Q235) ∧ (¬ r235 = 0 → F_X8_digits 2 23 Q235 (fun r245 Q245 => (r245 = 0 → post 0 Q245) ∧ (¬ r245 = 0 → post 1 Q245))))) : F_X8_line Q post := by
  obtain ⟨mm, is0, is1, ex, hxe, heL, z8, z11⟩ := l_pre h hx hm hr (by decide) hmt
  refine m_line0 h.2.2.2.2 hm (fun X => ?_)
  unfold F_X8_line_l2
  rw [z8]
  refine br_f (by decide) (mm _ (is0 13 (by decide) (by decide) _ (br_t rfl (is0 10 (by decide) (by decide) _ (br_t rfl (is0 11 (by decide) (by decide) _ (br_t rfl (is0 12 (by decide) (by decide) _ (br_t rfl (is1 _ (br_f (by decide) (fun Q219 e1 => ?_))))))))))))
  rw [ex] at e1
  subst e1
  rw [Wq_11 z11]
  refine ⟨v_54 hm, fun Q233 e2 => ?_⟩
  subst e2
  exact hp
theorem ne_9 : ∀ c, c < 10 → ¬ nI c = 10 := by decide
theorem l_act {P Q : VP} {L : Int32} {B : Int32 → Int32} {x m e : Int32} (h : TS P Q L B x m) (hx : 0 ≤ x ∧ x ≤ L) (hm : 0 ≤ m ∧ m ≤ 60) (hr : RU B L 97 122 x e) {c : Nat} (hc : c < 10) (hmt : MT B x e c) (post : Int32 → VP → Prop) (hp : (nI c = 0 → ((1 : Int32) = 0 ∨ (1 : Int32) = 1) ∧ post 1 (K2q Q m e (nI c))) ∧ (¬ nI c = 0 → (nI c = 6 → ((1 : Int32) = 0 ∨ (1 : Int32) = 1) ∧ post 1 (K2q Q m e (nI c))) ∧ (¬ nI c = 6 → (nI c = 7 → F_X8_actLine_b109 x (e - x) (K2q Q m e (nI c)) (fun r260 Q260 => (r260 = 0 ∨ r260 = 1) ∧ (post r260 Q260)) (nI c) 2) ∧ (¬ nI c = 7 → (nI c = 8 → F_X8_actLine_b109 x (e - x) (K2q Q m e (nI c)) (fun r260 Q260 => (r260 = 0 ∨ r260 = 1) ∧ (post r260 Q260)) (nI c) 2) ∧ (¬ nI c = 8 → F_X8_actLine_b109 x (e - x) (K2q Q m e (nI c)) (fun r260 Q260 => (r260 = 0 ∨ r260 = 1) ∧ (post r260 Q260)) (nI c) 23))))) : F_X8_line Q post := by
  obtain ⟨mm, is0, is1, ex, hxe, heL, z8, z11⟩ := l_pre h hx hm hr (by omega) hmt
  refine m_line0 h.2.2.2.2 hm (fun X => ?_)
  unfold F_X8_line_l2
  rw [z8]
  refine br_f (by decide) (mm _ (is0 13 (by decide) (by omega) _ (br_t rfl (is0 10 (by decide) (by omega) _ (br_t rfl (is0 11 (by decide) (by omega) _ (br_t rfl (is0 12 (by decide) (by omega) _ (br_t rfl (is0 14 (by decide) (by omega) _ (br_t rfl ?_)))))))))))
  refine m_act (TS_Z h).1 hx.1 hr.1 hc hmt _ ?_
  unfold F_X8_actLine_b29
  refine br_f (ne_9 c hc) (fun Q47 e1 => ?_)
  rw [z8, ex] at e1
  subst e1
  rw [Wq_11 z11]
  refine ⟨v_54 hm, fun Q62 e2 => ?_⟩
  subst e2
  rw [kup_ne (by decide), Wq_11 z11]
  refine ⟨q_10 hm (by decide), fun Q76 e3 => ?_⟩
  subst e3
  exact hp
theorem x_0 {x e : Int32} (h0 : 0 ≤ x) (h : x < e) : 0 ≤ e := by lia
theorem x_23 {v : Int32} (h : 0 ≤ v ∧ v ≤ 23) : 0 ≤ v ∧ v < 24 := by lia
theorem x_2a {v : Int32} (h : 0 ≤ v ∧ v ≤ 2) : 0 ≤ v ∧ v < 24 := by lia
theorem x_3a {v : Int32} (h : 0 ≤ v ∧ v ≤ 3) : 0 ≤ v ∧ v < 4 := by lia
theorem x_7a {v : Int32} (h : 0 ≤ v ∧ v ≤ 7) : 0 ≤ v ∧ v < 8 := by lia
theorem x_15 {v : Int32} (h : 0 ≤ v ∧ v ≤ 15) : 0 ≤ v ∧ v < 16 := by lia
theorem i_01 : (0 : Int32) + 1 = 1 ∧ (1 : Int32) + 1 = 2 := by decide
theorem ln_0 {P Q : VP} {L : Int32} {B : Int32 → Int32} {x m e : Int32} (h : TS P Q L B x m) (hx : 0 ≤ x ∧ x ≤ L) (hm : 0 ≤ m ∧ m ≤ 60) (hr : RU B L 97 122 x e) (hmt : MT B x e 0) : OUT P Q L B x m (F_X5_readLine P) (F_X8_line Q) := by
  obtain ⟨mm, is0, is1, ex, hxe, heL, z8, z11⟩ := l_pre h hx hm hr (by decide) hmt
  refine l_open (k := 0) h hx hr (by decide) hmt ?_
  have st := K2q_st (nI 0) h hm hxe heL
  have e0 := x_0 hx.1 hxe
  refine o_end (V := (1000 * nI 0 + 0) + 0) (K := 6) st hx.1 hm (by decide) (fun post ht => ?_) ⟨rfl, Or.inr (Or.inr (Or.inr (Or.inr (Or.inr ⟨rfl, by decide, rfl, by decide, by decide, by decide⟩))))⟩ (fun post hp => l_act h hx hm hr (by decide) hmt post (br_t rfl (⟨Or.inr rfl, hp⟩)))
  unfold F_X5_tellWord F_X5_tellWord_b178
  exact br_f (by decide) (br_f (by decide) (br_f (by decide) (br_f (by decide) (br_f (by decide) (br_f (by decide) (br_f (by decide) ht))))))
theorem ln_1 {P Q : VP} {L : Int32} {B : Int32 → Int32} {x m e : Int32} (h : TS P Q L B x m) (hx : 0 ≤ x ∧ x ≤ L) (hm : 0 ≤ m ∧ m ≤ 60) (hr : RU B L 97 122 x e) (hmt : MT B x e 1) : OUT P Q L B x m (F_X5_readLine P) (F_X8_line Q) := by
  obtain ⟨mm, is0, is1, ex, hxe, heL, z8, z11⟩ := l_pre h hx hm hr (by decide) hmt
  refine l_open (k := 1) h hx hr (by decide) hmt ?_
  have st := K2q_st (nI 1) h hm hxe heL
  have e0 := x_0 hx.1 hxe
  have s0 : sch (tt 1) (ix 0) = 87 := by decide
  refine o_part (i := 0) (part := 2) (R := fun v => 0 ≤ v ∧ v ≤ 23) (G := fun post => F_X8_digits 2 23 (K2q Q m e (nI 1)) post) (b0 := fun _ => 6) (b1 := fun _ => nI 1) (b2 := fun v => v) (b3 := fun _ => 0) st hm (by decide) (by decide) (by decide) (by rw [s0]; exact po_digits st.1 ⟨e0, heL⟩ hm (by decide) (by decide) (by decide) rp_87) (fun Qf g post hp => l_act h hx hm hr (by decide) hmt post (br_f (by decide) (br_f (by decide) (br_f (by decide) (br_f (by decide) (?_)))))) (fun v Q1 => LN_2 hm (K2q_at hm) v) (fun v y1 P1 Q1 hv hls p0 pn g => ?_)
  · unfold F_X8_actLine_b109
    exact g _ (br_t rfl ⟨Or.inl rfl, hp⟩)
  · rw [i_01.1]
    refine o_end (V := ((1000 * nI 1) + (10 * v)) + 0) (K := 6) hls hx.1 hm (by decide) (fun post ht => ?_) ⟨rfl, Or.inr (Or.inr (Or.inr (Or.inr (Or.inr ⟨rfl, rfl, rfl, by decide, x_23 hv, by decide⟩))))⟩ (fun post hp => l_act h hx hm hr (by decide) hmt post (br_f (by decide) (br_f (by decide) (br_f (by decide) (br_f (by decide) (?_))))))
    · unfold F_X5_tellWord F_X5_tellWord_b178
      rw [p0]
      exact br_f (by decide) (br_f (by decide) (br_f (by decide) (br_f (by decide) (br_f (by decide) (br_t (by decide) ⟨by decide, br_f (by decide) ht⟩)))))
    · unfold F_X8_actLine_b109
      exact g _ (br_f (by decide) (br_f (by decide) ⟨Or.inr rfl, hp⟩))
theorem ln_2 {P Q : VP} {L : Int32} {B : Int32 → Int32} {x m e : Int32} (h : TS P Q L B x m) (hx : 0 ≤ x ∧ x ≤ L) (hm : 0 ≤ m ∧ m ≤ 60) (hr : RU B L 97 122 x e) (hmt : MT B x e 2) : OUT P Q L B x m (F_X5_readLine P) (F_X8_line Q) := by
  obtain ⟨mm, is0, is1, ex, hxe, heL, z8, z11⟩ := l_pre h hx hm hr (by decide) hmt
  refine l_open (k := 2) h hx hr (by decide) hmt ?_
  have st := K2q_st (nI 2) h hm hxe heL
  have e0 := x_0 hx.1 hxe
  have s0 : sch (tt 2) (ix 0) = 87 := by decide
  refine o_part (i := 0) (part := 2) (R := fun v => 0 ≤ v ∧ v ≤ 23) (G := fun post => F_X8_digits 2 23 (K2q Q m e (nI 2)) post) (b0 := fun _ => 6) (b1 := fun _ => nI 2) (b2 := fun v => v) (b3 := fun _ => 0) st hm (by decide) (by decide) (by decide) (by rw [s0]; exact po_digits st.1 ⟨e0, heL⟩ hm (by decide) (by decide) (by decide) rp_87) (fun Qf g post hp => l_act h hx hm hr (by decide) hmt post (br_f (by decide) (br_f (by decide) (br_f (by decide) (br_f (by decide) (?_)))))) (fun v Q1 => LN_2 hm (K2q_at hm) v) (fun v y1 P1 Q1 hv hls p0 pn g => ?_)
  · unfold F_X8_actLine_b109
    exact g _ (br_t rfl ⟨Or.inl rfl, hp⟩)
  · rw [i_01.1]
    refine o_end (V := ((1000 * nI 2) + (10 * v)) + 0) (K := 6) hls hx.1 hm (by decide) (fun post ht => ?_) ⟨rfl, Or.inr (Or.inr (Or.inr (Or.inr (Or.inr ⟨rfl, rfl, rfl, by decide, x_23 hv, by decide⟩))))⟩ (fun post hp => l_act h hx hm hr (by decide) hmt post (br_f (by decide) (br_f (by decide) (br_f (by decide) (br_f (by decide) (?_))))))
    · unfold F_X5_tellWord F_X5_tellWord_b178
      rw [p0]
      exact br_f (by decide) (br_f (by decide) (br_f (by decide) (br_f (by decide) (br_f (by decide) (br_t (by decide) ⟨by decide, br_f (by decide) ht⟩)))))
    · unfold F_X8_actLine_b109
      exact g _ (br_f (by decide) (br_f (by decide) ⟨Or.inr rfl, hp⟩))
theorem ln_3 {P Q : VP} {L : Int32} {B : Int32 → Int32} {x m e : Int32} (h : TS P Q L B x m) (hx : 0 ≤ x ∧ x ≤ L) (hm : 0 ≤ m ∧ m ≤ 60) (hr : RU B L 97 122 x e) (hmt : MT B x e 3) : OUT P Q L B x m (F_X5_readLine P) (F_X8_line Q) := by
  obtain ⟨mm, is0, is1, ex, hxe, heL, z8, z11⟩ := l_pre h hx hm hr (by decide) hmt
  refine l_open (k := 3) h hx hr (by decide) hmt ?_
  have st := K2q_st (nI 3) h hm hxe heL
  have e0 := x_0 hx.1 hxe
  have s0 : sch (tt 3) (ix 0) = 87 := by decide
  refine o_part (i := 0) (part := 2) (R := fun v => 0 ≤ v ∧ v ≤ 23) (G := fun post => F_X8_digits 2 23 (K2q Q m e (nI 3)) post) (b0 := fun _ => 6) (b1 := fun _ => nI 3) (b2 := fun v => v) (b3 := fun _ => 0) st hm (by decide) (by decide) (by decide) (by rw [s0]; exact po_digits st.1 ⟨e0, heL⟩ hm (by decide) (by decide) (by decide) rp_87) (fun Qf g post hp => l_act h hx hm hr (by decide) hmt post (br_f (by decide) (br_f (by decide) (br_f (by decide) (br_f (by decide) (?_)))))) (fun v Q1 => LN_2 hm (K2q_at hm) v) (fun v y1 P1 Q1 hv hls p0 pn g => ?_)
  · unfold F_X8_actLine_b109
    exact g _ (br_t rfl ⟨Or.inl rfl, hp⟩)
  · rw [i_01.1]
    refine o_end (V := ((1000 * nI 3) + (10 * v)) + 0) (K := 6) hls hx.1 hm (by decide) (fun post ht => ?_) ⟨rfl, Or.inr (Or.inr (Or.inr (Or.inr (Or.inr ⟨rfl, rfl, rfl, by decide, x_23 hv, by decide⟩))))⟩ (fun post hp => l_act h hx hm hr (by decide) hmt post (br_f (by decide) (br_f (by decide) (br_f (by decide) (br_f (by decide) (?_))))))
    · unfold F_X5_tellWord F_X5_tellWord_b178
      rw [p0]
      exact br_f (by decide) (br_f (by decide) (br_f (by decide) (br_f (by decide) (br_f (by decide) (br_t (by decide) ⟨by decide, br_f (by decide) ht⟩)))))
    · unfold F_X8_actLine_b109
      exact g _ (br_f (by decide) (br_f (by decide) ⟨Or.inr rfl, hp⟩))
theorem ln_4 {P Q : VP} {L : Int32} {B : Int32 → Int32} {x m e : Int32} (h : TS P Q L B x m) (hx : 0 ≤ x ∧ x ≤ L) (hm : 0 ≤ m ∧ m ≤ 60) (hr : RU B L 97 122 x e) (hmt : MT B x e 4) : OUT P Q L B x m (F_X5_readLine P) (F_X8_line Q) := by
  obtain ⟨mm, is0, is1, ex, hxe, heL, z8, z11⟩ := l_pre h hx hm hr (by decide) hmt
  refine l_open (k := 4) h hx hr (by decide) hmt ?_
  have st := K2q_st (nI 4) h hm hxe heL
  have e0 := x_0 hx.1 hxe
  have s0 : sch (tt 4) (ix 0) = 87 := by decide
  refine o_part (i := 0) (part := 2) (R := fun v => 0 ≤ v ∧ v ≤ 23) (G := fun post => F_X8_digits 2 23 (K2q Q m e (nI 4)) post) (b0 := fun _ => 6) (b1 := fun _ => nI 4) (b2 := fun v => v) (b3 := fun _ => 0) st hm (by decide) (by decide) (by decide) (by rw [s0]; exact po_digits st.1 ⟨e0, heL⟩ hm (by decide) (by decide) (by decide) rp_87) (fun Qf g post hp => l_act h hx hm hr (by decide) hmt post (br_f (by decide) (br_f (by decide) (br_f (by decide) (br_f (by decide) (?_)))))) (fun v Q1 => LN_2 hm (K2q_at hm) v) (fun v y1 P1 Q1 hv hls p0 pn g => ?_)
  · unfold F_X8_actLine_b109
    exact g _ (br_t rfl ⟨Or.inl rfl, hp⟩)
  · rw [i_01.1]
    refine o_end (V := ((1000 * nI 4) + (10 * v)) + 0) (K := 6) hls hx.1 hm (by decide) (fun post ht => ?_) ⟨rfl, Or.inr (Or.inr (Or.inr (Or.inr (Or.inr ⟨rfl, rfl, rfl, by decide, x_23 hv, by decide⟩))))⟩ (fun post hp => l_act h hx hm hr (by decide) hmt post (br_f (by decide) (br_f (by decide) (br_f (by decide) (br_f (by decide) (?_))))))
    · unfold F_X5_tellWord F_X5_tellWord_b178
      rw [p0]
      exact br_f (by decide) (br_f (by decide) (br_f (by decide) (br_f (by decide) (br_f (by decide) (br_t (by decide) ⟨by decide, br_f (by decide) ht⟩)))))
    · unfold F_X8_actLine_b109
      exact g _ (br_f (by decide) (br_f (by decide) ⟨Or.inr rfl, hp⟩))
theorem ln_5 {P Q : VP} {L : Int32} {B : Int32 → Int32} {x m e : Int32} (h : TS P Q L B x m) (hx : 0 ≤ x ∧ x ≤ L) (hm : 0 ≤ m ∧ m ≤ 60) (hr : RU B L 97 122 x e) (hmt : MT B x e 5) : OUT P Q L B x m (F_X5_readLine P) (F_X8_line Q) := by
  obtain ⟨mm, is0, is1, ex, hxe, heL, z8, z11⟩ := l_pre h hx hm hr (by decide) hmt
  refine l_open (k := 5) h hx hr (by decide) hmt ?_
  have st := K2q_st (nI 5) h hm hxe heL
  have e0 := x_0 hx.1 hxe
  have s0 : sch (tt 5) (ix 0) = 87 := by decide
  have s1 : sch (tt 5) (ix 1) = 78 := by decide
  refine o_part (i := 0) (part := 2) (R := fun v => 0 ≤ v ∧ v ≤ 23) (G := fun post => F_X8_digits 2 23 (K2q Q m e (nI 5)) post) (b0 := fun _ => 6) (b1 := fun _ => nI 5) (b2 := fun v => v) (b3 := fun _ => 0) st hm (by decide) (by decide) (by decide) (by rw [s0]; exact po_digits st.1 ⟨e0, heL⟩ hm (by decide) (by decide) (by decide) rp_87) (fun Qf g post hp => l_act h hx hm hr (by decide) hmt post (br_f (by decide) (br_f (by decide) (br_f (by decide) (br_f (by decide) (?_)))))) (fun v Q1 => LN_2 hm (K2q_at hm) v) (fun v y1 P1 Q1 hv hls p0 pn g => ?_)
  · unfold F_X8_actLine_b109
    exact g _ (br_t rfl ⟨Or.inl rfl, hp⟩)
  · rw [i_01.1]
    have y0 := x_0 hx.1 hls.2.1.1
    refine o_part (i := 1) (part := 3) (R := fun v => 0 ≤ v ∧ v ≤ 3) (G := fun post => F_X8_digits 3 3 Q1 post) (b0 := fun _ => 6) (b1 := fun _ => nI 5) (b2 := fun _ => v) (b3 := fun v => v) hls hm (by decide) (by decide) (by decide) (by rw [s1]; exact po_digits hls.1 ⟨y0, hls.2.1.2⟩ hm (by decide) (by decide) (by decide) rp_78) (fun Qf g2 post hp => l_act h hx hm hr (by decide) hmt post (br_f (by decide) (br_f (by decide) (br_f (by decide) (br_f (by decide) (?_)))))) (fun v' Q2 => LN_3 hm hls.2.2.1 v') (fun v' y2 P2 Q2 hv' hls2 p2 pn2 g2 => ?_)
    · unfold F_X8_actLine_b109
      exact g _ (br_f (by decide) (br_t rfl (g2 _ (br_t rfl ⟨Or.inl rfl, hp⟩))))
    · have q0 : P2 21 0 (ix 0) = v := (pn2 _ (by decide)).trans p0
      refine o_end (V := ((1000 * nI 5) + (10 * v)) + v') (K := 6) hls2 hx.1 hm (by decide) (fun post ht => ?_) ⟨rfl, Or.inr (Or.inr (Or.inr (Or.inr (Or.inr ⟨rfl, rfl, rfl, by decide, x_23 hv, x_3a hv'⟩))))⟩ (fun post hp => l_act h hx hm hr (by decide) hmt post (br_f (by decide) (br_f (by decide) (br_f (by decide) (br_f (by decide) (?_))))))
      · unfold F_X5_tellWord F_X5_tellWord_b178
        rw [q0, p2]
        exact br_f (by decide) (br_f (by decide) (br_f (by decide) (br_f (by decide) (br_f (by decide) (br_t (by decide) ⟨by decide, br_t (by decide) ⟨by decide, ht⟩⟩)))))
      · unfold F_X8_actLine_b109
        exact g _ (br_f (by decide) (br_t rfl (g2 _ (br_f (by decide) ⟨Or.inr rfl, hp⟩))))
theorem ln_6 {P Q : VP} {L : Int32} {B : Int32 → Int32} {x m e : Int32} (h : TS P Q L B x m) (hx : 0 ≤ x ∧ x ≤ L) (hm : 0 ≤ m ∧ m ≤ 60) (hr : RU B L 97 122 x e) (hmt : MT B x e 6) : OUT P Q L B x m (F_X5_readLine P) (F_X8_line Q) := by
  obtain ⟨mm, is0, is1, ex, hxe, heL, z8, z11⟩ := l_pre h hx hm hr (by decide) hmt
  refine l_open (k := 6) h hx hr (by decide) hmt ?_
  have st := K2q_st (nI 6) h hm hxe heL
  have e0 := x_0 hx.1 hxe
  refine o_end (V := (1000 * nI 6 + 0) + 0) (K := 6) st hx.1 hm (by decide) (fun post ht => ?_) ⟨rfl, Or.inr (Or.inr (Or.inr (Or.inr (Or.inr ⟨rfl, by decide, rfl, by decide, by decide, by decide⟩))))⟩ (fun post hp => l_act h hx hm hr (by decide) hmt post (br_f (by decide) (br_t rfl (⟨Or.inr rfl, hp⟩))))
  unfold F_X5_tellWord F_X5_tellWord_b178
  exact br_f (by decide) (br_f (by decide) (br_f (by decide) (br_f (by decide) (br_f (by decide) (br_f (by decide) (br_f (by decide) ht))))))
theorem ln_7 {P Q : VP} {L : Int32} {B : Int32 → Int32} {x m e : Int32} (h : TS P Q L B x m) (hx : 0 ≤ x ∧ x ≤ L) (hm : 0 ≤ m ∧ m ≤ 60) (hr : RU B L 97 122 x e) (hmt : MT B x e 7) : OUT P Q L B x m (F_X5_readLine P) (F_X8_line Q) := by
  obtain ⟨mm, is0, is1, ex, hxe, heL, z8, z11⟩ := l_pre h hx hm hr (by decide) hmt
  refine l_open (k := 7) h hx hr (by decide) hmt ?_
  have st := K2q_st (nI 7) h hm hxe heL
  have e0 := x_0 hx.1 hxe
  have s0 : sch (tt 7) (ix 0) = 75 := by decide
  refine o_part (i := 0) (part := 2) (R := fun v => 0 ≤ v ∧ v ≤ 2) (G := fun post => F_X8_digits 2 2 (K2q Q m e (nI 7)) post) (b0 := fun _ => 6) (b1 := fun _ => nI 7) (b2 := fun v => v) (b3 := fun _ => 0) st hm (by decide) (by decide) (by decide) (by rw [s0]; exact po_digits st.1 ⟨e0, heL⟩ hm (by decide) (by decide) (by decide) rp_75) (fun Qf g post hp => l_act h hx hm hr (by decide) hmt post (br_f (by decide) (br_f (by decide) (br_t rfl (?_))))) (fun v Q1 => LN_2 hm (K2q_at hm) v) (fun v y1 P1 Q1 hv hls p0 pn g => ?_)
  · unfold F_X8_actLine_b109
    exact g _ (br_t rfl ⟨Or.inl rfl, hp⟩)
  · rw [i_01.1]
    refine o_end (V := ((1000 * nI 7) + (10 * v)) + 0) (K := 6) hls hx.1 hm (by decide) (fun post ht => ?_) ⟨rfl, Or.inr (Or.inr (Or.inr (Or.inr (Or.inr ⟨rfl, rfl, rfl, by decide, x_2a hv, by decide⟩))))⟩ (fun post hp => l_act h hx hm hr (by decide) hmt post (br_f (by decide) (br_f (by decide) (br_t rfl (?_)))))
    · unfold F_X5_tellWord F_X5_tellWord_b178
      rw [p0]
      exact br_f (by decide) (br_f (by decide) (br_f (by decide) (br_f (by decide) (br_f (by decide) (br_t (by decide) ⟨by decide, br_f (by decide) ht⟩)))))
    · unfold F_X8_actLine_b109
      exact g _ (br_f (by decide) (br_f (by decide) ⟨Or.inr rfl, hp⟩))
theorem ln_8 {P Q : VP} {L : Int32} {B : Int32 → Int32} {x m e : Int32} (h : TS P Q L B x m) (hx : 0 ≤ x ∧ x ≤ L) (hm : 0 ≤ m ∧ m ≤ 60) (hr : RU B L 97 122 x e) (hmt : MT B x e 8) : OUT P Q L B x m (F_X5_readLine P) (F_X8_line Q) := by
  obtain ⟨mm, is0, is1, ex, hxe, heL, z8, z11⟩ := l_pre h hx hm hr (by decide) hmt
  refine l_open (k := 8) h hx hr (by decide) hmt ?_
  have st := K2q_st (nI 8) h hm hxe heL
  have e0 := x_0 hx.1 hxe
  have s0 : sch (tt 8) (ix 0) = 75 := by decide
  refine o_part (i := 0) (part := 2) (R := fun v => 0 ≤ v ∧ v ≤ 2) (G := fun post => F_X8_digits 2 2 (K2q Q m e (nI 8)) post) (b0 := fun _ => 6) (b1 := fun _ => nI 8) (b2 := fun v => v) (b3 := fun _ => 0) st hm (by decide) (by decide) (by decide) (by rw [s0]; exact po_digits st.1 ⟨e0, heL⟩ hm (by decide) (by decide) (by decide) rp_75) (fun Qf g post hp => l_act h hx hm hr (by decide) hmt post (br_f (by decide) (br_f (by decide) (br_f (by decide) (br_t rfl (?_)))))) (fun v Q1 => LN_2 hm (K2q_at hm) v) (fun v y1 P1 Q1 hv hls p0 pn g => ?_)
  · unfold F_X8_actLine_b109
    exact g _ (br_t rfl ⟨Or.inl rfl, hp⟩)
  · rw [i_01.1]
    refine o_end (V := ((1000 * nI 8) + (10 * v)) + 0) (K := 6) hls hx.1 hm (by decide) (fun post ht => ?_) ⟨rfl, Or.inr (Or.inr (Or.inr (Or.inr (Or.inr ⟨rfl, rfl, rfl, by decide, x_2a hv, by decide⟩))))⟩ (fun post hp => l_act h hx hm hr (by decide) hmt post (br_f (by decide) (br_f (by decide) (br_f (by decide) (br_t rfl (?_))))))
    · unfold F_X5_tellWord F_X5_tellWord_b178
      rw [p0]
      exact br_f (by decide) (br_f (by decide) (br_f (by decide) (br_f (by decide) (br_f (by decide) (br_t (by decide) ⟨by decide, br_f (by decide) ht⟩)))))
    · unfold F_X8_actLine_b109
      exact g _ (br_f (by decide) (br_f (by decide) ⟨Or.inr rfl, hp⟩))
theorem ln_9 {P Q : VP} {L : Int32} {B : Int32 → Int32} {x m e : Int32} (h : TS P Q L B x m) (hx : 0 ≤ x ∧ x ≤ L) (hm : 0 ≤ m ∧ m ≤ 60) (hr : RU B L 97 122 x e) (hmt : MT B x e 9) : OUT P Q L B x m (F_X5_readLine P) (F_X8_line Q) := by
  obtain ⟨mm, is0, is1, ex, hxe, heL, z8, z11⟩ := l_pre h hx hm hr (by decide) hmt
  refine l_open (k := 9) h hx hr (by decide) hmt ?_
  have st := K2q_st (nI 9) h hm hxe heL
  have e0 := x_0 hx.1 hxe
  have s0 : sch (tt 9) (ix 0) = 87 := by decide
  refine o_part (i := 0) (part := 2) (R := fun v => 0 ≤ v ∧ v ≤ 23) (G := fun post => F_X8_digits 2 23 (K2q Q m e (nI 9)) post) (b0 := fun _ => 6) (b1 := fun _ => nI 9) (b2 := fun v => v) (b3 := fun _ => 0) st hm (by decide) (by decide) (by decide) (by rw [s0]; exact po_digits st.1 ⟨e0, heL⟩ hm (by decide) (by decide) (by decide) rp_87) (fun Qf g post hp => l_act h hx hm hr (by decide) hmt post (br_f (by decide) (br_f (by decide) (br_f (by decide) (br_f (by decide) (?_)))))) (fun v Q1 => LN_2 hm (K2q_at hm) v) (fun v y1 P1 Q1 hv hls p0 pn g => ?_)
  · unfold F_X8_actLine_b109
    exact g _ (br_t rfl ⟨Or.inl rfl, hp⟩)
  · rw [i_01.1]
    refine o_end (V := ((1000 * nI 9) + (10 * v)) + 0) (K := 6) hls hx.1 hm (by decide) (fun post ht => ?_) ⟨rfl, Or.inr (Or.inr (Or.inr (Or.inr (Or.inr ⟨rfl, rfl, rfl, by decide, x_23 hv, by decide⟩))))⟩ (fun post hp => l_act h hx hm hr (by decide) hmt post (br_f (by decide) (br_f (by decide) (br_f (by decide) (br_f (by decide) (?_))))))
    · unfold F_X5_tellWord F_X5_tellWord_b178
      rw [p0]
      exact br_f (by decide) (br_f (by decide) (br_f (by decide) (br_f (by decide) (br_f (by decide) (br_t (by decide) ⟨by decide, br_f (by decide) ht⟩)))))
    · unfold F_X8_actLine_b109
      exact g _ (br_f (by decide) (br_f (by decide) ⟨Or.inr rfl, hp⟩))
theorem ln_none {P Q : VP} {L : Int32} {B : Int32 → Int32} {x m e : Int32} (h : TS P Q L B x m) (hx : 0 ≤ x ∧ x ≤ L) (hm : 0 ≤ m ∧ m ≤ 60) (hr : RU B L 97 122 x e) (hmt : MT B x e 13) : OUT P Q L B x m (F_X5_readLine P) (F_X8_line Q) := by
  obtain ⟨mm, is0, is1, ex, hxe, heL, z8, z11⟩ := l_pre h hx hm hr (by decide) hmt
  refine l_open (k := 14) h hx hr (by decide) hmt ?_
  refine o_end (V := 0) (K := 0) (Wq_st h hm hxe heL) hx.1 hm (by decide) (fun post ht => ?_) ⟨rfl, Or.inl ⟨rfl, rfl, rfl⟩⟩ (fun post hp => l_none h hx hm hr hmt post hp)
  unfold F_X5_tellWord
  exact br_f (by decide) (br_f (by decide) (br_f (by decide) (br_f (by decide) (br_t rfl ht))))
theorem ln_num {P Q : VP} {L : Int32} {B : Int32 → Int32} {x m e : Int32} (h : TS P Q L B x m) (hx : 0 ≤ x ∧ x ≤ L) (hm : 0 ≤ m ∧ m ≤ 60) (hr : RU B L 97 122 x e) (hmt : MT B x e 10) : OUT P Q L B x m (F_X5_readLine P) (F_X8_line Q) := by
  obtain ⟨mm, is0, is1, ex, hxe, heL, z8, z11⟩ := l_pre h hx hm hr (by decide) hmt
  refine l_open (k := 10) h hx hr (by decide) hmt ?_
  have st := K1q_st 1 h hm hxe heL
  have e0 := x_0 hx.1 hxe
  have s0 : sch (tt 10) (ix 0) = 86 := by decide
  refine o_part (i := 0) (part := 1) (R := fun _ => True) (G := fun post => F_X8_value (K1q Q m e 1) post) (b0 := fun _ => 1) (b1 := fun v => v) (b2 := fun _ => 0) (b3 := fun _ => 0) st hm (by decide) (by decide) (by decide) (by rw [s0]; exact po_value st.1 ⟨e0, heL⟩ hm (by decide) (by decide)) (fun Qf g post hp => l_num h hx hm hr hmt post (g _ ⟨Or.inl rfl, hp⟩)) (fun v Q1 => LN_1 hm (K1q_at hm) v) (fun v y1 P1 Q1 hv hls p0 pn g => ?_)
  rw [i_01.1]
  refine o_end (V := v) (K := 1) hls hx.1 hm (by decide) (fun post ht => ?_) ⟨rfl, Or.inr (Or.inl ⟨rfl, rfl, rfl⟩)⟩ (fun post hp => l_num h hx hm hr hmt post (g _ ⟨Or.inr rfl, hp⟩))
  unfold F_X5_tellWord
  rw [p0]
  exact br_t rfl ⟨by decide, ht⟩
theorem ln_lnk {P Q : VP} {L : Int32} {B : Int32 → Int32} {x m e : Int32} (h : TS P Q L B x m) (hx : 0 ≤ x ∧ x ≤ L) (hm : 0 ≤ m ∧ m ≤ 60) (hr : RU B L 97 122 x e) (hmt : MT B x e 14) : OUT P Q L B x m (F_X5_readLine P) (F_X8_line Q) := by
  obtain ⟨mm, is0, is1, ex, hxe, heL, z8, z11⟩ := l_pre h hx hm hr (by decide) hmt
  refine l_open (k := 13) h hx hr (by decide) hmt ?_
  have st := K1q_st 4 h hm hxe heL
  have e0 := x_0 hx.1 hxe
  have s0 : sch (tt 13) (ix 0) = 76 := by decide
  have s1 : sch (tt 13) (ix 1) = 87 := by decide
  refine o_part (i := 0) (part := 1) (R := fun v => 0 ≤ v ∧ v < 26) (G := fun post => F_X8_letter (K1q Q m e 4) post) (b0 := fun _ => 4) (b1 := fun v => v) (b2 := fun _ => 0) (b3 := fun _ => 0) st hm (by decide) (by decide) (by decide) (by rw [s0]; exact po_letter st.1 ⟨e0, heL⟩ hm (by decide) (by decide)) (fun Qf g post hp => l_lnk h hx hm hr hmt post (g _ (br_t rfl hp))) (fun v Q1 => LN_1 hm (K1q_at hm) v) (fun v y1 P1 Q1 hv hls p0 pn g => ?_)
  rw [i_01.1]
  have y0 := x_0 hx.1 hls.2.1.1
  refine o_part (i := 1) (part := 2) (R := fun v => 0 ≤ v ∧ v ≤ 23) (G := fun post => F_X8_digits 2 23 Q1 post) (b0 := fun _ => 4) (b1 := fun _ => v) (b2 := fun v => v) (b3 := fun _ => 0) hls hm (by decide) (by decide) (by decide) (by rw [s1]; exact po_digits hls.1 ⟨y0, hls.2.1.2⟩ hm (by decide) (by decide) (by decide) rp_87) (fun Qf g2 post hp => l_lnk h hx hm hr hmt post (g _ (br_f (by decide) (g2 _ (br_t rfl hp))))) (fun v' Q2 => LN_2 hm hls.2.2.1 v') (fun v' y2 P2 Q2 hv' hls2 p2 pn2 g2 => ?_)
  rw [i_01.2]
  have q0 : P2 21 0 (ix 0) = v := (pn2 _ (by decide)).trans p0
  refine o_end (V := (100 * v) + v') (K := 4) hls2 hx.1 hm (by decide) (fun post ht => ?_) ⟨rfl, Or.inr (Or.inr (Or.inr (Or.inl ⟨rfl, rfl, rfl, hv, x_23 hv'⟩)))⟩ (fun post hp => l_lnk h hx hm hr hmt post (g _ (br_f (by decide) (g2 _ (br_f (by decide) hp)))))
  unfold F_X5_tellWord
  rw [q0, p2]
  exact br_f (by decide) (br_f (by decide) (br_f (by decide) (br_t rfl ⟨by decide, by decide, ht⟩)))
theorem ln_ptr {P Q : VP} {L : Int32} {B : Int32 → Int32} {x m e : Int32} (h : TS P Q L B x m) (hx : 0 ≤ x ∧ x ≤ L) (hm : 0 ≤ m ∧ m ≤ 60) (hr : RU B L 97 122 x e) (hmt : MT B x e 11) : OUT P Q L B x m (F_X5_readLine P) (F_X8_line Q) := by
  obtain ⟨mm, is0, is1, ex, hxe, heL, z8, z11⟩ := l_pre h hx hm hr (by decide) hmt
  refine l_open (k := 11) h hx hr (by decide) hmt ?_
  have st := K1q_st 2 h hm hxe heL
  have e0 := x_0 hx.1 hxe
  have s0 : sch (tt 11) (ix 0) = 82 := by decide
  have s1 : sch (tt 11) (ix 1) = 83 := by decide
  have s2 : sch (tt 11) (ix 2) = 87 := by decide
  refine o_part (i := 0) (part := 1) (R := fun v => 0 ≤ v ∧ v ≤ 7) (G := fun post => F_X8_digits 1 7 (K1q Q m e 2) post) (b0 := fun _ => 2) (b1 := fun v => v) (b2 := fun _ => 0) (b3 := fun _ => 0) st hm (by decide) (by decide) (by decide) (by rw [s0]; exact po_digits st.1 ⟨e0, heL⟩ hm (by decide) (by decide) (by decide) rp_82) (fun Qf g post hp => l_ptr h hx hm hr hmt post (g _ (br_t rfl hp))) (fun v Q1 => LN_1 hm (K1q_at hm) v) (fun v y1 P1 Q1 hv hls p0 pn g => ?_)
  rw [i_01.1]
  have y0 := x_0 hx.1 hls.2.1.1
  refine o_part (i := 1) (part := 2) (R := fun v => 0 ≤ v ∧ v ≤ 15) (G := fun post => F_X8_digits 2 15 Q1 post) (b0 := fun _ => 2) (b1 := fun _ => v) (b2 := fun v => v) (b3 := fun _ => 0) hls hm (by decide) (by decide) (by decide) (by rw [s1]; exact po_digits hls.1 ⟨y0, hls.2.1.2⟩ hm (by decide) (by decide) (by decide) rp_83) (fun Qf g2 post hp => l_ptr h hx hm hr hmt post (g _ (br_f (by decide) (g2 _ (br_t rfl hp))))) (fun v' Q2 => LN_2 hm hls.2.2.1 v') (fun v' y2 P2 Q2 hv' hls2 p2 pn2 g2 => ?_)
  rw [i_01.2]
  have y20 := x_0 hx.1 hls2.2.1.1
  refine o_part (i := 2) (part := 3) (R := fun v => 0 ≤ v ∧ v ≤ 23) (G := fun post => F_X8_digits 3 23 Q2 post) (b0 := fun _ => 2) (b1 := fun _ => v) (b2 := fun _ => v') (b3 := fun v => v) hls2 hm (by decide) (by decide) (by decide) (by rw [s2]; exact po_digits hls2.1 ⟨y20, hls2.2.1.2⟩ hm (by decide) (by decide) (by decide) rp_87) (fun Qf g3 post hp => l_ptr h hx hm hr hmt post (g _ (br_f (by decide) (g2 _ (br_f (by decide) (g3 _ (br_t rfl hp))))))) (fun v'' Q3 => LN_3 hm hls2.2.2.1 v'') (fun v'' y3 P3 Q3 hv'' hls3 p3 pn3 g3 => ?_)
  have q0 : P3 21 0 (ix 0) = v := (pn3 _ (by decide)).trans ((pn2 _ (by decide)).trans p0)
  have q1 : P3 21 0 (ix 1) = v' := (pn3 _ (by decide)).trans p2
  refine o_end (V := ((1000 * v') + (100 * v)) + v'') (K := 2) hls3 hx.1 hm (by decide) (fun post ht => ?_) ⟨rfl, Or.inr (Or.inr (Or.inl ⟨Or.inl rfl, rfl, rfl, x_7a hv, x_15 hv', x_23 hv''⟩))⟩ (fun post hp => l_ptr h hx hm hr hmt post (g _ (br_f (by decide) (g2 _ (br_f (by decide) (g3 _ (br_f (by decide) hp)))))))
  unfold F_X5_tellWord
  rw [q0, q1, p3]
  exact br_f (by decide) (br_t rfl ⟨by decide, by decide, by decide, ht⟩)
theorem ln_ind {P Q : VP} {L : Int32} {B : Int32 → Int32} {x m e : Int32} (h : TS P Q L B x m) (hx : 0 ≤ x ∧ x ≤ L) (hm : 0 ≤ m ∧ m ≤ 60) (hr : RU B L 97 122 x e) (hmt : MT B x e 12) : OUT P Q L B x m (F_X5_readLine P) (F_X8_line Q) := by
  obtain ⟨mm, is0, is1, ex, hxe, heL, z8, z11⟩ := l_pre h hx hm hr (by decide) hmt
  refine l_open (k := 12) h hx hr (by decide) hmt ?_
  have st := K1q_st 3 h hm hxe heL
  have e0 := x_0 hx.1 hxe
  have s0 : sch (tt 12) (ix 0) = 82 := by decide
  have s1 : sch (tt 12) (ix 1) = 83 := by decide
  have s2 : sch (tt 12) (ix 2) = 87 := by decide
  refine o_part (i := 0) (part := 1) (R := fun v => 0 ≤ v ∧ v ≤ 7) (G := fun post => F_X8_digits 1 7 (K1q Q m e 3) post) (b0 := fun _ => 3) (b1 := fun v => v) (b2 := fun _ => 0) (b3 := fun _ => 0) st hm (by decide) (by decide) (by decide) (by rw [s0]; exact po_digits st.1 ⟨e0, heL⟩ hm (by decide) (by decide) (by decide) rp_82) (fun Qf g post hp => l_ind h hx hm hr hmt post (g _ (br_t rfl hp))) (fun v Q1 => LN_1 hm (K1q_at hm) v) (fun v y1 P1 Q1 hv hls p0 pn g => ?_)
  rw [i_01.1]
  have y0 := x_0 hx.1 hls.2.1.1
  refine o_part (i := 1) (part := 2) (R := fun v => 0 ≤ v ∧ v ≤ 15) (G := fun post => F_X8_digits 2 15 Q1 post) (b0 := fun _ => 3) (b1 := fun _ => v) (b2 := fun v => v) (b3 := fun _ => 0) hls hm (by decide) (by decide) (by decide) (by rw [s1]; exact po_digits hls.1 ⟨y0, hls.2.1.2⟩ hm (by decide) (by decide) (by decide) rp_83) (fun Qf g2 post hp => l_ind h hx hm hr hmt post (g _ (br_f (by decide) (g2 _ (br_t rfl hp))))) (fun v' Q2 => LN_2 hm hls.2.2.1 v') (fun v' y2 P2 Q2 hv' hls2 p2 pn2 g2 => ?_)
  rw [i_01.2]
  have y20 := x_0 hx.1 hls2.2.1.1
  refine o_part (i := 2) (part := 3) (R := fun v => 0 ≤ v ∧ v ≤ 23) (G := fun post => F_X8_digits 3 23 Q2 post) (b0 := fun _ => 3) (b1 := fun _ => v) (b2 := fun _ => v') (b3 := fun v => v) hls2 hm (by decide) (by decide) (by decide) (by rw [s2]; exact po_digits hls2.1 ⟨y20, hls2.2.1.2⟩ hm (by decide) (by decide) (by decide) rp_87) (fun Qf g3 post hp => l_ind h hx hm hr hmt post (g _ (br_f (by decide) (g2 _ (br_f (by decide) (g3 _ (br_t rfl hp))))))) (fun v'' Q3 => LN_3 hm hls2.2.2.1 v'') (fun v'' y3 P3 Q3 hv'' hls3 p3 pn3 g3 => ?_)
  have q0 : P3 21 0 (ix 0) = v := (pn3 _ (by decide)).trans ((pn2 _ (by decide)).trans p0)
  have q1 : P3 21 0 (ix 1) = v' := (pn3 _ (by decide)).trans p2
  refine o_end (V := ((1000 * v') + (100 * v)) + v'') (K := 3) hls3 hx.1 hm (by decide) (fun post ht => ?_) ⟨rfl, Or.inr (Or.inr (Or.inl ⟨Or.inr rfl, rfl, rfl, x_7a hv, x_15 hv', x_23 hv''⟩))⟩ (fun post hp => l_ind h hx hm hr hmt post (g _ (br_f (by decide) (g2 _ (br_f (by decide) (g3 _ (br_f (by decide) hp)))))))
  unfold F_X5_tellWord
  rw [q0, q1, p3]
  exact br_f (by decide) (br_f (by decide) (br_t rfl ⟨by decide, by decide, by decide, ht⟩))
/-- a line of the text, on both sides -/
theorem d_line {P Q : VP} {L : Int32} {B : Int32 → Int32} {x m : Int32} (h : TS P Q L B x m) (hx : 0 ≤ x ∧ x ≤ L) (hm : 0 ≤ m ∧ m ≤ 60) : OUT P Q L B x m (F_X5_readLine P) (F_X8_line Q) := by
  obtain ⟨e, hr⟩ := RU_ex (lo := 97) (hi := 122) h.1 hx (by decide)
  by_cases hw : ∃ j, j < 15 ∧ MT B x e j
  · obtain ⟨j, hj, hmt⟩ := hw
    rcases nat_15 hj with rfl | rfl | rfl | rfl | rfl | rfl | rfl | rfl | rfl | rfl | rfl | rfl | rfl | rfl | rfl
    · exact ln_0 h hx hm hr hmt
    · exact ln_1 h hx hm hr hmt
    · exact ln_2 h hx hm hr hmt
    · exact ln_3 h hx hm hr hmt
    · exact ln_4 h hx hm hr hmt
    · exact ln_5 h hx hm hr hmt
    · exact ln_6 h hx hm hr hmt
    · exact ln_7 h hx hm hr hmt
    · exact ln_8 h hx hm hr hmt
    · exact ln_9 h hx hm hr hmt
    · exact ln_num h hx hm hr hmt
    · exact ln_ptr h hx hm hr hmt
    · exact ln_ind h hx hm hr hmt
    · exact ln_none h hx hm hr hmt
    · exact ln_lnk h hx hm hr hmt
  · have hno : ∀ j, j < 15 → ¬ MT B x e j := fun j hj q => hw ⟨j, hj, q⟩
    have hZ := TS_Z h
    have mm := m_many hZ.1 hx.1 hr
    have is0 : ∀ j, j < 15 → An (F_X8_is x (e - x) j (Z4q Q m)) 0 := fun j hj => (m_is hZ.1 hx.1 hr.1 hj).2 (hno j hj)
    refine Or.inl ⟨x, vup P 17 0 7 x, vup (Z4q Q m) 22 0 9 x, hx.1, vup_eq _ _ _ _ _, fun k x' j a b => vup_ne (by omega), fun k x' j a b => ?_, vup_eq _ _ _ _ _, fun post hp => ?_, fun post hp => ?_⟩
    · rw [vup_ne (by omega), Z4q_k b]
    · unfold F_X5_readLine
      refine c_noword h.1 hx.1 h.2.1.1 hr hno _ ?_
      have tail : vL2 (F_X5_readLine_l12 post 15 21) 0 (vup P 17 0 7 x) := vL2_end (c_bad (by rw [vup_eq]; have := hx.1; lia) post hp)
      unfold F_X5_partsOf
      exact br_f (by decide) (br_f (by decide) (br_f (by decide) (br_f (by decide) (br_f (by decide) (br_f (by decide) (br_f (by decide) (br_f (by decide) (br_f (by decide) (br_f (by decide) (br_f (by decide) (br_f (by decide) (br_f (by decide) tail))))))))))))
    · refine m_line0 h.2.2.2.2 hm (fun X => ?_)
      unfold F_X8_line_l2
      rw [hZ.2.1.2]
      refine br_f (by decide) (mm _ (is0 13 (by decide) _ (br_t rfl (is0 10 (by decide) _ (br_t rfl (is0 11 (by decide) _ (br_t rfl (is0 12 (by decide) _ (br_t rfl (is0 14 (by decide) _ (br_t rfl ?_)))))))))))
      refine m_noact hZ.1 hx.1 hr.1 hno _ ?_
      unfold F_X8_actLine_b29
      exact br_t rfl (m_stops hZ.2.1.2 hZ.2.2.1.2 ⟨Or.inl rfl, hp⟩)
