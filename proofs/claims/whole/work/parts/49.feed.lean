/-! feed, start -/
theorem f_1 {m : Int32} (h : 0 ≤ m ∧ m ≤ 120) (h' : ¬ m = 120) : (0 ≤ m ∧ m < 120) ∧ ¬ m < 0 ∧ (0 ≤ m + 1 ∧ m + 1 ≤ 120) := by lia
theorem f_2 {j m : Int32} (h : j < m + 1) (hm : 0 ≤ m ∧ m < 120) (hj : ¬ j = m) : j < m := by lia
theorem f_3 {m : Int32} (h : m = 120) : ¬ m < 0 ∧ ¬ m < 120 := by lia
theorem f_4 {m : Int32} (h : m < 120) : m ≤ 120 := by lia
theorem f_5 {m : Int32} (h : m < 120) : ¬ m = 120 := by lia
theorem RR_feed {P Q : VP} {m x : Int32} (h : RR P Q) (hm : Q 22 0 6 = m) (h1 : 0 ≤ m ∧ m < 120) : RR (vup (vup P 18 0 (ix m) x) 17 0 1 (m + 1)) (vup (vup Q 26 0 (ix m) x) 22 0 6 (m + 1)) := by
  obtain ⟨hB, hM, ⟨t1, t2, t3⟩, hK, r1, r2, r3⟩ := h
  rw [hm] at r1 r2 r3
  have hP : ∀ k x' j, k ≤ 16 → vup (vup P 18 0 (ix m) x) 17 0 1 (m + 1) k x' j = P k x' j := fun k x' j hk => by
    rw [kup_ne (by omega), kup_ne (by omega)]
  have hQ : ∀ k x' j, ¬ k = 26 → ¬ (k = 22 ∧ j = 6) → vup (vup Q 26 0 (ix m) x) 22 0 6 (m + 1) k x' j = Q k x' j := fun k x' j hk hj => by
    rw [vup_ne (by omega), kup_ne hk]
  refine ⟨BI_eq hB (fun k x j _ hk => hP k x j hk), RM_oth hM (fun k x j _ _ hk => hP k x j hk) (fun j => hQ 23 0 j (by decide) (by omega)), ⟨?_, ?_, ?_⟩, fun q => ?_, ?_, ?_, fun j j0 j1 => ?_⟩
  · rw [hP 0 0 4 (by decide), hQ 22 0 3 (by decide) (by decide)]; exact t1
  · rw [hP 0 0 4 (by decide)]; exact t2
  · rw [hP 0 0 5 (by decide), hQ 22 0 4 (by decide) (by decide)]; exact t3
  · rw [hP 0 0 4 (by decide)] at q
    exact RM_oth (hK q) (fun k x j _ _ hk => hP k x j hk) (fun j => hQ 25 0 j (by decide) (by omega))
  · rw [vup_eq, vup_eq]
  · rw [vup_eq]; exact (f_1 (⟨h1.1, f_4 h1.2⟩) (f_5 h1.2)).2.2
  · rw [vup_eq] at j1
    rw [kup_ne (P := vup P 18 0 (ix m) x) (by decide), kup_ne (P := vup Q 26 0 (ix m) x) (by decide)]
    by_cases e : j = m
    · rw [e, vup_eq, vup_eq]
    · rw [qup_ne h1.1 j0 e, qup_ne h1.1 j0 e]
      exact r3 j j0 (f_2 j1 h1 e)
theorem D_feed {P Q : VP} (h : RR P Q) (x1 : Int32) : ∃ r P1 Q1, RR P1 Q1 ∧ Am (F_X7_feed x1 P) r P1 ∧ Am (F_X8_feed x1 Q) r Q1 := by
  obtain ⟨-, -, -, -, r1, r2, -⟩ := id h
  by_cases hx : 0 ≤ x1 ∧ x1 < 256
  · obtain ⟨m, hm⟩ : ∃ m, Q 22 0 6 = m := ⟨_, rfl⟩
    rw [hm] at r1 r2
    by_cases h4 : m = 120
    · refine ⟨-3, P, Q, h, fun p hp => ?_, fun p hp => ?_⟩
      · unfold F_X7_feed F_X5_append
        rw [r1]
        exact c_belowT hx _ (br_f (by decide) (br_f (f_3 h4).1 (br_f (f_3 h4).2 (br_t rfl hp))))
      · unfold F_X8_feed
        rw [hm]
        exact m_inT (x := x1) (lo := 0) (hi := 255) ⟨hx.1, by lia⟩ _ (br_f (by decide) (br_t h4 hp))
    · obtain ⟨i1, i2, i3⟩ := f_1 r2 h4
      refine ⟨m + 1, vup (vup P 18 0 (ix m) x1) 17 0 1 (m + 1), vup (vup Q 26 0 (ix m) x1) 22 0 6 (m + 1), RR_feed h hm i1, fun p hp => ?_, fun p hp => ?_⟩
      · unfold F_X7_feed F_X5_append
        refine c_belowT hx _ (br_f (by decide) ?_)
        rw [r1]
        refine br_f i2 (br_t i1.2 ⟨i1, fun P30 e1 P38 e2 => ?_⟩)
        subst e1
        rw [kup_ne (by decide), r1] at e2
        subst e2
        refine br_f (by decide) ?_
        rw [vup_eq]
        exact hp
      · unfold F_X8_feed
        rw [hm]
        refine m_inT (x := x1) (lo := 0) (hi := 255) ⟨hx.1, by lia⟩ _ (br_f (by decide) (br_f h4 ⟨i1, fun Q35 e1 Q43 e2 => ?_⟩))
        subst e1
        rw [kup_ne (by decide), hm] at e2
        subst e2
        (try dsimp only)
        rw [vup_eq]
        exact hp
  · refine ⟨-1, P, Q, h, fun p hp => ?_, fun p hp => ?_⟩
    · unfold F_X7_feed
      exact c_belowF hx _ (br_t rfl hp)
    · unfold F_X8_feed
      exact m_inF (x := x1) (lo := 0) (hi := 255) (by lia) _ (br_t rfl hp)
theorem s_st {v : Int32} (h0 : 0 ≤ v) (h : v < 8) : 0 ≤ v + 1 ∧ v + 1 ≤ 8 ∧ 0 ≤ 8 - (v + 1) ∧ 8 - (v + 1) < 8 - v ∧ 0 ≤ 192 + v ∧ 192 + v < 3464 := by lia
theorem s_lt {a v : Int32} (h : a < v + 1) (h0 : 0 ≤ v) (hv : v < 8) (hn : ¬ a = v) : a < v := by lia
theorem s_end {a v : Int32} (h : ¬ v < 8) (ha : a < 8) : a < v := by lia
theorem s_192 {a v : Int32} (h : ¬ a = v) : ¬ 192 + a = 192 + v := by lia
theorem s_r {a : Int32} (h0 : 0 ≤ a) (h : a < 8) : 0 ≤ 192 + a ∧ 192 ≤ 192 + a ∧ 192 + a < 200 := by lia
theorem s_o {a v : Int32} (h : ¬ (192 ≤ a ∧ a < 200)) (h0 : 0 ≤ v) (hv : v < 8) : ¬ a = 192 + v := by lia
theorem s_p {a v : Int32} (h : 0 ≤ a) (h1 : a < v) (h2 : v < 8) : 0 ≤ 192 + a := by lia
theorem s_4 {a : Int32} (h : ¬ (3 ≤ a ∧ a < 7)) : ¬ a = 3 ∧ ¬ a = 4 ∧ ¬ a = 5 ∧ ¬ a = 6 := by lia
theorem s_5 {a : Int32} (h : (0 ≤ a ∧ a < 3) ∨ (7 ≤ a ∧ a < 11) ∨ (16 ≤ a ∧ a < 32)) : 0 ≤ a ∧ ¬ (192 ≤ a ∧ a < 200) ∧ ¬ (3 ≤ a ∧ a < 7) := by lia
theorem s_6 {a : Int32} (h : 32 ≤ a ∧ a < 192) : 0 ≤ a ∧ ¬ (192 ≤ a ∧ a < 200) ∧ ¬ (3 ≤ a ∧ a < 7) := by lia
theorem s_7 {a : Int32} (h : 200 ≤ a ∧ a < 2504) : 0 ≤ a ∧ ¬ (192 ≤ a ∧ a < 200) ∧ ¬ (3 ≤ a ∧ a < 7) := by lia
theorem c_clear {P : VP} {i : Nat} : ∃ P', ((∀ k x j, ¬ (k = 12 ∧ x = i) → P' k x j = P k x j) ∧ ∀ r : Int32, 0 ≤ r → r < 8 → P' 12 i (ix r) = 0) ∧ ∀ post : VP → Prop, post P' → F_X4_clear i P post := by
  obtain ⟨P', h1, h2⟩ := lk2 (ρ := VP) (fun p => F_X4_clear_l2 i p) (fun v P1 => (0 ≤ v ∧ v ≤ 8) ∧ (∀ k x j, ¬ (k = 12 ∧ x = i) → P1 k x j = P k x j) ∧ ∀ r : Int32, 0 ≤ r → r < v → P1 12 i (ix r) = 0) (fun P' => (∀ k x j, ¬ (k = 12 ∧ x = i) → P' k x j = P k x j) ∧ ∀ r : Int32, 0 ≤ r → r < 8 → P' 12 i (ix r) = 0) (fun v _ => ix (8 - v)) (by
    rintro v P1 ⟨⟨i0, i1⟩, i2, i3⟩
    by_cases h : v < 8
    · obtain ⟨s1, s2, s3, s4, -⟩ := s_st i0 h
      refine Or.inl ⟨v + 1, vup P1 12 i (ix v) 0, ⟨⟨s1, s2⟩, fun k x j hj => ?_, fun a a0 ha => ?_⟩, ix_lt s3 s4, fun p X hX => ?_⟩
      · rw [vup_ne (by omega)]; exact i2 k x j hj
      · by_cases q : a = v
        · rw [q, vup_eq]
        · rw [qup_ne i0 a0 q]; exact i3 a a0 (s_lt ha i0 h q)
      · unfold F_X4_clear_l2
        exact br_t h ⟨⟨i0, h⟩, fun P17 e => by rw [e]; exact hX⟩
    · refine Or.inr ⟨P1, ⟨i2, fun a a0 ha => i3 a a0 (s_end h ha)⟩, fun p X hp => ?_⟩
      unfold F_X4_clear_l2
      exact br_f h hp) (a1 := 0) (a2 := P) ⟨by decide, fun _ _ _ _ => rfl, fun a a0 ha => absurd ha (z_nl2 a0)⟩
  exact ⟨P', h1, fun post hp => by unfold F_X4_clear; exact h2 post hp⟩
theorem m_clear {Q : VP} (x1 x2 x3 : Int32) : ∃ Q', ((∀ k x j, ¬ k = 23 → Q' k x j = Q k x j) ∧ (∀ a : Int32, 0 ≤ a → ¬ (192 ≤ a ∧ a < 200) → Q' 23 0 (ix a) = Q 23 0 (ix a)) ∧ ∀ r : Int32, 0 ≤ r → r < 8 → Q' 23 0 (ix (192 + r)) = 0) ∧ ∀ post : Int32 → VP → Prop, post 1 Q' → vL2 (F_X8_start_l70 x1 x2 x3 post) 0 Q := by
  obtain ⟨Q', h1, h2⟩ := lk2 (ρ := VP) (fun p => F_X8_start_l70 x1 x2 x3 (fun _ Q => p Q)) (fun v Q1 => (0 ≤ v ∧ v ≤ 8) ∧ (∀ k x j, ¬ k = 23 → Q1 k x j = Q k x j) ∧ (∀ a : Int32, 0 ≤ a → ¬ (192 ≤ a ∧ a < 200) → Q1 23 0 (ix a) = Q 23 0 (ix a)) ∧ ∀ r : Int32, 0 ≤ r → r < v → Q1 23 0 (ix (192 + r)) = 0) (fun Q' => (∀ k x j, ¬ k = 23 → Q' k x j = Q k x j) ∧ (∀ a : Int32, 0 ≤ a → ¬ (192 ≤ a ∧ a < 200) → Q' 23 0 (ix a) = Q 23 0 (ix a)) ∧ ∀ r : Int32, 0 ≤ r → r < 8 → Q' 23 0 (ix (192 + r)) = 0) (fun v _ => ix (8 - v)) (by
    rintro v Q1 ⟨⟨i0, i1⟩, i2, i3, i4⟩
    by_cases h : v < 8
    · obtain ⟨s1, s2, s3, s4, s5, s6⟩ := s_st i0 h
      refine Or.inl ⟨v + 1, vup Q1 23 0 (ix (192 + v)) 0, ⟨⟨s1, s2⟩, fun k x j hj => ?_, fun a a0 ha => ?_, fun a a0 ha => ?_⟩, ix_lt s3 s4, fun p X hX => ?_⟩
      · rw [kup_ne hj]; exact i2 k x j hj
      · rw [qup_ne s5 a0 (s_o ha i0 h)]; exact i3 a a0 ha
      · by_cases q : a = v
        · rw [q, vup_eq]
        · have hv := s_lt ha i0 h q
          rw [qup_ne s5 (s_p a0 hv h) (s_192 q)]; exact i4 a a0 hv
      · show F_X8_start_l70 _ _ _ _ _ _ _
        unfold F_X8_start_l70
        exact br_t h ⟨⟨s5, s6⟩, fun Q88 e => by rw [e]; exact hX⟩
    · refine Or.inr ⟨Q1, ⟨i2, i3, fun a a0 ha => i4 a a0 (s_end h ha)⟩, fun p X hp => ?_⟩
      show F_X8_start_l70 _ _ _ _ _ _ _
      unfold F_X8_start_l70
      exact br_f h hp) (a1 := 0) (a2 := Q) ⟨by decide, fun _ _ _ _ => rfl, fun _ _ _ => rfl, fun a a0 ha => absurd ha (z_nl2 a0)⟩
  exact ⟨Q', h1, fun post hp => h2 (fun Q => post 1 Q) hp⟩
theorem BI_eq' {P P' : VP} (h : BI P) (hp : ∀ k x j, (7 ≤ k ∧ k ≤ 10) ∨ 14 ≤ k → k ≤ 16 → P' k x j = P k x j) : BI P' := by
  obtain ⟨a, b, c, d, e, f⟩ := h
  refine ⟨fun x => ?_, fun x => ?_, fun x w w0 w1 hw => ?_, fun x => ?_, fun x => ?_, fun x => ?_⟩
  · rw [hp 7 x 0 (by decide) (by decide)]; exact a x
  · rw [hp 7 x 4 (by decide) (by decide)]; exact b x
  · rw [hp 7 x 4 (by decide) (by decide)] at hw
    rw [hp 8 x _ (by decide) (by decide), hp 9 x _ (by decide) (by decide), hp 10 x _ (by decide) (by decide)]
    exact c x w w0 w1 hw
  · rw [hp 14 x 3 (by decide) (by decide)]; exact d x
  · rw [hp 16 x 4 (by decide) (by decide)]; exact e x
  · rw [hp 7 x 9 (by decide) (by decide)]; exact f x
theorem D_start {P Q : VP} (h : RR P Q) (x1 x2 x3 : Int32) : ∃ r P1 Q1, RR P1 Q1 ∧ Am (F_X7_start x1 x2 x3 P) r P1 ∧ Am (F_X8_start x1 x2 x3 Q) r Q1 := by
  by_cases h1 : 0 ≤ x1 ∧ x1 < 16
  · by_cases h2 : 0 ≤ x2 ∧ x2 < 24
    · by_cases h3 : 0 ≤ x3 ∧ x3 < 8
      · obtain ⟨P', ⟨c1, c2⟩, c3⟩ := c_clear (P := vup (vup (vup (vup P 1 0 2 x1) 1 0 3 x2) 1 0 4 x3) 1 0 5 0) (i := 0)
        obtain ⟨Q', ⟨d1, d2, d3⟩, d4⟩ := m_clear (Q := vup (vup (vup (vup Q 23 0 (ix 3) x1) 23 0 (ix 4) x2) 23 0 (ix 5) x3) 23 0 (ix 6) 0) x1 x2 x3
        refine ⟨1, P', Q', ?_, fun p hp => ?_, fun p hp => ?_⟩
        · obtain ⟨hB, m1, m2, m3, m4, m5⟩ := And.intro h.1 h.2.1
          have hP : ∀ k x j, ¬ (k = 12 ∧ x = 0) → ¬ (k = 1 ∧ x = 0) → P' k x j = P k x j := fun k x j a b => by
            rw [c1 k x j a, vup_ne (by omega), vup_ne (by omega), vup_ne (by omega), vup_ne (by omega)]
          have hQ : ∀ a : Int32, 0 ≤ a → ¬ (192 ≤ a ∧ a < 200) → ¬ (3 ≤ a ∧ a < 7) → Q' 23 0 (ix a) = Q 23 0 (ix a) := fun a a0 a1 a2 => by
            obtain ⟨e3, e4, e5, e6⟩ := s_4 a2
            rw [d2 a a0 a1, qup_ne (by decide) a0 e6, qup_ne (by decide) a0 e5, qup_ne (by decide) a0 e4, qup_ne (by decide) a0 e3]
          have q3 : Q' 23 0 (ix 3) = x1 := by
            rw [d2 3 (by decide) (by decide), qup_ne (by decide) (by decide) (by decide), qup_ne (by decide) (by decide) (by decide), qup_ne (by decide) (by decide) (by decide), vup_eq]
          have q4 : Q' 23 0 (ix 4) = x2 := by
            rw [d2 4 (by decide) (by decide), qup_ne (by decide) (by decide) (by decide), qup_ne (by decide) (by decide) (by decide), vup_eq]
          have q5 : Q' 23 0 (ix 5) = x3 := by
            rw [d2 5 (by decide) (by decide), qup_ne (by decide) (by decide) (by decide), vup_eq]
          have q6 : Q' 23 0 (ix 6) = 0 := by rw [d2 6 (by decide) (by decide), vup_eq]
          refine RR_up h (T := fun k x => (k = 12 ∧ x = 0) ∨ (k = 1 ∧ x = 0)) (fun k x j hn => hP k x j (fun q => hn (Or.inl q)) (fun q => hn (Or.inr q))) (fun k x q => ?_) (QU_any (fun k x j hk => ?_)) (BI_eq' hB (fun k x j k0 k1 => hP k x j (by omega) (by omega))) ⟨?_, RD_eq m2 (fun k j _ _ => hP k 0 j (by omega) (by omega)) (fun a ha => hQ a (s_5 ha).1 (s_5 ha).2.1 (s_5 ha).2.2), RG_eq m3 (fun s j => hP 7 _ j (by omega) (by omega)) (fun a ha => hQ a (s_6 ha).1 (s_6 ha).2.1 (s_6 ha).2.2) ?_, RW_eq m4 (fun k s j _ _ => hP k _ j (by omega) (by omega)) (fun a ha => hQ a (s_7 ha).1 (s_7 ha).2.1 (s_7 ha).2.2), ?_⟩
          · rcases q with ⟨rfl, rfl⟩ | ⟨rfl, rfl⟩
            · exact ⟨by decide, by decide, rfl⟩
            · exact ⟨by decide, by decide, rfl⟩
          · rw [d1 k x j (by omega), kup_ne (by omega), kup_ne (by omega), kup_ne (by omega), kup_ne (by omega)]
          · unfold RS
            rw [q3, q4, q5, q6, c1 1 0 2 (by omega), c1 1 0 3 (by omega), c1 1 0 4 (by omega), c1 1 0 5 (by omega)]
            exact ⟨by rw [vup_ne (by omega), vup_ne (by omega), vup_ne (by omega), vup_eq], by rw [vup_ne (by omega), vup_ne (by omega), vup_eq], by rw [vup_ne (by omega), vup_eq], by rw [vup_eq], h3⟩
          · rw [hQ 0 (by decide) (by decide) (by decide)]; exact z_le _
          · intro r r0 r1
            rw [c2 r r0 r1, d3 r r0 r1]
            exact ⟨rfl, by decide, fun k k0 k1 => absurd k1 (z_nl2 k0)⟩
        · unfold F_X7_start F_X2_begin
          refine c_belowT h1 _ (br_f (by decide) (c_belowT h2 _ (br_f (by decide) (c_belowT h3 _ (br_f (by decide) (fun P2 e2 P7 e7 P12 e12 P17 e17 => ?_))))))
          subst e2 e7 e12 e17
          exact c3 _ hp
        · unfold F_X8_start
          refine m_inT (x := x1) (lo := 0) (hi := 15) ⟨h1.1, by lia⟩ _ (br_f (by decide) (m_inT (x := x2) (lo := 0) (hi := 23) ⟨h2.1, by lia⟩ _ (br_f (by decide) (m_inT (x := x3) (lo := 0) (hi := 7) ⟨h3.1, by lia⟩ _ (br_f (by decide) ⟨⟨by decide, by decide⟩, fun Q44 e1 => ⟨⟨by decide, by decide⟩, fun Q51 e2 => ⟨⟨by decide, by decide⟩, fun Q58 e3 => ⟨⟨by decide, by decide⟩, fun Q66 e4 => ?_⟩⟩⟩⟩)))))
          subst e1 e2 e3 e4
          exact d4 _ hp
      · refine ⟨-1, P, Q, h, fun p hp => ?_, fun p hp => ?_⟩
        · unfold F_X7_start
          exact c_belowT h1 _ (br_f (by decide) (c_belowT h2 _ (br_f (by decide) (c_belowF h3 _ (br_t rfl hp)))))
        · unfold F_X8_start
          exact m_inT (x := x1) (lo := 0) (hi := 15) ⟨h1.1, by lia⟩ _ (br_f (by decide) (m_inT (x := x2) (lo := 0) (hi := 23) ⟨h2.1, by lia⟩ _ (br_f (by decide) (m_inF (x := x3) (lo := 0) (hi := 7) (by lia) _ (br_t rfl hp)))))
    · refine ⟨-1, P, Q, h, fun p hp => ?_, fun p hp => ?_⟩
      · unfold F_X7_start
        exact c_belowT h1 _ (br_f (by decide) (c_belowF h2 _ (br_t rfl hp)))
      · unfold F_X8_start
        exact m_inT (x := x1) (lo := 0) (hi := 15) ⟨h1.1, by lia⟩ _ (br_f (by decide) (m_inF (x := x2) (lo := 0) (hi := 23) (by lia) _ (br_t rfl hp)))
  · refine ⟨-1, P, Q, h, fun p hp => ?_, fun p hp => ?_⟩
    · unfold F_X7_start
      exact c_belowF h1 _ (br_t rfl hp)
    · unfold F_X8_start
      exact m_inF (x := x1) (lo := 0) (hi := 15) (by lia) _ (br_t rfl hp)
