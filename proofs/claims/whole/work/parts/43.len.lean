/-! the length changed; words made unset -/
theorem imin_c (a b : Int32) : imin a b = imin b a := by
  unfold imin
  by_cases h1 : b < a
  · rw [if_pos h1, if_neg (by lia)]
  · by_cases h2 : a < b
    · rw [if_neg h1, if_pos h2]
    · rw [if_neg h1, if_neg h2]; lia
theorem imin_0 {a b : Int32} (ha : 0 ≤ a) (hb : 0 ≤ b) : 0 ≤ imin a b := by
  unfold imin
  by_cases h1 : b < a
  · rw [if_pos h1]; exact hb
  · rw [if_neg h1]; exact ha
theorem imin_z {a : Int32} (ha : 0 ≤ a) : imin a 0 = 0 ∧ imin 0 a = 0 := by
  unfold imin
  by_cases h1 : (0 : Int32) < a
  · rw [if_pos h1, if_neg (by lia)]; exact ⟨rfl, rfl⟩
  · rw [if_neg h1, if_neg (by lia)]; exact ⟨by lia, rfl⟩
theorem c_has2 {y : Nat} {w : Int32} {P : VP} (h24 : P 7 y 4 ≤ 24) (h : 0 ≤ w ∧ w < P 7 y 4) : An (F_X3_has y w P) 1 := by
  intro p hp
  unfold F_X3_has
  grind
theorem z_nl {a b : Int32} (h : ¬ a < b) : b ≤ a := by lia
theorem z_nl2 {a b : Int32} (h : a ≤ b) : ¬ b < a := by lia
def CL (y : Nat) (n : Int32) (P P' : VP) : Prop := (∀ k x j, ¬ (x = y ∧ 7 ≤ k ∧ k ≤ 10) → P' k x j = P k x j) ∧ (∀ j, ¬ j = 4 → ¬ j = 9 → P' 7 y j = P 7 y j) ∧ P' 7 y 4 = n ∧ P' 7 y 9 = imin (P 7 y 9) n ∧ (∀ w : Int32, 0 ≤ w → w < n → P' 8 y (ix w) = P 8 y (ix w) ∧ P' 9 y (ix w) = P 9 y (ix w) ∧ P' 10 y (ix w) = P 10 y (ix w)) ∧ (∀ w : Int32, n ≤ w → w < 24 → P' 8 y (ix w) = 0 ∧ P' 9 y (ix w) = 0 ∧ P' 10 y (ix w) = 0)
theorem v_st {v n L : Int32} (hn : 0 ≤ n) (h0 : n ≤ v) (h : v < L) (hL : L ≤ 24) : (0 ≤ v ∧ v < 24) ∧ n ≤ v + 1 ∧ (v + 1 ≤ L ∨ v + 1 = n) ∧ 0 ≤ 24 - (v + 1) ∧ 24 - (v + 1) < 24 - v := by lia
theorem v_a {w n v : Int32} (h : w < n ∨ v + 1 ≤ w) (h0 : n ≤ v) (hv : 0 ≤ v ∧ v < 24) (hw : 0 ≤ w) : (w < n ∨ v ≤ w) ∧ ¬ w = v := by lia
theorem v_b {w v : Int32} (h : w < v + 1) (hv : 0 ≤ v ∧ v < 24) (hn : ¬ w = v) : w < v := by lia
theorem v_c {w n : Int32} (hn : 0 ≤ n) (h : n ≤ w) : 0 ≤ w := by lia
theorem v_d {w v L n : Int32} (h : ¬ v < L) (hw : v ≤ w) : L ≤ w := by lia
theorem c_change {P : VP} {y : Nat} {n : Int32} (hB : BI P) (hn : 0 ≤ n ∧ n ≤ 24) : ∃ P', CL y n P P' ∧ ∀ post : VP → Prop, post P' → F_X3_changeLength y n P post := by
  have hL := (hB.2.1 y).2
  obtain ⟨P', h1, h2⟩ := lk2 (ρ := VP) (fun p => F_X3_changeLength_l2 y n p) (fun v P1 => n ≤ v ∧ (v ≤ P 7 y 4 ∨ v = n) ∧ (∀ k x j, ¬ (x = y ∧ 8 ≤ k ∧ k ≤ 10) → P1 k x j = P k x j) ∧ (∀ w : Int32, 0 ≤ w → (w < n ∨ v ≤ w) → P1 8 y (ix w) = P 8 y (ix w) ∧ P1 9 y (ix w) = P 9 y (ix w) ∧ P1 10 y (ix w) = P 10 y (ix w)) ∧ (∀ w : Int32, n ≤ w → w < v → P1 8 y (ix w) = 0 ∧ P1 9 y (ix w) = 0 ∧ P1 10 y (ix w) = 0)) (fun P' => CL y n P P') (fun v _ => ix (24 - v)) (by
    rintro v P1 ⟨i0, i1, i2, i3, i4⟩
    have e4 : P1 7 y 4 = P 7 y 4 := i2 7 y 4 (by omega)
    by_cases h : v < P 7 y 4
    · obtain ⟨s1, s2, s3, s4, s5⟩ := v_st hn.1 i0 h hL
      refine Or.inl ⟨v + 1, WP P1 y v 0 0 0, ⟨s2, s3, fun k x j hk => ?_, fun w w0 hw => ?_, fun w w0 hw => ?_⟩, ix_lt s4 s5, fun p X hX => ?_⟩
      · rw [WP_ne (by omega)]; exact i2 k x j hk
      · obtain ⟨q1, q2⟩ := v_a hw i0 s1 w0
        have hne := ix_ne w0 s1.1 q2
        rw [WP_ne (by omega), WP_ne (by omega), WP_ne (by omega)]
        exact i3 w w0 q1
      · by_cases q : w = v
        · subst q
          exact WP_at P1 y w 0 0 0
        · have hne := ix_ne (v_c hn.1 w0) s1.1 q
          rw [WP_ne (by omega), WP_ne (by omega), WP_ne (by omega)]
          exact i4 w w0 (v_b hw s1 q)
      · unfold F_X3_changeLength_l2
        rw [e4]
        exact br_t h (c_become (c_has2 (by rw [e4]; exact hL) ⟨s1.1, by rw [e4]; exact h⟩) s1 hX)
    · refine Or.inr ⟨vup (vup P1 7 y 4 n) 7 y 9 (imin (P 7 y 9) n), ⟨fun k x j hk => ?_, fun j j4 j9 => ?_, ?_, vup_eq _ _ _ _ _, fun w w0 hw => ?_, fun w w0 hw => ?_⟩, fun p X hp => ?_⟩
      · rw [vup_ne (by omega), vup_ne (by omega)]; exact i2 k x j (by omega)
      · rw [vup_ne (by omega), vup_ne (by omega)]; exact i2 7 y j (by omega)
      · rw [vup_ne (by omega), vup_eq]
      · rw [kup_ne (by decide), kup_ne (by decide), kup_ne (by decide), kup_ne (by decide), kup_ne (by decide), kup_ne (by decide)]
        exact i3 w w0 (Or.inl hw)
      · rw [kup_ne (by decide), kup_ne (by decide), kup_ne (by decide), kup_ne (by decide), kup_ne (by decide), kup_ne (by decide)]
        by_cases q : w < v
        · exact i4 w w0 q
        · have q' : v ≤ w := z_nl q
          obtain ⟨e1, e2, e3⟩ := i3 w (v_c hn.1 w0) (Or.inr q')
          rw [e1, e2, e3]
          exact hB.2.2.1 y w (v_c hn.1 w0) hw (v_d (n := n) h q')
      · unfold F_X3_changeLength_l2
        rw [e4]
        refine br_f h (fun P26 e1 P38 e2 => ?_)
        subst e1
        rw [vup_ne (by omega), i2 7 y 9 (by omega)] at e2
        subst e2
        exact hp) (a1 := n) (a2 := P) ⟨z_le n, Or.inr rfl, fun _ _ _ _ => rfl, fun _ _ _ => ⟨rfl, rfl, rfl⟩, fun w w0 hw => absurd hw (z_nl2 w0)⟩
  exact ⟨P', h1, fun post hp => by unfold F_X3_changeLength; exact h2 post hp⟩
theorem CL_BI {P P' : VP} {y : Nat} {n : Int32} (hB : BI P) (hn : 0 ≤ n ∧ n ≤ 24) (h : CL y n P P') : BI P' := by
  obtain ⟨c1, c2, c3, c4, c5, c6⟩ := h
  refine BI_y (y := y) hB (fun k x j hx _ _ => c1 k x j (by omega)) (fun k x j hk _ => c1 k x j (by omega)) (by rw [c2 0 (by decide) (by decide)]; exact hB.1 y) (by rw [c3]; exact hn) (fun w w0 w1 hw => c6 w (by rw [c3] at hw; exact hw) w1) (by rw [c4]; exact imin_0 (hB.2.2.2.2.2 y) hn.1)
def MZ (s v0 : Int32) (Q Q' : VP) : Prop := (∀ k x j, ¬ k = 23 → Q' k x j = Q k x j) ∧ (∀ a : Int32, 0 ≤ a → ¬ (wa s v0 ≤ a ∧ a < wa s 0 + 144) → Q' 23 0 (ix a) = Q 23 0 (ix a)) ∧ ∀ w : Int32, v0 ≤ w → w < 24 → Q' 23 0 (ix (wa s w)) = 0 ∧ Q' 23 0 (ix (wa s w + 1)) = 0 ∧ Q' 23 0 (ix (wa s w + 2)) = 0 ∧ Q' 23 0 (ix (wa s w + 3)) = 0 ∧ Q' 23 0 (ix (wa s w + 4)) = 0 ∧ Q' 23 0 (ix (wa s w + 5)) = 0
theorem u_st {v n : Int32} (hn : 0 ≤ n) (h0 : n ≤ v) (h : v < 24) : (0 ≤ v ∧ v < 24) ∧ n ≤ v + 1 ∧ v + 1 ≤ 24 ∧ 0 ≤ 24 - (v + 1) ∧ 24 - (v + 1) < 24 - v := by lia
theorem z_wm {s v n : Int32} (hs : 0 ≤ s ∧ s < 16) (hn : 0 ≤ n) (h0 : n ≤ v) (h : v ≤ 24) : wa s n ≤ wa s v := by
  have : 0 ≤ v - n := by lia
  have e : wa s v = wa s n + 6 * (v - n) := by lia
  have : 0 ≤ wa s n ∧ wa s n < 2505 := by lia
  rw [e]
  generalize wa s n = A at *
  generalize hd : v - n = d at *
  have : d ≤ 24 := by lia
  clear e hd
  lia
theorem u_y {A B C a : Int32} (h1 : A ≤ B) (h2 : C = B + 6) (h3 : 200 ≤ B ∧ B < 2504) (hh : ¬ (A ≤ a ∧ a < C)) : ¬ (A ≤ a ∧ a < B) ∧ ¬ (B ≤ a ∧ a ≤ B + 5) := by lia
theorem u_a {s v n a : Int32} (hs : 0 ≤ s ∧ s < 16) (hn : 0 ≤ n) (h0 : n ≤ v) (h : v < 24) (hh : ¬ (wa s n ≤ a ∧ a < wa s (v + 1))) : ¬ (wa s n ≤ a ∧ a < wa s v) ∧ ¬ (wa s v ≤ a ∧ a ≤ wa s v + 5) :=
  u_y (z_wm hs hn h0 (by lia)) (by lia) (z_wb hs ⟨by lia, h⟩) hh
theorem u_e {s v n a : Int32} (h0 : v ≤ 24) (h : ¬ v < 24) (hh : ¬ (wa s n ≤ a ∧ a < wa s 0 + 144)) : ¬ (wa s n ≤ a ∧ a < wa s v) := by
  have e : v = 24 := by lia
  subst e
  have e : wa s 24 = wa s 0 + 144 := by lia
  rw [e]
  exact hh
theorem u_l {v w : Int32} (h : ¬ v < 24) (hw : w < 24) : w < v := by lia
theorem u_w {w n : Int32} (hn : 0 ≤ n) (h0 : n ≤ w) (h : w < 24) : 0 ≤ w ∧ w < 24 := by lia
theorem u_x {w v : Int32} (h : v < 24) (hw : w < v) : w < 24 := by lia
theorem m_zero {s v0 : Int32} {Q : VP} (hs : 0 ≤ s ∧ s < 16) (hv : 0 ≤ v0 ∧ v0 ≤ 24) (b : (VP → Prop) → (Int32 → VP → Prop) → Int32 → VP → Prop) (hb : ∀ p X v Q, b p X v Q = ((v < 24 → F_X8_writes 23 s v 0 0 0 0 0 0 Q (fun Q1 => X (v + 1) Q1)) ∧ (¬ v < 24 → p Q))) : ∃ Q', MZ s v0 Q Q' ∧ ∀ p : VP → Prop, p Q' → vL2 (b p) v0 Q := by
  obtain ⟨Q', h1, h2⟩ := lk2 (ρ := VP) b (fun v Q1 => (v0 ≤ v ∧ v ≤ 24) ∧ (∀ k x j, ¬ k = 23 → Q1 k x j = Q k x j) ∧ (∀ a : Int32, 0 ≤ a → ¬ (wa s v0 ≤ a ∧ a < wa s v) → Q1 23 0 (ix a) = Q 23 0 (ix a)) ∧ ∀ w : Int32, v0 ≤ w → w < v → Q1 23 0 (ix (wa s w)) = 0 ∧ Q1 23 0 (ix (wa s w + 1)) = 0 ∧ Q1 23 0 (ix (wa s w + 2)) = 0 ∧ Q1 23 0 (ix (wa s w + 3)) = 0 ∧ Q1 23 0 (ix (wa s w + 4)) = 0 ∧ Q1 23 0 (ix (wa s w + 5)) = 0) (fun Q' => MZ s v0 Q Q') (fun v _ => ix (24 - v)) (by
    rintro v Q1 ⟨⟨i0, i1⟩, i2, i3, i4⟩
    by_cases h : v < 24
    · obtain ⟨s1, s2, s3, s4, s5⟩ := u_st hv.1 i0 h
      refine Or.inl ⟨v + 1, WQ Q1 23 s v 0 0 0 0 0 0, ⟨⟨s2, s3⟩, fun k x j hk => ?_, fun a a0 ha => ?_, fun w w0 hw => ?_⟩, ix_lt s4 s5, fun p X hX => ?_⟩
      · rw [WQ_k hk]; exact i2 k x j hk
      · obtain ⟨q1, q2⟩ := u_a hs hv.1 i0 h ha
        rw [WQ_ne hs s1 a0 q2]; exact i3 a a0 q1
      · by_cases q : w = v
        · subst q
          exact WQ_at hs s1
        · have hwv := v_b hw s1 q
          have w2 := u_w hv.1 w0 (u_x h hwv)
          rw [WQ_ne hs s1 (z_wd hs w2).1 (z_wv hs s1 w2 q), WQ_ne hs s1 (z_wc hs w2 (by decide)).1 (z_ww (j := 1) hs s1 w2 q (by decide)), WQ_ne hs s1 (z_wc hs w2 (by decide)).1 (z_ww (j := 2) hs s1 w2 q (by decide)), WQ_ne hs s1 (z_wc hs w2 (by decide)).1 (z_ww (j := 3) hs s1 w2 q (by decide)), WQ_ne hs s1 (z_wc hs w2 (by decide)).1 (z_ww (j := 4) hs s1 w2 q (by decide)), WQ_ne hs s1 (z_wc hs w2 (by decide)).1 (z_ww (j := 5) hs s1 w2 q (by decide))]
          exact i4 w w0 hwv
      · rw [hb]
        exact br_t h (m_writes rfl hs s1 hX)
    · refine Or.inr ⟨Q1, ⟨i2, fun a a0 ha => i3 a a0 (u_e i1 h ha), fun w w0 w1 => i4 w w0 (u_l h w1)⟩, fun p X hp => ?_⟩
      rw [hb]
      exact br_f h hp) (a1 := v0) (a2 := Q) ⟨⟨z_le _, hv.2⟩, fun _ _ _ _ => rfl, fun _ _ _ => rfl, fun w w0 hw => absurd hw (z_nl2 w0)⟩
  exact ⟨Q', h1, fun p hp => h2 p hp⟩
