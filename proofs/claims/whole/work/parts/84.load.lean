/-! the text read; load -/
theorem lx2_1 {A1 A2 B1 S T : Type} (f : (S → Prop) → (A1 → A2 → Prop) → A1 → A2 → Prop) (g : (T → Prop) → (B1 → Prop) → B1 → Prop) (I : A1 → A2 → B1 → Prop) (Fc : S → T → Prop) (μ : A1 → A2 → Nat)
    (hs : ∀ a1 a2 b1, I a1 a2 b1 → (∃ c1 c2 d1, I c1 c2 d1 ∧ μ c1 c2 < μ a1 a2 ∧ (∀ (p : S → Prop) (X : A1 → A2 → Prop), X c1 c2 → f p X a1 a2) ∧ (∀ (p : T → Prop) (X : B1 → Prop), X d1 → g p X b1)) ∨ (∃ s t, Fc s t ∧ (∀ (p : S → Prop) (X : A1 → A2 → Prop), p s → f p X a1 a2) ∧ (∀ (p : T → Prop) (X : B1 → Prop), p t → g p X b1))) {a1 : A1} {a2 : A2} {b1 : B1} (h : I a1 a2 b1) : ∃ s t, Fc s t ∧ (∀ p : S → Prop, p s → vL2 (f p) a1 a2) ∧ (∀ p : T → Prop, p t → vL1 (g p) b1) := by
  have key : ∀ k a1 a2 b1, I a1 a2 b1 → μ a1 a2 < k → ∃ s t, Fc s t ∧ (∀ p : S → Prop, p s → vl2 (f p) k a1 a2) ∧ (∀ p : T → Prop, p t → vl1 (g p) k b1) := by
    intro k
    induction k with
    | zero => intro a1 a2 b1 _ h; exact absurd h (Nat.not_lt_zero _)
    | succ k ih =>
      intro a1 a2 b1 hI hm
      rcases hs a1 a2 b1 hI with ⟨c1, c2, d1, h1, h2, h3, h4⟩ | ⟨s, t, h1, h2, h3⟩
      · obtain ⟨s, t, g1, g2, g3⟩ := ih c1 c2 d1 h1 (by omega)
        exact ⟨s, t, g1, fun p hp => h3 p _ (g2 p hp), fun p hp => h4 p _ (g3 p hp)⟩
      · exact ⟨s, t, h1, fun p hp => h2 p _ hp, fun p hp => h3 p _ hp⟩
  obtain ⟨s, t, g1, g2, g3⟩ := key (μ a1 a2 + 1) a1 a2 b1 h (Nat.lt_succ_self _)
  exact ⟨s, t, g1, fun p hp => ⟨_, g2 p hp⟩, fun p hp => ⟨_, g3 p hp⟩⟩
def TLs (P Q : VP) (m : Int32) : Prop := ∀ j : Int32, 0 ≤ j → j < m → WR (P 19 0 (ix j)) (P 20 0 (ix j)) 0 (Q 27 0 (ix (4 * j))) (Q 27 0 (ix ((4 * j) + 1))) (Q 27 0 (ix ((4 * j) + 2))) (Q 27 0 (ix ((4 * j) + 3))) 0 0
/-- what the text has told -/
def TXT (P Q P1 : VP) (r : Int32) (Q1 : VP) : Prop := FCp P P1 ∧ FMq Q Q1 ∧ ((r = 0 ∧ ∃ f : Int32, 0 ≤ f ∧ P1 17 0 7 = f ∧ Q1 22 0 9 = f) ∨ (r = 1 ∧ P1 17 0 7 = -1 ∧ ∃ m : Int32, (0 ≤ m ∧ m ≤ 61) ∧ P1 17 0 2 = m ∧ Q1 22 0 11 = m ∧ TLs P1 Q1 m))
theorem ss_1 {m x : Int32} (h0 : 0 ≤ m ∧ m ≤ 61) (h : 2 * m ≤ x) (hx : x ≤ 120) : m ≤ 60 := by lia
theorem ss_2a {m : Int32} (h0 : 0 ≤ m ∧ m ≤ 60) : (0 ≤ m + 1 ∧ m + 1 ≤ 61) ∧ 2 * (m + 1) = (2 * m) + 2 ∧ 0 ≤ 2 * m ∧ 2 * m ≤ 120 := by lia
theorem ss_2b {u x y : Int32} (h0 : 0 ≤ u ∧ u ≤ 120) (h : u ≤ x) (hy : x < y) (hL : y < 120) : u + 2 ≤ y + 1 := by lia
theorem ss_2 {m x y : Int32} (h0 : 0 ≤ m ∧ m ≤ 60) (h : 2 * m ≤ x) (hy : x < y) (hL : y < 120) : (0 ≤ m + 1 ∧ m + 1 ≤ 61) ∧ 2 * (m + 1) ≤ y + 1 := by
  obtain ⟨a, b, c, d⟩ := ss_2a h0
  exact ⟨a, by rw [b]; exact ss_2b ⟨c, d⟩ h hy hL⟩
theorem ss_8a {m u : Int32} (h0 : 0 ≤ m ∧ m ≤ 61) (h : 2 * m ≤ u) (hu : u ≤ 120) : m ≤ 60 := by lia
theorem ss_3 {j m c : Int32} (hj : 0 ≤ j ∧ j < m) (hm : m ≤ 60) (hc : 0 ≤ c ∧ c < 4) : 0 ≤ (4 * j) + c ∧ ¬ (4 * m ≤ (4 * j) + c ∧ (4 * j) + c ≤ (4 * m) + 3) := by lia
theorem ss_4 {j m : Int32} (hj : 0 ≤ j ∧ j < m) (hm : m ≤ 60) : 0 ≤ 4 * j ∧ ¬ (4 * m ≤ 4 * j ∧ 4 * j ≤ (4 * m) + 3) := by lia
theorem ss_5 {x y L : Int32} (hx : 0 ≤ x) (h : x < y) (hL : y < L) (h120 : L ≤ 120) : (0 ≤ y + 1 ∧ y + 1 ≤ L) ∧ 0 ≤ L - (y + 1) ∧ L - (y + 1) < L - x := by lia
theorem ss_6 {m : Int32} (h : 0 ≤ m ∧ m ≤ 60) : ¬ 120 < m := by lia
theorem ss_7 {j m : Int32} (h : j < m + 1) (hm : 0 ≤ m ∧ m ≤ 60) (hn : ¬ j = m) : j < m := by lia
theorem TLs_st {P Q P1 Q1 : VP} {m K V a0 a1 a2 a3 : Int32} (h : TLs P Q m) (hm : 0 ≤ m ∧ m ≤ 60) (h19 : ∀ j, P1 19 0 j = P 19 0 j ∧ P1 20 0 j = P 20 0 j) (h27 : ∀ a : Int32, 0 ≤ a → ¬ (4 * m ≤ a ∧ a ≤ (4 * m) + 3) → Q1 27 0 (ix a) = Q 27 0 (ix a)) (hl : LNq Q1 m a0 a1 a2 a3) (hw : WR K V 0 a0 a1 a2 a3 0 0) : TLs (TLp P1 m K V) Q1 (m + 1) := by
  intro j j0 j1
  by_cases hj : j = m
  · subst hj
    have e1 : TLp P1 j K V 19 0 (ix j) = K := by
      unfold TLp
      rw [kup_ne (by decide), kup_ne (by decide), vup_eq]
    have e2 : TLp P1 j K V 20 0 (ix j) = V := by
      unfold TLp
      rw [kup_ne (by decide), vup_eq]
    rw [e1, e2, hl.1, hl.2.1, hl.2.2.1, hl.2.2.2]
    exact hw
  · have jm := ss_7 j1 hm hj
    have hne := ix_ne j0 hm.1 hj
    have e1 : TLp P1 m K V 19 0 (ix j) = P 19 0 (ix j) := by
      unfold TLp
      rw [kup_ne (by decide), kup_ne (by decide), vup_ne (by omega)]
      exact (h19 _).1
    have e2 : TLp P1 m K V 20 0 (ix j) = P 20 0 (ix j) := by
      unfold TLp
      rw [kup_ne (by decide), vup_ne (by omega), kup_ne (by decide)]
      exact (h19 _).2
    have s := fun c hc => ss_3 (c := c) ⟨j0, jm⟩ hm.2 hc
    have s0 := ss_4 ⟨j0, jm⟩ hm.2
    rw [e1, e2, h27 _ s0.1 s0.2, h27 _ (s 1 (by decide)).1 (s 1 (by decide)).2, h27 _ (s 2 (by decide)).1 (s 2 (by decide)).2, h27 _ (s 3 (by decide)).1 (s 3 (by decide)).2]
    exact h j j0 jm
theorem d_readT {P Q : VP} {L : Int32} {B : Int32 → Int32} (h : TB P Q L B) : ∃ P1 r Q1, TXT P Q P1 r Q1 ∧ (∀ post : VP → Prop, post P1 → F_X5_read P post) ∧ (∀ post : Int32 → VP → Prop, post r Q1 → F_X8_isText Q post) := by
  have hL := h.2.2.1
  obtain ⟨P1, ⟨r, Q1⟩, g1, g2, g3⟩ := lx2_1 (S := VP) (T := Int32 × VP) (F_X5_read_l17) (fun p => F_X8_isText_l15 (fun r Q => p (r, Q)))
    (fun c P' Q' => ∃ x, TS P' Q' L B x c ∧ (0 ≤ x ∧ x ≤ L) ∧ (0 ≤ c ∧ c ≤ 60) ∧ 2 * c ≤ x ∧ FCp P P' ∧ FMq Q Q' ∧ TLs P' Q' c)
    (fun P1 z => TXT P Q P1 z.1 z.2) (fun _ P' => ix (L - P' 17 0 6)) (fun c P' Q' ⟨x, hT, hx, hc, h2, hF, hM, hTL⟩ => by
      have hx6 := hT.2.1.1
      rcases d_line hT hx hc with ⟨f, P1, Q1, f0, f1, f2, f3, f4, f5, f6⟩ | ⟨y, P1, Q1, a0, a1, a2, a3, K, V, hl, hw, y3, y4⟩
      · refine Or.inr ⟨P1, (0, Q1), ⟨FCp_t hF f2, FMq_t hM f3, Or.inl ⟨rfl, f, f0, f1, f4⟩⟩, fun p X hp => ?_, fun p X hp => ?_⟩
        · unfold F_X5_read_l17
          exact br_f (ss_6 hc) (f5 _ (br_f (by rw [f1]; lia) hp))
        · unfold F_X8_isText_l15
          exact f6 _ (br_t rfl hp)
      · obtain ⟨hT1, ⟨k1, k2⟩, k3, k4, k5, k6, k7⟩ := id hl
        have hTL1 := TLs_st hTL hc k6 k7 k3 hw
        have q8 : vup Q1 22 0 11 (c + 1) 22 0 8 = y := (vup_ne (by omega)).trans hT1.2.1.2
        have q7 : vup Q1 22 0 11 (c + 1) 22 0 7 = L := (vup_ne (by omega)).trans hT1.1.2.1
        have p6 : TLp P1 c K V 17 0 6 = y := by
          unfold TLp
          rw [vup_ne (by omega), kup_ne (by decide), kup_ne (by decide)]
          exact hT1.2.1.1
        have p7 : TLp P1 c K V 17 0 7 = -1 := by
          unfold TLp
          rw [vup_ne (by omega), kup_ne (by decide), kup_ne (by decide)]
          exact hT1.2.2.1.1
        have p1 : TLp P1 c K V 17 0 1 = L := by
          unfold TLp
          rw [vup_ne (by omega), kup_ne (by decide), kup_ne (by decide)]
          exact hT1.1.1
        have fT : FCp P (TLp P1 c K V) := FCp_t hF (FCp_t k4 (fun k x' j a b => by
          unfold TLp
          rw [vup_ne (by omega), kup_ne (by omega), kup_ne (by omega)]))
        have fQ : FMq Q (vup Q1 22 0 11 (c + 1)) := FMq_t hM (FMq_t k5 (fun k x' j a b => vup_ne (by omega)))
        have hTL2 : TLs (TLp P1 c K V) (vup Q1 22 0 11 (c + 1)) (c + 1) := fun j j0 j1 => by
          rw [kup_ne (by decide), kup_ne (by decide), kup_ne (by decide), kup_ne (by decide)]
          exact hTL1 j j0 j1
        have hy0 : 0 ≤ y := x_0 hx.1 k1
        have hT3 : TS (TLp P1 c K V) (vup Q1 22 0 11 (c + 1)) L B y (c + 1) := by
          refine ⟨TB_of hT1.1 (p1.trans hT1.1.1.symm) (fun j => ?_) (vup_ne (by omega)) (fun j => kup_ne (by decide)), ⟨p6, q8⟩, ⟨p7, (vup_ne (by omega)).trans hT1.2.2.1.2⟩, ?_, vup_eq _ _ _ _ _⟩
          · unfold TLp
            rw [kup_ne (by decide), kup_ne (by decide), kup_ne (by decide)]
          · unfold TLp
            rw [vup_eq]
        have ms := m_sign (c := 59) hT3 hy0
        have h120 := ss_6 hc
        by_cases hyL : y < L
        · have hyn : ¬ y = L := fun q => absurd hyL (by rw [q]; lia)
          by_cases hb : B y = 59
          · obtain ⟨w1, w2, w3⟩ := ss_5 hx.1 k1 hyL hL.2
            obtain ⟨w4, w5⟩ := ss_2 hc h2 k1 (t_1 hyL hL.2)
            have w6 := ss_8a w4 w5 (q_5 w1.2 hL.2)
            refine Or.inl ⟨c + 1, vup (TLp P1 c K V) 17 0 6 (y + 1), vup (vup Q1 22 0 11 (c + 1)) 22 0 8 (y + 1), ⟨y + 1, TS_at hT3, w1, ⟨w4.1, w6⟩, w5, FCp_t fT (fun k x' j a b => vup_ne (by omega)), FMq_t fQ (fun k x' j a b => vup_ne (by omega)), fun j j0 j1 => ?_⟩, ?_, fun p X hX => ?_, fun p X hX => ?_⟩
            · rw [kup_ne (by decide), kup_ne (by decide), kup_ne (by decide), kup_ne (by decide), kup_ne (by decide), kup_ne (by decide)]
              exact hTL2 j j0 j1
            · rw [vup_eq, hx6]; exact ix_lt w2 w3
            · unfold F_X5_read_l17
              refine br_f h120 (y3 _ (fun _ => br_t (by rw [p7]; decide) (br_t (by rw [p6, p1]; exact hyL) (fun P53 e1 => ?_))) (fun q => absurd hb q.2))
              rw [p6] at e1
              subst e1
              exact hX
            · unfold F_X8_isText_l15
              refine y4 _ (br_f (by decide) (fun Q29 e1 => ?_))
              rw [hT1.2.2.2.2] at e1
              subst e1
              exact br_f (by rw [q8, q7]; exact hyn) (ms.1 hb _ (br_f (by decide) hX))
          · refine Or.inr ⟨vup P1 17 0 7 y, (0, vup (vup Q1 22 0 11 (c + 1)) 22 0 9 y), ⟨FCp_t hF (FCp_t k4 (fun k x' j a b => vup_ne (by omega))), FMq_t fQ (fun k x' j a b => vup_ne (by omega)), Or.inl ⟨rfl, y, hy0, vup_eq P1 17 0 7 y, vup_eq (vup Q1 22 0 11 (c + 1)) 22 0 9 y⟩⟩, fun p X hp => ?_, fun p X hp => ?_⟩
            · unfold F_X5_read_l17
              exact br_f h120 (y3 _ (fun q => absurd q (fun q => q.elim (fun z => z hyL) hb)) (fun _ => br_f (by rw [vup_eq]; lia) hp))
            · unfold F_X8_isText_l15
              refine y4 _ (br_f (by decide) (fun Q29 e1 => ?_))
              rw [hT1.2.2.2.2] at e1
              subst e1
              exact br_f (by rw [q8, q7]; exact hyn) (ms.2 hb _ (br_t rfl hp))
        · have hyn : y = L := by lia
          refine Or.inr ⟨TLp P1 c K V, (1, vup Q1 22 0 11 (c + 1)), ⟨fT, fQ, Or.inr ⟨rfl, p7, c + 1, (ss_2a hc).1, hT3.2.2.2.1, vup_eq Q1 22 0 11 (c + 1), hTL2⟩⟩, fun p X hp => ?_, fun p X hp => ?_⟩
          · unfold F_X5_read_l17
            exact br_f h120 (y3 _ (fun _ => br_t (by rw [p7]; decide) (br_f (by rw [p6, p1]; exact hyL) hp)) (fun q => absurd q.1 hyL))
          · unfold F_X8_isText_l15
            refine y4 _ (br_f (by decide) (fun Q29 e1 => ?_))
            rw [hT1.2.2.2.2] at e1
            subst e1
            exact br_t (by rw [q8, q7]; exact hyn) hp)
    (a1 := 0) (a2 := vup (vup (vup P 17 0 6 0) 17 0 2 0) 17 0 7 (-1)) (b1 := vup (vup (vup Q 22 0 8 0) 22 0 9 (-1)) 22 0 11 0) ⟨0, ⟨TB_of h (by rw [vup_ne (by omega), vup_ne (by omega), vup_ne (by omega)]) (fun j => by rw [kup_ne (by decide), kup_ne (by decide), kup_ne (by decide)]) (by rw [vup_ne (by omega), vup_ne (by omega), vup_ne (by omega)]) (fun j => by rw [kup_ne (by decide), kup_ne (by decide), kup_ne (by decide)]), ⟨by rw [vup_ne (by omega), vup_ne (by omega), vup_eq], by rw [vup_ne (by omega), vup_ne (by omega), vup_eq]⟩, ⟨by rw [vup_eq], by rw [vup_ne (by omega), vup_eq]⟩, by rw [vup_ne (by omega), vup_eq], by rw [vup_eq]⟩, ⟨by decide, hL.1⟩, by decide, by decide, fun k x' j a b => by rw [vup_ne (by omega), vup_ne (by omega), vup_ne (by omega)], fun k x' j a b => by rw [vup_ne (by omega), vup_ne (by omega), vup_ne (by omega)], fun j j0 j1 => absurd j1 (by lia)⟩
  refine ⟨P1, r, Q1, g1, fun post hp => ?_, fun post hp => ?_⟩
  · unfold F_X5_read
    intro P2 e1 P7 e2 P12 e3
    subst e1 e2 e3
    exact g2 post hp
  · unfold F_X8_isText
    intro Q2 e1 Q7 e2 Q12 e3
    subst e1 e2 e3
    exact g3 (fun z => post z.1 z.2) hp
