/-! the acts: what stays through one, and take, put, add, go -/
theorem g_r1 {a : Int32} (h : (0 ≤ a ∧ a < 3) ∨ (7 ≤ a ∧ a < 11) ∨ (16 ≤ a ∧ a < 32)) : 0 ≤ a ∧ ¬ (3 ≤ a ∧ a < 7) := by lia
theorem g_r2 {a : Int32} (h : 32 ≤ a ∧ a < 192) : 0 ≤ a ∧ ¬ (3 ≤ a ∧ a < 7) := by lia
theorem g_r3 {a : Int32} (h : 200 ≤ a ∧ a < 2504) : 0 ≤ a ∧ ¬ (3 ≤ a ∧ a < 7) := by lia
theorem g_r4 {a : Int32} (h : (192 ≤ a ∧ a < 200) ∨ (2504 ≤ a ∧ a < 3464)) : 0 ≤ a ∧ ¬ (3 ≤ a ∧ a < 7) := by lia
theorem g_r5 {a : Int32} (h : 3 ≤ a ∧ a < 7) : 0 ≤ a ∧ ¬ (200 ≤ a ∧ a < 2504) := by lia
theorem RN_eq {i κ : Nat} {P Q P' Q' : VP} (h : RN i κ P Q) (hp : ∀ k x j, ¬ k = 1 → P' k x j = P k x j) (hq : ∀ a : Int32, 0 ≤ a → ¬ (3 ≤ a ∧ a < 7) → Q' κ 0 (ix a) = Q κ 0 (ix a)) : RN i κ P' Q' := by
  obtain ⟨m2, m3, m4, m5⟩ := h
  exact ⟨RD_eq m2 (fun k j k0 k1 => hp k i j (by omega)) (fun a ha => hq a (g_r1 ha).1 (g_r1 ha).2), RG_eq m3 (fun s j => hp 7 _ j (by decide)) (fun a ha => hq a (g_r2 ha).1 (g_r2 ha).2) (by rw [hq 0 (by decide) (by decide)]; exact z_le _), RW_eq m4 (fun k s j k0 k1 => hp k _ j (by omega)) (fun a ha => hq a (g_r3 ha).1 (g_r3 ha).2), RF_eq m5 (fun j => hp 12 i j (by decide)) (fun x j _ => hp 14 _ j (by decide)) (fun x j _ => hp 16 _ j (by decide)) (fun a ha => hq a (g_r4 ha).1 (g_r4 ha).2)⟩
/-- the machine's own places but its word -/
def RSw (i κ : Nat) (P Q : VP) : Prop := P 1 i 2 = Q κ 0 (ix 3) ∧ P 1 i 4 = Q κ 0 (ix 5) ∧ P 1 i 5 = Q κ 0 (ix 6) ∧ 0 ≤ Q κ 0 (ix 5) ∧ Q κ 0 (ix 5) < 8
theorem RSw_of {i κ : Nat} {P Q : VP} (h : RM i κ P Q) : RSw i κ P Q := ⟨h.1.1, h.1.2.2.1, h.1.2.2.2.1, h.1.2.2.2.2.1, h.1.2.2.2.2.2⟩
theorem RM_mk {i κ : Nat} {P Q : VP} (h : RSw i κ P Q) (hw : P 1 i 3 = Q κ 0 (ix 4)) (hN : RN i κ P Q) : RM i κ P Q := ⟨⟨h.1, hw, h.2.1, h.2.2.1, h.2.2.2.1, h.2.2.2.2⟩, hN⟩
def KR (κ : Nat) (Q Q1 : VP) : Prop := ∀ k x j, ¬ k = κ → ¬ (k = 22 ∧ 13 ≤ j ∧ j ≤ 15) → ¬ k = 28 → Q1 k x j = Q k x j
/-- what an act's steps keep -/
def AB (i κ : Nat) (P Q P1 Q1 : VP) : Prop := KP i P P1 ∧ KR κ Q Q1 ∧ BI P1 ∧ RN i κ P1 Q1 ∧ RSw i κ P1 Q1
theorem AB_t {i κ : Nat} {P Q P1 Q1 P2 Q2 : VP} (h : AB i κ P Q P1 Q1) (h' : AB i κ P1 Q1 P2 Q2) : AB i κ P Q P2 Q2 :=
  ⟨fun k x j a => (h'.1 k x j a).trans (h.1 k x j a), fun k x j a b c => (h'.2.1 k x j a b c).trans (h.2.1 k x j a b c), h'.2.2⟩
theorem AB_r {i κ : Nat} {P Q : VP} (hB : BI P) (hN : RN i κ P Q) (hS : RSw i κ P Q) : AB i κ P Q P Q := ⟨fun _ _ _ _ => rfl, fun _ _ _ _ _ _ => rfl, hB, hN, hS⟩
theorem WK_AB {i κ : Nat} {P Q P1 Q1 : VP} (hS : RSw i κ P Q) (h : WK i κ 1 P Q P1 Q1) : AB i κ P Q P1 Q1 ∧ (∀ j, ¬ (7 ≤ j ∧ j ≤ 9) → P1 1 i j = P 1 i j) ∧ (∀ a : Int32, 3 ≤ a ∧ a < 7 → Q1 κ 0 (ix a) = Q κ 0 (ix a)) := by
  obtain ⟨h1, h2, h3, h4, -⟩ := h
  have e : ∀ j, ¬ (7 ≤ j ∧ j ≤ 9) → P1 1 i j = P 1 i j := fun j hj => h1 1 i j (fun q => hj q.2.2) (by omega)
  have q : ∀ a : Int32, 3 ≤ a ∧ a < 7 → Q1 κ 0 (ix a) = Q κ 0 (ix a) := fun a ha => h2.2 a (g_r5 ha).1 (g_r5 ha).2
  refine ⟨⟨fun k x j hk => h1 k x j (fun q => hk ⟨by rw [q.1, q.2.1]; rfl, by omega, by omega⟩) (fun q => hk ⟨by unfold own; rw [if_pos ⟨by omega, by omega⟩]; exact q.2, by omega, by omega⟩), fun k x j a b c => h2.1 k x j a (by omega), h3, h4 rfl, ?_⟩, e, q⟩
  unfold RSw at hS ⊢
  rw [e 2 (by omega), e 4 (by omega), e 5 (by omega), q 3 (by decide), q 5 (by decide), q 6 (by decide)]
  exact hS
theorem KP_1 {i j : Nat} {P P1 : VP} {v : Int32} (h : KP i P P1) : KP i P (vup P1 1 i j v) := fun k x j' hk => by
  rw [vup_ne (fun q => hk ⟨by rw [q.1, q.2.1]; rfl, by omega, by omega⟩)]
  exact h k x j' hk
theorem KR_s {κ : Nat} {Q Q1 : VP} {j : Nat} {v : Int32} (h : KR κ Q Q1) : KR κ Q (vup Q1 κ 0 j v) := fun k x j' a b c => by
  rw [kup_ne a]
  exact h k x j' a b c
/-- a machine's own place alone is written on both sides -/
theorem AB_s {i κ : Nat} {P Q P1 Q1 P2 Q2 : VP} (h : AB i κ P Q P1 Q1) (hp : ∀ k x j, ¬ (k = 1 ∧ x = i) → P2 k x j = P1 k x j) (hq : ∀ k x j, ¬ k = κ → Q2 k x j = Q1 k x j) (hq' : ∀ a : Int32, 0 ≤ a → ¬ (3 ≤ a ∧ a < 7) → Q2 κ 0 (ix a) = Q1 κ 0 (ix a)) (hS : RSw i κ P2 Q2) : AB i κ P Q P2 Q2 := by
  obtain ⟨a, b, c, d, -⟩ := h
  refine ⟨fun k x j hk => ?_, fun k x j h1 h2 h3 => ?_, BI_eq c (fun k x j k0 _ => hp k x j (by omega)), RN_eq d (fun k x j hk => hp k x j (by omega)) hq', hS⟩
  · rw [hp k x j (fun q => hk ⟨by rw [q.1, q.2]; rfl, by omega, by omega⟩)]; exact a k x j hk
  · rw [hq k x j h1]; exact b k x j h1 h2 h3
theorem g_q3 {a b : Int32} (h : ¬ (3 ≤ a ∧ a < 7)) (hb : 3 ≤ b ∧ b < 7) : ¬ a = b := by lia
theorem g_b0 {b : Int32} (hb : 3 ≤ b ∧ b < 7) : 0 ≤ b := by lia
theorem sq_ne {Q : VP} {κ : Nat} {a b v : Int32} (ha : 0 ≤ a) (hn : ¬ (3 ≤ a ∧ a < 7)) (hb : 3 ≤ b ∧ b < 7) : vup Q κ 0 (ix b) v κ 0 (ix a) = Q κ 0 (ix a) := qup_ne (g_b0 hb) ha (g_q3 hn hb)
theorem AB_word {i κ : Nat} {P Q P1 Q1 : VP} {s w v : Int32} (h : AB i κ P Q P1 Q1) (hs : 0 ≤ s ∧ s < 16) (hw : 0 ≤ w ∧ w < P1 7 (16 * i + ix s) 4) : AB i κ P Q (WP P1 (16 * i + ix s) w 1 v 0) (WQ Q1 κ s w 1 v 0 0 0 0) := by
  obtain ⟨a, b, c, d, e⟩ := h
  have hw24 := z_lt24 hw (c.2.1 _).2
  refine ⟨KP_W a hs, fun k x j h1 h2 h3 => ?_, BI_W c hw, RN_word d hs hw24 ⟨rfl, Or.inr (Or.inl ⟨rfl, rfl, rfl⟩)⟩, ?_⟩
  · rw [WQ_k h1]; exact b k x j h1 h2 h3
  · have q : ∀ a : Int32, 3 ≤ a ∧ a < 7 → WQ Q1 κ s w 1 v 0 0 0 0 κ 0 (ix a) = Q1 κ 0 (ix a) := fun a ha => WQ_ne hs hw24 (g_5 ha).1 (z_lw hs hw24 (g_5 ha))
    unfold RSw at e ⊢
    rw [WP_ne (by omega), WP_ne (by omega), WP_ne (by omega), q 3 (by decide), q 5 (by decide), q 6 (by decide)]
    exact e
theorem WQ_s {κ : Nat} {Q : VP} {s w v : Int32} (hs : 0 ≤ s ∧ s < 16) (hw : 0 ≤ w ∧ w < 24) {a : Int32} (ha : 3 ≤ a ∧ a < 7) : WQ Q κ s w 1 v 0 0 0 0 κ 0 (ix a) = Q κ 0 (ix a) := WQ_ne hs hw (g_5 ha).1 (z_lw hs hw (g_5 ha))
/-- faultOfStore ~ putAt -/
theorem d_fos {i κ : Nat} {P Q : VP} (hB : BI P) (hG : RG i κ P Q) (hκ : vlI κ = 3464) (s w e : Int32) : ∃ r, (r = 0 → (0 ≤ s ∧ s < 16) ∧ (0 ≤ w ∧ w < P 7 (16 * i + ix s) 4) ∧ P 7 (16 * i + ix s) 0 = 1) ∧ An (F_X2_faultOfStore i s w e P) r ∧ An (F_X8_putAt κ s w e Q) r := by
  obtain ⟨a, hT, ta⟩ := d_TH hB hG hκ s w
  rcases hT with ⟨h0, hs', hw24, hwl, hy, hH, fS, hH1⟩ | ⟨h0, fS, hN1⟩ | ⟨h0, fN⟩
  · subst h0
    obtain ⟨r0, hr0, w1, w2⟩ := d_write (e := e) hκ hs' hH
    rcases hr0 with rfl | rfl
    · refine ⟨-22, fun q => absurd q (by decide), fun p hp => ?_, fun p hp => ?_⟩
      · unfold F_X2_faultOfStore
        exact fS _ (hH1 _ (br_f (by decide) (w1 _ (br_t rfl hp))))
      · unfold F_X8_putAt
        exact ta _ (br_t rfl (w2 _ (br_t rfl hp)))
    · refine ⟨0, fun _ => ⟨hs', hwl, hy⟩, fun p hp => ?_, fun p hp => ?_⟩
      · unfold F_X2_faultOfStore
        exact fS _ (hH1 _ (br_f (by decide) (w1 _ (br_f (by decide) hp))))
      · unfold F_X8_putAt
        exact ta _ (br_t rfl (w2 _ (br_f (by decide) hp)))
  · subst h0
    refine ⟨-21, fun q => absurd q (by decide), fun p hp => ?_, fun p hp => ?_⟩
    · unfold F_X2_faultOfStore
      exact fS _ (hN1 _ (br_t rfl hp))
    · unfold F_X8_putAt
      exact ta _ (br_f (by decide) hp)
  · subst h0
    refine ⟨-20, fun q => absurd q (by decide), fun p hp => ?_, fun p hp => ?_⟩
    · unfold F_X2_faultOfStore
      exact fN _ hp
    · unfold F_X8_putAt
      exact ta _ (br_f (by decide) hp)
theorem c_store {i : Nat} {P : VP} {s w v : Int32} (hB : BI P) (hs : 0 ≤ s ∧ s < 16) (hw : 0 ≤ w ∧ w < P 7 (16 * i + ix s) 4) (hy : P 7 (16 * i + ix s) 0 = 1) {post : VP → Prop} (hp : post (WP P (16 * i + ix s) w 1 v 0)) : F_X2_store i s w v P post := by
  unfold F_X2_store
  exact c_findS hs.1 hs.2 hy _ (c_become (c_has hB hw) (z_lt24 hw (hB.2.1 _).2) hp)
theorem RSw_a {i κ : Nat} {P Q P2 : VP} {v : Int32} (hS : RSw i κ P Q) (h2 : P2 1 i 2 = P 1 i 2) (h4 : P2 1 i 4 = P 1 i 4) (h5 : P2 1 i 5 = v) : RSw i κ P2 (vup Q κ 0 (ix 6) v) := by
  obtain ⟨s1, s2, -, s4⟩ := hS
  have q3 : vup Q κ 0 (ix 6) v κ 0 (ix 3) = Q κ 0 (ix 3) := qup_ne (by decide) (by decide) (by decide)
  have q5 : vup Q κ 0 (ix 6) v κ 0 (ix 5) = Q κ 0 (ix 5) := qup_ne (by decide) (by decide) (by decide)
  have q6 : vup Q κ 0 (ix 6) v κ 0 (ix 6) = v := vup_eq _ _ _ _ _
  unfold RSw
  rw [h2, h4, h5, q3, q5, q6]
  exact ⟨s1, s2, rfl, s4⟩
theorem vl_0 {κ : Nat} (hκ : vlI κ = 3464) {a : Int32} (h : 3 ≤ a ∧ a < 7) : 0 ≤ a ∧ a < vlI κ := by rw [hκ]; lia
theorem d_take {i κ : Nat} {P Q : VP} (hB : BI P) (hN : RN i κ P Q) (hS : RSw i κ P Q) (hκ : vlI κ = 3464) (hk22 : ¬ κ = 22) {k more : Int32} (hk : (k = 1 ∧ more = 0) ∨ (k = 3 ∧ more = P 1 i 5)) (w : Int32) : ∃ r P1 Q1, (AB i κ P Q P1 Q1 ∧ P1 1 i 3 = P 1 i 3 ∧ Q1 κ 0 (ix 4) = Q κ 0 (ix 4)) ∧ Am (F_X2_takeNumber i w more P) r P1 ∧ Am (F_X8_moves κ (Q κ 0 (ix 3)) w k Q) r Q1 := by
  obtain ⟨r, P1, Q1, ⟨hW, hL⟩, g1, g2⟩ := d_walk (f := 1) (Or.inr rfl) hB hN hκ hk22 (Q κ 0 (ix 3)) w (Q κ 0 (ix 5)) ⟨hS.2.2.2.1, hS.2.2.2.2⟩
  obtain ⟨hA, e1, e2⟩ := WK_AB hS hW
  have n2 : ¬ k = 2 ∧ ¬ k = 4 := by rcases hk with ⟨rfl, -⟩ | ⟨rfl, -⟩ <;> decide
  by_cases h0 : r = 0
  · subst h0
    obtain ⟨l7, l8, l9, -⟩ := hL rfl
    rcases d_fetch hA.2.2.1 hA.2.2.2.1.2.1 hA.2.2.2.1.2.2.1 hκ (Q1 22 0 14) (Q1 22 0 15) (Q1 22 0 13) with ⟨hs, hw, f1, f2⟩ | ⟨r2, hr2, f1, f2⟩
    · have t1 := m_told (κ := κ) (Q := Q1) (j := 1) hκ hs hw (by decide)
      refine ⟨0, vup (vup P1 1 i 10 (Q1 κ 0 (ix (wa (Q1 22 0 14) (Q1 22 0 15) + 1)))) 1 i 5 (more + Q1 κ 0 (ix (wa (Q1 22 0 14) (Q1 22 0 15) + 1))), vup Q1 κ 0 (ix 6) (more + Q1 κ 0 (ix (wa (Q1 22 0 14) (Q1 22 0 15) + 1))), ⟨AB_s hA (fun k x j hk => by rw [vup_ne (by omega), vup_ne (by omega)]) (fun k x j hk => kup_ne hk) (fun a a0 a1 => sq_ne a0 a1 (by decide)) ?_, ?_, ?_⟩, fun p hp => ?_, fun p hp => ?_⟩
      · exact RSw_a hA.2.2.2.2 (by rw [vup_ne (by omega), vup_ne (by omega)]) (by rw [vup_ne (by omega), vup_ne (by omega)]) (vup_eq _ _ _ _ _)
      · rw [vup_ne (by omega), vup_ne (by omega)]; exact e1 3 (by omega)
      · rw [qup_ne (a := 6) (b := 4) (by decide) (by decide) (by decide)]; exact e2 4 (by decide)
      · unfold F_X2_takeNumber
        rw [hS.1, hS.2.1]
        refine g1 _ (br_t rfl ?_)
        rw [l7, l8, l9]
        refine f1 _ ?_
        unfold F_X2_takeNumber_b36
        refine br_t rfl (fun P47 e => ?_)
        rw [vup_eq] at e
        subst e
        exact hp
      · unfold F_X8_moves
        refine ⟨vl_0 hκ (by decide), g2 _ (br_t rfl (br_f n2.1 (br_f n2.2 (f2 _ ?_))))⟩
        unfold F_X8_moves_b83
        refine br_t rfl (br_f n2.1 (br_f n2.2 (t1 _ ?_)))
        rcases hk with ⟨rfl, rfl⟩ | ⟨rfl, rfl⟩
        · refine br_f (by decide) ⟨vl_0 hκ (by decide), fun Q202 e => ?_⟩
          rw [Int32.add_comm] at e
          subst e
          exact hp
        · refine br_t rfl ⟨vl_0 hκ (by decide), vl_0 hκ (by decide), fun Q202 e => ?_⟩
          rw [e2 6 (by decide), ← hS.2.2.1, Int32.add_comm] at e
          subst e
          exact hp
    · refine ⟨r2, P1, Q1, ⟨hA, e1 3 (by omega), e2 4 (by decide)⟩, fun p hp => ?_, fun p hp => ?_⟩
      · unfold F_X2_takeNumber
        rw [hS.1, hS.2.1]
        refine g1 _ (br_t rfl ?_)
        rw [l7, l8, l9]
        refine f1 _ ?_
        unfold F_X2_takeNumber_b36
        exact br_f hr2 hp
      · unfold F_X8_moves
        refine ⟨vl_0 hκ (by decide), g2 _ (br_t rfl (br_f n2.1 (br_f n2.2 (f2 _ ?_))))⟩
        unfold F_X8_moves_b83
        exact br_f hr2 hp
  · refine ⟨r, P1, Q1, ⟨hA, e1 3 (by omega), e2 4 (by decide)⟩, fun p hp => ?_, fun p hp => ?_⟩
    · unfold F_X2_takeNumber
      rw [hS.1, hS.2.1]
      refine g1 _ (br_f h0 ?_)
      unfold F_X2_takeNumber_b36
      exact br_f h0 hp
    · unfold F_X8_moves
      exact ⟨vl_0 hκ (by decide), g2 _ (br_f h0 hp)⟩
theorem d_put {i κ : Nat} {P Q : VP} (hB : BI P) (hN : RN i κ P Q) (hS : RSw i κ P Q) (hκ : vlI κ = 3464) (hk22 : ¬ κ = 22) (w : Int32) : ∃ r P1 Q1, (AB i κ P Q P1 Q1 ∧ P1 1 i 3 = P 1 i 3 ∧ Q1 κ 0 (ix 4) = Q κ 0 (ix 4)) ∧ Am (F_X2_putNumber i w P) r P1 ∧ Am (F_X8_moves κ (Q κ 0 (ix 3)) w 2 Q) r Q1 := by
  obtain ⟨r, P1, Q1, ⟨hW, hL⟩, g1, g2⟩ := d_walk (f := 1) (Or.inr rfl) hB hN hκ hk22 (Q κ 0 (ix 3)) w (Q κ 0 (ix 5)) ⟨hS.2.2.2.1, hS.2.2.2.2⟩
  obtain ⟨hA, e1, e2⟩ := WK_AB hS hW
  by_cases h0 : r = 0
  · subst h0
    obtain ⟨l7, l8, l9, -⟩ := hL rfl
    obtain ⟨r2, hr2, f1, f2⟩ := d_fos hA.2.2.1 hA.2.2.2.1.2.1 hκ (Q1 22 0 14) (Q1 22 0 15) (Q1 22 0 13)
    by_cases h2 : r2 = 0
    · subst h2
      obtain ⟨hs, hw, hy⟩ := hr2 rfl
      have hw24 := z_lt24 hw (hA.2.2.1.2.1 _).2
      refine ⟨0, WP P1 (16 * i + ix (Q1 22 0 14)) (Q1 22 0 15) 1 (P1 1 i 5) 0, WQ Q1 κ (Q1 22 0 14) (Q1 22 0 15) 1 (P1 1 i 5) 0 0 0 0, ⟨AB_word hA hs hw, ?_, ?_⟩, fun p hp => ?_, fun p hp => ?_⟩
      · rw [WP_ne (by omega)]; exact e1 3 (by omega)
      · rw [WQ_s hs hw24 (by decide)]; exact e2 4 (by decide)
      · unfold F_X2_putNumber
        rw [hS.1, hS.2.1]
        refine g1 _ (br_t rfl ?_)
        rw [l7, l8, l9]
        refine f1 _ ?_
        unfold F_X2_putNumber_b36
        rw [l7, l8]
        exact br_t rfl (c_store hA.2.2.1 hs hw hy hp)
      · unfold F_X8_moves
        refine ⟨vl_0 hκ (by decide), g2 _ (br_t rfl (br_t rfl (f2 _ ?_)))⟩
        unfold F_X8_moves_b83
        rw [← hA.2.2.2.2.2.2.1]
        exact br_t rfl (br_t rfl ⟨vl_0 hκ (by decide), m_writes hκ hs hw24 hp⟩)
    · refine ⟨r2, P1, Q1, ⟨hA, e1 3 (by omega), e2 4 (by decide)⟩, fun p hp => ?_, fun p hp => ?_⟩
      · unfold F_X2_putNumber
        rw [hS.1, hS.2.1]
        refine g1 _ (br_t rfl ?_)
        rw [l7, l8, l9]
        refine f1 _ ?_
        unfold F_X2_putNumber_b36
        exact br_f h2 hp
      · unfold F_X8_moves
        refine ⟨vl_0 hκ (by decide), g2 _ (br_t rfl (br_t rfl (f2 _ ?_)))⟩
        unfold F_X8_moves_b83
        exact br_f h2 hp
  · refine ⟨r, P1, Q1, ⟨hA, e1 3 (by omega), e2 4 (by decide)⟩, fun p hp => ?_, fun p hp => ?_⟩
    · unfold F_X2_putNumber
      rw [hS.1, hS.2.1]
      refine g1 _ (br_f h0 ?_)
      unfold F_X2_putNumber_b36
      exact br_f h0 hp
    · unfold F_X8_moves
      exact ⟨vl_0 hκ (by decide), g2 _ (br_f h0 hp)⟩
/-- the machine's three places, on both sides -/
def MMp (P : VP) (i : Nat) (s w e : Int32) : VP := vup (vup (vup P 1 i 2 s) 1 i 3 w) 1 i 4 e
def MMq (Q : VP) (κ : Nat) (s w e : Int32) : VP := vup (vup (vup Q κ 0 (ix 3) s) κ 0 (ix 4) w) κ 0 (ix 5) e
theorem MMp_at (P : VP) (i : Nat) (s w e : Int32) : MMp P i s w e 1 i 2 = s ∧ MMp P i s w e 1 i 3 = w ∧ MMp P i s w e 1 i 4 = e ∧ MMp P i s w e 1 i 5 = P 1 i 5 := by
  unfold MMp
  refine ⟨?_, ?_, ?_, ?_⟩ <;> simp [vup]
theorem MMq_at (Q : VP) (κ : Nat) (s w e : Int32) : MMq Q κ s w e κ 0 (ix 3) = s ∧ MMq Q κ s w e κ 0 (ix 4) = w ∧ MMq Q κ s w e κ 0 (ix 5) = e ∧ MMq Q κ s w e κ 0 (ix 6) = Q κ 0 (ix 6) := by
  unfold MMq
  refine ⟨?_, ?_, vup_eq _ _ _ _ _, ?_⟩
  · rw [qup_ne (a := 5) (b := 3) (by decide) (by decide) (by decide), qup_ne (a := 4) (b := 3) (by decide) (by decide) (by decide), vup_eq]
  · rw [qup_ne (a := 5) (b := 4) (by decide) (by decide) (by decide), vup_eq]
  · rw [qup_ne (a := 5) (b := 6) (by decide) (by decide) (by decide), qup_ne (a := 4) (b := 6) (by decide) (by decide) (by decide), qup_ne (a := 3) (b := 6) (by decide) (by decide) (by decide)]
theorem MMp_ne {P : VP} {i : Nat} {s w e : Int32} {k x j : Nat} (h : ¬ (k = 1 ∧ x = i)) : MMp P i s w e k x j = P k x j := by
  unfold MMp
  rw [vup_ne (by omega), vup_ne (by omega), vup_ne (by omega)]
theorem AB_M {i κ : Nat} {P Q P1 Q1 : VP} {s w e : Int32} (h : AB i κ P Q P1 Q1) (he : 0 ≤ e ∧ e < 8) : AB i κ P Q (MMp P1 i s w e) (MMq Q1 κ s w e) ∧ MMp P1 i s w e 1 i 3 = MMq Q1 κ s w e κ 0 (ix 4) := by
  obtain ⟨p1, p2, p3, p4⟩ := MMp_at P1 i s w e
  obtain ⟨q1, q2, q3, q4⟩ := MMq_at Q1 κ s w e
  refine ⟨AB_s h (fun k x j hk => MMp_ne hk) (fun k x j hk => ?_) (fun a a0 a1 => ?_) ?_, by rw [p2, q2]⟩
  · unfold MMq
    rw [kup_ne hk, kup_ne hk, kup_ne hk]
  · unfold MMq
    rw [sq_ne a0 a1 (by decide), sq_ne a0 a1 (by decide), sq_ne a0 a1 (by decide)]
  · unfold RSw
    rw [p1, p3, p4, q1, q3, q4]
    exact ⟨rfl, rfl, h.2.2.2.2.2.2.1, he⟩
theorem d_goTo {i κ : Nat} {P Q : VP} (hB : BI P) (hN : RN i κ P Q) (hS : RSw i κ P Q) (hκ : vlI κ = 3464) (hk22 : ¬ κ = 22) (w : Int32) : ∃ r P1 Q1, (AB i κ P Q P1 Q1 ∧ (¬ r = 0 → Q1 κ 0 (ix 4) = Q κ 0 (ix 4)) ∧ (r = 0 → P1 1 i 3 = Q1 κ 0 (ix 4))) ∧ Am (F_X2_goTo i w P) r P1 ∧ Am (F_X8_moves κ (Q κ 0 (ix 3)) w 4 Q) r Q1 := by
  obtain ⟨r, P1, Q1, ⟨hW, hL⟩, g1, g2⟩ := d_walk (f := 1) (Or.inr rfl) hB hN hκ hk22 (Q κ 0 (ix 3)) w (Q κ 0 (ix 5)) ⟨hS.2.2.2.1, hS.2.2.2.2⟩
  obtain ⟨hA, e1, e2⟩ := WK_AB hS hW
  by_cases h0 : r = 0
  · subst h0
    obtain ⟨l7, l8, l9, l10⟩ := hL rfl
    obtain ⟨a, hT, ta⟩ := d_TH hA.2.2.1 hA.2.2.2.1.2.1 hκ (Q1 22 0 14) (Q1 22 0 15)
    rcases hT with ⟨ha, hs', hw24, hwl, hy, hH, fS, hH1⟩ | ⟨ha, fS, hN1⟩ | ⟨ha, fN⟩
    · subst ha
      obtain ⟨r0, hr0, w1, w2⟩ := d_go (e := Q1 22 0 13) hκ hs' hH
      rcases hr0 with rfl | rfl
      · refine ⟨-22, P1, Q1, ⟨hA, fun _ => e2 4 (by decide), fun q => absurd q (by decide)⟩, fun p hp => ?_, fun p hp => ?_⟩
        · unfold F_X2_goTo
          rw [hS.1, hS.2.1]
          refine g1 _ (br_t rfl ?_)
          rw [l7, l8, l9]
          exact fS _ (hH1 _ (br_f (by decide) (w1 _ (br_t rfl hp))))
        · unfold F_X8_moves
          refine ⟨vl_0 hκ (by decide), g2 _ (br_t rfl (br_f (by decide) (br_t rfl (ta _ ?_))))⟩
          unfold F_X8_moves_b83
          exact br_t rfl (br_f (by decide) (br_t rfl (w2 _ (br_t rfl hp))))
      · obtain ⟨m1, m2⟩ := AB_M (s := Q1 22 0 14) (w := Q1 22 0 15) (e := Q1 22 0 13) hA l10
        refine ⟨0, _, _, ⟨m1, fun q => absurd rfl q, fun _ => m2⟩, fun p hp => ?_, fun p hp => ?_⟩
        · unfold F_X2_goTo
          rw [hS.1, hS.2.1]
          refine g1 _ (br_t rfl ?_)
          rw [l7, l8, l9]
          refine fS _ (hH1 _ (br_f (by decide) (w1 _ (br_f (by decide) (fun P73 e3 P81 e4 P89 e5 => ?_)))))
          subst e3
          rw [vup_ne (by omega), l8] at e4
          subst e4
          rw [vup_ne (by omega), vup_ne (by omega), l9] at e5
          subst e5
          exact hp
        · unfold F_X8_moves
          refine ⟨vl_0 hκ (by decide), g2 _ (br_t rfl (br_f (by decide) (br_t rfl (ta _ ?_))))⟩
          unfold F_X8_moves_b83
          refine br_t rfl (br_f (by decide) (br_t rfl (w2 _ (br_f (by decide) ⟨vl_0 hκ (by decide), fun Q153 e3 => ⟨vl_0 hκ (by decide), fun Q160 e4 => ⟨vl_0 hκ (by decide), fun Q167 e5 => ?_⟩⟩⟩))))
          subst e3
          rw [kup_ne (fun q => hk22 q.symm)] at e4
          subst e4
          rw [kup_ne (fun q => hk22 q.symm), kup_ne (fun q => hk22 q.symm)] at e5
          subst e5
          exact hp
    · subst ha
      refine ⟨-21, P1, Q1, ⟨hA, fun _ => e2 4 (by decide), fun q => absurd q (by decide)⟩, fun p hp => ?_, fun p hp => ?_⟩
      · unfold F_X2_goTo
        rw [hS.1, hS.2.1]
        refine g1 _ (br_t rfl ?_)
        rw [l7, l8]
        exact fS _ (hN1 _ (br_t rfl hp))
      · unfold F_X8_moves
        refine ⟨vl_0 hκ (by decide), g2 _ (br_t rfl (br_f (by decide) (br_t rfl (ta _ ?_))))⟩
        unfold F_X8_moves_b83
        exact br_f (by decide) hp
    · subst ha
      refine ⟨-20, P1, Q1, ⟨hA, fun _ => e2 4 (by decide), fun q => absurd q (by decide)⟩, fun p hp => ?_, fun p hp => ?_⟩
      · unfold F_X2_goTo
        rw [hS.1, hS.2.1]
        refine g1 _ (br_t rfl ?_)
        rw [l7]
        exact fN _ hp
      · unfold F_X8_moves
        refine ⟨vl_0 hκ (by decide), g2 _ (br_t rfl (br_f (by decide) (br_t rfl (ta _ ?_))))⟩
        unfold F_X8_moves_b83
        exact br_f (by decide) hp
  · refine ⟨r, P1, Q1, ⟨hA, fun _ => e2 4 (by decide), fun q => absurd q h0⟩, fun p hp => ?_, fun p hp => ?_⟩
    · unfold F_X2_goTo
      rw [hS.1, hS.2.1]
      exact g1 _ (br_f h0 hp)
    · unfold F_X8_moves
      exact ⟨vl_0 hκ (by decide), g2 _ (br_f h0 hp)⟩
