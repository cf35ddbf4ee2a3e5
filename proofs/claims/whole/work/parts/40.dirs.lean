theorem dv_pos {x : Int32} (h : 0 ≤ x) : 0 ≤ x / 100 := by
  rw [Int32.le_iff_toInt_le] at h ⊢
  rw [Int32.toInt_div_of_ne_right _ _ (by decide)]
  exact Int.tdiv_nonneg h (by decide)
def RQ (κ : Nat) (Q : VP) : Prop := 0 < Q κ 0 (ix 24) ∧ Q κ 0 (ix 24) + Q κ 0 (ix 25) + Q κ 0 (ix 26) + Q κ 0 (ix 27) + Q κ 0 (ix 28) + Q κ 0 (ix 29) + Q κ 0 (ix 30) + Q κ 0 (ix 31) = 64
theorem RQ_eq {κ : Nat} {Q Q' : VP} (h : RQ κ Q) (hq : ∀ a : Int32, 24 ≤ a → a < 32 → Q' κ 0 (ix a) = Q κ 0 (ix a)) : RQ κ Q' := by
  unfold RQ at h ⊢
  rw [hq 24 (by decide) (by decide), hq 25 (by decide) (by decide), hq 26 (by decide) (by decide), hq 27 (by decide) (by decide), hq 28 (by decide) (by decide), hq 29 (by decide) (by decide), hq 30 (by decide) (by decide), hq 31 (by decide) (by decide)]
  exact h
theorem z_add {s c d : Int32} (h : ¬ c = d) : ¬ c + s = d + s := by lia
theorem z_0c {s c : Int32} (hs : 0 ≤ s ∧ s < 16) (hc : 32 ≤ c ∧ c < 192) : ¬ 0 = c + s := by lia
theorem z_cp {s c : Int32} (hs : 0 ≤ s ∧ s < 16) (hc : 32 ≤ c ∧ c < 192) : 0 ≤ c + s := by lia
def NN (n a : Int32) : Prop := 0 ≤ a ∧ ¬ a = 0 ∧ ¬ a = 16 + n ∧ ¬ a = 24 + n
theorem n_16 {n : Int32} (h : 1 ≤ n ∧ n < 8) : 0 ≤ 16 + n ∧ ¬ 16 + n = 0 ∧ ¬ 16 + n = 24 + n ∧ 16 ≤ 16 + n ∧ 16 + n < 32 := by lia
theorem n_24 {n : Int32} (h : 1 ≤ n ∧ n < 8) : 0 ≤ 24 + n ∧ ¬ 24 + n = 0 ∧ ¬ 24 + n = 16 + n ∧ 16 ≤ 24 + n ∧ 24 + n < 32 := by lia
theorem n_1 {n : Int32} (h : 1 ≤ n ∧ n < 8) : NN n 1 := by unfold NN; lia
theorem n_2 {n : Int32} (h : 1 ≤ n ∧ n < 8) : NN n 2 := by unfold NN; lia
theorem n_7j {n j : Int32} (h : 1 ≤ n ∧ n < 8) (h0 : 0 ≤ j) (h1 : j < 4) : NN n (7 + j) := by unfold NN; lia
theorem n_16j {n j : Int32} (h : 1 ≤ n ∧ n < 8) (h0 : 0 ≤ j) (h1 : j < 8) (hj : ¬ j = n) : NN n (16 + j) := by unfold NN; lia
theorem n_24j {n j : Int32} (h : 1 ≤ n ∧ n < 8) (h0 : 0 ≤ j) (h1 : j < 8) (hj : ¬ j = n) : NN n (24 + j) := by unfold NN; lia
theorem n_q {n a : Int32} (h : 1 ≤ n ∧ n < 8) (h0 : 24 ≤ a) (h1 : a < 32) (hj : ¬ a = 24 + n) : NN n a := by unfold NN; lia
theorem n_s1 {n x : Int32} (h : x < n + 1) (hx : ¬ x = n) (hn : 1 ≤ n ∧ n < 8) : x < n := by lia
theorem n_s2 {n x : Int32} (h : n + 1 ≤ x) (hn : 1 ≤ n ∧ n < 8) : n ≤ x ∧ ¬ x = n ∧ 0 ≤ x := by lia
theorem n_s3 {n : Int32} (hn : 1 ≤ n ∧ n < 8) : (1 ≤ n + 1 ∧ n + 1 ≤ 8) ∧ n ≤ n + 1 ∧ ¬ n < 0 ∧ 0 ≤ n ∧ 0 ≤ 16 + n ∧ 16 + n < 3464 ∧ 0 ≤ 24 + n ∧ 24 + n < 3464 := by lia
theorem n_r {n : Int32} (h : 0 ≤ n ∧ n < 4) : 0 ≤ 7 + n ∧ 7 + n < 3464 ∧ ¬ 7 + n = 2 ∧ (7 ≤ 7 + n ∧ 7 + n < 11) ∧ (0 ≤ n + 1 ∧ n + 1 ≤ 4) ∧ ¬ n < 0 := by lia
def MM (n a : Int32) : Prop := 0 ≤ a ∧ ¬ a = 2 ∧ ¬ a = 7 + n
theorem m_7j {n j : Int32} (h : 0 ≤ n ∧ n < 4) (h0 : 0 ≤ j) (h1 : j < 4) (hj : ¬ j = n) : MM n (7 + j) := by unfold MM; lia
theorem m_16j {n j : Int32} (h : 0 ≤ n ∧ n < 4) (h0 : 0 ≤ j) (h1 : j < 8) : MM n (16 + j) := by unfold MM; lia
theorem m_24j {n j : Int32} (h : 0 ≤ n ∧ n < 4) (h0 : 0 ≤ j) (h1 : j < 8) : MM n (24 + j) := by unfold MM; lia
theorem m_q {n a : Int32} (h : 0 ≤ n ∧ n < 4) (h0 : 24 ≤ a) (h1 : a < 32) : MM n a := by unfold MM; lia
theorem m_01 {n a : Int32} (h : 0 ≤ n ∧ n < 4) (ha : a = 0 ∨ a = 1) : MM n a := by unfold MM; lia
theorem z_n2 {j c : Int32} (h : 0 ≤ j) (h' : j < 8) (hc : 7 ≤ c ∧ c ≤ 24) : 0 ≤ c + j ∧ ¬ c + j = 2 := by lia
theorem z_48 {j : Int32} (h : j < 4) : j < 8 := by lia
theorem z_34 {n : Int32} (h : n ≤ 4) (h' : ¬ n = 4) : n < 4 := by lia
theorem z_41 {n : Int32} (h : n = 4) : ¬ n < 0 ∧ ¬ n < 4 := by lia
theorem z_q2 {a : Int32} (h : 24 ≤ a) (h' : a < 32) : 0 ≤ a ∧ ¬ a = 2 := by lia
theorem RR_b {P Q : VP} {s a b c : Int32} (h : RR P Q) (hs : 0 ≤ s ∧ s < 16) (hy : P 7 (16 * 0 + ix s) 0 = 1) (hH : RH P Q 23 (16 * 0 + ix s) s) (h1 : 0 ≤ a) (h2 : a ≤ b) (h3 : b ≤ c) (h4 : c < 8) : RR (vup (vup (vup P 7 (16 * 0 + ix s) 5 a) 7 (16 * 0 + ix s) 6 b) 7 (16 * 0 + ix s) 7 c) (vup (vup (vup Q 23 0 (ix (112 + s)) a) 23 0 (ix (128 + s)) b) 23 0 (ix (144 + s)) c) := by
  have hh := (h.2.1.2.2.1 s hs.1 hs.2).1
  have hp : ∀ k x j, ¬ (k = 7 ∧ x = 16 * 0 + ix s ∧ 5 ≤ j ∧ j ≤ 7) → vup (vup (vup P 7 (16 * 0 + ix s) 5 a) 7 (16 * 0 + ix s) 6 b) 7 (16 * 0 + ix s) 7 c k x j = P k x j := fun k x j hn => by
    rw [vup_ne (by omega), vup_ne (by omega), vup_ne (by omega)]
  have i5 := z_cp (c := 112) hs (by decide)
  have i6 := z_cp (c := 128) hs (by decide)
  have i7 := z_cp (c := 144) hs (by decide)
  have hq : ∀ d : Int32, 32 ≤ d ∧ d < 192 → ¬ d = 112 → ¬ d = 128 → ¬ d = 144 → vup (vup (vup Q 23 0 (ix (112 + s)) a) 23 0 (ix (128 + s)) b) 23 0 (ix (144 + s)) c 23 0 (ix (d + s)) = Q 23 0 (ix (d + s)) := fun d d0 e1 e2 e3 => by
    rw [qup_ne i7 (z_cp hs d0) (z_add e3), qup_ne i6 (z_cp hs d0) (z_add e2), qup_ne i5 (z_cp hs d0) (z_add e1)]
  have hq0 : vup (vup (vup Q 23 0 (ix (112 + s)) a) 23 0 (ix (128 + s)) b) 23 0 (ix (144 + s)) c 23 0 (ix 0) = Q 23 0 (ix 0) := by
    rw [qup_ne i7 (by decide) (z_0c hs (by decide)), qup_ne i6 (by decide) (z_0c hs (by decide)), qup_ne i5 (by decide) (z_0c hs (by decide))]
  have p5 : vup (vup (vup P 7 (16 * 0 + ix s) 5 a) 7 (16 * 0 + ix s) 6 b) 7 (16 * 0 + ix s) 7 c 7 (16 * 0 + ix s) 5 = a := by
    rw [vup_ne (by omega), vup_ne (by omega), vup_eq]
  have p6 : vup (vup (vup P 7 (16 * 0 + ix s) 5 a) 7 (16 * 0 + ix s) 6 b) 7 (16 * 0 + ix s) 7 c 7 (16 * 0 + ix s) 6 = b := by
    rw [vup_ne (by omega), vup_eq]
  have p7 : vup (vup (vup P 7 (16 * 0 + ix s) 5 a) 7 (16 * 0 + ix s) 6 b) 7 (16 * 0 + ix s) 7 c 7 (16 * 0 + ix s) 7 = c := vup_eq _ _ _ _ _
  have q5 : vup (vup (vup Q 23 0 (ix (112 + s)) a) 23 0 (ix (128 + s)) b) 23 0 (ix (144 + s)) c 23 0 (ix (112 + s)) = a := by
    rw [qup_ne i7 i5 (z_add (by decide)), qup_ne i6 i5 (z_add (by decide)), vup_eq]
  have q6 : vup (vup (vup Q 23 0 (ix (112 + s)) a) 23 0 (ix (128 + s)) b) 23 0 (ix (144 + s)) c 23 0 (ix (128 + s)) = b := by
    rw [qup_ne i7 i6 (z_add (by decide)), vup_eq]
  have q7 : vup (vup (vup Q 23 0 (ix (112 + s)) a) 23 0 (ix (128 + s)) b) 23 0 (ix (144 + s)) c 23 0 (ix (144 + s)) = c := vup_eq _ _ _ _ _
  have hB := BI_h (y := 16 * 0 + ix s) (v := c) (j := 7) (BI_h (y := 16 * 0 + ix s) (v := b) (j := 6) (BI_h (y := 16 * 0 + ix s) (v := a) (j := 5) h.1 (by decide) (fun q => absurd q (by decide)) (fun q => absurd q (by decide))) (by decide) (fun q => absurd q (by decide)) (fun q => absurd q (by decide))) (by decide) (fun q => absurd q (by decide)) (fun q => absurd q (by decide))
  refine head_up h hs hy (fun k x j hn => hp k x j (by omega)) (QU_s (QU_s (QU_s (QU_r _ _) i5 (SH_c (m := 7) hs (by decide) (by decide))) i6 (SH_c (m := 8) hs (by decide) (by decide))) i7 (SH_c (m := 9) hs (by decide) (by decide))) hB ?_ (fun _ => ?_)
  · rw [hp _ _ _ (by omega), hq 32 (by decide) (by decide) (by decide) (by decide)]
    exact hh
  · obtain ⟨k1, k2, k3, k4, k5, k6, k7, k8, k9, ⟨k10, k11⟩, ⟨k12, k13⟩, k14, k15, k16, k17⟩ := hH
    unfold RH
    rw [hp 7 _ 1 (by omega), hp 7 _ 2 (by omega), hp 7 _ 3 (by omega), hp 7 _ 4 (by omega), p5, p6, p7, hp 7 _ 8 (by omega), hp 7 _ 9 (by omega), q5, q6, q7, hq 48 (by decide) (by decide) (by decide) (by decide), hq 64 (by decide) (by decide) (by decide) (by decide), hq 80 (by decide) (by decide) (by decide) (by decide), hq 96 (by decide) (by decide) (by decide) (by decide), hq 160 (by decide) (by decide) (by decide) (by decide), hq 176 (by decide) (by decide) (by decide) (by decide), hq0]
    exact ⟨k1, k2, k3, k4, rfl, rfl, rfl, k8, k9, ⟨k10, k11⟩, ⟨k12, k13⟩, h1, h2, h3, h4⟩
theorem D_brackets {P Q : VP} (h : RR P Q) (x1 x2 : Int32) : ∃ r P1 Q1, RR P1 Q1 ∧ Am (F_X7_brackets x1 x2 P) r P1 ∧ Am (F_X8_brackets x1 x2 Q) r Q1 := by
  obtain ⟨hB, ⟨hS, hD, hG, hW, hF⟩, -⟩ := id h
  rcases d_isSeg hG hB x1 with ⟨⟨g0, g1⟩, g2, g3, g4, g5⟩ | ⟨-, g4, g5⟩
  · by_cases h1 : x2 < 0
    · refine ⟨-1, P, Q, h, fun p hp => ?_, fun p hp => ?_⟩
      · unfold F_X7_brackets
        exact g4 _ (br_t h1 hp)
      · unfold F_X8_brackets
        exact fun v _ => g5 _ (br_f (by decide) (br_t h1 hp))
    by_cases h2 : (x2 / 10) - (x2 / 10) / 10 * 10 < x2 / 100
    · refine ⟨-1, P, Q, h, fun p hp => ?_, fun p hp => ?_⟩
      · unfold F_X7_brackets
        exact g4 _ (br_f h1 (fun v e => by rw [e]; exact br_t h2 hp))
      · unfold F_X8_brackets
        exact fun v e => by rw [e]; exact g5 _ (br_f (by decide) (br_f h1 (br_t h2 hp)))
    by_cases h3 : x2 - x2 / 10 * 10 < (x2 / 10) - (x2 / 10) / 10 * 10
    · refine ⟨-1, P, Q, h, fun p hp => ?_, fun p hp => ?_⟩
      · unfold F_X7_brackets
        exact g4 _ (br_f h1 (fun v e => by rw [e]; exact br_f h2 (br_t h3 hp)))
      · unfold F_X8_brackets
        exact fun v e => by rw [e]; exact g5 _ (br_f (by decide) (br_f h1 (br_f h2 (br_t h3 hp))))
    by_cases h4 : x2 - x2 / 10 * 10 < 8
    · obtain ⟨-, -, -, -, k5, k6, k7, -⟩ := id g3
      have hd := dv_pos (x := x2) (by lia)
      have e1 : x2 / 100 ≤ (x2 / 10) - (x2 / 10) / 10 * 10 := by
        revert h2; generalize (x2 / 10) - (x2 / 10) / 10 * 10 = b; generalize x2 / 100 = a; intro h2; lia
      have e2 : (x2 / 10) - (x2 / 10) / 10 * 10 ≤ x2 - x2 / 10 * 10 := by
        revert h3; generalize (x2 / 10) - (x2 / 10) / 10 * 10 = b; generalize x2 - x2 / 10 * 10 = a; intro h3; lia
      have e3 : ¬ 7 < x2 - x2 / 10 * 10 := by
        revert h4; generalize x2 - x2 / 10 * 10 = a; intro h4; lia
      refine ⟨((100 * (Q 23 0 (ix (112 + x1)))) + (10 * (Q 23 0 (ix (128 + x1))))) + (Q 23 0 (ix (144 + x1))), _, _, RR_b h g0 g2 g3 hd e1 e2 h4, fun p hp => ?_, fun p hp => ?_⟩
      · unfold F_X7_brackets
        refine g4 _ (br_f h1 (fun v e => ?_))
        subst e
        refine br_f h2 (br_f h3 (br_t h4 (fun v7 e7 P91 f1 P97 f2 P103 f3 => ?_)))
        subst e7 f1 f2 f3
        (try dsimp only)
        rw [k5, k6, k7]
        exact hp
      · unfold F_X8_brackets
        intro v e
        subst e
        refine g5 _ (br_f (by decide) (br_f h1 (br_f h2 (br_f h3 (br_f e3 ⟨⟨by lia, by lia⟩, ⟨by lia, by lia⟩, ⟨by lia, by lia⟩, fun v6 e6 => ⟨⟨by lia, by lia⟩, fun Q102 f1 => ⟨⟨by lia, by lia⟩, fun Q114 f2 => ⟨⟨by lia, by lia⟩, fun Q126 f3 => ?_⟩⟩⟩⟩)))))
        subst e6 f1 f2 f3
        exact hp
    · refine ⟨-1, P, Q, h, fun p hp => ?_, fun p hp => ?_⟩
      · unfold F_X7_brackets
        exact g4 _ (br_f h1 (fun v e => by rw [e]; exact br_f h2 (br_f h3 (br_f h4 hp))))
      · unfold F_X8_brackets
        exact fun v e => by rw [e]; exact g5 _ (br_f (by decide) (br_f h1 (br_f h2 (br_f h3 (br_t (by revert h4; generalize x2 - x2 / 10 * 10 = c; intro h4; lia) hp)))))
  · refine ⟨-1, P, Q, h, fun p hp => ?_, fun p hp => ?_⟩
    · unfold F_X7_brackets
      exact g4 _ hp
    · unfold F_X8_brackets
      exact fun v _ => g5 _ (br_t rfl hp)
theorem RR_dir {P Q : VP} {n x1 : Int32} (h : RR P Q) (hN : Q 23 0 (ix 0) = n) (hn : 1 ≤ n ∧ n < 8) (hx : 0 ≤ x1 ∧ x1 < n) : RR (vup (vup (vup P 3 0 (ix n) x1) 4 0 (ix n) 0) 2 0 0 (n + 1)) (vup (vup (vup Q 23 0 (ix (16 + n)) x1) 23 0 (ix (24 + n)) 0) 23 0 (ix 0) (n + 1)) := by
  obtain ⟨e0, e5, e3, eR, eD, ⟨a1, a2⟩, ⟨b1, b2⟩, c, d, f, z⟩ := h.2.1.2.1
  have zz : RQ 23 Q := z
  clear z
  rw [hN] at c f
  obtain ⟨r16, r16', r16'', r16l, r16h⟩ := n_16 hn
  obtain ⟨r24, r24', r24'', r24l, r24h⟩ := n_24 hn
  obtain ⟨s3, s3', -, n0, -⟩ := n_s3 hn
  have hq : ∀ a : Int32, NN n a → vup (vup (vup Q 23 0 (ix (16 + n)) x1) 23 0 (ix (24 + n)) 0) 23 0 (ix 0) (n + 1) 23 0 (ix a) = Q 23 0 (ix a) := fun a ha => by
    rw [qup_ne (by decide) ha.1 ha.2.1, qup_ne r24 ha.1 ha.2.2.2, qup_ne r16 ha.1 ha.2.2.1]
  have q0 : vup (vup (vup Q 23 0 (ix (16 + n)) x1) 23 0 (ix (24 + n)) 0) 23 0 (ix 0) (n + 1) 23 0 (ix 0) = n + 1 := vup_eq _ _ _ _ _
  have q16 : vup (vup (vup Q 23 0 (ix (16 + n)) x1) 23 0 (ix (24 + n)) 0) 23 0 (ix 0) (n + 1) 23 0 (ix (16 + n)) = x1 := by
    rw [qup_ne (by decide) r16 r16', qup_ne r24 r16 r16'', vup_eq]
  have q24 : vup (vup (vup Q 23 0 (ix (16 + n)) x1) 23 0 (ix (24 + n)) 0) 23 0 (ix 0) (n + 1) 23 0 (ix (24 + n)) = 0 := by
    rw [qup_ne (by decide) r24 r24', vup_eq]
  have p3 : ∀ j, vup (vup (vup P 3 0 (ix n) x1) 4 0 (ix n) 0) 2 0 0 (n + 1) 3 0 j = vup P 3 0 (ix n) x1 3 0 j := fun j => by
    rw [kup_ne (by decide), kup_ne (by decide)]
  have p4 : ∀ j, vup (vup (vup P 3 0 (ix n) x1) 4 0 (ix n) 0) 2 0 0 (n + 1) 4 0 j = vup (vup P 3 0 (ix n) x1) 4 0 (ix n) 0 4 0 j := fun j => kup_ne (by decide)
  refine dir_up h (PU_s (PU_s (PU_s (PU_r _ _) (by decide)) (by decide)) (by decide)) (QU_s (QU_s (QU_s (QU_r _ _) r16 (Or.inr (Or.inr ⟨r16l, r16h⟩))) r24 (Or.inr (Or.inr ⟨r24l, r24h⟩))) (by decide) (by decide)) ⟨?_, ?_, ?_, fun j j0 j1 => ?_, fun j j0 j1 => ⟨?_, ?_⟩, ?_⟩ ?_
  · rw [q0]; exact vup_eq _ _ _ _ _
  · rw [vup_ne (by omega), kup_ne (by decide), kup_ne (by decide), hq 1 (n_1 hn)]; exact e5
  · rw [vup_ne (by omega), kup_ne (by decide), kup_ne (by decide), hq 2 (n_2 hn)]; exact e3
  · rw [kup_ne (by decide), kup_ne (by decide), kup_ne (by decide), hq (7 + j) (n_7j hn j0 j1)]; exact eR j j0 j1
  · rw [p3]
    by_cases q : j = n
    · rw [q, q16, vup_eq]
    · rw [qup_ne n0 j0 q, hq (16 + j) (n_16j hn j0 j1 q)]; exact (eD j j0 j1).1
  · rw [p4]
    by_cases q : j = n
    · rw [q, q24, vup_eq]
    · rw [qup_ne n0 j0 q, kup_ne (by decide), hq (24 + j) (n_24j hn j0 j1 q)]; exact (eD j j0 j1).2
  · refine ⟨by rw [q0]; exact s3, by rw [hq 2 (n_2 hn)]; exact ⟨b1, b2⟩, fun x h1 h2 => ?_, fun x h1 h2 => ?_, fun x h1 h2 => ?_, RQ_eq zz (fun a a0 a1 => ?_)⟩
    · rw [q0] at h2
      by_cases q : x = n
      · rw [q, q16]; exact hx
      · have h3 := n_s1 h2 q hn
        rw [hq (16 + x) (n_16j hn (z_1 h1) (z_8 h3 (by rw [← hN]; exact a2)) q)]; exact c x h1 h3
    · by_cases q : x = n
      · rw [q, q24]; exact ⟨by decide, by decide⟩
      · rw [hq (24 + x) (n_24j hn h1 h2 q)]; exact d x h1 h2
    · rw [q0] at h1
      obtain ⟨g1, g2, g3⟩ := n_s2 h1 hn
      rw [hq (24 + x) (n_24j hn g3 h2 g2)]; exact f x g1 h2
    · by_cases q : a = 24 + n
      · rw [q, q24, f n (z_le n) hn.2]
      · exact hq a (n_q hn a0 a1 q)
  · rw [q0, hN]; exact s3'
theorem z_78 {n : Int32} (h : n ≤ 8) (h' : ¬ n = 8) : n < 8 := by lia
theorem z_81 {n : Int32} (h : n = 8) : ¬ n < 0 ∧ ¬ n < 8 := by lia
theorem D_directory {P Q : VP} (h : RR P Q) (x1 : Int32) : ∃ r P1 Q1, RR P1 Q1 ∧ Am (F_X7_directory x1 P) r P1 ∧ Am (F_X8_directory x1 Q) r Q1 := by
  obtain ⟨hB, ⟨hS, hD, hG, hW, hF⟩, -⟩ := id h
  rcases d_isDir hD x1 with ⟨g1, g2, g3⟩ | ⟨g1, g2, g3⟩
  · obtain ⟨e0, -, -, -, -, ⟨a1, a2⟩, -⟩ := id hD
    by_cases h8 : Q 23 0 (ix 0) = 8
    · refine ⟨-3, P, Q, h, fun p hp => ?_, fun p hp => ?_⟩
      · unfold F_X7_directory F_X6_makeDirectory
        refine g2 _ (br_f (by decide) ?_)
        rw [e0]
        exact br_f (z_81 h8).1 (br_f (z_81 h8).2 hp)
      · unfold F_X8_directory
        exact g3 _ (br_f (by decide) ⟨⟨by decide, by decide⟩, br_t h8 hp⟩)
    · have hn : 1 ≤ Q 23 0 (ix 0) ∧ Q 23 0 (ix 0) < 8 := ⟨a1, z_78 a2 h8⟩
      obtain ⟨n, hN⟩ : ∃ n, Q 23 0 (ix 0) = n := ⟨_, rfl⟩
      rw [hN] at e0 g1 hn h8
      obtain ⟨-, -, i1, i2, i3, i4, i5, i6⟩ := n_s3 hn
      refine ⟨n, vup (vup (vup P 3 0 (ix n) x1) 4 0 (ix n) 0) 2 0 0 (n + 1), vup (vup (vup Q 23 0 (ix (16 + n)) x1) 23 0 (ix (24 + n)) 0) 23 0 (ix 0) (n + 1), RR_dir h hN hn g1, fun p hp => ?_, fun p hp => ?_⟩
      · unfold F_X7_directory F_X6_makeDirectory
        refine g2 _ (br_f (by decide) ?_)
        rw [e0]
        refine br_f i1 (br_t hn.2 ⟨⟨i2, hn.2⟩, fun P24 f1 => ⟨⟨i2, hn.2⟩, fun P31 f2 P39 f3 => ?_⟩⟩)
        subst f1 f2
        rw [kup_ne (by decide), kup_ne (by decide), e0] at f3
        subst f3
        exact hp
      · unfold F_X8_directory
        rw [hN]
        refine g3 _ (br_f (by decide) ⟨⟨by decide, by decide⟩, br_f h8 ⟨⟨i3, i4⟩, fun Q35 f1 => ⟨⟨i5, i6⟩, fun Q45 f2 => ⟨⟨by decide, by decide⟩, fun Q54 f3 => ?_⟩⟩⟩⟩)
        subst f1 f2 f3
        exact hp
  · refine ⟨-1, P, Q, h, fun p hp => ?_, fun p hp => ?_⟩
    · unfold F_X7_directory
      exact g2 _ (br_t rfl hp)
    · unfold F_X8_directory
      exact g3 _ (br_t rfl hp)
theorem RR_rule0 {P Q : VP} (h : RR P Q) : RR (vup P 2 0 3 0) (vup Q 23 0 (ix 2) 0) := by
  obtain ⟨e0, e5, e3, eR, eD, ⟨a1, a2⟩, ⟨b1, b2⟩, c, d, f, z⟩ := h.2.1.2.1
  have zz : RQ 23 Q := z
  clear z
  have hq : ∀ a : Int32, 0 ≤ a → ¬ a = 2 → vup Q 23 0 (ix 2) 0 23 0 (ix a) = Q 23 0 (ix a) := fun a i0 i1 => qup_ne (by decide) i0 i1
  have hqc : ∀ c j : Int32, 0 ≤ j → j < 8 → 7 ≤ c ∧ c ≤ 24 → vup Q 23 0 (ix 2) 0 23 0 (ix (c + j)) = Q 23 0 (ix (c + j)) := fun c j j0 j1 hc => hq _ (z_n2 j0 j1 hc).1 (z_n2 j0 j1 hc).2
  have q0 := hq 0 (by decide) (by decide)
  refine dir_up h (PU_s (PU_r _ _) (by decide)) (QU_s (QU_r _ _) (by decide) (by decide)) ⟨?_, ?_, ?_, fun j j0 j1 => ?_, fun j j0 j1 => ⟨?_, ?_⟩, ?_⟩ ?_
  · rw [vup_ne (by omega), q0]; exact e0
  · rw [vup_ne (by omega), hq 1 (by decide) (by decide)]; exact e5
  · rw [vup_eq, vup_eq]
  · rw [kup_ne (by decide), hqc 7 j j0 (z_48 j1) (by decide)]; exact eR j j0 j1
  · rw [kup_ne (by decide), hqc 16 j j0 j1 (by decide)]; exact (eD j j0 j1).1
  · rw [kup_ne (by decide), hqc 24 j j0 j1 (by decide)]; exact (eD j j0 j1).2
  · refine ⟨by rw [q0]; exact ⟨a1, a2⟩, by rw [vup_eq]; exact ⟨by decide, by decide⟩, fun x h1 h2 => ?_, fun x h1 h2 => ?_, fun x h1 h2 => ?_, RQ_eq zz (fun a a0 a1 => hq a (z_q2 a0 a1).1 (z_q2 a0 a1).2)⟩
    · rw [q0] at h2
      rw [hqc 16 x (z_1 h1) (z_8 h2 a2) (by decide)]; exact c x h1 h2
    · rw [hqc 24 x h1 h2 (by decide)]; exact d x h1 h2
    · rw [q0] at h1
      rw [hqc 24 x (z_n a1 h1) h2 (by decide)]; exact f x h1 h2
  · rw [q0]; exact z_le _
theorem RR_rule {P Q : VP} {n x1 : Int32} (h : RR P Q) (hN : Q 23 0 (ix 2) = n) (hn : 0 ≤ n ∧ n < 4) : RR (vup (vup P 5 0 (ix n) x1) 2 0 3 (n + 1)) (vup (vup Q 23 0 (ix (7 + n)) x1) 23 0 (ix 2) (n + 1)) := by
  obtain ⟨e0, e5, e3, eR, eD, ⟨a1, a2⟩, ⟨b1, b2⟩, c, d, f, z⟩ := h.2.1.2.1
  have zz : RQ 23 Q := z
  clear z
  obtain ⟨i1, i2, i3, i4, i5, i6⟩ := n_r hn
  have hq : ∀ a : Int32, MM n a → vup (vup Q 23 0 (ix (7 + n)) x1) 23 0 (ix 2) (n + 1) 23 0 (ix a) = Q 23 0 (ix a) := fun a ha => by
    rw [qup_ne (by decide) ha.1 ha.2.1, qup_ne i1 ha.1 ha.2.2]
  have q2 : vup (vup Q 23 0 (ix (7 + n)) x1) 23 0 (ix 2) (n + 1) 23 0 (ix 2) = n + 1 := vup_eq _ _ _ _ _
  have q7 : vup (vup Q 23 0 (ix (7 + n)) x1) 23 0 (ix 2) (n + 1) 23 0 (ix (7 + n)) = x1 := by
    rw [qup_ne (by decide) i1 i3, vup_eq]
  have q0 := hq 0 (m_01 hn (Or.inl rfl))
  refine dir_up h (PU_s (PU_s (PU_r _ _) (by decide)) (by decide)) (QU_s (QU_s (QU_r _ _) i1 (Or.inr (Or.inl i4))) (by decide) (by decide)) ⟨?_, ?_, ?_, fun j j0 j1 => ?_, fun j j0 j1 => ⟨?_, ?_⟩, ?_⟩ ?_
  · rw [vup_ne (by omega), kup_ne (by decide), q0]; exact e0
  · rw [vup_ne (by omega), kup_ne (by decide), hq 1 (m_01 hn (Or.inr rfl))]; exact e5
  · rw [vup_eq, q2]
  · rw [kup_ne (by decide)]
    by_cases q : j = n
    · rw [q, q7, vup_eq]
    · rw [qup_ne hn.1 j0 q, hq (7 + j) (m_7j hn j0 j1 q)]; exact eR j j0 j1
  · rw [kup_ne (by decide), kup_ne (by decide), hq (16 + j) (m_16j hn j0 j1)]; exact (eD j j0 j1).1
  · rw [kup_ne (by decide), kup_ne (by decide), hq (24 + j) (m_24j hn j0 j1)]; exact (eD j j0 j1).2
  · refine ⟨by rw [q0]; exact ⟨a1, a2⟩, by rw [q2]; exact i5, fun x h1 h2 => ?_, fun x h1 h2 => ?_, fun x h1 h2 => ?_, RQ_eq zz (fun a a0 a1 => hq a (m_q hn a0 a1))⟩
    · rw [q0] at h2
      rw [hq (16 + x) (m_16j hn (z_1 h1) (z_8 h2 a2))]; exact c x h1 h2
    · rw [hq (24 + x) (m_24j hn h1 h2)]; exact d x h1 h2
    · rw [q0] at h1
      rw [hq (24 + x) (m_24j hn (z_n a1 h1) h2)]; exact f x h1 h2
  · rw [q0]; exact z_le _
theorem D_rule {P Q : VP} (h : RR P Q) (x1 : Int32) : ∃ r P1 Q1, RR P1 Q1 ∧ Am (F_X7_rule x1 P) r P1 ∧ Am (F_X8_rule x1 Q) r Q1 := by
  have hD := h.2.1.2.1
  obtain ⟨e0, e5, e3, -, -, -, ⟨b1, b2⟩, -⟩ := id hD
  by_cases hx : x1 = -1
  · refine ⟨0, vup P 2 0 3 0, vup Q 23 0 (ix 2) 0, RR_rule0 h, fun p hp => ?_, fun p hp => ?_⟩
    · unfold F_X7_rule
      exact br_t hx (fun P15 e => by rw [e]; exact hp)
    · unfold F_X8_rule
      exact br_t hx ⟨⟨by decide, by decide⟩, fun Q11 e => by rw [e]; exact hp⟩
  · rcases d_isDir hD x1 with ⟨g1, g2, g3⟩ | ⟨g1, g2, g3⟩
    · by_cases h4 : Q 23 0 (ix 2) = 4
      · refine ⟨-3, P, Q, h, fun p hp => ?_, fun p hp => ?_⟩
        · unfold F_X7_rule F_X6_addRule
          refine br_f hx (g2 _ (br_f (by decide) ?_))
          rw [e3]
          exact br_f (z_41 h4).1 (br_f (z_41 h4).2 hp)
        · unfold F_X8_rule
          exact br_f hx (g3 _ (br_f (by decide) ⟨⟨by decide, by decide⟩, br_t h4 hp⟩))
      · have hn : 0 ≤ Q 23 0 (ix 2) ∧ Q 23 0 (ix 2) < 4 := ⟨b1, z_34 b2 h4⟩
        obtain ⟨n, hN⟩ : ∃ n, Q 23 0 (ix 2) = n := ⟨_, rfl⟩
        rw [hN] at e3 hn h4
        obtain ⟨i1, i2, i3, i4, i5, i6⟩ := n_r hn
        refine ⟨n + 1, vup (vup P 5 0 (ix n) x1) 2 0 3 (n + 1), vup (vup Q 23 0 (ix (7 + n)) x1) 23 0 (ix 2) (n + 1), RR_rule h hN hn, fun p hp => ?_, fun p hp => ?_⟩
        · unfold F_X7_rule F_X6_addRule
          refine br_f hx (g2 _ (br_f (by decide) ?_))
          rw [e3]
          refine br_f i6 (br_t hn.2 ⟨⟨hn.1, hn.2⟩, fun P31 f2 P39 f3 => ?_⟩)
          subst f2
          rw [kup_ne (by decide), e3] at f3
          subst f3
          (try dsimp only)
          rw [vup_eq]
          exact hp
        · unfold F_X8_rule
          rw [hN]
          refine br_f hx (g3 _ (br_f (by decide) ⟨⟨by decide, by decide⟩, br_f h4 ⟨⟨i1, i2⟩, fun Q48 f1 => ⟨⟨by decide, by decide⟩, fun Q57 f2 => ?_⟩⟩⟩))
          subst f1 f2
          exact hp
    · refine ⟨-1, P, Q, h, fun p hp => ?_, fun p hp => ?_⟩
      · unfold F_X7_rule
        exact br_f hx (g2 _ (br_t rfl hp))
      · unfold F_X8_rule
        exact br_f hx (g3 _ (br_t rfl hp))
