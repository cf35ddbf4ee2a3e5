theorem dv_pos {x : Int32} (h : 0 ≤ x) : 0 ≤ x / 100 := by
  rw [Int32.le_iff_toInt_le] at h ⊢
  rw [Int32.toInt_div_of_ne_right _ _ (by decide)]
  exact Int.tdiv_nonneg h (by decide)
theorem RR_b {P Q : VP} {s a b c : Int32} (h : RR P Q) (hs : 0 ≤ s ∧ s < 16) (hy : P 7 (16 * 0 + ix s) 0 = 1) (hH : RH P Q 23 (16 * 0 + ix s) s) (h1 : 0 ≤ a) (h2 : a ≤ b) (h3 : b ≤ c) (h4 : c < 8) : RR (vup (vup (vup P 7 (16 * 0 + ix s) 5 a) 7 (16 * 0 + ix s) 6 b) 7 (16 * 0 + ix s) 7 c) (vup (vup (vup Q 23 0 (ix (112 + s)) a) 23 0 (ix (128 + s)) b) 23 0 (ix (144 + s)) c) := by
  have hh := (h.2.1.2.2.1 s hs.1 hs.2).1
  have hp : ∀ k x j, ¬ (k = 7 ∧ x = 16 * 0 + ix s ∧ 5 ≤ j ∧ j ≤ 7) → vup (vup (vup P 7 (16 * 0 + ix s) 5 a) 7 (16 * 0 + ix s) 6 b) 7 (16 * 0 + ix s) 7 c k x j = P k x j := fun k x j hn => by
    rw [vup_ne (by omega), vup_ne (by omega), vup_ne (by omega)]
  have hq : ∀ d : Int32, 0 ≤ d → ¬ d = 112 + s → ¬ d = 128 + s → ¬ d = 144 + s → vup (vup (vup Q 23 0 (ix (112 + s)) a) 23 0 (ix (128 + s)) b) 23 0 (ix (144 + s)) c 23 0 (ix d) = Q 23 0 (ix d) := fun d d0 e1 e2 e3 => by
    rw [qup_ne (by lia) d0 e3, qup_ne (by lia) d0 e2, qup_ne (by lia) d0 e1]
  have p5 : vup (vup (vup P 7 (16 * 0 + ix s) 5 a) 7 (16 * 0 + ix s) 6 b) 7 (16 * 0 + ix s) 7 c 7 (16 * 0 + ix s) 5 = a := by
    rw [vup_ne (by omega), vup_ne (by omega), vup_eq]
  have p6 : vup (vup (vup P 7 (16 * 0 + ix s) 5 a) 7 (16 * 0 + ix s) 6 b) 7 (16 * 0 + ix s) 7 c 7 (16 * 0 + ix s) 6 = b := by
    rw [vup_ne (by omega), vup_eq]
  have p7 : vup (vup (vup P 7 (16 * 0 + ix s) 5 a) 7 (16 * 0 + ix s) 6 b) 7 (16 * 0 + ix s) 7 c 7 (16 * 0 + ix s) 7 = c := vup_eq _ _ _ _ _
  have q5 : vup (vup (vup Q 23 0 (ix (112 + s)) a) 23 0 (ix (128 + s)) b) 23 0 (ix (144 + s)) c 23 0 (ix (112 + s)) = a := by
    rw [qup_ne (by lia) (by lia) (by lia), qup_ne (by lia) (by lia) (by lia), vup_eq]
  have q6 : vup (vup (vup Q 23 0 (ix (112 + s)) a) 23 0 (ix (128 + s)) b) 23 0 (ix (144 + s)) c 23 0 (ix (128 + s)) = b := by
    rw [qup_ne (by lia) (by lia) (by lia), vup_eq]
  have q7 : vup (vup (vup Q 23 0 (ix (112 + s)) a) 23 0 (ix (128 + s)) b) 23 0 (ix (144 + s)) c 23 0 (ix (144 + s)) = c := vup_eq _ _ _ _ _
  have hB := BI_h (y := 16 * 0 + ix s) (v := c) (j := 7) (BI_h (y := 16 * 0 + ix s) (v := b) (j := 6) (BI_h (y := 16 * 0 + ix s) (v := a) (j := 5) h.1 (by decide) (fun q => absurd q (by decide)) (fun q => absurd q (by decide))) (by decide) (fun q => absurd q (by decide)) (fun q => absurd q (by decide))) (by decide) (fun q => absurd q (by decide)) (fun q => absurd q (by decide))
  refine head_up h hs hy (fun k x j hn => hp k x j (by omega)) (QU_s (QU_s (QU_s (QU_r _ _) (by lia) (SH_c (m := 7) hs (by decide) (by decide))) (by lia) (SH_c (m := 8) hs (by decide) (by decide))) (by lia) (SH_c (m := 9) hs (by decide) (by decide))) hB ?_ (fun _ => ?_)
  · rw [hp _ _ _ (by omega), hq _ (by lia) (by lia) (by lia) (by lia)]
    exact hh
  · obtain ⟨k1, k2, k3, k4, k5, k6, k7, k8, k9, ⟨k10, k11⟩, ⟨k12, k13⟩, k14, k15, k16, k17⟩ := hH
    unfold RH
    rw [hp 7 _ 1 (by omega), hp 7 _ 2 (by omega), hp 7 _ 3 (by omega), hp 7 _ 4 (by omega), p5, p6, p7, hp 7 _ 8 (by omega), hp 7 _ 9 (by omega), q5, q6, q7, hq (48 + s) (by lia) (by lia) (by lia) (by lia), hq (64 + s) (by lia) (by lia) (by lia) (by lia), hq (80 + s) (by lia) (by lia) (by lia) (by lia), hq (96 + s) (by lia) (by lia) (by lia) (by lia), hq (160 + s) (by lia) (by lia) (by lia) (by lia), hq (176 + s) (by lia) (by lia) (by lia) (by lia), hq 0 (by decide) (by lia) (by lia) (by lia)]
    exact ⟨k1, k2, k3, k4, rfl, rfl, rfl, k8, k9, ⟨k10, k11⟩, ⟨k12, k13⟩, h1, h2, h3, h4⟩
theorem D_brackets {P Q : VP} (h : RR P Q) (x1 x2 : Int32) : ∃ r P1 Q1, RR P1 Q1 ∧ Am (F_X7_brackets x1 x2 P) r P1 ∧ Am (F_X8_brackets x1 x2 Q) r Q1 := by
  obtain ⟨hB, ⟨hS, hD, hG, hW, hF⟩, -⟩ := id h
  rcases d_isSeg hG hB x1 with ⟨⟨g0, g1⟩, g2, g3, g4, g5⟩ | ⟨-, g4, g5⟩
  · by_cases h1 : x2 < 0
    · refine ⟨-1, P, Q, h, fun p hp => ?_, fun p hp => ?_⟩
      · unfold F_X7_brackets
        exact g4 _ (br_t h1 hp)
      · unfold F_X8_brackets
        exact fun v _ => g5 _ (br_f (by decide) (br_t h1 hp))
    by_cases h2 : (x2 / 10) - (x2 / 10) / 10 * 10 < x2 / 100
    · refine ⟨-1, P, Q, h, fun p hp => ?_, fun p hp => ?_⟩
      · unfold F_X7_brackets
        exact g4 _ (br_f h1 (fun v e => by rw [e]; exact br_t h2 hp))
      · unfold F_X8_brackets
        exact fun v e => by rw [e]; exact g5 _ (br_f (by decide) (br_f h1 (br_t h2 hp)))
    by_cases h3 : x2 - x2 / 10 * 10 < (x2 / 10) - (x2 / 10) / 10 * 10
    · refine ⟨-1, P, Q, h, fun p hp => ?_, fun p hp => ?_⟩
      · unfold F_X7_brackets
        exact g4 _ (br_f h1 (fun v e => by rw [e]; exact br_f h2 (br_t h3 hp)))
      · unfold F_X8_brackets
        exact fun v e => by rw [e]; exact g5 _ (br_f (by decide) (br_f h1 (br_f h2 (br_t h3 hp))))
    by_cases h4 : x2 - x2 / 10 * 10 < 8
    · obtain ⟨-, -, -, -, k5, k6, k7, -⟩ := id g3
      have hd := dv_pos (x := x2) (by lia)
      have e1 : x2 / 100 ≤ (x2 / 10) - (x2 / 10) / 10 * 10 := by
        revert h2; generalize (x2 / 10) - (x2 / 10) / 10 * 10 = b; generalize x2 / 100 = a; intro h2; lia
      have e2 : (x2 / 10) - (x2 / 10) / 10 * 10 ≤ x2 - x2 / 10 * 10 := by
        revert h3; generalize (x2 / 10) - (x2 / 10) / 10 * 10 = b; generalize x2 - x2 / 10 * 10 = a; intro h3; lia
      have e3 : ¬ 7 < x2 - x2 / 10 * 10 := by
        revert h4; generalize x2 - x2 / 10 * 10 = a; intro h4; lia
      refine ⟨((100 * (Q 23 0 (ix (112 + x1)))) + (10 * (Q 23 0 (ix (128 + x1))))) + (Q 23 0 (ix (144 + x1))), _, _, RR_b h g0 g2 g3 hd e1 e2 h4, fun p hp => ?_, fun p hp => ?_⟩
      · unfold F_X7_brackets
        refine g4 _ (br_f h1 (fun v e => ?_))
        subst e
        refine br_f h2 (br_f h3 (br_t h4 (fun v7 e7 P91 f1 P97 f2 P103 f3 => ?_)))
        subst e7 f1 f2 f3
        (try dsimp only)
        rw [k5, k6, k7]
        exact hp
      · unfold F_X8_brackets
        intro v e
        subst e
        refine g5 _ (br_f (by decide) (br_f h1 (br_f h2 (br_f h3 (br_f e3 ⟨⟨by lia, by lia⟩, ⟨by lia, by lia⟩, ⟨by lia, by lia⟩, fun v6 e6 => ⟨⟨by lia, by lia⟩, fun Q102 f1 => ⟨⟨by lia, by lia⟩, fun Q114 f2 => ⟨⟨by lia, by lia⟩, fun Q126 f3 => ?_⟩⟩⟩⟩)))))
        subst e6 f1 f2 f3
        exact hp
    · refine ⟨-1, P, Q, h, fun p hp => ?_, fun p hp => ?_⟩
      · unfold F_X7_brackets
        exact g4 _ (br_f h1 (fun v e => by rw [e]; exact br_f h2 (br_f h3 (br_f h4 hp))))
      · unfold F_X8_brackets
        exact fun v e => by rw [e]; exact g5 _ (br_f (by decide) (br_f h1 (br_f h2 (br_f h3 (br_t (by revert h4; generalize x2 - x2 / 10 * 10 = c; intro h4; lia) hp)))))
  · refine ⟨-1, P, Q, h, fun p hp => ?_, fun p hp => ?_⟩
    · unfold F_X7_brackets
      exact g4 _ hp
    · unfold F_X8_brackets
      exact fun v _ => g5 _ (br_t rfl hp)
theorem D_directory {P Q : VP} (h : RR P Q) (x1 : Int32) : ∃ r P1 Q1, RR P1 Q1 ∧ Am (F_X7_directory x1 P) r P1 ∧ Am (F_X8_directory x1 Q) r Q1 := by
  obtain ⟨hB, ⟨hS, hD, hG, hW, hF⟩, -⟩ := id h
  rcases d_isDir hD x1 with ⟨g1, g2, g3⟩ | ⟨g1, g2, g3⟩
  · obtain ⟨e0, e5, e3, eR, eD, ⟨a1, a2⟩, ⟨b1, b2⟩, c, d, f, z⟩ := id hD
    by_cases h8 : Q 23 0 (ix 0) = 8
    · refine ⟨-3, P, Q, h, fun p hp => ?_, fun p hp => ?_⟩
      · unfold F_X7_directory F_X6_makeDirectory
        refine g2 _ (br_f (by decide) ?_)
        rw [e0]
        exact br_f (by lia) (br_f (by lia) hp)
      · unfold F_X8_directory
        exact g3 _ (br_f (by decide) ⟨⟨by decide, by decide⟩, br_t h8 hp⟩)
    · have hn : 1 ≤ Q 23 0 (ix 0) ∧ Q 23 0 (ix 0) < 8 := ⟨a1, by lia⟩
      obtain ⟨n, hN⟩ : ∃ n, Q 23 0 (ix 0) = n := ⟨_, rfl⟩
      rw [hN] at e0 g1 c f hn h8 a1 a2
      refine ⟨n, vup (vup (vup P 3 0 (ix n) x1) 4 0 (ix n) 0) 2 0 0 (n + 1), vup (vup (vup Q 23 0 (ix (16 + n)) x1) 23 0 (ix (24 + n)) 0) 23 0 (ix 0) (n + 1), ?_, fun p hp => ?_, fun p hp => ?_⟩
      · have hq : ∀ a : Int32, 0 ≤ a → ¬ a = 0 → ¬ a = 16 + n → ¬ a = 24 + n → vup (vup (vup Q 23 0 (ix (16 + n)) x1) 23 0 (ix (24 + n)) 0) 23 0 (ix 0) (n + 1) 23 0 (ix a) = Q 23 0 (ix a) := fun a i0 i1 i2 i3 => by
          rw [qup_ne (by decide) i0 i1, qup_ne (by lia) i0 i3, qup_ne (by lia) i0 i2]
        have q0 : vup (vup (vup Q 23 0 (ix (16 + n)) x1) 23 0 (ix (24 + n)) 0) 23 0 (ix 0) (n + 1) 23 0 (ix 0) = n + 1 := vup_eq _ _ _ _ _
        have q16 : vup (vup (vup Q 23 0 (ix (16 + n)) x1) 23 0 (ix (24 + n)) 0) 23 0 (ix 0) (n + 1) 23 0 (ix (16 + n)) = x1 := by
          rw [qup_ne (by decide) (by lia) (by lia), qup_ne (by lia) (by lia) (by lia), vup_eq]
        have q24 : vup (vup (vup Q 23 0 (ix (16 + n)) x1) 23 0 (ix (24 + n)) 0) 23 0 (ix 0) (n + 1) 23 0 (ix (24 + n)) = 0 := by
          rw [qup_ne (by decide) (by lia) (by lia), vup_eq]
        have p3 : ∀ j, vup (vup (vup P 3 0 (ix n) x1) 4 0 (ix n) 0) 2 0 0 (n + 1) 3 0 j = vup P 3 0 (ix n) x1 3 0 j := fun j => by
          rw [kup_ne (by decide), kup_ne (by decide)]
        have p4 : ∀ j, vup (vup (vup P 3 0 (ix n) x1) 4 0 (ix n) 0) 2 0 0 (n + 1) 4 0 j = vup (vup P 3 0 (ix n) x1) 4 0 (ix n) 0 4 0 j := fun j => kup_ne (by decide)
        refine dir_up h (PU_s (PU_s (PU_s (PU_r _ _) (by decide)) (by decide)) (by decide)) (QU_s (QU_s (QU_s (QU_r _ _) (by lia) (by lia)) (by lia) (by lia)) (by decide) (by decide)) ⟨?_, ?_, ?_, fun j j0 j1 => ?_, fun j j0 j1 => ⟨?_, ?_⟩, ?_⟩ ?_
        · rw [q0]; exact vup_eq _ _ _ _ _
        · rw [vup_ne (by omega), kup_ne (by decide), kup_ne (by decide), hq 1 (by decide) (by decide) (by lia) (by lia)]; exact e5
        · rw [vup_ne (by omega), kup_ne (by decide), kup_ne (by decide), hq 2 (by decide) (by decide) (by lia) (by lia)]; exact e3
        · rw [kup_ne (by decide), kup_ne (by decide), kup_ne (by decide), hq (7 + j) (by lia) (by lia) (by lia) (by lia)]; exact eR j j0 j1
        · rw [p3]
          by_cases q : j = n
          · rw [q, q16, vup_eq]
          · rw [qup_ne (by lia) j0 q, hq (16 + j) (by lia) (by lia) (by lia) (by lia)]; exact (eD j j0 j1).1
        · rw [p4]
          by_cases q : j = n
          · rw [q, q24, vup_eq]
          · rw [qup_ne (by lia) j0 q, kup_ne (by decide), hq (24 + j) (by lia) (by lia) (by lia) (by lia)]; exact (eD j j0 j1).2
        · refine ⟨by rw [q0]; exact ⟨by lia, by lia⟩, by rw [hq 2 (by decide) (by decide) (by lia) (by lia)]; exact ⟨b1, b2⟩, fun x h1 h2 => ?_, fun x h1 h2 => ?_, fun x h1 h2 => ?_, by rw [hq 24 (by decide) (by decide) (by lia) (by lia)]; exact z⟩
          · rw [q0] at h2
            by_cases q : x = n
            · rw [q, q16]; exact g1
            · rw [hq (16 + x) (by lia) (by lia) (by lia) (by lia)]; exact c x h1 (by lia)
          · by_cases q : x = n
            · rw [q, q24]; exact ⟨by decide, by decide⟩
            · rw [hq (24 + x) (by lia) (by lia) (by lia) (by lia)]; exact d x h1 h2
          · rw [q0] at h1
            rw [hq (24 + x) (by lia) (by lia) (by lia) (by lia)]; exact f x (by lia) h2
        · rw [q0, hN]; lia
      · unfold F_X7_directory F_X6_makeDirectory
        refine g2 _ (br_f (by decide) ?_)
        rw [e0]
        refine br_f (by lia) (br_t hn.2 ⟨⟨by lia, hn.2⟩, fun P24 f1 => ⟨⟨by lia, hn.2⟩, fun P31 f2 P39 f3 => ?_⟩⟩)
        subst f1 f2
        rw [kup_ne (by decide), kup_ne (by decide), e0] at f3
        subst f3
        exact hp
      · unfold F_X8_directory
        rw [hN]
        refine g3 _ (br_f (by decide) ⟨⟨by decide, by decide⟩, br_f h8 ⟨⟨by lia, by lia⟩, fun Q35 f1 => ⟨⟨by lia, by lia⟩, fun Q45 f2 => ⟨⟨by decide, by decide⟩, fun Q54 f3 => ?_⟩⟩⟩⟩)
        subst f1 f2 f3
        exact hp
  · refine ⟨-1, P, Q, h, fun p hp => ?_, fun p hp => ?_⟩
    · unfold F_X7_directory
      exact g2 _ (br_t rfl hp)
    · unfold F_X8_directory
      exact g3 _ (br_t rfl hp)
theorem D_rule {P Q : VP} (h : RR P Q) (x1 : Int32) : ∃ r P1 Q1, RR P1 Q1 ∧ Am (F_X7_rule x1 P) r P1 ∧ Am (F_X8_rule x1 Q) r Q1 := by
  obtain ⟨hB, ⟨hS, hD, hG, hW, hF⟩, -⟩ := id h
  obtain ⟨e0, e5, e3, eR, eD, ⟨a1, a2⟩, ⟨b1, b2⟩, c, d, f, z⟩ := id hD
  by_cases hx : x1 = -1
  · refine ⟨0, vup P 2 0 3 0, vup Q 23 0 (ix 2) 0, ?_, fun p hp => ?_, fun p hp => ?_⟩
    · have hq : ∀ a : Int32, 0 ≤ a → ¬ a = 2 → vup Q 23 0 (ix 2) 0 23 0 (ix a) = Q 23 0 (ix a) := fun a i0 i1 => qup_ne (by decide) i0 i1
      refine dir_up h (PU_s (PU_r _ _) (by decide)) (QU_s (QU_r _ _) (by decide) (by decide)) ⟨?_, ?_, ?_, fun j j0 j1 => ?_, fun j j0 j1 => ⟨?_, ?_⟩, ?_⟩ ?_
      · rw [vup_ne (by omega), hq 0 (by decide) (by decide)]; exact e0
      · rw [vup_ne (by omega), hq 1 (by decide) (by decide)]; exact e5
      · rw [vup_eq, vup_eq]
      · rw [kup_ne (by decide), hq (7 + j) (by lia) (by lia)]; exact eR j j0 j1
      · rw [kup_ne (by decide), hq (16 + j) (by lia) (by lia)]; exact (eD j j0 j1).1
      · rw [kup_ne (by decide), hq (24 + j) (by lia) (by lia)]; exact (eD j j0 j1).2
      · refine ⟨by rw [hq 0 (by decide) (by decide)]; exact ⟨a1, a2⟩, by rw [vup_eq]; exact ⟨by decide, by decide⟩, fun x h1 h2 => ?_, fun x h1 h2 => ?_, fun x h1 h2 => ?_, by rw [hq 24 (by decide) (by decide)]; exact z⟩
        · rw [hq 0 (by decide) (by decide)] at h2
          rw [hq (16 + x) (by lia) (by lia)]; exact c x h1 h2
        · rw [hq (24 + x) (by lia) (by lia)]; exact d x h1 h2
        · rw [hq 0 (by decide) (by decide)] at h1
          rw [hq (24 + x) (by lia) (by lia)]; exact f x h1 h2
      · rw [hq 0 (by decide) (by decide)]; lia
    · unfold F_X7_rule
      exact br_t hx (fun P15 e => by rw [e]; exact hp)
    · unfold F_X8_rule
      exact br_t hx ⟨⟨by decide, by decide⟩, fun Q11 e => by rw [e]; exact hp⟩
  · rcases d_isDir hD x1 with ⟨g1, g2, g3⟩ | ⟨g1, g2, g3⟩
    · by_cases h4 : Q 23 0 (ix 2) = 4
      · refine ⟨-3, P, Q, h, fun p hp => ?_, fun p hp => ?_⟩
        · unfold F_X7_rule F_X6_addRule
          refine br_f hx (g2 _ (br_f (by decide) ?_))
          rw [e3]
          exact br_f (by lia) (br_f (by lia) hp)
        · unfold F_X8_rule
          exact br_f hx (g3 _ (br_f (by decide) ⟨⟨by decide, by decide⟩, br_t h4 hp⟩))
      · have hn : 0 ≤ Q 23 0 (ix 2) ∧ Q 23 0 (ix 2) < 4 := ⟨b1, by lia⟩
        obtain ⟨n, hN⟩ : ∃ n, Q 23 0 (ix 2) = n := ⟨_, rfl⟩
        rw [hN] at e3 hn h4 b1 b2
        refine ⟨n + 1, vup (vup P 5 0 (ix n) x1) 2 0 3 (n + 1), vup (vup Q 23 0 (ix (7 + n)) x1) 23 0 (ix 2) (n + 1), ?_, fun p hp => ?_, fun p hp => ?_⟩
        · have hq : ∀ a : Int32, 0 ≤ a → ¬ a = 2 → ¬ a = 7 + n → vup (vup Q 23 0 (ix (7 + n)) x1) 23 0 (ix 2) (n + 1) 23 0 (ix a) = Q 23 0 (ix a) := fun a i0 i1 i2 => by
            rw [qup_ne (by decide) i0 i1, qup_ne (by lia) i0 i2]
          have q2 : vup (vup Q 23 0 (ix (7 + n)) x1) 23 0 (ix 2) (n + 1) 23 0 (ix 2) = n + 1 := vup_eq _ _ _ _ _
          have q7 : vup (vup Q 23 0 (ix (7 + n)) x1) 23 0 (ix 2) (n + 1) 23 0 (ix (7 + n)) = x1 := by
            rw [qup_ne (by decide) (by lia) (by lia), vup_eq]
          have q0 := hq 0 (by decide) (by decide) (by lia)
          refine dir_up h (PU_s (PU_s (PU_r _ _) (by decide)) (by decide)) (QU_s (QU_s (QU_r _ _) (by lia) (by lia)) (by decide) (by decide)) ⟨?_, ?_, ?_, fun j j0 j1 => ?_, fun j j0 j1 => ⟨?_, ?_⟩, ?_⟩ ?_
          · rw [vup_ne (by omega), kup_ne (by decide), q0]; exact e0
          · rw [vup_ne (by omega), kup_ne (by decide), hq 1 (by decide) (by decide) (by lia)]; exact e5
          · rw [vup_eq, q2]
          · rw [kup_ne (by decide)]
            by_cases q : j = n
            · rw [q, q7, vup_eq]
            · rw [qup_ne hn.1 j0 q, hq (7 + j) (by lia) (by lia) (by lia)]; exact eR j j0 j1
          · rw [kup_ne (by decide), kup_ne (by decide), hq (16 + j) (by lia) (by lia) (by lia)]; exact (eD j j0 j1).1
          · rw [kup_ne (by decide), kup_ne (by decide), hq (24 + j) (by lia) (by lia) (by lia)]; exact (eD j j0 j1).2
          · refine ⟨by rw [q0]; exact ⟨a1, a2⟩, by rw [q2]; exact ⟨by lia, by lia⟩, fun x h1 h2 => ?_, fun x h1 h2 => ?_, fun x h1 h2 => ?_, by rw [hq 24 (by decide) (by decide) (by lia)]; exact z⟩
            · rw [q0] at h2
              rw [hq (16 + x) (by lia) (by lia) (by lia)]; exact c x h1 h2
            · rw [hq (24 + x) (by lia) (by lia) (by lia)]; exact d x h1 h2
            · rw [q0] at h1
              rw [hq (24 + x) (by lia) (by lia) (by lia)]; exact f x h1 h2
          · rw [q0]; lia
        · unfold F_X7_rule F_X6_addRule
          refine br_f hx (g2 _ (br_f (by decide) ?_))
          rw [e3]
          refine br_f (by lia) (br_t hn.2 ⟨⟨hn.1, hn.2⟩, fun P31 f2 P39 f3 => ?_⟩)
          subst f2
          rw [kup_ne (by decide), e3] at f3
          subst f3
          (try dsimp only)
          rw [vup_eq]
          exact hp
        · unfold F_X8_rule
          rw [hN]
          refine br_f hx (g3 _ (br_f (by decide) ⟨⟨by decide, by decide⟩, br_f h4 ⟨⟨by lia, by lia⟩, fun Q48 f1 => ⟨⟨by decide, by decide⟩, fun Q57 f2 => ?_⟩⟩⟩))
          subst f1 f2
          exact hp
    · refine ⟨-1, P, Q, h, fun p hp => ?_, fun p hp => ?_⟩
      · unfold F_X7_rule
        exact br_f hx (g2 _ (br_t rfl hp))
      · unfold F_X8_rule
        exact br_f hx (g3 _ (br_t rfl hp))
