/-! load -/
theorem r_1 {x n m : Int32} (hx : 0 ≤ x) (hn : 1 ≤ n ∧ n ≤ 24) (hm : 0 ≤ m ∧ m ≤ 61) : (n - m < x → n < x ∨ n - x < m) ∧ (¬ n - m < x → ¬ n < x ∧ ¬ n - x < m ∧ x + m ≤ n ∧ x ≤ 24) := by
  refine ⟨fun h => ?_, fun h => ?_⟩
  · by_cases q : n < x
    · exact Or.inl q
    · exact Or.inr (by lia)
  · have h1 : x ≤ n := by lia
    exact ⟨by lia, by lia, by lia, by lia⟩
theorem r_2a {v m : Int32} (hv : 0 ≤ v) (h : v < m) (hm : m ≤ 61) : (0 ≤ v + 1 ∧ v + 1 ≤ m) ∧ 0 ≤ m - (v + 1) ∧ m - (v + 1) < m - v := by lia
theorem r_2 {x v m n : Int32} (hx : 0 ≤ x ∧ x ≤ 24) (hv : 0 ≤ v) (h : v < m) (hm : 0 ≤ m ∧ m ≤ 61) (hn : x + m ≤ n) : (0 ≤ x + v ∧ x + v < n) ∧ (0 ≤ v + 1 ∧ v + 1 ≤ m) ∧ 0 ≤ m - (v + 1) ∧ m - (v + 1) < m - v := by
  have a := t_6b (x := x) (n := m) (v := v) hx.1 (q_5 hx.2 (by decide)) (q_5 hm.2 (by decide)) ⟨hv, h⟩
  exact ⟨⟨a.1, z_lt a.2 hn⟩, r_2a hv h hm.2⟩
theorem r_3 {v m : Int32} (hv : 0 ≤ v) (h : v < m) (hm : m ≤ 61) : ¬ v < 0 ∧ ¬ 120 < v ∧ (0 ≤ v ∧ v < 121) ∧ 0 ≤ v ∧ v ≤ 60 := by lia
theorem D_load {P Q : VP} (h : RR P Q) (x1 x2 : Int32) : ∃ r P1 Q1, RR P1 Q1 ∧ Am (F_X7_load x1 x2 P) r P1 ∧ Am (F_X8_load x1 x2 Q) r Q1 := by
  have hB := h.1
  rcases d_isSeg h.2.1.2.2.1 hB x1 with ⟨⟨g0, g1⟩, g2, g3, g4, g5⟩ | ⟨-, g4, g5⟩
  · by_cases hx2 : x2 < 0
    · refine ⟨-1, P, Q, h, fun p hp => ?_, fun p hp => ?_⟩
      · unfold F_X7_load
        exact g4 _ (br_t hx2 hp)
      · unfold F_X8_load
        exact g5 _ (br_f (by decide) (br_t hx2 hp))
    · have x20 : 0 ≤ x2 := by lia
      have k4 := g3.2.2.2.1
      have kl := g3.2.2.2.2.2.2.2.2.2.2.1
      obtain ⟨-, hM, ⟨t1, t2, t3⟩, hK, r1, r2, r3⟩ := id h
      have hTB : TB P (vup (vup Q 22 0 7 (Q 22 0 6)) 22 0 6 0) (Q 22 0 6) (fun j => if j < Q 22 0 6 then Q 26 0 (ix j) else -1) := by
        refine ⟨r1, ?_, r2, fun j j0 j1 => ?_, fun j hj => ?_⟩
        · rw [vup_ne (by omega), vup_eq]
        · dsimp only
          rw [if_pos j1, kup_ne (by decide), kup_ne (by decide)]
          exact ⟨r3 j j0 j1, rfl⟩
        · exact if_neg hj
      obtain ⟨P1, r, Q1, ⟨f1, f2, f3⟩, f4, f5⟩ := d_readT hTB
      have eP : ∀ k x j, ¬ (k = 17 ∧ x = 0 ∧ (j = 1 ∨ j = 2 ∨ j = 6 ∨ j = 7)) → ¬ (19 ≤ k ∧ k ≤ 21) → vup P1 17 0 1 0 k x j = P k x j := fun k x j a b => by
        rw [vup_ne (by omega)]; exact f1 k x j (by omega) b
      have eQ : ∀ k x j, ¬ (k = 22 ∧ 6 ≤ j ∧ j ≤ 11) → ¬ k = 27 → Q1 k x j = Q k x j := fun k x j a b => by
        rw [f2 k x j (by omega) b, vup_ne (by omega), vup_ne (by omega)]
      have q6 : Q1 22 0 6 = 0 := by rw [f2 22 0 6 (by omega) (by decide), vup_eq]
      have hR : RR (vup P1 17 0 1 0) Q1 := by
        refine ⟨BI_eq hB (fun k x j k0 k1 => eP k x j (by omega) (by omega)), RM_oth hM (fun k x j a b c => eP k x j (by omega) (by omega)) (fun j => eQ 23 0 j (by omega) (by decide)), ⟨?_, ?_, ?_⟩, fun q => ?_, ?_, ?_, fun j j0 j1 => ?_⟩
        · rw [eP 0 0 4 (by omega) (by omega), eQ 22 0 3 (by omega) (by decide)]; exact t1
        · rw [eP 0 0 4 (by omega) (by omega)]; exact t2
        · rw [eP 0 0 5 (by omega) (by omega), eQ 22 0 4 (by omega) (by decide)]; exact t3
        · rw [eP 0 0 4 (by omega) (by omega)] at q
          exact RM_oth (hK q) (fun k x j a b c => eP k x j (by omega) (by omega)) (fun j => eQ 25 0 j (by omega) (by decide))
        · rw [vup_eq, q6]
        · rw [q6]; exact ⟨by decide, by decide⟩
        · rw [q6] at j1
          exact absurd j1 (by lia)
      have cl : ∀ p : Int32 → VP → Prop, ((vup P1 17 0 1 0 17 0 7 < 0 → ((vup P1 17 0 1 0 7 (16 * 0 + ix x1) 4) - (vup P1 17 0 1 0 17 0 2) < x2 → p (-13) (vup P1 17 0 1 0)) ∧ (¬ (vup P1 17 0 1 0 7 (16 * 0 + ix x1) 4) - (vup P1 17 0 1 0 17 0 2) < x2 → vL2 (F_X7_load_l80 x1 x2 p (16 * 0 + ix x1)) 0 (vup P1 17 0 1 0))) ∧ (¬ vup P1 17 0 1 0 17 0 7 < 0 → p (-100 - (vup P1 17 0 1 0 17 0 7)) (vup P1 17 0 1 0))) → F_X7_load x1 x2 P p := by
        intro p hp
        unfold F_X7_load
        refine g4 _ (br_f hx2 (f4 _ (fun P34 e1 => ?_)))
        subst e1
        exact hp
      have ml : ∀ p : Int32 → VP → Prop, ((r = 0 → p (-100 - (Q1 22 0 9)) Q1) ∧ (¬ r = 0 → (0 ≤ 96 + x1 ∧ 96 + x1 < 3464) ∧ ((Q1 23 0 (ix (96 + x1)) < x2 → p (-13) Q1) ∧ (¬ Q1 23 0 (ix (96 + x1)) < x2 → (0 ≤ 96 + x1 ∧ 96 + x1 < 3464) ∧ (((Q1 23 0 (ix (96 + x1))) - x2 < Q1 22 0 11 → p (-13) Q1) ∧ (¬ (Q1 23 0 (ix (96 + x1))) - x2 < Q1 22 0 11 → vL2 (F_X8_load_l78 x1 x2 p) 0 Q1)))))) → F_X8_load x1 x2 Q p := by
        intro p hp
        unfold F_X8_load
        refine g5 _ (br_f (by decide) (br_f hx2 (fun Q19 e1 Q24 e2 => ?_)))
        subst e1 e2
        exact f5 _ hp
      have e7 : vup P1 17 0 1 0 17 0 7 = P1 17 0 7 := vup_ne (by omega)
      have e2 : vup P1 17 0 1 0 17 0 2 = P1 17 0 2 := vup_ne (by omega)
      have eL : vup P1 17 0 1 0 7 (16 * 0 + ix x1) 4 = Q 23 0 (ix (96 + x1)) := (eP 7 _ 4 (by omega) (by omega)).trans k4
      have qL : Q1 23 0 (ix (96 + x1)) = Q 23 0 (ix (96 + x1)) := eQ 23 0 _ (by omega) (by decide)
      have v96 : 0 ≤ 96 + x1 ∧ 96 + x1 < 3464 := ⟨by lia, by lia⟩
      rcases f3 with ⟨rfl, f, y0, y1, y2⟩ | ⟨rfl, y1, m, hm, y2, y3, y4⟩
      · refine ⟨-100 - f, _, _, hR, fun p hp => cl p (br_f (by rw [e7, y1]; lia) (by rw [e7, y1]; exact hp)), fun p hp => ml p (br_t rfl (by rw [y2]; exact hp))⟩
      · obtain ⟨z1, z2⟩ := r_1 x20 kl hm
        have neg : vup P1 17 0 1 0 17 0 7 < 0 := by rw [e7, y1]; decide
        by_cases hroom : Q 23 0 (ix (96 + x1)) - m < x2
        · refine ⟨-13, _, _, hR, fun p hp => cl p (br_t neg (br_t (by rw [eL, e2, y2]; exact hroom) hp)), fun p hp => ml p (br_f (by decide) ⟨v96, ?_⟩)⟩
          rw [qL, y3]
          by_cases q : Q 23 0 (ix (96 + x1)) < x2
          · exact br_t q hp
          · exact br_f q ⟨v96, br_t ((z1 hroom).resolve_left q) hp⟩
        · obtain ⟨z3, z4, z5, z6⟩ := z2 hroom
          have eY : vup P1 17 0 1 0 7 (16 * 0 + ix x1) 0 = 1 := (eP 7 _ 0 (by omega) (by omega)).trans g2
          obtain ⟨rr, P2, Q2, w1, w2, w3⟩ := lq2_2 (ρ := Int32) (fun p => F_X7_load_l80 x1 x2 p (16 * 0 + ix x1)) (fun p => F_X8_load_l78 x1 x2 p)
            (fun v P' u Q' => v = u ∧ (0 ≤ v ∧ v ≤ m) ∧ RR P' Q' ∧ (∀ k x j, ¬ (8 ≤ k ∧ k ≤ 10) → P' k x j = vup P1 17 0 1 0 k x j) ∧ (∀ k x j, ¬ k = 23 → Q' k x j = Q1 k x j))
            (fun _ P' Q' => RR P' Q') (fun v _ => ix (m - v)) (fun v P' u Q' ⟨hvu, ⟨v0, vmm⟩, hR', hP', hQ'⟩ => by
              subst hvu
              have p2 : P' 17 0 2 = m := (hP' 17 0 2 (by omega)).trans (e2.trans y2)
              have q11 : Q' 22 0 11 = m := (hQ' 22 0 11 (by decide)).trans y3
              by_cases hv : v < m
              · obtain ⟨u1, u2, u3, u4⟩ := r_2 ⟨x20, z6⟩ v0 hv hm z5
                obtain ⟨n1, n2, n3, n4⟩ := r_3 v0 hv hm.2
                have e19 : P' 19 0 (ix v) = P1 19 0 (ix v) := (hP' 19 0 _ (by omega)).trans (kup_ne (by decide))
                have e20 : P' 20 0 (ix v) = P1 20 0 (ix v) := (hP' 20 0 _ (by omega)).trans (kup_ne (by decide))
                have e27 : ∀ j, Q' 27 0 j = Q1 27 0 j := fun j => hQ' 27 0 j (by decide)
                have hy' : P' 7 (16 * 0 + ix x1) 0 = 1 := (hP' 7 _ 0 (by omega)).trans eY
                have hw' : 0 ≤ x2 + v ∧ x2 + v < P' 7 (16 * 0 + ix x1) 4 := by
                  rw [hP' 7 _ 4 (by omega), eL]; exact u1
                have hwr := y4 v v0 hv
                have hR2 := RR_word hR' g0 hy' hw' hwr
                have hw24 := z_lt24 hw' (hR'.1.2.1 _).2
                refine Or.inl ⟨v + 1, _, v + 1, _, ⟨rfl, u2, hR2, fun k x j hk => ?_, fun k x j hk => ?_⟩, ix_lt u3 u4, fun p X hX => ?_, fun p X hX => ?_⟩
                · rw [WP_ne (by omega)]; exact hP' k x j hk
                · rw [WQ_k hk]; exact hQ' k x j hk
                · unfold F_X7_load_l80 F_X5_kindOf F_X5_valueOf
                  rw [p2]
                  refine br_t hv (br_f n1 (br_t hv (br_f n2 ⟨n3, br_f n1 (br_t hv (br_f n2 ⟨n3, ?_⟩))⟩)))
                  rw [e19, e20]
                  exact c_become (c_has hR'.1 hw') hw24 hX
                · unfold F_X8_load_l78
                  rw [q11, e27, e27, e27, e27]
                  exact br_t hv ⟨v_54 n4, q_10 n4 (by decide), q_10 n4 (by decide), q_10 n4 (by decide), m_writes rfl g0 hw24 hX⟩
              · refine Or.inr ⟨m, P', Q', hR', fun p X hp => ?_, fun p X hp => ?_⟩
                · unfold F_X7_load_l80
                  rw [p2]
                  exact br_f hv hp
                · unfold F_X8_load_l78
                  rw [q11]
                  exact br_f hv hp)
            (a1 := 0) (a2 := vup P1 17 0 1 0) (b1 := 0) (b2 := Q1) ⟨rfl, ⟨by decide, hm.1⟩, hR, fun _ _ _ _ => rfl, fun _ _ _ _ => rfl⟩
          refine ⟨rr, P2, Q2, w1, fun p hp => cl p (br_t neg (br_f (by rw [eL, e2, y2]; exact hroom) (w2 p hp))), fun p hp => ml p (br_f (by decide) ⟨v96, ?_⟩)⟩
          rw [qL, y3]
          exact br_f z3 ⟨v96, br_f z4 (w3 p hp)⟩
  · refine ⟨-1, P, Q, h, fun p hp => ?_, fun p hp => ?_⟩
    · unfold F_X7_load
      exact g4 _ hp
    · unfold F_X8_load
      exact g5 _ (br_t rfl hp)
