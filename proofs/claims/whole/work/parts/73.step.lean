/-! a step: actHere and perform ~ steps; a run: drive ~ runs -/
theorem wr_6 {k v n a0 a1 a2 a3 a4 a5 : Int32} (h : WR k v n a0 a1 a2 a3 a4 a5) (hk : a0 = 6) : v = 1000 * a1 + 10 * a2 + a3 ∧ (0 ≤ a1 ∧ a1 < 10) ∧ (0 ≤ a2 ∧ a2 < 24) ∧ 0 ≤ a3 ∧ a3 < 4 := by
  obtain ⟨-, q⟩ := h
  rcases q with ⟨q, -⟩ | ⟨q, -⟩ | ⟨q, -⟩ | ⟨q, -⟩ | ⟨q, -⟩ | ⟨-, q1, -, q2⟩
  · exact absurd (hk.symm.trans q) (by decide)
  · exact absurd (hk.symm.trans q) (by decide)
  · rw [hk] at q; exact absurd q (by decide)
  · exact absurd (hk.symm.trans q) (by decide)
  · exact absurd (hk.symm.trans q) (by decide)
  · exact ⟨q1, q2⟩
theorem o_1 {a b c : Int32} (ha : 0 ≤ a ∧ a < 10) (hb : 0 ≤ b ∧ b < 24) (hc : 0 ≤ c ∧ c < 4) : ¬ 1000 * a + 10 * b + c < 0 := by lia
theorem o_2 {c : Int32} (hc : 0 ≤ c ∧ c < 4) : 0 ≤ c ∧ c ≤ 3 := by lia
theorem o_3 {a : Int32} (ha : 0 ≤ a ∧ a < 10) (n0 : ¬ a = 0) (n1 : ¬ a = 1) (n2 : ¬ a = 2) (n3 : ¬ a = 3) (n4 : ¬ a = 4) (n5 : ¬ a = 5) (n6 : ¬ a = 6) (n7 : ¬ a = 7) (n8 : ¬ a = 8) : a = 9 := by lia
theorem CE_t {i κ : Nat} {P Q P7 : VP} {r : Int32} {P1 Q1 : VP} (h : AB i κ P Q P7 Q) (h' : CE i κ P7 Q Q r P1 Q1) : CE i κ P Q Q r P1 Q1 := ⟨AB_t h h'.1, h'.2⟩
/-- behind an act that goes on to the next word -/
theorem m_b228 {i κ : Nat} {P Q P1 Q1 : VP} {r : Int32} (hκ : vlI κ = 3464) (h : AB i κ P Q P1 Q1 ∧ P1 1 i 3 = P 1 i 3 ∧ Q1 κ 0 (ix 4) = Q κ 0 (ix 4)) (hw : P 1 i 3 = Q κ 0 (ix 4) + 1) : ∃ Q2, CE i κ P Q Q r P1 Q2 ∧ ∀ (post : Int32 → VP → Prop) (v6 : Int32), ¬ v6 = 4 → post r Q2 → F_X8_steps_b228 κ Q1 post (Q κ 0 (ix 4)) r v6 := by
  obtain ⟨hA, e1, e2⟩ := h
  by_cases h0 : r = 0
  · refine ⟨vup Q1 κ 0 (ix 4) (Q κ 0 (ix 4) + 1), ⟨AB_s hA (fun _ _ _ _ => rfl) (fun k x j hk => kup_ne hk) (fun a a0 a1 => sq_ne a0 a1 (by decide)) ?_, fun q => absurd h0 q, fun _ => ?_⟩, fun post v6 hv hp => ?_⟩
    · have hS := hA.2.2.2.2
      unfold RSw at hS ⊢
      rw [qup_ne (a := 4) (b := 3) (by decide) (by decide) (by decide), qup_ne (a := 4) (b := 5) (by decide) (by decide) (by decide), qup_ne (a := 4) (b := 6) (by decide) (by decide) (by decide)]
      exact hS
    · rw [vup_eq, e1, hw]
    · unfold F_X8_steps_b228
      refine br_t h0 (br_f hv ⟨vl_0 hκ (by decide), fun Q244 e => ?_⟩)
      subst e
      exact hp
  · refine ⟨Q1, ⟨hA, fun _ => e2, fun q => absurd q h0⟩, fun post v6 hv hp => ?_⟩
    unfold F_X8_steps_b228
    exact br_f h0 hp
theorem d_step {i κ : Nat} {P Q : VP} (hB : BI P) (hM : RM i κ P Q) (hκ : vlI κ = 3464) (h28 : ¬ κ = 28) (hk22 : ¬ κ = 22) : ∃ r P1 Q1, CE i κ P Q Q r P1 Q1 ∧ (∀ G : Int32 → VP → Prop, G r P1 → F_X2_actHere i P (fun r18 => (r18 < 0 → G r18 P) ∧ (¬ r18 < 0 → F_X2_perform i (r18 / 1000) ((r18 / 10) - (r18 / 10) / 100 * 100) (r18 - r18 / 10 * 10) P G))) ∧ Am (F_X8_steps κ Q) r Q1 := by
  have hS := RSw_of hM
  have hN := RN_of hM
  have hA0 := AB_r hB hN hS
  have hword : P 1 i 3 = Q κ 0 (ix 4) := hM.1.2.1
  obtain ⟨a, hT, ta⟩ := d_TH hB hN.2.1 hκ (Q κ 0 (ix 3)) (Q κ 0 (ix 4))
  have fault : ∀ r : Int32, r < 0 → (∀ post : Int32 → Prop, post r → F_X2_actHere i P post) → (∀ p : Int32 → VP → Prop, p r Q → F_X8_steps κ Q p) → ∃ r P1 Q1, CE i κ P Q Q r P1 Q1 ∧ (∀ G : Int32 → VP → Prop, G r P1 → F_X2_actHere i P (fun r18 => (r18 < 0 → G r18 P) ∧ (¬ r18 < 0 → F_X2_perform i (r18 / 1000) ((r18 / 10) - (r18 / 10) / 100 * 100) (r18 - r18 / 10 * 10) P G))) ∧ Am (F_X8_steps κ Q) r Q1 := fun r hr h1 h2 => ⟨r, P, Q, ⟨hA0, fun _ => rfl, fun q => absurd hr (by rw [q]; decide)⟩, fun G hG => h1 _ (br_t hr hG), h2⟩
  rcases hT with ⟨ha, hs, hw24, hwl, hy, hH, fS, hH1⟩ | ⟨ha, fS, hN1⟩ | ⟨ha, fN⟩
  · subst ha
    obtain ⟨r0, hr0, go1, go2⟩ := d_go (e := Q κ 0 (ix 5)) hκ hs hH
    have t0 := m_told0 (κ := κ) (Q := Q) hκ hs hw24
    have hwr := hM.2.2.2.1 (Q κ 0 (ix 3)) (Q κ 0 (ix 4)) hs.1 hs.2 hw24.1 hw24.2 hy
    have ck := c_kindAt hB (y := 16 * i + ix (Q κ 0 (ix 3))) hw24
    rw [hwr.1] at ck
    have cv := c_valueAt hB (y := 16 * i + ix (Q κ 0 (ix 3))) hw24
    rcases hr0 with rfl | rfl
    · refine fault (-22) (by decide) (fun post hp => ?_) (fun p hp => ?_)
      · unfold F_X2_actHere
        rw [hS.1, hword, hS.2.1]
        exact fS _ (hH1 _ (br_f (by decide) (go1 _ (br_t rfl hp))))
      · unfold F_X8_steps
        exact ⟨vl_0 hκ (by decide), vl_0 hκ (by decide), ta _ (br_t rfl ⟨vl_0 hκ (by decide), go2 _ (br_t rfl hp)⟩)⟩
    · by_cases k6 : Q κ 0 (ix (wa (Q κ 0 (ix 3)) (Q κ 0 (ix 4)))) = 6
      · obtain ⟨a1, a2, a3, hv, r1, r2, r3, t1, t2, t3⟩ : ∃ a1 a2 a3, P 9 (16 * i + ix (Q κ 0 (ix 3))) (ix (Q κ 0 (ix 4))) = 1000 * a1 + 10 * a2 + a3 ∧ (0 ≤ a1 ∧ a1 < 10) ∧ (0 ≤ a2 ∧ a2 < 24) ∧ (0 ≤ a3 ∧ a3 < 4) ∧ An (F_X8_told κ (Q κ 0 (ix 3)) (Q κ 0 (ix 4)) 1 Q) a1 ∧ An (F_X8_told κ (Q κ 0 (ix 3)) (Q κ 0 (ix 4)) 2 Q) a2 ∧ An (F_X8_told κ (Q κ 0 (ix 3)) (Q κ 0 (ix 4)) 3 Q) a3 := by
          obtain ⟨e1, e2, e3, e4⟩ := wr_6 hwr k6
          exact ⟨_, _, _, e1, e2, e3, e4, m_told hκ hs hw24 (by decide), m_told hκ hs hw24 (by decide), m_told hκ hs hw24 (by decide)⟩
        obtain ⟨dv1, dv2, dv3⟩ := dv_act r1 r2 r3
        have cl : ∀ G : Int32 → VP → Prop, F_X2_perform i a1 a2 a3 P G → F_X2_actHere i P (fun r18 => (r18 < 0 → G r18 P) ∧ (¬ r18 < 0 → F_X2_perform i (r18 / 1000) ((r18 / 10) - (r18 / 10) / 100 * 100) (r18 - r18 / 10 * 10) P G)) := by
          intro G hG
          unfold F_X2_actHere
          rw [hS.1, hword, hS.2.1]
          refine fS _ (hH1 _ (br_f (by decide) (go1 _ (br_f (by decide) (ck _ (br_t k6 (cv _ ?_)))))))
          rw [hv]
          dsimp only
          rw [dv1, dv2, dv3]
          exact br_f (o_1 r1 r2 r3) hG
        have hA7 : AB i κ P Q (vup P 1 i 3 (P 1 i 3 + 1)) Q := AB_s hA0 (fun k x j hk => vup_ne (fun q => hk ⟨q.1, q.2.1⟩)) (fun _ _ _ _ => rfl) (fun _ _ _ => rfl) ⟨(vup_ne (by omega)).trans hS.1, (vup_ne (by omega)).trans hS.2.1, (vup_ne (by omega)).trans hS.2.2.1, hS.2.2.2⟩
        have hw7 : vup P 1 i 3 (P 1 i 3 + 1) 1 i 3 = Q κ 0 (ix 4) + 1 := by rw [vup_eq, hword]
        obtain ⟨-, -, hB7, hN7, hS7⟩ := id hA7
        by_cases n0 : a1 = 0
        · subst n0
          refine ⟨1, _, Q, ⟨hA7, fun _ => rfl, fun q => absurd q (by decide)⟩, fun G hG => cl G ?_, fun p hp => ?_⟩
          · unfold F_X2_perform
            intro P7 e7
            subst e7
            exact br_t rfl hG
          · unfold F_X8_steps
            refine ⟨vl_0 hκ (by decide), vl_0 hκ (by decide), ta _ (br_t rfl ⟨vl_0 hκ (by decide), go2 _ (br_f (by decide) (t0 _ (br_t k6 (t1 _ (t2 _ (t3 _ (br_t rfl hp)))))))⟩)⟩
        by_cases n1 : a1 = 1
        · subst n1
          obtain ⟨r, P1, Q1, g1, g2, g3⟩ := d_take (k := 1) (more := 0) hB7 hN7 hS7 hκ hk22 (Or.inl ⟨rfl, rfl⟩) a2
          obtain ⟨Q2, h1, h2⟩ := m_b228 (r := r) hκ g1 hw7
          refine ⟨r, P1, Q2, CE_t hA7 h1, fun G hG => cl G ?_, fun p hp => ?_⟩
          · unfold F_X2_perform
            intro P7 e7
            subst e7
            exact br_f (by decide) (br_t rfl (g2 _ hG))
          · unfold F_X8_steps
            refine ⟨vl_0 hκ (by decide), vl_0 hκ (by decide), ta _ (br_t rfl ⟨vl_0 hκ (by decide), go2 _ (br_f (by decide) (t0 _ (br_t k6 (t1 _ (t2 _ (t3 _ (br_f (by decide) (br_t rfl (?_)))))))))⟩)⟩
            unfold F_X8_steps_b216
            exact g3 _ (h2 p _ (by decide) hp)
        by_cases n2 : a1 = 2
        · subst n2
          obtain ⟨r, P1, Q1, g1, g2, g3⟩ := d_put hB7 hN7 hS7 hκ hk22 a2
          obtain ⟨Q2, h1, h2⟩ := m_b228 (r := r) hκ g1 hw7
          refine ⟨r, P1, Q2, CE_t hA7 h1, fun G hG => cl G ?_, fun p hp => ?_⟩
          · unfold F_X2_perform
            intro P7 e7
            subst e7
            exact br_f (by decide) (br_f (by decide) (br_t rfl (g2 _ hG)))
          · unfold F_X8_steps
            refine ⟨vl_0 hκ (by decide), vl_0 hκ (by decide), ta _ (br_t rfl ⟨vl_0 hκ (by decide), go2 _ (br_f (by decide) (t0 _ (br_t k6 (t1 _ (t2 _ (t3 _ (br_f (by decide) (br_f (by decide) (br_t rfl (?_))))))))))⟩)⟩
            unfold F_X8_steps_b216
            exact g3 _ (h2 p _ (by decide) hp)
        by_cases n3 : a1 = 3
        · subst n3
          obtain ⟨r, P1, Q1, g1, g2, g3⟩ := d_take (k := 3) (more := vup P 1 i 3 (P 1 i 3 + 1) 1 i 5) hB7 hN7 hS7 hκ hk22 (Or.inr ⟨rfl, rfl⟩) a2
          obtain ⟨Q2, h1, h2⟩ := m_b228 (r := r) hκ g1 hw7
          refine ⟨r, P1, Q2, CE_t hA7 h1, fun G hG => cl G ?_, fun p hp => ?_⟩
          · unfold F_X2_perform
            intro P7 e7
            subst e7
            exact br_f (by decide) (br_f (by decide) (br_f (by decide) (br_t rfl (g2 _ hG))))
          · unfold F_X8_steps
            refine ⟨vl_0 hκ (by decide), vl_0 hκ (by decide), ta _ (br_t rfl ⟨vl_0 hκ (by decide), go2 _ (br_f (by decide) (t0 _ (br_t k6 (t1 _ (t2 _ (t3 _ (br_f (by decide) (br_f (by decide) (br_f (by decide) (br_t rfl (?_)))))))))))⟩)⟩
            unfold F_X8_steps_b216
            exact g3 _ (h2 p _ (by decide) hp)
        by_cases n4 : a1 = 4
        · subst n4
          obtain ⟨r, P1, Q1, g1, g2, g3⟩ := d_goTo hB7 hN7 hS7 hκ hk22 a2
          refine ⟨r, P1, Q1, CE_t hA7 g1, fun G hG => cl G ?_, fun p hp => ?_⟩
          · unfold F_X2_perform
            intro P7 e7
            subst e7
            exact br_f (by decide) (br_f (by decide) (br_f (by decide) (br_f (by decide) (br_t rfl (g2 _ hG)))))
          · unfold F_X8_steps
            refine ⟨vl_0 hκ (by decide), vl_0 hκ (by decide), ta _ (br_t rfl ⟨vl_0 hκ (by decide), go2 _ (br_f (by decide) (t0 _ (br_t k6 (t1 _ (t2 _ (t3 _ (br_f (by decide) (br_f (by decide) (br_f (by decide) (br_f (by decide) (br_t rfl (?_))))))))))))⟩)⟩
            unfold F_X8_steps_b216
            refine g3 _ ?_
            unfold F_X8_steps_b228
            exact ⟨fun _ => br_t rfl hp, fun _ => hp⟩
        by_cases n5 : a1 = 5
        · subst n5
          obtain ⟨r, P1, Q1, g1, g2, g3⟩ := d_callTo (xw := a2) hB7 hN7 hS7 hκ h28 hk22 hw7 (o_2 r3)
          refine ⟨r, P1, Q1, CE_t hA7 g1, fun G hG => cl G ?_, fun p hp => ?_⟩
          · unfold F_X2_perform
            intro P7 e7
            subst e7
            exact br_f (by decide) (br_f (by decide) (br_f (by decide) (br_f (by decide) (br_f (by decide) (br_t rfl (g2 _ hG))))))
          · unfold F_X8_steps
            refine ⟨vl_0 hκ (by decide), vl_0 hκ (by decide), ta _ (br_t rfl ⟨vl_0 hκ (by decide), go2 _ (br_f (by decide) (t0 _ (br_t k6 (t1 _ (t2 _ (t3 _ (br_f (by decide) (br_f (by decide) (br_f (by decide) (br_f (by decide) (br_f (by decide) (br_t rfl (g3 _ hp)))))))))))))⟩)⟩
        by_cases n6 : a1 = 6
        · subst n6
          obtain ⟨r, P1, Q1, g1, g2, g3⟩ := d_goBack hB7 hN7 hS7 hκ
          refine ⟨r, P1, Q1, CE_t hA7 g1, fun G hG => cl G ?_, fun p hp => ?_⟩
          · unfold F_X2_perform
            intro P7 e7
            subst e7
            exact br_f (by decide) (br_f (by decide) (br_f (by decide) (br_f (by decide) (br_f (by decide) (br_f (by decide) (br_t rfl (g2 _ hG)))))))
          · unfold F_X8_steps
            refine ⟨vl_0 hκ (by decide), vl_0 hκ (by decide), ta _ (br_t rfl ⟨vl_0 hκ (by decide), go2 _ (br_f (by decide) (t0 _ (br_t k6 (t1 _ (t2 _ (t3 _ (br_f (by decide) (br_f (by decide) (br_f (by decide) (br_f (by decide) (br_f (by decide) (br_f (by decide) (br_t rfl (g3 _ hp))))))))))))))⟩)⟩
        by_cases n7 : a1 = 7
        · subst n7
          obtain ⟨r, P1, Q1, g1, g2, g3⟩ := d_readArg (w := a2) hB7 hN7 hS7 hκ r2.1
          obtain ⟨Q2, h1, h2⟩ := m_b228 (r := r) hκ g1 hw7
          refine ⟨r, P1, Q2, CE_t hA7 h1, fun G hG => cl G ?_, fun p hp => ?_⟩
          · unfold F_X2_perform
            intro P7 e7
            subst e7
            exact br_f (by decide) (br_f (by decide) (br_f (by decide) (br_f (by decide) (br_f (by decide) (br_f (by decide) (br_f (by decide) (br_t rfl (g2 _ hG))))))))
          · unfold F_X8_steps
            refine ⟨vl_0 hκ (by decide), vl_0 hκ (by decide), ta _ (br_t rfl ⟨vl_0 hκ (by decide), go2 _ (br_f (by decide) (t0 _ (br_t k6 (t1 _ (t2 _ (t3 _ (br_f (by decide) (br_f (by decide) (br_f (by decide) (br_f (by decide) (br_f (by decide) (br_f (by decide) (br_f (by decide) (br_t rfl (?_)))))))))))))))⟩)⟩
            unfold F_X8_steps_b172
            exact br_f (by decide) (g3 _ (h2 p _ (by decide) hp))
        by_cases n8 : a1 = 8
        · subst n8
          obtain ⟨r, P1, Q1, g1, g2, g3⟩ := d_writeArg (w := a2) hB7 hN7 hS7 hκ r2.1
          obtain ⟨Q2, h1, h2⟩ := m_b228 (r := r) hκ g1 hw7
          refine ⟨r, P1, Q2, CE_t hA7 h1, fun G hG => cl G ?_, fun p hp => ?_⟩
          · unfold F_X2_perform
            intro P7 e7
            subst e7
            exact br_f (by decide) (br_f (by decide) (br_f (by decide) (br_f (by decide) (br_f (by decide) (br_f (by decide) (br_f (by decide) (br_f (by decide) (br_t rfl (g2 _ hG)))))))))
          · unfold F_X8_steps
            refine ⟨vl_0 hκ (by decide), vl_0 hκ (by decide), ta _ (br_t rfl ⟨vl_0 hκ (by decide), go2 _ (br_f (by decide) (t0 _ (br_t k6 (t1 _ (t2 _ (t3 _ (br_f (by decide) (br_f (by decide) (br_f (by decide) (br_f (by decide) (br_f (by decide) (br_f (by decide) (br_f (by decide) (br_f (by decide) (br_t rfl (?_))))))))))))))))⟩)⟩
            unfold F_X8_steps_b172
            exact br_t rfl (g3 _ (h2 p _ (by decide) hp))
        have n9 := o_3 r1 n0 n1 n2 n3 n4 n5 n6 n7 n8
        by_cases z0 : Q κ 0 (ix 6) = 0
        · refine ⟨0, vup (vup P 1 i 3 (P 1 i 3 + 1)) 1 i 3 a2, vup Q κ 0 (ix 4) a2, ⟨AB_s hA7 (fun k x j hk => vup_ne (fun q => hk ⟨q.1, q.2.1⟩)) (fun k x j hk => kup_ne hk) (fun a a0 a1 => sq_ne a0 a1 (by decide)) ⟨?_, ?_, ?_, ?_⟩, fun q => absurd rfl q, fun _ => ?_⟩, fun G hG => cl G ?_, fun p hp => ?_⟩
          · rw [vup_ne (by omega), qup_ne (a := 4) (b := 3) (by decide) (by decide) (by decide)]; exact hS7.1
          · rw [vup_ne (by omega), qup_ne (a := 4) (b := 5) (by decide) (by decide) (by decide)]; exact hS7.2.1
          · rw [vup_ne (by omega), qup_ne (a := 4) (b := 6) (by decide) (by decide) (by decide)]; exact hS7.2.2.1
          · rw [qup_ne (a := 4) (b := 5) (by decide) (by decide) (by decide)]; exact hS7.2.2.2
          · rw [vup_eq, vup_eq]
          · unfold F_X2_perform
            intro P7 e7
            subst e7
            refine br_f n0 (br_f n1 (br_f n2 (br_f n3 (br_f n4 (br_f n5 (br_f n6 (br_f n7 (br_f n8 (br_t (hS7.2.2.1.trans z0) (fun P124 e => ?_))))))))))
            subst e
            exact hG
          · unfold F_X8_steps
            refine ⟨vl_0 hκ (by decide), vl_0 hκ (by decide), ta _ (br_t rfl ⟨vl_0 hκ (by decide), go2 _ (br_f (by decide) (t0 _ (br_t k6 (t1 _ (t2 _ (t3 _ (br_f n0 (br_f n1 (br_f n2 (br_f n3 (br_f n4 (br_f n5 (br_f n6 (br_f n7 (br_f n8 (br_t n9 ⟨vl_0 hκ (by decide), br_t z0 ⟨vl_0 hκ (by decide), fun Q213 e => ?_⟩⟩))))))))))))))))⟩)⟩
            subst e
            exact hp
        · refine ⟨0, vup P 1 i 3 (P 1 i 3 + 1), vup Q κ 0 (ix 4) (Q κ 0 (ix 4) + 1), ⟨AB_s hA7 (fun _ _ _ _ => rfl) (fun k x j hk => kup_ne hk) (fun a a0 a1 => sq_ne a0 a1 (by decide)) ⟨?_, ?_, ?_, ?_⟩, fun q => absurd rfl q, fun _ => ?_⟩, fun G hG => cl G ?_, fun p hp => ?_⟩
          · rw [qup_ne (a := 4) (b := 3) (by decide) (by decide) (by decide)]; exact hS7.1
          · rw [qup_ne (a := 4) (b := 5) (by decide) (by decide) (by decide)]; exact hS7.2.1
          · rw [qup_ne (a := 4) (b := 6) (by decide) (by decide) (by decide)]; exact hS7.2.2.1
          · rw [qup_ne (a := 4) (b := 5) (by decide) (by decide) (by decide)]; exact hS7.2.2.2
          · rw [vup_eq, vup_eq, hword]
          · unfold F_X2_perform
            intro P7 e7
            subst e7
            exact br_f n0 (br_f n1 (br_f n2 (br_f n3 (br_f n4 (br_f n5 (br_f n6 (br_f n7 (br_f n8 (br_f (fun q => z0 (hS7.2.2.1.symm.trans q)) hG)))))))))
          · unfold F_X8_steps
            refine ⟨vl_0 hκ (by decide), vl_0 hκ (by decide), ta _ (br_t rfl ⟨vl_0 hκ (by decide), go2 _ (br_f (by decide) (t0 _ (br_t k6 (t1 _ (t2 _ (t3 _ (br_f n0 (br_f n1 (br_f n2 (br_f n3 (br_f n4 (br_f n5 (br_f n6 (br_f n7 (br_f n8 (br_t n9 ⟨vl_0 hκ (by decide), br_f z0 ⟨vl_0 hκ (by decide), fun Q213 e => ?_⟩⟩))))))))))))))))⟩)⟩
            subst e
            exact hp
      · by_cases k0 : Q κ 0 (ix (wa (Q κ 0 (ix 3)) (Q κ 0 (ix 4)))) = 0
        · refine fault (-23) (by decide) (fun post hp => ?_) (fun p hp => ?_)
          · unfold F_X2_actHere
            rw [hS.1, hword, hS.2.1]
            exact fS _ (hH1 _ (br_f (by decide) (go1 _ (br_f (by decide) (ck _ (br_f k6 (ck _ (br_t k0 hp))))))))
          · unfold F_X8_steps
            exact ⟨vl_0 hκ (by decide), vl_0 hκ (by decide), ta _ (br_t rfl ⟨vl_0 hκ (by decide), go2 _ (br_f (by decide) (t0 _ (br_f k6 (br_t k0 hp))))⟩)⟩
        · refine fault (-24) (by decide) (fun post hp => ?_) (fun p hp => ?_)
          · unfold F_X2_actHere
            rw [hS.1, hword, hS.2.1]
            exact fS _ (hH1 _ (br_f (by decide) (go1 _ (br_f (by decide) (ck _ (br_f k6 (ck _ (br_f k0 hp))))))))
          · unfold F_X8_steps
            exact ⟨vl_0 hκ (by decide), vl_0 hκ (by decide), ta _ (br_t rfl ⟨vl_0 hκ (by decide), go2 _ (br_f (by decide) (t0 _ (br_f k6 (br_f k0 hp))))⟩)⟩
  · subst ha
    refine fault (-21) (by decide) (fun post hp => ?_) (fun p hp => ?_)
    · unfold F_X2_actHere
      rw [hS.1, hword]
      exact fS _ (hN1 _ (br_t rfl hp))
    · unfold F_X8_steps
      exact ⟨vl_0 hκ (by decide), vl_0 hκ (by decide), ta _ (br_f (by decide) hp)⟩
  · subst ha
    refine fault (-20) (by decide) (fun post hp => ?_) (fun p hp => ?_)
    · unfold F_X2_actHere
      rw [hS.1]
      exact fN _ hp
    · unfold F_X8_steps
      exact ⟨vl_0 hκ (by decide), vl_0 hκ (by decide), ta _ (br_f (by decide) hp)⟩
