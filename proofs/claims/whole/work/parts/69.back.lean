/-! the way back: goBack ~ backs -/
theorem u_1 {n : Int32} (h : 0 ≤ n ∧ n ≤ 6) (h0 : ¬ n = 0) : 0 < n ∧ 0 ≤ n - 1 ∧ n - 1 ≤ 6 ∧ ¬ n - 1 < n - 1 := by lia
theorem u_2 {k n : Int32} (h : 0 ≤ n ∧ n ≤ 6) (h0 : ¬ n = 0) (hk : k < n - 1) : k < n := by lia
theorem u_3 {e a : Int32} (he : 0 ≤ e ∧ e < 8) (ha : 2504 ≤ a ∧ a < 3464) : 0 ≤ a ∧ ¬ a = 192 + e ∧ ¬ (3 ≤ a ∧ a < 7) := by lia
theorem u_4 {f c : Int32} (hf : 2504 ≤ f ∧ f ≤ 3444) (hc : 0 ≤ c ∧ c < 20) : 2504 ≤ f + c ∧ f + c < 3464 := by lia
theorem u_5 {f : Int32} (hf : 2504 ≤ f ∧ f ≤ 3444) : 2504 ≤ f ∧ f < 3464 := by lia
theorem u_6 {v m : Int32} (h0 : 0 ≤ v) (h : v < m) (hm : m ≤ 3) : (0 ≤ v + 1 ∧ v + 1 ≤ m) ∧ (0 ≤ v ∧ v < 3) ∧ 0 ≤ 3 - (v + 1) ∧ 3 - (v + 1) < 3 - v := by lia
theorem u_7 {e : Int32} (he : 0 ≤ e ∧ e < 8) {a : Int32} (h : ¬ (192 ≤ a ∧ a < 200)) : ¬ a = 192 + e := by lia
theorem u_8 {f a : Int32} (h : 2504 ≤ f ∧ f ≤ 3444) (ha : f ≤ a ∧ a < f + 20) : 0 ≤ a ∧ ¬ (200 ≤ a ∧ a < 2504) := by lia
theorem u_9 {v w : Int32} (h : v < w + 1) (hw : 0 ≤ w) (hw3 : w < 3) (hn : ¬ v = w) : v < w := by lia
theorem f_192 {e : Int32} (he : 0 ≤ e ∧ e < 8) : ¬ (200 ≤ 192 + e ∧ 192 + e < 2504) := by lia
theorem d_b38 {i κ : Nat} {P0 Q0 P Q : VP} {e n f : Int32} {x : Nat} (hA : AB i κ P0 Q0 P Q) (hκ : vlI κ = 3464) (he : 0 ≤ e ∧ e < 8) (he4 : P 1 i 4 = e) (hn : Q κ 0 (ix (192 + e)) = n) (n0 : ¬ n = 0) (hf : 2504 ≤ f ∧ f ≤ 3444) (hfd : 2504 + (20 * ((6 * e) + (n - 1))) = f) (k1 : P 14 x 0 = Q κ 0 (ix f)) (k2 : P 14 x 1 = Q κ 0 (ix (f + 1))) (k3 : P 14 x 2 = Q κ 0 (ix (f + 2))) (k6 : 0 ≤ Q κ 0 (ix (f + 2)) ∧ Q κ 0 (ix (f + 2)) < 8) : ∃ P1 Q1, (AB i κ P0 Q0 P1 Q1 ∧ P1 1 i 3 = Q1 κ 0 (ix 4)) ∧ (∀ post : Int32 → VP → Prop, post 0 P1 → F_X2_goBack_b38 i P post x) ∧ (∀ (post : Int32 → VP → Prop) (X : Int32 → VP → Prop) (v5 : Int32), ¬ v5 < Q κ 0 (ix (f + 3)) → post 0 Q1 → F_X8_backs_l106 κ post e n f X v5 Q) := by
  obtain ⟨b1, b2, -⟩ := hA.2.2.2.1.2.2.2 e he.1 he.2
  rw [hn] at b1 b2
  obtain ⟨u1, u2, u3, u4⟩ := u_1 b2 n0
  have g := fr_7 b2 n0
  have h192 := (f_g (z_r he.1 he.2)).1
  have q : ∀ a : Int32, 0 ≤ a → ¬ a = 192 + e → vup Q κ 0 (ix (192 + e)) (n - 1) κ 0 (ix a) = Q κ 0 (ix a) := fun a a0 ha => qup_ne h192 a0 ha
  have hA2 : AB i κ P0 Q0 (vup P 12 i (ix e) (n - 1)) (vup Q κ 0 (ix (192 + e)) (n - 1)) := by
    refine AB_f hA (fun k x j n1 n2 n3 => vup_ne (fun q => n1 ⟨q.1, q.2.1⟩)) (fun k x j hk _ => kup_ne hk) (fun a a0 ha => q a a0 (u_7 he ha.1)) (BI_eq' hA.2.2.1 (fun k x j hk _ => kup_ne (by omega))) ?_
    refine RF_one (n' := n - 1) (k0 := n - 1) hA.2.2.2.1.2.2.2 he g.2 (fun r r0 r1 hr => vup_ne (fun q => ix_ne r0 he.1 hr q.2.2)) (fun y j _ _ => kup_ne (by decide)) (fun y m j _ _ _ => kup_ne (by decide)) (fun a ha => q a (f_g ha.1).1 ha.2) (fun a ha _ => q a (u_3 he ha).1 (u_3 he ha).2.1) (vup_eq _ _ _ _ _) (vup_eq _ _ _ _ _) ⟨u2, u3⟩ (fun k _ hk _ => by rw [hn]; exact u_2 b2 n0 hk) (fun h => absurd h u4)
  obtain ⟨m1, m2⟩ := AB_M (s := Q κ 0 (ix f)) (w := Q κ 0 (ix (f + 1))) (e := Q κ 0 (ix (f + 2))) hA2 k6
  refine ⟨_, _, ⟨m1, m2⟩, fun post hp => ?_, fun post X v5 hv hp => ?_⟩
  · unfold F_X2_goBack_b38 F_X4_pop
    rw [he4, b1]
    have he0 : ¬ e < 0 := by lia
    refine br_f he0 (br_t he.2 ⟨he, br_t u1 ⟨he, he, fun P31 e1 P54 e2 P62 e3 P70 e4 => ?_⟩⟩)
    subst e1
    rw [kup_ne (by decide), k1] at e2
    subst e2
    rw [kup_ne (by decide), kup_ne (by decide), k2] at e3
    subst e3
    rw [kup_ne (by decide), kup_ne (by decide), kup_ne (by decide), k3] at e4
    subst e4
    exact hp
  · unfold F_X8_backs_l106
    have w0 := u_3 he (u_5 hf)
    have w1 := u_3 he (u_4 (c := 1) hf (by decide))
    have w2 := u_3 he (u_4 (c := 2) hf (by decide))
    have v0 : 0 ≤ f ∧ f < vlI κ := ⟨w0.1, by rw [hκ]; exact (u_5 hf).2⟩
    refine ⟨vl_f hκ hf (by decide), br_f hv ⟨vl_h hκ he, fun Q180 e1 => ⟨v0, vl_0 hκ (by decide), fun Q187 e2 => ⟨vl_f hκ hf (by decide), vl_0 hκ (by decide), fun Q196 e3 => ⟨vl_f hκ hf (by decide), vl_0 hκ (by decide), fun Q205 e4 => ?_⟩⟩⟩⟩⟩
    subst e1
    rw [q _ w0.1 w0.2.1] at e2
    subst e2
    rw [sq_ne w1.1 w1.2.2 (by decide), q _ w1.1 w1.2.1] at e3
    subst e3
    rw [sq_ne w2.1 w2.2.2 (by decide), sq_ne w2.1 w2.2.2 (by decide), q _ w2.1 w2.2.1] at e4
    subst e4
    exact hp
theorem d_goBack {i κ : Nat} {P Q : VP} (hB : BI P) (hN : RN i κ P Q) (hS : RSw i κ P Q) (hκ : vlI κ = 3464) : ∃ r P1 Q1, (AB i κ P Q P1 Q1 ∧ (¬ r = 0 → Q1 κ 0 (ix 4) = Q κ 0 (ix 4)) ∧ (r = 0 → P1 1 i 3 = Q1 κ 0 (ix 4))) ∧ Am (F_X2_goBack i P) r P1 ∧ Am (F_X8_backs κ Q) r Q1 := by
  obtain ⟨hD, hG, hW, hF⟩ := id hN
  have he : 0 ≤ Q κ 0 (ix 5) ∧ Q κ 0 (ix 5) < 8 := ⟨hS.2.2.2.1, hS.2.2.2.2⟩
  have hA := AB_r hB hN hS
  rcases d_latest hF he with ⟨h0, hl⟩ | ⟨h0, g, hl, fr⟩
  · refine ⟨-30, P, Q, ⟨hA, fun _ => rfl, fun q => absurd q (by decide)⟩, fun p hp => ?_, fun p hp => ?_⟩
    · unfold F_X2_goBack
      rw [hS.2.1]
      exact hl _ hp
    · unfold F_X8_backs
      exact ⟨vl_0 hκ (by decide), vl_h hκ he, fun v e => br_t (e.trans h0) hp⟩
  · have hf := fr_4 he g.2
    obtain ⟨b1, b2, -⟩ := hF (Q κ 0 (ix 5)) he.1 he.2
    generalize hfd : 2504 + (20 * ((6 * Q κ 0 (ix 5)) + (Q κ 0 (ix (192 + Q κ 0 (ix 5))) - 1))) = f at fr hf
    generalize hxd : 49 * i + ix ((Q κ 0 (ix 5) * 6) + (Q κ 0 (ix (192 + Q κ 0 (ix 5))) - 1)) = x at fr hl
    obtain ⟨k1, k2, k3, k4, k5, k6, ⟨k7, k8⟩, k9, k10⟩ := id fr
    have cl : ∀ p : Int32 → VP → Prop, (P 14 x 3 = 0 → F_X2_goBack_b38 i P p x) → (¬ P 14 x 3 = 0 → F_X2_putCopiesBack i x P (fun r28 P28 => (r28 = 0 → F_X2_goBack_b38 i P28 p x) ∧ (¬ r28 = 0 → p r28 P28))) → F_X2_goBack i P p := by
      intro p h1 h2
      unfold F_X2_goBack
      rw [hS.2.1]
      exact hl _ ⟨h1, h2⟩
    have ml : ∀ p : Int32 → VP → Prop, vL1 (F_X8_backs_l31 κ Q p (Q κ 0 (ix 5)) (Q κ 0 (ix (192 + Q κ 0 (ix 5)))) f) 0 → F_X8_backs κ Q p := by
      intro p h
      unfold F_X8_backs F_X8_frameAt
      refine ⟨vl_0 hκ (by decide), vl_h hκ he, fun v e => ?_⟩
      subst e
      rw [hfd]
      exact br_f h0 h
    by_cases hout : P 14 x 3 = 0
    · obtain ⟨P1, Q1, h1, h2, h3⟩ := d_b38 hA hκ he hS.2.1 rfl h0 hf hfd k1 k2 k3 k6
      refine ⟨0, P1, Q1, ⟨h1.1, fun q => absurd rfl q, fun _ => h1.2⟩, fun p hp => cl p (fun _ => h2 p hp) (fun q => absurd hout q), fun p hp => ml p ?_⟩
      have z : ∀ v : Int32, 0 ≤ v → v < Q κ 0 (ix (f + 3)) → ¬ Q κ 0 (ix (((f + 5) + (5 * v)) + 4)) = 1 := fun v v0 v1 => by
        obtain ⟨-, -, -, -, -, j6⟩ := k10 v v0 v1
        rw [j6 (k5.symm.trans hout)]
        decide
      refine vL1_i (fun v => 0 ≤ v) (fun v => ix (3 - v)) (fun X v v0 hX => ?_) (by decide)
      unfold F_X8_backs_l31
      refine ⟨vl_f hκ hf (by decide), ?_⟩
      by_cases hv : v < Q κ 0 (ix (f + 3))
      · obtain ⟨w1, w2, w3, w4⟩ := u_6 v0 hv k8
        exact br_t hv ⟨vl_fj hκ hf w2 (by decide), br_f (z v v0 hv) (br_t rfl (hX _ w1.1 (ix_lt w3 w4)))⟩
      · refine br_f hv (vL2_i (fun v Q' => 0 ≤ v ∧ Q' = Q) (fun v _ => ix (3 - v)) (fun X v Q' ⟨v0, hQ⟩ hX => ?_) ⟨by decide, rfl⟩)
        subst hQ
        by_cases hv : v < Q' κ 0 (ix (f + 3))
        · obtain ⟨w1, w2, w3, w4⟩ := u_6 v0 hv k8
          unfold F_X8_backs_l106
          exact ⟨vl_f hκ hf (by decide), br_t hv ⟨vl_fj hκ hf w2 (by decide), br_f (z v v0 hv) (hX _ _ ⟨w1.1, rfl⟩ (ix_lt w3 w4))⟩⟩
        · exact h3 p X v hv hp
    · obtain ⟨r, P1, Q1, g1, g2, g3⟩ := lq1_1 (ρ := Int32) (fun p => F_X2_putCopiesBack_l2 i x P (fun r28 P28 => (r28 = 0 → F_X2_goBack_b38 i P28 p x) ∧ (¬ r28 = 0 → p r28 P28))) (fun p => F_X8_backs_l31 κ Q p (Q κ 0 (ix 5)) (Q κ 0 (ix (192 + Q κ 0 (ix 5)))) f)
        (fun a b => a = b ∧ 0 ≤ a ∧ ∀ j : Int32, 0 ≤ j → j < a → j < Q κ 0 (ix (f + 3)) → Q κ 0 (ix (((f + 5) + (5 * j)) + 4)) = 1 → (0 ≤ Q κ 0 (ix (((f + 5) + (5 * j)) + 1)) ∧ Q κ 0 (ix (((f + 5) + (5 * j)) + 1)) < 16) ∧ (0 ≤ Q κ 0 (ix (((f + 5) + (5 * j)) + 2)) ∧ Q κ 0 (ix (((f + 5) + (5 * j)) + 2)) < P 7 (16 * i + ix (Q κ 0 (ix (((f + 5) + (5 * j)) + 1)))) 4) ∧ P 7 (16 * i + ix (Q κ 0 (ix (((f + 5) + (5 * j)) + 1)))) 0 = 1)
        (fun r P1 Q1 => AB i κ P Q P1 Q1 ∧ (¬ r = 0 → Q1 κ 0 (ix 4) = Q κ 0 (ix 4)) ∧ (r = 0 → P1 1 i 3 = Q1 κ 0 (ix 4))) (fun a => ix (3 - a)) (fun a b ⟨hab, a0, hok⟩ => by
          subst hab
          by_cases hv : a < Q κ 0 (ix (f + 3))
          · obtain ⟨w1, w2, w3, w4⟩ := u_6 a0 hv k8
            obtain ⟨j1, j2, j3, j4, j5, j6⟩ := k10 a a0 hv
            have ar := (c_argAt a0 k4 k8).1 hv
            have hvp : a < P 14 x 4 := by rw [k4]; exact hv
            by_cases hset : Q κ 0 (ix (((f + 5) + (5 * a)) + 4)) = 1
            · obtain ⟨r2, hr2, f1, f2⟩ := d_fos hB hG hκ (Q κ 0 (ix (((f + 5) + (5 * a)) + 1))) (Q κ 0 (ix (((f + 5) + (5 * a)) + 2))) (Q κ 0 (ix ((f + 5) + (5 * a))))
              have hs1 : ¬ P 16 (3 * x + ix a) 4 = 0 := by rw [j5, hset]; decide
              by_cases h2 : r2 = 0
              · subst h2
                refine Or.inl ⟨a + 1, a + 1, ⟨rfl, w1.1, fun j j0 ja jm js => ?_⟩, ix_lt w3 w4, fun p X hX => ?_, fun p X hX => ?_⟩
                · by_cases hj : j = a
                  · subst hj
                    exact hr2 rfl
                  · exact hok j j0 (u_9 ja a0 w2.2 hj) jm js
                · unfold F_X2_putCopiesBack_l2
                  refine br_t hvp (ar _ (br_f hs1 ?_))
                  rw [j1, j2, j3]
                  exact f1 _ (br_t rfl hX)
                · unfold F_X8_backs_l31
                  exact ⟨vl_f hκ hf (by decide), br_t hv ⟨vl_fj hκ hf w2 (by decide), br_t hset ⟨vl_fj hκ hf w2 (by decide), vl_fj hκ hf w2 (by decide), vl_fk hκ hf w2, f2 _ (br_t rfl hX)⟩⟩⟩
              · refine Or.inr ⟨r2, P, Q, ⟨hA, fun _ => rfl, fun q => absurd q h2⟩, fun p X hp => ?_, fun p X hp => ?_⟩
                · unfold F_X2_putCopiesBack_l2
                  refine br_t hvp (ar _ (br_f hs1 ?_))
                  rw [j1, j2, j3]
                  exact f1 _ (br_f h2 (br_f h2 hp))
                · unfold F_X8_backs_l31
                  exact ⟨vl_f hκ hf (by decide), br_t hv ⟨vl_fj hκ hf w2 (by decide), br_t hset ⟨vl_fj hκ hf w2 (by decide), vl_fj hκ hf w2 (by decide), vl_fk hκ hf w2, f2 _ (br_f h2 hp)⟩⟩⟩
            · have hs0 : P 16 (3 * x + ix a) 4 = 0 := (hB.2.2.2.2.1 _).resolve_right (fun q => hset (j5.symm.trans q))
              refine Or.inl ⟨a + 1, a + 1, ⟨rfl, w1.1, fun j j0 ja jm js => ?_⟩, ix_lt w3 w4, fun p X hX => ?_, fun p X hX => ?_⟩
              · by_cases hj : j = a
                · subst hj
                  exact absurd js hset
                · exact hok j j0 (u_9 ja a0 w2.2 hj) jm js
              · unfold F_X2_putCopiesBack_l2
                exact br_t hvp (ar _ (br_t hs0 hX))
              · unfold F_X8_backs_l31
                exact ⟨vl_f hκ hf (by decide), br_t hv ⟨vl_fj hκ hf w2 (by decide), br_f hset (br_t rfl hX)⟩⟩
          · have hvp : ¬ a < P 14 x 4 := by rw [k4]; exact hv
            have hok' := fun (j : Int32) (j0 : 0 ≤ j) (jm : j < Q κ 0 (ix (f + 3))) => hok j j0 (by lia) jm
            obtain ⟨r, P1, Q1, g1, g2, g3⟩ := lq2_2 (ρ := Int32) (fun p => F_X2_putCopiesBack_l61 i x (fun r28 P28 => (r28 = 0 → F_X2_goBack_b38 i P28 p x) ∧ (¬ r28 = 0 → p r28 P28))) (fun p => F_X8_backs_l106 κ p (Q κ 0 (ix 5)) (Q κ 0 (ix (192 + Q κ 0 (ix 5)))) f)
              (fun a P' b Q' => a = b ∧ 0 ≤ a ∧ AB i κ P Q P' Q' ∧ (∀ k x j, ¬ (k = 8 ∨ k = 9 ∨ k = 10) → P' k x j = P k x j) ∧ (∀ a : Int32, 0 ≤ a → ¬ (200 ≤ a ∧ a < 2504) → Q' κ 0 (ix a) = Q κ 0 (ix a)))
              (fun r P1 Q1 => AB i κ P Q P1 Q1 ∧ (¬ r = 0 → Q1 κ 0 (ix 4) = Q κ 0 (ix 4)) ∧ (r = 0 → P1 1 i 3 = Q1 κ 0 (ix 4))) (fun a _ => ix (3 - a)) (fun a P' b Q' ⟨hab, a0, hA', eP, eQ⟩ => by
                subst hab
                have qf : ∀ c : Int32, 0 ≤ c ∧ c < 20 → Q' κ 0 (ix (f + c)) = Q κ 0 (ix (f + c)) := fun c hc => eQ _ (u_8 hf (z_f hf hc)).1 (u_8 hf (z_f hf hc)).2
                have q0 : Q' κ 0 (ix f) = Q κ 0 (ix f) := eQ _ (u_8 hf (z_f0 hf)).1 (u_8 hf (z_f0 hf)).2
                have e14 : ∀ j, P' 14 x j = P 14 x j := fun j => eP 14 x j (by decide)
                by_cases hv : a < Q κ 0 (ix (f + 3))
                · obtain ⟨w1, w2, w3, w4⟩ := u_6 a0 hv k8
                  obtain ⟨j1, j2, j3, j4, j5, j6⟩ := k10 a a0 hv
                  have qj : ∀ c : Int32, 0 ≤ c ∧ c < 5 → Q' κ 0 (ix (((f + 5) + (5 * a)) + c)) = Q κ 0 (ix (((f + 5) + (5 * a)) + c)) := fun c hc => eQ _ (u_8 hf (z_fj hf w2 hc)).1 (u_8 hf (z_fj hf w2 hc)).2
                  have hv' : a < Q' κ 0 (ix (f + 3)) := by rw [qf 3 (by decide)]; exact hv
                  have k4' : P' 14 x 4 = Q κ 0 (ix (f + 3)) := (e14 4).trans k4
                  have ar := (c_argAt (P := P') a0 k4' k8).1 hv
                  have hvp : a < P' 14 x 4 := by rw [k4']; exact hv
                  by_cases hset : Q κ 0 (ix (((f + 5) + (5 * a)) + 4)) = 1
                  · have hs1 : ¬ P' 16 (3 * x + ix a) 4 = 0 := by rw [eP 16 _ _ (by decide), j5, hset]; decide
                    obtain ⟨hs, hww, hy⟩ := hok' a a0 hv hset
                    have hww' : 0 ≤ Q κ 0 (ix (((f + 5) + (5 * a)) + 2)) ∧ Q κ 0 (ix (((f + 5) + (5 * a)) + 2)) < P' 7 (16 * i + ix (Q κ 0 (ix (((f + 5) + (5 * a)) + 1)))) 4 := by rw [eP 7 _ 4 (by decide)]; exact hww
                    have hy' : P' 7 (16 * i + ix (Q κ 0 (ix (((f + 5) + (5 * a)) + 1)))) 0 = 1 := by rw [eP 7 _ 0 (by decide)]; exact hy
                    have hw24 := z_lt24 hww (hB.2.1 _).2
                    refine Or.inl ⟨a + 1, _, a + 1, _, ⟨rfl, w1.1, AB_word (v := Q κ 0 (ix (((f + 5) + (5 * a)) + 3))) hA' hs hww', fun k x j hk => ?_, fun b b0 hb => ?_⟩, ix_lt w3 w4, fun p X hX => ?_, fun p X hX => ?_⟩
                    · rw [WP_ne (fun q => hk q.1)]; exact eP k x j hk
                    · rw [WQ_ne hs hw24 b0 (z_xw hs hw24 hb)]; exact eQ b b0 hb
                    · unfold F_X2_putCopiesBack_l61
                      refine br_t hvp (ar _ (br_f hs1 ?_))
                      rw [eP 16 _ 0 (by decide), eP 16 _ 1 (by decide), eP 16 _ 3 (by decide), j2, j3, j4 ((k9.resolve_left (fun q => hout (k5.trans q))))]
                      exact c_store hA'.2.2.1 hs hww' hy' hX
                    · unfold F_X8_backs_l106
                      refine ⟨vl_f hκ hf (by decide), br_t hv' ⟨vl_fj hκ hf w2 (by decide), ?_⟩⟩
                      rw [qj 4 (by decide)]
                      refine br_t hset ⟨vl_fj hκ hf w2 (by decide), vl_fj hκ hf w2 (by decide), vl_fj hκ hf w2 (by decide), ?_⟩
                      rw [qj 1 (by decide), qj 2 (by decide), qj 3 (by decide)]
                      exact m_writes hκ hs hw24 hX
                  · have hs0 : P' 16 (3 * x + ix a) 4 = 0 := by rw [eP 16 _ _ (by decide)]; exact (hB.2.2.2.2.1 _).resolve_right (fun q => hset (j5.symm.trans q))
                    refine Or.inl ⟨a + 1, P', a + 1, Q', ⟨rfl, w1.1, hA', eP, eQ⟩, ix_lt w3 w4, fun p X hX => ?_, fun p X hX => ?_⟩
                    · unfold F_X2_putCopiesBack_l61
                      exact br_t hvp (ar _ (br_t hs0 hX))
                    · unfold F_X8_backs_l106
                      refine ⟨vl_f hκ hf (by decide), br_t hv' ⟨vl_fj hκ hf w2 (by decide), ?_⟩⟩
                      rw [qj 4 (by decide)]
                      exact br_f hset hX
                · have q5 := eQ 5 (by decide) (by decide)
                  have q192 := eQ (192 + Q κ 0 (ix 5)) (f_g (z_r he.1 he.2)).1 (f_192 he)
                  obtain ⟨P1, Q1, h1, h2, h3⟩ := d_b38 (x := x) hA' hκ he ((eP 1 i 4 (by decide)).trans hS.2.1) q192 h0 hf hfd (by rw [e14, q0]; exact k1) (by rw [e14, qf 1 (by decide)]; exact k2) (by rw [e14, qf 2 (by decide)]; exact k3) (by rw [qf 2 (by decide)]; exact k6)
                  refine Or.inr ⟨0, P1, Q1, ⟨h1.1, fun q => absurd rfl q, fun _ => h1.2⟩, fun p X hp => ?_, fun p X hp => h3 p X a (by rw [qf 3 (by decide)]; exact hv) hp⟩
                  unfold F_X2_putCopiesBack_l61
                  exact br_f (by rw [e14, k4]; exact hv) (br_t rfl (h2 p hp)))
              (a1 := 0) (a2 := P) (b1 := 0) (b2 := Q) ⟨rfl, by decide, hA, fun _ _ _ _ => rfl, fun _ _ _ => rfl⟩
            refine Or.inr ⟨r, P1, Q1, g1, fun p X hp => ?_, fun p X hp => ?_⟩
            · unfold F_X2_putCopiesBack_l2
              exact br_f hvp (g2 p hp)
            · unfold F_X8_backs_l31
              exact ⟨vl_f hκ hf (by decide), br_f hv (g3 p hp)⟩)
        (a1 := 0) (b1 := 0) ⟨rfl, by decide, fun j j0 j1 => absurd j1 (by lia)⟩
      refine ⟨r, P1, Q1, g1, fun p hp => cl p (fun q => absurd q hout) (fun _ => ?_), fun p hp => ml p (g3 p hp)⟩
      unfold F_X2_putCopiesBack
      exact g2 p hp
