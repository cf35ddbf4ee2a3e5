/-! an argument written; the way back -/
theorem f_a {f w c : Int32} (hf : 2504 ≤ f ∧ f ≤ 3444) (hw : 0 ≤ w ∧ w < 3) (hc : 0 ≤ c ∧ c < 5) : 0 ≤ f + c ∧ ¬ f + c = ((f + 5) + (5 * w)) + 3 ∧ ¬ f + c = ((f + 5) + (5 * w)) + 4 := by lia
theorem f_a0 {f w : Int32} (hf : 2504 ≤ f ∧ f ≤ 3444) (hw : 0 ≤ w ∧ w < 3) : 0 ≤ f ∧ ¬ f = ((f + 5) + (5 * w)) + 3 ∧ ¬ f = ((f + 5) + (5 * w)) + 4 := by lia
theorem f_b {f w j c : Int32} (hf : 2504 ≤ f ∧ f ≤ 3444) (hw : 0 ≤ w ∧ w < 3) (hj : 0 ≤ j ∧ j < 3) (hc : 0 ≤ c ∧ c < 5) (h : ¬ j = w ∨ c < 3) : 0 ≤ ((f + 5) + (5 * j)) + c ∧ ¬ ((f + 5) + (5 * j)) + c = ((f + 5) + (5 * w)) + 3 ∧ ¬ ((f + 5) + (5 * j)) + c = ((f + 5) + (5 * w)) + 4 := by lia
theorem f_b0 {f w j : Int32} (hf : 2504 ≤ f ∧ f ≤ 3444) (hw : 0 ≤ w ∧ w < 3) (hj : 0 ≤ j ∧ j < 3) : 0 ≤ (f + 5) + (5 * j) ∧ ¬ (f + 5) + (5 * j) = ((f + 5) + (5 * w)) + 3 ∧ ¬ (f + 5) + (5 * j) = ((f + 5) + (5 * w)) + 4 := by lia
theorem f_c {f w : Int32} (hf : 2504 ≤ f ∧ f ≤ 3444) (hw : 0 ≤ w ∧ w < 3) : (0 ≤ ((f + 5) + (5 * w)) + 3 ∧ 0 ≤ ((f + 5) + (5 * w)) + 4) ∧ ¬ ((f + 5) + (5 * w)) + 3 = ((f + 5) + (5 * w)) + 4 := by lia
theorem f_d {f w a : Int32} (hf : 2504 ≤ f ∧ f ≤ 3444) (hw : 0 ≤ w ∧ w < 3) (h : ¬ (f ≤ a ∧ a < f + 20)) : ¬ a = ((f + 5) + (5 * w)) + 3 ∧ ¬ a = ((f + 5) + (5 * w)) + 4 := by lia
theorem f_e {f a : Int32} (hf : 2504 ≤ f ∧ f ≤ 3444) (h : ¬ (2504 ≤ a ∧ a < 3464)) : ¬ (f ≤ a ∧ a < f + 20) := by lia
theorem f_g {r : Int32} (hr : 192 ≤ r ∧ r < 200) : 0 ≤ r ∧ ¬ (2504 ≤ r ∧ r < 3464) := by lia
theorem f_h {a : Int32} (h : 3 ≤ a ∧ a < 7) : 0 ≤ a ∧ ¬ (192 ≤ a ∧ a < 200) ∧ ¬ (2504 ≤ a ∧ a < 3464) := by lia
theorem f_i1 {a : Int32} (h : (0 ≤ a ∧ a < 3) ∨ (7 ≤ a ∧ a < 11) ∨ (16 ≤ a ∧ a < 32)) : 0 ≤ a ∧ ¬ (192 ≤ a ∧ a < 200) ∧ ¬ (2504 ≤ a ∧ a < 3464) := by lia
theorem f_i2 {a : Int32} (h : 32 ≤ a ∧ a < 192) : 0 ≤ a ∧ ¬ (192 ≤ a ∧ a < 200) ∧ ¬ (2504 ≤ a ∧ a < 3464) := by lia
theorem f_i3 {a : Int32} (h : 200 ≤ a ∧ a < 2504) : 0 ≤ a ∧ ¬ (192 ≤ a ∧ a < 200) ∧ ¬ (2504 ≤ a ∧ a < 3464) := by lia
/-- frames, heights, the frame that is built: alone changed -/
theorem AB_f {i κ : Nat} {P Q P1 Q1 P2 Q2 : VP} (h : AB i κ P Q P1 Q1) (hp : UO i P1 P2) (hq : ∀ k x j, ¬ k = κ → ¬ k = 28 → Q2 k x j = Q1 k x j) (hq' : ∀ a : Int32, 0 ≤ a → ¬ (192 ≤ a ∧ a < 200) ∧ ¬ (2504 ≤ a ∧ a < 3464) → Q2 κ 0 (ix a) = Q1 κ 0 (ix a)) (hB : BI P2) (hF : RF i κ P2 Q2) : AB i κ P Q P2 Q2 := by
  obtain ⟨a, b, c, ⟨d1, d2, d3, -⟩, e⟩ := h
  refine ⟨fun k x j hk => ?_, fun k x j h1 h2 h3 => ?_, hB, ⟨RD_eq d1 (fun k j k0 k1 => hp k i j (by omega) (by omega) (by omega)) (fun a ha => hq' a (f_i1 ha).1 (f_i1 ha).2), RG_eq d2 (fun s j => hp 7 _ j (by omega) (by omega) (by omega)) (fun a ha => hq' a (f_i2 ha).1 (f_i2 ha).2) (by rw [hq' 0 (by decide) (by decide)]; exact z_le _), RW_eq d3 (fun k s j k0 k1 => hp k _ j (by omega) (by omega) (by omega)) (fun a ha => hq' a (f_i3 ha).1 (f_i3 ha).2), hF⟩, ?_⟩
  · rw [hp k x j (fun q => hk ⟨by rw [q.1, q.2]; rfl, by omega, by omega⟩) (fun q => hk ⟨by rw [q.1]; exact q.2, by omega, by omega⟩) (fun q => hk ⟨by rw [q.1]; exact q.2, by omega, by omega⟩)]
    exact a k x j hk
  · rw [hq k x j h1 h3]; exact b k x j h1 h2 h3
  · have q : ∀ a : Int32, 3 ≤ a ∧ a < 7 → Q2 κ 0 (ix a) = Q1 κ 0 (ix a) := fun a ha => hq' a (f_h ha).1 (f_h ha).2
    unfold RSw at e ⊢
    rw [hp 1 i 2 (by omega) (by omega) (by omega), hp 1 i 4 (by omega) (by omega) (by omega), hp 1 i 5 (by omega) (by omega) (by omega), q 3 (by decide), q 5 (by decide), q 6 (by decide)]
    exact e
theorem FR_set {P Q : VP} {κ x : Nat} {f w v : Int32} (h : FR P Q κ x f) (hf : 2504 ≤ f ∧ f ≤ 3444) (hw0 : 0 ≤ w) (hw : w < Q κ 0 (ix (f + 3))) (ho : Q κ 0 (ix (f + 4)) = 1) : FR (vup (vup P 16 (3 * x + ix w) 3 v) 16 (3 * x + ix w) 4 1) (vup (vup Q κ 0 (ix (((f + 5) + (5 * w)) + 3)) v) κ 0 (ix (((f + 5) + (5 * w)) + 4)) 1) κ x f := by
  obtain ⟨k1, k2, k3, k4, k5, k6, ⟨k7, k8⟩, k9, k10⟩ := h
  have hw3 : 0 ≤ w ∧ w < 3 := ⟨hw0, z_w3 hw k8⟩
  obtain ⟨⟨c3, c4⟩, c34⟩ := f_c hf hw3
  have q : ∀ a : Int32, 0 ≤ a ∧ ¬ a = ((f + 5) + (5 * w)) + 3 ∧ ¬ a = ((f + 5) + (5 * w)) + 4 → vup (vup Q κ 0 (ix (((f + 5) + (5 * w)) + 3)) v) κ 0 (ix (((f + 5) + (5 * w)) + 4)) 1 κ 0 (ix a) = Q κ 0 (ix a) := fun a ha => by
    rw [qup_ne c4 ha.1 ha.2.2, qup_ne c3 ha.1 ha.2.1]
  have e14 : ∀ j, vup (vup P 16 (3 * x + ix w) 3 v) 16 (3 * x + ix w) 4 1 14 x j = P 14 x j := fun j => by rw [kup_ne (by decide), kup_ne (by decide)]
  unfold FR
  rw [e14 0, e14 1, e14 2, e14 3, e14 4, q f (f_a0 hf hw3), q (f + 1) (f_a hf hw3 (by decide)), q (f + 2) (f_a hf hw3 (by decide)), q (f + 3) (f_a hf hw3 (by decide)), q (f + 4) (f_a hf hw3 (by decide))]
  refine ⟨k1, k2, k3, k4, k5, k6, ⟨k7, k8⟩, k9, fun j j0 j1 => ?_⟩
  obtain ⟨m1, m2, m3, m4, m5, m6⟩ := k10 j j0 j1
  have hj3 : 0 ≤ j ∧ j < 3 := ⟨j0, z_w3 j1 k8⟩
  rw [q _ (f_b0 hf hw3 hj3), q _ (f_b (c := 1) hf hw3 hj3 (by decide) (Or.inr (by decide))), q _ (f_b (c := 2) hf hw3 hj3 (by decide) (Or.inr (by decide)))]
  rw [vup_ne (by omega), vup_ne (by omega), vup_ne (by omega), vup_ne (by omega), vup_ne (by omega), vup_ne (by omega)]
  refine ⟨m1, m2, m3, fun _ => ?_, ?_, fun q => absurd (q.symm.trans ho) (by decide)⟩
  · by_cases hj : j = w
    · subst hj
      rw [vup_ne (by omega), vup_eq, qup_ne c4 c3 c34, vup_eq]
    · have hne := ix_ne j0 hw0 hj
      rw [vup_ne (by omega), vup_ne (by omega), q _ (f_b (c := 3) hf hw3 hj3 (by decide) (Or.inl hj))]
      exact m4 ho
  · by_cases hj : j = w
    · subst hj
      rw [vup_eq, vup_eq]
    · have hne := ix_ne j0 hw0 hj
      rw [vup_ne (by omega), vup_ne (by omega), q _ (f_b (c := 4) hf hw3 hj3 (by decide) (Or.inl hj))]
      exact m5
theorem d_writeArg {i κ : Nat} {P Q : VP} (hB : BI P) (hN : RN i κ P Q) (hS : RSw i κ P Q) (hκ : vlI κ = 3464) {w : Int32} (hw0 : 0 ≤ w) : ∃ r P1 Q1, (AB i κ P Q P1 Q1 ∧ P1 1 i 3 = P 1 i 3 ∧ Q1 κ 0 (ix 4) = Q κ 0 (ix 4)) ∧ Am (F_X2_writeArgument i w P) r P1 ∧ Am (F_X8_argument κ w 1 Q) r Q1 := by
  obtain ⟨hD, hG, hW, hF⟩ := id hN
  have he : 0 ≤ Q κ 0 (ix 5) ∧ Q κ 0 (ix 5) < 8 := ⟨hS.2.2.2.1, hS.2.2.2.2⟩
  have hA := AB_r hB hN hS
  rcases d_latest hF he with ⟨h0, hl⟩ | ⟨h0, g, hl, fr⟩
  · refine ⟨-31, P, Q, ⟨hA, rfl, rfl⟩, fun p hp => ?_, fun p hp => ?_⟩
    · unfold F_X2_writeArgument F_X2_latestArgument
      rw [hS.2.1]
      exact hl _ hp
    · unfold F_X8_argument
      exact ⟨vl_0 hκ (by decide), vl_h hκ he, fun v e => br_t (e.trans h0) hp⟩
  · have hf := fr_4 he g.2
    obtain ⟨b1, b2, -⟩ := hF (Q κ 0 (ix 5)) he.1 he.2
    generalize hfd : 2504 + (20 * ((6 * Q κ 0 (ix 5)) + (Q κ 0 (ix (192 + Q κ 0 (ix 5))) - 1))) = f at fr hf
    generalize hxd : 49 * i + ix ((Q κ 0 (ix 5) * 6) + (Q κ 0 (ix (192 + Q κ 0 (ix 5))) - 1)) = x at fr hl
    obtain ⟨k1, k2, k3, k4, k5, k6, ⟨k7, k8⟩, k9, k10⟩ := id fr
    obtain ⟨a1, a2⟩ := c_argAt hw0 k4 k8
    by_cases hw : w < Q κ 0 (ix (f + 3))
    · obtain ⟨j1, j2, j3, j4, j5, j6⟩ := k10 w hw0 hw
      have hw3 := z_w3 hw k8
      have hx48 := p_48 (r := Q κ 0 (ix 5)) (k := Q κ 0 (ix (192 + Q κ 0 (ix 5))) - 1) he g.2
      have hw3n : ix w < 3 := ix_b (N := 3) (by decide) rfl hw0 hw3
      have ho := c_outward hl hS.2.1 k5 k9
      by_cases hout : Q κ 0 (ix (f + 4)) = 1
      · obtain ⟨⟨c3, c4⟩, c34⟩ := f_c hf ⟨hw0, hw3⟩
        have qq : ∀ a : Int32, 0 ≤ a → ¬ a = ((f + 5) + (5 * w)) + 3 ∧ ¬ a = ((f + 5) + (5 * w)) + 4 → vup (vup Q κ 0 (ix (((f + 5) + (5 * w)) + 3)) (P 1 i 5)) κ 0 (ix (((f + 5) + (5 * w)) + 4)) 1 κ 0 (ix a) = Q κ 0 (ix a) := fun a a0 ha => by
          rw [qup_ne c4 a0 ha.2, qup_ne c3 a0 ha.1]
        have hq' : ∀ a : Int32, 0 ≤ a → ¬ (192 ≤ a ∧ a < 200) ∧ ¬ (2504 ≤ a ∧ a < 3464) → vup (vup Q κ 0 (ix (((f + 5) + (5 * w)) + 3)) (P 1 i 5)) κ 0 (ix (((f + 5) + (5 * w)) + 4)) 1 κ 0 (ix a) = Q κ 0 (ix a) := fun a a0 ha => qq a a0 (f_d hf ⟨hw0, hw3⟩ (f_e hf ha.2))
        have h192 := (z_r he.1 he.2)
        refine ⟨0, vup (vup P 16 (3 * x + ix w) 3 (P 1 i 5)) 16 (3 * x + ix w) 4 1, vup (vup Q κ 0 (ix (((f + 5) + (5 * w)) + 3)) (P 1 i 5)) κ 0 (ix (((f + 5) + (5 * w)) + 4)) 1, ⟨AB_f hA (fun k x' j n1 n2 n3 => ?_) (fun k x j hk _ => by rw [kup_ne hk, kup_ne hk]) hq' (BI_16 (BI_16 hB (fun q => absurd q (by decide))) (fun _ => Or.inr rfl)) ?_, ?_, ?_⟩, fun p hp => ?_, fun p hp => ?_⟩
        · rw [vup_ne (by omega), vup_ne (by omega)]
        · refine RF_one (n' := Q κ 0 (ix (192 + Q κ 0 (ix 5)))) hF he g.2 (fun r _ _ _ => ?_) (fun y j _ _ => ?_) (fun y m j hy hm hn => ?_) (fun a ha => qq a (f_g ha.1).1 (f_d hf ⟨hw0, hw3⟩ (f_e hf (f_g ha.1).2))) (fun a ha hn => ?_) (qq _ (f_g h192).1 (f_d hf ⟨hw0, hw3⟩ (f_e hf (f_g h192).2))) ?_ b2 (fun k _ k1 _ => k1) (fun _ => ?_)
          · rw [kup_ne (by decide), kup_ne (by decide)]
          · rw [kup_ne (by decide), kup_ne (by decide)]
          · rw [vup_ne (by omega), vup_ne (by omega)]
          · rw [hfd] at hn
            exact qq a (z_n (n := 2504) (by decide) ha.1) (f_d hf ⟨hw0, hw3⟩ hn)
          · rw [kup_ne (by decide), kup_ne (by decide)]; exact b1
          · rw [hfd, hxd]
            exact FR_set fr hf hw0 hw hout
        · rw [kup_ne (by decide), kup_ne (by decide)]
        · exact hq' 4 (by decide) (by decide)
        · unfold F_X2_writeArgument F_X2_latestArgument
          rw [hS.2.1]
          refine hl _ (a1 hw _ (ho _ (br_f (by rw [hout]; decide) (fun P25 e1 P30 e2 => ?_))))
          subst e1 e2
          exact hp
        · unfold F_X8_argument F_X8_frameAt
          refine ⟨vl_0 hκ (by decide), vl_h hκ he, fun v e => ?_⟩
          subst e
          rw [hfd]
          refine br_f h0 ⟨vl_f hκ hf (by decide), br_t hw ⟨vl_f hκ hf (by decide), br_t hout (br_f (by decide) ⟨vl_0 hκ (by decide), vl_fj hκ hf ⟨hw0, hw3⟩ (by decide), fun Q84 e1 => ⟨vl_fj hκ hf ⟨hw0, hw3⟩ (by decide), fun Q91 e2 => ?_⟩⟩)⟩⟩
          rw [← hS.2.2.1] at e1
          subst e1 e2
          exact hp
      · have hout0 := k9.resolve_right hout
        obtain ⟨r2, hr2, f1, f2⟩ := d_fos hB hG hκ (Q κ 0 (ix (((f + 5) + (5 * w)) + 1))) (Q κ 0 (ix (((f + 5) + (5 * w)) + 2))) (imax (Q κ 0 (ix ((f + 5) + (5 * w)))) (Q κ 0 (ix 5)))
        by_cases h2 : r2 = 0
        · subst h2
          obtain ⟨hs, hww, hy⟩ := hr2 rfl
          have hw24 := z_lt24 hww (hB.2.1 _).2
          refine ⟨0, _, _, ⟨AB_word (v := P 1 i 5) hA hs hww, WP_ne (by omega), WQ_s hs hw24 (by decide)⟩, fun p hp => ?_, fun p hp => ?_⟩
          · unfold F_X2_writeArgument F_X2_latestArgument
            rw [hS.2.1]
            refine hl _ (a1 hw _ (ho _ (br_t hout0 ?_)))
            rw [j1, j2, j3]
            exact f1 _ (br_t rfl (c_store hB hs hww hy hp))
          · unfold F_X8_argument F_X8_frameAt
            refine ⟨vl_0 hκ (by decide), vl_h hκ he, fun v e => ?_⟩
            subst e
            rw [hfd]
            refine br_f h0 ⟨vl_f hκ hf (by decide), br_t hw ⟨vl_f hκ hf (by decide), br_f hout ⟨vl_fk hκ hf ⟨hw0, hw3⟩, fun v8 e => ?_⟩⟩⟩
            subst e
            refine br_f (by decide) ⟨vl_fj hκ hf ⟨hw0, hw3⟩ (by decide), vl_fj hκ hf ⟨hw0, hw3⟩ (by decide), f2 _ ?_⟩
            unfold F_X8_argument_b162
            rw [← hS.2.2.1]
            exact br_t rfl (br_f (by decide) ⟨vl_fj hκ hf ⟨hw0, hw3⟩ (by decide), vl_fj hκ hf ⟨hw0, hw3⟩ (by decide), vl_0 hκ (by decide), m_writes hκ hs hw24 hp⟩)
        · refine ⟨r2, P, Q, ⟨hA, rfl, rfl⟩, fun p hp => ?_, fun p hp => ?_⟩
          · unfold F_X2_writeArgument F_X2_latestArgument
            rw [hS.2.1]
            refine hl _ (a1 hw _ (ho _ (br_t hout0 ?_)))
            rw [j1, j2, j3]
            exact f1 _ (br_f h2 hp)
          · unfold F_X8_argument F_X8_frameAt
            refine ⟨vl_0 hκ (by decide), vl_h hκ he, fun v e => ?_⟩
            subst e
            rw [hfd]
            refine br_f h0 ⟨vl_f hκ hf (by decide), br_t hw ⟨vl_f hκ hf (by decide), br_f hout ⟨vl_fk hκ hf ⟨hw0, hw3⟩, fun v8 e => ?_⟩⟩⟩
            subst e
            refine br_f (by decide) ⟨vl_fj hκ hf ⟨hw0, hw3⟩ (by decide), vl_fj hκ hf ⟨hw0, hw3⟩ (by decide), f2 _ ?_⟩
            unfold F_X8_argument_b162 F_X8_argument_b201
            exact br_f h2 (br_f h2 hp)
    · refine ⟨-31, P, Q, ⟨hA, rfl, rfl⟩, fun p hp => ?_, fun p hp => ?_⟩
      · unfold F_X2_writeArgument F_X2_latestArgument
        rw [hS.2.1]
        exact hl _ (a2 hw _ hp)
      · unfold F_X8_argument F_X8_frameAt
        refine ⟨vl_0 hκ (by decide), vl_h hκ he, fun v e => ?_⟩
        subst e
        rw [hfd]
        exact br_f h0 ⟨vl_f hκ hf (by decide), br_f hw hp⟩
