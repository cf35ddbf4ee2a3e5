/-! frames: one of them changed; the latest one; arguments read and written -/
theorem fr_1 {A B a : Int32} (h : ¬ A = B) (hA : 0 ≤ A ∧ A < 48) (hB : 0 ≤ B ∧ B < 48) (ha : 2504 + (20 * A) ≤ a ∧ a < (2504 + (20 * A)) + 20) : ¬ (2504 + (20 * B) ≤ a ∧ a < (2504 + (20 * B)) + 20) := by lia
theorem fr_2 {r k : Int32} (hr : 0 ≤ r ∧ r < 8) (hk : 0 ≤ k ∧ k < 6) : 0 ≤ (6 * r) + k ∧ (6 * r) + k < 48 := by lia
theorem fr_3 {r k r' k' : Int32} (hr : 0 ≤ r ∧ r < 8) (hr' : 0 ≤ r' ∧ r' < 8) (hk : 0 ≤ k ∧ k < 6) (hk' : 0 ≤ k' ∧ k' < 6) (h : ¬ (r' = r ∧ k' = k)) : ¬ (6 * r') + k' = (6 * r) + k := by lia
theorem fr_4 {r k : Int32} (hr : 0 ≤ r ∧ r < 8) (hk : 0 ≤ k ∧ k < 6) : 2504 ≤ 2504 + (20 * ((6 * r) + k)) ∧ 2504 + (20 * ((6 * r) + k)) ≤ 3444 := by lia
theorem fr_5 {k n : Int32} (hk : 0 ≤ k) (h : k < n) (hn : n ≤ 6) : 0 ≤ k ∧ k < 6 := by lia
theorem fr_6 {r r0 : Int32} (hr : 0 ≤ r ∧ r < 8) (h : ¬ r = r0) : (192 ≤ 192 + r ∧ 192 + r < 200) ∧ ¬ 192 + r = 192 + r0 := by lia
theorem RF_one {i κ : Nat} {P Q P' Q' : VP} {r0 k0 n' : Int32} (h : RF i κ P Q) (hr0 : 0 ≤ r0 ∧ r0 < 8) (hk0 : 0 ≤ k0 ∧ k0 < 6) (h12 : ∀ r : Int32, 0 ≤ r → r < 8 → ¬ r = r0 → P' 12 i (ix r) = P 12 i (ix r)) (h14 : ∀ x j, x < 48 → ¬ x = ix ((r0 * 6) + k0) → P' 14 (49 * i + x) j = P 14 (49 * i + x) j) (h16 : ∀ x m j, x < 48 → m < 3 → ¬ x = ix ((r0 * 6) + k0) → P' 16 (3 * (49 * i + x) + m) j = P 16 (3 * (49 * i + x) + m) j) (hq : ∀ a : Int32, (192 ≤ a ∧ a < 200) ∧ ¬ a = 192 + r0 → Q' κ 0 (ix a) = Q κ 0 (ix a)) (hq2 : ∀ a : Int32, 2504 ≤ a ∧ a < 3464 → ¬ (2504 + (20 * ((6 * r0) + k0)) ≤ a ∧ a < (2504 + (20 * ((6 * r0) + k0))) + 20) → Q' κ 0 (ix a) = Q κ 0 (ix a)) (hn : Q' κ 0 (ix (192 + r0)) = n') (hpn : P' 12 i (ix r0) = n') (hn6 : 0 ≤ n' ∧ n' ≤ 6) (hnk : ∀ k : Int32, 0 ≤ k → k < n' → ¬ k = k0 → k < Q κ 0 (ix (192 + r0))) (hF : k0 < n' → FR P' Q' κ (49 * i + ix ((r0 * 6) + k0)) (2504 + (20 * ((6 * r0) + k0)))) : RF i κ P' Q' := by
  intro r ra rb
  have main : ∀ k : Int32, 0 ≤ k → k < Q κ 0 (ix (192 + r)) → ¬ (r = r0 ∧ k = k0) → FR P' Q' κ (49 * i + ix ((r * 6) + k)) (2504 + (20 * ((6 * r) + k))) := by
    intro k ka kb hne
    obtain ⟨-, ⟨-, b2⟩, c⟩ := h r ra rb
    have hk6 := fr_5 ka kb b2
    have hx := p_48 (r := r) (k := k) ⟨ra, rb⟩ hk6
    have hxn : ¬ ix ((r * 6) + k) = ix ((r0 * 6) + k0) := ix_ne (p_1 ⟨ra, rb⟩ hk6).1 (p_1 hr0 hk0).1 (p_ne hr0 ⟨ra, rb⟩ hk0 hk6 hne)
    have hf := fr_4 (r := r) (k := k) ⟨ra, rb⟩ hk6
    exact FR_eq (c k ka kb) hf (fun j => h14 _ j hx hxn) (fun m j hm => h16 _ m j hx hm hxn) (fun a ha => hq2 a (z_fa hf ha) (fr_1 (fr_3 hr0 ⟨ra, rb⟩ hk0 hk6 hne) (fr_2 ⟨ra, rb⟩ hk6) (fr_2 hr0 hk0) ha))
  by_cases hrr : r = r0
  · subst hrr
    rw [hn]
    refine ⟨hpn, hn6, fun k ka kb => ?_⟩
    by_cases hkk : k = k0
    · subst hkk
      exact hF kb
    · exact main k ka (hnk k ka kb hkk) (fun q => hkk q.2)
  · obtain ⟨a, b, -⟩ := h r ra rb
    have e := hq (192 + r) (fr_6 ⟨ra, rb⟩ hrr)
    rw [e, h12 r ra rb hrr]
    exact ⟨a, b, fun k ka kb => main k ka kb (fun q => hrr q.1)⟩
theorem fr_7 {n : Int32} (h : 0 ≤ n ∧ n ≤ 6) (h0 : ¬ n = 0) : (0 ≤ n - 1 ∧ n - 1 < n) ∧ (0 ≤ n - 1 ∧ n - 1 < 6) := by lia
/-- the latest frame of a ring -/
theorem d_latest {i κ : Nat} {P Q : VP} (hF : RF i κ P Q) {e : Int32} (he : 0 ≤ e ∧ e < 8) : (Q κ 0 (ix (192 + e)) = 0 ∧ An (F_X4_latestOf i e P) none) ∨ (¬ Q κ 0 (ix (192 + e)) = 0 ∧ ((0 ≤ Q κ 0 (ix (192 + e)) - 1 ∧ Q κ 0 (ix (192 + e)) - 1 < Q κ 0 (ix (192 + e))) ∧ (0 ≤ Q κ 0 (ix (192 + e)) - 1 ∧ Q κ 0 (ix (192 + e)) - 1 < 6)) ∧ An (F_X4_latestOf i e P) (some (49 * i + ix ((e * 6) + (Q κ 0 (ix (192 + e)) - 1)))) ∧ FR P Q κ (49 * i + ix ((e * 6) + (Q κ 0 (ix (192 + e)) - 1))) (2504 + (20 * ((6 * e) + (Q κ 0 (ix (192 + e)) - 1))))) := by
  obtain ⟨-, b, c⟩ := hF e he.1 he.2
  have hh := c_height hF he
  by_cases h0 : Q κ 0 (ix (192 + e)) = 0
  · refine Or.inl ⟨h0, fun p hp => ?_⟩
    unfold F_X4_latestOf
    refine hh _ ?_
    unfold F_X4_frameAt
    exact br_t (by rw [h0]; decide) hp
  · have g := fr_7 b h0
    refine Or.inr ⟨h0, g, fun p hp => ?_, c _ g.1.1 g.1.2⟩
    unfold F_X4_latestOf
    exact hh _ ((c_frameAt hF he g.1.1).1 g.1.2 _ hp)
theorem c_argAt {P : VP} {x : Nat} {w n : Int32} (hw : 0 ≤ w) (hn : P 14 x 4 = n) (h3 : n ≤ 3) : (w < n → An (F_X1_argumentAt x w P) (some (3 * x + ix w))) ∧ (¬ w < n → An (F_X1_argumentAt x w P) none) := by
  have h0 : ¬ w < 0 := by lia
  refine ⟨fun h p hp => ?_, fun h p hp => ?_⟩
  · unfold F_X1_argumentAt
    have h' : w < 3 := by lia
    rw [hn]
    exact br_f h0 (br_t h (br_t h' ⟨⟨hw, h'⟩, hp⟩))
  · unfold F_X1_argumentAt
    rw [hn]
    exact br_f h0 (br_f h hp)
theorem vl_f {κ : Nat} (hκ : vlI κ = 3464) {f c : Int32} (hf : 2504 ≤ f ∧ f ≤ 3444) (hc : 0 ≤ c ∧ c < 20) : 0 ≤ f + c ∧ f + c < vlI κ := by rw [hκ]; lia
theorem vl_fj {κ : Nat} (hκ : vlI κ = 3464) {f j c : Int32} (hf : 2504 ≤ f ∧ f ≤ 3444) (hj : 0 ≤ j ∧ j < 3) (hc : 0 ≤ c ∧ c < 5) : 0 ≤ ((f + 5) + (5 * j)) + c ∧ ((f + 5) + (5 * j)) + c < vlI κ := by rw [hκ]; lia
theorem vl_fk {κ : Nat} (hκ : vlI κ = 3464) {f j : Int32} (hf : 2504 ≤ f ∧ f ≤ 3444) (hj : 0 ≤ j ∧ j < 3) : 0 ≤ (f + 5) + (5 * j) ∧ (f + 5) + (5 * j) < vlI κ := by rw [hκ]; lia
theorem vl_h {κ : Nat} (hκ : vlI κ = 3464) {e : Int32} (he : 0 ≤ e ∧ e < 8) : 0 ≤ 192 + e ∧ 192 + e < vlI κ := by rw [hκ]; lia
theorem c_outward {i : Nat} {P : VP} {e v : Int32} {x : Nat} (hl : An (F_X4_latestOf i e P) (some x)) (h4 : P 1 i 4 = e) (hv : P 14 x 3 = v) (h01 : v = 0 ∨ v = 1) : An (F_X2_isLatestOutward i P) v := fun p hp => by
  unfold F_X2_isLatestOutward
  rw [h4]
  refine hl _ ?_
  rcases h01 with rfl | rfl
  · exact br_t hv hp
  · exact br_f (by rw [hv]; decide) hp
theorem z_w3 {w n : Int32} (h : w < n) (hn : n ≤ 3) : w < 3 := by lia
theorem d_readArg {i κ : Nat} {P Q : VP} (hB : BI P) (hN : RN i κ P Q) (hS : RSw i κ P Q) (hκ : vlI κ = 3464) {w : Int32} (hw0 : 0 ≤ w) : ∃ r P1 Q1, (AB i κ P Q P1 Q1 ∧ P1 1 i 3 = P 1 i 3 ∧ Q1 κ 0 (ix 4) = Q κ 0 (ix 4)) ∧ Am (F_X2_readArgument i w P) r P1 ∧ Am (F_X8_argument κ w 0 Q) r Q1 := by
  obtain ⟨hD, hG, hW, hF⟩ := id hN
  have he : 0 ≤ Q κ 0 (ix 5) ∧ Q κ 0 (ix 5) < 8 := ⟨hS.2.2.2.1, hS.2.2.2.2⟩
  have hA := AB_r hB hN hS
  rcases d_latest hF he with ⟨h0, hl⟩ | ⟨h0, g, hl, fr⟩
  · refine ⟨-31, P, Q, ⟨hA, rfl, rfl⟩, fun p hp => ?_, fun p hp => ?_⟩
    · unfold F_X2_readArgument F_X2_latestArgument
      rw [hS.2.1]
      exact hl _ hp
    · unfold F_X8_argument
      exact ⟨vl_0 hκ (by decide), vl_h hκ he, fun v e => br_t (e.trans h0) hp⟩
  · have hf := fr_4 he g.2
    obtain ⟨k1, k2, k3, k4, k5, k6, ⟨k7, k8⟩, k9, k10⟩ := id fr
    obtain ⟨a1, a2⟩ := c_argAt hw0 k4 k8
    by_cases hw : w < Q κ 0 (ix ((2504 + (20 * ((6 * Q κ 0 (ix 5)) + (Q κ 0 (ix (192 + Q κ 0 (ix 5))) - 1)))) + 3))
    · obtain ⟨j1, j2, j3, j4, j5, j6⟩ := k10 w hw0 hw
      have hw3 := z_w3 hw k8
      have ho := c_outward hl hS.2.1 k5 k9
      by_cases hout : Q κ 0 (ix ((2504 + (20 * ((6 * Q κ 0 (ix 5)) + (Q κ 0 (ix (192 + Q κ 0 (ix 5))) - 1)))) + 4)) = 1
      · refine ⟨0, vup P 1 i 5 (P 16 (3 * (49 * i + ix ((Q κ 0 (ix 5) * 6) + (Q κ 0 (ix (192 + Q κ 0 (ix 5))) - 1))) + ix w) 3), vup Q κ 0 (ix 6) (P 16 (3 * (49 * i + ix ((Q κ 0 (ix 5) * 6) + (Q κ 0 (ix (192 + Q κ 0 (ix 5))) - 1))) + ix w) 3), ⟨AB_s hA (fun k x j hk => vup_ne (fun q => hk ⟨q.1, q.2.1⟩)) (fun k x j hk => kup_ne hk) (fun a a0 a1 => sq_ne a0 a1 (by decide)) ?_, vup_ne (by omega), qup_ne (a := 6) (b := 4) (by decide) (by decide) (by decide)⟩, fun p hp => ?_, fun p hp => ?_⟩
        · exact RSw_a hS (vup_ne (by omega)) (vup_ne (by omega)) (vup_eq _ _ _ _ _)
        · unfold F_X2_readArgument F_X2_latestArgument
          rw [hS.2.1]
          refine hl _ (a1 hw _ (ho _ (br_f (by rw [hout]; decide) (fun P25 e => ?_))))
          subst e
          exact hp
        · unfold F_X8_argument F_X8_frameAt
          refine ⟨vl_0 hκ (by decide), vl_h hκ he, fun v e => ?_⟩
          subst e
          refine br_f h0 ⟨vl_f hκ hf (by decide), br_t hw ⟨vl_f hκ hf (by decide), br_t hout (br_t rfl ⟨vl_fj hκ hf ⟨hw0, hw3⟩ (by decide), vl_0 hκ (by decide), fun Q104 e => ?_⟩)⟩⟩
          rw [← j4 hout] at e
          subst e
          exact hp
      · have hout0 := k9.resolve_right hout
        rcases d_fetch hB hG hW hκ (Q κ 0 (ix (((2504 + (20 * ((6 * Q κ 0 (ix 5)) + (Q κ 0 (ix (192 + Q κ 0 (ix 5))) - 1))) + 5) + (5 * w)) + 1))) (Q κ 0 (ix (((2504 + (20 * ((6 * Q κ 0 (ix 5)) + (Q κ 0 (ix (192 + Q κ 0 (ix 5))) - 1))) + 5) + (5 * w)) + 2))) (imax (Q κ 0 (ix ((2504 + (20 * ((6 * Q κ 0 (ix 5)) + (Q κ 0 (ix (192 + Q κ 0 (ix 5))) - 1))) + 5) + (5 * w)))) (Q κ 0 (ix 5))) with ⟨hs, hww, f1, f2⟩ | ⟨r2, hr2, f1, f2⟩
        · have t1 := m_told (κ := κ) (Q := Q) (j := 1) hκ hs hww (by decide)
          obtain ⟨v, f1, t1⟩ : ∃ v, (∀ post : Int32 → VP → Prop, post 0 (vup P 1 i 10 v) → F_X2_fetch i _ _ _ P post) ∧ An (F_X8_told κ _ _ 1 Q) v := ⟨_, f1, t1⟩
          refine ⟨0, vup (vup P 1 i 10 v) 1 i 5 v, vup Q κ 0 (ix 6) v, ⟨AB_s hA (fun k x j hk => by rw [vup_ne (by omega), vup_ne (by omega)]) (fun k x j hk => kup_ne hk) (fun a a0 a1 => sq_ne a0 a1 (by decide)) ?_, ?_, ?_⟩, fun p hp => ?_, fun p hp => ?_⟩
          rotate_left 3
          · unfold F_X2_readArgument F_X2_latestArgument
            rw [hS.2.1]
            refine hl _ (a1 hw _ (ho _ (br_t hout0 ?_)))
            rw [j1, j2, j3]
            refine f1 _ (br_t rfl (fun P63 e => ?_))
            rw [vup_eq] at e
            subst e
            exact hp
          · unfold F_X8_argument F_X8_frameAt
            refine ⟨vl_0 hκ (by decide), vl_h hκ he, fun v e => ?_⟩
            subst e
            refine br_f h0 ⟨vl_f hκ hf (by decide), br_t hw ⟨vl_f hκ hf (by decide), br_f hout ⟨vl_fk hκ hf ⟨hw0, hw3⟩, fun v8 e => ?_⟩⟩⟩
            subst e
            refine br_t rfl ⟨vl_fj hκ hf ⟨hw0, hw3⟩ (by decide), vl_fj hκ hf ⟨hw0, hw3⟩ (by decide), f2 _ ?_⟩
            unfold F_X8_argument_b162 F_X8_argument_b201
            refine br_t rfl (br_t rfl (br_t rfl ⟨vl_fj hκ hf ⟨hw0, hw3⟩ (by decide), vl_fj hκ hf ⟨hw0, hw3⟩ (by decide), t1 _ ⟨vl_0 hκ (by decide), fun Q226 e => ?_⟩⟩))
            subst e
            exact hp
          · exact RSw_a hS (by rw [vup_ne (by omega), vup_ne (by omega)]) (by rw [vup_ne (by omega), vup_ne (by omega)]) (vup_eq _ _ _ _ _)
          · rw [vup_ne (by omega), vup_ne (by omega)]
          · exact qup_ne (a := 6) (b := 4) (by decide) (by decide) (by decide)
        · refine ⟨r2, P, Q, ⟨hA, rfl, rfl⟩, fun p hp => ?_, fun p hp => ?_⟩
          · unfold F_X2_readArgument F_X2_latestArgument
            rw [hS.2.1]
            refine hl _ (a1 hw _ (ho _ (br_t hout0 ?_)))
            rw [j1, j2, j3]
            exact f1 _ (br_f hr2 hp)
          · unfold F_X8_argument F_X8_frameAt
            refine ⟨vl_0 hκ (by decide), vl_h hκ he, fun v e => ?_⟩
            subst e
            refine br_f h0 ⟨vl_f hκ hf (by decide), br_t hw ⟨vl_f hκ hf (by decide), br_f hout ⟨vl_fk hκ hf ⟨hw0, hw3⟩, fun v8 e => ?_⟩⟩⟩
            subst e
            refine br_t rfl ⟨vl_fj hκ hf ⟨hw0, hw3⟩ (by decide), vl_fj hκ hf ⟨hw0, hw3⟩ (by decide), f2 _ ?_⟩
            unfold F_X8_argument_b162 F_X8_argument_b201
            exact br_f hr2 (br_f hr2 hp)
    · refine ⟨-31, P, Q, ⟨hA, rfl, rfl⟩, fun p hp => ?_, fun p hp => ?_⟩
      · unfold F_X2_readArgument F_X2_latestArgument
        rw [hS.2.1]
        exact hl _ (a2 hw _ hp)
      · unfold F_X8_argument F_X8_frameAt
        refine ⟨vl_0 hκ (by decide), vl_h hκ he, fun v e => ?_⟩
        subst e
        exact br_f h0 ⟨vl_f hκ hf (by decide), br_f hw hp⟩
