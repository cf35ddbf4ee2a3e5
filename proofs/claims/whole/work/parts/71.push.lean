/-! a call's end: the copies taken, the frame pushed -/
def BL (i : Nat) (P : VP) (s w e o n : Int32) : Prop := P 14 (49 * i + 48) 0 = s ∧ P 14 (49 * i + 48) 1 = w ∧ P 14 (49 * i + 48) 2 = e ∧ P 14 (49 * i + 48) 3 = o ∧ P 14 (49 * i + 48) 4 = n
def BG (i : Nat) (P Q : VP) (j : Int32) : Prop := P 16 (3 * (49 * i + 48) + ix j) 2 = Q 28 0 (ix (4 * j)) ∧ P 16 (3 * (49 * i + 48) + ix j) 0 = Q 28 0 (ix ((4 * j) + 1)) ∧ P 16 (3 * (49 * i + 48) + ix j) 1 = Q 28 0 (ix ((4 * j) + 2)) ∧ P 16 (3 * (49 * i + 48) + ix j) 4 = 0
def BC (i : Nat) (P Q : VP) (j : Int32) : Prop := P 16 (3 * (49 * i + 48) + ix j) 3 = Q 28 0 (ix ((4 * j) + 3))
/-- what a call has come to -/
def CE (i κ : Nat) (P0 Q0 Q : VP) (r : Int32) (P1 Q1 : VP) : Prop := AB i κ P0 Q0 P1 Q1 ∧ (¬ r = 0 → Q1 κ 0 (ix 4) = Q κ 0 (ix 4)) ∧ (r = 0 → P1 1 i 3 = Q1 κ 0 (ix 4))
theorem c_1 {d : Int32} (h : 0 ≤ d ∧ d ≤ 6) (h6 : ¬ d = 6) : (0 ≤ d ∧ d < 6) ∧ 0 ≤ d + 1 ∧ d + 1 ≤ 6 := by lia
theorem c_2 {k d : Int32} (h : 0 ≤ d ∧ d ≤ 6) (hk : k < d + 1) (hn : ¬ k = d) : k < d := by lia
theorem c_3 {f c : Int32} (hf : 2504 ≤ f ∧ f ≤ 3444) (hc : 0 ≤ c ∧ c < 5) : ¬ (f + 5 ≤ f + c ∧ f + c < f + 20) := by lia
theorem c_4 {f : Int32} (hf : 2504 ≤ f ∧ f ≤ 3444) : ¬ (f + 5 ≤ f ∧ f < f + 20) := by lia
theorem c_5 {f a : Int32} (hf : 2504 ≤ f ∧ f ≤ 3444) (h : ¬ (f ≤ a ∧ a < f + 20)) : ¬ (f + 5 ≤ a ∧ a < f + 20) ∧ ¬ (f ≤ a ∧ a ≤ f + 4) := by lia
theorem c_6 {f : Int32} (hf : 2504 ≤ f ∧ f ≤ 3444) : 0 ≤ f ∧ f < 3460 := by lia
theorem c_7 {f j c : Int32} (hf : 2504 ≤ f ∧ f ≤ 3444) (hj : 0 ≤ j ∧ j < 3) (hc : 0 ≤ c ∧ c < 5) : 2504 ≤ ((f + 5) + (5 * j)) + c ∧ ((f + 5) + (5 * j)) + c < 3464 := by lia
theorem c_8 {f j : Int32} (hf : 2504 ≤ f ∧ f ≤ 3444) (hj : 0 ≤ j ∧ j < 3) : 2504 ≤ (f + 5) + (5 * j) ∧ (f + 5) + (5 * j) < 3464 := by lia
theorem d_call3 {i κ : Nat} {P0 Q0 P Q : VP} (x1 x2 x4 : Int32) {s w e o n ts tw t : Int32} (hA : AB i κ P0 Q0 P Q) (hκ : vlI κ = 3464) (h28 : ¬ κ = 28) (ht : 0 ≤ t ∧ t < 8) (hb : BL i P s (w + 1) e o n) (hn : 0 ≤ n ∧ n ≤ 3) (ho : o = 0 ∨ o = 1) (he : 0 ≤ e ∧ e < 8) (hg : ∀ j : Int32, 0 ≤ j → j < n → BG i P Q j) (hc : o = 1 → ∀ j : Int32, 0 ≤ j → j < n → BC i P Q j) : ∃ r P1 Q1, CE i κ P0 Q0 Q r P1 Q1 ∧ (∀ post : Int32 → VP → Prop, post r P1 → F_X2_callTo_b198 i x1 x2 P post ts tw t 0) ∧ (∀ post : Int32 → VP → Prop, post r Q1 → F_X8_calls_b284 κ s w x4 n Q post e ts tw t o) := by
  obtain ⟨b1, b2, -⟩ := hA.2.2.2.1.2.2.2 t ht.1 ht.2
  have ht0 : ¬ t < 0 := by lia
  by_cases h6 : Q κ 0 (ix (192 + t)) = 6
  · refine ⟨-29, P, Q, ⟨hA, fun _ => rfl, fun q => absurd q (by decide)⟩, fun post hp => ?_, fun post hp => ?_⟩
    · unfold F_X2_callTo_b198 F_X4_push
      refine br_t rfl (br_f ht0 (br_t ht.2 ⟨ht, br_f ?_ (br_t rfl hp)⟩))
      rw [b1, h6]
      decide
    · unfold F_X8_calls_b284
      exact ⟨vl_h hκ ht, br_t h6 hp⟩
  · obtain ⟨d6, d7⟩ := c_1 b2 h6
    have hx48 := p_48 (r := t) (k := Q κ 0 (ix (192 + t))) ht d6
    obtain ⟨P', ⟨g1, g2, g3, g4, g5⟩, g6⟩ := c_push (o := i) (y := 49 * i + 48) hA.2.2.1 ht d6 b1 (by omega)
    have hf := fr_4 ht d6
    generalize hfd : 2504 + (20 * ((6 * t) + Q κ 0 (ix (192 + t)))) = f at hf
    obtain ⟨Q1, ⟨m1, m2, m3⟩, m4⟩ := m_362 (Q := G5q Q κ f s (w + 1) e n o) (s := s) (w := w) (x4 := x4) (n := n) (ts := ts) (tw := tw) (t := t) (d := Q κ 0 (ix (192 + t))) (f := f) hκ h28 hf hn ht
    obtain ⟨t0, t1, t2, t3, t4⟩ := G5q_at (Q := Q) (κ := κ) (g0 := s) (g1 := w + 1) (g2 := e) (g3 := n) (g4 := o) (c_6 hf)
    have h192 := (f_g (z_r ht.1 ht.2)).1
    have qa : ∀ a : Int32, 0 ≤ a → ¬ a = 192 + t → ¬ (f + 5 ≤ a ∧ a < f + 20) → vup Q1 κ 0 (ix (192 + t)) (Q κ 0 (ix (192 + t)) + 1) κ 0 (ix a) = G5q Q κ f s (w + 1) e n o κ 0 (ix a) := fun a a0 h1 h2 => (qup_ne h192 a0 h1).trans (m2 a a0 h2)
    have qb : ∀ a : Int32, 0 ≤ a → ¬ a = 192 + t → ¬ (f ≤ a ∧ a < f + 20) → vup Q1 κ 0 (ix (192 + t)) (Q κ 0 (ix (192 + t)) + 1) κ 0 (ix a) = Q κ 0 (ix a) := fun a a0 h1 h2 => (qa a a0 h1 (c_5 hf h2).1).trans (G5q_ne (c_6 hf) a0 (c_5 hf h2).2)
    have qc : ∀ a : Int32, 2504 ≤ a ∧ a < 3464 → vup Q1 κ 0 (ix (192 + t)) (Q κ 0 (ix (192 + t)) + 1) κ 0 (ix a) = Q1 κ 0 (ix a) := fun a ha => qup_ne h192 (u_3 ht ha).1 (u_3 ht ha).2.1
    have qf : ∀ c : Int32, 0 ≤ c ∧ c < 5 → vup Q1 κ 0 (ix (192 + t)) (Q κ 0 (ix (192 + t)) + 1) κ 0 (ix (f + c)) = G5q Q κ f s (w + 1) e n o κ 0 (ix (f + c)) := fun c hc => qa _ (v_1 (c_6 hf) hc) (u_3 ht (u_4 hf ⟨hc.1, by lia⟩)).2.1 (c_3 hf hc)
    have qf0 := qa f (c_6 hf).1 (u_3 ht (u_5 hf)).2.1 (c_4 hf)
    have n28 : ¬ 28 = κ := fun q => h28 q.symm
    obtain ⟨l0, l1, l2, l3, l4⟩ := hb
    have hFR : FR P' (vup Q1 κ 0 (ix (192 + t)) (Q κ 0 (ix (192 + t)) + 1)) κ (49 * i + ix ((t * 6) + Q κ 0 (ix (192 + t)))) f := by
      unfold FR
      rw [g3 0 (by omega), g3 1 (by omega), g3 2 (by omega), g3 3 (by omega), g3 4 (by omega), qf0, qf 1 (by decide), qf 2 (by decide), qf 3 (by decide), qf 4 (by decide), t0, t1, t2, t3, t4, l0, l1, l2, l3, l4]
      refine ⟨rfl, rfl, rfl, rfl, rfl, he, hn, ho, fun j j0 jn => ?_⟩
      have j3 : 0 ≤ j ∧ j < 3 := ⟨j0, z_w3 jn hn.2⟩
      obtain ⟨a0, a1, a2, a3, a4⟩ := m3 j j0 jn
      rw [G5q_k n28] at a0 a1 a2 a3
      obtain ⟨r0, r1, r2, r3⟩ := hg j j0 jn
      rw [g4 j j0 j3.2 0 (by omega), g4 j j0 j3.2 1 (by omega), g4 j j0 j3.2 2 (by omega), g4 j j0 j3.2 3 (by omega), g4 j j0 j3.2 4 (by omega), qc _ (c_8 hf j3), qc _ (c_7 (c := 1) hf j3 (by decide)), qc _ (c_7 (c := 2) hf j3 (by decide)), qc _ (c_7 (c := 3) hf j3 (by decide)), qc _ (c_7 (c := 4) hf j3 (by decide)), a0, a1, a2, a3, a4, r0, r1, r2, r3]
      exact ⟨rfl, rfl, rfl, fun q => hc q j j0 jn, rfl, fun _ => rfl⟩
    have hA2 : AB i κ P0 Q0 P' (vup Q1 κ 0 (ix (192 + t)) (Q κ 0 (ix (192 + t)) + 1)) := by
      refine AB_f hA (fun k x j n1 n2 n3 => g1 k x j (fun q => n1 ⟨q.1, q.2.1⟩) (fun q => n2 ⟨q.1, by omega⟩) (fun q => n3 ⟨q.1, by omega⟩)) (fun k x j hk _ => ?_) (fun a a0 ha => qb a a0 (u_7 ht ha.1) (f_e hf ha.2)) g5 ?_
      · rw [kup_ne hk, m1 k x j hk, G5q_k hk]
      · refine RF_one (n' := Q κ 0 (ix (192 + t)) + 1) (k0 := Q κ 0 (ix (192 + t))) hA.2.2.2.1.2.2.2 ht d6 (fun r r0 r1 hr => g1 12 i _ (fun q => ix_ne r0 ht.1 hr q.2.2) (by omega) (by omega)) (fun y j hy hn => g1 14 _ j (by omega) (by omega) (by omega)) (fun y m j hy hm hn => g1 16 _ j (by omega) (by omega) (by omega)) (fun a ha => qb a (f_g ha.1).1 ha.2 (f_e hf (f_g ha.1).2)) (fun a ha hn => qb a (u_3 ht ha).1 (u_3 ht ha).2.1 (by rw [hfd] at hn; exact hn)) (vup_eq _ _ _ _ _) g2 d7 (fun k _ hk hn => c_2 b2 hk hn) (fun _ => by rw [hfd]; exact hFR)
    obtain ⟨y1, y2⟩ := AB_M (s := ts) (w := tw) (e := t) hA2 ht
    refine ⟨0, _, _, ⟨y1, fun q => absurd rfl q, fun _ => y2⟩, fun post hp => ?_, fun post hp => ?_⟩
    · unfold F_X2_callTo_b198
      refine br_t rfl (g6 _ (br_f (by decide) (fun P227 e1 P233 e2 P239 e3 => ?_)))
      subst e1 e2 e3
      exact hp
    · unfold F_X8_calls_b284 F_X8_frameAt
      refine ⟨vl_h hκ ht, br_f h6 ?_⟩
      rw [hfd]
      refine ⟨⟨(c_6 hf).1, by rw [hκ]; exact (u_5 hf).2⟩, fun Q317 e1 => ⟨vl_f hκ hf (by decide), fun Q326 e2 => ⟨vl_f hκ hf (by decide), fun Q334 e3 => ⟨vl_f hκ hf (by decide), fun Q342 e4 => ?_⟩⟩⟩⟩
      subst e1 e2 e3 e4
      rcases ho with rfl | rfl
      · refine br_t rfl ⟨vl_f hκ hf (by decide), fun Q358 e5 => ?_⟩
        subst e5
        exact m4 post hp
      · refine br_f (by decide) ⟨vl_f hκ hf (by decide), fun Q358 e5 => ?_⟩
        subst e5
        exact m4 post hp
theorem RF_48 {i κ : Nat} {P Q P' Q' : VP} (h : RF i κ P Q) (h12 : ∀ j, P' 12 i j = P 12 i j) (h14 : ∀ x j, x < 48 → P' 14 (49 * i + x) j = P 14 (49 * i + x) j) (h16 : ∀ x m j, x < 48 → m < 3 → P' 16 (3 * (49 * i + x) + m) j = P 16 (3 * (49 * i + x) + m) j) (hq : ∀ j, Q' κ 0 j = Q κ 0 j) : RF i κ P' Q' := by
  intro r r0 r1
  obtain ⟨a, ⟨b1, b2⟩, c⟩ := h r r0 r1
  refine ⟨by rw [h12, hq]; exact a, by rw [hq]; exact ⟨b1, b2⟩, fun k k0 k1 => ?_⟩
  rw [hq] at k1
  have hk6 := fr_5 k0 k1 b2
  have hx := p_48 (r := r) (k := k) ⟨r0, r1⟩ hk6
  exact FR_eq (c k k0 k1) (fr_4 ⟨r0, r1⟩ hk6) (fun j => h14 _ j hx) (fun m j hm => h16 _ m j hx hm) (fun a _ => hq _)
/-- the frame that is built alone is changed, and what is given -/
theorem AB_b {i κ : Nat} {P Q P1 Q1 P2 Q2 : VP} (h : AB i κ P Q P1 Q1) (hp : ∀ k x j, ¬ (k = 14 ∧ x = 49 * i + 48) → ¬ (k = 16 ∧ x / 3 = 49 * i + 48) → P2 k x j = P1 k x j) (hq : ∀ k x j, ¬ k = 28 → Q2 k x j = Q1 k x j) (h28 : ¬ κ = 28) (hB : BI P2) : AB i κ P Q P2 Q2 := by
  refine AB_f h (fun k x j _ n2 n3 => hp k x j (fun q => n2 ⟨q.1, by omega⟩) (fun q => n3 ⟨q.1, by omega⟩)) (fun k x j _ hk => hq k x j hk) (fun a _ _ => hq κ 0 _ h28) hB ?_
  exact RF_48 h.2.2.2.1.2.2.2 (fun j => hp 12 i j (by omega) (by omega)) (fun x j hx => hp 14 _ j (by omega) (by omega)) (fun x m j hx hm => hp 16 _ j (by omega) (by omega)) (fun j => hq κ 0 j h28)
theorem c_9 {j a c : Int32} (hj : 0 ≤ j ∧ j < 3) (ha : 0 ≤ a ∧ a < 3) (hc : 0 ≤ c ∧ c < 4) (h : ¬ j = a ∨ c < 3) : ¬ (4 * j) + c = (4 * a) + 3 := by lia
theorem c_90 {j a : Int32} (hj : 0 ≤ j ∧ j < 3) (ha : 0 ≤ a ∧ a < 3) : ¬ 4 * j = (4 * a) + 3 := by lia
theorem c_10 {a n : Int32} (h : ¬ a < n) (ha : a ≤ n) {j : Int32} (hj : j < n) : j < a := by lia
theorem d_call2 {i κ : Nat} {P0 Q0 P Q : VP} (x1 x2 x4 : Int32) {s w e o n ts tw t : Int32} (hA : AB i κ P0 Q0 P Q) (hκ : vlI κ = 3464) (h28 : ¬ κ = 28) (ht : 0 ≤ t ∧ t < 8) (hb : BL i P s (w + 1) e o n) (hn : 0 ≤ n ∧ n ≤ 3) (ho : o = 0 ∨ o = 1) (he : 0 ≤ e ∧ e < 8) (hg : ∀ j : Int32, 0 ≤ j → j < n → BG i P Q j) : ∃ r P1 Q1, CE i κ P0 Q0 Q r P1 Q1 ∧ (∀ post : Int32 → VP → Prop, post r P1 → F_X2_callTo_b180 i x1 x2 P post ts tw t) ∧ (∀ post : Int32 → VP → Prop, post r Q1 → vL2 (F_X8_calls_l182 κ s w x4 n post e ts tw t o) 0 Q) := by
  rcases ho with rfl | rfl
  · obtain ⟨r, P1, Q1, g1, g2, g3⟩ := d_call3 x1 x2 x4 (tw := tw) (ts := ts) hA hκ h28 ht hb hn (Or.inl rfl) he hg (fun q => absurd q (by decide))
    refine ⟨r, P1, Q1, g1, fun post hp => ?_, fun post hp => ?_⟩
    · unfold F_X2_callTo_b180
      exact br_t hb.2.2.2.1 (g2 post hp)
    · refine vL2_end (fun X => ?_)
      unfold F_X8_calls_l182
      exact br_t rfl (g3 post hp)
  · have n28 : ¬ 28 = κ := fun q => h28 q.symm
    obtain ⟨r, P1, Q1, g1, g2, g3⟩ := lq2_2 (ρ := Int32) (fun p => F_X2_takeCopies_l2 i (fun r191 P191 => F_X2_callTo_b198 i x1 x2 P191 p ts tw t r191)) (fun p => F_X8_calls_l182 κ s w x4 n p e ts tw t 1)
      (fun a P' b Q' => a = b ∧ (0 ≤ a ∧ a ≤ n) ∧ AB i κ P0 Q0 P' Q' ∧ BL i P' s (w + 1) e 1 n ∧ (∀ j : Int32, 0 ≤ j → j < n → BG i P' Q' j) ∧ (∀ j : Int32, 0 ≤ j → j < a → BC i P' Q' j) ∧ ∀ j, Q' κ 0 j = Q κ 0 j)
      (fun r P1 Q1 => CE i κ P0 Q0 Q r P1 Q1) (fun a _ => ix (3 - a)) (fun a P' b Q' ⟨hab, ⟨a0, an⟩, hA', hb', hg', hc', hq'⟩ => by
        subst hab
        by_cases hv : a < n
        · obtain ⟨w1, w2, w3, w4⟩ := u_6 a0 hv hn.2
          obtain ⟨r0, r1, r2, r3⟩ := hg' a a0 hv
          have ar := (c_argAt (P := P') (x := 49 * i + 48) a0 hb'.2.2.2.2 hn.2).1 hv
          have hvp : a < P' 14 (49 * i + 48) 4 := by rw [hb'.2.2.2.2]; exact hv
          have y1 := v_4 (c := 1) w2 (by decide)
          have y2 := v_4 (c := 2) w2 (by decide)
          have y3 := v_4 (c := 3) w2 (by decide)
          have y0 := v_5 w2
          rcases d_fetch hA'.2.2.1 hA'.2.2.2.1.2.1 hA'.2.2.2.1.2.2.1 hκ (Q' 28 0 (ix ((4 * a) + 1))) (Q' 28 0 (ix ((4 * a) + 2))) (Q' 28 0 (ix (4 * a))) with ⟨hs, hww, f1, f2⟩ | ⟨rr, hrr, f1, f2⟩
          · have t1 := m_told (κ := κ) (Q := Q') (j := 1) hκ hs hww (by decide)
            obtain ⟨v, f1, t1⟩ : ∃ v, (∀ post : Int32 → VP → Prop, post 0 (vup P' 1 i 10 v) → F_X2_fetch i _ _ _ P' post) ∧ An (F_X8_told κ _ _ 1 Q') v := ⟨_, f1, t1⟩
            have hA1 : AB i κ P0 Q0 (vup P' 1 i 10 v) Q' := by
              refine AB_s hA' (fun k x j hk => vup_ne (fun q => hk ⟨q.1, q.2.1⟩)) (fun _ _ _ _ => rfl) (fun _ _ _ => rfl) ?_
              obtain ⟨s1, s2, s3, s4⟩ := hA'.2.2.2.2
              exact ⟨(vup_ne (by omega)).trans s1, (vup_ne (by omega)).trans s2, (vup_ne (by omega)).trans s3, s4⟩
            have hA2 : AB i κ P0 Q0 (vup (vup P' 1 i 10 v) 16 (3 * (49 * i + 48) + ix a) 3 v) (vup Q' 28 0 (ix ((4 * a) + 3)) v) := by
              have ha3 : ix a < 3 := ix_b (N := 3) (by decide) rfl w2.1 w2.2
              exact AB_b hA1 (fun k x j _ n2 => vup_ne (fun q => n2 ⟨q.1, by omega⟩)) (fun k x j hk => kup_ne hk) h28 (BI_16 hA1.2.2.1 (fun q => absurd q (by decide)))
            refine Or.inl ⟨a + 1, _, a + 1, _, ⟨rfl, w1, hA2, ?_, fun j j0 jn => ?_, fun j j0 jn => ?_, fun j => ?_⟩, ix_lt w3 w4, fun p X hX => ?_, fun p X hX => ?_⟩
            · obtain ⟨l0, l1, l2, l3, l4⟩ := hb'
              have e14 : ∀ j, vup (vup P' 1 i 10 v) 16 (3 * (49 * i + 48) + ix a) 3 v 14 (49 * i + 48) j = P' 14 (49 * i + 48) j := fun j => by rw [kup_ne (by decide), kup_ne (by decide)]
              exact ⟨(e14 0).trans l0, (e14 1).trans l1, (e14 2).trans l2, (e14 3).trans l3, (e14 4).trans l4⟩
            · obtain ⟨z0, z1, z2, z3⟩ := hg' j j0 jn
              have j3 : 0 ≤ j ∧ j < 3 := ⟨j0, z_w3 jn hn.2⟩
              have e16 : ∀ c, ¬ c = 3 → vup (vup P' 1 i 10 v) 16 (3 * (49 * i + 48) + ix a) 3 v 16 (3 * (49 * i + 48) + ix j) c = P' 16 (3 * (49 * i + 48) + ix j) c := fun c hc => by rw [vup_ne (fun q => hc q.2.2), kup_ne (by decide)]
              exact ⟨(e16 2 (by decide)).trans (z0.trans (qup_ne y3.1 (v_5 j3).1 (c_90 j3 w2)).symm), (e16 0 (by decide)).trans (z1.trans (qup_ne y3.1 (v_4 (c := 1) j3 (by decide)).1 (c_9 j3 w2 (by decide) (Or.inr (by decide)))).symm), (e16 1 (by decide)).trans (z2.trans (qup_ne y3.1 (v_4 (c := 2) j3 (by decide)).1 (c_9 j3 w2 (by decide) (Or.inr (by decide)))).symm), (e16 4 (by decide)).trans z3⟩
            · have j3 : 0 ≤ j ∧ j < 3 := ⟨j0, z_w3 (z_lt jn w1.2) hn.2⟩
              unfold BC
              by_cases hj : j = a
              · subst hj
                rw [vup_eq, vup_eq]
              · have hne := ix_ne j0 a0 hj
                rw [vup_ne (by omega), kup_ne (by decide), qup_ne y3.1 (v_4 (c := 3) j3 (by decide)).1 (c_9 j3 w2 (by decide) (Or.inl hj))]
                exact hc' j j0 (u_9 jn a0 w2.2 hj)
            · rw [kup_ne h28]; exact hq' j
            · unfold F_X2_takeCopies_l2
              refine br_t hvp (br_t w2.2 (ar _ ?_))
              dsimp only
              rw [r0, r1, r2]
              refine f1 _ (br_t rfl (fun P59 e1 => ?_))
              rw [vup_eq] at e1
              subst e1
              exact hX
            · unfold F_X8_calls_l182
              refine br_f (by decide) (br_t hv ⟨y1, y2, y0, f2 _ (br_t rfl ⟨y1, y2, t1 _ ⟨y3, fun Q277 e1 => ?_⟩⟩)⟩)
              subst e1
              exact hX
          · refine Or.inr ⟨rr, P', Q', ⟨hA', fun _ => hq' _, fun q => absurd q hrr⟩, fun p X hp => ?_, fun p X hp => ?_⟩
            · unfold F_X2_takeCopies_l2
              refine br_t hvp (br_t w2.2 (ar _ ?_))
              dsimp only
              rw [r0, r1, r2]
              refine f1 _ (br_f hrr ?_)
              unfold F_X2_callTo_b198
              exact br_f hrr hp
            · unfold F_X8_calls_l182
              exact br_f (by decide) (br_t hv ⟨y1, y2, y0, f2 _ (br_f hrr hp)⟩)
        · obtain ⟨r, P1, Q1, g1, g2, g3⟩ := d_call3 x1 x2 x4 (tw := tw) (ts := ts) hA' hκ h28 ht hb' hn (Or.inr rfl) he hg' (fun _ j j0 jn => hc' j j0 (c_10 hv an jn))
          refine Or.inr ⟨r, P1, Q1, ⟨g1.1, fun q => (g1.2.1 q).trans (hq' _), g1.2.2⟩, fun p X hp => ?_, fun p X hp => ?_⟩
          · unfold F_X2_takeCopies_l2
            exact br_f (by rw [hb'.2.2.2.2]; exact hv) (g2 p hp)
          · unfold F_X8_calls_l182
            exact br_f (by decide) (br_f hv (g3 p hp)))
      (a1 := 0) (a2 := P) (b1 := 0) (b2 := Q) ⟨rfl, ⟨by decide, hn.1⟩, hA, hb, hg, fun j j0 j1 => absurd j1 (by lia), fun _ => rfl⟩
    refine ⟨r, P1, Q1, g1, fun p hp => ?_, fun p hp => g3 p hp⟩
    unfold F_X2_callTo_b180 F_X2_takeCopies
    exact br_f (by rw [hb.2.2.2.1]; decide) (g2 p hp)
