/-! a call's frame: push ~ the frame written in the reference's row -/
theorem vL2_step {A1 A2 : Type} {b : (A1 → A2 → Prop) → A1 → A2 → Prop} {a1 c1 : A1} {a2 c2 : A2} (hs : ∀ X : A1 → A2 → Prop, X c1 c2 → b X a1 a2) (h : vL2 b c1 c2) : vL2 b a1 a2 := by
  obtain ⟨n, hn⟩ := h
  exact ⟨n + 1, hs _ hn⟩
theorem vL2_end {A1 A2 : Type} {b : (A1 → A2 → Prop) → A1 → A2 → Prop} {a1 : A1} {a2 : A2} (hs : ∀ X : A1 → A2 → Prop, b X a1 a2) : vL2 b a1 a2 := ⟨1, hs _⟩
def G5q (Q : VP) (κ : Nat) (B g0 g1 g2 g3 g4 : Int32) : VP := vup (vup (vup (vup (vup Q κ 0 (ix B) g0) κ 0 (ix (B + 1)) g1) κ 0 (ix (B + 2)) g2) κ 0 (ix (B + 3)) g3) κ 0 (ix (B + 4)) g4
theorem v_1 {B c : Int32} (hb : 0 ≤ B ∧ B < 3460) (hc : 0 ≤ c ∧ c < 5) : 0 ≤ B + c := by lia
theorem v_2 {B a : Int32} (hb : 0 ≤ B ∧ B < 3460) (h : ¬ (B ≤ a ∧ a ≤ B + 4)) : ¬ a = B ∧ ¬ a = B + 1 ∧ ¬ a = B + 2 ∧ ¬ a = B + 3 ∧ ¬ a = B + 4 := by lia
theorem G5q_ne {Q : VP} {κ : Nat} {B g0 g1 g2 g3 g4 a : Int32} (hb : 0 ≤ B ∧ B < 3460) (ha : 0 ≤ a) (hn : ¬ (B ≤ a ∧ a ≤ B + 4)) : G5q Q κ B g0 g1 g2 g3 g4 κ 0 (ix a) = Q κ 0 (ix a) := by
  obtain ⟨h0, h1, h2, h3, h4⟩ := v_2 hb hn
  unfold G5q
  rw [qup_ne (v_1 hb (by decide)) ha h4, qup_ne (v_1 hb (by decide)) ha h3, qup_ne (v_1 hb (by decide)) ha h2, qup_ne (v_1 hb (by decide)) ha h1, qup_ne hb.1 ha h0]
theorem G5q_k {Q : VP} {κ : Nat} {B g0 g1 g2 g3 g4 : Int32} {k x j : Nat} (h : ¬ k = κ) : G5q Q κ B g0 g1 g2 g3 g4 k x j = Q k x j := by
  unfold G5q
  rw [kup_ne h, kup_ne h, kup_ne h, kup_ne h, kup_ne h]
theorem G5q_at {Q : VP} {κ : Nat} {B g0 g1 g2 g3 g4 : Int32} (hb : 0 ≤ B ∧ B < 3460) : G5q Q κ B g0 g1 g2 g3 g4 κ 0 (ix B) = g0 ∧ G5q Q κ B g0 g1 g2 g3 g4 κ 0 (ix (B + 1)) = g1 ∧ G5q Q κ B g0 g1 g2 g3 g4 κ 0 (ix (B + 2)) = g2 ∧ G5q Q κ B g0 g1 g2 g3 g4 κ 0 (ix (B + 3)) = g3 ∧ G5q Q κ B g0 g1 g2 g3 g4 κ 0 (ix (B + 4)) = g4 := by
  have p0 := hb.1
  have p1 := v_1 (c := 1) hb (by decide)
  have p2 := v_1 (c := 2) hb (by decide)
  have p3 := v_1 (c := 3) hb (by decide)
  have p4 := v_1 (c := 4) hb (by decide)
  unfold G5q
  refine ⟨?_, ?_, ?_, ?_, ?_⟩
  · rw [qup_ne p4 p0 (z_dn0 (by decide)), qup_ne p3 p0 (z_dn0 (by decide)), qup_ne p2 p0 (z_dn0 (by decide)), qup_ne p1 p0 (z_dn0 (by decide)), vup_eq]
  · rw [qup_ne p4 p1 (z_dne (by decide)), qup_ne p3 p1 (z_dne (by decide)), qup_ne p2 p1 (z_dne (by decide)), vup_eq]
  · rw [qup_ne p4 p2 (z_dne (by decide)), qup_ne p3 p2 (z_dne (by decide)), vup_eq]
  · rw [qup_ne p4 p3 (z_dne (by decide)), vup_eq]
  · rw [vup_eq]
theorem v_3 {f v : Int32} (hf : 2504 ≤ f ∧ f ≤ 3444) (hv : 0 ≤ v ∧ v < 3) : (0 ≤ (f + 5) + (5 * v) ∧ (f + 5) + (5 * v) < 3460) ∧ (f + 9) + (5 * v) = ((f + 5) + (5 * v)) + 4 ∧ ((f + 5) + (5 * v)) + 0 = (f + 5) + (5 * v) ∧ (4 * v) + 0 = 4 * v := by lia
theorem v_4 {v c : Int32} (hv : 0 ≤ v ∧ v < 3) (hc : 0 ≤ c ∧ c < 4) : 0 ≤ (4 * v) + c ∧ (4 * v) + c < 12 := by lia
theorem v_5 {v : Int32} (hv : 0 ≤ v ∧ v < 3) : 0 ≤ 4 * v ∧ 4 * v < 12 := by lia
theorem m_372 {κ : Nat} {Q : VP} {s w x4 n ts tw t d f v p p' a g : Int32} (hκ : vlI κ = 3464) (hf : 2504 ≤ f ∧ f ≤ 3444) (hv : 0 ≤ v ∧ v < 3) (hp : 0 ≤ p ∧ p < 4) (hp' : p + 1 = p') (ha : ((f + 5) + (5 * v)) + p = a) (hg : Q 28 0 (ix ((4 * v) + p)) = g) (post : Int32 → VP → Prop) (X362 : Int32 → VP → Prop) (h : vL2 (F_X8_calls_l372 κ s w x4 n post X362 ts tw t d f v) p' (vup Q κ 0 (ix a) g)) : vL2 (F_X8_calls_l372 κ s w x4 n post X362 ts tw t d f v) p Q := by
  refine vL2_step (fun X hX => ?_) h
  unfold F_X8_calls_l372
  refine br_t hp.2 ⟨v_4 hv hp, vl_fj hκ hf hv ⟨hp.1, by lia⟩, fun Q403 e => ?_⟩
  rw [ha, hg] at e
  rw [hp']
  subst e
  exact hX
def GIq (Q : VP) (κ : Nat) (f v : Int32) : VP := G5q Q κ ((f + 5) + (5 * v)) (Q 28 0 (ix (4 * v))) (Q 28 0 (ix ((4 * v) + 1))) (Q 28 0 (ix ((4 * v) + 2))) (Q 28 0 (ix ((4 * v) + 3))) 0
theorem m_inner {κ : Nat} {Q : VP} {s w x4 n ts tw t d f v : Int32} (hκ : vlI κ = 3464) (h28 : ¬ κ = 28) (hf : 2504 ≤ f ∧ f ≤ 3444) (hv : 0 ≤ v ∧ v < 3) (post : Int32 → VP → Prop) (X362 : Int32 → VP → Prop) (h : X362 (v + 1) (GIq Q κ f v)) : vL2 (F_X8_calls_l372 κ s w x4 n post X362 ts tw t d f v) 0 Q := by
  obtain ⟨hb, e9, e0, e4⟩ := v_3 hf hv
  have n28 : ¬ 28 = κ := fun q => h28 q.symm
  refine m_372 (p' := 1) hκ hf hv (by decide) (by decide) e0 (by rw [e4]) post X362 ?_
  refine m_372 (p' := 2) hκ hf hv (by decide) (by decide) rfl (kup_ne n28) post X362 ?_
  refine m_372 (p' := 3) hκ hf hv (by decide) (by decide) rfl (by rw [kup_ne n28, kup_ne n28]) post X362 ?_
  refine m_372 (p' := 4) hκ hf hv (by decide) (by decide) rfl (by rw [kup_ne n28, kup_ne n28, kup_ne n28]) post X362 ?_
  refine vL2_end (fun X => ?_)
  unfold F_X8_calls_l372
  refine br_f (by decide) ?_
  rw [e9]
  refine ⟨vl_fj hκ hf hv (by decide), fun Q422 e => ?_⟩
  subst e
  exact h
def GJq (Q1 Q : VP) (κ : Nat) (f j : Int32) : Prop := Q1 κ 0 (ix ((f + 5) + (5 * j))) = Q 28 0 (ix (4 * j)) ∧ Q1 κ 0 (ix (((f + 5) + (5 * j)) + 1)) = Q 28 0 (ix ((4 * j) + 1)) ∧ Q1 κ 0 (ix (((f + 5) + (5 * j)) + 2)) = Q 28 0 (ix ((4 * j) + 2)) ∧ Q1 κ 0 (ix (((f + 5) + (5 * j)) + 3)) = Q 28 0 (ix ((4 * j) + 3)) ∧ Q1 κ 0 (ix (((f + 5) + (5 * j)) + 4)) = 0
theorem v_6 {f v j c : Int32} (hf : 2504 ≤ f ∧ f ≤ 3444) (hv : 0 ≤ v ∧ v < 3) (hj : 0 ≤ j ∧ j < 3) (hn : ¬ j = v) (hc : 0 ≤ c ∧ c < 5) : 0 ≤ ((f + 5) + (5 * j)) + c ∧ ¬ ((f + 5) + (5 * v) ≤ ((f + 5) + (5 * j)) + c ∧ ((f + 5) + (5 * j)) + c ≤ ((f + 5) + (5 * v)) + 4) := by lia
theorem v_7 {f v j : Int32} (hf : 2504 ≤ f ∧ f ≤ 3444) (hv : 0 ≤ v ∧ v < 3) (hj : 0 ≤ j ∧ j < 3) (hn : ¬ j = v) : 0 ≤ (f + 5) + (5 * j) ∧ ¬ ((f + 5) + (5 * v) ≤ (f + 5) + (5 * j) ∧ (f + 5) + (5 * j) ≤ ((f + 5) + (5 * v)) + 4) := by lia
theorem v_8a {x y z u a : Int32} (h : ¬ (x ≤ a ∧ a < z)) (h1 : x ≤ y) (h2 : u < z) : ¬ (y ≤ a ∧ a ≤ u) := by lia
theorem v_8 {f v a : Int32} (hf : 2504 ≤ f ∧ f ≤ 3444) (hv : 0 ≤ v ∧ v < 3) (h : ¬ (f + 5 ≤ a ∧ a < f + 20)) : ¬ ((f + 5) + (5 * v) ≤ a ∧ a ≤ ((f + 5) + (5 * v)) + 4) := v_8a h (by lia) (by lia)
/-- the reference writes all arguments, and goes there -/
theorem m_362 {κ : Nat} {Q : VP} {s w x4 n ts tw t d f : Int32} (hκ : vlI κ = 3464) (h28 : ¬ κ = 28) (hf : 2504 ≤ f ∧ f ≤ 3444) (hn : 0 ≤ n ∧ n ≤ 3) (ht : 0 ≤ t ∧ t < 8) : ∃ Q1, ((∀ k x j, ¬ k = κ → Q1 k x j = Q k x j) ∧ (∀ a : Int32, 0 ≤ a → ¬ (f + 5 ≤ a ∧ a < f + 20) → Q1 κ 0 (ix a) = Q κ 0 (ix a)) ∧ ∀ j : Int32, 0 ≤ j → j < n → GJq Q1 Q κ f j) ∧ ∀ post : Int32 → VP → Prop, post 0 (MMq (vup Q1 κ 0 (ix (192 + t)) (d + 1)) κ ts tw t) → vL2 (F_X8_calls_l362 κ s w x4 n post ts tw t d f) 0 Q := by
  obtain ⟨⟨r, R⟩, g1, g2⟩ := lk2 (ρ := Int32 × VP) (fun p => F_X8_calls_l362 κ s w x4 n (fun r Q => p (r, Q)) ts tw t d f)
    (fun v Q' => (0 ≤ v ∧ v ≤ n) ∧ (∀ k x j, ¬ k = κ → Q' k x j = Q k x j) ∧ (∀ a : Int32, 0 ≤ a → ¬ (f + 5 ≤ a ∧ a < f + 20) → Q' κ 0 (ix a) = Q κ 0 (ix a)) ∧ ∀ j : Int32, 0 ≤ j → j < v → GJq Q' Q κ f j)
    (fun x => x.1 = 0 ∧ ∃ Q1, ((∀ k x j, ¬ k = κ → Q1 k x j = Q k x j) ∧ (∀ a : Int32, 0 ≤ a → ¬ (f + 5 ≤ a ∧ a < f + 20) → Q1 κ 0 (ix a) = Q κ 0 (ix a)) ∧ ∀ j : Int32, 0 ≤ j → j < n → GJq Q1 Q κ f j) ∧ x.2 = MMq (vup Q1 κ 0 (ix (192 + t)) (d + 1)) κ ts tw t) (fun v _ => ix (3 - v)) (fun v Q' ⟨⟨v0, vn⟩, e1, e2, e3⟩ => by
      by_cases hv : v < n
      · obtain ⟨w1, w2, w3, w4⟩ := u_6 v0 hv hn.2
        obtain ⟨hb, -, -, -⟩ := v_3 hf w2
        refine Or.inl ⟨v + 1, GIq Q' κ f v, ⟨w1, fun k x j hk => ?_, fun a a0 ha => ?_, fun j j0 jv => ?_⟩, ix_lt w3 w4, fun p X hX => ?_⟩
        · exact (G5q_k hk).trans (e1 k x j hk)
        · exact (G5q_ne hb a0 (v_8 hf w2 ha)).trans (e2 a a0 ha)
        · by_cases hj : j = v
          · subst hj
            obtain ⟨t0, t1, t2, t3, t4⟩ := G5q_at (Q := Q') (κ := κ) (g0 := Q' 28 0 (ix (4 * j))) (g1 := Q' 28 0 (ix ((4 * j) + 1))) (g2 := Q' 28 0 (ix ((4 * j) + 2))) (g3 := Q' 28 0 (ix ((4 * j) + 3))) (g4 := 0) hb
            have n28 := fun j => e1 28 0 j (fun q => h28 q.symm)
            exact ⟨t0.trans (n28 _), t1.trans (n28 _), t2.trans (n28 _), t3.trans (n28 _), t4⟩
          · have jv' := u_9 jv v0 w2.2 hj
            have j3 : 0 ≤ j ∧ j < 3 := ⟨j0, z_lt jv' (by lia)⟩
            obtain ⟨s0, s1, s2, s3, s4⟩ := e3 j j0 jv'
            have q := fun c hc => v_6 (c := c) hf w2 j3 hj hc
            have q0 := v_7 hf w2 j3 hj
            exact ⟨(G5q_ne hb q0.1 q0.2).trans s0, (G5q_ne hb (q 1 (by decide)).1 (q 1 (by decide)).2).trans s1, (G5q_ne hb (q 2 (by decide)).1 (q 2 (by decide)).2).trans s2, (G5q_ne hb (q 3 (by decide)).1 (q 3 (by decide)).2).trans s3, (G5q_ne hb (q 4 (by decide)).1 (q 4 (by decide)).2).trans s4⟩
        · unfold F_X8_calls_l362
          exact br_t hv (m_inner hκ h28 hf w2 _ X hX)
      · refine Or.inr ⟨(0, MMq (vup Q' κ 0 (ix (192 + t)) (d + 1)) κ ts tw t), ⟨rfl, Q', ⟨e1, e2, fun j j0 jn => e3 j j0 (by lia)⟩, rfl⟩, fun p X hp => ?_⟩
        unfold F_X8_calls_l362
        refine br_f hv ⟨vl_h hκ ht, fun Q440 h1 => ⟨vl_0 hκ (by decide), fun Q445 h2 => ⟨vl_0 hκ (by decide), fun Q450 h3 => ⟨vl_0 hκ (by decide), fun Q455 h4 => ?_⟩⟩⟩⟩
        subst h1 h2 h3 h4
        exact hp)
    (a1 := 0) (a2 := Q) ⟨⟨by decide, hn.1⟩, fun _ _ _ _ => rfl, fun _ _ _ => rfl, fun j j0 j1 => absurd j1 (by lia)⟩
  obtain ⟨rfl, Q1, g3, rfl⟩ := g1
  exact ⟨Q1, g3, fun post hp => g2 (fun x => post x.1 x.2) hp⟩
