/-! runs: drive ~ runs; run, dry, operand -/
theorem y_1 {a n : Int32} (h0 : 0 ≤ a) (h : a < n) : 0 ≤ a + 1 ∧ 0 ≤ n - (a + 1) ∧ n - (a + 1) < n - a := by lia
def KS (κ : Nat) (Q Q1 : VP) : Prop := ∀ k x j, ¬ k = κ → ¬ (k = 22 ∧ 13 ≤ j ∧ j ≤ 17) → ¬ k = 28 → Q1 k x j = Q k x j
theorem KS_R {κ : Nat} {Q Q1 Q2 : VP} (h : KS κ Q Q1) (h' : KR κ Q1 Q2) : KS κ Q Q2 := fun k x j a b c => (h' k x j a (by omega) c).trans (h k x j a b c)
theorem RM_11 {i κ : Nat} {P Q : VP} {v : Int32} (h : RM i κ P Q) : RM i κ (vup P 1 i 11 v) Q := by
  have hS := RSw_of h
  exact RM_mk ⟨(vup_ne (by omega)).trans hS.1, (vup_ne (by omega)).trans hS.2.1, (vup_ne (by omega)).trans hS.2.2.1, hS.2.2.2⟩ ((vup_ne (by omega)).trans h.1.2.1) (RN_eq (RN_of h) (fun k x j hk => kup_ne hk) (fun _ _ _ => rfl))
theorem RM_17 {i κ : Nat} {P Q : VP} {v : Int32} {j : Nat} (hk22 : ¬ κ = 22) (h : RM i κ P Q) : RM i κ P (vup Q 22 0 j v) := RM_q h (fun a _ _ => kup_ne hk22)
theorem d_drive {i κ : Nat} {P Q : VP} (hB : BI P) (hM : RM i κ P Q) (hκ : vlI κ = 3464) (h28 : ¬ κ = 28) (hk22 : ¬ κ = 22) (n : Int32) : ∃ r P1 Q1, (KP i P P1 ∧ KS κ Q Q1 ∧ BI P1 ∧ RM i κ P1 Q1 ∧ P1 1 i 11 = Q1 22 0 17) ∧ Am (F_X2_drive i n P) r P1 ∧ Am (F_X8_runs κ n Q) r Q1 := by
  obtain ⟨r, P1, Q1, g1, g2, g3⟩ := lq2_2 (ρ := Int32) (F_X2_drive_l7 i n) (F_X8_runs_l7 κ n)
    (fun a P' b Q' => a = b ∧ 0 ≤ a ∧ KP i P P' ∧ KS κ Q Q' ∧ BI P' ∧ RM i κ P' Q' ∧ P' 1 i 11 = 0 ∧ Q' 22 0 17 = 0)
    (fun r P1 Q1 => KP i P P1 ∧ KS κ Q Q1 ∧ BI P1 ∧ RM i κ P1 Q1 ∧ P1 1 i 11 = Q1 22 0 17) (fun a _ => ix (n - a)) (fun a P' b Q' ⟨hab, a0, hK, hKS, hB', hM', h11, h17⟩ => by
      subst hab
      by_cases hv : a < n
      · obtain ⟨w1, w2, w3⟩ := y_1 a0 hv
        obtain ⟨r, P2, Q2, ⟨hA, c1, c2⟩, f1, f2⟩ := d_step hB' hM' hκ h28 hk22
        have hK2 : KP i P P2 := fun k x j hk => (hA.1 k x j hk).trans (hK k x j hk)
        have hKS2 := KS_R hKS hA.2.1
        have q17 : Q2 22 0 17 = 0 := (hA.2.1 22 0 17 (fun q => hk22 q.symm) (by omega) (by decide)).trans h17
        have cl : ∀ (p : Int32 → VP → Prop) (X : Int32 → VP → Prop), F_X2_drive_b57 i n P2 p X a (P' 1 i 3) r → F_X2_drive_l7 i n p X a P' := by
          intro p X h
          unfold F_X2_drive_l7
          exact br_t hv (f1 (fun r54 P54 => F_X2_drive_b57 i n P54 p X a (P' 1 i 3) r54) h)
        by_cases h0 : r = 0
        · have hM2 := RM_mk hA.2.2.2.2 (c2 h0) hA.2.2.2.1
          refine Or.inl ⟨a + 1, vup P2 1 i 11 r, a + 1, Q2, ⟨rfl, w1, KP_1 hK2, hKS2, BI_eq hA.2.2.1 (fun k x j k0 _ => kup_ne (by omega)), RM_11 hM2, by rw [vup_eq]; exact h0, q17⟩, ix_lt w2 w3, fun p X hX => cl p X ?_, fun p X hX => ?_⟩
          · unfold F_X2_drive_b57
            intro P57 e
            subst e
            exact br_t (by rw [vup_eq]; exact h0) hX
          · unfold F_X8_runs_l7
            exact br_t hv (f2 _ (br_t h0 hX))
        · have hS2 := hA.2.2.2.2
          have hM2 : RM i κ (vup (vup P2 1 i 11 r) 1 i 3 (P' 1 i 3)) (vup Q2 22 0 17 r) := by
            refine RM_17 hk22 (RM_mk ⟨?_, ?_, ?_, hS2.2.2.2⟩ ?_ (RN_eq hA.2.2.2.1 (fun k x j hk => by rw [kup_ne hk, kup_ne hk]) (fun _ _ _ => rfl)))
            · rw [vup_ne (by omega), vup_ne (by omega)]; exact hS2.1
            · rw [vup_ne (by omega), vup_ne (by omega)]; exact hS2.2.1
            · rw [vup_ne (by omega), vup_ne (by omega)]; exact hS2.2.2.1
            · rw [vup_eq, c1 h0]; exact hM'.1.2.1
          have e11 : vup (vup P2 1 i 11 r) 1 i 3 (P' 1 i 3) 1 i 11 = r := by rw [vup_ne (by omega), vup_eq]
          have res : KP i P (vup (vup P2 1 i 11 r) 1 i 3 (P' 1 i 3)) ∧ KS κ Q (vup Q2 22 0 17 r) ∧ BI (vup (vup P2 1 i 11 r) 1 i 3 (P' 1 i 3)) ∧ RM i κ (vup (vup P2 1 i 11 r) 1 i 3 (P' 1 i 3)) (vup Q2 22 0 17 r) ∧ vup (vup P2 1 i 11 r) 1 i 3 (P' 1 i 3) 1 i 11 = vup Q2 22 0 17 r 22 0 17 :=
            ⟨KP_1 (KP_1 hK2), fun k x j a b c => by rw [vup_ne (by omega)]; exact hKS2 k x j a b c, BI_eq hA.2.2.1 (fun k x j k0 _ => by rw [kup_ne (by omega), kup_ne (by omega)]), hM2, by rw [e11, vup_eq]⟩
          by_cases h1 : r = 1
          · refine Or.inr ⟨a + 1, _, _, res, fun p X hp => cl p X ?_, fun p X hp => ?_⟩
            · unfold F_X2_drive_b57
              intro P57 e
              subst e
              refine br_f (by rw [vup_eq]; exact h0) (fun P69 e => ?_)
              subst e
              exact br_t (by rw [e11]; exact h1) hp
            · unfold F_X8_runs_l7
              refine br_t hv (f2 _ (br_f h0 (fun Q27 e => ?_)))
              subst e
              exact br_t h1 hp
          · refine Or.inr ⟨a, _, _, res, fun p X hp => cl p X ?_, fun p X hp => ?_⟩
            · unfold F_X2_drive_b57
              intro P57 e
              subst e
              refine br_f (by rw [vup_eq]; exact h0) (fun P69 e => ?_)
              subst e
              exact br_f (by rw [e11]; exact h1) hp
            · unfold F_X8_runs_l7
              refine br_t hv (f2 _ (br_f h0 (fun Q27 e => ?_)))
              subst e
              exact br_f h1 hp
      · refine Or.inr ⟨n, P', Q', ⟨hK, hKS, hB', hM', h11.trans h17.symm⟩, fun p X hp => ?_, fun p X hp => ?_⟩
        · unfold F_X2_drive_l7
          exact br_f hv hp
        · unfold F_X8_runs_l7
          exact br_f hv hp)
    (a1 := 0) (a2 := vup P 1 i 11 0) (b1 := 0) (b2 := vup Q 22 0 17 0) ⟨rfl, by decide, KP_1 (fun _ _ _ _ => rfl), fun k x j a b c => vup_ne (by omega), BI_eq hB (fun k x j k0 _ => kup_ne (by omega)), RM_17 hk22 (RM_11 hM), vup_eq _ _ _ _ _, vup_eq _ _ _ _ _⟩
  refine ⟨r, P1, Q1, g1, fun p hp => ?_, fun p hp => ?_⟩
  · unfold F_X2_drive
    intro P2 e
    subst e
    exact g2 p hp
  · unfold F_X8_runs
    intro Q2 e
    subst e
    exact g3 p hp
theorem y_2 {x : Int32} (h : 1 ≤ x ∧ x ≤ 200) : ¬ x < 1 ∧ ¬ 200 < x := by lia
theorem y_3 {x : Int32} (h : ¬ (1 ≤ x ∧ x ≤ 200)) (h1 : ¬ x < 1) : 200 < x := by lia
theorem D_run {P Q : VP} (h : RR P Q) (x1 : Int32) : ∃ r P1 Q1, RR P1 Q1 ∧ Am (F_X7_run x1 P) r P1 ∧ Am (F_X8_run x1 Q) r Q1 := by
  obtain ⟨hB, hM, ⟨t1, t2, t3⟩, hK, r1, r2, r3⟩ := id h
  by_cases hx : 1 ≤ x1 ∧ x1 ≤ 200
  · obtain ⟨r, P1, Q1, ⟨k1, k2, k3, k4, k5⟩, g2, g3⟩ := d_drive hB hM rfl (by decide) (by decide) x1
    have hP : ∀ k x j, ¬ (own k x = 0 ∧ 1 ≤ k ∧ k ≤ 16) → ¬ k = 0 → vup P1 0 0 5 (P1 1 0 11) k x j = P k x j := fun k x j a b => by
      rw [kup_ne b]; exact k1 k x j a
    have hQ : ∀ k x j, ¬ k = 23 → ¬ (k = 22 ∧ 13 ≤ j ∧ j ≤ 17) → ¬ (k = 22 ∧ j = 4) → ¬ k = 28 → vup Q1 22 0 4 (Q1 22 0 17) k x j = Q k x j := fun k x j a b c d => by
      rw [vup_ne (by omega)]; exact k2 k x j a b d
    have hM0 : RM 0 23 (vup P1 0 0 5 (P1 1 0 11)) (vup Q1 22 0 4 (Q1 22 0 17)) := RM_17 (by decide) (RM_oth k4 (fun k x j _ b _ => kup_ne (by omega)) (fun _ => rfl))
    refine ⟨r, vup P1 0 0 5 (P1 1 0 11), vup Q1 22 0 4 (Q1 22 0 17), ⟨BI_eq k3 (fun k x j a _ => kup_ne (by omega)), hM0, ⟨?_, ?_, ?_⟩, fun q => ?_, ?_, ?_, fun j j0 j1 => ?_⟩, fun p hp => ?_, fun p hp => ?_⟩
    · rw [vup_ne (by omega), k1 0 0 4 (by omega), hQ 22 0 3 (by decide) (by omega) (by omega) (by decide)]; exact t1
    · rw [vup_ne (by omega), k1 0 0 4 (by omega)]; exact t2
    · rw [vup_eq, vup_eq]; exact k5
    · rw [vup_ne (by omega), k1 0 0 4 (by omega)] at q
      exact RM_oth (hK q) (fun k x j a b c => hP k x j (by omega) (by omega)) (fun j => hQ 25 0 j (by decide) (by omega) (by omega) (by decide))
    · rw [hP 17 0 1 (by omega) (by decide), hQ 22 0 6 (by decide) (by omega) (by omega) (by decide)]; exact r1
    · rw [hQ 22 0 6 (by decide) (by omega) (by omega) (by decide)]; exact r2
    · rw [hQ 22 0 6 (by decide) (by omega) (by omega) (by decide)] at j1
      rw [hP 18 0 _ (by omega) (by decide), hQ 26 0 _ (by decide) (by omega) (by omega) (by decide)]; exact r3 j j0 j1
    · unfold F_X7_run
      refine br_f (y_2 hx).1 (br_f (y_2 hx).2 (g2 _ (fun P31 e => ?_)))
      subst e
      exact hp
    · unfold F_X8_run
      refine m_inT (x := x1) (lo := 1) (hi := 200) hx _ (br_f (by decide) (g3 _ (fun Q29 e => ?_)))
      subst e
      exact hp
  · refine ⟨-1, P, Q, h, fun p hp => ?_, fun p hp => ?_⟩
    · unfold F_X7_run
      by_cases h1 : x1 < 1
      · exact br_t h1 hp
      · exact br_f h1 (br_t (y_3 hx h1) hp)
    · unfold F_X8_run
      exact m_inF (x := x1) (lo := 1) (hi := 200) hx _ (br_t rfl hp)
/-- what is thought leaves the relation -/
theorem RR_th {P Q P1 Q1 : VP} (h : RR P Q) (hB : BI P1) (hp : ∀ k x j, ¬ (own k x = 2 ∧ 1 ≤ k ∧ k ≤ 16) → P1 k x j = P k x j) (hq : ∀ k x j, ¬ k = 24 → ¬ (k = 22 ∧ 13 ≤ j ∧ j ≤ 17) → ¬ k = 28 → Q1 k x j = Q k x j) : RR P1 Q1 := by
  obtain ⟨-, hM, ⟨t1, t2, t3⟩, hK, r1, r2, r3⟩ := h
  refine ⟨hB, RM_oth hM (fun k x j a b c => hp k x j (by omega)) (fun j => hq 23 0 j (by decide) (by omega) (by decide)), ⟨?_, ?_, ?_⟩, fun q => ?_, ?_, ?_, fun j j0 j1 => ?_⟩
  · rw [hp 0 0 4 (by omega), hq 22 0 3 (by decide) (by omega) (by decide)]; exact t1
  · rw [hp 0 0 4 (by omega)]; exact t2
  · rw [hp 0 0 5 (by omega), hq 22 0 4 (by decide) (by omega) (by decide)]; exact t3
  · rw [hp 0 0 4 (by omega)] at q
    exact RM_oth (hK q) (fun k x j a b c => hp k x j (by omega)) (fun j => hq 25 0 j (by decide) (by omega) (by decide))
  · rw [hp 17 0 1 (by omega), hq 22 0 6 (by decide) (by omega) (by decide)]; exact r1
  · rw [hq 22 0 6 (by decide) (by omega) (by decide)]; exact r2
  · rw [hq 22 0 6 (by decide) (by omega) (by decide)] at j1
    rw [hp 18 0 _ (by omega), hq 26 0 _ (by decide) (by omega) (by decide)]; exact r3 j j0 j1
theorem y_4 {v : Int32} (h0 : 0 ≤ v) (h : v < 8) : (0 ≤ v + 1 ∧ v + 1 ≤ 8) ∧ (0 ≤ 192 + v ∧ 192 + v < 3464) ∧ 0 ≤ 8 - (v + 1) ∧ 8 - (v + 1) < 8 - v := by lia
/-- all frames; and the reference's loop, whatever is asked -/
theorem d_frames {P Q : VP} (hF : RF 2 24 P Q) (x1 : Int32) : ∃ t, An (F_X4_framesOfAll 2 P) t ∧ ∀ (x2 : Int32) (post : Int32 → VP → Prop) (v3 : Int32), ((x2 = 0 → post v3 Q) ∧ (¬ x2 = 0 → (x2 = 1 → post (Q 22 0 17) Q) ∧ (¬ x2 = 1 → (x2 = 2 → post (Q 24 0 (ix ((6 : Int32)))) Q) ∧ (¬ x2 = 2 → (x2 = 3 → post (Q 24 0 (ix ((5 : Int32)))) Q) ∧ (¬ x2 = 3 → post t Q))))) → vL2 (F_X8_dry_l54 x1 x2 Q post v3) 0 0 := by
  obtain ⟨t, -, h1, h2⟩ := lk2_2 (ρ := Int32) (F_X4_framesOfAll_l4 2 P) (fun p X v4 v5 => (v5 < 8 → X (v4 + Q 24 0 (ix (192 + v5))) (v5 + 1)) ∧ (¬ v5 < 8 → p v4)) (fun u s u' s' => u = u' ∧ s = s' ∧ 0 ≤ s ∧ s ≤ 8) (fun _ => True) (fun u s => ix (8 - s)) (fun u s u' s' ⟨e1, e2, s0, s8⟩ => by
    subst e1 e2
    by_cases hs : s < 8
    · obtain ⟨w1, w2, w3, w4⟩ := y_4 s0 hs
      have e := (hF s s0 hs).1
      refine Or.inl ⟨u + Q 24 0 (ix (192 + s)), s + 1, u + Q 24 0 (ix (192 + s)), s + 1, ⟨rfl, rfl, w1.1, w1.2⟩, ix_lt w3 w4, fun p X hX => ?_, fun p X hX => br_t hs hX⟩
      unfold F_X4_framesOfAll_l4
      rw [e]
      exact br_t hs ⟨⟨s0, hs⟩, hX⟩
    · refine Or.inr ⟨u, trivial, fun p X hp => ?_, fun p X hp => br_f hs hp⟩
      unfold F_X4_framesOfAll_l4
      exact br_f hs hp) (a1 := 0) (a2 := 0) (b1 := 0) (b2 := 0) ⟨rfl, rfl, by decide, by decide⟩
  refine ⟨t, fun p hp => ?_, fun x2 post v3 hp => ?_⟩
  · unfold F_X4_framesOfAll
    exact h1 p hp
  · have h3 : vL2 (fun (X : Int32 → Int32 → Prop) v4 v5 => (v5 < 8 → X (v4 + Q 24 0 (ix (192 + v5))) (v5 + 1)) ∧ (¬ v5 < 8 → (x2 = 0 → post v3 Q) ∧ (¬ x2 = 0 → (x2 = 1 → post (Q 22 0 17) Q) ∧ (¬ x2 = 1 → (x2 = 2 → post (Q 24 0 (ix ((6 : Int32)))) Q) ∧ (¬ x2 = 2 → (x2 = 3 → post (Q 24 0 (ix ((5 : Int32)))) Q) ∧ (¬ x2 = 3 → post v4 Q)))))) 0 0 :=
      h2 (fun v4 => (x2 = 0 → post v3 Q) ∧ (¬ x2 = 0 → (x2 = 1 → post (Q 22 0 17) Q) ∧ (¬ x2 = 1 → (x2 = 2 → post (Q 24 0 (ix ((6 : Int32)))) Q) ∧ (¬ x2 = 2 → (x2 = 3 → post (Q 24 0 (ix ((5 : Int32)))) Q) ∧ (¬ x2 = 3 → post v4 Q))))) hp
    obtain ⟨m, hm⟩ := h3
    refine ⟨m, ?_⟩
    have key : ∀ m (v4 v5 : Int32), 0 ≤ v5 → vl2 (fun (X : Int32 → Int32 → Prop) v4 v5 => (v5 < 8 → X (v4 + Q 24 0 (ix (192 + v5))) (v5 + 1)) ∧ (¬ v5 < 8 → (x2 = 0 → post v3 Q) ∧ (¬ x2 = 0 → (x2 = 1 → post (Q 22 0 17) Q) ∧ (¬ x2 = 1 → (x2 = 2 → post (Q 24 0 (ix ((6 : Int32)))) Q) ∧ (¬ x2 = 2 → (x2 = 3 → post (Q 24 0 (ix ((5 : Int32)))) Q) ∧ (¬ x2 = 3 → post v4 Q)))))) m v4 v5 → vl2 (F_X8_dry_l54 x1 x2 Q post v3) m v4 v5 := by
      intro m
      induction m with
      | zero => intro v4 v5 _ h; exact h
      | succ m ih =>
        intro v4 v5 v0 h
        show F_X8_dry_l54 x1 x2 Q post v3 (vl2 (F_X8_dry_l54 x1 x2 Q post v3) m) v4 v5
        obtain ⟨g1, g2⟩ := h
        unfold F_X8_dry_l54
        by_cases hv : v5 < 8
        · obtain ⟨w1, w2, w3, w4⟩ := y_4 v0 hv
          exact br_t hv ⟨w2, ih _ _ w1.1 (g1 hv)⟩
        · obtain ⟨c0, c1⟩ := g2 hv
          exact br_f hv ⟨c0, fun n0 => ⟨(c1 n0).1, fun n1 => ⟨fun n2 => ⟨by decide, ((c1 n0).2 n1).1 n2⟩, fun n2 => ⟨fun n3 => ⟨by decide, (((c1 n0).2 n1).2 n2).1 n3⟩, fun n3 => (((c1 n0).2 n1).2 n2).2 n3⟩⟩⟩⟩
    exact key m 0 0 (by decide) hm
theorem D_dry {P Q : VP} (h : RR P Q) (x1 x2 : Int32) : ∃ r P1 Q1, RR P1 Q1 ∧ Am (F_X7_dry x1 x2 P) r P1 ∧ Am (F_X8_dry x1 x2 Q) r Q1 := by
  have hM := h.2.1
  by_cases hx : 1 ≤ x1 ∧ x1 ≤ 200
  · by_cases hy : 0 ≤ x2 ∧ x2 < 5
    · obtain ⟨P8, ⟨c1, c2, c3⟩, c4⟩ := c_copyMachine (o := 2) (by decide) h.1 hM
      obtain ⟨Q8, ⟨z1, z2⟩, z3⟩ := m_copies (k0 := 23) (k1 := 24) (Q := Q) (by decide) rfl rfl
      have hM2 : RM 2 24 P8 Q8 := RM_arr c3 z2
      obtain ⟨r, P1, Q1, ⟨k1, k2, k3, k4, k5⟩, g2, g3⟩ := d_drive c2 hM2 rfl (by decide) (by decide) x1
      obtain ⟨t, f1, f2⟩ := d_frames k4.2.2.2.2 x1
      have hR : RR P1 Q1 := RR_th h k3 (fun k x j a => (k1 k x j a).trans (c1 k x j a)) (fun k x j a b c => (k2 k x j a b c).trans (z1 k x j a))
      obtain ⟨s1, s2, s3, s4, -⟩ := k4.1
      have cl : ∀ p : Int32 → VP → Prop, ((x2 = 0 → p r P1) ∧ (¬ x2 = 0 → (x2 = 1 → p (P1 1 2 11) P1) ∧ (¬ x2 = 1 → (x2 = 2 → p (P1 1 2 5) P1) ∧ (¬ x2 = 2 → (x2 = 3 → p (P1 1 2 4) P1) ∧ (¬ x2 = 3 → p t P1))))) → F_X7_dry x1 x2 P p := by
        intro p hp
        unfold F_X7_dry
        refine br_f (y_2 hx).1 (br_f (y_2 hx).2 (c_belowT hy _ (br_f (by decide) (c4 _ (g2 _ ?_)))))
        exact ⟨hp.1, fun n0 => ⟨(hp.2 n0).1, fun n1 => ⟨((hp.2 n0).2 n1).1, fun n2 => ⟨(((hp.2 n0).2 n1).2 n2).1, fun n3 => f1 _ ((((hp.2 n0).2 n1).2 n2).2 n3)⟩⟩⟩⟩
      have ml : ∀ p : Int32 → VP → Prop, ((x2 = 0 → p r Q1) ∧ (¬ x2 = 0 → (x2 = 1 → p (Q1 22 0 17) Q1) ∧ (¬ x2 = 1 → (x2 = 2 → p (Q1 24 0 (ix ((6 : Int32)))) Q1) ∧ (¬ x2 = 2 → (x2 = 3 → p (Q1 24 0 (ix ((5 : Int32)))) Q1) ∧ (¬ x2 = 3 → p t Q1))))) → F_X8_dry x1 x2 Q p := by
        intro p hp
        unfold F_X8_dry
        exact m_inT (x := x1) (lo := 1) (hi := 200) hx _ (br_f (by decide) (m_inT (x := x2) (lo := 0) (hi := 4) ⟨hy.1, by lia⟩ _ (br_f (by decide) (z3 _ (g3 _ (f2 x2 p r hp))))))
      by_cases n0 : x2 = 0
      · exact ⟨r, P1, Q1, hR, fun p hp => cl p (br_t n0 hp), fun p hp => ml p (br_t n0 hp)⟩
      · by_cases n1 : x2 = 1
        · exact ⟨P1 1 2 11, P1, Q1, hR, fun p hp => cl p (br_f n0 (br_t n1 hp)), fun p hp => ml p (br_f n0 (br_t n1 (by rw [← k5]; exact hp)))⟩
        · by_cases n2 : x2 = 2
          · exact ⟨P1 1 2 5, P1, Q1, hR, fun p hp => cl p (br_f n0 (br_f n1 (br_t n2 hp))), fun p hp => ml p (br_f n0 (br_f n1 (br_t n2 (by rw [← s4]; exact hp))))⟩
          · by_cases n3 : x2 = 3
            · exact ⟨P1 1 2 4, P1, Q1, hR, fun p hp => cl p (br_f n0 (br_f n1 (br_f n2 (br_t n3 hp)))), fun p hp => ml p (br_f n0 (br_f n1 (br_f n2 (br_t n3 (by rw [← s3]; exact hp)))))⟩
            · exact ⟨t, P1, Q1, hR, fun p hp => cl p (br_f n0 (br_f n1 (br_f n2 (br_f n3 hp)))), fun p hp => ml p (br_f n0 (br_f n1 (br_f n2 (br_f n3 hp))))⟩
    · refine ⟨-2000000000, P, Q, h, fun p hp => ?_, fun p hp => ?_⟩
      · unfold F_X7_dry
        exact br_f (y_2 hx).1 (br_f (y_2 hx).2 (c_belowF hy _ (br_t rfl hp)))
      · unfold F_X8_dry
        exact m_inT (x := x1) (lo := 1) (hi := 200) hx _ (br_f (by decide) (m_inF (x := x2) (lo := 0) (hi := 4) (by lia) _ (br_t rfl hp)))
  · refine ⟨-2000000000, P, Q, h, fun p hp => ?_, fun p hp => ?_⟩
    · unfold F_X7_dry
      by_cases h1 : x1 < 1
      · exact br_t h1 hp
      · exact br_f h1 (br_t (y_3 hx h1) hp)
    · unfold F_X8_dry
      exact m_inF (x := x1) (lo := 1) (hi := 200) hx _ (br_t rfl hp)
