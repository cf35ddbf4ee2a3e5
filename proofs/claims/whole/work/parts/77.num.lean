/-! the text: numbers, letters: a part of a line -/
def VL (B : Int32 → Int32) (x n : Int32) : Int32 :=
  if n = 0 then 0 else if n = 1 then ((10 * 0) + B (x + 0)) - 48
  else if n = 2 then ((10 * (((10 * 0) + B (x + 0)) - 48)) + B (x + 1)) - 48
  else if n = 3 then ((10 * (((10 * (((10 * 0) + B (x + 0)) - 48)) + B (x + 1)) - 48)) + B (x + 2)) - 48
  else ((10 * (((10 * (((10 * (((10 * 0) + B (x + 0)) - 48)) + B (x + 1)) - 48)) + B (x + 2)) - 48)) + B (x + 3)) - 48
theorem q_1 {n : Int32} (h : 0 ≤ n ∧ n < 4) : n = 0 ∨ n = 1 ∨ n = 2 ∨ n = 3 := by lia
theorem VL_st {B : Int32 → Int32} {x n : Int32} (h : 0 ≤ n ∧ n < 4) : VL B x (n + 1) = ((10 * VL B x n) + B (x + n)) - 48 := by
  rcases q_1 h with rfl | rfl | rfl | rfl <;> rfl
theorem q_2 {n : Int32} (h : 1 ≤ n ∧ n ≤ 4) : n = 1 ∨ n = 2 ∨ n = 3 ∨ n = 4 := by lia
theorem VL_in {B : Int32 → Int32} {x n : Int32} (h : 1 ≤ n ∧ n ≤ 4) (hb : ∀ v : Int32, 0 ≤ v → v < n → 48 ≤ B (x + v) ∧ B (x + v) ≤ 57) : 0 ≤ VL B x n ∧ VL B x n ≤ 9999 := by
  have b0 := hb 0 (by decide) (by lia)
  rcases q_2 h with rfl | rfl | rfl | rfl
  · show 0 ≤ ((10 * 0) + B (x + 0)) - 48 ∧ ((10 * 0) + B (x + 0)) - 48 ≤ 9999
    lia
  · have b1 := hb 1 (by decide) (by decide)
    show 0 ≤ ((10 * (((10 * 0) + B (x + 0)) - 48)) + B (x + 1)) - 48 ∧ ((10 * (((10 * 0) + B (x + 0)) - 48)) + B (x + 1)) - 48 ≤ 9999
    lia
  · have b1 := hb 1 (by decide) (by decide)
    have b2 := hb 2 (by decide) (by decide)
    show 0 ≤ ((10 * (((10 * (((10 * 0) + B (x + 0)) - 48)) + B (x + 1)) - 48)) + B (x + 2)) - 48 ∧ ((10 * (((10 * (((10 * 0) + B (x + 0)) - 48)) + B (x + 1)) - 48)) + B (x + 2)) - 48 ≤ 9999
    have e0 : 0 ≤ ((10 * 0) + B (x + 0)) - 48 ∧ ((10 * 0) + B (x + 0)) - 48 ≤ 9 := by lia
    generalize ((10 * 0) + B (x + 0)) - 48 = u at e0 ⊢
    lia
  · have b1 := hb 1 (by decide) (by decide)
    have b2 := hb 2 (by decide) (by decide)
    have b3 := hb 3 (by decide) (by decide)
    show 0 ≤ ((10 * (((10 * (((10 * (((10 * 0) + B (x + 0)) - 48)) + B (x + 1)) - 48)) + B (x + 2)) - 48)) + B (x + 3)) - 48 ∧ ((10 * (((10 * (((10 * (((10 * 0) + B (x + 0)) - 48)) + B (x + 1)) - 48)) + B (x + 2)) - 48)) + B (x + 3)) - 48 ≤ 9999
    have e0 : 0 ≤ ((10 * 0) + B (x + 0)) - 48 ∧ ((10 * 0) + B (x + 0)) - 48 ≤ 9 := by lia
    generalize ((10 * 0) + B (x + 0)) - 48 = u at e0 ⊢
    have e1 : 0 ≤ ((10 * u) + B (x + 1)) - 48 ∧ ((10 * u) + B (x + 1)) - 48 ≤ 99 := by lia
    generalize ((10 * u) + B (x + 1)) - 48 = u1 at e1 ⊢
    have e2 : 0 ≤ ((10 * u1) + B (x + 2)) - 48 ∧ ((10 * u1) + B (x + 2)) - 48 ≤ 999 := by lia
    generalize ((10 * u1) + B (x + 2)) - 48 = u2 at e2 ⊢
    lia
theorem TB_of {P Q P1 Q1 : VP} {L : Int32} {B : Int32 → Int32} (h : TB P Q L B) (h1 : P1 17 0 1 = P 17 0 1) (h2 : ∀ j, P1 18 0 j = P 18 0 j) (h3 : Q1 22 0 7 = Q 22 0 7) (h4 : ∀ j, Q1 26 0 j = Q 26 0 j) : TB P1 Q1 L B := by
  unfold TB at h ⊢
  refine ⟨h1.trans h.1, h3.trans h.2.1, h.2.2.1, fun j j0 j1 => ?_, h.2.2.2.2⟩
  rw [h2, h4]
  exact h.2.2.2.1 j j0 j1
theorem q_3 {x y : Int32} (hx : 0 ≤ x) (hy : x ≤ y ∧ y ≤ 120) : x + (y - x) = y ∧ 0 ≤ y - x ∧ (y + 1) - x = (y - x) + 1 ∧ y - x ≤ 120 := by lia
theorem q_4 {y e : Int32} (h0 : 0 ≤ y) (h : y ≤ e ∧ e ≤ 120) (hn : ¬ y = e) : y < e ∧ (0 ≤ y + 1 ∧ y + 1 ≤ e) ∧ 0 ≤ e - (y + 1) ∧ e - (y + 1) < e - y ∧ y ≤ y + 1 := by lia
theorem q_5 {x y z : Int32} (h : x ≤ y) (h' : y ≤ z) : x ≤ z := by lia
theorem q_6 {n d : Int32} (h : ¬ n < d) (hd : d = 2 ∨ d = 4) (hn : n ≤ 120) (h' : n + 1 ≤ d) : False := by
  rcases hd with rfl | rfl <;> lia
theorem q_7 {n d : Int32} (h0 : 0 ≤ n) (h : n < d) (hd : d = 2 ∨ d = 4) : 0 ≤ n ∧ n < 4 := by
  rcases hd with rfl | rfl <;> lia
theorem q_8 {n : Int32} (h : ¬ n = 0) (h0 : 0 ≤ n) : 1 ≤ n := by lia
theorem c_number {P Q : VP} {L x e d most : Int32} {B : Int32 → Int32} (h : TB P Q L B) (hx : 0 ≤ x) (hat : P 17 0 6 = x) (hr : RU B L 48 57 x e) (hd : d = 2 ∨ d = 4) : ∃ v P1, (P1 17 0 6 = e ∧ (∀ k x' j, ¬ (k = 17 ∧ x' = 0 ∧ (j = 6 ∨ j = 7)) → P1 k x' j = P k x' j) ∧ ((1 ≤ e - x ∧ e - x ≤ d) ∧ VL B x (e - x) ≤ most → v = VL B x (e - x) ∧ P1 17 0 7 = P 17 0 7) ∧ (¬ ((1 ≤ e - x ∧ e - x ≤ d) ∧ VL B x (e - x) ≤ most) → P1 17 0 7 = x)) ∧ ∀ post : Int32 → VP → Prop, post v P1 → F_X5_readNumber d most P post := by
  obtain ⟨⟨r1, r2⟩, r3, r4⟩ := hr
  have e120 : e ≤ 120 := q_5 r2 h.2.2.1.2
  have e0 : 0 ≤ e := q_5 hx r1
  obtain ⟨⟨v, P1⟩, g1, g2⟩ := lk2 (ρ := Int32 × VP) (fun p => F_X5_readNumber_l8 d most (fun r P => p (r, P)) x)
    (fun v P' => (x ≤ P' 17 0 6 ∧ P' 17 0 6 ≤ e) ∧ (∀ k x' j, ¬ (k = 17 ∧ x' = 0 ∧ j = 6) → P' k x' j = P k x' j) ∧ (P' 17 0 6 - x ≤ d → v = VL B x (P' 17 0 6 - x)))
    (fun z => z.2 17 0 6 = e ∧ (∀ k x' j, ¬ (k = 17 ∧ x' = 0 ∧ (j = 6 ∨ j = 7)) → z.2 k x' j = P k x' j) ∧ ((1 ≤ e - x ∧ e - x ≤ d) ∧ VL B x (e - x) ≤ most → z.1 = VL B x (e - x) ∧ z.2 17 0 7 = P 17 0 7) ∧ (¬ ((1 ≤ e - x ∧ e - x ≤ d) ∧ VL B x (e - x) ≤ most) → z.2 17 0 7 = x)) (fun _ P' => ix (e - P' 17 0 6)) (fun v P' ⟨⟨y0, y1⟩, hf, hv⟩ => by
      have hT : TB P' Q L B := TB_of h (hf 17 0 1 (by omega)) (fun j => hf 18 0 j (by omega)) rfl (fun _ => rfl)
      have hy0 : 0 ≤ P' 17 0 6 := q_5 hx y0
      have cb := c_byte hT hy0
      have hlen := hT.1
      have f7 : P' 17 0 7 = P 17 0 7 := hf 17 0 7 (by omega)
      obtain ⟨a1, a2, a3, a4⟩ := q_3 hx ⟨y0, q_5 y1 e120⟩
      by_cases hye : P' 17 0 6 = e
      · have fin : ∀ p : Int32 × VP → Prop, F_X5_readNumber_b80 d most P' (fun r P => p (r, P)) x v → ∀ X, F_X5_readNumber_l8 d most (fun r P => p (r, P)) x X v P' := by
          intro p hb X
          unfold F_X5_readNumber_l8
          by_cases hl : P' 17 0 6 < P' 17 0 1
          · exact br_t hl (cb _ (c_isDigit.2 (by rw [hye]; exact r4) _ (br_t rfl hb)))
          · exact br_f hl hb
        have bad : ¬ ((1 ≤ e - x ∧ e - x ≤ d) ∧ VL B x (e - x) ≤ most) → vup P' 17 0 7 x 17 0 6 = e ∧ (∀ k x' j, ¬ (k = 17 ∧ x' = 0 ∧ (j = 6 ∨ j = 7)) → vup P' 17 0 7 x k x' j = P k x' j) ∧ ((1 ≤ e - x ∧ e - x ≤ d) ∧ VL B x (e - x) ≤ most → v = VL B x (e - x) ∧ vup P' 17 0 7 x 17 0 7 = P 17 0 7) ∧ (¬ ((1 ≤ e - x ∧ e - x ≤ d) ∧ VL B x (e - x) ≤ most) → vup P' 17 0 7 x 17 0 7 = x) := fun hn =>
          ⟨by rw [vup_ne (by omega)]; exact hye, fun k x' j hk => by rw [vup_ne (by omega)]; exact hf k x' j (by omega), fun q => absurd q hn, fun _ => vup_eq _ _ _ _ _⟩
        by_cases c1 : P' 17 0 6 = x
        · refine Or.inr ⟨(v, vup P' 17 0 7 x), bad (fun q => ?_), fun p X hp => fin p ?_ X⟩
          · rw [← hye, c1] at q
            exact absurd q.1.1 (by lia)
          · unfold F_X5_readNumber_b80
            refine br_t c1 (fun P106 e1 => ?_)
            subst e1
            exact hp
        · by_cases c2 : d < P' 17 0 6 - x
          · refine Or.inr ⟨(v, vup P' 17 0 7 x), bad (fun q => ?_), fun p X hp => fin p ?_ X⟩
            · rw [← hye] at q
              exact absurd q.1.2 (by lia)
            · unfold F_X5_readNumber_b80
              refine br_f c1 (br_t c2 (fun P106 e1 => ?_))
              subst e1
              exact hp
          · have hv' := hv (by lia)
            rw [hye] at hv'
            by_cases c3 : most < v
            · refine Or.inr ⟨(v, vup P' 17 0 7 x), bad (fun q => ?_), fun p X hp => fin p ?_ X⟩
              · rw [← hv'] at q
                exact absurd q.2 (by lia)
              · unfold F_X5_readNumber_b80
                refine br_f c1 (br_f c2 (br_t c3 (fun P106 e1 => ?_)))
                subst e1
                exact hp
            · have ok : (1 ≤ e - x ∧ e - x ≤ d) ∧ VL B x (e - x) ≤ most := by
                refine ⟨⟨?_, ?_⟩, ?_⟩
                · rw [← hye]; exact q_8 (fun q => c1 (by lia)) a2
                · rw [← hye]; lia
                · rw [← hv']; lia
              refine Or.inr ⟨(v, P'), ⟨hye, fun k x' j hk => hf k x' j (by omega), fun _ => ⟨hv', f7⟩, fun q => absurd ok q⟩, fun p X hp => fin p ?_ X⟩
              unfold F_X5_readNumber_b80
              exact br_f c1 (br_f c2 (br_f c3 hp))
      · obtain ⟨z1, ⟨z2, z3⟩, z4, z5, z6⟩ := q_4 hy0 ⟨y1, e120⟩ hye
        have hb := r3 (P' 17 0 6) y0 z1
        have hl : P' 17 0 6 < P' 17 0 1 := by rw [hlen]; exact z_lt z1 r2
        refine Or.inl ⟨if P' 17 0 6 - x < d then ((10 * v) + B (P' 17 0 6)) - 48 else v, vup P' 17 0 6 (P' 17 0 6 + 1), ⟨by rw [vup_eq]; exact ⟨q_5 y0 z6, z3⟩, fun k x' j hk => by rw [vup_ne (by omega)]; exact hf k x' j hk, ?_⟩, by rw [vup_eq]; exact ix_lt z4 z5, fun p X hX => ?_⟩
        · rw [vup_eq]
          intro hle
          by_cases hlt : P' 17 0 6 - x < d
          · rw [if_pos hlt, a3, VL_st (q_7 a2 hlt hd), a1, hv (by lia)]
          · rw [a3] at hle
            exact (q_6 hlt hd a4 hle).elim
        · unfold F_X5_readNumber_l8
          refine br_t hl (cb _ (c_isDigit.1 hb _ (br_f (by decide) ?_)))
          by_cases hlt : P' 17 0 6 - x < d
          · rw [if_pos hlt] at hX
            refine br_t hlt (cb _ (fun P74 e1 => ?_))
            subst e1
            exact hX
          · rw [if_neg hlt] at hX
            refine br_f hlt (fun P74 e1 => ?_)
            subst e1
            exact hX)
    (a1 := 0) (a2 := P) ⟨by rw [hat]; exact ⟨by lia, r1⟩, fun _ _ _ _ => rfl, fun _ => by rw [hat]; have : x - x = 0 := by lia
                                                                                          rw [this]; rfl⟩
  refine ⟨v, P1, g1, fun post hp => ?_⟩
  unfold F_X5_readNumber
  rw [hat]
  exact g2 (fun z => post z.1 z.2) hp
