/-! where a pointer leads: the three places of the walk, on both sides -/
theorem imax_a (a b c : Int32) : imax (imax a b) c = imax a (imax b c) := by
  unfold imax
  grind
theorem imax_in {a b : Int32} (ha : 0 ≤ a ∧ a < 8) (hb : 0 ≤ b ∧ b < 8) : 0 ≤ imax a b ∧ imax a b < 8 := by
  unfold imax
  grind
def LPc (P : VP) (i : Nat) (s w e : Int32) : VP := vup (vup (vup P 1 i 7 s) 1 i 8 w) 1 i 9 e
def LGm (Q : VP) (s w e : Int32) : VP := vup (vup (vup Q 22 0 13 e) 22 0 14 s) 22 0 15 w
theorem d_land {i κ y : Nat} {P Q : VP} {s w e a1 a2 a3 : Int32} (hκ : vlI κ = 3464) (hk : ¬ κ = 22) (hs : 0 ≤ s ∧ s < 16) (hw : 0 ≤ w ∧ w < 24) (h5 : P 7 y 5 = Q κ 0 (ix (112 + s))) (he : P 1 i 9 = e) (he' : Q 22 0 13 = e) (q1 : Q κ 0 (ix (wa s w + 1)) = a1) (q2 : Q κ 0 (ix (wa s w + 2)) = a2) (q3 : Q κ 0 (ix (wa s w + 3)) = a3) (r1 : 0 ≤ a1 ∧ a1 < 8) (r2 : 0 ≤ a2 ∧ a2 < 16) (r3 : 0 ≤ a3 ∧ a3 < 24) : (∀ (x2 x3 : Int32) (post : Int32 → VP → Prop), post 0 (LPc P i a2 a3 (imax e (imax a1 (Q κ 0 (ix (112 + s)))))) → F_X2_goThrough_b116 i y x2 x3 P post (1000 * a2 + 100 * a1 + a3)) ∧ (∀ (x2 : Int32) (post : Int32 → VP → Prop), post 0 (LGm Q a2 a3 (imax e (imax a1 (Q κ 0 (ix (112 + s)))))) → F_X8_through_b73 κ x2 Q post s w) := by
  obtain ⟨d1, d2, d3⟩ := dv_ptr r1 r2 r3
  refine ⟨fun x2 x3 post hp => ?_, fun x2 post hp => ?_⟩
  · unfold F_X2_goThrough_b116 F_X7_segmentIn F_X7_wordIn F_X7_ringIn
    rw [d1, d2, d3]
    intro P122 e1 P131 e2 P154 e3
    subst e1 e2
    rw [vup_ne (by omega), vup_ne (by omega), kup_ne (by decide), kup_ne (by decide), he, h5, imax_a] at e3
    subst e3
    exact hp
  · unfold F_X8_through_b73
    rw [hκ]
    have t1 := m_told (κ := κ) (Q := Q) (j := 1) hκ hs hw (by decide)
    rw [q1] at t1
    refine t1 _ ⟨z_bd (z_h (m := 7) hs (by decide) (by decide)), fun Q98 e1 => ?_⟩
    rw [he'] at e1
    subst e1
    have t2 := m_told (κ := κ) (Q := vup Q 22 0 13 (imax e (imax a1 (Q κ 0 (ix (112 + s)))))) (j := 2) hκ hs hw (by decide)
    rw [kup_ne hk, q2] at t2
    refine t2 _ (fun Q110 e2 => ?_)
    subst e2
    have t3 := m_told (κ := κ) (Q := vup (vup Q 22 0 13 (imax e (imax a1 (Q κ 0 (ix (112 + s)))))) 22 0 14 a2) (j := 3) hκ hs hw (by decide)
    rw [kup_ne hk, kup_ne hk, q3] at t3
    refine t3 _ (fun Q122 e3 => ?_)
    subst e3
    exact hp
