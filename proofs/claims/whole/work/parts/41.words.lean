/-! one word written on both sides: number, pointer, link, act -/
theorem dvm {x d : Int32} {D : Int} (hx : 0 ≤ x) (hd : d.toInt = D) (h1 : 1 < D) (h2 : D ≤ 1000) : 0 ≤ x / d ∧ 0 ≤ x - x / d * d ∧ x - x / d * d < d ∧ (x / d).toInt = x.toInt / D := by
  have hd1 : d ≠ -1 := by intro q; rw [q] at hd; have : (-1 : Int32).toInt = -1 := by decide
                          omega
  have e := Int32.toInt_div_of_ne_right x d hd1
  have hx' := (Int32.le_iff_toInt_le).1 hx
  have z0 : (0 : Int32).toInt = 0 := rfl
  rw [z0] at hx'
  have hb := Int32.toInt_lt x
  rw [Int.tdiv_eq_ediv_of_nonneg hx', hd] at e
  have q0 : 0 ≤ x.toInt / D := Int.ediv_nonneg hx' (by omega)
  have q1 : x.toInt / D * D ≤ x.toInt := Int.ediv_mul_le _ (by omega)
  have q2 : 0 ≤ x.toInt / D * D := Int.mul_nonneg q0 (by omega)
  have q3 : x.toInt < x.toInt / D * D + D := by
    have := Int.lt_ediv_add_one_mul_self x.toInt (show 0 < D by omega)
    rw [Int.add_mul] at this; omega
  have m : (x / d * d).toInt = x.toInt / D * D := by
    rw [Int32.toInt_mul, e, hd]
    exact Int.bmod_eq_of_le (by omega) (by omega)
  have s : (x - x / d * d).toInt = x.toInt - x.toInt / D * D := by
    rw [Int32.toInt_sub, m]
    exact Int.bmod_eq_of_le (by omega) (by omega)
  refine ⟨?_, ?_, ?_, e⟩
  · rw [Int32.le_iff_toInt_le, e, z0]; exact q0
  · rw [Int32.le_iff_toInt_le, s, z0]; omega
  · rw [Int32.lt_iff_toInt_lt, s, hd]; omega
theorem dv_1000 {x : Int32} (hx : 0 ≤ x) : x / 100 / 10 = x / 1000 := by
  have a := dvm (d := 100) (D := 100) hx rfl (by decide) (by decide)
  have b := dvm (d := 10) (D := 10) a.1 rfl (by decide) (by decide)
  have c := dvm (d := 1000) (D := 1000) hx rfl (by decide) (by decide)
  apply Int32.toInt_inj.1
  rw [b.2.2.2, a.2.2.2, c.2.2.2]
  omega
theorem dv_in {x : Int32} (hx : 0 ≤ x) : 0 ≤ x / 1000 ∧ (0 ≤ (x / 100) - (x / 100) / 10 * 10) ∧ (0 ≤ x - x / 100 * 100 ∧ x - x / 100 * 100 < 100) ∧ x = 1000 * (x / 1000) + 100 * ((x / 100) - (x / 100) / 10 * 10) + (x - x / 100 * 100) := by
  have a := dvm (d := 100) (D := 100) hx rfl (by decide) (by decide)
  have b := dvm (d := 10) (D := 10) a.1 rfl (by decide) (by decide)
  have c := dvm (d := 1000) (D := 1000) hx rfl (by decide) (by decide)
  refine ⟨c.1, b.2.1, ⟨a.2.1, a.2.2.1⟩, ?_⟩
  rw [dv_1000 hx]
  generalize x / 100 = u
  generalize x / 1000 = w
  clear a b c
  lia
def WP (P : VP) (y : Nat) (w k v n : Int32) : VP := vup (vup (vup P 8 y (ix w) k) 9 y (ix w) v) 10 y (ix w) n
def WQ (Q : VP) (κ : Nat) (s w a0 a1 a2 a3 a4 a5 : Int32) : VP := vup (vup (vup (vup (vup (vup Q κ 0 (ix (wa s w)) a0) κ 0 (ix (wa s w + 1)) a1) κ 0 (ix (wa s w + 2)) a2) κ 0 (ix (wa s w + 3)) a3) κ 0 (ix (wa s w + 4)) a4) κ 0 (ix (wa s w + 5)) a5
theorem z_wc {s w j : Int32} (hs : 0 ≤ s ∧ s < 16) (hw : 0 ≤ w ∧ w < 24) (hj : 0 ≤ j ∧ j < 6) : 0 ≤ wa s w + j ∧ wa s w + j < 3464 := by lia
theorem z_wd {s w : Int32} (hs : 0 ≤ s ∧ s < 16) (hw : 0 ≤ w ∧ w < 24) : 0 ≤ wa s w ∧ wa s w < 3464 := by lia
theorem z_dne {s c d : Int32} (h : ¬ c = d) : ¬ s + c = s + d := by lia
theorem z_dn0 {s d : Int32} (h : ¬ d = 0) : ¬ s = s + d := by lia
theorem c_become {P : VP} {y : Nat} {w k v n : Int32} (hh : An (F_X3_has y w P) 1) (hw : 0 ≤ w ∧ w < 24) {post : VP → Prop} (hp : post (WP P y w k v n)) : F_X3_become y w k v n P post := by
  unfold F_X3_become
  refine hh _ (br_f (by decide) ⟨hw, fun P14 e1 => ⟨hw, fun P21 e2 => ⟨hw, fun P29 e3 => ?_⟩⟩⟩)
  subst e1 e2 e3
  exact hp
theorem m_writes {Q : VP} {κ : Nat} {s w a0 a1 a2 a3 a4 a5 : Int32} (hκ : vlI κ = 3464) (hs : 0 ≤ s ∧ s < 16) (hw : 0 ≤ w ∧ w < 24) {post : VP → Prop} (hp : post (WQ Q κ s w a0 a1 a2 a3 a4 a5)) : F_X8_writes κ s w a0 a1 a2 a3 a4 a5 Q post := by
  unfold F_X8_writes
  rw [hκ]
  refine ⟨z_wd hs hw, fun Q19 e0 => ⟨z_wc hs hw (by decide), fun Q27 e1 => ⟨z_wc hs hw (by decide), fun Q35 e2 => ⟨z_wc hs hw (by decide), fun Q43 e3 => ⟨z_wc hs hw (by decide), fun Q51 e4 => ⟨z_wc hs hw (by decide), fun Q59 e5 => ?_⟩⟩⟩⟩⟩⟩
  subst e0 e1 e2 e3 e4 e5
  exact hp
theorem WQ_ne {Q : VP} {κ : Nat} {s w a0 a1 a2 a3 a4 a5 a : Int32} (hs : 0 ≤ s ∧ s < 16) (hw : 0 ≤ w ∧ w < 24) (ha : 0 ≤ a) (hn : ¬ (wa s w ≤ a ∧ a ≤ wa s w + 5)) : WQ Q κ s w a0 a1 a2 a3 a4 a5 κ 0 (ix a) = Q κ 0 (ix a) := by
  have e : ¬ a = wa s w ∧ ¬ a = wa s w + 1 ∧ ¬ a = wa s w + 2 ∧ ¬ a = wa s w + 3 ∧ ¬ a = wa s w + 4 ∧ ¬ a = wa s w + 5 := by lia
  unfold WQ
  rw [qup_ne (z_wc hs hw (by decide)).1 ha e.2.2.2.2.2, qup_ne (z_wc hs hw (by decide)).1 ha e.2.2.2.2.1, qup_ne (z_wc hs hw (by decide)).1 ha e.2.2.2.1, qup_ne (z_wc hs hw (by decide)).1 ha e.2.2.1, qup_ne (z_wc hs hw (by decide)).1 ha e.2.1, qup_ne (z_wd hs hw).1 ha e.1]
theorem WQ_at {Q : VP} {κ : Nat} {s w a0 a1 a2 a3 a4 a5 : Int32} (hs : 0 ≤ s ∧ s < 16) (hw : 0 ≤ w ∧ w < 24) : WQ Q κ s w a0 a1 a2 a3 a4 a5 κ 0 (ix (wa s w)) = a0 ∧ WQ Q κ s w a0 a1 a2 a3 a4 a5 κ 0 (ix (wa s w + 1)) = a1 ∧ WQ Q κ s w a0 a1 a2 a3 a4 a5 κ 0 (ix (wa s w + 2)) = a2 ∧ WQ Q κ s w a0 a1 a2 a3 a4 a5 κ 0 (ix (wa s w + 3)) = a3 ∧ WQ Q κ s w a0 a1 a2 a3 a4 a5 κ 0 (ix (wa s w + 4)) = a4 ∧ WQ Q κ s w a0 a1 a2 a3 a4 a5 κ 0 (ix (wa s w + 5)) = a5 := by
  have p0 := (z_wd hs hw).1
  have p1 := (z_wc (j := 1) hs hw (by decide)).1
  have p2 := (z_wc (j := 2) hs hw (by decide)).1
  have p3 := (z_wc (j := 3) hs hw (by decide)).1
  have p4 := (z_wc (j := 4) hs hw (by decide)).1
  have p5 := (z_wc (j := 5) hs hw (by decide)).1
  unfold WQ
  refine ⟨?_, ?_, ?_, ?_, ?_, ?_⟩
  · rw [qup_ne p5 p0 (z_dn0 (by decide)), qup_ne p4 p0 (z_dn0 (by decide)), qup_ne p3 p0 (z_dn0 (by decide)), qup_ne p2 p0 (z_dn0 (by decide)), qup_ne p1 p0 (z_dn0 (by decide)), vup_eq]
  · rw [qup_ne p5 p1 (z_dne (by decide)), qup_ne p4 p1 (z_dne (by decide)), qup_ne p3 p1 (z_dne (by decide)), qup_ne p2 p1 (z_dne (by decide)), vup_eq]
  · rw [qup_ne p5 p2 (z_dne (by decide)), qup_ne p4 p2 (z_dne (by decide)), qup_ne p3 p2 (z_dne (by decide)), vup_eq]
  · rw [qup_ne p5 p3 (z_dne (by decide)), qup_ne p4 p3 (z_dne (by decide)), vup_eq]
  · rw [qup_ne p5 p4 (z_dne (by decide)), vup_eq]
  · rw [vup_eq]
theorem WQ_k {Q : VP} {κ : Nat} {s w a0 a1 a2 a3 a4 a5 : Int32} {k x j : Nat} (h : ¬ k = κ) : WQ Q κ s w a0 a1 a2 a3 a4 a5 k x j = Q k x j := by
  unfold WQ
  rw [kup_ne h, kup_ne h, kup_ne h, kup_ne h, kup_ne h, kup_ne h]
theorem WP_at (P : VP) (y : Nat) (w k v n : Int32) : WP P y w k v n 8 y (ix w) = k ∧ WP P y w k v n 9 y (ix w) = v ∧ WP P y w k v n 10 y (ix w) = n := by
  unfold WP
  refine ⟨?_, ?_, vup_eq _ _ _ _ _⟩
  · rw [kup_ne (by decide), kup_ne (by decide), vup_eq]
  · rw [kup_ne (by decide), vup_eq]
theorem WP_ne {P : VP} {y : Nat} {w k v n : Int32} {k' x' j' : Nat} (h : ¬ ((k' = 8 ∨ k' = 9 ∨ k' = 10) ∧ x' = y ∧ j' = ix w)) : WP P y w k v n k' x' j' = P k' x' j' := by
  unfold WP
  rw [vup_ne (by omega), vup_ne (by omega), vup_ne (by omega)]
theorem SS_w {s w j : Int32} (hs : 0 ≤ s ∧ s < 16) (hw : 0 ≤ w ∧ w < 24) (hj : 0 ≤ j ∧ j < 6) : SS s (wa s w + j) := Or.inr (Or.inr ⟨by lia, by lia⟩)
theorem SS_w0 {s w : Int32} (hs : 0 ≤ s ∧ s < 16) (hw : 0 ≤ w ∧ w < 24) : SS s (wa s w) := Or.inr (Or.inr ⟨by lia, by lia⟩)
theorem QU_W {Q Q' : VP} {s w a0 a1 a2 a3 a4 a5 : Int32} (h : QU Q Q' (SS s)) (hs : 0 ≤ s ∧ s < 16) (hw : 0 ≤ w ∧ w < 24) : QU Q (WQ Q' 23 s w a0 a1 a2 a3 a4 a5) (SS s) :=
  QU_s (QU_s (QU_s (QU_s (QU_s (QU_s h (z_wd hs hw).1 (SS_w0 hs hw)) (z_wc hs hw (by decide)).1 (SS_w hs hw (by decide))) (z_wc hs hw (by decide)).1 (SS_w hs hw (by decide))) (z_wc hs hw (by decide)).1 (SS_w hs hw (by decide))) (z_wc hs hw (by decide)).1 (SS_w hs hw (by decide))) (z_wc hs hw (by decide)).1 (SS_w hs hw (by decide))
theorem PU_W {P P' : VP} {y : Nat} {w k v n : Int32} (h : PU P P' (TT y)) : PU P (WP P' y w k v n) (TT y) := PU_s (PU_s (PU_s h (Or.inl ⟨by decide, rfl⟩)) (Or.inl ⟨by decide, rfl⟩)) (Or.inl ⟨by decide, rfl⟩)
theorem z_lw {s w a : Int32} (hs : 0 ≤ s ∧ s < 16) (hw : 0 ≤ w ∧ w < 24) (ha : 0 ≤ a ∧ a < 192) : ¬ (wa s w ≤ a ∧ a ≤ wa s w + 5) := by lia
theorem z_ww {s w u j : Int32} (hs : 0 ≤ s ∧ s < 16) (hw : 0 ≤ w ∧ w < 24) (hu : 0 ≤ u ∧ u < 24) (h : ¬ u = w) (hj : 0 ≤ j ∧ j < 6) : ¬ (wa s w ≤ wa s u + j ∧ wa s u + j ≤ wa s w + 5) := by lia
theorem z_wv {s w u : Int32} (hs : 0 ≤ s ∧ s < 16) (hw : 0 ≤ w ∧ w < 24) (hu : 0 ≤ u ∧ u < 24) (h : ¬ u = w) : ¬ (wa s w ≤ wa s u ∧ wa s u ≤ wa s w + 5) := by lia
theorem z_lt24 {w n : Int32} (h : 0 ≤ w ∧ w < n) (hn : n ≤ 24) : 0 ≤ w ∧ w < 24 := by lia
theorem z_nel {w u n : Int32} (h : w < n) (h' : n ≤ u) : ¬ u = w := by lia
theorem z_cp2 {s c : Int32} (hs : 0 ≤ s ∧ s < 16) (hc : 32 ≤ c ∧ c < 192) : 0 ≤ c + s := by lia
theorem z_lh {a : Int32} (h : 32 ≤ a ∧ a < 192) : 0 ≤ a ∧ a < 192 := by lia
theorem RR_word {P Q : VP} {s w k v n a0 a1 a2 a3 a4 a5 : Int32} (h : RR P Q) (hs : 0 ≤ s ∧ s < 16) (hy : P 7 (16 * 0 + ix s) 0 = 1) (hw : 0 ≤ w ∧ w < P 7 (16 * 0 + ix s) 4) (hr : WR k v n a0 a1 a2 a3 a4 a5) : RR (WP P (16 * 0 + ix s) w k v n) (WQ Q 23 s w a0 a1 a2 a3 a4 a5) := by
  obtain ⟨hB, m1, m2, m3, m4, m5⟩ := And.intro h.1 h.2.1
  have hw' := z_lt24 hw (hB.2.1 _).2
  obtain ⟨hh, hH⟩ := m3 s hs.1 hs.2
  have lo : ∀ a : Int32, 0 ≤ a ∧ a < 192 → WQ Q 23 s w a0 a1 a2 a3 a4 a5 23 0 (ix a) = Q 23 0 (ix a) := fun a ha => WQ_ne hs hw' ha.1 (z_lw hs hw' ha)
  have e7 : ∀ j, WP P (16 * 0 + ix s) w k v n 7 (16 * 0 + ix s) j = P 7 (16 * 0 + ix s) j := fun j => WP_ne (by omega)
  refine seg_up h hs (PU_W (PU_r _ _)) (QU_W (QU_r _ _) hs hw') ?_ (WP_ne (by omega)) (WP_ne (by omega)) ?_ ?_ (fun q => ?_) (fun q u u0 u1 => ?_)
  · refine BI_y (y := 16 * 0 + ix s) hB (fun k' x j hx _ _ => WP_ne (by omega)) (fun k' x j hk _ => WP_ne (by omega)) (by rw [e7]; exact hB.1 _) (by rw [e7]; exact hB.2.1 _) (fun u u0 u1 hu => ?_) (by rw [e7]; exact hB.2.2.2.2.2 _)
    rw [e7] at hu
    have hne := ix_ne u0 hw.1 (z_nel hw.2 hu)
    rw [WP_ne (by omega), WP_ne (by omega), WP_ne (by omega)]
    exact hB.2.2.1 _ u u0 u1 hu
  · rw [WP_ne (by omega), lo 1 (by decide)]; exact m2.2.1
  · rw [e7, lo _ (z_lh (z_h (m := 2) hs (by decide) (by decide)))]; exact hh
  · exact RH_eq (hH hy) hs e7 (fun a ha _ => lo a (z_lh ha)) (by rw [lo 0 (by decide)]; exact z_le _)
  · by_cases q : u = w
    · subst q
      obtain ⟨p1, p2, p3⟩ := WP_at P (16 * 0 + ix s) u k v n
      obtain ⟨q0, q1, q2, q3, q4, q5⟩ := WQ_at (Q := Q) (κ := 23) (a0 := a0) (a1 := a1) (a2 := a2) (a3 := a3) (a4 := a4) (a5 := a5) hs hw'
      rw [p1, p2, p3, q0, q1, q2, q3, q4, q5]
      exact hr
    · have hne := ix_ne u0 hw.1 q
      rw [WP_ne (by omega), WP_ne (by omega), WP_ne (by omega), WQ_ne hs hw' (z_wd hs ⟨u0, u1⟩).1 (z_wv hs hw' ⟨u0, u1⟩ q), WQ_ne hs hw' (z_wc hs ⟨u0, u1⟩ (by decide)).1 (z_ww (j := 1) hs hw' ⟨u0, u1⟩ q (by decide)), WQ_ne hs hw' (z_wc hs ⟨u0, u1⟩ (by decide)).1 (z_ww (j := 2) hs hw' ⟨u0, u1⟩ q (by decide)), WQ_ne hs hw' (z_wc hs ⟨u0, u1⟩ (by decide)).1 (z_ww (j := 3) hs hw' ⟨u0, u1⟩ q (by decide)), WQ_ne hs hw' (z_wc hs ⟨u0, u1⟩ (by decide)).1 (z_ww (j := 4) hs hw' ⟨u0, u1⟩ q (by decide)), WQ_ne hs hw' (z_wc hs ⟨u0, u1⟩ (by decide)).1 (z_ww (j := 5) hs hw' ⟨u0, u1⟩ q (by decide))]
      exact m4 s u hs.1 hs.2 u0 u1 hy
theorem d_write1 {P Q : VP} (h : RR P Q) {x1 x2 k v a1 a2 a3 : Int32} (g0 : 0 ≤ x1 ∧ x1 < 16) (g2 : P 7 (16 * 0 + ix x1) 0 = 1) (g3 : RH P Q 23 (16 * 0 + ix x1) x1) (hr : WR k v 0 k a1 a2 a3 0 0) : ∃ r P1 Q1, RR P1 Q1 ∧ Am (F_X7_write (some (16 * 0 + ix x1)) x2 k v P) r P1 ∧ Am (F_X8_becomes x1 x2 k a1 a2 a3 Q) r Q1 := by
  have k4 := g3.2.2.2.1
  have kl := g3.2.2.2.2.2.2.2.2.2.2.1
  obtain ⟨i1, i2⟩ := m_isWord (Q := Q) (w := x2) g0 kl
  by_cases hw : 0 ≤ x2 ∧ x2 < Q 23 0 (ix (96 + x1))
  · have hw4 : 0 ≤ x2 ∧ x2 < P 7 (16 * 0 + ix x1) 4 := by rw [k4]; exact hw
    have hw24 := z_lt24 hw kl.2
    refine ⟨1, WP P (16 * 0 + ix x1) x2 k v 0, WQ Q 23 x1 x2 k a1 a2 a3 0 0, RR_word h g0 g2 hw4 hr, fun p hp => ?_, fun p hp => ?_⟩
    · unfold F_X7_write
      exact c_has h.1 hw4 _ (br_f (by decide) (c_become (c_has h.1 hw4) hw24 hp))
    · unfold F_X8_becomes
      exact i1 hw _ (br_f (by decide) (m_writes rfl g0 hw24 hp))
  · refine ⟨-13, P, Q, h, fun p hp => ?_, fun p hp => ?_⟩
    · unfold F_X7_write
      exact c_hasN (by rw [k4]; exact hw) _ (br_t rfl hp)
    · unfold F_X8_becomes
      exact i2 hw _ (br_t rfl hp)
theorem D_number {P Q : VP} (h : RR P Q) (x1 x2 x3 : Int32) : ∃ r P1 Q1, RR P1 Q1 ∧ Am (F_X7_number x1 x2 x3 P) r P1 ∧ Am (F_X8_number x1 x2 x3 Q) r Q1 := by
  rcases d_isSeg h.2.1.2.2.1 h.1 x1 with ⟨⟨g0, g1⟩, g2, g3, g4, g5⟩ | ⟨-, g4, g5⟩
  · obtain ⟨r, P1, Q1, q1, q2, q3⟩ := d_write1 (x2 := x2) (k := 1) (v := x3) (a1 := x3) (a2 := 0) (a3 := 0) h g0 g2 g3 ⟨rfl, Or.inr (Or.inl ⟨rfl, rfl, rfl⟩)⟩
    refine ⟨r, P1, Q1, q1, fun p hp => ?_, fun p hp => ?_⟩
    · unfold F_X7_number
      exact g4 _ (q2 _ hp)
    · unfold F_X8_number
      exact g5 _ (br_f (by decide) (q3 _ hp))
  · refine ⟨-1, P, Q, h, fun p hp => ?_, fun p hp => ?_⟩
    · unfold F_X7_number F_X7_write
      exact g4 _ hp
    · unfold F_X8_number
      exact g5 _ (br_t rfl hp)
theorem D_link {P Q : VP} (h : RR P Q) (x1 x2 x3 x4 : Int32) : ∃ r P1 Q1, RR P1 Q1 ∧ Am (F_X7_link x1 x2 x3 x4 P) r P1 ∧ Am (F_X8_link x1 x2 x3 x4 Q) r Q1 := by
  rcases d_isSeg h.2.1.2.2.1 h.1 x1 with ⟨⟨g0, g1⟩, g2, g3, g4, g5⟩ | ⟨-, g4, g5⟩
  · by_cases h3 : 0 ≤ x3 ∧ x3 < 26
    · by_cases h4 : 0 ≤ x4 ∧ x4 < 24
      · obtain ⟨r, P1, Q1, q1, q2, q3⟩ := d_write1 (x2 := x2) (k := 4) (v := (100 * x3) + x4) (a1 := x3) (a2 := x4) (a3 := 0) h g0 g2 g3 ⟨rfl, Or.inr (Or.inr (Or.inr (Or.inl ⟨rfl, rfl, rfl, h3, h4⟩)))⟩
        refine ⟨r, P1, Q1, q1, fun p hp => ?_, fun p hp => ?_⟩
        · unfold F_X7_link
          exact c_belowT h3 _ (br_f (by decide) (c_belowT h4 _ (br_f (by decide) (g4 _ (q2 _ hp)))))
        · unfold F_X8_link
          exact g5 _ (br_f (by decide) (m_inT (x := x3) (lo := 0) (hi := 25) ⟨h3.1, by lia⟩ _ (br_f (by decide) (m_inT (x := x4) (lo := 0) (hi := 23) ⟨h4.1, by lia⟩ _ (br_f (by decide) (q3 _ hp))))))
      · refine ⟨-1, P, Q, h, fun p hp => ?_, fun p hp => ?_⟩
        · unfold F_X7_link
          exact c_belowT h3 _ (br_f (by decide) (c_belowF h4 _ (br_t rfl hp)))
        · unfold F_X8_link
          exact g5 _ (br_f (by decide) (m_inT (x := x3) (lo := 0) (hi := 25) ⟨h3.1, by lia⟩ _ (br_f (by decide) (m_inF (x := x4) (lo := 0) (hi := 23) (by lia) _ (br_t rfl hp)))))
    · refine ⟨-1, P, Q, h, fun p hp => ?_, fun p hp => ?_⟩
      · unfold F_X7_link
        exact c_belowF h3 _ (br_t rfl hp)
      · unfold F_X8_link
        exact g5 _ (br_f (by decide) (m_inF (x := x3) (lo := 0) (hi := 25) (by lia) _ (br_t rfl hp)))
  · refine ⟨-1, P, Q, h, fun p hp => ?_, fun p hp => ?_⟩
    · unfold F_X7_link F_X7_write
      by_cases h3 : 0 ≤ x3 ∧ x3 < 26
      · by_cases h4 : 0 ≤ x4 ∧ x4 < 24
        · exact c_belowT h3 _ (br_f (by decide) (c_belowT h4 _ (br_f (by decide) (g4 _ hp))))
        · exact c_belowT h3 _ (br_f (by decide) (c_belowF h4 _ (br_t rfl hp)))
      · exact c_belowF h3 _ (br_t rfl hp)
    · unfold F_X8_link
      exact g5 _ (br_t rfl hp)
theorem D_act {P Q : VP} (h : RR P Q) (x1 x2 x3 x4 x5 : Int32) : ∃ r P1 Q1, RR P1 Q1 ∧ Am (F_X7_act x1 x2 x3 x4 x5 P) r P1 ∧ Am (F_X8_act x1 x2 x3 x4 x5 Q) r Q1 := by
  rcases d_isSeg h.2.1.2.2.1 h.1 x1 with ⟨⟨g0, g1⟩, g2, g3, g4, g5⟩ | ⟨-, g4, g5⟩
  · by_cases h3 : 0 ≤ x3 ∧ x3 < 10
    · by_cases h4 : 0 ≤ x4 ∧ x4 < 24
      · by_cases h5 : 0 ≤ x5 ∧ x5 < 4
        · obtain ⟨r, P1, Q1, q1, q2, q3⟩ := d_write1 (x2 := x2) (k := 6) (v := ((1000 * x3) + (10 * x4)) + x5) (a1 := x3) (a2 := x4) (a3 := x5) h g0 g2 g3 ⟨rfl, Or.inr (Or.inr (Or.inr (Or.inr (Or.inr ⟨rfl, rfl, rfl, h3, h4, h5⟩))))⟩
          refine ⟨r, P1, Q1, q1, fun p hp => ?_, fun p hp => ?_⟩
          · unfold F_X7_act
            exact c_belowT h3 _ (br_f (by decide) (c_belowT h4 _ (br_f (by decide) (c_belowT h5 _ (br_f (by decide) (g4 _ (q2 _ hp)))))))
          · unfold F_X8_act
            exact g5 _ (br_f (by decide) (m_inT (x := x3) (lo := 0) (hi := 9) ⟨h3.1, by lia⟩ _ (br_f (by decide) (m_inT (x := x4) (lo := 0) (hi := 23) ⟨h4.1, by lia⟩ _ (br_f (by decide) (m_inT (x := x5) (lo := 0) (hi := 3) ⟨h5.1, by lia⟩ _ (br_f (by decide) (q3 _ hp))))))))
        · refine ⟨-1, P, Q, h, fun p hp => ?_, fun p hp => ?_⟩
          · unfold F_X7_act
            exact c_belowT h3 _ (br_f (by decide) (c_belowT h4 _ (br_f (by decide) (c_belowF h5 _ (br_t rfl hp)))))
          · unfold F_X8_act
            exact g5 _ (br_f (by decide) (m_inT (x := x3) (lo := 0) (hi := 9) ⟨h3.1, by lia⟩ _ (br_f (by decide) (m_inT (x := x4) (lo := 0) (hi := 23) ⟨h4.1, by lia⟩ _ (br_f (by decide) (m_inF (x := x5) (lo := 0) (hi := 3) (by lia) _ (br_t rfl hp)))))))
      · refine ⟨-1, P, Q, h, fun p hp => ?_, fun p hp => ?_⟩
        · unfold F_X7_act
          exact c_belowT h3 _ (br_f (by decide) (c_belowF h4 _ (br_t rfl hp)))
        · unfold F_X8_act
          exact g5 _ (br_f (by decide) (m_inT (x := x3) (lo := 0) (hi := 9) ⟨h3.1, by lia⟩ _ (br_f (by decide) (m_inF (x := x4) (lo := 0) (hi := 23) (by lia) _ (br_t rfl hp)))))
    · refine ⟨-1, P, Q, h, fun p hp => ?_, fun p hp => ?_⟩
      · unfold F_X7_act
        exact c_belowF h3 _ (br_t rfl hp)
      · unfold F_X8_act
        exact g5 _ (br_f (by decide) (m_inF (x := x3) (lo := 0) (hi := 9) (by lia) _ (br_t rfl hp)))
  · refine ⟨-1, P, Q, h, fun p hp => ?_, fun p hp => ?_⟩
    · unfold F_X7_act F_X7_write
      by_cases h3 : 0 ≤ x3 ∧ x3 < 10
      · by_cases h4 : 0 ≤ x4 ∧ x4 < 24
        · by_cases h5 : 0 ≤ x5 ∧ x5 < 4
          · exact c_belowT h3 _ (br_f (by decide) (c_belowT h4 _ (br_f (by decide) (c_belowT h5 _ (br_f (by decide) (g4 _ hp))))))
          · exact c_belowT h3 _ (br_f (by decide) (c_belowT h4 _ (br_f (by decide) (c_belowF h5 _ (br_t rfl hp)))))
        · exact c_belowT h3 _ (br_f (by decide) (c_belowF h4 _ (br_t rfl hp)))
      · exact c_belowF h3 _ (br_t rfl hp)
    · unfold F_X8_act
      exact g5 _ (br_t rfl hp)
