/-! resize, segment -/
theorem z_ml {a A B C : Int32} (ha : 0 ≤ a ∧ a < 192) (q : A ≤ a ∧ a < B) (h1 : C ≤ A) (h2 : 200 ≤ C ∧ C < 2504) : False := by lia
theorem z_tr {a b c : Int32} (h : a ≤ b) (h' : b ≤ c) : a ≤ c := by lia
theorem z_bd {a : Int32} (h : 32 ≤ a ∧ a < 192) : 0 ≤ a ∧ a < 3464 := by lia
theorem MZ_lo {s v0 a : Int32} {Q Q' : VP} (h : MZ s v0 Q Q') (hs : 0 ≤ s ∧ s < 16) (hv : 0 ≤ v0 ∧ v0 ≤ 24) (ha : 0 ≤ a ∧ a < 192) : Q' 23 0 (ix a) = Q 23 0 (ix a) := by
  refine h.2.1 a ha.1 (fun q => ?_)
  have h1 := z_wm hs (n := 0) (by decide) hv.1 hv.2
  have h2 := z_wb hs (w := 0) (by decide)
  exact z_ml ha q h1 h2
theorem MZ_QU {s v0 : Int32} {Q Q' : VP} (h : MZ s v0 Q Q') (hs : 0 ≤ s ∧ s < 16) (hv : 0 ≤ v0 ∧ v0 ≤ 24) : QU Q Q' (SS s) :=
  ⟨fun k x j hk => h.1 k x j (by omega), fun a ha hn => h.2.1 a ha (fun q => hn (Or.inr (Or.inr ⟨z_tr (z_wm hs (n := 0) (by decide) hv.1 hv.2) q.1, q.2⟩)))⟩
theorem SS_c {s c m : Int32} (hs : 0 ≤ s ∧ s < 16) (hc : c = 16 * m) (hm : 2 ≤ m ∧ m < 12) : SS s (c + s) := Or.inr (Or.inl (SH_c hs hc hm))
theorem CL_PU {P P' : VP} {y : Nat} {n : Int32} (h : CL y n P P') : PU P P' (TT y) := fun k x j hn => h.1 k x j (fun q => hn (Or.inl ⟨⟨q.2.1, q.2.2⟩, q.1⟩))
theorem z_un {s u n j B : Int32} (hB : B = wa s n) (hs : 0 ≤ s ∧ s < 16) (hu : 0 ≤ u) (hn : u < n) (h24 : n ≤ 24) (hj : 0 ≤ j ∧ j < 6) : wa s u + j < B := by
  have e := z_wm (v := n) (n := u + 1) hs (by lia) (by lia) h24
  have e2 : wa s (u + 1) = wa s u + 6 := by lia
  have e3 := z_wb (w := u) hs ⟨hu, by lia⟩
  rw [hB]
  rw [e2] at e
  generalize wa s u = A at *
  generalize wa s n = C at *
  clear hB e2
  lia
theorem z_nlt {a b : Int32} (h : a < b) (c : Int32) : ¬ (b ≤ a ∧ a < c) := by lia
theorem z_n96 {s c a : Int32} (hs : 0 ≤ s ∧ s < 16) (hc : 32 ≤ c ∧ c < 192) (hm : c = 96 ∨ c = 176) (ha : 200 ≤ a) : ¬ a = c + s := by lia
theorem z_p2 {a : Int32} (ha : 200 ≤ a) : 0 ≤ a := by lia
theorem z_1c {s c : Int32} (hs : 0 ≤ s ∧ s < 16) (hc : 32 ≤ c ∧ c < 192) : ¬ 1 = c + s := by lia
theorem z_c1 {s c : Int32} (hs : 0 ≤ s ∧ s < 16) (hc : 32 ≤ c ∧ c < 192) : ¬ c + s = 1 := by lia
theorem z_n24 {u n : Int32} (h : u < n) (hn : n ≤ 24) : u < 24 := by lia
def LQ (Q : VP) (s n : Int32) : VP := vup (vup Q 23 0 (ix (96 + s)) n) 23 0 (ix (176 + s)) (imin n (Q 23 0 (ix (176 + s))))
theorem RR_len {P Q P' Q' : VP} {s n : Int32} (h : RR P Q) (hs : 0 ≤ s ∧ s < 16) (hy : P 7 (16 * 0 + ix s) 0 = 1) (hn : 1 ≤ n ∧ n ≤ 24) (cl : CL (16 * 0 + ix s) n P P') (mz : MZ s n (LQ Q s n) Q') : RR P' Q' := by
  obtain ⟨hB, m1, m2, m3, m4, m5⟩ := And.intro h.1 h.2.1
  obtain ⟨hh, hH⟩ := m3 s hs.1 hs.2
  have n0 := z_1 hn.1
  have i9 := z_cp (c := 96) hs (by decide)
  have i17 := z_cp (c := 176) hs (by decide)
  have l0 : ∀ a : Int32, 0 ≤ a → ¬ a = 96 + s → ¬ a = 176 + s → LQ Q s n 23 0 (ix a) = Q 23 0 (ix a) := fun a a0 e1 e2 => by
    unfold LQ; rw [qup_ne i17 a0 e2, qup_ne i9 a0 e1]
  have l9 : LQ Q s n 23 0 (ix (96 + s)) = n := by unfold LQ; rw [qup_ne i17 i9 (z_add (by decide)), vup_eq]
  have l17 : LQ Q s n 23 0 (ix (176 + s)) = imin n (Q 23 0 (ix (176 + s))) := vup_eq _ _ _ _ _
  have lo : ∀ a : Int32, 0 ≤ a ∧ a < 192 → Q' 23 0 (ix a) = LQ Q s n 23 0 (ix a) := fun a ha => MZ_lo mz hs ⟨n0, hn.2⟩ ha
  have lc : ∀ c m : Int32, c = 16 * m → 2 ≤ m ∧ m < 12 → ¬ c = 96 → ¬ c = 176 → Q' 23 0 (ix (c + s)) = Q 23 0 (ix (c + s)) := fun c m hc hm e1 e2 => by
    rw [lo _ (z_lh (z_h hs hc hm)), l0 _ (z_p (z_h hs hc hm)) (z_add e1) (z_add e2)]
  have hi : ∀ u j : Int32, 0 ≤ u → u < n → 0 ≤ j ∧ j < 6 → Q' 23 0 (ix (wa s u + j)) = Q 23 0 (ix (wa s u + j)) := fun u j u0 u1 hj => by
    have u2 : 0 ≤ u ∧ u < 24 := ⟨u0, z_n24 u1 hn.2⟩
    have g := (z_wa hs u2 hj).1
    rw [mz.2.1 _ (z_p2 g) (z_nlt (z_un rfl hs u0 u1 hn.2 hj) _), l0 _ (z_p2 g) (z_n96 hs (by decide) (Or.inl rfl) g) (z_n96 hs (by decide) (Or.inr rfl) g)]
  have hi0 : ∀ u : Int32, 0 ≤ u → u < n → Q' 23 0 (ix (wa s u)) = Q 23 0 (ix (wa s u)) := fun u u0 u1 => by
    have g := hi u 0 u0 u1 (by decide)
    rw [show wa s u + 0 = wa s u by lia] at g
    exact g
  refine seg_up h hs (CL_PU cl) (QU_t (QU_s (QU_s (QU_r _ _) i9 (SS_c (m := 6) hs (by decide) (by decide))) i17 (SS_c (m := 11) hs (by decide) (by decide))) (MZ_QU mz hs ⟨n0, hn.2⟩)) (CL_BI hB ⟨n0, hn.2⟩ cl) (cl.1 2 0 0 (by omega)) (cl.1 2 0 3 (by omega)) ?_ ?_ (fun _ => ?_) (fun _ u u0 u1 => ?_)
  · rw [cl.1 2 0 5 (by omega), lo 1 (by decide), l0 1 (by decide) (z_1c hs (by decide)) (z_1c hs (by decide))]; exact m2.2.1
  · rw [cl.2.1 0 (by decide) (by decide), lc 32 2 (by decide) (by decide) (by decide) (by decide)]; exact hh
  · obtain ⟨k1, k2, k3, k4, k5, k6, k7, k8, k9, ⟨k10, k11⟩, ⟨k12, k13⟩, k14, k15, k16, k17⟩ := hH hy
    unfold RH
    rw [cl.2.1 1 (by decide) (by decide), cl.2.1 2 (by decide) (by decide), cl.2.1 3 (by decide) (by decide), cl.2.2.1, cl.2.1 5 (by decide) (by decide), cl.2.1 6 (by decide) (by decide), cl.2.1 7 (by decide) (by decide), cl.2.1 8 (by decide) (by decide), cl.2.2.2.1, lc 48 3 (by decide) (by decide) (by decide) (by decide), lc 64 4 (by decide) (by decide) (by decide) (by decide), lc 80 5 (by decide) (by decide) (by decide) (by decide), lc 112 7 (by decide) (by decide) (by decide) (by decide), lc 128 8 (by decide) (by decide) (by decide) (by decide), lc 144 9 (by decide) (by decide) (by decide) (by decide), lc 160 10 (by decide) (by decide) (by decide) (by decide), lo (96 + s) (z_lh (z_h (m := 6) hs (by decide) (by decide))), l9, lo (176 + s) (z_lh (z_h (m := 11) hs (by decide) (by decide))), l17, lo 0 (by decide), l0 0 (by decide) (z_0c hs (by decide)) (z_0c hs (by decide))]
    exact ⟨k1, k2, k3, rfl, k5, k6, k7, k8, by rw [k9]; exact imin_c _ _, ⟨k10, k11⟩, hn, k14, k15, k16, k17⟩
  · by_cases q : u < n
    · obtain ⟨e1, e2, e3⟩ := cl.2.2.2.2.1 u u0 q
      rw [e1, e2, e3, hi0 u u0 q, hi u 1 u0 q (by decide), hi u 2 u0 q (by decide), hi u 3 u0 q (by decide), hi u 4 u0 q (by decide), hi u 5 u0 q (by decide)]
      exact m4 s u hs.1 hs.2 u0 u1 hy
    · obtain ⟨e1, e2, e3⟩ := cl.2.2.2.2.2 u (z_nl q) u1
      obtain ⟨f0, f1, f2, f3, f4, f5⟩ := mz.2.2 u (z_nl q) u1
      rw [e1, e2, e3, f0, f1, f2, f3, f4, f5]
      exact ⟨rfl, Or.inl ⟨rfl, rfl, rfl⟩⟩
theorem d_resize1 {P Q : VP} (h : RR P Q) {x1 x2 : Int32} (g0 : 0 ≤ x1 ∧ x1 < 16) (g2 : P 7 (16 * 0 + ix x1) 0 = 1) (g3 : RH P Q 23 (16 * 0 + ix x1) x1) (hn : 1 ≤ x2 ∧ x2 ≤ 24) : ∃ P1 Q1, RR P1 Q1 ∧ Am (F_X7_resize_b76 x1 x2 P · (16 * 0 + ix x1)) (Q 23 0 (ix (96 + x1))) P1 ∧ Am (F_X8_resize_b76 x1 x2 Q · (Q 23 0 (ix (96 + x1)))) (Q 23 0 (ix (96 + x1))) Q1 := by
  obtain ⟨P1, cl, c2⟩ := c_change (n := x2) (y := 16 * 0 + ix x1) h.1 ⟨z_1 hn.1, hn.2⟩
  obtain ⟨Q1, mz, m2⟩ := m_zero (v0 := x2) (Q := LQ Q x1 x2) g0 ⟨z_1 hn.1, hn.2⟩ (fun p => F_X8_resize_l113 x1 x2 (fun _ Q => p Q) (Q 23 0 (ix (96 + x1)))) (fun p X v Q => rfl)
  have k4 := g3.2.2.2.1
  refine ⟨P1, Q1, RR_len h g0 g2 hn cl mz, fun p hp => ?_, fun p hp => ?_⟩
  · show F_X7_resize_b76 _ _ _ _ _
    unfold F_X7_resize_b76
    refine c2 _ ?_
    rw [k4]
    exact hp
  · show F_X8_resize_b76 _ _ _ _ _
    unfold F_X8_resize_b76
    have i1 := z_h (c := 96) (m := 6) g0 (by decide) (by decide)
    have i2 := z_h (c := 176) (m := 11) g0 (by decide) (by decide)
    refine ⟨z_bd i1, fun Q85 e1 => ⟨z_bd i2, ⟨z_bd i2, fun Q109 e2 => ?_⟩⟩⟩
    subst e1
    rw [qup_ne (z_p i1) (z_p i2) (z_add (by decide))] at e2
    subst e2
    exact m2 (fun Q1 => p _ Q1) hp
theorem z_124 {x : Int32} (h : 1 ≤ x ∧ x ≤ 24) : ¬ x < 0 ∧ ¬ x = 0 ∧ ¬ 24 < x := by lia
theorem z_no24 {x : Int32} (h : ¬ x < 0) (h' : ¬ (1 ≤ x ∧ x ≤ 24)) : x = 0 ∨ (¬ x = 0 ∧ 24 < x) := by lia
theorem D_resize {P Q : VP} (h : RR P Q) (x1 x2 : Int32) : ∃ r P1 Q1, RR P1 Q1 ∧ Am (F_X7_resize x1 x2 P) r P1 ∧ Am (F_X8_resize x1 x2 Q) r Q1 := by
  by_cases hx : x2 < 0
  · refine ⟨-14, P, Q, h, fun p hp => ?_, fun p hp => ?_⟩
    · unfold F_X7_resize
      exact br_t hx hp
    · unfold F_X8_resize
      exact br_t hx hp
  rcases d_isSeg h.2.1.2.2.1 h.1 x1 with ⟨⟨g0, g1⟩, g2, g3, g4, g5⟩ | ⟨-, g4, g5⟩
  · by_cases hn : 1 ≤ x2 ∧ x2 ≤ 24
    · obtain ⟨P1, Q1, q1, q2, q3⟩ := d_resize1 h g0 g2 g3 hn
      obtain ⟨i1, i2, i3⟩ := z_124 hn
      have k1 := g3.1
      have k4 := g3.2.2.2.1
      have kd := g3.2.2.2.2.2.2.2.2.2.1
      have b96 := z_bd (z_h (c := 96) (m := 6) g0 (by decide) (by decide))
      have b48 := z_bd (z_h (c := 48) (m := 3) g0 (by decide) (by decide))
      by_cases hr : 0 < (x2 + 7) / 8 - (Q 23 0 (ix (96 + x1)) + 7) / 8
      · obtain ⟨r, r1, r2, r3⟩ := d_room h kd ((x2 + 7) / 8 - (Q 23 0 (ix (96 + x1)) + 7) / 8)
        rcases r1 with rfl | rfl
        · refine ⟨-5, P, Q, h, fun p hp => ?_, fun p hp => ?_⟩
          · unfold F_X7_resize
            refine br_f hx (g4 _ (br_f i2 (br_f i3 (c_rec _ _ (c_rec _ _ ?_)))))
            (try dsimp only)
            rw [k4, k1]
            exact br_t hr (r2 _ (br_t rfl hp))
          · unfold F_X8_resize
            exact br_f hx (g5 _ (br_f (by decide) (m_inT (x := x2) (lo := 1) (hi := 24) hn _ (br_f (by decide) ⟨b96, m_rec _ _ (m_rec _ _ (br_t hr ⟨b48, r3 _ (br_t rfl hp)⟩))⟩))))
        · refine ⟨Q 23 0 (ix (96 + x1)), P1, Q1, q1, fun p hp => ?_, fun p hp => ?_⟩
          · unfold F_X7_resize
            refine br_f hx (g4 _ (br_f i2 (br_f i3 (c_rec _ _ (c_rec _ _ ?_)))))
            (try dsimp only)
            rw [k4, k1]
            exact br_t hr (r2 _ (br_f (by decide) (q2 _ hp)))
          · unfold F_X8_resize
            exact br_f hx (g5 _ (br_f (by decide) (m_inT (x := x2) (lo := 1) (hi := 24) hn _ (br_f (by decide) ⟨b96, m_rec _ _ (m_rec _ _ (br_t hr ⟨b48, r3 _ (br_f (by decide) (q3 _ hp))⟩))⟩))))
      · refine ⟨Q 23 0 (ix (96 + x1)), P1, Q1, q1, fun p hp => ?_, fun p hp => ?_⟩
        · unfold F_X7_resize
          refine br_f hx (g4 _ (br_f i2 (br_f i3 (c_rec _ _ (c_rec _ _ ?_)))))
          (try dsimp only)
          rw [k4]
          exact br_f hr (q2 _ hp)
        · unfold F_X8_resize
          exact br_f hx (g5 _ (br_f (by decide) (m_inT (x := x2) (lo := 1) (hi := 24) hn _ (br_f (by decide) ⟨b96, m_rec _ _ (m_rec _ _ (br_f hr (q3 _ hp)))⟩))))
    · refine ⟨-1, P, Q, h, fun p hp => ?_, fun p hp => ?_⟩
      · unfold F_X7_resize
        refine br_f hx (g4 _ ?_)
        rcases z_no24 hx hn with q | ⟨q, q'⟩
        · exact br_t q hp
        · exact br_f q (br_t q' hp)
      · unfold F_X8_resize
        exact br_f hx (g5 _ (br_f (by decide) (m_inF (x := x2) (lo := 1) (hi := 24) hn _ (br_t rfl hp))))
  · refine ⟨-1, P, Q, h, fun p hp => ?_, fun p hp => ?_⟩
    · unfold F_X7_resize
      exact br_f hx (g4 _ hp)
    · unfold F_X8_resize
      exact br_f hx (g5 _ (br_t rfl hp))
