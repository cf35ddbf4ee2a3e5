/-! segment -/
def HQ (Q : VP) (s d m n : Int32) : VP := vup (vup (vup (vup (vup (vup (vup (vup (vup (vup (vup Q 23 0 (ix 1) (Q 23 0 (ix 1) + 1)) 23 0 (ix (32 + s)) 1) 23 0 (ix (48 + s)) d) 23 0 (ix (64 + s)) m) 23 0 (ix (80 + s)) (Q 23 0 (ix 1) + 1)) 23 0 (ix (96 + s)) n) 23 0 (ix (112 + s)) 4) 23 0 (ix (128 + s)) 4) 23 0 (ix (144 + s)) 4) 23 0 (ix (160 + s)) 7) 23 0 (ix (176 + s)) 0
def HP (P : VP) (y : Nat) (d m : Int32) : VP := vup (vup (vup (vup (vup (vup (vup (vup (vup P 2 0 5 (P 2 0 5 + 1)) 7 y 0 1) 7 y 1 d) 7 y 2 m) 7 y 3 (P 2 0 5 + 1)) 7 y 5 4) 7 y 6 4) 7 y 7 4) 7 y 8 7
theorem HP_at (P : VP) (y : Nat) (d m : Int32) : HP P y d m 2 0 5 = P 2 0 5 + 1 ∧ HP P y d m 7 y 0 = 1 ∧ HP P y d m 7 y 1 = d ∧ HP P y d m 7 y 2 = m ∧ HP P y d m 7 y 3 = P 2 0 5 + 1 ∧ HP P y d m 7 y 5 = 4 ∧ HP P y d m 7 y 6 = 4 ∧ HP P y d m 7 y 7 = 4 ∧ HP P y d m 7 y 8 = 7 ∧ HP P y d m 7 y 4 = P 7 y 4 ∧ HP P y d m 7 y 9 = P 7 y 9 := by
  unfold HP
  refine ⟨?_, ?_, ?_, ?_, ?_, ?_, ?_, ?_, ?_, ?_, ?_⟩ <;> simp [vup]
theorem HP_ne {P : VP} {y : Nat} {d m : Int32} {k x j : Nat} (h : ¬ (k = 7 ∧ x = y)) (h2 : ¬ (k = 2 ∧ j = 5)) : HP P y d m k x j = P k x j := by
  unfold HP
  rw [vup_ne (by omega), vup_ne (by omega), vup_ne (by omega), vup_ne (by omega), vup_ne (by omega), vup_ne (by omega), vup_ne (by omega), vup_ne (by omega), vup_ne (by omega)]
theorem HP_BI {P : VP} {y : Nat} {d m : Int32} (h : BI P) : BI (HP P y d m) := by
  unfold HP
  have h0 : BI (vup P 2 0 5 (P 2 0 5 + 1)) := BI_eq h (fun k x j k0 _ => kup_ne (by omega))
  exact BI_h (BI_h (BI_h (BI_h (BI_h (BI_h (BI_h (BI_h h0 (by decide) (fun _ => Or.inr rfl) (fun q => absurd q (by decide))) (by decide) (fun q => absurd q (by decide)) (fun q => absurd q (by decide))) (by decide) (fun q => absurd q (by decide)) (fun q => absurd q (by decide))) (by decide) (fun q => absurd q (by decide)) (fun q => absurd q (by decide))) (by decide) (fun q => absurd q (by decide)) (fun q => absurd q (by decide))) (by decide) (fun q => absurd q (by decide)) (fun q => absurd q (by decide))) (by decide) (fun q => absurd q (by decide)) (fun q => absurd q (by decide))) (by decide) (fun q => absurd q (by decide)) (fun q => absurd q (by decide))
theorem HP_PU (P : VP) (y : Nat) (d m : Int32) : PU P (HP P y d m) (TT y) := by
  unfold HP
  exact PU_s (PU_s (PU_s (PU_s (PU_s (PU_s (PU_s (PU_s (PU_s (PU_r _ _) (Or.inr ⟨rfl, rfl⟩)) (Or.inl ⟨by decide, rfl⟩)) (Or.inl ⟨by decide, rfl⟩)) (Or.inl ⟨by decide, rfl⟩)) (Or.inl ⟨by decide, rfl⟩)) (Or.inl ⟨by decide, rfl⟩)) (Or.inl ⟨by decide, rfl⟩)) (Or.inl ⟨by decide, rfl⟩)) (Or.inl ⟨by decide, rfl⟩)
theorem HQ_at {Q : VP} {s d m n : Int32} (hs : 0 ≤ s ∧ s < 16) : HQ Q s d m n 23 0 (ix 1) = Q 23 0 (ix 1) + 1 ∧ HQ Q s d m n 23 0 (ix (32 + s)) = 1 ∧ HQ Q s d m n 23 0 (ix (48 + s)) = d ∧ HQ Q s d m n 23 0 (ix (64 + s)) = m ∧ HQ Q s d m n 23 0 (ix (80 + s)) = (Q 23 0 (ix 1) + 1) ∧ HQ Q s d m n 23 0 (ix (96 + s)) = n ∧ HQ Q s d m n 23 0 (ix (112 + s)) = 4 ∧ HQ Q s d m n 23 0 (ix (128 + s)) = 4 ∧ HQ Q s d m n 23 0 (ix (144 + s)) = 4 ∧ HQ Q s d m n 23 0 (ix (160 + s)) = 7 ∧ HQ Q s d m n 23 0 (ix (176 + s)) = 0 := by
  have i32 := z_cp (c := 32) hs (by decide)
  have i48 := z_cp (c := 48) hs (by decide)
  have i64 := z_cp (c := 64) hs (by decide)
  have i80 := z_cp (c := 80) hs (by decide)
  have i96 := z_cp (c := 96) hs (by decide)
  have i112 := z_cp (c := 112) hs (by decide)
  have i128 := z_cp (c := 128) hs (by decide)
  have i144 := z_cp (c := 144) hs (by decide)
  have i160 := z_cp (c := 160) hs (by decide)
  have i176 := z_cp (c := 176) hs (by decide)
  unfold HQ
  refine ⟨?_, ?_, ?_, ?_, ?_, ?_, ?_, ?_, ?_, ?_, ?_⟩
  · rw [qup_ne i176 (by decide) (z_1c hs (by decide)), qup_ne i160 (by decide) (z_1c hs (by decide)), qup_ne i144 (by decide) (z_1c hs (by decide)), qup_ne i128 (by decide) (z_1c hs (by decide)), qup_ne i112 (by decide) (z_1c hs (by decide)), qup_ne i96 (by decide) (z_1c hs (by decide)), qup_ne i80 (by decide) (z_1c hs (by decide)), qup_ne i64 (by decide) (z_1c hs (by decide)), qup_ne i48 (by decide) (z_1c hs (by decide)), qup_ne i32 (by decide) (z_1c hs (by decide)), vup_eq]
  · rw [qup_ne i176 i32 (z_add (by decide)), qup_ne i160 i32 (z_add (by decide)), qup_ne i144 i32 (z_add (by decide)), qup_ne i128 i32 (z_add (by decide)), qup_ne i112 i32 (z_add (by decide)), qup_ne i96 i32 (z_add (by decide)), qup_ne i80 i32 (z_add (by decide)), qup_ne i64 i32 (z_add (by decide)), qup_ne i48 i32 (z_add (by decide)), vup_eq]
  · rw [qup_ne i176 i48 (z_add (by decide)), qup_ne i160 i48 (z_add (by decide)), qup_ne i144 i48 (z_add (by decide)), qup_ne i128 i48 (z_add (by decide)), qup_ne i112 i48 (z_add (by decide)), qup_ne i96 i48 (z_add (by decide)), qup_ne i80 i48 (z_add (by decide)), qup_ne i64 i48 (z_add (by decide)), vup_eq]
  · rw [qup_ne i176 i64 (z_add (by decide)), qup_ne i160 i64 (z_add (by decide)), qup_ne i144 i64 (z_add (by decide)), qup_ne i128 i64 (z_add (by decide)), qup_ne i112 i64 (z_add (by decide)), qup_ne i96 i64 (z_add (by decide)), qup_ne i80 i64 (z_add (by decide)), vup_eq]
  · rw [qup_ne i176 i80 (z_add (by decide)), qup_ne i160 i80 (z_add (by decide)), qup_ne i144 i80 (z_add (by decide)), qup_ne i128 i80 (z_add (by decide)), qup_ne i112 i80 (z_add (by decide)), qup_ne i96 i80 (z_add (by decide)), vup_eq]
  · rw [qup_ne i176 i96 (z_add (by decide)), qup_ne i160 i96 (z_add (by decide)), qup_ne i144 i96 (z_add (by decide)), qup_ne i128 i96 (z_add (by decide)), qup_ne i112 i96 (z_add (by decide)), vup_eq]
  · rw [qup_ne i176 i112 (z_add (by decide)), qup_ne i160 i112 (z_add (by decide)), qup_ne i144 i112 (z_add (by decide)), qup_ne i128 i112 (z_add (by decide)), vup_eq]
  · rw [qup_ne i176 i128 (z_add (by decide)), qup_ne i160 i128 (z_add (by decide)), qup_ne i144 i128 (z_add (by decide)), vup_eq]
  · rw [qup_ne i176 i144 (z_add (by decide)), qup_ne i160 i144 (z_add (by decide)), vup_eq]
  · rw [qup_ne i176 i160 (z_add (by decide)), vup_eq]
  · rw [vup_eq]
theorem z_a0 {a : Int32} (ha : 0 ≤ a ∧ a < 32 ∨ 192 ≤ a) : 0 ≤ a := by lia
theorem z_ac {s c a : Int32} (hs : 0 ≤ s ∧ s < 16) (hc : 32 ≤ c ∧ c < 177) (ha : 0 ≤ a ∧ a < 32 ∨ 192 ≤ a) : ¬ a = c + s := by lia
theorem HQ_ne {Q : VP} {s d m n a : Int32} (hs : 0 ≤ s ∧ s < 16) (ha : 0 ≤ a ∧ a < 32 ∨ 192 ≤ a) (h1 : ¬ a = 1) : HQ Q s d m n 23 0 (ix a) = Q 23 0 (ix a) := by
  have a0 : 0 ≤ a := z_a0 ha
  have i32 := z_cp (c := 32) hs (by decide)
  have i48 := z_cp (c := 48) hs (by decide)
  have i64 := z_cp (c := 64) hs (by decide)
  have i80 := z_cp (c := 80) hs (by decide)
  have i96 := z_cp (c := 96) hs (by decide)
  have i112 := z_cp (c := 112) hs (by decide)
  have i128 := z_cp (c := 128) hs (by decide)
  have i144 := z_cp (c := 144) hs (by decide)
  have i160 := z_cp (c := 160) hs (by decide)
  have i176 := z_cp (c := 176) hs (by decide)
  unfold HQ
  rw [qup_ne i176 a0 (z_ac hs (by decide) ha), qup_ne i160 a0 (z_ac hs (by decide) ha), qup_ne i144 a0 (z_ac hs (by decide) ha), qup_ne i128 a0 (z_ac hs (by decide) ha), qup_ne i112 a0 (z_ac hs (by decide) ha), qup_ne i96 a0 (z_ac hs (by decide) ha), qup_ne i80 a0 (z_ac hs (by decide) ha), qup_ne i64 a0 (z_ac hs (by decide) ha), qup_ne i48 a0 (z_ac hs (by decide) ha), qup_ne i32 a0 (z_ac hs (by decide) ha), qup_ne (by decide) a0 h1]
theorem HQ_QU {Q : VP} {s d m n : Int32} (hs : 0 ≤ s ∧ s < 16) : QU Q (HQ Q s d m n) (SS s) := by
  unfold HQ
  exact QU_s (QU_s (QU_s (QU_s (QU_s (QU_s (QU_s (QU_s (QU_s (QU_s (QU_s (QU_r _ _) (by decide) (Or.inl rfl)) (z_cp hs (by decide)) (SS_c (m := 2) hs (by decide) (by decide))) (z_cp hs (by decide)) (SS_c (m := 3) hs (by decide) (by decide))) (z_cp hs (by decide)) (SS_c (m := 4) hs (by decide) (by decide))) (z_cp hs (by decide)) (SS_c (m := 5) hs (by decide) (by decide))) (z_cp hs (by decide)) (SS_c (m := 6) hs (by decide) (by decide))) (z_cp hs (by decide)) (SS_c (m := 7) hs (by decide) (by decide))) (z_cp hs (by decide)) (SS_c (m := 8) hs (by decide) (by decide))) (z_cp hs (by decide)) (SS_c (m := 9) hs (by decide) (by decide))) (z_cp hs (by decide)) (SS_c (m := 10) hs (by decide) (by decide))) (z_cp hs (by decide)) (SS_c (m := 11) hs (by decide) (by decide))
theorem z_wa2 {a : Int32} (h : 200 ≤ a) : (0 ≤ a ∧ a < 32 ∨ 192 ≤ a) ∧ ¬ a = 1 := by lia
theorem RR_seg {P Q P1 P' Q' : VP} {s d m n : Int32} (h : RR P Q) (hs : 0 ≤ s ∧ s < 16) (hd : 0 ≤ d ∧ d < Q 23 0 (ix 0)) (hn : 1 ≤ n ∧ n ≤ 24) (c1 : CL (16 * 0 + ix s) 0 (HP P (16 * 0 + ix s) d m) P1) (c2 : CL (16 * 0 + ix s) n P1 P') (mz : MZ s 0 (HQ Q s d m n) Q') : RR P' Q' := by
  obtain ⟨hB, m1, m2, m3, m4, m5⟩ := And.intro h.1 h.2.1
  have e5 := m2.2.1
  have n0 := z_1 hn.1
  obtain ⟨p5, h0, h1, h2, h3, h5, h6, h7, h8, h4, h9⟩ := HP_at P (16 * 0 + ix s) d m
  obtain ⟨q1, q32, q48, q64, q80, q96, q112, q128, q144, q160, q176⟩ := HQ_at (Q := Q) (d := d) (m := m) (n := n) hs
  have lo : ∀ a : Int32, 0 ≤ a ∧ a < 192 → Q' 23 0 (ix a) = HQ Q s d m n 23 0 (ix a) := fun a ha => MZ_lo mz hs (by decide) ha
  have lc : ∀ c k : Int32, c = 16 * k → 2 ≤ k ∧ k < 12 → Q' 23 0 (ix (c + s)) = HQ Q s d m n 23 0 (ix (c + s)) := fun c k hc hk => lo _ (z_lh (z_h hs hc hk))
  have f : ∀ j, ¬ j = 4 → ¬ j = 9 → P' 7 (16 * 0 + ix s) j = HP P (16 * 0 + ix s) d m 7 (16 * 0 + ix s) j := fun j a b => (c2.2.1 j a b).trans (c1.2.1 j a b)
  have hB1 := CL_BI (HP_BI hB) (by decide) c1
  have f9 : P' 7 (16 * 0 + ix s) 9 = 0 := by
    rw [c2.2.2.2.1, c1.2.2.2.1, h9, (imin_z (hB.2.2.2.2.2 _)).1, (imin_z n0).2]
  have f25 : ∀ j, P' 2 0 j = HP P (16 * 0 + ix s) d m 2 0 j := fun j => (c2.1 2 0 j (by omega)).trans (c1.1 2 0 j (by omega))
  have l1 : Q' 23 0 (ix 1) = Q 23 0 (ix 1) + 1 := by rw [lo 1 (by decide), q1]
  refine seg_up h hs (PU_t (HP_PU _ _ _ _) (PU_t (CL_PU c1) (CL_PU c2))) (QU_t (HQ_QU hs) (MZ_QU mz hs (by decide))) (CL_BI hB1 ⟨n0, hn.2⟩ c2) ?_ ?_ ?_ ?_ (fun _ => ?_) (fun _ u u0 u1 => ?_)
  · rw [f25]; exact HP_ne (by omega) (by omega)
  · rw [f25]; exact HP_ne (by omega) (by omega)
  · rw [f25, p5, l1, e5]
  · rw [f 0 (by decide) (by decide), h0, lc 32 2 (by decide) (by decide), q32]
  · unfold RH
    rw [f 1 (by decide) (by decide), f 2 (by decide) (by decide), f 3 (by decide) (by decide), c2.2.2.1, f 5 (by decide) (by decide), f 6 (by decide) (by decide), f 7 (by decide) (by decide), f 8 (by decide) (by decide), f9, h1, h2, h3, h5, h6, h7, h8, lc 48 3 (by decide) (by decide), lc 64 4 (by decide) (by decide), lc 80 5 (by decide) (by decide), lc 96 6 (by decide) (by decide), lc 112 7 (by decide) (by decide), lc 128 8 (by decide) (by decide), lc 144 9 (by decide) (by decide), lc 160 10 (by decide) (by decide), lc 176 11 (by decide) (by decide), q48, q64, q80, q96, q112, q128, q144, q160, q176, lo 0 (by decide), HQ_ne hs (by decide) (by decide)]
    exact ⟨rfl, rfl, by rw [e5], rfl, rfl, rfl, rfl, rfl, rfl, hd, hn, by decide, by decide, by decide, by decide⟩
  · obtain ⟨f0, f1, f2, f3, f4, f5⟩ := mz.2.2 u u0 u1
    have z : P' 8 (16 * 0 + ix s) (ix u) = 0 ∧ P' 9 (16 * 0 + ix s) (ix u) = 0 ∧ P' 10 (16 * 0 + ix s) (ix u) = 0 := by
      by_cases q : u < n
      · obtain ⟨a1, a2, a3⟩ := c2.2.2.2.2.1 u u0 q
        rw [a1, a2, a3]
        exact c1.2.2.2.2.2 u u0 u1
      · exact c2.2.2.2.2.2 u (z_nl q) u1
    rw [z.1, z.2.1, z.2.2, f0, f1, f2, f3, f4, f5]
    exact ⟨rfl, Or.inl ⟨rfl, rfl, rfl⟩⟩
theorem D_segment {P Q : VP} (h : RR P Q) (x1 x2 x3 : Int32) : ∃ r P1 Q1, RR P1 Q1 ∧ Am (F_X7_segment x1 x2 x3 P) r P1 ∧ Am (F_X8_segment x1 x2 x3 Q) r Q1 := by
  by_cases hx : x3 < 0
  · refine ⟨-14, P, Q, h, fun p hp => ?_, fun p hp => ?_⟩
    · unfold F_X7_segment
      exact br_t hx hp
    · unfold F_X8_segment
      exact br_t hx hp
  rcases d_isDir h.2.1.2.1 x1 with ⟨g1, g2, g3⟩ | ⟨g1, g2, g3⟩
  · by_cases h2 : 0 ≤ x2 ∧ x2 < 26
    · by_cases hn : 1 ≤ x3 ∧ x3 ≤ 24
      · obtain ⟨i1, i2, i3⟩ := z_124 hn
        obtain ⟨l, hl⟩ := LF_ex Q
        have cl := c_least h.2.1.2.2.1 h.1 hl
        by_cases h16 : l = 16
        · rw [if_pos h16] at cl
          refine ⟨-3, P, Q, h, fun p hp => ?_, fun p hp => ?_⟩
          · unfold F_X7_segment
            exact br_f hx (g2 _ (br_f (by decide) (c_belowT h2 _ (br_f (by decide) (br_f i2 (br_f i3 (cl _ (br_t (by decide) hp))))))))
          · unfold F_X8_segment
            refine br_f hx (g3 _ (br_f (by decide) (m_inT (x := x2) (lo := 0) (hi := 25) ⟨h2.1, by lia⟩ _ (br_f (by decide) (m_inT (x := x3) (lo := 1) (hi := 24) hn _ (br_f (by decide) (m_least hl _ _ _ _ ?_)))))))
            unfold F_X8_segment_b71
            exact br_t h16 hp
        · rw [if_neg h16] at cl
          have hl16 : 0 ≤ l ∧ l < 16 := (LF_r hl).1.resolve_left h16
          have hl0 : ¬ l < 0 := z_nl2 hl16.1
          obtain ⟨r, hr⟩ := NM_ex 23 Q x1 x2
          have n1 := c_named h.2.1.2.2.1 h.1 hr
          have n2 := m_named hr
          by_cases hr0 : r < 0
          · obtain ⟨w, w1, w2, w3⟩ := d_room h g1 ((x3 + 7) / 8)
            rcases w1 with rfl | rfl
            · refine ⟨-5, P, Q, h, fun p hp => ?_, fun p hp => ?_⟩
              · unfold F_X7_segment
                exact br_f hx (g2 _ (br_f (by decide) (c_belowT h2 _ (br_f (by decide) (br_f i2 (br_f i3 (cl _ (br_f hl0 (n1 _ (br_t hr0 (c_rec _ _ (w2 _ (br_t rfl hp)))))))))))))
              · unfold F_X8_segment
                refine br_f hx (g3 _ (br_f (by decide) (m_inT (x := x2) (lo := 0) (hi := 25) ⟨h2.1, by lia⟩ _ (br_f (by decide) (m_inT (x := x3) (lo := 1) (hi := 24) hn _ (br_f (by decide) (m_least hl _ _ _ _ ?_)))))))
                unfold F_X8_segment_b71
                exact br_f h16 (n2 _ (br_t hr0 (m_rec _ _ (w3 _ (br_t rfl hp)))))
            · obtain ⟨P1, c1, k1⟩ := c_change (n := 0) (y := 16 * 0 + ix l) (HP_BI (y := 16 * 0 + ix l) (d := x1) (m := x2) h.1) (by decide)
              obtain ⟨P2, c2, k2⟩ := c_change (n := x3) (y := 16 * 0 + ix l) (CL_BI (HP_BI h.1) (by decide) c1) ⟨z_1 hn.1, hn.2⟩
              obtain ⟨Q2, mz, k3⟩ := m_zero (v0 := 0) (Q := HQ Q l x1 x2 x3) hl16 (by decide) (fun p => F_X8_segment_l238 x1 x2 x3 (fun _ Q => p Q) l) (fun p X v Q => rfl)
              refine ⟨l, P2, Q2, RR_seg h hl16 g1 hn c1 c2 mz, fun p hp => ?_, fun p hp => ?_⟩
              · unfold F_X7_segment F_X6_makeSegment F_X6_makeSegment_b23
                refine br_f hx (g2 _ (br_f (by decide) (c_belowT h2 _ (br_f (by decide) (br_f i2 (br_f i3 (cl _ (br_f hl0 (n1 _ (br_t hr0 (c_rec _ _ (w2 _ (br_f (by decide) (br_f hl0 (br_t hl16.2 ⟨hl16, ?_⟩)))))))))))))))
                intro A0 e0 A1 e1 A2 e2 A3 e3 A4 e4 A5 e5 A6 e6 A7 e7 A8 e8
                have hA : A8 = HP P (16 * 0 + ix l) x1 x2 := by
                  subst e0 e1 e2 e3
                  rw [kup_ne (by decide), kup_ne (by decide), kup_ne (by decide), vup_eq] at e4
                  subst e4 e5 e6 e7 e8
                  rfl
                rw [hA]
                exact k1 _ (k2 _ hp)
              · unfold F_X8_segment
                refine br_f hx (g3 _ (br_f (by decide) (m_inT (x := x2) (lo := 0) (hi := 25) ⟨h2.1, by lia⟩ _ (br_f (by decide) (m_inT (x := x3) (lo := 1) (hi := 24) hn _ (br_f (by decide) (m_least hl _ _ _ _ ?_)))))))
                unfold F_X8_segment_b71
                have b : ∀ c k : Int32, c = 16 * k → 2 ≤ k ∧ k < 12 → 0 ≤ c + l ∧ c + l < 3464 := fun c k hc hk => z_bd (z_h hl16 hc hk)
                refine br_f h16 (n2 _ (br_t hr0 (m_rec _ _ (w3 _ (br_f (by decide) ⟨⟨by decide, by decide⟩, ⟨⟨by decide, by decide⟩, fun B1 e1 => ⟨b 32 2 (by decide) (by decide), fun B2 e2 => ⟨b 48 3 (by decide) (by decide), fun B3 e3 => ⟨b 64 4 (by decide) (by decide), fun B4 e4 => ⟨⟨by decide, by decide⟩, ⟨b 80 5 (by decide) (by decide), fun B5 e5 => ⟨b 96 6 (by decide) (by decide), fun B6 e6 => ⟨b 112 7 (by decide) (by decide), fun B7 e7 => ⟨b 128 8 (by decide) (by decide), fun B8 e8 => ⟨b 144 9 (by decide) (by decide), fun B9 e9 => ⟨b 160 10 (by decide) (by decide), fun B10 e10 => ⟨b 176 11 (by decide) (by decide), fun B11 e11 => ?_⟩⟩⟩⟩⟩⟩⟩⟩⟩⟩⟩⟩⟩)))))
                have hA : B11 = HQ Q l x1 x2 x3 := by
                  have j1 := z_1c hl16 (c := 32) (by decide)
                  have j2 := z_1c hl16 (c := 48) (by decide)
                  have j3 := z_1c hl16 (c := 64) (by decide)
                  subst e1 e2 e3 e4
                  rw [qup_ne (z_cp hl16 (by decide)) (by decide) j3, qup_ne (z_cp hl16 (by decide)) (by decide) j2, qup_ne (z_cp hl16 (by decide)) (by decide) j1, vup_eq] at e5
                  subst e5 e6 e7 e8 e9 e10 e11
                  rfl
                rw [hA]
                exact k3 (fun Q1 => p _ Q1) hp
          · refine ⟨-5, P, Q, h, fun p hp => ?_, fun p hp => ?_⟩
            · unfold F_X7_segment
              exact br_f hx (g2 _ (br_f (by decide) (c_belowT h2 _ (br_f (by decide) (br_f i2 (br_f i3 (cl _ (br_f hl0 (n1 _ (br_f hr0 hp))))))))))
            · unfold F_X8_segment
              refine br_f hx (g3 _ (br_f (by decide) (m_inT (x := x2) (lo := 0) (hi := 25) ⟨h2.1, by lia⟩ _ (br_f (by decide) (m_inT (x := x3) (lo := 1) (hi := 24) hn _ (br_f (by decide) (m_least hl _ _ _ _ ?_)))))))
              unfold F_X8_segment_b71
              exact br_f h16 (n2 _ (br_f hr0 hp))
      · refine ⟨-1, P, Q, h, fun p hp => ?_, fun p hp => ?_⟩
        · unfold F_X7_segment
          refine br_f hx (g2 _ (br_f (by decide) (c_belowT h2 _ (br_f (by decide) ?_))))
          rcases z_no24 hx hn with q | ⟨q, q'⟩
          · exact br_t q hp
          · exact br_f q (br_t q' hp)
        · unfold F_X8_segment
          exact br_f hx (g3 _ (br_f (by decide) (m_inT (x := x2) (lo := 0) (hi := 25) ⟨h2.1, by lia⟩ _ (br_f (by decide) (m_inF (x := x3) (lo := 1) (hi := 24) hn _ (br_t rfl hp))))))
    · refine ⟨-1, P, Q, h, fun p hp => ?_, fun p hp => ?_⟩
      · unfold F_X7_segment
        exact br_f hx (g2 _ (br_f (by decide) (c_belowF h2 _ (br_t rfl hp))))
      · unfold F_X8_segment
        exact br_f hx (g3 _ (br_f (by decide) (m_inF (x := x2) (lo := 0) (hi := 25) (by lia) _ (br_t rfl hp))))
  · refine ⟨-1, P, Q, h, fun p hp => ?_, fun p hp => ?_⟩
    · unfold F_X7_segment
      exact br_f hx (g2 _ (br_t rfl hp))
    · unfold F_X8_segment
      exact br_f hx (g3 _ (br_t rfl hp))
