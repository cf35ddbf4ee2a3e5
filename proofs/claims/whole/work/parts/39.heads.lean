/-! drop, rename, brackets, set, directory, rule -/
def SH (s a : Int32) : Prop := 32 ≤ a ∧ a < 192 ∧ ∃ m : Int32, (2 ≤ m ∧ m < 12) ∧ a = 16 * m + s
theorem SH_c {s c m : Int32} (hs : 0 ≤ s ∧ s < 16) (hc : c = 16 * m) (hm : 2 ≤ m ∧ m < 12) : SH s (c + s) := ⟨by lia, by lia, m, hm, by rw [hc]⟩
theorem head_up {P Q P' Q' : VP} {s : Int32} (h : RR P Q) (hs : 0 ≤ s ∧ s < 16) (hy : P 7 (16 * 0 + ix s) 0 = 1) (hp : ∀ k x j, ¬ (k = 7 ∧ x = 16 * 0 + ix s) → P' k x j = P k x j) (hq : QU Q Q' (SH s)) (hB : BI P') (g0 : P' 7 (16 * 0 + ix s) 0 = Q' 23 0 (ix (32 + s))) (gH : P' 7 (16 * 0 + ix s) 0 = 1 → RH P' Q' 23 (16 * 0 + ix s) s) : RR P' Q' := by
  obtain ⟨-, m1, m2, m3, m4, m5⟩ := And.intro h.1 h.2.1
  have far : ∀ a : Int32, 200 ≤ a ∧ a < 2504 → Q' 23 0 (ix a) = Q 23 0 (ix a) := fun a ha => hq.2 a (by lia) (by rintro ⟨-, q, -⟩; lia)
  refine seg_up h hs (fun k x j hn => hp k x j (fun q => hn (Or.inl ⟨by omega, q.2⟩))) (QU_w hq (fun a ha => Or.inr (Or.inl ha))) hB (hp 2 0 0 (by omega)) (hp 2 0 3 (by omega)) ?_ g0 gH (fun _ w w0 w1 => ?_)
  · rw [hp 2 0 5 (by omega), hq.2 1 (by decide) (by rintro ⟨q, -⟩; lia)]
    exact m2.2.1
  · rw [hp 8 _ _ (by omega), hp 9 _ _ (by omega), hp 10 _ _ (by omega), far (wa s w) (by lia), far (wa s w + 1) (by lia), far (wa s w + 2) (by lia), far (wa s w + 3) (by lia), far (wa s w + 4) (by lia), far (wa s w + 5) (by lia)]
    exact m4 s w hs.1 hs.2 w0 w1 hy
theorem BI_h {P : VP} {y j : Nat} {v : Int32} (h : BI P) (hj : ¬ j = 4) (h0 : j = 0 → v = 0 ∨ v = 1) (h9 : j = 9 → 0 ≤ v) : BI (vup P 7 y j v) := by
  obtain ⟨a, b, c, d, e, f⟩ := h
  refine ⟨fun x => ?_, fun x => ?_, fun x w w0 w1 hw => ?_, fun x => ?_, fun x => ?_, fun x => ?_⟩
  · by_cases q : x = y ∧ j = 0
    · rw [q.1, q.2, vup_eq]; exact h0 q.2
    · rw [vup_ne (by omega)]; exact a x
  · rw [vup_ne (by omega)]; exact b x
  · rw [vup_ne (by omega)] at hw
    rw [vup_ne (by omega), vup_ne (by omega), vup_ne (by omega)]; exact c x w w0 w1 hw
  · rw [vup_ne (by omega)]; exact d x
  · rw [vup_ne (by omega)]; exact e x
  · by_cases q : x = y ∧ j = 9
    · rw [q.1, q.2, vup_eq]; exact h9 q.2
    · rw [vup_ne (by omega)]; exact f x
theorem D_drop {P Q : VP} (h : RR P Q) (x1 : Int32) : ∃ r P1 Q1, RR P1 Q1 ∧ Am (F_X7_drop x1 P) r P1 ∧ Am (F_X8_drop x1 Q) r Q1 := by
  obtain ⟨hB, ⟨hS, hD, hG, hW, hF⟩, -⟩ := id h
  rcases d_isSeg hG hB x1 with ⟨⟨g0, g1⟩, g2, g3, g4, g5⟩ | ⟨-, g4, g5⟩
  · have k4 := g3.2.2.2.1
    have e4 : vup P 7 (16 * 0 + ix x1) 0 0 7 (16 * 0 + ix x1) 4 = Q 23 0 (ix (96 + x1)) := by rw [vup_ne (by omega)]; exact k4
    have f4 : vup Q 23 0 (ix (32 + x1)) 0 23 0 (ix (96 + x1)) = Q 23 0 (ix (96 + x1)) := qup_ne (by lia) (by lia) (by lia)
    refine ⟨(Q 23 0 (ix (96 + x1)) + 7) / 8, vup P 7 (16 * 0 + ix x1) 0 0, vup Q 23 0 (ix (32 + x1)) 0, ?_, fun p hp => ?_, fun p hp => ?_⟩
    · refine head_up h g0 g2 (fun k x j hn => vup_ne (by omega)) (QU_s (QU_r _ _) (by lia) (SH_c (m := 2) g0 (by decide) (by decide))) (BI_h hB (by decide) (fun _ => Or.inl rfl) (fun q => absurd q (by decide))) ?_ (fun q => ?_)
      · rw [vup_eq, vup_eq]
      · rw [vup_eq] at q
        exact absurd q (by decide)
    · unfold F_X7_drop
      refine g4 _ (fun P20 e20 => ?_)
      subst e20
      refine c_rec _ _ ?_
      (try dsimp only)
      rw [e4]
      exact hp
    · unfold F_X8_drop
      refine g5 _ (br_f (by decide) ⟨⟨by lia, by lia⟩, fun Q19 e19 => ?_⟩)
      subst e19
      refine ⟨⟨by lia, by lia⟩, m_rec _ _ ?_⟩
      (try dsimp only)
      rw [f4]
      exact hp
  · refine ⟨-1, P, Q, h, fun p hp => ?_, fun p hp => ?_⟩
    · unfold F_X7_drop
      exact g4 _ hp
    · unfold F_X8_drop
      exact g5 _ (br_t rfl hp)
/-- one field of a head written on both sides -/
theorem RH_w {P Q : VP} {s c v : Int32} {j : Nat} (hs : 0 ≤ s ∧ s < 16) (h : RH P Q 23 (16 * 0 + ix s) s) (hc : (j = 2 ∧ c = 64) ∨ (j = 8 ∧ c = 160) ∨ (j = 9 ∧ c = 176)) : RH (vup P 7 (16 * 0 + ix s) j v) (vup Q 23 0 (ix (c + s)) v) 23 (16 * 0 + ix s) s := by
  have hp : ∀ i, ¬ i = j → vup P 7 (16 * 0 + ix s) j v 7 (16 * 0 + ix s) i = P 7 (16 * 0 + ix s) i := fun i hi => vup_ne (by omega)
  have hq : ∀ a : Int32, 0 ≤ a → ¬ a = c + s → vup Q 23 0 (ix (c + s)) v 23 0 (ix a) = Q 23 0 (ix a) := fun a a0 ha => qup_ne (by lia) a0 ha
  have ep := vup_eq P 7 (16 * 0 + ix s) j v
  have eq := vup_eq Q 23 0 (ix (c + s)) v
  obtain ⟨k1, k2, k3, k4, k5, k6, k7, k8, k9, ⟨k10, k11⟩, ⟨k12, k13⟩, k14, k15, k16, k17⟩ := h
  rcases hc with ⟨rfl, rfl⟩ | ⟨rfl, rfl⟩ | ⟨rfl, rfl⟩
  · unfold RH
    rw [hp 1 (by decide), ep, eq, hp 3 (by decide), hp 4 (by decide), hp 5 (by decide), hp 6 (by decide), hp 7 (by decide), hp 8 (by decide), hp 9 (by decide), hq (48 + s) (by lia) (by lia), hq (80 + s) (by lia) (by lia), hq (96 + s) (by lia) (by lia), hq (112 + s) (by lia) (by lia), hq (128 + s) (by lia) (by lia), hq (144 + s) (by lia) (by lia), hq (160 + s) (by lia) (by lia), hq (176 + s) (by lia) (by lia), hq 0 (by decide) (by lia)]
    exact ⟨k1, rfl, k3, k4, k5, k6, k7, k8, k9, ⟨k10, k11⟩, ⟨k12, k13⟩, k14, k15, k16, k17⟩
  · unfold RH
    rw [hp 1 (by decide), hp 2 (by decide), hp 3 (by decide), hp 4 (by decide), hp 5 (by decide), hp 6 (by decide), hp 7 (by decide), ep, eq, hp 9 (by decide), hq (48 + s) (by lia) (by lia), hq (64 + s) (by lia) (by lia), hq (80 + s) (by lia) (by lia), hq (96 + s) (by lia) (by lia), hq (112 + s) (by lia) (by lia), hq (128 + s) (by lia) (by lia), hq (144 + s) (by lia) (by lia), hq (176 + s) (by lia) (by lia), hq 0 (by decide) (by lia)]
    exact ⟨k1, k2, k3, k4, k5, k6, k7, rfl, k9, ⟨k10, k11⟩, ⟨k12, k13⟩, k14, k15, k16, k17⟩
  · unfold RH
    rw [hp 1 (by decide), hp 2 (by decide), hp 3 (by decide), hp 4 (by decide), hp 5 (by decide), hp 6 (by decide), hp 7 (by decide), hp 8 (by decide), ep, eq, hq (48 + s) (by lia) (by lia), hq (64 + s) (by lia) (by lia), hq (80 + s) (by lia) (by lia), hq (96 + s) (by lia) (by lia), hq (112 + s) (by lia) (by lia), hq (128 + s) (by lia) (by lia), hq (144 + s) (by lia) (by lia), hq (160 + s) (by lia) (by lia), hq 0 (by decide) (by lia)]
    exact ⟨k1, k2, k3, k4, k5, k6, k7, k8, rfl, ⟨k10, k11⟩, ⟨k12, k13⟩, k14, k15, k16, k17⟩
theorem RR_w {P Q : VP} {s c v : Int32} {j : Nat} (h : RR P Q) (hs : 0 ≤ s ∧ s < 16) (hy : P 7 (16 * 0 + ix s) 0 = 1) (hH : RH P Q 23 (16 * 0 + ix s) s) (hc : (j = 2 ∧ c = 64) ∨ (j = 8 ∧ c = 160) ∨ (j = 9 ∧ c = 176)) (h9 : j = 9 → 0 ≤ v) : RR (vup P 7 (16 * 0 + ix s) j v) (vup Q 23 0 (ix (c + s)) v) := by
  have hh := (h.2.1.2.2.1 s hs.1 hs.2).1
  refine head_up h hs hy (fun k x i hn => vup_ne (by omega)) (QU_s (QU_r _ _) (by lia) ?_) (BI_h h.1 (by omega) (fun q => by omega) h9) ?_ (fun _ => RH_w hs hH hc)
  · rcases hc with ⟨-, rfl⟩ | ⟨-, rfl⟩ | ⟨-, rfl⟩
    · exact SH_c (m := 4) hs (by decide) (by decide)
    · exact SH_c (m := 10) hs (by decide) (by decide)
    · exact SH_c (m := 11) hs (by decide) (by decide)
  · rw [vup_ne (by omega), qup_ne (by lia) (by lia) (by lia)]
    exact hh
theorem D_rename {P Q : VP} (h : RR P Q) (x1 x2 : Int32) : ∃ r P1 Q1, RR P1 Q1 ∧ Am (F_X7_rename x1 x2 P) r P1 ∧ Am (F_X8_rename x1 x2 Q) r Q1 := by
  obtain ⟨hB, ⟨hS, hD, hG, hW, hF⟩, -⟩ := id h
  rcases d_isSeg hG hB x1 with ⟨⟨g0, g1⟩, g2, g3, g4, g5⟩ | ⟨-, g4, g5⟩
  · by_cases h2 : 0 ≤ x2 ∧ x2 < 26
    · obtain ⟨r, hr⟩ := NM_ex 23 Q (Q 23 0 (ix (48 + x1))) x2
      have n1 : An (F_X6_named 0 (P 7 (16 * 0 + ix x1) 1) x2 P) r := by rw [g3.1]; exact c_named hG hB hr
      have n2 := m_named hr
      have k2 := g3.2.1
      by_cases h3 : r < 0 ∨ r = x1
      · refine ⟨Q 23 0 (ix (64 + x1)), vup P 7 (16 * 0 + ix x1) 2 x2, vup Q 23 0 (ix (64 + x1)) x2, RR_w h g0 g2 g3 (Or.inl ⟨rfl, rfl⟩) (fun q => absurd q (by decide)), fun p hp => ?_, fun p hp => ?_⟩
        · have hp' : ∀ P67 : VP, P67 = vup P 7 (16 * 0 + ix x1) 2 x2 → p (P 7 (16 * 0 + ix x1) 2) P67 := fun P67 e => by rw [e, k2]; exact hp
          unfold F_X7_rename
          refine g4 _ (c_belowT h2 _ (br_f (by decide) (n1 _ ?_)))
          by_cases h4 : r < 0
          · exact br_t h4 hp'
          · exact br_f h4 (br_t (h3.resolve_left h4) hp')
        · have hp' : F_X8_rename_b49 x1 x2 Q p := by
            unfold F_X8_rename_b49
            exact ⟨⟨by lia, by lia⟩, ⟨by lia, by lia⟩, fun Q69 e => by rw [e]; exact hp⟩
          unfold F_X8_rename
          refine g5 _ (br_f (by decide) (m_inT (x := x2) (lo := 0) (hi := 25) ⟨h2.1, by lia⟩ _ (br_f (by decide) ⟨⟨by lia, by lia⟩, n2 _ ?_⟩)))
          by_cases h4 : r < 0
          · exact br_t h4 hp'
          · exact br_f h4 (br_t (h3.resolve_left h4) hp')
      · refine ⟨-5, P, Q, h, fun p hp => ?_, fun p hp => ?_⟩
        · unfold F_X7_rename
          exact g4 _ (c_belowT h2 _ (br_f (by decide) (n1 _ (br_f (fun q => h3 (Or.inl q)) (br_f (fun q => h3 (Or.inr q)) hp)))))
        · unfold F_X8_rename
          exact g5 _ (br_f (by decide) (m_inT (x := x2) (lo := 0) (hi := 25) ⟨h2.1, by lia⟩ _ (br_f (by decide) ⟨⟨by lia, by lia⟩, n2 _ (br_f (fun q => h3 (Or.inl q)) (br_f (fun q => h3 (Or.inr q)) hp))⟩)))
    · refine ⟨-1, P, Q, h, fun p hp => ?_, fun p hp => ?_⟩
      · unfold F_X7_rename
        exact g4 _ (c_belowF h2 _ (br_t rfl hp))
      · unfold F_X8_rename
        exact g5 _ (br_f (by decide) (m_inF (x := x2) (lo := 0) (hi := 25) (by lia) _ (br_t rfl hp)))
  · refine ⟨-1, P, Q, h, fun p hp => ?_, fun p hp => ?_⟩
    · unfold F_X7_rename
      exact g4 _ hp
    · unfold F_X8_rename
      exact g5 _ (br_t rfl hp)
theorem D_set {P Q : VP} (h : RR P Q) (x1 x2 x3 : Int32) : ∃ r P1 Q1, RR P1 Q1 ∧ Am (F_X7_set x1 x2 x3 P) r P1 ∧ Am (F_X8_set x1 x2 x3 Q) r Q1 := by
  obtain ⟨hB, ⟨hS, hD, hG, hW, hF⟩, -⟩ := id h
  rcases d_isSeg hG hB x1 with ⟨⟨g0, g1⟩, g2, g3, g4, g5⟩ | ⟨-, g4, g5⟩
  · obtain ⟨-, -, -, k4, -, -, -, k8, k9, -⟩ := id g3
    by_cases h0 : x2 = 0
    · by_cases h3 : 0 ≤ x3 ∧ x3 ≤ 7
      · refine ⟨Q 23 0 (ix (160 + x1)), vup P 7 (16 * 0 + ix x1) 8 x3, vup Q 23 0 (ix (160 + x1)) x3, RR_w h g0 g2 g3 (Or.inr (Or.inl ⟨rfl, rfl⟩)) (fun q => absurd q (by decide)), fun p hp => ?_, fun p hp => ?_⟩
        · unfold F_X7_set
          exact g4 _ (br_f (by lia) (br_t h0 (br_f (by lia) (fun P44 e => by rw [e, k8]; exact hp))))
        · unfold F_X8_set F_X8_set_b41 F_X8_set_b62
          exact g5 _ (br_f (by decide) (m_inT (x := x2) (lo := 0) (hi := 1) (by lia) _ (br_f (by decide) (br_t h0 (m_inT (x := x3) (lo := 0) (hi := 7) h3 _ (br_f (by decide) (br_t h0 ⟨⟨by lia, by lia⟩, ⟨by lia, by lia⟩, fun Q82 e => by rw [e]; exact hp⟩)))))))
      · refine ⟨-1, P, Q, h, fun p hp => ?_, fun p hp => ?_⟩
        · unfold F_X7_set F_X7_set_b50
          refine g4 _ ?_
          by_cases h4 : x3 < 0
          · exact br_t h4 hp
          · exact br_f h4 (br_t h0 (br_t (by lia) (br_f (by lia) hp)))
        · unfold F_X8_set F_X8_set_b41
          exact g5 _ (br_f (by decide) (m_inT (x := x2) (lo := 0) (hi := 1) (by lia) _ (br_f (by decide) (br_t h0 (m_inF (x := x3) (lo := 0) (hi := 7) h3 _ (br_t rfl hp))))))
    · by_cases h1 : x2 = 1
      · by_cases h3 : 0 ≤ x3 ∧ x3 ≤ Q 23 0 (ix (96 + x1))
        · refine ⟨Q 23 0 (ix (176 + x1)), vup P 7 (16 * 0 + ix x1) 9 x3, vup Q 23 0 (ix (176 + x1)) x3, RR_w h g0 g2 g3 (Or.inr (Or.inr ⟨rfl, rfl⟩)) (fun _ => h3.1), fun p hp => ?_, fun p hp => ?_⟩
          · unfold F_X7_set F_X7_set_b50
            exact g4 _ (br_f (by lia) (br_f h0 (br_t h1 (br_f (by rw [k4]; lia) (fun P74 e => by rw [e, k9]; exact hp)))))
          · unfold F_X8_set F_X8_set_b41 F_X8_set_b62
            exact g5 _ (br_f (by decide) (m_inT (x := x2) (lo := 0) (hi := 1) (by lia) _ (br_f (by decide) (br_f h0 ⟨⟨by lia, by lia⟩, m_inT (x := x3) (lo := 0) (hi := Q 23 0 (ix (96 + x1))) h3 _ (br_f (by decide) (br_f h0 ⟨⟨by lia, by lia⟩, ⟨by lia, by lia⟩, fun Q82 e => by rw [e]; exact hp⟩))⟩))))
        · refine ⟨-1, P, Q, h, fun p hp => ?_, fun p hp => ?_⟩
          · unfold F_X7_set F_X7_set_b50
            refine g4 _ ?_
            by_cases h4 : x3 < 0
            · exact br_t h4 hp
            · exact br_f h4 (br_f h0 (br_t h1 (br_t (by rw [k4]; lia) hp)))
          · unfold F_X8_set F_X8_set_b41
            exact g5 _ (br_f (by decide) (m_inT (x := x2) (lo := 0) (hi := 1) (by lia) _ (br_f (by decide) (br_f h0 ⟨⟨by lia, by lia⟩, m_inF (x := x3) (lo := 0) (hi := Q 23 0 (ix (96 + x1))) h3 _ (br_t rfl hp)⟩))))
      · refine ⟨-1, P, Q, h, fun p hp => ?_, fun p hp => ?_⟩
        · unfold F_X7_set F_X7_set_b50
          refine g4 _ ?_
          by_cases h4 : x3 < 0
          · exact br_t h4 hp
          · exact br_f h4 (br_f h0 (br_f h1 hp))
        · unfold F_X8_set
          exact g5 _ (br_f (by decide) (m_inF (x := x2) (lo := 0) (hi := 1) (by lia) _ (br_t rfl hp)))
  · refine ⟨-1, P, Q, h, fun p hp => ?_, fun p hp => ?_⟩
    · unfold F_X7_set
      exact g4 _ hp
    · unfold F_X8_set
      exact g5 _ (br_t rfl hp)
