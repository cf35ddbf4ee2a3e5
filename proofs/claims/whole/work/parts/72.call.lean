/-! callTo ~ calls -/
def K4p (P : VP) (y : Nat) (s w e : Int32) : VP := vup (vup (vup (vup P 16 y 0 s) 16 y 1 w) 16 y 2 e) 16 y 4 0
def K4q (Q : VP) (v s w e : Int32) : VP := vup (vup (vup (vup Q 28 0 (ix (4 * v)) e) 28 0 (ix ((4 * v) + 1)) s) 28 0 (ix ((4 * v) + 2)) w) 28 0 (ix ((4 * v) + 3)) 0
theorem K4p_ne {P : VP} {y : Nat} {s w e : Int32} {k x j : Nat} (h : ¬ (k = 16 ∧ x = y)) : K4p P y s w e k x j = P k x j := by
  unfold K4p
  rw [vup_ne (by omega), vup_ne (by omega), vup_ne (by omega), vup_ne (by omega)]
theorem K4p_at (P : VP) (y : Nat) (s w e : Int32) : K4p P y s w e 16 y 0 = s ∧ K4p P y s w e 16 y 1 = w ∧ K4p P y s w e 16 y 2 = e ∧ K4p P y s w e 16 y 4 = 0 := by
  unfold K4p
  refine ⟨?_, ?_, ?_, ?_⟩ <;> simp [vup]
theorem K4q_k {Q : VP} {v s w e : Int32} {k x j : Nat} (h : ¬ k = 28) : K4q Q v s w e k x j = Q k x j := by
  unfold K4q
  rw [kup_ne h, kup_ne h, kup_ne h, kup_ne h]
theorem k_1 {v c d : Int32} (hv : 0 ≤ v ∧ v < 3) (hc : 0 ≤ c ∧ c < 4) (hd : 0 ≤ d ∧ d < 4) (h : ¬ c = d) : ¬ (4 * v) + c = (4 * v) + d := by lia
theorem k_2 {j v c d : Int32} (hj : 0 ≤ j ∧ j < 3) (hv : 0 ≤ v ∧ v < 3) (hc : 0 ≤ c ∧ c < 4) (hd : 0 ≤ d ∧ d < 4) (h : ¬ j = v) : ¬ (4 * j) + c = (4 * v) + d := by lia
theorem k_3 (v : Int32) : (4 * v) + 0 = 4 * v := by lia
theorem K4q_at {Q : VP} {v s w e : Int32} (hv : 0 ≤ v ∧ v < 3) : K4q Q v s w e 28 0 (ix (4 * v)) = e ∧ K4q Q v s w e 28 0 (ix ((4 * v) + 1)) = s ∧ K4q Q v s w e 28 0 (ix ((4 * v) + 2)) = w := by
  have p0 := (v_5 hv).1
  have p1 := (v_4 (c := 1) hv (by decide)).1
  have p2 := (v_4 (c := 2) hv (by decide)).1
  have p3 := (v_4 (c := 3) hv (by decide)).1
  unfold K4q
  refine ⟨?_, ?_, ?_⟩
  · rw [qup_ne p3 p0 (z_dn0 (by decide)), qup_ne p2 p0 (z_dn0 (by decide)), qup_ne p1 p0 (z_dn0 (by decide)), vup_eq]
  · rw [qup_ne p3 p1 (z_dne (by decide)), qup_ne p2 p1 (z_dne (by decide)), vup_eq]
  · rw [qup_ne p3 p2 (z_dne (by decide)), vup_eq]
theorem K4q_ne {Q : VP} {v j c s w e : Int32} (hj : 0 ≤ j ∧ j < 3) (hv : 0 ≤ v ∧ v < 3) (hc : 0 ≤ c ∧ c < 4) (h : ¬ j = v) : K4q Q v s w e 28 0 (ix ((4 * j) + c)) = Q 28 0 (ix ((4 * j) + c)) := by
  have p0 := (v_5 hv).1
  have p1 := (v_4 (c := 1) hv (by decide)).1
  have p2 := (v_4 (c := 2) hv (by decide)).1
  have p3 := (v_4 (c := 3) hv (by decide)).1
  have q := (v_4 hj hc).1
  have n0 : ¬ (4 * j) + c = 4 * v := by
    have := k_2 (d := 0) hj hv hc (by decide) h
    rw [k_3] at this
    exact this
  unfold K4q
  rw [qup_ne p3 q (k_2 hj hv hc (by decide) h), qup_ne p2 q (k_2 hj hv hc (by decide) h), qup_ne p1 q (k_2 hj hv hc (by decide) h), qup_ne p0 q n0]
theorem K4q_ne0 {Q : VP} {v j s w e : Int32} (hj : 0 ≤ j ∧ j < 3) (hv : 0 ≤ v ∧ v < 3) (h : ¬ j = v) : K4q Q v s w e 28 0 (ix (4 * j)) = Q 28 0 (ix (4 * j)) := by
  have := K4q_ne (Q := Q) (s := s) (w := w) (e := e) (c := 0) hj hv (by decide) h
  rw [k_3] at this
  exact this
theorem BL_of {i : Nat} {P P' : VP} {s w e o n : Int32} (h : BL i P s w e o n) (hp : ∀ j, P' 14 (49 * i + 48) j = P 14 (49 * i + 48) j) : BL i P' s w e o n := by
  unfold BL at h ⊢
  rw [hp 0, hp 1, hp 2, hp 3, hp 4]
  exact h
/-- all operands, the copies, the frame -/
theorem d_call1 {i κ : Nat} {P0 Q0 P Q : VP} {s w e o n ts tw t xw : Int32} (hA : AB i κ P0 Q0 P Q) (hκ : vlI κ = 3464) (h28 : ¬ κ = 28) (hk22 : ¬ κ = 22) (ht : 0 ≤ t ∧ t < 8) (hb : BL i P s (w + 1) e o n) (hn : 0 ≤ n ∧ n ≤ 3) (ho : o = 0 ∨ o = 1) (he : 0 ≤ e ∧ e < 8) (hqs : Q κ 0 (ix 3) = s) (hqe : Q κ 0 (ix 5) = e) : ∃ r P1 Q1, CE i κ P0 Q0 Q r P1 Q1 ∧ (∀ post : Int32 → VP → Prop, post r P1 → vL2 (F_X2_callTo_l123 i xw n post ts tw t) 0 P) ∧ (∀ post : Int32 → VP → Prop, post r Q1 → vL2 (F_X8_calls_l86 κ s w xw n post e ts tw t o) 0 Q) := by
  obtain ⟨r, P1, Q1, g1, g2, g3⟩ := lq2_2 (ρ := Int32) (fun p => F_X2_callTo_l123 i xw n p ts tw t) (fun p => F_X8_calls_l86 κ s w xw n p e ts tw t o)
    (fun a P' b Q' => a = b ∧ (0 ≤ a ∧ a ≤ n) ∧ AB i κ P0 Q0 P' Q' ∧ BL i P' s (w + 1) e o n ∧ (∀ j : Int32, 0 ≤ j → j < a → BG i P' Q' j) ∧ ∀ a : Int32, 3 ≤ a ∧ a < 7 → Q' κ 0 (ix a) = Q κ 0 (ix a))
    (fun r P1 Q1 => CE i κ P0 Q0 Q r P1 Q1) (fun a _ => ix (3 - a)) (fun a P' b Q' ⟨hab, ⟨a0, an⟩, hA', hb', hg', hq'⟩ => by
      subst hab
      by_cases hv : a < n
      · obtain ⟨w1, w2, w3, w4⟩ := u_6 a0 hv hn.2
        have hS' := hA'.2.2.2.2
        have ha3 : ix a < 3 := ix_b (N := 3) (by decide) rfl w2.1 w2.2
        obtain ⟨rr, P2, Q2, ⟨hW, hL⟩, f1, f2⟩ := d_walk (f := 1) (Or.inr rfl) hA'.2.2.1 hA'.2.2.2.1 hκ hk22 s ((xw + 1) + a) e he
        obtain ⟨hA2, e1, e2⟩ := WK_AB hS' hW
        have hA3 := AB_t hA' hA2
        have p2 : P' 1 i 2 = s := by rw [hS'.1, hq' 3 (by decide)]; exact hqs
        have p4 : P' 1 i 4 = e := by rw [hS'.2.1, hq' 5 (by decide)]; exact hqe
        by_cases h0 : rr = 0
        · subst h0
          obtain ⟨l7, l8, l9, -⟩ := hL rfl
          have e14 : ∀ j, P2 14 (49 * i + 48) j = P' 14 (49 * i + 48) j := fun j => hW.1 14 _ j (by omega) (by omega)
          have e16 : ∀ x j, P2 16 x j = P' 16 x j := fun x j => hW.1 16 x j (by omega) (by omega)
          have e28 : ∀ j, Q2 28 0 j = Q' 28 0 j := fun j => hW.2.1.1 28 0 j (fun q => h28 q.symm) (by omega)
          have ar := (c_argAt (P := P2) (x := 49 * i + 48) a0 ((e14 4).trans hb'.2.2.2.2) hn.2).1 hv
          refine Or.inl ⟨a + 1, K4p P2 (3 * (49 * i + 48) + ix a) (Q2 22 0 14) (Q2 22 0 15) (Q2 22 0 13), a + 1, K4q Q2 a (Q2 22 0 14) (Q2 22 0 15) (Q2 22 0 13), ⟨rfl, w1, ?_, ?_, fun j j0 jn => ?_, fun c hc => ?_⟩, ix_lt w3 w4, fun p X hX => ?_, fun p X hX => ?_⟩
          · refine AB_b hA3 (fun k x j _ n2 => K4p_ne (fun q => n2 ⟨q.1, by omega⟩)) (fun k x j hk => K4q_k hk) h28 ?_
            unfold K4p
            exact BI_16 (BI_16 (BI_16 (BI_16 hA3.2.2.1 (fun q => absurd q (by decide))) (fun q => absurd q (by decide))) (fun q => absurd q (by decide))) (fun _ => Or.inl rfl)
          · exact BL_of hb' (fun j => (K4p_ne (by omega)).trans (e14 j))
          · have j3 : 0 ≤ j ∧ j < 3 := ⟨j0, z_w3 (z_lt jn w1.2) hn.2⟩
            by_cases hj : j = a
            · subst hj
              obtain ⟨t0, t1, t2, t3⟩ := K4p_at P2 (3 * (49 * i + 48) + ix j) (Q2 22 0 14) (Q2 22 0 15) (Q2 22 0 13)
              obtain ⟨y0, y1, y2⟩ := K4q_at (Q := Q2) (s := Q2 22 0 14) (w := Q2 22 0 15) (e := Q2 22 0 13) w2
              exact ⟨t2.trans y0.symm, t0.trans y1.symm, t1.trans y2.symm, t3⟩
            · have hne := ix_ne j0 a0 hj
              obtain ⟨z0, z1, z2, z3⟩ := hg' j j0 (u_9 jn a0 w2.2 hj)
              have z : ∀ c, K4p P2 (3 * (49 * i + 48) + ix a) (Q2 22 0 14) (Q2 22 0 15) (Q2 22 0 13) 16 (3 * (49 * i + 48) + ix j) c = P' 16 (3 * (49 * i + 48) + ix j) c := fun c => (K4p_ne (by omega)).trans (e16 _ _)
              exact ⟨(z 2).trans (z0.trans (((K4q_ne0 j3 w2 hj).trans (e28 _)).symm)), (z 0).trans (z1.trans (((K4q_ne j3 w2 (by decide) hj).trans (e28 _)).symm)), (z 1).trans (z2.trans (((K4q_ne j3 w2 (by decide) hj).trans (e28 _)).symm)), (z 4).trans z3⟩
          · rw [K4q_k h28, e2 c hc]; exact hq' c hc
          · unfold F_X2_callTo_l123
            rw [p2, p4]
            refine br_t hv (br_t w2.2 (f1 _ (br_t rfl (ar _ ?_))))
            unfold F_X2_keepPlace
            intro P9 h1 P17 h2 P25 h3 P30 h4
            rw [l7] at h1
            subst h1
            rw [kup_ne (by decide), l8] at h2
            subst h2
            rw [kup_ne (by decide), kup_ne (by decide), l9] at h3
            subst h3 h4
            exact hX
          · unfold F_X8_calls_l86
            refine br_t hv (f2 _ (br_t rfl ⟨v_5 w2, fun Q130 h1 => ⟨v_4 w2 (by decide), fun Q145 h2 => ⟨v_4 w2 (by decide), fun Q160 h3 => ⟨v_4 w2 (by decide), fun Q172 h4 => ?_⟩⟩⟩⟩))
            subst h1
            rw [kup_ne (by decide)] at h2
            subst h2
            rw [kup_ne (by decide), kup_ne (by decide)] at h3
            subst h3 h4
            exact hX
        · refine Or.inr ⟨rr, P2, Q2, ⟨hA3, fun _ => (e2 4 (by decide)).trans (hq' 4 (by decide)), fun q => absurd q h0⟩, fun p X hp => ?_, fun p X hp => ?_⟩
          · unfold F_X2_callTo_l123
            rw [p2, p4]
            exact br_t hv (br_t w2.2 (f1 _ (br_f h0 hp)))
          · unfold F_X8_calls_l86
            exact br_t hv (f2 _ (br_f h0 hp))
      · obtain ⟨r, P1, Q1, g1, g2, g3⟩ := d_call2 xw n xw (ts := ts) (tw := tw) hA' hκ h28 ht hb' hn ho he (fun j j0 jn => hg' j j0 (c_10 hv an jn))
        refine Or.inr ⟨r, P1, Q1, ⟨g1.1, fun q => (g1.2.1 q).trans (hq' 4 (by decide)), g1.2.2⟩, fun p X hp => ?_, fun p X hp => ?_⟩
        · unfold F_X2_callTo_l123
          exact br_f hv (g2 p hp)
        · unfold F_X8_calls_l86
          exact br_f hv (g3 p hp))
    (a1 := 0) (a2 := P) (b1 := 0) (b2 := Q) ⟨rfl, ⟨by decide, hn.1⟩, hA, hb, fun j j0 j1 => absurd j1 (by lia), fun _ _ => rfl⟩
  exact ⟨r, P1, Q1, g1, fun p hp => g2 p hp, fun p hp => g3 p hp⟩
theorem EN_out {κ : Nat} {Q : VP} {s w e : Int32} (h : ¬ EN κ Q s w e < 0) : e < EN κ Q s w e ↔ e < Q κ 0 (ix (112 + s)) := by
  unfold EN at h ⊢
  grind
theorem d_callTo {i κ : Nat} {P Q : VP} (hB : BI P) (hN : RN i κ P Q) (hS : RSw i κ P Q) (hκ : vlI κ = 3464) (h28 : ¬ κ = 28) (hk22 : ¬ κ = 22) (hw : P 1 i 3 = Q κ 0 (ix 4) + 1) {xw n : Int32} (hn : 0 ≤ n ∧ n ≤ 3) : ∃ r P1 Q1, CE i κ P Q Q r P1 Q1 ∧ Am (F_X2_callTo i xw n P) r P1 ∧ Am (F_X8_calls κ (Q κ 0 (ix 3)) (Q κ 0 (ix 4)) xw n Q) r Q1 := by
  have he : 0 ≤ Q κ 0 (ix 5) ∧ Q κ 0 (ix 5) < 8 := ⟨hS.2.2.2.1, hS.2.2.2.2⟩
  obtain ⟨r, P1, Q1, ⟨hW, hL⟩, g1, g2⟩ := d_walk (f := 1) (Or.inr rfl) hB hN hκ hk22 (Q κ 0 (ix 3)) xw (Q κ 0 (ix 5)) he
  obtain ⟨hA, e1, e2⟩ := WK_AB hS hW
  by_cases h0 : r = 0
  · subst h0
    obtain ⟨l7, l8, l9, l10⟩ := hL rfl
    have bad : ∀ rr : Int32, rr < 0 → An (F_X6_ringEntered i (Q1 22 0 14) (Q1 22 0 15) (Q1 22 0 13) P1) rr → An (F_X8_entered κ (Q1 22 0 14) (Q1 22 0 15) (Q1 22 0 13) Q1) rr → ∃ r P1 Q1, CE i κ P Q Q r P1 Q1 ∧ Am (F_X2_callTo i xw n P) r P1 ∧ Am (F_X8_calls κ (Q κ 0 (ix 3)) (Q κ 0 (ix 4)) xw n Q) r Q1 := by
      intro rr hrr f1 f2
      refine ⟨rr, P1, Q1, ⟨hA, fun _ => e2 4 (by decide), fun q => absurd hrr (by rw [q]; decide)⟩, fun p hp => ?_, fun p hp => ?_⟩
      · unfold F_X2_callTo
        rw [hS.1, hS.2.1]
        refine g1 _ (br_t rfl ?_)
        rw [l7, l8, l9]
        exact f1 _ (br_t hrr hp)
      · unfold F_X8_calls
        exact ⟨vl_0 hκ (by decide), g2 _ (br_t rfl (f2 _ (br_t hrr hp)))⟩
    rcases d_enters hA.2.2.2.1.2.1 hA.2.2.1 hκ (Q1 22 0 14) (Q1 22 0 15) (Q1 22 0 13) with ⟨⟨⟨hs, hth⟩, hH, hwl⟩, f1, f2⟩ | ⟨rr, hrr, f1, f2⟩
    · by_cases ht0 : EN κ Q1 (Q1 22 0 14) (Q1 22 0 15) (Q1 22 0 13) < 0
      · exact bad _ ht0 f1 f2
      · have ht := (EN_in (w := Q1 22 0 15) hH l10).resolve_left ht0
        have hout := EN_out ht0
        have key : ∀ o : Int32, o = 0 ∨ o = 1 → ∃ r P2 Q2, CE i κ P Q Q r P2 Q2 ∧ (∀ post : Int32 → VP → Prop, post r P2 → vL2 (F_X2_callTo_l123 i xw n post (Q1 22 0 14) (Q1 22 0 15) (EN κ Q1 (Q1 22 0 14) (Q1 22 0 15) (Q1 22 0 13))) 0 (vup (vup (vup (vup (vup P1 14 (49 * i + 48) 0 (Q κ 0 (ix 3))) 14 (49 * i + 48) 1 (Q κ 0 (ix 4) + 1)) 14 (49 * i + 48) 2 (Q κ 0 (ix 5))) 14 (49 * i + 48) 3 o) 14 (49 * i + 48) 4 n)) ∧ (∀ post : Int32 → VP → Prop, post r Q2 → vL2 (F_X8_calls_l86 κ (Q κ 0 (ix 3)) (Q κ 0 (ix 4)) xw n post (Q κ 0 (ix 5)) (Q1 22 0 14) (Q1 22 0 15) (EN κ Q1 (Q1 22 0 14) (Q1 22 0 15) (Q1 22 0 13)) o) 0 Q1) := by
          intro o ho
          have hA' : AB i κ P Q (vup (vup (vup (vup (vup P1 14 (49 * i + 48) 0 (Q κ 0 (ix 3))) 14 (49 * i + 48) 1 (Q κ 0 (ix 4) + 1)) 14 (49 * i + 48) 2 (Q κ 0 (ix 5))) 14 (49 * i + 48) 3 o) 14 (49 * i + 48) 4 n) Q1 := by
            refine AB_b hA (fun k x j n1 _ => ?_) (fun _ _ _ _ => rfl) h28 (BI_14 (BI_14 (BI_14 (BI_14 (BI_14 hA.2.2.1 (fun q => absurd q (by decide))) (fun q => absurd q (by decide))) (fun q => absurd q (by decide))) (fun _ => ho)) (fun q => absurd q (by decide)))
            rw [vup_ne (fun q => n1 ⟨q.1, q.2.1⟩), vup_ne (fun q => n1 ⟨q.1, q.2.1⟩), vup_ne (fun q => n1 ⟨q.1, q.2.1⟩), vup_ne (fun q => n1 ⟨q.1, q.2.1⟩), vup_ne (fun q => n1 ⟨q.1, q.2.1⟩)]
          obtain ⟨r, P2, Q2, h1, h2, h3⟩ := d_call1 (s := Q κ 0 (ix 3)) (w := Q κ 0 (ix 4)) (e := Q κ 0 (ix 5)) (o := o) (n := n) (ts := Q1 22 0 14) (tw := Q1 22 0 15) (t := EN κ Q1 (Q1 22 0 14) (Q1 22 0 15) (Q1 22 0 13)) (xw := xw) hA' hκ h28 hk22 ht (by unfold BL; refine ⟨?_, ?_, ?_, ?_, ?_⟩ <;> simp [vup]) hn ho he (e2 3 (by decide)) (e2 5 (by decide))
          exact ⟨r, P2, Q2, ⟨h1.1, fun q => (h1.2.1 q).trans (e2 4 (by decide)), h1.2.2⟩, h2, h3⟩
        have v112 : 0 ≤ 112 + Q1 22 0 14 ∧ 112 + Q1 22 0 14 < vlI κ := by
          have := z_h (c := 112) (m := 7) hs (by decide) (by decide)
          rw [hκ]
          exact ⟨z_p this, by lia⟩
        have p9 : vup (vup (vup P1 14 (49 * i + 48) 0 (Q κ 0 (ix 3))) 14 (49 * i + 48) 1 (Q κ 0 (ix 4) + 1)) 14 (49 * i + 48) 2 (Q κ 0 (ix 5)) 1 i 9 = Q1 22 0 13 := by
          rw [kup_ne (by decide), kup_ne (by decide), kup_ne (by decide)]; exact l9
        have cl : ∀ (post : Int32 → VP → Prop) (o : Int32), (Q1 22 0 13 < Q1 κ 0 (ix (112 + Q1 22 0 14)) ∧ o = 1) ∨ (¬ Q1 22 0 13 < Q1 κ 0 (ix (112 + Q1 22 0 14)) ∧ o = 0) → vL2 (F_X2_callTo_l123 i xw n post (Q1 22 0 14) (Q1 22 0 15) (EN κ Q1 (Q1 22 0 14) (Q1 22 0 15) (Q1 22 0 13))) 0 (vup (vup (vup (vup (vup P1 14 (49 * i + 48) 0 (Q κ 0 (ix 3))) 14 (49 * i + 48) 1 (Q κ 0 (ix 4) + 1)) 14 (49 * i + 48) 2 (Q κ 0 (ix 5))) 14 (49 * i + 48) 3 o) 14 (49 * i + 48) 4 n) → F_X2_callTo i xw n P post := by
          intro post o ho h
          unfold F_X2_callTo
          rw [hS.1, hS.2.1]
          refine g1 _ (br_t rfl ?_)
          rw [l7, l8, l9]
          refine f1 _ (br_f ht0 (fun P66 h1 P77 h2 P88 h3 => ?_))
          rw [e1 2 (by omega), hS.1] at h1
          subst h1
          rw [kup_ne (by decide), e1 3 (by omega), hw] at h2
          subst h2
          rw [kup_ne (by decide), kup_ne (by decide), e1 4 (by omega), hS.2.1] at h3
          subst h3
          rw [p9]
          rcases ho with ⟨ho, rfl⟩ | ⟨ho, rfl⟩
          · refine br_t (hout.mpr ho) (fun P109 h4 P117 h5 => ?_)
            subst h4 h5
            exact h
          · refine br_f (fun q => ho (hout.mp q)) (fun P109 h4 P117 h5 => ?_)
            subst h4 h5
            exact h
        by_cases ho : Q1 22 0 13 < Q1 κ 0 (ix (112 + Q1 22 0 14))
        · obtain ⟨r, P2, Q2, h1, h2, h3⟩ := key 1 (Or.inr rfl)
          refine ⟨r, P2, Q2, h1, fun p hp => cl p 1 (Or.inl ⟨ho, rfl⟩) (h2 p hp), fun p hp => ?_⟩
          unfold F_X8_calls
          exact ⟨vl_0 hκ (by decide), g2 _ (br_t rfl (f2 _ (br_f ht0 ⟨v112, br_t ho (h3 p hp)⟩)))⟩
        · obtain ⟨r, P2, Q2, h1, h2, h3⟩ := key 0 (Or.inl rfl)
          refine ⟨r, P2, Q2, h1, fun p hp => cl p 0 (Or.inr ⟨ho, rfl⟩) (h2 p hp), fun p hp => ?_⟩
          unfold F_X8_calls
          exact ⟨vl_0 hκ (by decide), g2 _ (br_t rfl (f2 _ (br_f ht0 ⟨v112, br_f ho (h3 p hp)⟩)))⟩
    · exact bad rr hrr f1 f2
  · refine ⟨r, P1, Q1, ⟨hA, fun _ => e2 4 (by decide), fun q => absurd q h0⟩, fun p hp => ?_, fun p hp => ?_⟩
    · unfold F_X2_callTo
      rw [hS.1, hS.2.1]
      exact g1 _ (br_f h0 hp)
    · unfold F_X8_calls
      exact ⟨vl_0 hκ (by decide), g2 _ (br_f h0 hp)⟩
