/-! the law's loop -/
theorem tI_add {a b : Int32} (h1 : -1000000 ≤ a.toInt ∧ a.toInt ≤ 1000000) (h2 : -1000000 ≤ b.toInt ∧ b.toInt ≤ 1000000) : (a + b).toInt = a.toInt + b.toInt := by
  rw [Int32.toInt_add]
  exact Int.bmod_eq_of_le (by omega) (by omega)
theorem tI_sub {a b : Int32} (h1 : -1000000 ≤ a.toInt ∧ a.toInt ≤ 1000000) (h2 : -1000000 ≤ b.toInt ∧ b.toInt ≤ 1000000) : (a - b).toInt = a.toInt - b.toInt := by
  rw [Int32.toInt_sub]
  exact Int.bmod_eq_of_le (by omega) (by omega)
theorem tI_0 : (0 : Int32).toInt = 0 := by decide
theorem tI_5 : (5 : Int32).toInt = 5 := by decide
theorem tI_6 : (6 : Int32).toInt = 6 := by decide
theorem tI_n : (3072 : Int32).toInt = 3072 := by decide
theorem tI_m : (3078 : Int32).toInt = 3078 := by decide
theorem l_6 {N i : Int32} (hN0 : 0 ≤ N) (hN : N ≤ 3072) (h0 : 0 ≤ i) (h1 : i ≤ N - 6) : 0 ≤ i.toInt ∧ i.toInt ≤ N.toInt - 6 ∧ N.toInt ≤ 3072 := by
  have a1 := Int32.le_iff_toInt_le.mp hN0
  have a2 := Int32.le_iff_toInt_le.mp hN
  have a3 := Int32.le_iff_toInt_le.mp h0
  have a4 := Int32.le_iff_toInt_le.mp h1
  rw [tI_0] at a1 a3
  rw [tI_n] at a2
  have a5 : (N - 6).toInt = N.toInt - 6 := by
    rw [tI_sub ⟨by omega, by omega⟩ ⟨by decide, by decide⟩, tI_6]
  rw [a5] at a4
  exact ⟨a3, a4, a2⟩
theorem l_fit {N i v : Int32} (hN0 : 0 ≤ N) (hN : N ≤ 3072) (h0 : 0 ≤ i) (h1 : i ≤ N - 6) (g0 : 0 ≤ v) (g1 : v ≤ 5) : 0 ≤ i + v ∧ i + v < N := by
  obtain ⟨b1, b2, b3⟩ := l_6 hN0 hN h0 h1
  have a1 := Int32.le_iff_toInt_le.mp g0
  have a2 := Int32.le_iff_toInt_le.mp g1
  rw [tI_0] at a1
  rw [tI_5] at a2
  have e := tI_add (a := i) (b := v) ⟨by omega, by omega⟩ ⟨by omega, by omega⟩
  refine ⟨Int32.le_iff_toInt_le.mpr ?_, Int32.lt_iff_toInt_lt.mpr ?_⟩
  · rw [tI_0, e]
    omega
  · rw [e]
    omega
theorem l_next {N i : Int32} (hN0 : 0 ≤ N) (hN : N ≤ 3072) (h0 : 0 ≤ i) (h1 : i ≤ N - 6) : 0 ≤ i + 6 ∧ i + 6 ≤ 3078 ∧ i < i + 6 := by
  obtain ⟨b1, b2, b3⟩ := l_6 hN0 hN h0 h1
  have e := tI_add (a := i) (b := 6) ⟨by omega, by omega⟩ ⟨by decide, by decide⟩
  rw [tI_6] at e
  refine ⟨Int32.le_iff_toInt_le.mpr ?_, Int32.le_iff_toInt_le.mpr ?_, Int32.lt_iff_toInt_lt.mpr ?_⟩
  · rw [tI_0, e]
    omega
  · rw [tI_m, e]
    omega
  · rw [e]
    omega
theorem l_key {v : Int32} : (∃ k, k < 35 ∧ v = nI k) ∨ (v.toInt < 0 ∨ 34 < v.toInt) := by
  by_cases h : 0 ≤ v ∧ v < 35
  · exact Or.inl ⟨ix v, ix_b (by decide) rfl h.1 h.2, (nI_ix h.1 (Int32.lt_trans h.2 (by decide))).symm⟩
  · refine Or.inr ?_
    have h2 : ¬ (0 ≤ v.toInt ∧ v.toInt < 35) := fun q => h ⟨Int32.le_iff_toInt_le.mpr q.1, Int32.lt_iff_toInt_lt.mpr q.2⟩
    omega
theorem l_case {l : Launch} {g : vG} {b L : Nat} {xs : Nat → Int32} {i : Int32} {P Q : VP} {k : Nat} {v : Int32} (hk : k < 35) (hv : v = nI k) (hg : g.2.2.2.1 45 = b) (hR : RR P Q) (hin : ∀ v : Int32, 0 ≤ v → v ≤ 5 → vp_in (i + v) L) (K : ∀ P1 Q1 : VP, RR P1 Q1 → LB l g b L xs 1359 i [] (vjn P1 Q1)) : LB l g b L xs 33 i [vI v] (vjn P Q) := by
  rcases k with _ | _ | _ | _ | _ | _ | _ | _ | _ | _ | _ | _ | _ | _ | _ | _ | _ | _ | _ | _ | _ | _ | _ | _ | _ | _ | _ | _ | _ | _ | _ | _ | _ | _ | _ | k
  · exact vr_tswIn 0 188 dL_33 hv (by decide) rfl (by decide) (lc_0 hg hR hin K)
  · exact vr_tswIn 1 211 dL_33 hv (by decide) rfl (by decide) (lc_1 hg hR hin K)
  · exact vr_tswIn 2 254 dL_33 hv (by decide) rfl (by decide) (lc_2 hg hR hin K)
  · exact vr_tswIn 3 277 dL_33 hv (by decide) rfl (by decide) (lc_3 hg hR hin K)
  · exact vr_tswIn 4 310 dL_33 hv (by decide) rfl (by decide) (lc_4 hg hR hin K)
  · exact vr_tswIn 5 343 dL_33 hv (by decide) rfl (by decide) (lc_5 hg hR hin K)
  · exact vr_tswIn 6 376 dL_33 hv (by decide) rfl (by decide) (lc_6 hg hR hin K)
  · exact vr_tswIn 7 419 dL_33 hv (by decide) rfl (by decide) (lc_7 hg hR hin K)
  · exact vr_tswIn 8 452 dL_33 hv (by decide) rfl (by decide) (lc_8 hg hR hin K)
  · exact vr_tswIn 9 485 dL_33 hv (by decide) rfl (by decide) (lc_9 hg hR hin K)
  · exact vr_tswIn 10 518 dL_33 hv (by decide) rfl (by decide) (lc_10 hg hR hin K)
  · exact vr_tswIn 11 541 dL_33 hv (by decide) rfl (by decide) (lc_11 hg hR hin K)
  · exact vr_tswIn 12 574 dL_33 hv (by decide) rfl (by decide) (lc_12 hg hR hin K)
  · exact vr_tswIn 13 617 dL_33 hv (by decide) rfl (by decide) (lc_13 hg hR hin K)
  · exact vr_tswIn 14 686 dL_33 hv (by decide) rfl (by decide) (lc_14 hg hR hin K)
  · exact vr_tswIn 15 739 dL_33 hv (by decide) rfl (by decide) (lc_15 hg hR hin K)
  · exact vr_tswIn 16 802 dL_33 hv (by decide) rfl (by decide) (lc_16 hg hR hin K)
  · exact vr_tswIn 17 845 dL_33 hv (by decide) rfl (by decide) (lc_17 hg hR hin K)
  · exact vr_tswIn 18 868 dL_33 hv (by decide) rfl (by decide) (lc_18 hg hR hin K)
  · exact vr_tswIn 19 901 dL_33 hv (by decide) rfl (by decide) (lc_19 hg hR hin K)
  · exact vr_tswIn 20 924 dL_33 hv (by decide) rfl (by decide) (lc_20 hg hR hin K)
  · exact vr_tswIn 21 967 dL_33 hv (by decide) rfl (by decide) (lc_21 hg hR hin K)
  · exact vr_tswIn 22 990 dL_33 hv (by decide) rfl (by decide) (lc_22 hg hR hin K)
  · exact vr_tswIn 23 1003 dL_33 hv (by decide) rfl (by decide) (lc_23 hg hR hin K)
  · exact vr_tswIn 24 1026 dL_33 hv (by decide) rfl (by decide) (lc_24 hg hR hin K)
  · exact vr_tswIn 25 1069 dL_33 hv (by decide) rfl (by decide) (lc_25 hg hR hin K)
  · exact vr_tswIn 26 1102 dL_33 hv (by decide) rfl (by decide) (lc_26 hg hR hin K)
  · exact vr_tswIn 27 1155 dL_33 hv (by decide) rfl (by decide) (lc_27 hg hR hin K)
  · exact vr_tswIn 28 1198 dL_33 hv (by decide) rfl (by decide) (lc_28 hg hR hin K)
  · exact vr_tswIn 29 1231 dL_33 hv (by decide) rfl (by decide) (lc_29 hg hR hin K)
  · exact vr_tswIn 30 1264 dL_33 hv (by decide) rfl (by decide) (lc_30 hg hR hin K)
  · exact vr_tswIn 31 1277 dL_33 hv (by decide) rfl (by decide) (lc_31 hg hR hin K)
  · exact vr_tswIn 32 1310 dL_33 hv (by decide) rfl (by decide) (lc_32 hg hR hin K)
  · exact vr_tswIn 33 1323 dL_33 hv (by decide) rfl (by decide) (lc_33 hg hR hin K)
  · exact vr_tswIn 34 1336 dL_33 hv (by decide) rfl (by decide) (lc_34 hg hR hin K)
  · exact absurd hk (by omega)
theorem l_loop {l : Launch} {g : vG} {b L : Nat} {xs : Nat → Int32} (hL : L ≤ 3072) (hg : g.2.2.2.1 45 = b) : ∀ (n : Nat) (i : Int32) (P Q : VP), RR P Q → 0 ≤ i → i ≤ 3078 → 4000 - ix i ≤ n → LB l g b L xs 18 i [] (vjn P Q) := by
  have hN0 : 0 ≤ Int32.ofNat L := nI_pos' (by omega)
  have hN : Int32.ofNat L ≤ 3072 := nI_le (b := 3072) hL (by decide)
  intro n
  induction n with
  | zero =>
    intro i P Q hR h0 h1 hn
    have h2 : ix i < 3079 := ix_b (by decide) rfl h0 (by lia)
    omega
  | succ n ih =>
    intro i P Q hR h0 h1 hn
    have h2 : ix i < 3079 := ix_b (by decide) rfl h0 (by lia)
    refine vr_iload_n 3 0 dL_18 rfl rfl ?_
    refine vr_aload_n 0 3 dL_19 rfl rfl ?_
    refine lr_slen hg dL_20 ?_
    refine vr_bipush 6 dL_21 rfl ?_
    refine vr_isub dL_23 ?_
    refine vr_icmpgt 1365 dL_24 rfl (fun _ => ?_) (fun hc => ?_)
    · refine vr_iconst 1 dL_1365 rfl ?_
      exact lr_ret dL_1366
    · have h3 : i ≤ Int32.ofNat L - 6 := Int32.not_lt.mp hc
      have hin : ∀ v : Int32, 0 ≤ v → v ≤ 5 → vp_in (i + v) L := fun v g0 g1 => vin_of rfl (by omega) (l_fit hN0 hN h0 h3 g0 g1)
      have hin0 : vp_in i L := vin_of rfl (by omega) (by have := l_fit hN0 hN h0 h3 (v := 0) (by decide) (by decide); rwa [Int32.add_zero] at this)
      obtain ⟨n0, n1, n2⟩ := l_next hN0 hN h0 h3
      have K : ∀ P1 Q1 : VP, RR P1 Q1 → LB l g b L xs 1359 i [] (vjn P1 Q1) := fun P1 Q1 hR1 => by
        refine vr_iinc (i + 6) 0 (LLs (i + 6)) dL_1359 rfl rfl (by decide) rfl ?_
        refine vr_goto 18 dL_1362 rfl ?_
        have h4 := ix_lt h0 n2
        exact ih (i + 6) P1 Q1 hR1 n0 n1 (by omega)
      refine vr_aload_n 0 3 dL_27 rfl rfl ?_
      refine vr_iload_n 3 0 dL_28 rfl rfl ?_
      refine lr_sld hg hin0 dL_29 ?_
      refine vr_bipush 63 dL_30 rfl ?_
      refine vr_iand dL_32 ?_
      rcases l_key (v := xs (ix i) &&& 63) with ⟨k, hk, hv⟩ | hv
      · exact l_case hk hv hg hR hin K
      · exact vr_tswOut 1359 dL_33 hv (by decide) (K P Q hR)
