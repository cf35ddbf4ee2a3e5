/-! words told as one number -/
theorem in_nI {x N : Int32} {n : Nat} (hn : n < 2147483648) (hN : Int32.ofNat n = N) (h : 0 ≤ x ∧ x < N) : ∃ j : Nat, j < n ∧ x = nI j := vp_in_of (vin_of hN hn h) (by omega)
set_option maxRecDepth 100000 in
theorem dv_link {a b : Int32} (ha : 0 ≤ a ∧ a < 26) (hb : 0 ≤ b ∧ b < 24) : (100 * a + b) / 100 = a ∧ (100 * a + b) - (100 * a + b) / 100 * 100 = b := by
  obtain ⟨i, hi, rfl⟩ := in_nI (n := 26) (by decide) rfl ha
  obtain ⟨j, hj, rfl⟩ := in_nI (n := 24) (by decide) rfl hb
  exact (show ∀ i, i < 26 → ∀ j, j < 24 → (100 * nI i + nI j) / 100 = nI i ∧ (100 * nI i + nI j) - (100 * nI i + nI j) / 100 * 100 = nI j by decide +kernel) i hi j hj
set_option maxRecDepth 100000 in
theorem dv_ptr {a b c : Int32} (ha : 0 ≤ a ∧ a < 8) (hb : 0 ≤ b ∧ b < 16) (hc : 0 ≤ c ∧ c < 24) : (1000 * b + 100 * a + c) / 1000 = b ∧ ((1000 * b + 100 * a + c) / 100) - ((1000 * b + 100 * a + c) / 100) / 10 * 10 = a ∧ (1000 * b + 100 * a + c) - (1000 * b + 100 * a + c) / 100 * 100 = c := by
  obtain ⟨i, hi, rfl⟩ := in_nI (n := 8) (by decide) rfl ha
  obtain ⟨j, hj, rfl⟩ := in_nI (n := 16) (by decide) rfl hb
  obtain ⟨k, hk, rfl⟩ := in_nI (n := 24) (by decide) rfl hc
  exact (show ∀ i, i < 8 → ∀ j, j < 16 → ∀ k, k < 24 → (1000 * nI j + 100 * nI i + nI k) / 1000 = nI j ∧ ((1000 * nI j + 100 * nI i + nI k) / 100) - ((1000 * nI j + 100 * nI i + nI k) / 100) / 10 * 10 = nI i ∧ (1000 * nI j + 100 * nI i + nI k) - (1000 * nI j + 100 * nI i + nI k) / 100 * 100 = nI k by decide +kernel) i hi j hj k hk
set_option maxRecDepth 100000 in
theorem dv_act {a b c : Int32} (ha : 0 ≤ a ∧ a < 10) (hb : 0 ≤ b ∧ b < 24) (hc : 0 ≤ c ∧ c < 4) : (1000 * a + 10 * b + c) / 1000 = a ∧ ((1000 * a + 10 * b + c) / 10) - ((1000 * a + 10 * b + c) / 10) / 100 * 100 = b ∧ (1000 * a + 10 * b + c) - (1000 * a + 10 * b + c) / 10 * 10 = c := by
  obtain ⟨i, hi, rfl⟩ := in_nI (n := 10) (by decide) rfl ha
  obtain ⟨j, hj, rfl⟩ := in_nI (n := 24) (by decide) rfl hb
  obtain ⟨k, hk, rfl⟩ := in_nI (n := 4) (by decide) rfl hc
  exact (show ∀ i, i < 10 → ∀ j, j < 24 → ∀ k, k < 4 → (1000 * nI i + 10 * nI j + nI k) / 1000 = nI i ∧ ((1000 * nI i + 10 * nI j + nI k) / 10) - ((1000 * nI i + 10 * nI j + nI k) / 10) / 100 * 100 = nI j ∧ (1000 * nI i + 10 * nI j + nI k) - (1000 * nI i + 10 * nI j + nI k) / 10 * 10 = nI k by decide +kernel) i hi j hj k hk
/-- how many snapped words a segment has; the reference goes on from what it has -/
theorem d_snapIn {P Q : VP} (hW : RW 0 23 P Q) (hB : BI P) {s : Int32} (hs : 0 ≤ s ∧ s < 16) (ht : Q 23 0 (ix (32 + s)) = 1) (hp1 : P 7 (16 * 0 + ix s) 0 = 1) (hH : RH P Q 23 (16 * 0 + ix s) s) (u : Int32) : ∃ r, An (F_X3_snapped (16 * 0 + ix s) P) r ∧ ∀ (post : Int32 → Prop) (X4 : Int32 → Int32 → Prop), X4 (u + r) (s + 1) → vL2 (F_X8_snapped_l13 0 Q post X4 s) u 0 := by
  have k4 := hH.2.2.2.1
  have kl := hH.2.2.2.2.2.2.2.2.2.2.1
  obtain ⟨⟨v, z⟩, hz, h1, h2⟩ := lk2_2 (ρ := Int32 × Int32) (fun p => F_X3_snapped_l4 (16 * 0 + ix s) P (fun c => p (u + c, s + 1))) (fun p => F_X8_snapped_l13 0 Q (fun _ => True) (fun a b => p (a, b)) s) (fun c w v w' => (v = u + c ∧ w = w') ∧ 0 ≤ w ∧ w ≤ Q 23 0 (ix (96 + s))) (fun r => r.2 = s + 1) (fun c w => ix (24 - w)) (by
    rintro c w v w' ⟨⟨rfl, rfl⟩, h0, h1⟩
    by_cases h2 : w < Q 23 0 (ix (96 + s))
    · have hw : 0 ≤ w ∧ w < 24 := ⟨h0, by lia⟩
      have c2 := c_kindAt hB (y := 16 * 0 + ix s) hw
      have t0 := m_told0 (κ := 23) (Q := Q) rfl hs hw
      have e0 := (hW s w hs.1 hs.2 hw.1 hw.2 hp1).1
      by_cases h5 : Q 23 0 (ix (wa s w)) = 5
      · refine Or.inl ⟨c + 1, w + 1, u + c + 1, w + 1, ⟨⟨by lia, rfl⟩, by lia, by lia⟩, ix_lt (by lia) (by lia), fun p X hX => ?_, fun p X hX => ?_⟩
        · show F_X3_snapped_l4 _ _ _ _ _ _
          unfold F_X3_snapped_l4
          rw [k4]
          exact br_t h2 (c2 _ (br_t (by rw [e0]; exact h5) hX))
        · show F_X8_snapped_l13 _ _ _ _ _ _ _ _
          unfold F_X8_snapped_l13
          refine ⟨⟨by lia, by lia⟩, br_t ht ⟨⟨by lia, by lia⟩, br_t h2 (t0 _ (br_t h5 ?_))⟩⟩
          unfold F_X8_snapped_b60
          exact br_f (by decide) (br_t rfl hX)
      · refine Or.inl ⟨c + 0, w + 1, u + c + 0, w + 1, ⟨⟨by lia, rfl⟩, by lia, by lia⟩, ix_lt (by lia) (by lia), fun p X hX => ?_, fun p X hX => ?_⟩
        · show F_X3_snapped_l4 _ _ _ _ _ _
          unfold F_X3_snapped_l4
          rw [k4]
          exact br_t h2 (c2 _ (br_f (by rw [e0]; exact h5) hX))
        · show F_X8_snapped_l13 _ _ _ _ _ _ _ _
          unfold F_X8_snapped_l13
          refine ⟨⟨by lia, by lia⟩, br_t ht ⟨⟨by lia, by lia⟩, br_t h2 (t0 _ (br_f h5 ?_))⟩⟩
          unfold F_X8_snapped_b60
          exact br_t rfl hX
    · refine Or.inr ⟨(u + c, s + 1), rfl, fun p X hp => ?_, fun p X hp => ?_⟩
      · show F_X3_snapped_l4 _ _ _ _ _ _
        unfold F_X3_snapped_l4
        rw [k4]
        exact br_f h2 hp
      · show F_X8_snapped_l13 _ _ _ _ _ _ _ _
        unfold F_X8_snapped_l13
        exact ⟨⟨by lia, by lia⟩, br_t ht ⟨⟨by lia, by lia⟩, br_f h2 hp⟩⟩) (a1 := 0) (a2 := 0) (b1 := u) (b2 := 0) ⟨⟨by lia, rfl⟩, by decide, by lia⟩
  have hz' : z = s + 1 := hz
  subst hz'
  refine ⟨v - u, fun p hp => ?_, fun post X4 hX => ?_⟩
  · have h3 := h1 (fun q => p (q.1 - u)) hp
    have e : (fun c => p (u + c - u)) = p := funext fun c => by rw [show u + c - u = c by lia]
    dsimp only at h3
    rw [e] at h3
    unfold F_X3_snapped
    exact h3
  · have e : u + (v - u) = v := by lia
    rw [e] at hX
    have h3 := h2 (fun q => X4 q.1 q.2) hX
    obtain ⟨n, hn⟩ := h3
    refine ⟨n, ?_⟩
    have e2 : F_X8_snapped_l13 0 Q post X4 s = F_X8_snapped_l13 0 Q (fun _ => True) X4 s := by
      unfold F_X8_snapped_l13 F_X8_snapped_b60
      rfl
    rw [e2]
    exact hn
theorem d_snaps {P Q : VP} (hG : RG 0 23 P Q) (hW : RW 0 23 P Q) (hB : BI P) : ∃ r, True ∧ An (F_X6_snappedOfAll 0 P) r ∧ An (F_X8_snapped 0 Q) r := by
  refine lk2_2 (F_X6_snappedOfAll_l4 0 P) (F_X8_snapped_l4 0 Q) (fun u s u' s' => u = u' ∧ s = s' ∧ 0 ≤ s ∧ s ≤ 16) (fun _ => True) (fun u s => ix (16 - s)) ?_ ⟨rfl, rfl, by decide, by decide⟩
  rintro u s u' s' ⟨rfl, rfl, h0, h1⟩
  by_cases h2 : s < 16
  · rcases d_find hG hB (κ := 23) rfl s with ⟨g1, g2, g3, g4, g5⟩ | ⟨g3, g1, g2⟩
    · obtain ⟨r, r1, r2⟩ := d_snapIn hW hB g1.1 g1.2 g2 g3 u
      refine Or.inl ⟨u + r, s + 1, u + r, s + 1, ⟨rfl, rfl, by lia, by lia⟩, ix_lt (by lia) (by lia), fun p X hX => ?_, fun p X hX => ?_⟩
      · unfold F_X6_snappedOfAll_l4
        exact br_t h2 (g4 _ (r1 _ hX))
      · unfold F_X8_snapped_l4
        exact br_t h2 (r2 _ _ hX)
    · refine Or.inl ⟨u + 0, s + 1, u, s + 1, ⟨by lia, rfl, by lia, by lia⟩, ix_lt (by lia) (by lia), fun p X hX => ?_, fun p X hX => ?_⟩
      · unfold F_X6_snappedOfAll_l4
        exact br_t h2 (g1 _ hX)
      · unfold F_X8_snapped_l4
        refine br_t h2 ⟨1, ?_⟩
        show F_X8_snapped_l13 _ _ _ _ _ _ _ _
        unfold F_X8_snapped_l13
        exact ⟨⟨by lia, by lia⟩, br_f (fun q => g3 ⟨⟨h0, h2⟩, q⟩) hX⟩
  · refine Or.inr ⟨u, trivial, fun p X hp => ?_, fun p X hp => ?_⟩
    · unfold F_X6_snappedOfAll_l4
      exact br_f h2 hp
    · unfold F_X8_snapped_l4
      exact br_f h2 hp
theorem D_count {P Q : VP} (h : RR P Q) (x1 : Int32) : ∃ r, An (F_X7_count x1 P) r ∧ An (F_X8_count x1 Q) r := by
  obtain ⟨hB, ⟨hS, hD, hG, hW, hF⟩, -, -, hT, -⟩ := h
  obtain ⟨a1, -, b1, b2⟩ := d_segs hG hB
  obtain ⟨a4, -, b7, b8⟩ := d_cells hD
  obtain ⟨a5, -, b9, b10⟩ := d_quotas hD
  obtain ⟨a6, -, b11, b12⟩ := d_recs hG hB
  obtain ⟨a7, -, b13, b14⟩ := d_snaps hG hW hB
  obtain ⟨e0, e5, e3, -⟩ := hD
  by_cases h0 : x1 = 0
  · exact ⟨Q 23 0 (ix 0), fun p hp => by unfold F_X7_count; rw [e0]; exact br_t h0 hp, fun p hp => by unfold F_X8_count; exact br_t h0 ⟨⟨by decide, by decide⟩, hp⟩⟩
  by_cases h1 : x1 = 1
  · exact ⟨a1, fun p hp => by unfold F_X7_count; exact br_f h0 (br_t h1 (b1 _ hp)), fun p hp => by unfold F_X8_count; exact br_f h0 (br_t h1 (b2 _ hp))⟩
  by_cases h2 : x1 = 2
  · exact ⟨Q 23 0 (ix 2), fun p hp => by unfold F_X7_count; rw [e3]; exact br_f h0 (br_f h1 (br_t h2 hp)), fun p hp => by unfold F_X8_count; exact br_f h0 (br_f h1 (br_t h2 ⟨⟨by decide, by decide⟩, hp⟩))⟩
  by_cases h3 : x1 = 3
  · exact ⟨Q 22 0 6, fun p hp => by unfold F_X7_count; rw [hT]; exact br_f h0 (br_f h1 (br_f h2 (br_t h3 hp))), fun p hp => by unfold F_X8_count; exact br_f h0 (br_f h1 (br_f h2 (br_t h3 hp)))⟩
  by_cases h4 : x1 = 4
  · exact ⟨a4, fun p hp => by unfold F_X7_count; exact br_f h0 (br_f h1 (br_f h2 (br_f h3 (br_t h4 (b7 _ hp))))), fun p hp => by unfold F_X8_count; exact br_f h0 (br_f h1 (br_f h2 (br_f h3 (br_t h4 (b8 _ hp)))))⟩
  by_cases h5 : x1 = 5
  · exact ⟨a5, fun p hp => by unfold F_X7_count; exact br_f h0 (br_f h1 (br_f h2 (br_f h3 (br_f h4 (br_t h5 (b9 _ hp)))))), fun p hp => by unfold F_X8_count; exact br_f h0 (br_f h1 (br_f h2 (br_f h3 (br_f h4 (br_t h5 (b10 _ hp))))))⟩
  by_cases h6 : x1 = 6
  · exact ⟨a6, fun p hp => by unfold F_X7_count; exact br_f h0 (br_f h1 (br_f h2 (br_f h3 (br_f h4 (br_f h5 (br_t h6 (b11 _ hp))))))), fun p hp => by unfold F_X8_count; exact br_f h0 (br_f h1 (br_f h2 (br_f h3 (br_f h4 (br_f h5 (br_t h6 (b12 _ hp)))))))⟩
  by_cases h7 : x1 = 7
  · exact ⟨a7, fun p hp => by unfold F_X7_count; exact br_f h0 (br_f h1 (br_f h2 (br_f h3 (br_f h4 (br_f h5 (br_f h6 (br_t h7 (b13 _ hp)))))))), fun p hp => by unfold F_X8_count; exact br_f h0 (br_f h1 (br_f h2 (br_f h3 (br_f h4 (br_f h5 (br_f h6 (br_t h7 (b14 _ hp))))))))⟩
  by_cases h8 : x1 = 8
  · exact ⟨Q 23 0 (ix 1), fun p hp => by unfold F_X7_count; rw [e5]; exact br_f h0 (br_f h1 (br_f h2 (br_f h3 (br_f h4 (br_f h5 (br_f h6 (br_f h7 (br_t h8 hp)))))))), fun p hp => by unfold F_X8_count; exact br_f h0 (br_f h1 (br_f h2 (br_f h3 (br_f h4 (br_f h5 (br_f h6 (br_f h7 (br_t h8 ⟨⟨by decide, by decide⟩, hp⟩))))))))⟩
  · exact ⟨-1, fun p hp => by unfold F_X7_count; exact br_f h0 (br_f h1 (br_f h2 (br_f h3 (br_f h4 (br_f h5 (br_f h6 (br_f h7 (br_f h8 hp)))))))), fun p hp => by unfold F_X8_count; exact br_f h0 (br_f h1 (br_f h2 (br_f h3 (br_f h4 (br_f h5 (br_f h6 (br_f h7 (br_f h8 hp))))))))⟩
