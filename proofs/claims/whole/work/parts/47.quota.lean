/-! quota -/
theorem lg_lt0 (x y : Int64) : lg_cmp x y < 0 ↔ x.toInt < y.toInt := by
  unfold lg_cmp
  by_cases h1 : x > y
  · rw [if_pos h1]
    have := Int64.lt_iff_toInt_lt.1 h1
    exact ⟨fun h => absurd h (by decide), fun h => by omega⟩
  · rw [if_neg h1]
    have h1' : ¬ y.toInt < x.toInt := fun q => h1 (Int64.lt_iff_toInt_lt.2 q)
    by_cases h2 : x = y
    · rw [if_pos h2, h2]
      exact ⟨fun h => absurd h (by decide), fun h => by omega⟩
    · rw [if_neg h2]
      have h3 : ¬ x.toInt = y.toInt := fun q => h2 (Int64.toInt_inj.1 q)
      exact ⟨fun _ => by omega, fun _ => by decide⟩
theorem q_in {q1 qc x2 t : Int32} (h1 : 0 ≤ q1 ∧ q1 ≤ 64) (hc : 0 ≤ qc ∧ qc ≤ 64) (ht : 0 ≤ t ∧ t ≤ 1) (hA : ¬ lg_cmp (q1.toInt64 + x2.toInt64) 0 < 0) (hB : ¬ lg_cmp (qc.toInt64 - x2.toInt64) t.toInt64 < 0) : 0 ≤ q1 + x2 ∧ q1 + x2 ≤ 128 ∧ t ≤ qc - x2 ∧ qc - x2 ≤ 128 := by
  rw [lg_lt0, Int64.toInt_add, Int32.toInt_toInt64, Int32.toInt_toInt64] at hA
  rw [lg_lt0, Int64.toInt_sub, Int32.toInt_toInt64, Int32.toInt_toInt64, Int32.toInt_toInt64] at hB
  have a0 := Int32.le_toInt x2
  have a1 := Int32.toInt_lt x2
  rw [Int32.le_iff_toInt_le, Int32.le_iff_toInt_le] at h1 hc ht
  have e0 : (0 : Int32).toInt = 0 := rfl
  have e1 : (1 : Int32).toInt = 1 := rfl
  have e64 : (64 : Int32).toInt = 64 := rfl
  have e128 : (128 : Int32).toInt = 128 := rfl
  have f0 : (0 : Int64).toInt = 0 := rfl
  rw [e0, e64] at h1 hc
  rw [e0, e1] at ht
  rw [Int.bmod_eq_of_le (by omega) (by omega), f0] at hA
  rw [Int.bmod_eq_of_le (by omega) (by omega)] at hB
  simp only [Int32.le_iff_toInt_le, Int32.toInt_add, Int32.toInt_sub, e0, e128]
  rw [Int.bmod_eq_of_le (by omega) (by omega), Int.bmod_eq_of_le (by omega) (by omega)]
  omega
theorem one8 {x y : Int32} (h : 0 ≤ x ∧ x < 8) : (if (0 : Int32) = x then y else 0) + (if (1 : Int32) = x then y else 0) + (if (2 : Int32) = x then y else 0) + (if (3 : Int32) = x then y else 0) + (if (4 : Int32) = x then y else 0) + (if (5 : Int32) = x then y else 0) + (if (6 : Int32) = x then y else 0) + (if (7 : Int32) = x then y else 0) = y := by
  have : x = 0 ∨ x = 1 ∨ x = 2 ∨ x = 3 ∨ x = 4 ∨ x = 5 ∨ x = 6 ∨ x = 7 := by lia
  rcases this with rfl | rfl | rfl | rfl | rfl | rfl | rfl | rfl <;> simp
theorem le8 {a b c d e f g h : Int32} (ha : 0 ≤ a ∧ a ≤ 128) (hb : 0 ≤ b ∧ b ≤ 128) (hc : 0 ≤ c ∧ c ≤ 128) (hd : 0 ≤ d ∧ d ≤ 128) (he : 0 ≤ e ∧ e ≤ 128) (hf : 0 ≤ f ∧ f ≤ 128) (hg : 0 ≤ g ∧ g ≤ 128) (hh : 0 ≤ h ∧ h ≤ 128) (hs : a + b + c + d + e + f + g + h = 64) : a ≤ 64 ∧ b ≤ 64 ∧ c ≤ 64 ∧ d ≤ 64 ∧ e ≤ 64 ∧ f ≤ 64 ∧ g ≤ 64 ∧ h ≤ 64 := by
  lia
theorem sum8 {a0 a1 a2 a3 a4 a5 a6 a7 g0 g1 g2 g3 g4 g5 g6 g7 k0 k1 k2 k3 k4 k5 k6 k7 y : Int32} (hs : a0 + a1 + a2 + a3 + a4 + a5 + a6 + a7 = 64) (hg : g0 + g1 + g2 + g3 + g4 + g5 + g6 + g7 = y) (hk : k0 + k1 + k2 + k3 + k4 + k5 + k6 + k7 = y) : (a0 + g0 - k0) + (a1 + g1 - k1) + (a2 + g2 - k2) + (a3 + g3 - k3) + (a4 + g4 - k4) + (a5 + g5 - k5) + (a6 + g6 - k6) + (a7 + g7 - k7) = 64 := by lia
def P4 (P : VP) (x1 c a b : Int32) : VP := vup (vup P 4 0 (ix x1) a) 4 0 (ix c) b
def VQ (Q : VP) (κ : Nat) (x1 c a b : Int32) : VP := vup (vup Q κ 0 (ix (24 + x1)) a) κ 0 (ix (24 + c)) b
theorem w_24 {x : Int32} (h : 0 ≤ x ∧ x < 8) : 0 ≤ 24 + x ∧ 24 + x < 3464 := by lia
theorem w_ne {x k : Int32} (h : ¬ k = x) : ¬ 24 + k = 24 + x := by lia
theorem w_out {x a : Int32} (h : 0 ≤ x ∧ x < 8) (ha : a < 24 ∨ 32 ≤ a) : ¬ a = 24 + x := by lia
theorem w_sub {a b : Int32} : a + 0 - b = a - b := by lia
theorem w_add {a b : Int32} : a + b - 0 = a + b := by lia
theorem w_zero {a : Int32} : a + 0 - 0 = a := by lia
theorem VQ_ne {Q : VP} {κ : Nat} {x1 c a b i : Int32} (h1 : 0 ≤ x1 ∧ x1 < 8) (hc : 0 ≤ c ∧ c < 8) (hi : 0 ≤ i) (ho : i < 24 ∨ 32 ≤ i) : VQ Q κ x1 c a b κ 0 (ix i) = Q κ 0 (ix i) := by
  unfold VQ
  rw [qup_ne (w_24 hc).1 hi (w_out hc ho), qup_ne (w_24 h1).1 hi (w_out h1 ho)]
theorem VQ_at {Q : VP} {κ : Nat} {x1 c a b k : Int32} (h1 : 0 ≤ x1 ∧ x1 < 8) (hc : 0 ≤ c ∧ c < 8) (hk : 0 ≤ k ∧ k < 8) : VQ Q κ x1 c a b κ 0 (ix (24 + k)) = if k = c then b else if k = x1 then a else Q κ 0 (ix (24 + k)) := by
  unfold VQ
  by_cases e : k = c
  · rw [if_pos e, e, vup_eq]
  · rw [if_neg e, qup_ne (w_24 hc).1 (w_24 hk).1 (w_ne e)]
    by_cases e1 : k = x1
    · rw [if_pos e1, e1, vup_eq]
    · rw [if_neg e1, qup_ne (w_24 h1).1 (w_24 hk).1 (w_ne e1)]
theorem P4_at {P : VP} {x1 c a b k : Int32} (h1 : 0 ≤ x1 ∧ x1 < 8) (hc : 0 ≤ c ∧ c < 8) (hk : 0 ≤ k ∧ k < 8) : P4 P x1 c a b 4 0 (ix k) = if k = c then b else if k = x1 then a else P 4 0 (ix k) := by
  unfold P4
  by_cases e : k = c
  · rw [if_pos e, e, vup_eq]
  · rw [if_neg e, qup_ne hc.1 hk.1 e]
    by_cases e1 : k = x1
    · rw [if_pos e1, e1, vup_eq]
    · rw [if_neg e1, qup_ne h1.1 hk.1 e1]
theorem P4_k {P : VP} {x1 c a b : Int32} {k x j : Nat} (h : ¬ (k = 4 ∧ x = 0)) : P4 P x1 c a b k x j = P k x j := by
  unfold P4
  rw [vup_ne (by omega), vup_ne (by omega)]
theorem VQ_k {Q : VP} {κ : Nat} {x1 c a b : Int32} {k x j : Nat} (h : ¬ k = κ) : VQ Q κ x1 c a b k x j = Q k x j := by
  unfold VQ
  rw [kup_ne h, kup_ne h]
theorem w_r {x1 c n : Int32} (h1 : 1 ≤ x1 ∧ x1 < n) (hc : 0 ≤ c ∧ c < x1) (hn : n ≤ 8) : (0 ≤ x1 ∧ x1 < 8) ∧ (0 ≤ c ∧ c < 8) ∧ ¬ c = x1 ∧ ¬ x1 = c ∧ c < n := by lia
theorem w_nx {d n x : Int32} (h : n ≤ d) (hx : x < n) : ¬ d = x := by lia
theorem w_128 {a : Int32} (h : 0 ≤ a ∧ a ≤ 64) : 0 ≤ a ∧ a ≤ 128 := by lia
theorem w_lit {d : Int32} (h : 0 ≤ d) (h' : d < 8) : d = 0 ∨ d = 1 ∨ d = 2 ∨ d = 3 ∨ d = 4 ∨ d = 5 ∨ d = 6 ∨ d = 7 := by lia
theorem w_16 {x : Int32} (h : 1 ≤ x) (h' : x < 8) : 0 ≤ 16 + x ∧ 16 + x < 24 := by lia
theorem w_16b {x : Int32} (h : 0 ≤ x) (h' : x < 8) : 0 ≤ 16 + x ∧ 16 + x < 24 := by lia
theorem w_7 {x : Int32} (h : 0 ≤ x) (h' : x < 4) : 0 ≤ 7 + x ∧ 7 + x < 24 := by lia
theorem w_0 {x : Int32} (h : 1 ≤ x) : ¬ 0 = x := by lia
theorem w_t {c b : Int32} (h : (if c = 0 then (1 : Int32) else 0) ≤ b) : 0 ≤ b ∧ (c = 0 → 0 < b) := by
  by_cases e : c = 0
  · rw [if_pos e] at h; exact ⟨by lia, fun _ => by lia⟩
  · rw [if_neg e] at h; exact ⟨h, fun q => absurd q e⟩
theorem RDI_quota {κ : Nat} {Q : VP} {x1 c x2 : Int32} (hD : RDI κ Q) (h1 : 1 ≤ x1 ∧ x1 < Q κ 0 (ix 0)) (hc : 0 ≤ c ∧ c < x1) (hx : 0 ≤ Q κ 0 (ix (24 + x1)) + x2 ∧ Q κ 0 (ix (24 + x1)) + x2 ≤ 128) (hy : (if c = 0 then (1 : Int32) else 0) ≤ Q κ 0 (ix (24 + c)) - x2 ∧ Q κ 0 (ix (24 + c)) - x2 ≤ 128) : RDI κ (VQ Q κ x1 c (Q κ 0 (ix (24 + x1)) + x2) (Q κ 0 (ix (24 + c)) - x2)) := by
  obtain ⟨⟨a1, a2⟩, ⟨b1, b2⟩, ca, da, fa, z0, zs⟩ := hD
  obtain ⟨w1, wc, wn, wn', wcn⟩ := w_r h1 hc a2
  obtain ⟨y0, y1⟩ := w_t hy.1
  have lo : ∀ i : Int32, 0 ≤ i → i < 24 ∨ 32 ≤ i → VQ Q κ x1 c (Q κ 0 (ix (24 + x1)) + x2) (Q κ 0 (ix (24 + c)) - x2) κ 0 (ix i) = Q κ 0 (ix i) := fun i i0 ho => VQ_ne w1 wc i0 ho
  have at' := fun k hk => VQ_at (Q := Q) (κ := κ) (a := Q κ 0 (ix (24 + x1)) + x2) (b := Q κ 0 (ix (24 + c)) - x2) (k := k) w1 wc hk
  have vf : ∀ a k : Int32, a = 24 + k → 0 ≤ k ∧ k < 8 → VQ Q κ x1 c (Q κ 0 (ix (24 + x1)) + x2) (Q κ 0 (ix (24 + c)) - x2) κ 0 (ix a) = Q κ 0 (ix a) + (if k = x1 then x2 else 0) - (if k = c then x2 else 0) := fun a k ha hk => by
    rw [ha, at' k hk]
    by_cases e : k = c
    · rw [if_pos e, if_pos e, if_neg (by rw [e]; exact wn), e, w_sub]
    · rw [if_neg e, if_neg e]
      by_cases e1 : k = x1
      · rw [if_pos e1, if_pos e1, e1, w_add]
      · rw [if_neg e1, if_neg e1, w_zero]
  have vb : ∀ a k : Int32, a = 24 + k → 0 ≤ k ∧ k < 8 → 0 ≤ VQ Q κ x1 c (Q κ 0 (ix (24 + x1)) + x2) (Q κ 0 (ix (24 + c)) - x2) κ 0 (ix a) ∧ VQ Q κ x1 c (Q κ 0 (ix (24 + x1)) + x2) (Q κ 0 (ix (24 + c)) - x2) κ 0 (ix a) ≤ 128 := fun a k ha hk => by
    rw [ha, at' k hk]
    by_cases e : k = c
    · rw [if_pos e]; exact ⟨y0, hy.2⟩
    · rw [if_neg e]
      by_cases e1 : k = x1
      · rw [if_pos e1]; exact hx
      · rw [if_neg e1]; exact w_128 (da k hk.1 hk.2)
  have hs : VQ Q κ x1 c (Q κ 0 (ix (24 + x1)) + x2) (Q κ 0 (ix (24 + c)) - x2) κ 0 (ix 24) + VQ Q κ x1 c (Q κ 0 (ix (24 + x1)) + x2) (Q κ 0 (ix (24 + c)) - x2) κ 0 (ix 25) + VQ Q κ x1 c (Q κ 0 (ix (24 + x1)) + x2) (Q κ 0 (ix (24 + c)) - x2) κ 0 (ix 26) + VQ Q κ x1 c (Q κ 0 (ix (24 + x1)) + x2) (Q κ 0 (ix (24 + c)) - x2) κ 0 (ix 27) + VQ Q κ x1 c (Q κ 0 (ix (24 + x1)) + x2) (Q κ 0 (ix (24 + c)) - x2) κ 0 (ix 28) + VQ Q κ x1 c (Q κ 0 (ix (24 + x1)) + x2) (Q κ 0 (ix (24 + c)) - x2) κ 0 (ix 29) + VQ Q κ x1 c (Q κ 0 (ix (24 + x1)) + x2) (Q κ 0 (ix (24 + c)) - x2) κ 0 (ix 30) + VQ Q κ x1 c (Q κ 0 (ix (24 + x1)) + x2) (Q κ 0 (ix (24 + c)) - x2) κ 0 (ix 31) = 64 := by
    rw [vf 24 0 (by decide) (by decide), vf 25 1 (by decide) (by decide), vf 26 2 (by decide) (by decide), vf 27 3 (by decide) (by decide), vf 28 4 (by decide) (by decide), vf 29 5 (by decide) (by decide), vf 30 6 (by decide) (by decide), vf 31 7 (by decide) (by decide)]
    exact sum8 zs (one8 w1) (one8 wc)
  have l8 := le8 (vb 24 0 (by decide) (by decide)) (vb 25 1 (by decide) (by decide)) (vb 26 2 (by decide) (by decide)) (vb 27 3 (by decide) (by decide)) (vb 28 4 (by decide) (by decide)) (vb 29 5 (by decide) (by decide)) (vb 30 6 (by decide) (by decide)) (vb 31 7 (by decide) (by decide)) hs
  have q0 := lo 0 (by decide) (by decide)
  refine ⟨by rw [q0]; exact ⟨a1, a2⟩, by rw [lo 2 (by decide) (by decide)]; exact ⟨b1, b2⟩, fun x g1 g2 => ?_, fun x g1 g2 => ⟨(vb _ x rfl ⟨g1, g2⟩).1, ?_⟩, fun x g1 g2 => ?_, ?_, hs⟩
  · rw [q0] at g2
    obtain ⟨i1, i2⟩ := w_16 g1 (z_8 g2 a2)
    rw [lo _ i1 (Or.inl i2)]; exact ca x g1 g2
  · obtain ⟨e0, e1, e2, e3, e4, e5, e6, e7⟩ := l8
    rcases w_lit g1 g2 with rfl | rfl | rfl | rfl | rfl | rfl | rfl | rfl
    · exact e0
    · exact e1
    · exact e2
    · exact e3
    · exact e4
    · exact e5
    · exact e6
    · exact e7
  · rw [q0] at g1
    rw [at' x ⟨z_n a1 g1, g2⟩, if_neg (w_nx g1 wcn), if_neg (w_nx g1 h1.2)]
    exact fa x g1 g2
  · have e := at' 0 (by decide)
    rw [show (24 : Int32) + 0 = 24 by decide] at e
    rw [e]
    by_cases q : (0 : Int32) = c
    · rw [if_pos q]; exact y1 q.symm
    · rw [if_neg q, if_neg (w_0 h1.1)]; exact z0
theorem RD_quota {κ : Nat} {P Q : VP} {x1 c x2 : Int32} (hD : RD 0 κ P Q) (h1 : 1 ≤ x1 ∧ x1 < Q κ 0 (ix 0)) (hc : 0 ≤ c ∧ c < x1) (hx : 0 ≤ Q κ 0 (ix (24 + x1)) + x2 ∧ Q κ 0 (ix (24 + x1)) + x2 ≤ 128) (hy : (if c = 0 then (1 : Int32) else 0) ≤ Q κ 0 (ix (24 + c)) - x2 ∧ Q κ 0 (ix (24 + c)) - x2 ≤ 128) : RD 0 κ (P4 P x1 c (Q κ 0 (ix (24 + x1)) + x2) (Q κ 0 (ix (24 + c)) - x2)) (VQ Q κ x1 c (Q κ 0 (ix (24 + x1)) + x2) (Q κ 0 (ix (24 + c)) - x2)) := by
  obtain ⟨a, b, cc, d, e, f⟩ := hD
  obtain ⟨w1, wc, wn, wn', wcn⟩ := w_r h1 hc f.1.2
  have hI := RDI_quota f h1 hc hx hy
  have lo : ∀ i : Int32, 0 ≤ i → i < 24 ∨ 32 ≤ i → VQ Q κ x1 c (Q κ 0 (ix (24 + x1)) + x2) (Q κ 0 (ix (24 + c)) - x2) κ 0 (ix i) = Q κ 0 (ix i) := fun i i0 ho => VQ_ne w1 wc i0 ho
  refine ⟨?_, ?_, ?_, fun j j0 j1 => ?_, fun j j0 j1 => ⟨?_, ?_⟩, hI⟩
  · rw [P4_k (by omega), lo 0 (by decide) (by decide)]; exact a
  · rw [P4_k (by omega), lo 1 (by decide) (by decide)]; exact b
  · rw [P4_k (by omega), lo 2 (by decide) (by decide)]; exact cc
  · obtain ⟨i1, i2⟩ := w_7 j0 j1
    rw [P4_k (by omega), lo _ i1 (Or.inl i2)]; exact d j j0 j1
  · obtain ⟨i1, i2⟩ := w_16b j0 j1
    rw [P4_k (by omega), lo _ i1 (Or.inl i2)]; exact (e j j0 j1).1
  · rw [P4_at w1 wc ⟨j0, j1⟩, VQ_at w1 wc ⟨j0, j1⟩, (e j j0 j1).2]
