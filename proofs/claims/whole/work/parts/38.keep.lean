/-! what a change leaves as it was -/
theorem z_1 {x : Int32} (h : 1 ≤ x) : 0 ≤ x := by lia
theorem z_8 {x n : Int32} (h : x < n) (h' : n ≤ 8) : x < 8 := by lia
theorem z_n {x n : Int32} (h : 1 ≤ n) (h' : n ≤ x) : 0 ≤ x := by lia
theorem z_7 {x : Int32} (h : 0 ≤ x) (h' : x < 4) : 7 ≤ 7 + x ∧ 7 + x < 11 := by lia
theorem z_16 {x : Int32} (h : 0 ≤ x) (h' : x < 8) : 16 ≤ 16 + x ∧ 16 + x < 32 := by lia
theorem z_24 {x : Int32} (h : 0 ≤ x) (h' : x < 8) : 16 ≤ 24 + x ∧ 24 + x < 32 := by lia
theorem z_h {s c m : Int32} (hs : 0 ≤ s ∧ s < 16) (hc : c = 16 * m) (hm : 2 ≤ m ∧ m < 12) : 32 ≤ c + s ∧ c + s < 192 := by lia
theorem z_lt {a b c : Int32} (h : a < b) (h' : b ≤ c) : a < c := by lia
theorem z_le (a : Int32) : a ≤ a := by lia
theorem z_p {a : Int32} (h : 32 ≤ a ∧ a < 192) : 0 ≤ a := by lia
theorem z_wa {s w j : Int32} (hs : 0 ≤ s ∧ s < 16) (hw : 0 ≤ w ∧ w < 24) (hj : 0 ≤ j ∧ j < 6) : 200 ≤ wa s w + j ∧ wa s w + j < 2504 := by lia
theorem z_wb {s w : Int32} (hs : 0 ≤ s ∧ s < 16) (hw : 0 ≤ w ∧ w < 24) : 200 ≤ wa s w ∧ wa s w < 2504 := by lia
theorem z_f {f c : Int32} (hf : 2504 ≤ f ∧ f ≤ 3444) (hc : 0 ≤ c ∧ c < 20) : f ≤ f + c ∧ f + c < f + 20 := by lia
theorem z_f0 {f : Int32} (hf : 2504 ≤ f ∧ f ≤ 3444) : f ≤ f ∧ f < f + 20 := by lia
theorem z_fj {f j c : Int32} (hf : 2504 ≤ f ∧ f ≤ 3444) (hj : 0 ≤ j ∧ j < 3) (hc : 0 ≤ c ∧ c < 5) : f ≤ ((f + 5) + (5 * j)) + c ∧ ((f + 5) + (5 * j)) + c < f + 20 := by lia
theorem z_fk {f j : Int32} (hf : 2504 ≤ f ∧ f ≤ 3444) (hj : 0 ≤ j ∧ j < 3) : f ≤ (f + 5) + (5 * j) ∧ (f + 5) + (5 * j) < f + 20 := by lia
theorem z_j {j n : Int32} (h : j < n) (h' : n ≤ 3) : j < 3 := by lia
theorem z_r {r : Int32} (h : 0 ≤ r) (h' : r < 8) : 192 ≤ 192 + r ∧ 192 + r < 200 := by lia
theorem z_rk {r k n : Int32} (h : 0 ≤ r) (h' : r < 8) (hk : 0 ≤ k) (hk' : k < n) (hn : n ≤ 6) : 0 ≤ (r * 6) + k ∧ (r * 6) + k < 48 := by lia
theorem z_rf {r k n : Int32} (h : 0 ≤ r) (h' : r < 8) (hk : 0 ≤ k) (hk' : k < n) (hn : n ≤ 6) : 2504 ≤ 2504 + (20 * ((6 * r) + k)) ∧ 2504 + (20 * ((6 * r) + k)) ≤ 3444 := by lia
theorem z_fa {f a : Int32} (hf : 2504 ≤ f ∧ f ≤ 3444) (ha : f ≤ a ∧ a < f + 20) : 2504 ≤ a ∧ a < 3464 := by lia
theorem BI_y {P P' : VP} {y : Nat} (h : BI P) (hp : ∀ k x j, ¬ x = y → 7 ≤ k → k ≤ 10 → P' k x j = P k x j) (h14 : ∀ k x j, 14 ≤ k → k ≤ 16 → P' k x j = P k x j) (g0 : P' 7 y 0 = 0 ∨ P' 7 y 0 = 1) (g4 : 0 ≤ P' 7 y 4 ∧ P' 7 y 4 ≤ 24) (gw : ∀ w : Int32, 0 ≤ w → w < 24 → P' 7 y 4 ≤ w → P' 8 y (ix w) = 0 ∧ P' 9 y (ix w) = 0 ∧ P' 10 y (ix w) = 0) (g9 : 0 ≤ P' 7 y 9) : BI P' := by
  obtain ⟨a, b, c, d, e, f⟩ := h
  refine ⟨fun x => ?_, fun x => ?_, fun x w w0 w1 hw => ?_, fun x => ?_, fun x => ?_, fun x => ?_⟩
  · by_cases hx : x = y
    · rw [hx]; exact g0
    · rw [hp 7 x 0 hx (by decide) (by decide)]; exact a x
  · by_cases hx : x = y
    · rw [hx]; exact g4
    · rw [hp 7 x 4 hx (by decide) (by decide)]; exact b x
  · by_cases hx : x = y
    · rw [hx] at hw ⊢; exact gw w w0 w1 hw
    · rw [hp 7 x 4 hx (by decide) (by decide)] at hw
      rw [hp 8 x _ hx (by decide) (by decide), hp 9 x _ hx (by decide) (by decide), hp 10 x _ hx (by decide) (by decide)]
      exact c x w w0 w1 hw
  · rw [h14 14 x 3 (by decide) (by decide)]; exact d x
  · rw [h14 16 x 4 (by decide) (by decide)]; exact e x
  · by_cases hx : x = y
    · rw [hx]; exact g9
    · rw [hp 7 x 9 hx (by decide) (by decide)]; exact f x
theorem BI_eq {P P' : VP} (h : BI P) (hp : ∀ k x j, 7 ≤ k → k ≤ 16 → P' k x j = P k x j) : BI P' := by
  obtain ⟨a, b, c, d, e, f⟩ := h
  refine ⟨fun x => ?_, fun x => ?_, fun x w w0 w1 hw => ?_, fun x => ?_, fun x => ?_, fun x => ?_⟩
  · rw [hp 7 x 0 (by decide) (by decide)]; exact a x
  · rw [hp 7 x 4 (by decide) (by decide)]; exact b x
  · rw [hp 7 x 4 (by decide) (by decide)] at hw
    rw [hp 8 x _ (by decide) (by decide), hp 9 x _ (by decide) (by decide), hp 10 x _ (by decide) (by decide)]
    exact c x w w0 w1 hw
  · rw [hp 14 x 3 (by decide) (by decide)]; exact d x
  · rw [hp 16 x 4 (by decide) (by decide)]; exact e x
  · rw [hp 7 x 9 (by decide) (by decide)]; exact f x
theorem RS_eq {i κ : Nat} {P Q P' Q' : VP} (h : RS i κ P Q) (hp : ∀ j, P' 1 i j = P 1 i j) (hq : ∀ a : Int32, 3 ≤ a ∧ a < 7 → Q' κ 0 (ix a) = Q κ 0 (ix a)) : RS i κ P' Q' := by
  unfold RS at h ⊢
  rw [hp 2, hp 3, hp 4, hp 5, hq 3 (by decide), hq 4 (by decide), hq 5 (by decide), hq 6 (by decide)]
  exact h
theorem z_rb {a : Int32} (h : (0 ≤ a ∧ a < 1) ∨ (2 ≤ a ∧ a < 3) ∨ (16 ≤ a ∧ a < 32)) : (0 ≤ a ∧ a < 3) ∨ (7 ≤ a ∧ a < 11) ∨ (16 ≤ a ∧ a < 32) := by lia
theorem RDI_eq {κ : Nat} {Q Q' : VP} (h : RDI κ Q) (hq : ∀ a : Int32, (0 ≤ a ∧ a < 1) ∨ (2 ≤ a ∧ a < 3) ∨ (16 ≤ a ∧ a < 32) → Q' κ 0 (ix a) = Q κ 0 (ix a)) : RDI κ Q' := by
  obtain ⟨⟨a1, a2⟩, ⟨b1, b2⟩, c, d, e, f⟩ := h
  have q0 := hq 0 (by decide)
  have q2 := hq 2 (by decide)
  refine ⟨by rw [q0]; exact ⟨a1, a2⟩, by rw [q2]; exact ⟨b1, b2⟩, fun x h1 h2 => ?_, fun x h1 h2 => ?_, fun x h1 h2 => ?_, ?_⟩
  · rw [q0] at h2
    rw [hq _ (Or.inr (Or.inr (z_16 (z_1 h1) (z_8 h2 a2))))]; exact c x h1 h2
  · rw [hq _ (Or.inr (Or.inr (z_24 h1 h2)))]; exact d x h1 h2
  · rw [q0] at h1
    rw [hq _ (Or.inr (Or.inr (z_24 (z_n a1 h1) h2)))]; exact e x h1 h2
  · rw [hq 24 (by decide), hq 25 (by decide), hq 26 (by decide), hq 27 (by decide), hq 28 (by decide), hq 29 (by decide), hq 30 (by decide), hq 31 (by decide)]; exact f
theorem RD_eq {i κ : Nat} {P Q P' Q' : VP} (h : RD i κ P Q) (hp : ∀ k j, 2 ≤ k → k ≤ 5 → P' k i j = P k i j) (hq : ∀ a : Int32, (0 ≤ a ∧ a < 3) ∨ (7 ≤ a ∧ a < 11) ∨ (16 ≤ a ∧ a < 32) → Q' κ 0 (ix a) = Q κ 0 (ix a)) : RD i κ P' Q' := by
  obtain ⟨a, b, c, d, e, f⟩ := h
  refine ⟨?_, ?_, ?_, fun j h0 h1 => ?_, fun j h0 h1 => ?_, RDI_eq f fun a ha => hq a (z_rb ha)⟩
  · rw [hp 2 0 (by decide) (by decide), hq 0 (by decide)]; exact a
  · rw [hp 2 5 (by decide) (by decide), hq 1 (by decide)]; exact b
  · rw [hp 2 3 (by decide) (by decide), hq 2 (by decide)]; exact c
  · rw [hp 5 _ (by decide) (by decide), hq _ (Or.inr (Or.inl (z_7 h0 h1)))]; exact d j h0 h1
  · rw [hp 3 _ (by decide) (by decide), hp 4 _ (by decide) (by decide), hq _ (Or.inr (Or.inr (z_16 h0 h1))), hq _ (Or.inr (Or.inr (z_24 h0 h1)))]; exact e j h0 h1
theorem RH_eq {κ y : Nat} {s : Int32} {P Q P' Q' : VP} (h : RH P Q κ y s) (hs : 0 ≤ s ∧ s < 16) (hp : ∀ j, P' 7 y j = P 7 y j) (hq : ∀ a : Int32, 32 ≤ a ∧ a < 192 → (∃ m : Int32, (2 ≤ m ∧ m < 12) ∧ a = 16 * m + s) → Q' κ 0 (ix a) = Q κ 0 (ix a)) (h0 : Q κ 0 (ix 0) ≤ Q' κ 0 (ix 0)) : RH P' Q' κ y s := by
  have e : ∀ c m : Int32, c = 16 * m → 2 ≤ m ∧ m < 12 → Q' κ 0 (ix (c + s)) = Q κ 0 (ix (c + s)) := fun c m hc hm => hq (c + s) (z_h hs hc hm) ⟨m, hm, by rw [hc]⟩
  unfold RH at h ⊢
  rw [hp 1, hp 2, hp 3, hp 4, hp 5, hp 6, hp 7, hp 8, hp 9, e 48 3 (by decide) (by decide), e 64 4 (by decide) (by decide), e 80 5 (by decide) (by decide), e 96 6 (by decide) (by decide), e 112 7 (by decide) (by decide), e 128 8 (by decide) (by decide), e 144 9 (by decide) (by decide), e 160 10 (by decide) (by decide), e 176 11 (by decide) (by decide)]
  obtain ⟨k1, k2, k3, k4, k5, k6, k7, k8, k9, ⟨k10, k11⟩, k12⟩ := h
  exact ⟨k1, k2, k3, k4, k5, k6, k7, k8, k9, ⟨k10, z_lt k11 h0⟩, k12⟩
theorem RG_eq {i κ : Nat} {P Q P' Q' : VP} (h : RG i κ P Q) (hp : ∀ (s : Int32) j, P' 7 (16 * i + ix s) j = P 7 (16 * i + ix s) j) (hq : ∀ a : Int32, 32 ≤ a ∧ a < 192 → Q' κ 0 (ix a) = Q κ 0 (ix a)) (h0 : Q κ 0 (ix 0) ≤ Q' κ 0 (ix 0)) : RG i κ P' Q' := by
  intro s s0 s1
  obtain ⟨a, b⟩ := h s s0 s1
  refine ⟨by rw [hp s 0, hq (32 + s) (z_h (m := 2) ⟨s0, s1⟩ (by decide) (by decide))]; exact a, fun q => ?_⟩
  rw [hp s 0] at q
  exact RH_eq (b q) ⟨s0, s1⟩ (hp s) (fun a ha _ => hq a ha) h0
theorem RW_eq {i κ : Nat} {P Q P' Q' : VP} (h : RW i κ P Q) (hp : ∀ k (s : Int32) j, 7 ≤ k → k ≤ 10 → P' k (16 * i + ix s) j = P k (16 * i + ix s) j) (hq : ∀ a : Int32, 200 ≤ a ∧ a < 2504 → Q' κ 0 (ix a) = Q κ 0 (ix a)) : RW i κ P' Q' := by
  intro s w s0 s1 w0 w1 hy
  rw [hp 7 s 0 (by decide) (by decide)] at hy
  rw [hp 8 s _ (by decide) (by decide), hp 9 s _ (by decide) (by decide), hp 10 s _ (by decide) (by decide), hq (wa s w) (z_wb ⟨s0, s1⟩ ⟨w0, w1⟩), hq (wa s w + 1) (z_wa ⟨s0, s1⟩ ⟨w0, w1⟩ (by decide)), hq (wa s w + 2) (z_wa ⟨s0, s1⟩ ⟨w0, w1⟩ (by decide)), hq (wa s w + 3) (z_wa ⟨s0, s1⟩ ⟨w0, w1⟩ (by decide)), hq (wa s w + 4) (z_wa ⟨s0, s1⟩ ⟨w0, w1⟩ (by decide)), hq (wa s w + 5) (z_wa ⟨s0, s1⟩ ⟨w0, w1⟩ (by decide))]
  exact h s w s0 s1 w0 w1 hy
theorem FR_eq {κ x : Nat} {f : Int32} {P Q P' Q' : VP} (h : FR P Q κ x f) (hf : 2504 ≤ f ∧ f ≤ 3444) (h14 : ∀ j, P' 14 x j = P 14 x j) (h16 : ∀ m j, m < 3 → P' 16 (3 * x + m) j = P 16 (3 * x + m) j) (hq : ∀ a : Int32, f ≤ a ∧ a < f + 20 → Q' κ 0 (ix a) = Q κ 0 (ix a)) : FR P' Q' κ x f := by
  unfold FR at h ⊢
  rw [h14 0, h14 1, h14 2, h14 3, h14 4, hq f (z_f0 hf), hq (f + 1) (z_f hf (by decide)), hq (f + 2) (z_f hf (by decide)), hq (f + 3) (z_f hf (by decide)), hq (f + 4) (z_f hf (by decide))]
  obtain ⟨k1, k2, k3, k4, k5, k6, ⟨k7, k8⟩, k9, k10⟩ := h
  refine ⟨k1, k2, k3, k4, k5, k6, ⟨k7, k8⟩, k9, fun j j0 j1 => ?_⟩
  have j3 := z_j j1 k8
  have hj : ix j < 3 := ix_b (N := 3) (by decide) rfl j0 j3
  rw [h16 _ 0 hj, h16 _ 1 hj, h16 _ 2 hj, h16 _ 3 hj, h16 _ 4 hj, hq ((f + 5) + (5 * j)) (z_fk hf ⟨j0, j3⟩), hq (((f + 5) + (5 * j)) + 1) (z_fj hf ⟨j0, j3⟩ (by decide)), hq (((f + 5) + (5 * j)) + 2) (z_fj hf ⟨j0, j3⟩ (by decide)), hq (((f + 5) + (5 * j)) + 3) (z_fj hf ⟨j0, j3⟩ (by decide)), hq (((f + 5) + (5 * j)) + 4) (z_fj hf ⟨j0, j3⟩ (by decide))]
  exact k10 j j0 j1
theorem RF_eq {i κ : Nat} {P Q P' Q' : VP} (h : RF i κ P Q) (h12 : ∀ j, P' 12 i j = P 12 i j) (h14 : ∀ x j, x < 49 → P' 14 (49 * i + x) j = P 14 (49 * i + x) j) (h16 : ∀ x j, x < 147 → P' 16 (147 * i + x) j = P 16 (147 * i + x) j) (hq : ∀ a : Int32, (192 ≤ a ∧ a < 200) ∨ (2504 ≤ a ∧ a < 3464) → Q' κ 0 (ix a) = Q κ 0 (ix a)) : RF i κ P' Q' := by
  intro r r0 r1
  obtain ⟨a, ⟨b1, b2⟩, c⟩ := h r r0 r1
  have q := hq (192 + r) (Or.inl (z_r r0 r1))
  refine ⟨by rw [h12, q]; exact a, by rw [q]; exact ⟨b1, b2⟩, fun k k0 k1 => ?_⟩
  rw [q] at k1
  have hz := z_rk r0 r1 k0 k1 b2
  have hx : ix ((r * 6) + k) < 48 := ix_b (N := 48) (by decide) rfl hz.1 hz.2
  have hf := z_rf r0 r1 k0 k1 b2
  refine FR_eq (c k k0 k1) hf (fun j => h14 _ j (by omega)) (fun m j hm => ?_) (fun a ha => hq a (Or.inr (z_fa hf ha)))
  have e : 3 * (49 * i + ix ((r * 6) + k)) + m = 147 * i + (3 * ix ((r * 6) + k) + m) := by omega
  rw [e]
  exact h16 _ j (by omega)
/-- which machine of the class an object belongs to -/
def own (k x : Nat) : Nat := if 7 ≤ k ∧ k ≤ 10 then x / 16 else if k = 14 then x / 49 else if k = 15 then x / 49 else if k = 16 then x / 147 else x
def Oth (i : Nat) (P P' : VP) : Prop := ∀ k x j, own k x = i → 1 ≤ k → k ≤ 16 → P' k x j = P k x j
theorem ix16 (s : Int32) (h : 0 ≤ s ∧ s < 16) : ix s < 16 := ix_b (N := 16) (by decide) rfl h.1 h.2
theorem RM_oth {i κ : Nat} {P Q P' Q' : VP} (h : RM i κ P Q) (ho : Oth i P P') (hq : ∀ j, Q' κ 0 j = Q κ 0 j) : RM i κ P' Q' := by
  obtain ⟨h1, h2, h3, h4, h5⟩ := h
  have o7 : ∀ k (s : Int32) j, 7 ≤ k → k ≤ 10 → 0 ≤ s ∧ s < 16 → P' k (16 * i + ix s) j = P k (16 * i + ix s) j := fun k s j k0 k1 hs => ho k _ j (by unfold own; rw [if_pos ⟨k0, k1⟩]; have := ix16 s hs; omega) (by omega) (by omega)
  refine ⟨RS_eq h1 (fun j => ho 1 i j rfl (by decide) (by decide)) (fun a _ => hq _), RD_eq h2 (fun k j k0 k1 => ho k i j (by unfold own; rw [if_neg (by omega), if_neg (by omega), if_neg (by omega), if_neg (by omega)]) (by omega) (by omega)) (fun a _ => hq _), ?_, ?_, RF_eq h5 (fun j => ho 12 i j rfl (by decide) (by decide)) (fun x j hx => ho 14 _ j (by show (49 * i + x) / 49 = i; omega) (by decide) (by decide)) (fun x j hx => ho 16 _ j (by show (147 * i + x) / 147 = i; omega) (by decide) (by decide)) (fun a _ => hq _)⟩
  · intro s s0 s1
    obtain ⟨a, b⟩ := h3 s s0 s1
    have e := fun j => o7 7 s j (by decide) (by decide) ⟨s0, s1⟩
    refine ⟨by rw [e, hq]; exact a, fun q => ?_⟩
    rw [e] at q
    exact RH_eq (b q) ⟨s0, s1⟩ e (fun a _ _ => hq _) (by rw [hq]; exact z_le _)
  · intro s w s0 s1 w0 w1 hy
    have e := fun k j k0 k1 => o7 k s j k0 k1 ⟨s0, s1⟩
    rw [e 7 0 (by decide) (by decide)] at hy
    rw [e 8 _ (by decide) (by decide), e 9 _ (by decide) (by decide), e 10 _ (by decide) (by decide), hq, hq, hq, hq, hq, hq]
    exact h4 s w s0 s1 w0 w1 hy
/-- the reference changed only these places of its own machine (and what it works on) -/
def QU (Q Q' : VP) (S : Int32 → Prop) : Prop := (∀ k x j, k = 22 ∨ k = 25 ∨ k = 26 → Q' k x j = Q k x j) ∧ ∀ a : Int32, 0 ≤ a → ¬ S a → Q' 23 0 (ix a) = Q 23 0 (ix a)
theorem QU_r (Q : VP) (S : Int32 → Prop) : QU Q Q S := ⟨fun _ _ _ _ => rfl, fun _ _ _ => rfl⟩
theorem QU_s {Q Q' : VP} {S : Int32 → Prop} {a v : Int32} (h : QU Q Q' S) (ha : 0 ≤ a) (hS : S a) : QU Q (vup Q' 23 0 (ix a) v) S := by
  refine ⟨fun k x j hk => ?_, fun b hb hn => ?_⟩
  · rw [kup_ne (by omega)]; exact h.1 k x j hk
  · rw [qup_ne ha hb (fun q => hn (by rw [q]; exact hS))]; exact h.2 b hb hn
theorem QU_w {Q Q' : VP} {S S' : Int32 → Prop} (h : QU Q Q' S) (hS : ∀ a, S a → S' a) : QU Q Q' S' := ⟨h.1, fun a ha hn => h.2 a ha (fun q => hn (hS a q))⟩
theorem QU_t {Q Q' Q'' : VP} {S : Int32 → Prop} (h : QU Q Q' S) (h' : QU Q' Q'' S) : QU Q Q'' S := ⟨fun k x j hk => (h'.1 k x j hk).trans (h.1 k x j hk), fun a ha hn => (h'.2 a ha hn).trans (h.2 a ha hn)⟩
/-- the class changed only these objects -/
def PU (P P' : VP) (T : Nat → Nat → Prop) : Prop := ∀ k x j, ¬ T k x → P' k x j = P k x j
theorem PU_r (P : VP) (T : Nat → Nat → Prop) : PU P P T := fun _ _ _ _ => rfl
theorem PU_s {P P' : VP} {T : Nat → Nat → Prop} {k x j : Nat} {v : Int32} (h : PU P P' T) (hT : T k x) : PU P (vup P' k x j v) T := fun k' x' j' hn => by
  rw [vup_ne (fun q => hn (by rw [q.1, q.2.1]; exact hT))]; exact h k' x' j' hn
theorem PU_w {P P' : VP} {T T' : Nat → Nat → Prop} (h : PU P P' T) (hT : ∀ k x, T k x → T' k x) : PU P P' T' := fun k x j hn => h k x j (fun q => hn (hT k x q))
theorem PU_t {P P' P'' : VP} {T : Nat → Nat → Prop} (h : PU P P' T) (h' : PU P' P'' T) : PU P P'' T := fun k x j hn => (h' k x j hn).trans (h k x j hn)
/-- the rest of the relation, when the first machine alone is changed -/
theorem RR_up {P Q P' Q' : VP} {T : Nat → Nat → Prop} {S : Int32 → Prop} (h : RR P Q) (hp : PU P P' T) (hT : ∀ k x, T k x → 1 ≤ k ∧ k ≤ 16 ∧ own k x = 0) (hq : QU Q Q' S) (hB : BI P') (hM : RM 0 23 P' Q') : RR P' Q' := by
  obtain ⟨-, -, ⟨h1, h2, h3⟩, h4, h5, h6, h7⟩ := h
  have e0 : ∀ j, P' 0 0 j = P 0 0 j := fun j => hp 0 0 j (fun q => absurd (hT 0 0 q).1 (by decide))
  have e22 : ∀ j, Q' 22 0 j = Q 22 0 j := fun j => hq.1 22 0 j (Or.inl rfl)
  refine ⟨hB, hM, ⟨by rw [e0, e22]; exact h1, by rw [e0]; exact h2, by rw [e0, e22]; exact h3⟩, fun q => ?_, ?_, by rw [e22]; exact h6, fun j j0 j1 => ?_⟩
  · rw [e0] at q
    refine RM_oth (h4 q) (fun k x j ho k0 k1 => hp k x j (fun w => ?_)) (fun j => hq.1 25 0 j (Or.inr (Or.inl rfl)))
    have := (hT k x w).2.2
    omega
  · rw [hp 17 0 1 (fun q => absurd (hT 17 0 q).2.1 (by decide)), e22]; exact h5
  · rw [e22] at j1
    rw [hp 18 0 _ (fun q => absurd (hT 18 0 q).2.1 (by decide)), hq.1 26 0 _ (Or.inr (Or.inr rfl))]
    exact h7 j j0 j1
theorem y_a {a : Int32} (h : 3 ≤ a ∧ a < 7) : 0 ≤ a ∧ ¬ ((0 ≤ a ∧ a < 3) ∨ (7 ≤ a ∧ a < 11) ∨ (16 ≤ a ∧ a < 32)) := by lia
theorem y_b {a : Int32} (h : 32 ≤ a ∧ a < 192) : 0 ≤ a ∧ ¬ ((0 ≤ a ∧ a < 3) ∨ (7 ≤ a ∧ a < 11) ∨ (16 ≤ a ∧ a < 32)) := by lia
theorem y_c {a : Int32} (h : 200 ≤ a ∧ a < 2504) : 0 ≤ a ∧ ¬ ((0 ≤ a ∧ a < 3) ∨ (7 ≤ a ∧ a < 11) ∨ (16 ≤ a ∧ a < 32)) := by lia
theorem y_d {a : Int32} (h : (192 ≤ a ∧ a < 200) ∨ (2504 ≤ a ∧ a < 3464)) : 0 ≤ a ∧ ¬ ((0 ≤ a ∧ a < 3) ∨ (7 ≤ a ∧ a < 11) ∨ (16 ≤ a ∧ a < 32)) := by lia
/-- directories and rules alone are changed -/
theorem dir_up {P Q P' Q' : VP} (h : RR P Q) (hp : PU P P' (fun k x => (2 ≤ k ∧ k ≤ 5) ∧ x = 0)) (hq : QU Q Q' (fun a => (0 ≤ a ∧ a < 3) ∨ (7 ≤ a ∧ a < 11) ∨ (16 ≤ a ∧ a < 32))) (hD : RD 0 23 P' Q') (h0 : Q 23 0 (ix 0) ≤ Q' 23 0 (ix 0)) : RR P' Q' := by
  obtain ⟨b, m1, m2, m3, m4, m5⟩ := And.intro h.1 h.2.1
  refine RR_up h hp (fun k x q => ⟨by omega, by omega, ?_⟩) hq (BI_eq b (fun k x j k0 k1 => hp k x j (by omega))) ⟨RS_eq m1 (fun j => hp 1 0 j (by omega)) (fun a ha => hq.2 a (y_a ha).1 (y_a ha).2), hD, RG_eq m3 (fun s j => hp 7 _ j (by omega)) (fun a ha => hq.2 a (y_b ha).1 (y_b ha).2) h0, RW_eq m4 (fun k s j k0 k1 => hp k _ j (by omega)) (fun a ha => hq.2 a (y_c ha).1 (y_c ha).2), RF_eq m5 (fun j => hp 12 0 j (by omega)) (fun x j _ => hp 14 _ j (by omega)) (fun x j _ => hp 16 _ j (by omega)) (fun a ha => hq.2 a (y_d ha).1 (y_d ha).2)⟩
  obtain ⟨⟨q1, q2⟩, q3⟩ := q
  unfold own
  rw [if_neg (by omega), if_neg (by omega), if_neg (by omega), if_neg (by omega)]
  exact q3
/-- one segment alone is changed (and the count of segments ever made) -/
def SS (s a : Int32) : Prop := a = 1 ∨ (32 ≤ a ∧ a < 192 ∧ ∃ m : Int32, (2 ≤ m ∧ m < 12) ∧ a = 16 * m + s) ∨ (wa s 0 ≤ a ∧ a < wa s 0 + 144)
def TT (y k x : Nat) : Prop := ((7 ≤ k ∧ k ≤ 10) ∧ x = y) ∨ (k = 2 ∧ x = 0)
theorem SS_no {s t a : Int32} (hs : 0 ≤ s ∧ s < 16) (ht : 0 ≤ t ∧ t < 16) (h : ¬ t = s) (ha : ∃ m : Int32, (2 ≤ m ∧ m < 12) ∧ a = 16 * m + t) : ¬ SS s a := by
  obtain ⟨c, hc, rfl⟩ := ha
  rintro (q | ⟨-, -, d, hd, q⟩ | ⟨q, -⟩)
  · lia
  · lia
  · lia
theorem SS_lo {s a : Int32} (hs : 0 ≤ s ∧ s < 16) (ha : (0 ≤ a ∧ a < 32) ∧ ¬ a = 1) : ¬ SS s a := by
  rintro (q | ⟨q, -⟩ | ⟨q, -⟩)
  · lia
  · lia
  · lia
theorem SS_fa {s a : Int32} (hs : 0 ≤ s ∧ s < 16) (ha : (192 ≤ a ∧ a < 200) ∨ (2504 ≤ a ∧ a < 3464)) : 0 ≤ a ∧ ¬ SS s a := by
  refine ⟨by lia, ?_⟩
  rintro (q | ⟨-, q, -⟩ | ⟨q, q'⟩)
  · lia
  · lia
  · lia
theorem SS_wo {s t w a : Int32} (hs : 0 ≤ s ∧ s < 16) (ht : 0 ≤ t ∧ t < 16) (hw : 0 ≤ w ∧ w < 24) (h : ¬ t = s) (ha : wa t w ≤ a ∧ a ≤ wa t w + 5) : 0 ≤ a ∧ ¬ SS s a := by
  refine ⟨by lia, ?_⟩
  rintro (q | ⟨-, q, -⟩ | ⟨q, q'⟩)
  · lia
  · lia
  · lia
theorem z_w6 {t w j : Int32} (ht : 0 ≤ t ∧ t < 16) (hw : 0 ≤ w ∧ w < 24) (hj : 0 ≤ j ∧ j < 6) : wa t w ≤ wa t w + j ∧ wa t w + j ≤ wa t w + 5 := by lia
theorem z_w0 {t w : Int32} (ht : 0 ≤ t ∧ t < 16) (hw : 0 ≤ w ∧ w < 24) : wa t w ≤ wa t w ∧ wa t w ≤ wa t w + 5 := by lia
theorem z_37 {a : Int32} (h : 3 ≤ a ∧ a < 7) : (0 ≤ a ∧ a < 32) ∧ ¬ a = 1 := by lia
theorem z_ra {a : Int32} (h : (0 ≤ a ∧ a < 1) ∨ (2 ≤ a ∧ a < 3) ∨ (16 ≤ a ∧ a < 32)) : (0 ≤ a ∧ a < 32) ∧ ¬ a = 1 := by lia
theorem z_lo7 {x : Int32} (h : 0 ≤ x) (h' : x < 4) : (0 ≤ 7 + x ∧ 7 + x < 32) ∧ ¬ 7 + x = 1 := by lia
theorem z_lo16 {x : Int32} (h : 0 ≤ x) (h' : x < 8) : (0 ≤ 16 + x ∧ 16 + x < 32) ∧ ¬ 16 + x = 1 := by lia
theorem z_lo24 {x : Int32} (h : 0 ≤ x) (h' : x < 8) : (0 ≤ 24 + x ∧ 24 + x < 32) ∧ ¬ 24 + x = 1 := by lia
theorem seg_up {P Q P' Q' : VP} {s : Int32} (h : RR P Q) (hs : 0 ≤ s ∧ s < 16) (hp : PU P P' (TT (16 * 0 + ix s))) (hq : QU Q Q' (SS s)) (hB : BI P') (e0 : P' 2 0 0 = P 2 0 0) (e3 : P' 2 0 3 = P 2 0 3) (e5 : P' 2 0 5 = Q' 23 0 (ix 1)) (g0 : P' 7 (16 * 0 + ix s) 0 = Q' 23 0 (ix (32 + s))) (gH : P' 7 (16 * 0 + ix s) 0 = 1 → RH P' Q' 23 (16 * 0 + ix s) s) (gW : P' 7 (16 * 0 + ix s) 0 = 1 → ∀ w : Int32, 0 ≤ w → w < 24 → WR (P' 8 (16 * 0 + ix s) (ix w)) (P' 9 (16 * 0 + ix s) (ix w)) (P' 10 (16 * 0 + ix s) (ix w)) (Q' 23 0 (ix (wa s w))) (Q' 23 0 (ix (wa s w + 1))) (Q' 23 0 (ix (wa s w + 2))) (Q' 23 0 (ix (wa s w + 3))) (Q' 23 0 (ix (wa s w + 4))) (Q' 23 0 (ix (wa s w + 5)))) : RR P' Q' := by
  obtain ⟨-, m1, m2, m3, m4, m5⟩ := And.intro h.1 h.2.1
  have hy := ix16 s hs
  have low : ∀ a : Int32, (0 ≤ a ∧ a < 32) ∧ ¬ a = 1 → Q' 23 0 (ix a) = Q 23 0 (ix a) := fun a ha => hq.2 a ha.1.1 (SS_lo hs ha)
  have far : ∀ a : Int32, (192 ≤ a ∧ a < 200) ∨ (2504 ≤ a ∧ a < 3464) → Q' 23 0 (ix a) = Q 23 0 (ix a) := fun a ha => hq.2 a (SS_fa hs ha).1 (SS_fa hs ha).2
  have hp' : ∀ k x j, ¬ (((7 ≤ k ∧ k ≤ 10) ∧ x = 16 * 0 + ix s) ∨ (k = 2 ∧ x = 0)) → P' k x j = P k x j := hp
  refine RR_up h hp (fun k x q => ?_) hq hB ⟨RS_eq m1 (fun j => hp' 1 0 j (by omega)) (fun a ha => low a (z_37 ha)), ?_, ?_, ?_, RF_eq m5 (fun j => hp' 12 0 j (by omega)) (fun x j _ => hp' 14 _ j (by omega)) (fun x j _ => hp' 16 _ j (by omega)) far⟩
  · rcases (show ((7 ≤ k ∧ k ≤ 10) ∧ x = 16 * 0 + ix s) ∨ (k = 2 ∧ x = 0) from q) with ⟨q1, q2⟩ | ⟨q1, q2⟩
    · refine ⟨by omega, by omega, ?_⟩
      unfold own
      rw [if_pos q1]
      omega
    · subst q1 q2
      exact ⟨by decide, by decide, rfl⟩
  · obtain ⟨a, b, c, d, e, f⟩ := m2
    refine ⟨by rw [e0, low 0 (by decide)]; exact a, e5, by rw [e3, low 2 (by decide)]; exact c, fun j j0 j1 => ?_, fun j j0 j1 => ?_, ?_⟩
    · rw [hp' 5 0 _ (by omega), low (7 + j) (z_lo7 j0 j1)]; exact d j j0 j1
    · rw [hp' 3 0 _ (by omega), hp' 4 0 _ (by omega), low (16 + j) (z_lo16 j0 j1), low (24 + j) (z_lo24 j0 j1)]; exact e j j0 j1
    · exact RDI_eq f (fun a ha => low a (z_ra ha))
  · intro t t0 t1
    by_cases ht : t = s
    · subst ht
      exact ⟨g0, gH⟩
    · have hn : ¬ 16 * 0 + ix t = 16 * 0 + ix s := fun q => ht (ix_inj t0 hs.1 (by omega))
      obtain ⟨a, b⟩ := m3 t t0 t1
      have e7 : ∀ j, P' 7 (16 * 0 + ix t) j = P 7 (16 * 0 + ix t) j := fun j => hp' 7 _ j (by omega)
      refine ⟨by rw [e7, hq.2 (32 + t) (z_p (z_h (m := 2) ⟨t0, t1⟩ (by decide) (by decide))) (SS_no hs ⟨t0, t1⟩ ht ⟨2, by decide, rfl⟩)]; exact a, fun q => ?_⟩
      rw [e7] at q
      exact RH_eq (b q) ⟨t0, t1⟩ e7 (fun a ha hc => hq.2 a (z_p ha) (SS_no hs ⟨t0, t1⟩ ht hc)) (by rw [low 0 (by decide)]; exact z_le _)
  · intro t w t0 t1 w0 w1 hy'
    by_cases ht : t = s
    · subst ht
      exact gW hy' w w0 w1
    · have hn : ¬ 16 * 0 + ix t = 16 * 0 + ix s := fun q => ht (ix_inj t0 hs.1 (by omega))
      have far2 : ∀ a : Int32, wa t w ≤ a ∧ a ≤ wa t w + 5 → Q' 23 0 (ix a) = Q 23 0 (ix a) := fun a ha => hq.2 a (SS_wo hs ⟨t0, t1⟩ ⟨w0, w1⟩ ht ha).1 (SS_wo hs ⟨t0, t1⟩ ⟨w0, w1⟩ ht ha).2
      rw [hp' 7 _ 0 (by omega)] at hy'
      rw [hp' 8 _ _ (by omega), hp' 9 _ _ (by omega), hp' 10 _ _ (by omega), far2 (wa t w) (z_w0 ⟨t0, t1⟩ ⟨w0, w1⟩), far2 (wa t w + 1) (z_w6 ⟨t0, t1⟩ ⟨w0, w1⟩ (by decide)), far2 (wa t w + 2) (z_w6 ⟨t0, t1⟩ ⟨w0, w1⟩ (by decide)), far2 (wa t w + 3) (z_w6 ⟨t0, t1⟩ ⟨w0, w1⟩ (by decide)), far2 (wa t w + 4) (z_w6 ⟨t0, t1⟩ ⟨w0, w1⟩ (by decide)), far2 (wa t w + 5) (z_w6 ⟨t0, t1⟩ ⟨w0, w1⟩ (by decide))]
      exact m4 t w t0 t1 w0 w1 hy'
