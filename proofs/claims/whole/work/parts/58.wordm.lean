/-! one word written, at any machine and row -/
theorem g_1 {s w a : Int32} (hs : 0 ≤ s ∧ s < 16) (hw : 0 ≤ w ∧ w < 24) (ha : (192 ≤ a ∧ a < 200) ∨ (2504 ≤ a ∧ a < 3464)) : 0 ≤ a ∧ ¬ (wa s w ≤ a ∧ a ≤ wa s w + 5) := by lia
theorem g_2 {s t w u : Int32} (hs : 0 ≤ s ∧ s < 16) (ht : 0 ≤ t ∧ t < 16) (hw : 0 ≤ w ∧ w < 24) (hu : 0 ≤ u ∧ u < 24) (h : ¬ (t = s ∧ u = w)) : ¬ (24 * t) + u = (24 * s) + w := by lia
theorem g_3 {A B : Int32} (h : ¬ A = B) (hA : 0 ≤ A ∧ A < 384) (hB : 0 ≤ B ∧ B < 384) {j : Int32} (hj : 0 ≤ j ∧ j < 6) : ¬ (200 + (6 * B) ≤ (200 + (6 * A)) + j ∧ (200 + (6 * A)) + j ≤ (200 + (6 * B)) + 5) := by lia
theorem g_3b {A B : Int32} (h : ¬ A = B) (hA : 0 ≤ A ∧ A < 384) (hB : 0 ≤ B ∧ B < 384) : ¬ (200 + (6 * B) ≤ 200 + (6 * A) ∧ 200 + (6 * A) ≤ (200 + (6 * B)) + 5) := by lia
theorem g_4 {s w : Int32} (hs : 0 ≤ s ∧ s < 16) (hw : 0 ≤ w ∧ w < 24) : 0 ≤ (24 * s) + w ∧ (24 * s) + w < 384 := by lia
theorem g_5 {a : Int32} (h : 3 ≤ a ∧ a < 7) : 0 ≤ a ∧ a < 192 := by lia
theorem g_6 {a : Int32} (h : (0 ≤ a ∧ a < 3) ∨ (7 ≤ a ∧ a < 11) ∨ (16 ≤ a ∧ a < 32)) : 0 ≤ a ∧ a < 192 := by lia
theorem BI_W {P : VP} {y : Nat} {w k v n : Int32} (hB : BI P) (hw : 0 ≤ w ∧ w < P 7 y 4) : BI (WP P y w k v n) := by
  have e7 : ∀ j, WP P y w k v n 7 y j = P 7 y j := fun j => WP_ne (by omega)
  refine BI_y (y := y) hB (fun k' x j hx _ _ => WP_ne (by omega)) (fun k' x j hk _ => WP_ne (by omega)) (by rw [e7]; exact hB.1 _) (by rw [e7]; exact hB.2.1 _) (fun u u0 u1 hu => ?_) (by rw [e7]; exact hB.2.2.2.2.2 _)
  rw [e7] at hu
  have hne := ix_ne u0 hw.1 (z_nel hw.2 hu)
  rw [WP_ne (by omega), WP_ne (by omega), WP_ne (by omega)]
  exact hB.2.2.1 _ u u0 u1 hu
theorem RM_word {i κ : Nat} {P Q : VP} {s w k v n a0 a1 a2 a3 a4 a5 : Int32} (h : RM i κ P Q) (hs : 0 ≤ s ∧ s < 16) (hw : 0 ≤ w ∧ w < 24) (hr : WR k v n a0 a1 a2 a3 a4 a5) : RM i κ (WP P (16 * i + ix s) w k v n) (WQ Q κ s w a0 a1 a2 a3 a4 a5) := by
  obtain ⟨m1, m2, m3, m4, m5⟩ := h
  have lo : ∀ a : Int32, 0 ≤ a ∧ a < 192 → WQ Q κ s w a0 a1 a2 a3 a4 a5 κ 0 (ix a) = Q κ 0 (ix a) := fun a ha => WQ_ne hs hw ha.1 (z_lw hs hw ha)
  refine ⟨RS_eq m1 (fun j => WP_ne (by omega)) (fun a ha => lo a (g_5 ha)), RD_eq m2 (fun k j k0 k1 => WP_ne (by omega)) (fun a ha => lo a (g_6 ha)), RG_eq m3 (fun s j => WP_ne (by omega)) (fun a ha => lo a (z_lh ha)) (by rw [lo 0 (by decide)]; exact z_le _), ?_, RF_eq m5 (fun j => WP_ne (by omega)) (fun x j _ => WP_ne (by omega)) (fun x j _ => WP_ne (by omega)) (fun a ha => WQ_ne hs hw (g_1 hs hw ha).1 (g_1 hs hw ha).2)⟩
  intro t u t0 t1 u0 u1 hy
  rw [WP_ne (by omega)] at hy
  by_cases q : t = s ∧ u = w
  · obtain ⟨rfl, rfl⟩ := q
    obtain ⟨p1, p2, p3⟩ := WP_at P (16 * i + ix t) u k v n
    obtain ⟨q0, q1, q2, q3, q4, q5⟩ := WQ_at (Q := Q) (κ := κ) (a0 := a0) (a1 := a1) (a2 := a2) (a3 := a3) (a4 := a4) (a5 := a5) hs hw
    rw [p1, p2, p3, q0, q1, q2, q3, q4, q5]
    exact hr
  · have ht : 0 ≤ t ∧ t < 16 := ⟨t0, t1⟩
    have hu : 0 ≤ u ∧ u < 24 := ⟨u0, u1⟩
    have hA := g_2 hs ht hw hu q
    have hne : ¬ (16 * i + ix t = 16 * i + ix s ∧ ix u = ix w) := fun e => q ⟨ix_inj t0 hs.1 (by omega), ix_inj u0 hw.1 e.2⟩
    have g := fun j hj => g_3 (j := j) hA (g_4 ht hu) (g_4 hs hw) hj
    rw [WP_ne (by omega), WP_ne (by omega), WP_ne (by omega), WQ_ne hs hw (z_wd ht hu).1 (g_3b hA (g_4 ht hu) (g_4 hs hw)), WQ_ne hs hw (z_wc ht hu (by decide)).1 (g 1 (by decide)), WQ_ne hs hw (z_wc ht hu (by decide)).1 (g 2 (by decide)), WQ_ne hs hw (z_wc ht hu (by decide)).1 (g 3 (by decide)), WQ_ne hs hw (z_wc ht hu (by decide)).1 (g 4 (by decide)), WQ_ne hs hw (z_wc ht hu (by decide)).1 (g 5 (by decide))]
    exact m4 t u t0 t1 u0 u1 hy
