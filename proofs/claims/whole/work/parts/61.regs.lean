theorem LPc_ne {P : VP} {i : Nat} {s w e : Int32} {k x j : Nat} (h : ¬ (k = 1 ∧ x = i ∧ 7 ≤ j ∧ j ≤ 9)) : LPc P i s w e k x j = P k x j := by
  unfold LPc
  rw [vup_ne (by omega), vup_ne (by omega), vup_ne (by omega)]
theorem LGm_ne {Q : VP} {s w e : Int32} {k x j : Nat} (h : ¬ (k = 22 ∧ 13 ≤ j ∧ j ≤ 15)) : LGm Q s w e k x j = Q k x j := by
  unfold LGm
  rw [vup_ne (by omega), vup_ne (by omega), vup_ne (by omega)]
theorem LPc_at (P : VP) (i : Nat) (s w e : Int32) : LPc P i s w e 1 i 7 = s ∧ LPc P i s w e 1 i 8 = w ∧ LPc P i s w e 1 i 9 = e := by
  unfold LPc
  refine ⟨?_, ?_, ?_⟩ <;> simp [vup]
theorem LGm_at (Q : VP) (s w e : Int32) : LGm Q s w e 22 0 14 = s ∧ LGm Q s w e 22 0 15 = w ∧ LGm Q s w e 22 0 13 = e := by
  unfold LGm
  refine ⟨?_, ?_, ?_⟩ <;> simp [vup]
theorem RM_regs {i κ : Nat} {P Q : VP} {s w e s' w' e' : Int32} (h : RM i κ P Q) (hk : ¬ κ = 22) : RM i κ (LPc P i s w e) (LGm Q s' w' e') := by
  obtain ⟨m1, m2, m3, m4, m5⟩ := h
  have q : ∀ j, LGm Q s' w' e' κ 0 j = Q κ 0 j := fun j => LGm_ne (by omega)
  refine ⟨?_, RD_eq m2 (fun k j _ _ => LPc_ne (by omega)) (fun _ _ => q _), RG_eq m3 (fun s j => LPc_ne (by omega)) (fun _ _ => q _) (by rw [q]; exact z_le _), RW_eq m4 (fun k s j _ _ => LPc_ne (by omega)) (fun _ _ => q _), RF_eq m5 (fun j => LPc_ne (by omega)) (fun x j _ => LPc_ne (by omega)) (fun x j _ => LPc_ne (by omega)) (fun _ _ => q _)⟩
  unfold RS at m1 ⊢
  rw [LPc_ne (by omega), LPc_ne (by omega), LPc_ne (by omega), LPc_ne (by omega), q, q, q, q]
  exact m1
theorem BI_regs {P : VP} {i : Nat} {s w e : Int32} (h : BI P) : BI (LPc P i s w e) := BI_eq h (fun k x j k0 _ => LPc_ne (by omega))
theorem wr_p {k v n a0 a1 a2 a3 a4 a5 : Int32} (h : WR k v n a0 a1 a2 a3 a4 a5) (hk : a0 = 2 ∨ a0 = 3 ∨ a0 = 5) : v = 1000 * a2 + 100 * a1 + a3 ∧ (0 ≤ a1 ∧ a1 < 8) ∧ (0 ≤ a2 ∧ a2 < 16) ∧ 0 ≤ a3 ∧ a3 < 24 := by
  obtain ⟨-, q⟩ := h
  rcases q with ⟨q, -⟩ | ⟨q, -⟩ | ⟨-, q1, -, q2⟩ | ⟨q, -⟩ | ⟨-, q1, -, q2, -⟩ | ⟨q, -⟩
  · rw [q] at hk; exact absurd hk (by decide)
  · rw [q] at hk; exact absurd hk (by decide)
  · exact ⟨q1, q2⟩
  · rw [q] at hk; exact absurd hk (by decide)
  · exact ⟨q1, q2⟩
  · rw [q] at hk; exact absurd hk (by decide)
theorem wr_4 {k v n a0 a1 a2 a3 a4 a5 : Int32} (h : WR k v n a0 a1 a2 a3 a4 a5) (hk : a0 = 4) : v = 100 * a1 + a2 ∧ (0 ≤ a1 ∧ a1 < 26) ∧ 0 ≤ a2 ∧ a2 < 24 := by
  obtain ⟨-, q⟩ := h
  rcases q with ⟨q, -⟩ | ⟨q, -⟩ | ⟨q, -⟩ | ⟨-, q1, -, q2⟩ | ⟨q, -⟩ | ⟨q, -⟩
  · exact absurd (hk.symm.trans q) (by decide)
  · exact absurd (hk.symm.trans q) (by decide)
  · rw [hk] at q; exact absurd q (by decide)
  · exact ⟨q1, q2⟩
  · exact absurd (hk.symm.trans q) (by decide)
  · exact absurd (hk.symm.trans q) (by decide)
