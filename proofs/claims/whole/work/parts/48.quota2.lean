theorem c_hasDir2 {i : Nat} {P : VP} {x n : Int32} (hn : P 2 i 0 = n) (h : 0 ≤ x ∧ x < n) (h8 : n ≤ 8) : An (F_X6_hasDirectory i x P) 1 := by
  intro p hp
  unfold F_X6_hasDirectory
  rw [hn]
  exact br_f (z_nl2 h.1) (br_t h.2 (br_t (z_8 h.2 h8) hp))
theorem c_addQ {P : VP} {x y v n : Int32} (hn : P 2 0 0 = n) (h : 0 ≤ x ∧ x < n) (h8 : n ≤ 8) (hv : P 4 0 (ix x) + y = v) {post : VP → Prop} (hp : post (vup P 4 0 (ix x) v)) : F_X6_addQuota 0 x y P post := by
  unfold F_X6_addQuota
  have hx : 0 ≤ x ∧ x < 8 := ⟨h.1, z_8 h.2 h8⟩
  exact c_hasDir2 hn h h8 _ (br_f (by decide) ⟨hx, hx, fun P17 e => by rw [e, hv]; exact hp⟩)
theorem w_c {c a x n : Int32} (hc : 0 ≤ c ∧ c < n) (hca : c ≤ a) (ha : 0 ≤ a ∧ a < x) : 0 ≤ c ∧ c < x := by lia
theorem w_a {a x n : Int32} (ha : 0 ≤ a ∧ a < x) (hx : 0 ≤ x ∧ x < n) : 0 ≤ a ∧ a < n := by lia
theorem w_16c {x : Int32} (h : 0 ≤ x ∧ x < 8) : 0 ≤ 16 + x ∧ 16 + x < 3464 := by lia
theorem w_x1 {x n : Int32} (h : 0 ≤ x ∧ x < n) (h0 : ¬ x = 0) : 1 ≤ x ∧ x < n := by lia
theorem w_neg {a b : Int32} : a + -b = a - b := by lia
theorem w_back {a b : Int32} : (a + b) + -b = a := by lia
theorem w_back2 {a b : Int32} : (a - b) + b = a := by lia
theorem w_b7 {a : Int32} (h : 3 ≤ a ∧ a < 7) : a < 24 := by lia
theorem w_b2 {a : Int32} (h : 200 ≤ a ∧ a < 2504) : 32 ≤ a := by lia
theorem w_b3 {a : Int32} (h : (192 ≤ a ∧ a < 200) ∨ (2504 ≤ a ∧ a < 3464)) : 32 ≤ a := by lia
theorem QU_any {Q Q' : VP} (h : ∀ k x j, k = 22 ∨ k = 25 ∨ k = 26 → Q' k x j = Q k x j) : QU Q Q' (fun _ => True) := ⟨h, fun _ _ q => absurd trivial q⟩
theorem D_quota {P Q : VP} (h : RR P Q) (x1 x2 : Int32) : ∃ r P1 Q1, RR P1 Q1 ∧ Am (F_X7_quota x1 x2 P) r P1 ∧ Am (F_X8_quota x1 x2 Q) r Q1 := by
  have hD := h.2.1.2.1
  rcases d_isDir hD x1 with ⟨g1, g2, g3⟩ | ⟨g1, g2, g3⟩
  · by_cases h0 : x1 = 0
    · refine ⟨-1, P, Q, h, fun p hp => ?_, fun p hp => ?_⟩
      · unfold F_X7_quota
        exact g2 _ (br_f (by decide) (br_t h0 hp))
      · unfold F_X8_quota
        exact g3 _ (br_f (by decide) (br_t h0 hp))
    · obtain ⟨d0, -, -, -, dQ, ⟨-, n8⟩, -, dA, dU, -⟩ := id hD
      have x1' := w_x1 g1 h0
      have x8 : 0 ≤ x1 ∧ x1 < 8 := ⟨g1.1, z_8 g1.2 n8⟩
      have ha := dA x1 x1'.1 x1'.2
      obtain ⟨c, ⟨c0, -, c1⟩, c2, c3⟩ := d_cell hD (κ := 23) rfl (Q 23 0 (ix (16 + x1))) (w_a ha g1)
      have hc := w_c c0 c1 ha
      have c8 : 0 ≤ c ∧ c < 8 := ⟨c0.1, z_8 c0.2 n8⟩
      have qa := c_aboveOf hD g1
      have qq := c_quotaOf hD g1
      have qc := c_quotaOf hD c0
      have b16 := w_16c x8
      have b24 := w_24 x8
      have bc := w_24 c8
      have hne : ¬ c = x1 := (w_r x1' hc n8).2.2.1
      by_cases hA : lg_cmp (Int32.toInt64 (Q 23 0 (ix (24 + x1))) + Int32.toInt64 x2) 0 < 0
      · refine ⟨-5, P, Q, h, fun p hp => ?_, fun p hp => ?_⟩
        · unfold F_X7_quota F_X6_moveQuota
          exact g2 _ (br_f (by decide) (br_f h0 (qa _ (c2 _ (qc _ (fun v4 _ => qq _ (br_t hA hp)))))))
        · unfold F_X8_quota
          refine g3 _ (br_f (by decide) (br_f h0 ⟨b16, c3 _ ⟨b24, fun v4 e4 => ⟨bc, fun v6 _ => ?_⟩⟩⟩))
          rw [e4]
          exact br_t hA hp
      · obtain ⟨t, ht, hB0, hb0, hb1⟩ : ∃ t : Int32, (0 ≤ t ∧ t ≤ 1) ∧ t = (if c = 0 then (1 : Int32) else 0) ∧ (∀ {p : Int32 → VP → Prop}, F_X6_moveQuota_b46 0 x1 x2 P p c t (Int32.toInt64 (Q 23 0 (ix (24 + c))) - Int32.toInt64 x2) → (c = 0 → F_X6_moveQuota_b46 0 x1 x2 P p c 1 (Int32.toInt64 (Q 23 0 (ix (24 + c))) - Int32.toInt64 x2)) ∧ (¬ c = 0 → F_X6_moveQuota_b46 0 x1 x2 P p c 0 (Int32.toInt64 (Q 23 0 (ix (24 + c))) - Int32.toInt64 x2))) ∧ (∀ {p : Int32 → VP → Prop}, F_X8_quota_b79 x1 x2 Q p c (Int32.toInt64 (Q 23 0 (ix (24 + x1))) + Int32.toInt64 x2) (Int32.toInt64 (Q 23 0 (ix (24 + c))) - Int32.toInt64 x2) t.toInt64 (Int32.toInt64 (Q 23 0 (ix (24 + c))) - Int32.toInt64 x2) → (c = 0 → F_X8_quota_b79 x1 x2 Q p c (Int32.toInt64 (Q 23 0 (ix (24 + x1))) + Int32.toInt64 x2) (Int32.toInt64 (Q 23 0 (ix (24 + c))) - Int32.toInt64 x2) 1 (Int32.toInt64 (Q 23 0 (ix (24 + c))) - Int32.toInt64 x2)) ∧ (¬ c = 0 → F_X8_quota_b79 x1 x2 Q p c (Int32.toInt64 (Q 23 0 (ix (24 + x1))) + Int32.toInt64 x2) (Int32.toInt64 (Q 23 0 (ix (24 + c))) - Int32.toInt64 x2) 0 (Int32.toInt64 (Q 23 0 (ix (24 + c))) - Int32.toInt64 x2))) := by
          by_cases e : c = 0
          · exact ⟨1, by decide, by rw [if_pos e], fun hp => br_t e hp, fun hp => br_t e hp⟩
          · exact ⟨0, by decide, by rw [if_neg e], fun hp => br_f e hp, fun hp => br_f e hp⟩
        by_cases hB : lg_cmp (Int32.toInt64 (Q 23 0 (ix (24 + c))) - Int32.toInt64 x2) t.toInt64 < 0
        · refine ⟨-5, P, Q, h, fun p hp => ?_, fun p hp => ?_⟩
          · unfold F_X7_quota F_X6_moveQuota
            refine g2 _ (br_f (by decide) (br_f h0 (qa _ (c2 _ (qc _ (fun v4 e4 => ?_))))))
            rw [e4]
            refine qq _ (br_f hA (hb0 ?_))
            unfold F_X6_moveQuota_b46
            exact br_t hB hp
          · unfold F_X8_quota
            refine g3 _ (br_f (by decide) (br_f h0 ⟨b16, c3 _ ⟨b24, fun v4 e4 => ⟨bc, fun v6 e6 => ?_⟩⟩⟩))
            rw [e4, e6]
            refine br_f hA (hb1 ?_)
            unfold F_X8_quota_b79
            exact br_t hB hp
        · obtain ⟨i1, i2, i3, i4⟩ := q_in (dU x1 x8.1 x8.2) (dU c c8.1 c8.2) ht hA hB
          rw [hB0] at i3
          obtain ⟨Q94, ⟨z1, z2⟩, z3⟩ := m_copies (k0 := 23) (k1 := 24) (Q := Q) (by decide) rfl rfl
          have hM := RM_arr (κ' := 24) h.2.1 z2
          have s1 := z2 _ b24.1 b24.2
          have sc := z2 _ bc.1 bc.2
          have s0 := z2 0 (by decide) (by decide)
          have hDq := RD_quota (x2 := x2) hM.2.1 (by rw [s0]; exact x1') hc (by rw [s1]; exact ⟨i1, i2⟩) (by rw [sc]; exact ⟨i3, i4⟩)
          rw [s1, sc] at hDq
          obtain ⟨a', ha'⟩ : ∃ a', Q 23 0 (ix (24 + x1)) + x2 = a' := ⟨_, rfl⟩
          obtain ⟨b', hb'⟩ : ∃ b', Q 23 0 (ix (24 + c)) - x2 = b' := ⟨_, rfl⟩
          rw [ha', hb'] at hDq
          have vlo : ∀ i : Int32, 0 ≤ i → i < 24 ∨ 32 ≤ i → VQ Q94 24 x1 c a' b' 24 0 (ix i) = Q94 24 0 (ix i) := fun i i0 ho => VQ_ne x8 c8 i0 ho
          have hGq : RG 0 24 (P4 P x1 c a' b') (VQ Q94 24 x1 c a' b') := RG_eq hM.2.2.1 (fun s j => P4_k (by omega)) (fun a ha => vlo a (z_p ha) (Or.inr ha.1)) (by rw [vlo 0 (by decide) (by decide)]; exact z_le _)
          have hBq : BI (P4 P x1 c a' b') := BI_eq h.1 (fun k x j k0 _ => P4_k (by omega))
          have hMq : RM 0 24 (P4 P x1 c a' b') (VQ Q94 24 x1 c a' b') := ⟨RS_eq hM.1 (fun j => P4_k (by omega)) (fun a ha => vlo a (y_a ha).1 (Or.inl (w_b7 ha))), hDq, hGq, RW_eq hM.2.2.2.1 (fun k s j k0 _ => P4_k (by omega)) (fun a ha => vlo a (y_c ha).1 (Or.inr (w_b2 ha))), RF_eq hM.2.2.2.2 (fun j => P4_k (by omega)) (fun x j _ => P4_k (by omega)) (fun x j _ => P4_k (by omega)) (fun a ha => vlo a (y_d ha).1 (Or.inr (w_b3 ha)))⟩
          obtain ⟨r, hr, r1, r2⟩ := d_within hDq hGq hBq (κ := 24) rfl
          have e2 : P4 P x1 c a' b' 2 0 0 = Q 23 0 (ix 0) := (P4_k (by omega)).trans d0
          have p1 : P 4 0 (ix x1) + x2 = a' := by rw [(dQ x1 x8.1 x8.2).2]; exact ha'
          have pc : vup P 4 0 (ix x1) a' 4 0 (ix c) + -x2 = b' := by
            rw [qup_ne x8.1 c8.1 hne, (dQ c c8.1 c8.2).2, w_neg]; exact hb'
          have model : ∀ p : Int32 → VP → Prop, F_X8_isWithin 24 (VQ Q94 24 x1 c a' b') (fun r125 => (r125 = 0 → p (-5) (VQ Q94 24 x1 c a' b')) ∧ (¬ r125 = 0 → F_X8_copies 24 23 (VQ Q94 24 x1 c a' b') (fun Q142 => p a' Q142))) → F_X8_quota x1 x2 Q p := fun p hp => by
            unfold F_X8_quota
            refine g3 _ (br_f (by decide) (br_f h0 ⟨b16, c3 _ ⟨b24, fun v4 e4 => ⟨bc, fun v6 e6 => ?_⟩⟩⟩))
            rw [e4, e6]
            refine br_f hA (hb1 ?_)
            unfold F_X8_quota_b79
            refine br_f hB (z3 _ ⟨b24, fun Q108 e1 => ⟨bc, fun Q120 e2 => ?_⟩⟩)
            rw [Int64.toInt32_add, Int32.toInt32_toInt64, Int32.toInt32_toInt64, ha'] at e1 ⊢
            rw [Int64.toInt32_sub, Int32.toInt32_toInt64, Int32.toInt32_toInt64, hb'] at e2
            subst e1 e2
            exact hp
          have cls : ∀ p : Int32 → VP → Prop, F_X6_isAnyOverfull 0 (P4 P x1 c a' b') (fun r68 => (r68 = 0 → F_X6_quotaOf 0 x1 (P4 P x1 c a' b') (fun r92 => p r92 (P4 P x1 c a' b'))) ∧ (¬ r68 = 0 → F_X6_addQuota 0 x1 (-x2) (P4 P x1 c a' b') (fun P78 => F_X6_addQuota 0 c x2 P78 (fun P84 => p (-5) P84)))) → F_X7_quota x1 x2 P p := fun p hp => by
            unfold F_X7_quota F_X6_moveQuota
            refine g2 _ (br_f (by decide) (br_f h0 (qa _ (c2 _ (qc _ (fun v4 e4 => ?_))))))
            rw [e4]
            refine qq _ (br_f hA (hb0 ?_))
            unfold F_X6_moveQuota_b46
            exact br_f hB (c_addQ d0 g1 n8 p1 (c_addQ ((kup_ne (by decide)).trans d0) c0 n8 pc hp))
          rcases hr with rfl | rfl
          · have hP : ∀ k x j, vup (vup (P4 P x1 c a' b') 4 0 (ix x1) (Q 23 0 (ix (24 + x1)))) 4 0 (ix c) (Q 23 0 (ix (24 + c))) k x j = P k x j := fun k x j => by
              by_cases e : k = 4 ∧ x = 0 ∧ j = ix c
              · rw [e.1, e.2.1, e.2.2, vup_eq]; exact (dQ c c8.1 c8.2).2.symm
              · rw [vup_ne e]
                by_cases e' : k = 4 ∧ x = 0 ∧ j = ix x1
                · rw [e'.1, e'.2.1, e'.2.2, vup_eq]; exact (dQ x1 x8.1 x8.2).2.symm
                · rw [vup_ne e']
                  unfold P4
                  rw [vup_ne e, vup_ne e']
            refine ⟨-5, vup (vup (P4 P x1 c a' b') 4 0 (ix x1) (Q 23 0 (ix (24 + x1)))) 4 0 (ix c) (Q 23 0 (ix (24 + c))), VQ Q94 24 x1 c a' b', ?_, fun p hp => cls p (r1 _ (br_f (by decide) (c_addQ e2 g1 n8 ?_ (c_addQ ((kup_ne (by decide)).trans e2) c0 n8 ?_ hp)))), fun p hp => model p (r2 _ (br_t rfl hp))⟩
            · refine RR_up h (T := fun _ _ => False) (fun k x j _ => hP k x j) (fun k x q => absurd q id) (QU_any (fun k x j hk => (VQ_k (by omega)).trans (z1 k x j (by omega)))) (BI_eq h.1 (fun k x j _ _ => hP k x j)) (RM_oth h.2.1 (fun k x j _ _ _ => hP k x j) (fun j => (VQ_k (by decide)).trans (z1 23 0 j (by decide))))
            · rw [P4_at x8 c8 x8, if_neg (fun q => hne q.symm), if_pos rfl, ← ha']; exact w_back
            · rw [qup_ne x8.1 c8.1 hne, P4_at x8 c8 c8, if_pos rfl, ← hb']; exact w_back2
          · obtain ⟨Q142, ⟨y1, y2⟩, y3⟩ := m_copies (k0 := 24) (k1 := 23) (Q := VQ Q94 24 x1 c a' b') (by decide) rfl rfl
            have qv := c_quotaOf hDq (x := x1) (by rw [vlo 0 (by decide) (by decide), s0]; exact g1)
            rw [VQ_at x8 c8 x8, if_neg (fun q => hne q.symm), if_pos rfl] at qv
            refine ⟨a', P4 P x1 c a' b', Q142, ?_, fun p hp => cls p (r1 _ (br_t (by decide) (qv _ hp))), fun p hp => model p (r2 _ (br_f (by decide) (y3 _ hp)))⟩
            refine RR_up h (T := fun k x => k = 4 ∧ x = 0) (fun k x j hn => P4_k hn) (fun k x q => ?_) (QU_any (fun k x j hk => (y1 k x j (by omega)).trans ((VQ_k (by omega)).trans (z1 k x j (by omega))))) hBq (RM_arr hMq y2)
            obtain ⟨rfl, rfl⟩ := q
            exact ⟨by decide, by decide, rfl⟩
  · refine ⟨-1, P, Q, h, fun p hp => ?_, fun p hp => ?_⟩
    · unfold F_X7_quota
      exact g2 _ (br_t rfl hp)
    · unfold F_X8_quota
      exact g3 _ (br_t rfl hp)
