/-! the text: a line's parts, one behind another; a line's end -/
def LNq (Q : VP) (m a0 a1 a2 a3 : Int32) : Prop := Q 27 0 (ix (4 * m)) = a0 ∧ Q 27 0 (ix ((4 * m) + 1)) = a1 ∧ Q 27 0 (ix ((4 * m) + 2)) = a2 ∧ Q 27 0 (ix ((4 * m) + 3)) = a3
def LSt (P Q : VP) (L : Int32) (B : Int32 → Int32) (x m : Int32) (P' Q' : VP) (y a0 a1 a2 a3 : Int32) : Prop := TS P' Q' L B y m ∧ (x < y ∧ y ≤ L) ∧ LNq Q' m a0 a1 a2 a3 ∧ FCp P P' ∧ FMq Q Q' ∧ (∀ j, P' 19 0 j = P 19 0 j ∧ P' 20 0 j = P 20 0 j) ∧ ∀ a : Int32, 0 ≤ a → ¬ (4 * m ≤ a ∧ a ≤ (4 * m) + 3) → Q' 27 0 (ix a) = Q 27 0 (ix a)
def TLp (P : VP) (m K V : Int32) : VP := vup (vup (vup P 19 0 (ix m) K) 20 0 (ix m) V) 17 0 2 (m + 1)
def OUT (P Q : VP) (L : Int32) (B : Int32 → Int32) (x m : Int32) (C : (VP → Prop) → Prop) (M : (Int32 → VP → Prop) → Prop) : Prop :=
  (∃ f P1 Q1, 0 ≤ f ∧ P1 17 0 7 = f ∧ FCp P P1 ∧ FMq Q Q1 ∧ Q1 22 0 9 = f ∧ (∀ post : VP → Prop, post P1 → C post) ∧ (∀ post : Int32 → VP → Prop, post 0 Q1 → M post)) ∨
  (∃ y P' Q' a0 a1 a2 a3 K V, LSt P Q L B x m P' Q' y a0 a1 a2 a3 ∧ WR K V 0 a0 a1 a2 a3 0 0 ∧ (∀ post : VP → Prop, (¬ y < L ∨ B y = 59 → post (TLp P' m K V)) → (y < L ∧ ¬ B y = 59 → post (vup P' 17 0 7 y)) → C post) ∧ (∀ post : Int32 → VP → Prop, post 1 Q' → M post))
theorem OUT_w {P Q : VP} {L : Int32} {B : Int32 → Int32} {x m : Int32} {C C' : (VP → Prop) → Prop} {M M' : (Int32 → VP → Prop) → Prop} (h : OUT P Q L B x m C M) (hC : ∀ post, C post → C' post) (hM : ∀ post, M post → M' post) : OUT P Q L B x m C' M' := by
  rcases h with ⟨f, P1, Q1, f0, f1, f2, f3, f4, f5, f6⟩ | ⟨y, P', Q', a0, a1, a2, a3, K, V, y1, y2, y3, y4⟩
  · exact Or.inl ⟨f, P1, Q1, f0, f1, f2, f3, f4, fun post hp => hC post (f5 post hp), fun post hp => hM post (f6 post hp)⟩
  · exact Or.inr ⟨y, P', Q', a0, a1, a2, a3, K, V, y1, y2, fun post h1 h2 => hC post (y3 post h1 h2), fun post hp => hM post (y4 post hp)⟩
theorem c_bad {P1 : VP} {k i : Int32} {t : Nat} (hf : ¬ P1 17 0 7 < 0) (post : VP → Prop) (hp : post P1) (X : Int32 → VP → Prop) : F_X5_readLine_l12 post k t X i P1 := by
  have b72 : F_X5_readLine_b72 P1 post k t := by
    unfold F_X5_readLine_b72 F_X5_readLine_b94
    exact br_f hf (br_f hf hp)
  unfold F_X5_readLine_l12
  exact ⟨fun _ => ⟨fun _ => br_f hf b72, fun _ => b72⟩, fun _ => b72⟩
theorem x_mp {m p a : Int32} (hm : 0 ≤ m ∧ m ≤ 60) (hp : 0 ≤ p ∧ p < 4) (h : ¬ (4 * m ≤ a ∧ a ≤ (4 * m) + 3)) : ¬ a = (4 * m) + p := by lia
theorem o_part {P Q P' Q' : VP} {L : Int32} {B : Int32 → Int32} {x m y i k part a0 a1 a2 a3 : Int32} {t : Nat} {R : Int32 → Prop} {G M : (Int32 → VP → Prop) → Prop} {b0 b1 b2 b3 : Int32 → Int32} (h : LSt P Q L B x m P' Q' y a0 a1 a2 a3) (hm : 0 ≤ m ∧ m ≤ 60) (hp : 0 ≤ part ∧ part < 4) (hi : 0 ≤ i ∧ i < slen t) (hi3 : i < 3) (po : PO P' Q' L B y m (slen t) (sch t (ix i)) i part R G) (hM0 : ∀ Q1, (∀ post : Int32 → VP → Prop, post 0 Q1 → G post) → ∀ post : Int32 → VP → Prop, post 0 Q1 → M post) (hU : ∀ v Q1, Q1 27 0 (ix ((4 * m) + part)) = v → (∀ j, ¬ j = ix ((4 * m) + part) → Q1 27 0 j = Q' 27 0 j) → LNq Q1 m (b0 v) (b1 v) (b2 v) (b3 v)) (hK : ∀ v y1 P1 Q1, R v → LSt P Q L B x m P1 Q1 y1 (b0 v) (b1 v) (b2 v) (b3 v) → P1 21 0 (ix i) = v → (∀ j, ¬ j = ix i → P1 21 0 j = P' 21 0 j) → (∀ post : Int32 → VP → Prop, post 1 Q1 → G post) → OUT P Q L B x m (fun post => vL2 (F_X5_readLine_l12 post k t) (i + 1) P1) M) : OUT P Q L B x m (fun post => vL2 (F_X5_readLine_l12 post k t) i P') M := by
  obtain ⟨hT, ⟨hx1, hx2⟩, hLN, hF, hG, h19, h27⟩ := h
  have go : ∀ (post : VP → Prop) (P1 : VP), (∀ X : Int32 → VP → Prop, X (i + 1) P1 → BD (slen t) (sch t (ix i)) i P' X) → vL2 (F_X5_readLine_l12 post k t) (i + 1) P1 → vL2 (F_X5_readLine_l12 post k t) i P' := by
    intro post P1 hb hv
    refine vL2_step (fun X hX => ?_) hv
    unfold F_X5_readLine_l12
    exact br_t hi.2 (br_t hi3 (br_t (by rw [hT.2.2.1.1]; decide) (hb X hX)))
  rcases po with ⟨f, P1, Q1, f0, f1, f2, f3, f4, f5, f6⟩ | ⟨v, y1, P1, Q1, v0, ⟨v1, v2⟩, v3, v4, v5, v6, v7, v8, v9⟩
  · refine Or.inl ⟨f, P1, Q1, f0, f1, FCp_t hF f2, FMq_t hG f3, f4, fun post hp => go post P1 f5 (vL2_end (c_bad (by rw [f1]; lia) post hp)), hM0 Q1 f6⟩
  · have fr : FCp P' P1 := fun k x' j a b => v5 k x' j (by omega) (by omega)
    have fq : FMq Q' Q1 := fun k x' j a b => v7 k x' j (by omega) (by omega)
    refine OUT_w (hK v y1 P1 Q1 v0 ⟨v3, ⟨p_tr hx1 v1, v2⟩, hU v Q1 v6 (fun j hj => v7 27 0 j (by omega) (fun q => hj q.2)), FCp_t hF fr, FMq_t hG fq, fun j => ⟨?_, ?_⟩, fun a a0 ha => ?_⟩ v4 (fun j hj => v5 21 0 j (by omega) (fun q => hj q.2.2)) v9) (fun post hp => go post P1 v8 hp) (fun _ h => h)
    · rw [v5 19 0 j (by omega) (by omega)]; exact (h19 j).1
    · rw [v5 20 0 j (by omega) (by omega)]; exact (h19 j).2
    · rw [v7 27 0 _ (by omega) (fun q => ix_ne a0 (q_10 hm hp).1 (x_mp hm hp ha) q.2)]
      exact h27 a a0 ha
theorem q_15 {m c d : Int32} (hm : 0 ≤ m ∧ m ≤ 60) (hc : 0 ≤ c ∧ c < 4) (hd : 0 ≤ d ∧ d < 4) (h : ¬ c = d) : ¬ ix ((4 * m) + c) = ix ((4 * m) + d) := ix_ne (q_10 hm hc).1 (q_10 hm hd).1 (by lia)
theorem q_16 {m d : Int32} (hm : 0 ≤ m ∧ m ≤ 60) (hd : 0 ≤ d ∧ d < 4) (h : ¬ 0 = d) : ¬ ix (4 * m) = ix ((4 * m) + d) := ix_ne (by lia) (q_10 hm hd).1 (by lia)
theorem LN_1 {Q Q1 : VP} {m a0 a1 a2 a3 : Int32} (hm : 0 ≤ m ∧ m ≤ 60) (h : LNq Q m a0 a1 a2 a3) (v : Int32) (h1 : Q1 27 0 (ix ((4 * m) + 1)) = v) (hj : ∀ j, ¬ j = ix ((4 * m) + 1) → Q1 27 0 j = Q 27 0 j) : LNq Q1 m a0 v a2 a3 :=
  ⟨(hj _ (q_16 hm (by decide) (by decide))).trans h.1, h1, (hj _ (q_15 hm (by decide) (by decide) (by decide))).trans h.2.2.1, (hj _ (q_15 hm (by decide) (by decide) (by decide))).trans h.2.2.2⟩
theorem LN_2 {Q Q1 : VP} {m a0 a1 a2 a3 : Int32} (hm : 0 ≤ m ∧ m ≤ 60) (h : LNq Q m a0 a1 a2 a3) (v : Int32) (h1 : Q1 27 0 (ix ((4 * m) + 2)) = v) (hj : ∀ j, ¬ j = ix ((4 * m) + 2) → Q1 27 0 j = Q 27 0 j) : LNq Q1 m a0 a1 v a3 :=
  ⟨(hj _ (q_16 hm (by decide) (by decide))).trans h.1, (hj _ (q_15 hm (by decide) (by decide) (by decide))).trans h.2.1, h1, (hj _ (q_15 hm (by decide) (by decide) (by decide))).trans h.2.2.2⟩
theorem LN_3 {Q Q1 : VP} {m a0 a1 a2 a3 : Int32} (hm : 0 ≤ m ∧ m ≤ 60) (h : LNq Q m a0 a1 a2 a3) (v : Int32) (h1 : Q1 27 0 (ix ((4 * m) + 3)) = v) (hj : ∀ j, ¬ j = ix ((4 * m) + 3) → Q1 27 0 j = Q 27 0 j) : LNq Q1 m a0 a1 a2 v :=
  ⟨(hj _ (q_16 hm (by decide) (by decide))).trans h.1, (hj _ (q_15 hm (by decide) (by decide) (by decide))).trans h.2.1, (hj _ (q_15 hm (by decide) (by decide) (by decide))).trans h.2.2.1, h1⟩
theorem q_17 {m : Int32} (hm : 0 ≤ m ∧ m ≤ 60) : ¬ m < 0 ∧ ¬ 120 < m ∧ 0 ≤ m ∧ m < 121 := by lia
theorem c_tell {P : VP} {m K V : Int32} (hm : 0 ≤ m ∧ m ≤ 60) (h2 : P 17 0 2 = m) {post : VP → Prop} (hp : post (TLp P m K V)) : F_X5_tell K V P post := by
  obtain ⟨m1, m2, m3⟩ := q_17 hm
  unfold F_X5_tell
  rw [h2]
  refine br_f m1 (br_f m2 ⟨m3, fun P25 e1 => ?_⟩)
  subst e1
  rw [kup_ne (by decide), h2]
  refine ⟨m3, fun P35 e2 P43 e3 => ?_⟩
  subst e2
  rw [kup_ne (by decide), kup_ne (by decide), h2] at e3
  subst e3
  exact hp
theorem o_end {P Q P' Q' : VP} {L : Int32} {B : Int32 → Int32} {x m y i k a0 a1 a2 a3 K V : Int32} {t : Nat} {M : (Int32 → VP → Prop) → Prop} (h : LSt P Q L B x m P' Q' y a0 a1 a2 a3) (hx : 0 ≤ x) (hm : 0 ≤ m ∧ m ≤ 60) (hi : ¬ i < slen t) (ht : ∀ post : VP → Prop, F_X5_tell K V P' post → F_X5_tellWord k (slen t) P' post) (hw : WR K V 0 a0 a1 a2 a3 0 0) (hM : ∀ post : Int32 → VP → Prop, post 1 Q' → M post) : OUT P Q L B x m (fun post => vL2 (F_X5_readLine_l12 post k t) i P') M := by
  obtain ⟨hT, ⟨hx1, hx2⟩, -⟩ := id h
  have hy0 : 0 ≤ y := by lia
  have cb := c_byte hT.1 hy0
  refine Or.inr ⟨y, P', Q', a0, a1, a2, a3, K, V, h, hw, fun post h1 h2 => vL2_end (fun X => ?_), hM⟩
  have neg : P' 17 0 7 < 0 := by rw [hT.2.2.1.1]; decide
  have good : ¬ y < L ∨ B y = 59 → F_X5_readLine_b94 P' post k t := fun q => by
    unfold F_X5_readLine_b94
    exact br_t neg (ht _ (c_tell hm hT.2.2.2.1 (h1 q)))
  unfold F_X5_readLine_l12
  refine br_f hi ?_
  unfold F_X5_readLine_b72 F_X5_isLineEnd
  rw [hT.2.1.1, hT.1.1]
  refine br_t neg ?_
  by_cases hyL : y < L
  · by_cases hb : B y = 59
    · exact br_t hyL (cb _ (br_t hb (br_f (by decide) (good (Or.inr hb)))))
    · refine br_t hyL (cb _ (br_f hb (br_t rfl (fun P91 e => ?_))))
      subst e
      unfold F_X5_readLine_b94
      exact br_f (by rw [vup_eq]; lia) (h2 ⟨hyL, hb⟩)
  · exact br_f hyL (br_f (by decide) (good (Or.inl hyL)))
