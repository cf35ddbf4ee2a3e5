/-! the text: which word it is -/
def spd (j j' : Nat) : Bool := decide (j = j') || !decide (slen j = slen j') || (decide (0 < slen j) && !decide (sch j 0 = sch j' 0)) || (decide (1 < slen j) && !decide (sch j 1 = sch j' 1)) || (decide (2 < slen j) && !decide (sch j 2 = sch j' 2)) || (decide (3 < slen j) && !decide (sch j 3 = sch j' 3))
theorem sp_all : ∀ j, j < 15 → ∀ j', j' < 15 → spd j j' = true := by decide +kernel
theorem sp_tab : ∀ j, j < 15 → ∀ j', j' < 15 → ¬ j = j' → ¬ slen j = slen j' ∨ (0 < slen j ∧ ¬ sch j 0 = sch j' 0) ∨ (1 < slen j ∧ ¬ sch j 1 = sch j' 1) ∨ (2 < slen j ∧ ¬ sch j 2 = sch j' 2) ∨ (3 < slen j ∧ ¬ sch j 3 = sch j' 3) := by
  intro j hj j' hj' hn
  have h := sp_all j hj j' hj'
  unfold spd at h
  simp only [Bool.or_eq_true, Bool.and_eq_true, Bool.not_eq_true', decide_eq_true_eq, decide_eq_false_iff_not] at h
  rcases h with ((((h | h) | h) | h) | h) | h
  · exact absurd h hn
  · exact Or.inl h
  · exact Or.inr (Or.inl h)
  · exact Or.inr (Or.inr (Or.inl h))
  · exact Or.inr (Or.inr (Or.inr (Or.inl h)))
  · exact Or.inr (Or.inr (Or.inr (Or.inr h)))
theorem MT_un {B : Int32 → Int32} {x e : Int32} {j j' : Nat} (hj : j < 15) (hj' : j' < 15) (h : MT B x e j) (h' : MT B x e j') : j = j' := by
  by_cases q : j = j'
  · exact q
  · exfalso
    have hl : slen j = slen j' := h.1.symm.trans h'.1
    have ag : ∀ v : Int32, 0 ≤ v → v < slen j → sch j (ix v) = sch j' (ix v) := fun v v0 v1 => (h.2 v v0 v1).symm.trans (h'.2 v v0 (by rw [← hl]; exact v1))
    rcases sp_tab j hj j' hj' q with t | ⟨t, u⟩ | ⟨t, u⟩ | ⟨t, u⟩ | ⟨t, u⟩
    · exact t hl
    · exact u (ag 0 (by decide) t)
    · exact u (ag 1 (by decide) t)
    · exact u (ag 2 (by decide) t)
    · exact u (ag 3 (by decide) t)
def spl (k : Nat) : Nat := if k = 13 then 14 else if k = 14 then 13 else k
theorem spl_lt {k : Nat} (h : k < 15) : spl k < 15 := by unfold spl; split <;> (try split) <;> omega
theorem spl_un {k k' : Nat} (h : spl k = spl k') (hk : k < 15) (hk' : k' < 15) : k = k' := (show ∀ k, k < 15 → ∀ k', k' < 15 → spl k = spl k' → k = k' by decide) k hk k' hk' h
theorem nat_15 {k : Nat} (h : k < 15) : k = 0 ∨ k = 1 ∨ k = 2 ∨ k = 3 ∨ k = 4 ∨ k = 5 ∨ k = 6 ∨ k = 7 ∨ k = 8 ∨ k = 9 ∨ k = 10 ∨ k = 11 ∨ k = 12 ∨ k = 13 ∨ k = 14 := by omega
theorem c_spelling {k : Nat} (h : k < 15) {P : VP} : An (F_X5_spellingOf (nI k) P) (spl k) := by
  intro p hp
  unfold F_X5_spellingOf
  rcases nat_15 h with rfl | rfl | rfl | rfl | rfl | rfl | rfl | rfl | rfl | rfl | rfl | rfl | rfl | rfl | rfl
  · exact br_t rfl hp
  · exact br_f (by decide) (br_t rfl hp)
  · exact br_f (by decide) (br_f (by decide) (br_t rfl hp))
  · exact br_f (by decide) (br_f (by decide) (br_f (by decide) (br_t rfl hp)))
  · exact br_f (by decide) (br_f (by decide) (br_f (by decide) (br_f (by decide) (br_t rfl hp))))
  · exact br_f (by decide) (br_f (by decide) (br_f (by decide) (br_f (by decide) (br_f (by decide) (br_t rfl hp)))))
  · exact br_f (by decide) (br_f (by decide) (br_f (by decide) (br_f (by decide) (br_f (by decide) (br_f (by decide) (br_t rfl hp))))))
  · exact br_f (by decide) (br_f (by decide) (br_f (by decide) (br_f (by decide) (br_f (by decide) (br_f (by decide) (br_f (by decide) (br_t rfl hp)))))))
  · exact br_f (by decide) (br_f (by decide) (br_f (by decide) (br_f (by decide) (br_f (by decide) (br_f (by decide) (br_f (by decide) (br_f (by decide) (br_t rfl hp))))))))
  · exact br_f (by decide) (br_f (by decide) (br_f (by decide) (br_f (by decide) (br_f (by decide) (br_f (by decide) (br_f (by decide) (br_f (by decide) (br_f (by decide) (br_t rfl hp)))))))))
  · exact br_f (by decide) (br_f (by decide) (br_f (by decide) (br_f (by decide) (br_f (by decide) (br_f (by decide) (br_f (by decide) (br_f (by decide) (br_f (by decide) (br_f (by decide) (br_t rfl hp))))))))))
  · exact br_f (by decide) (br_f (by decide) (br_f (by decide) (br_f (by decide) (br_f (by decide) (br_f (by decide) (br_f (by decide) (br_f (by decide) (br_f (by decide) (br_f (by decide) (br_f (by decide) (br_t rfl hp)))))))))))
  · exact br_f (by decide) (br_f (by decide) (br_f (by decide) (br_f (by decide) (br_f (by decide) (br_f (by decide) (br_f (by decide) (br_f (by decide) (br_f (by decide) (br_f (by decide) (br_f (by decide) (br_f (by decide) (br_t rfl hp))))))))))))
  · exact br_f (by decide) (br_f (by decide) (br_f (by decide) (br_f (by decide) (br_f (by decide) (br_f (by decide) (br_f (by decide) (br_f (by decide) (br_f (by decide) (br_f (by decide) (br_f (by decide) (br_f (by decide) (br_f (by decide) (br_t rfl hp)))))))))))))
  · exact br_f (by decide) (br_f (by decide) (br_f (by decide) (br_f (by decide) (br_f (by decide) (br_f (by decide) (br_f (by decide) (br_f (by decide) (br_f (by decide) (br_f (by decide) (br_f (by decide) (br_f (by decide) (br_f (by decide) (br_f (by decide) (br_t rfl hp))))))))))))))
/-- the letters' end, then the words are tried -/
theorem c_letters {P Q : VP} {L x e : Int32} {B : Int32 → Int32} (h : TB P Q L B) (hx : 0 ≤ x) (hat : P 17 0 6 = x) (hr : RU B L 97 122 x e) (post : Int32 → VP → Prop) (hp : vL1 (F_X5_readWord_l32 P post e) 0) : F_X5_readWord P post := by
  have hL := h.2.2.1.2
  obtain ⟨⟨r1, r2⟩, r3, r4⟩ := hr
  have e120 := q_5 r2 hL
  unfold F_X5_readWord
  rw [hat]
  refine vL1_i (fun y => x ≤ y ∧ y ≤ e) (fun y => ix (e - y)) (fun X y ⟨y0, y1⟩ hX => ?_) ⟨z_le x, r1⟩
  have hy0 := q_5 hx y0
  unfold F_X5_readWord_l5
  rw [h.1]
  by_cases hye : y = e
  · by_cases hl : y < L
    · exact br_t hl (c_byte h hy0 _ (c_isLetter.2 (by rw [hye]; exact r4) _ (br_t rfl (by rw [hye]; exact hp))))
    · exact br_f hl (by rw [hye]; exact hp)
  · obtain ⟨z1, ⟨z2, z3⟩, z4, z5, z6⟩ := q_4 hy0 ⟨y1, e120⟩ hye
    exact br_t (z_lt z1 r2) (c_byte h hy0 _ (c_isLetter.1 (r3 y y0 z1) _ (br_f (by decide) (hX _ ⟨q_5 y0 z6, z3⟩ (ix_lt z4 z5)))))
theorem nI_st : ∀ k, k < 15 → (nI k + 1 = nI (k + 1) ∧ nI k < 15) := by decide
theorem c_word {P Q : VP} {L x e : Int32} {B : Int32 → Int32} (h : TB P Q L B) (hx : 0 ≤ x) (hat : P 17 0 6 = x) (hr : RU B L 97 122 x e) {k : Nat} (hk : k < 15) (hm : MT B x e (spl k)) (post : Int32 → VP → Prop) (hp : post (nI k) (vup P 17 0 6 e)) : F_X5_readWord P post := by
  refine c_letters h hx hat hr post ?_
  have key : ∀ d i : Nat, i + d = k → vL1 (F_X5_readWord_l32 P post e) (nI i) := by
    intro d
    induction d with
    | zero =>
      intro i hi
      have hik : i = k := by omega
      subst hik
      refine ⟨1, ?_⟩
      show F_X5_readWord_l32 P post e (vl1 (F_X5_readWord_l32 P post e) 0) (nI i)
      unfold F_X5_readWord_l32
      refine br_t (nI_st i hk).2 (c_spelling hk _ ((c_spelled h hx hat hr.1 (spl_lt hk)).1 hm _ (br_f (by decide) (fun P52 e1 => ?_))))
      subst e1
      exact hp
    | succ d ih =>
      intro i hi
      have hi15 : i < 15 := by omega
      obtain ⟨n, hn⟩ := ih (i + 1) (by omega)
      refine ⟨n + 1, ?_⟩
      show F_X5_readWord_l32 P post e (vl1 (F_X5_readWord_l32 P post e) n) (nI i)
      have hno : ¬ MT B x e (spl i) := fun q => by
        have := spl_un (MT_un (spl_lt hi15) (spl_lt hk) q hm) hi15 hk
        omega
      unfold F_X5_readWord_l32
      refine br_t (nI_st i hi15).2 (c_spelling hi15 _ ((c_spelled h hx hat hr.1 (spl_lt hi15)).2 hno _ (br_t rfl ?_)))
      rw [(nI_st i hi15).1]
      exact hn
  exact key k 0 (by omega)
theorem c_noword {P Q : VP} {L x e : Int32} {B : Int32 → Int32} (h : TB P Q L B) (hx : 0 ≤ x) (hat : P 17 0 6 = x) (hr : RU B L 97 122 x e) (hm : ∀ j, j < 15 → ¬ MT B x e j) (post : Int32 → VP → Prop) (hp : post 15 (vup P 17 0 7 x)) : F_X5_readWord P post := by
  refine c_letters h hx hat hr post ?_
  have key : ∀ d i : Nat, i + d = 15 → vL1 (F_X5_readWord_l32 P post e) (nI i) := by
    intro d
    induction d with
    | zero =>
      intro i hi
      have hik : i = 15 := by omega
      subst hik
      refine ⟨1, ?_⟩
      show F_X5_readWord_l32 P post e (vl1 (F_X5_readWord_l32 P post e) 0) (nI 15)
      unfold F_X5_readWord_l32
      refine br_f (by decide) (fun P68 e1 => ?_)
      rw [hat] at e1
      subst e1
      exact hp
    | succ d ih =>
      intro i hi
      have hi15 : i < 15 := by omega
      obtain ⟨n, hn⟩ := ih (i + 1) (by omega)
      refine ⟨n + 1, ?_⟩
      show F_X5_readWord_l32 P post e (vl1 (F_X5_readWord_l32 P post e) n) (nI i)
      unfold F_X5_readWord_l32
      refine br_t (nI_st i hi15).2 (c_spelling hi15 _ ((c_spelled h hx hat hr.1 (spl_lt hi15)).2 (hm _ (spl_lt hi15)) _ (br_t rfl ?_)))
      rw [(nI_st i hi15).1]
      exact hn
  exact key 15 0 (by omega)
