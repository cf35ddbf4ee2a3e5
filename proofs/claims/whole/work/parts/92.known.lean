/-! what is known at the law's entry -/
theorem tm_len {args : Array Value} {s : State} {t u : Term} {c n d : String} (h : t.eval args s none [] s = u.eval args s none [] s) : (Term.length (.field t c n d)).eval args s none [] s = (Term.length (.field u c n d)).eval args s none [] s := by
  simp only [Term.eval, h]
theorem tm_elem {args : Array Value} {s : State} {t u k : Term} {c n d : String} (h : t.eval args s none [] s = u.eval args s none [] s) : (Term.elem (.field t c n d) k).eval args s none [] s = (Term.elem (.field u c n d) k).eval args s none [] s := by
  simp only [Term.eval, h]
def tmS (i : Nat) : Term := Term.string "RingGates$Text" (102 + 2 * i)
def lwF : List Cond := flatC (Jvm.Cond.and given_1 narrow_1)
theorem f_ex : ∀ i, i < 22 → Cond.exactly (tmS i) "java/lang/String" ∈ lwF := by decide +kernel
theorem f_co : ∀ i, i < 22 → Cond.eq (.field (tmS i) "java/lang/String" "coder" "B") (.int 0) ∈ lwF := by decide +kernel
theorem f_ar : ∀ i, i < 22 → Cond.arrayOf (.field (tmS i) "java/lang/String" "value" "[B") .byte ∈ lwF := by decide +kernel
theorem f_le : ∀ i, i < 22 → Cond.eq (.length (.field (tmS i) "java/lang/String" "value" "[B")) (.int (Int32.ofNat (vlenS.getD i 0))) ∈ lwF := by decide +kernel
theorem f_el : ∀ i, i < 22 → ∀ j, j < vlenS.getD i 0 → Cond.eq (.elem (.field (tmS i) "java/lang/String" "value" "[B") (.int (Int32.ofNat j))) (.int ((vbytS.getD i []).getD j 0)) ∈ lwF := by decide +kernel
theorem f_ne : ∀ i, i < 22 → ∀ j, j < 22 → i ≠ j → (¬ Int32.ofNat (vlenS.getD i 0) = Int32.ofNat (vlenS.getD j 0)) ∨ ∃ k, k < 4 ∧ k < vlenS.getD i 0 ∧ k < vlenS.getD j 0 ∧ ¬ (vbytS.getD i []).getD k 0 = (vbytS.getD j []).getD k 0 := by decide +kernel
theorem f_lt : ∀ i, i < 22 → vlenS.getD i 0 < 2 ^ 31 := by decide +kernel
theorem k_strs {args : Array Value} {s : State} {A : Nat → Prop} (hs : ∀ c ∈ lwF, c.before args s = true) (hA : ∀ a : Nat, a < s.heap.size → ¬ A a) : ∃ adK adV : Nat → Nat, vk_S 22 vlenS vbytS adK adV A s s.heap ∧ ∀ i : Nat, i < 22 → (tmS i).eval args s none [] s = some (.ref (adK i)) := by
  have hev : ∀ i, i < 22 → ∃ a : Nat, (tmS i).eval args s none [] s = some (.ref a) := fun i hi => by
    obtain ⟨a, c, cA, kA, q1, -⟩ := Cond.exactly_spec (args := args) (first := s) (o := none) (s := s) (idx := []) (t := tmS i) (cls := "java/lang/String") (hs _ (f_ex i hi))
    exact ⟨a, q1⟩
  refine vk_Sof (tm := tmS) f_lt (fun i hi => hs _ (f_ex i hi)) (fun i hi => hs _ (f_co i hi)) (fun i hi => hs _ (f_ar i hi)) (fun i hi => hs _ (f_le i hi)) (fun i hi j hj => hs _ (f_el i hi j hj)) (fun i j hi hj hij => ?_) hA
  obtain ⟨x, hx⟩ := hev i hi
  obtain ⟨y, hy⟩ := hev j hj
  by_cases e : x = y
  · subst e
    have h1 := hx.trans hy.symm
    exfalso
    rcases f_ne i hi j hj hij with h | ⟨k, -, k1, k2, h⟩
    · have h2 := (va_eqt (hs _ (f_le i hi))).symm.trans ((tm_len h1).trans (va_eqt (hs _ (f_le j hj))))
      exact h (Value.int.inj (Option.some.inj h2))
    · have h2 := (va_eqt (hs _ (f_el i hi k k1))).symm.trans ((tm_elem h1).trans (va_eqt (hs _ (f_el j hj k k2))))
      exact h (Value.int.inj (Option.some.inj h2))
  · refine Or.inl ?_
    simp [Cond.before, Cond.holds, Cond.value, hx, hy, e]
theorem k_cls {args : Array Value} {s : State} (hts : ∀ w ∈ vtb, w.before args s = true) : ∃ D : va_G, ∀ (c : Nat) (q : vw_C), vcl[c]? = some q → u_Kn s q.1 q.2.1 q.2.2 (D.1 c) (D.2 c) := by
  have h : ∀ c : Nat, ∃ x : ClassId × (Nat → Nat), ∀ q : vw_C, vcl[c]? = some q → u_Kn s q.1 q.2.1 q.2.2 x.1 x.2 := by
    intro c
    rcases c with _ | _ | _ | _ | _ | _ | _ | _ | _ | c
    · obtain ⟨c1, c2, hc⟩ := u_known hts inv_X0 (hts _ in_0)
      exact ⟨(c1, c2), fun q hq => by cases hq; exact hc⟩
    · obtain ⟨c1, c2, hc⟩ := u_known hts inv_X1 (hts _ in_1)
      exact ⟨(c1, c2), fun q hq => by cases hq; exact hc⟩
    · obtain ⟨c1, c2, hc⟩ := u_known hts inv_X2 (hts _ in_2)
      exact ⟨(c1, c2), fun q hq => by cases hq; exact hc⟩
    · obtain ⟨c1, c2, hc⟩ := u_known hts inv_X3 (hts _ in_3)
      exact ⟨(c1, c2), fun q hq => by cases hq; exact hc⟩
    · obtain ⟨c1, c2, hc⟩ := u_known hts inv_X4 (hts _ in_4)
      exact ⟨(c1, c2), fun q hq => by cases hq; exact hc⟩
    · obtain ⟨c1, c2, hc⟩ := u_known hts inv_X5 (hts _ in_5)
      exact ⟨(c1, c2), fun q hq => by cases hq; exact hc⟩
    · obtain ⟨c1, c2, hc⟩ := u_known hts inv_X6 (hts _ in_6)
      exact ⟨(c1, c2), fun q hq => by cases hq; exact hc⟩
    · obtain ⟨c1, c2, hc⟩ := u_known hts inv_X7 (hts _ in_7)
      exact ⟨(c1, c2), fun q hq => by cases hq; exact hc⟩
    · obtain ⟨c1, c2, hc⟩ := u_known hts inv_X8 (hts _ in_8)
      exact ⟨(c1, c2), fun q hq => by cases hq; exact hc⟩
    · exact ⟨(0, fun _ => 0), fun q hq => by cases hq⟩
  obtain ⟨f, hf⟩ := Classical.axiomOfChoice h
  exact ⟨(fun c => (f c).1, fun c => (f c).2), hf⟩
theorem k_arr {args : Array Value} {s : State} {C : String} (h : (Cond.arrayOver (.object C)).before args s = true) : ∃ cA : ClassId, ArrOfT s cA (.object C) ∧ va_RA s cA (.object C) := by
  obtain ⟨comp, c, k, h1, h2, h3, h4, h5⟩ := Cond.arrayOver_spec h
  exact ⟨c, fun n z => ⟨fun k h => (by cases h), k, h3, comp, h4⟩, k, comp, h3, h4, h1, h5⟩
theorem k_int {args : Array Value} {s : State} (h : (Cond.arrayClass .int).before args s = true) : ∃ cA : ClassId, ArrOfT s cA .int ∧ va_RA s cA .int := by
  obtain ⟨c, k, comp, h1, h2, h3⟩ := Cond.arrayClass_spec h
  exact ⟨c, fun n z => ⟨fun k h => (by cases h), k, h2, comp, h3⟩, h1⟩
theorem k_ty {args : Array Value} {s : State} (hl : ∀ w ∈ lw_tbl, w.before args s = true) : ∃ cA : Nat → ClassId, ∀ (k : Nat) (q : ClassId × FieldType), ([(cA 0, .int), (cA 1, .object "RingGates$Segment"), (cA 2, .object "RingGates$Frame"), (cA 3, .object "RingGates$Argument"), (cA 4, .object "java/lang/String")] : List (ClassId × FieldType))[k]? = some q → ArrOfT s q.1 q.2 ∧ va_RA s q.1 q.2 := by
  obtain ⟨c0, h0⟩ := k_int (hl (.arrayClass .int) (by decide +kernel))
  obtain ⟨c1, h1⟩ := k_arr (C := "RingGates$Segment") (hl _ (by decide +kernel))
  obtain ⟨c2, h2⟩ := k_arr (C := "RingGates$Frame") (hl _ (by decide +kernel))
  obtain ⟨c3, h3⟩ := k_arr (C := "RingGates$Argument") (hl _ (by decide +kernel))
  obtain ⟨c4, h4⟩ := k_arr (C := "java/lang/String") (hl _ (by decide +kernel))
  refine ⟨fun j => [c0, c1, c2, c3, c4].getD j 0, fun k q hq => ?_⟩
  rcases k with _ | _ | _ | _ | _ | k
  · cases hq; exact h0
  · cases hq; exact h1
  · cases hq; exact h2
  · cases hq; exact h3
  · cases hq; exact h4
  · cases hq
theorem k_nest {args : Array Value} {s : State} (hl : ∀ w ∈ lw_tbl, w.before args s = true) : ∀ w ∈ vnest, va_Nw w s := by
  have h1 : ∀ w ∈ vnest, w ∈ lw_tbl := by decide +kernel
  intro w hw
  refine va_Nw.of ?_ (hl w (h1 w hw))
  have : ∀ c ∈ vnest, c.onTables = true := by
    unfold vnest
    repeat' (first | refine List.forall_mem_cons.mpr ⟨rfl, ?_⟩ | exact fun _ h => absurd h List.not_mem_nil)
  exact this w hw
theorem k_nX {args : Array Value} {s : State} (hl : ∀ w ∈ lw_tbl, w.before args s = true) : nX s := by
  have h1 : ∀ C ∈ nAO, Cond.arrayOver (.object C) ∈ lw_tbl := by decide +kernel
  exact fun C hC => va_AO.of (hl _ (h1 C hC))
def adF (adK adV : Nat → Nat) (t b : Nat) : Nat → Nat := fun j => if j < 22 then adK j else if j < 44 then adV (j - 22) else if j = 44 then t else b
theorem k_R {args : Array Value} {s : State} {adK adV : Nat → Nat} {t b : Nat} (hl : ∀ w ∈ lw_tbl, w.before args s = true) (hs : ∀ c ∈ lwF, c.before args s = true) (he : ∀ i : Nat, i < 22 → (tmS i).eval args s none [] s = some (.ref (adK i))) : ∀ q ∈ vstr, vk_R q.1 q.2.1 q.2.2.1 (adF adK adV t b q.2.2.2) s := by
  have h1 : ∀ q ∈ vstr, Cond.stringRef q.1 q.2.1 q.2.2.1 ∈ lw_tbl := by decide +kernel
  have h2 : ∀ q ∈ vstr, q.2.2.2 < 22 ∧ (Term.string q.1 q.2.1 = tmS q.2.2.2 ∨ Cond.eq (tmS q.2.2.2) (Term.string q.1 q.2.1) ∈ lwF) := by decide +kernel
  intro q hq
  obtain ⟨g1, g2⟩ := h2 q hq
  have h3 : adF adK adV t b q.2.2.2 = adK q.2.2.2 := if_pos g1
  rw [h3]
  refine vk_R.of (hl _ (h1 q hq)) ?_
  rcases g2 with g2 | g2
  · rw [g2]
    exact he _ g1
  · exact va_eqR (hs _ g2) (he _ g1)
theorem k_all {args : Array Value} {s : State} {b : Nat} (hl : ∀ w ∈ lw_tbl, w.before args s = true) (hg : (Jvm.Cond.and given_1 narrow_1).before args s = true) : ∃ (D : va_G) (cA : Nat → ClassId) (ad : Nat → Nat), ad 45 = b ∧ vK (nG D cA ad s.heap.size) s := by
  have hs : ∀ c ∈ lwF, c.before args s = true := flat_of_before _ hg
  have hts : ∀ w ∈ vtb, w.before args s = true := vtb_hts hl
  have hA : ∀ a : Nat, a < s.heap.size → ¬ s.heap.size ≤ a := fun a h => Nat.not_le.mpr h
  obtain ⟨D, hD⟩ := k_cls hts
  obtain ⟨cA, hcA⟩ := k_ty hl
  obtain ⟨adK, adV, hS, he⟩ := k_strs (A := fun q => s.heap.size ≤ q) hs hA
  have hZ1 : va_Z "java/lang/String" "COMPACT_STRINGS" "Z" (.int 1) (fun q => s.heap.size ≤ q) s s.heap := va_Zof (hl _ (by decide +kernel)) (hl _ (by decide +kernel)) (va_eqi (hs _ (by decide +kernel))) hA
  have hZ2 : va_Zq "jdk/internal/util/Preconditions" "SIOOBE_FORMATTER" "Ljava/util/function/BiFunction;" (fun q => s.heap.size ≤ q) s s.heap := va_Zqof (hl _ (by decide +kernel)) (hl _ (by decide +kernel)) (hs _ (by decide +kernel)) hA
  obtain ⟨t, ht⟩ : ∃ t : Nat, va_Z "jdk/internal/util/Preconditions" "SIOOBE_FORMATTER" "Ljava/util/function/BiFunction;" .null (fun q => s.heap.size ≤ q) s s.heap ∨ va_Z "jdk/internal/util/Preconditions" "SIOOBE_FORMATTER" "Ljava/util/function/BiFunction;" (.ref t) (fun q => s.heap.size ≤ q) s s.heap := by
    rcases hZ2 with h | ⟨t, h⟩
    · exact ⟨0, Or.inl h⟩
    · exact ⟨t, Or.inr h⟩
  refine ⟨D, cA, adF adK adV t b, rfl, ⟨⟨nG_ok _ _ _ _, Nat.le_refl _⟩, ⟨hD, hcA⟩, k_nest hl, k_R hl hs he, ?_, hZ1, ht⟩⟩
  refine ⟨fun i hi => ?_, fun i j hi hj e => ?_⟩
  · have e1 : adF adK adV t b i = adK i := if_pos hi
    have e2 : adF adK adV t b (22 + i) = adV i := by
      unfold adF
      rw [if_neg (by omega), if_pos (by omega), Nat.add_sub_cancel_left]
    show va_O _ (adF adK adV t b i) _ _ _ ∧ va_OF _ _ _ _ (adF adK adV t b i) _ _ _ ∧ va_OF _ _ _ (.ref (adF adK adV t b (22 + i))) (adF adK adV t b i) _ _ _ ∧ va_T .byte (adF adK adV t b (22 + i)) _ _ _ _ _
    rw [e1, e2]
    exact hS.1 i hi
  · have e1 : adF adK adV t b i = adK i := if_pos hi
    have e2 : adF adK adV t b j = adK j := if_pos hj
    have e3 : adF adK adV t b i = adF adK adV t b j := e
    exact hS.2 i j hi hj (e1.symm.trans (e3.trans e2))
