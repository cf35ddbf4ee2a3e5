/-! the graph at birth: addresses, contents, and what they mean -/
def nOff : Nat → Nat → Nat := fun k x => match k with
  | 0 => 0 | 1 => 1 + 318 * x | 2 => 1 + 318 * x + 1 | 3 => 1 + 318 * x + 2 | 4 => 1 + 318 * x + 3 | 5 => 1 + 318 * x + 4 | 6 => 1 + 318 * x + 5
  | 7 => 1 + 318 * (x / 16) + 6 + 4 * (x % 16) | 8 => 1 + 318 * (x / 16) + 7 + 4 * (x % 16) | 9 => 1 + 318 * (x / 16) + 8 + 4 * (x % 16) | 10 => 1 + 318 * (x / 16) + 9 + 4 * (x % 16)
  | 11 => 1 + 318 * x + 70 | 12 => 1 + 318 * x + 71 | 13 => 1 + 318 * x + 72
  | 14 => 1 + 318 * (x / 49) + 73 + 5 * (x % 49) | 15 => 1 + 318 * (x / 49) + 74 + 5 * (x % 49) | 16 => 1 + 318 * (x / 3 / 49) + 75 + 5 * (x / 3 % 49) + x % 3
  | 17 => 955 | 18 => 956 | 19 => 957 | 20 => 958 | 21 => 959 | 22 => 960 | 23 => 961 | 24 => 962 | 25 => 963 | 26 => 964 | 27 => 965 | 28 => 967 | 29 => 966
  | _ => 0
theorem nOff_1 (x : Nat) : nOff 1 x = 1 + 318 * x := rfl
theorem nOff_2 (x : Nat) : nOff 2 x = 1 + 318 * x + 1 := rfl
theorem nOff_3 (x : Nat) : nOff 3 x = 1 + 318 * x + 2 := rfl
theorem nOff_4 (x : Nat) : nOff 4 x = 1 + 318 * x + 3 := rfl
theorem nOff_5 (x : Nat) : nOff 5 x = 1 + 318 * x + 4 := rfl
theorem nOff_6 (x : Nat) : nOff 6 x = 1 + 318 * x + 5 := rfl
theorem nOff_7 (x : Nat) : nOff 7 x = 1 + 318 * (x / 16) + 6 + 4 * (x % 16) := rfl
theorem nOff_8 (x : Nat) : nOff 8 x = 1 + 318 * (x / 16) + 7 + 4 * (x % 16) := rfl
theorem nOff_9 (x : Nat) : nOff 9 x = 1 + 318 * (x / 16) + 8 + 4 * (x % 16) := rfl
theorem nOff_10 (x : Nat) : nOff 10 x = 1 + 318 * (x / 16) + 9 + 4 * (x % 16) := rfl
theorem nOff_11 (x : Nat) : nOff 11 x = 1 + 318 * x + 70 := rfl
theorem nOff_12 (x : Nat) : nOff 12 x = 1 + 318 * x + 71 := rfl
theorem nOff_13 (x : Nat) : nOff 13 x = 1 + 318 * x + 72 := rfl
theorem nOff_14 (x : Nat) : nOff 14 x = 1 + 318 * (x / 49) + 73 + 5 * (x % 49) := rfl
theorem nOff_15 (x : Nat) : nOff 15 x = 1 + 318 * (x / 49) + 74 + 5 * (x % 49) := rfl
theorem nOff_16 (x : Nat) : nOff 16 x = 1 + 318 * (x / 3 / 49) + 75 + 5 * (x / 3 % 49) + x % 3 := rfl
def nDec (o : Nat) : Nat × Nat :=
  if o = 0 then (0, 0) else
  if o < 955 then
    if (o - 1) % 318 = 0 then (1, (o - 1) / 318) else
    if (o - 1) % 318 < 6 then ((o - 1) % 318 + 1, (o - 1) / 318) else
    if (o - 1) % 318 < 70 then (7 + ((o - 1) % 318 - 6) % 4, 16 * ((o - 1) / 318) + ((o - 1) % 318 - 6) / 4) else
    if (o - 1) % 318 < 73 then ((o - 1) % 318 - 59, (o - 1) / 318) else
    if ((o - 1) % 318 - 73) % 5 = 0 then (14, 49 * ((o - 1) / 318) + ((o - 1) % 318 - 73) / 5) else
    if ((o - 1) % 318 - 73) % 5 = 1 then (15, 49 * ((o - 1) / 318) + ((o - 1) % 318 - 73) / 5) else
    (16, 3 * (49 * ((o - 1) / 318) + ((o - 1) % 318 - 73) / 5) + (((o - 1) % 318 - 73) % 5 - 2))
  else if o = 966 then (29, 0) else if o = 967 then (28, 0) else (o - 938, 0)
theorem nDec_ok : ∀ k, k < 30 → ∀ x, x < vcnt k → nDec (nOff k x) = (k, x) := by decide +kernel
theorem vcnt_hi {k x : Nat} (h : x < vcnt k) : k < 30 := by
  by_cases hk : k < 30
  · exact hk
  · obtain ⟨n, rfl⟩ : ∃ n, k = n + 30 := ⟨k - 30, by omega⟩
    exact absurd h (Nat.not_lt_zero _)
def nG (D : va_G) (cA : Nat → ClassId) (ad : Nat → Nat) (b : Nat) : vG := (D, cA, fun k x => b + nOff k x, ad, b)
theorem nG_ok (D : va_G) (cA : Nat → ClassId) (ad : Nat → Nat) (b : Nat) : vOK (nG D cA ad b) := by
  refine ⟨fun k x k' x' h h' e => ?_, fun k x _ => Nat.le_add_right _ _⟩
  have e1 : nOff k x = nOff k' x' := Nat.add_left_cancel (show b + nOff k x = b + nOff k' x' from e)
  have e2 := (nDec_ok k (vcnt_hi h) x h).symm.trans ((congrArg nDec e1).trans (nDec_ok k' (vcnt_hi h') x' h'))
  exact ⟨congrArg Prod.fst e2, congrArg Prod.snd e2⟩
def P0 : VP := fun k _ => match k with
  | 1 => va_up (fun _ => 0) 4 4
  | 2 => va_up (fun _ => 0) 0 1
  | 4 => va_up (fun _ => 0) (ix 0) 64
  | _ => fun _ => 0
def Q0 : VP := fun k _ => match k with
  | 23 => va_up (va_up (va_up (fun _ => 0) (ix 0) 1) (ix 24) 64) (ix 5) 4
  | _ => fun _ => 0
theorem ga_l {α : Type} {l1 l2 : List α} {i n : Nat} (h : l1.length = n) (hi : i < n) : (l1 ++ l2)[i]? = l1[i]? := List.getElem?_append_left (by omega)
theorem ga_r {α : Type} {l1 l2 : List α} {i n j : Nat} (h : l1.length = n) (hi : i = n + j) : (l1 ++ l2)[i]? = l2[j]? := by
  subst h
  subst hi
  rw [List.getElem?_append_right (Nat.le_add_right _ _), Nat.add_sub_cancel_left]
theorem fm_get {α : Type} {f : Nat → List α} {c : Nat} (h : ∀ j, (f j).length = c) (n : Nat) {i t : Nat} (hi : i < n) (ht : t < c) : ((List.range n).flatMap f)[c * i + t]? = (f i)[t]? := by
  induction n with
  | zero => exact absurd hi (Nat.not_lt_zero _)
  | succ n ih =>
    rw [List.range_succ, List.flatMap_append, List.flatMap_singleton]
    by_cases e : i = n
    · subst e
      exact ga_r (fm_len h i) rfl
    · have h1 : i + 1 ≤ n := by omega
      have h2 : c * (i + 1) ≤ c * n := Nat.mul_le_mul_left c h1
      rw [Nat.mul_succ] at h2
      rw [ga_l (fm_len h n) (by omega)]
      exact ih (by omega)
theorem arr_eq {c : ClassId} {N : Nat} {f f' : Nat → Value} (h : ∀ j, j < N → f j = f' j) : arrV c N f = arrV c N f' := by
  unfold arrV
  congr 1
  exact congrArg Array.ofFn (funext fun j => h j.val j.isLt)
section BORN
variable {g : vG}
theorem b1_a (a j : Nat) (hj : j < 3) : (bX1 g a)[2 + j]? = some eX0 := by
  unfold bX1 lX1
  rw [ga_r (n := 2) (j := 1 * j + 0) rfl (by omega), fm_get (c := 1) (fun _ => rfl) 3 hj (by decide)]
  rfl
theorem b4_f (a k t : Nat) (hk : k < 48) (ht : t < 5) : (bX4 g a)[3 + 5 * k + t]? = (bX1 g (a + (3 + 5 * k)))[t]? := by
  unfold bX4 lX4
  rw [ga_r (n := 3) (j := 5 * k + t) rfl (by omega)]
  exact fm_get (c := 5) (fun _ => le_X1 g _) 48 hk ht
theorem b6_s (a k t : Nat) (hk : k < 16) (ht : t < 4) : (bX6 g a)[5 + 4 * k + t]? = (bX3 g (a + (5 + 4 * k)))[t]? := by
  unfold bX6 lX6
  rw [ga_r (n := 5) (j := 4 * k + t) rfl (by omega)]
  exact fm_get (c := 4) (fun _ => le_X3 g _) 16 hk ht
theorem le2a (o : va_E) (a : Nat) : ([o] ++ bX6 g (a + 1)).length = 70 := by rw [List.length_append, le_X6]; rfl
theorem le2b (o : va_E) (a : Nat) : (([o] ++ bX6 g (a + 1)) ++ bX4 g (a + 70)).length = 313 := by rw [List.length_append, le2a, le_X4]
theorem b2_w (a r : Nat) (hr : r < 69) : (bX2 g a)[1 + r]? = (bX6 g (a + 1))[r]? := by
  unfold bX2
  rw [ga_l (le2b _ a) (by omega), ga_l (le2a _ a) (by omega)]
  exact ga_r (n := 1) rfl rfl
theorem b2_s (a r : Nat) (hr : r < 243) : (bX2 g a)[70 + r]? = (bX4 g (a + 70))[r]? := by
  unfold bX2
  rw [ga_l (le2b _ a) (by omega)]
  exact ga_r (le2a _ a) rfl
theorem b2_b (a r : Nat) : (bX2 g a)[313 + r]? = (bX1 g (a + 313))[r]? := by
  unfold bX2
  exact ga_r (le2b _ a) rfl
/-- frame k of a machine -/
theorem b2_f (a k t : Nat) (hk : k < 49) (ht : t < 5) : (bX2 g a)[73 + 5 * k + t]? = (bX1 g (a + (73 + 5 * k)))[t]? := by
  by_cases h : k < 48
  · rw [show 73 + 5 * k + t = 70 + (3 + 5 * k + t) by omega, b2_s a _ (by omega), b4_f _ k t h ht, show a + 70 + (3 + 5 * k) = a + (73 + 5 * k) by omega]
  · obtain rfl : k = 48 := by omega
    exact b2_b a t
/-- segment s of a machine -/
theorem b2_g (a k t : Nat) (hk : k < 16) (ht : t < 4) : (bX2 g a)[6 + 4 * k + t]? = (bX3 g (a + (6 + 4 * k)))[t]? := by
  rw [show 6 + 4 * k + t = 1 + (5 + 4 * k + t) by omega, b2_w a _ (by omega), b6_s _ k t hk ht, show a + 1 + (5 + 4 * k) = a + (6 + 4 * k) by omega]
def wAll (g : vG) (b : Nat) : List va_E := bX7 g b ++ bX8 g (b + 960)
theorem le7a (o : va_E) (a : Nat) : ([o] ++ bX2 g (a + 1)).length = 319 := by rw [List.length_append, le_X2]; rfl
theorem le7b (o : va_E) (a : Nat) : (([o] ++ bX2 g (a + 1)) ++ bX2 g (a + 319)).length = 637 := by rw [List.length_append, le7a, le_X2]
theorem le7c (o : va_E) (a : Nat) : ((([o] ++ bX2 g (a + 1)) ++ bX2 g (a + 319)) ++ bX2 g (a + 637)).length = 955 := by rw [List.length_append, le7b, le_X2]
theorem wA_t (b r : Nat) (hr : r < 5) : (wAll g b)[955 + r]? = (bX5 g (b + 955))[r]? := by
  unfold wAll
  rw [ga_l (le_X7 g b) (by omega)]
  unfold bX7
  exact ga_r (le7c _ b) rfl
theorem wA_q (b r : Nat) : (wAll g b)[960 + r]? = (bX8 g (b + 960))[r]? := ga_r (le_X7 g b) rfl
theorem wA_m (b m r : Nat) (hm : m < 3) (hr : r < 318) : (wAll g b)[1 + 318 * m + r]? = (bX2 g (b + (1 + 318 * m)))[r]? := by
  unfold wAll
  rw [ga_l (le_X7 g b) (by omega)]
  unfold bX7
  rw [ga_l (le7c _ b) (by omega)]
  obtain rfl | rfl | rfl : m = 0 ∨ m = 1 ∨ m = 2 := by omega
  · rw [ga_l (le7b _ b) (by omega), ga_l (le7a _ b) (by omega)]
    exact ga_r (n := 1) rfl (by omega)
  · rw [ga_l (le7b _ b) (by omega)]
    exact ga_r (le7a _ b) (by omega)
  · exact ga_r (le7b _ b) (by omega)
end BORN
section BORN2
variable {D : va_G} {cA : Nat → ClassId} {ad : Nat → Nat} {b : Nat} {H : Heap}
theorem ref_eq {x y : Nat} (h : x = y) : Value.ref x = Value.ref y := h ▸ rfl
theorem row_at {a t N : Nat} {f f' : Nat → Nat} (h : va_at D vcl (a, nRw (nG D cA ad b) t N N f) H) (he : ∀ j, j < N → f j = f' j) : va_at D vcl (a, vRow (nG D cA ad b) t N f') H := by
  have h1 : H[a]? = some (vp_cell (cA t) (N, .inr (.inr (.inr (.inr (fun j => if j < N then some (f j) else none)))))) := h
  show H[a]? = some (vp_cell (cA t) (N, .inr (.inr (.inr (.inr (fun j => some (f' j)))))))
  rw [h1, vp_cell_q, vp_cell_q]
  refine congrArg some (arr_eq fun j hj => ?_)
  rw [if_pos hj, he j hj]
theorem nv_0 (hw : nW (nG D cA ad b) b (wAll (nG D cA ad b) b) H) (x : Nat) (hx : x < vcnt 0) : va_at D vcl (b + nOff 0 x, venc (nG D cA ad b) (vjn P0 Q0) 0 x) H := by
  have hx2 : x < 1 := hx
  refine hw.2 _ _ ?_
  obtain rfl : x = 0 := by omega
  refine (ga_l (le_X7 (nG D cA ad b) b) (by decide)).trans ?_
  show some _ = some _
  refine congrArg some (congrArg Sum.inr (congrArg (Prod.mk _) ?_))
  show ([_, _, _, _, _, _] : List Value) = [_, _, _, _, _, _]
  refine congr (congrArg List.cons ?_) ?_
  · first | rfl | exact ref_eq (by show _ = b + nOff _ _; simp only [nOff_1, nOff_2, nOff_3, nOff_4, nOff_5, nOff_6, nOff_7, nOff_8, nOff_9, nOff_10, nOff_11, nOff_12, nOff_13, nOff_14, nOff_15, nOff_16] <;> omega)
  refine congr (congrArg List.cons ?_) ?_
  · first | rfl | exact ref_eq (by show _ = b + nOff _ _; simp only [nOff_1, nOff_2, nOff_3, nOff_4, nOff_5, nOff_6, nOff_7, nOff_8, nOff_9, nOff_10, nOff_11, nOff_12, nOff_13, nOff_14, nOff_15, nOff_16] <;> omega)
  refine congr (congrArg List.cons ?_) ?_
  · first | rfl | exact ref_eq (by show _ = b + nOff _ _; simp only [nOff_1, nOff_2, nOff_3, nOff_4, nOff_5, nOff_6, nOff_7, nOff_8, nOff_9, nOff_10, nOff_11, nOff_12, nOff_13, nOff_14, nOff_15, nOff_16] <;> omega)
  refine congr (congrArg List.cons ?_) ?_
  · first | rfl | exact ref_eq (by show _ = b + nOff _ _; simp only [nOff_1, nOff_2, nOff_3, nOff_4, nOff_5, nOff_6, nOff_7, nOff_8, nOff_9, nOff_10, nOff_11, nOff_12, nOff_13, nOff_14, nOff_15, nOff_16] <;> omega)
  refine congr (congrArg List.cons ?_) ?_
  · first | rfl | exact ref_eq (by show _ = b + nOff _ _; simp only [nOff_1, nOff_2, nOff_3, nOff_4, nOff_5, nOff_6, nOff_7, nOff_8, nOff_9, nOff_10, nOff_11, nOff_12, nOff_13, nOff_14, nOff_15, nOff_16] <;> omega)
  refine congr (congrArg List.cons ?_) ?_
  · first | rfl | exact ref_eq (by show _ = b + nOff _ _; simp only [nOff_1, nOff_2, nOff_3, nOff_4, nOff_5, nOff_6, nOff_7, nOff_8, nOff_9, nOff_10, nOff_11, nOff_12, nOff_13, nOff_14, nOff_15, nOff_16] <;> omega)
  rfl
theorem nv_1 (hw : nW (nG D cA ad b) b (wAll (nG D cA ad b) b) H) (x : Nat) (hx : x < vcnt 1) : va_at D vcl (b + nOff 1 x, venc (nG D cA ad b) (vjn P0 Q0) 1 x) H := by
  have hx2 : x < 3 := hx
  refine hw.2 _ _ ?_
  refine (wA_m b x 0 hx2 (by decide)).trans ?_
  refine congrArg some (congrArg Sum.inr (congrArg (Prod.mk _) ?_))
  show ([_, _, _, _, _, _, _, _, _, _, _, _] : List Value) = [_, _, _, _, _, _, _, _, _, _, _, _]
  refine congr (congrArg List.cons ?_) ?_
  · first | rfl | exact ref_eq (by show _ = b + nOff _ _; simp only [nOff_1, nOff_2, nOff_3, nOff_4, nOff_5, nOff_6, nOff_7, nOff_8, nOff_9, nOff_10, nOff_11, nOff_12, nOff_13, nOff_14, nOff_15, nOff_16] <;> omega)
  refine congr (congrArg List.cons ?_) ?_
  · first | rfl | exact ref_eq (by show _ = b + nOff _ _; simp only [nOff_1, nOff_2, nOff_3, nOff_4, nOff_5, nOff_6, nOff_7, nOff_8, nOff_9, nOff_10, nOff_11, nOff_12, nOff_13, nOff_14, nOff_15, nOff_16] <;> omega)
  refine congr (congrArg List.cons ?_) ?_
  · first | rfl | exact ref_eq (by show _ = b + nOff _ _; simp only [nOff_1, nOff_2, nOff_3, nOff_4, nOff_5, nOff_6, nOff_7, nOff_8, nOff_9, nOff_10, nOff_11, nOff_12, nOff_13, nOff_14, nOff_15, nOff_16] <;> omega)
  refine congr (congrArg List.cons ?_) ?_
  · first | rfl | exact ref_eq (by show _ = b + nOff _ _; simp only [nOff_1, nOff_2, nOff_3, nOff_4, nOff_5, nOff_6, nOff_7, nOff_8, nOff_9, nOff_10, nOff_11, nOff_12, nOff_13, nOff_14, nOff_15, nOff_16] <;> omega)
  refine congr (congrArg List.cons ?_) ?_
  · first | rfl | exact ref_eq (by show _ = b + nOff _ _; simp only [nOff_1, nOff_2, nOff_3, nOff_4, nOff_5, nOff_6, nOff_7, nOff_8, nOff_9, nOff_10, nOff_11, nOff_12, nOff_13, nOff_14, nOff_15, nOff_16] <;> omega)
  refine congr (congrArg List.cons ?_) ?_
  · first | rfl | exact ref_eq (by show _ = b + nOff _ _; simp only [nOff_1, nOff_2, nOff_3, nOff_4, nOff_5, nOff_6, nOff_7, nOff_8, nOff_9, nOff_10, nOff_11, nOff_12, nOff_13, nOff_14, nOff_15, nOff_16] <;> omega)
  refine congr (congrArg List.cons ?_) ?_
  · first | rfl | exact ref_eq (by show _ = b + nOff _ _; simp only [nOff_1, nOff_2, nOff_3, nOff_4, nOff_5, nOff_6, nOff_7, nOff_8, nOff_9, nOff_10, nOff_11, nOff_12, nOff_13, nOff_14, nOff_15, nOff_16] <;> omega)
  refine congr (congrArg List.cons ?_) ?_
  · first | rfl | exact ref_eq (by show _ = b + nOff _ _; simp only [nOff_1, nOff_2, nOff_3, nOff_4, nOff_5, nOff_6, nOff_7, nOff_8, nOff_9, nOff_10, nOff_11, nOff_12, nOff_13, nOff_14, nOff_15, nOff_16] <;> omega)
  refine congr (congrArg List.cons ?_) ?_
  · first | rfl | exact ref_eq (by show _ = b + nOff _ _; simp only [nOff_1, nOff_2, nOff_3, nOff_4, nOff_5, nOff_6, nOff_7, nOff_8, nOff_9, nOff_10, nOff_11, nOff_12, nOff_13, nOff_14, nOff_15, nOff_16] <;> omega)
  refine congr (congrArg List.cons ?_) ?_
  · first | rfl | exact ref_eq (by show _ = b + nOff _ _; simp only [nOff_1, nOff_2, nOff_3, nOff_4, nOff_5, nOff_6, nOff_7, nOff_8, nOff_9, nOff_10, nOff_11, nOff_12, nOff_13, nOff_14, nOff_15, nOff_16] <;> omega)
  refine congr (congrArg List.cons ?_) ?_
  · first | rfl | exact ref_eq (by show _ = b + nOff _ _; simp only [nOff_1, nOff_2, nOff_3, nOff_4, nOff_5, nOff_6, nOff_7, nOff_8, nOff_9, nOff_10, nOff_11, nOff_12, nOff_13, nOff_14, nOff_15, nOff_16] <;> omega)
  refine congr (congrArg List.cons ?_) ?_
  · first | rfl | exact ref_eq (by show _ = b + nOff _ _; simp only [nOff_1, nOff_2, nOff_3, nOff_4, nOff_5, nOff_6, nOff_7, nOff_8, nOff_9, nOff_10, nOff_11, nOff_12, nOff_13, nOff_14, nOff_15, nOff_16] <;> omega)
  rfl
theorem nv_2 (hw : nW (nG D cA ad b) b (wAll (nG D cA ad b) b) H) (x : Nat) (hx : x < vcnt 2) : va_at D vcl (b + nOff 2 x, venc (nG D cA ad b) (vjn P0 Q0) 2 x) H := by
  have hx2 : x < 3 := hx
  refine hw.2 _ _ ?_
  refine (wA_m b x (1 + 0) hx2 (by decide)).trans ((b2_w _ 0 (by decide)).trans ?_)
  refine congrArg some (congrArg Sum.inr (congrArg (Prod.mk _) ?_))
  show ([_, _, _, _, _, _, _] : List Value) = [_, _, _, _, _, _, _]
  refine congr (congrArg List.cons ?_) ?_
  · first | rfl | exact ref_eq (by show _ = b + nOff _ _; simp only [nOff_1, nOff_2, nOff_3, nOff_4, nOff_5, nOff_6, nOff_7, nOff_8, nOff_9, nOff_10, nOff_11, nOff_12, nOff_13, nOff_14, nOff_15, nOff_16] <;> omega)
  refine congr (congrArg List.cons ?_) ?_
  · first | rfl | exact ref_eq (by show _ = b + nOff _ _; simp only [nOff_1, nOff_2, nOff_3, nOff_4, nOff_5, nOff_6, nOff_7, nOff_8, nOff_9, nOff_10, nOff_11, nOff_12, nOff_13, nOff_14, nOff_15, nOff_16] <;> omega)
  refine congr (congrArg List.cons ?_) ?_
  · first | rfl | exact ref_eq (by show _ = b + nOff _ _; simp only [nOff_1, nOff_2, nOff_3, nOff_4, nOff_5, nOff_6, nOff_7, nOff_8, nOff_9, nOff_10, nOff_11, nOff_12, nOff_13, nOff_14, nOff_15, nOff_16] <;> omega)
  refine congr (congrArg List.cons ?_) ?_
  · first | rfl | exact ref_eq (by show _ = b + nOff _ _; simp only [nOff_1, nOff_2, nOff_3, nOff_4, nOff_5, nOff_6, nOff_7, nOff_8, nOff_9, nOff_10, nOff_11, nOff_12, nOff_13, nOff_14, nOff_15, nOff_16] <;> omega)
  refine congr (congrArg List.cons ?_) ?_
  · first | rfl | exact ref_eq (by show _ = b + nOff _ _; simp only [nOff_1, nOff_2, nOff_3, nOff_4, nOff_5, nOff_6, nOff_7, nOff_8, nOff_9, nOff_10, nOff_11, nOff_12, nOff_13, nOff_14, nOff_15, nOff_16] <;> omega)
  refine congr (congrArg List.cons ?_) ?_
  · first | rfl | exact ref_eq (by show _ = b + nOff _ _; simp only [nOff_1, nOff_2, nOff_3, nOff_4, nOff_5, nOff_6, nOff_7, nOff_8, nOff_9, nOff_10, nOff_11, nOff_12, nOff_13, nOff_14, nOff_15, nOff_16] <;> omega)
  refine congr (congrArg List.cons ?_) ?_
  · first | rfl | exact ref_eq (by show _ = b + nOff _ _; simp only [nOff_1, nOff_2, nOff_3, nOff_4, nOff_5, nOff_6, nOff_7, nOff_8, nOff_9, nOff_10, nOff_11, nOff_12, nOff_13, nOff_14, nOff_15, nOff_16] <;> omega)
  rfl
theorem nv_3 (hw : nW (nG D cA ad b) b (wAll (nG D cA ad b) b) H) (x : Nat) (hx : x < vcnt 3) : va_at D vcl (b + nOff 3 x, venc (nG D cA ad b) (vjn P0 Q0) 3 x) H := by
  have hx2 : x < 3 := hx
  refine hw.2 _ _ ?_
  refine (wA_m b x (1 + 1) hx2 (by decide)).trans ((b2_w _ 1 (by decide)).trans ?_)
  rfl
theorem nv_4 (hw : nW (nG D cA ad b) b (wAll (nG D cA ad b) b) H) (x : Nat) (hx : x < vcnt 4) : va_at D vcl (b + nOff 4 x, venc (nG D cA ad b) (vjn P0 Q0) 4 x) H := by
  have hx2 : x < 3 := hx
  refine hw.2 _ _ ?_
  refine (wA_m b x (1 + 2) hx2 (by decide)).trans ((b2_w _ 2 (by decide)).trans ?_)
  rfl
theorem nv_5 (hw : nW (nG D cA ad b) b (wAll (nG D cA ad b) b) H) (x : Nat) (hx : x < vcnt 5) : va_at D vcl (b + nOff 5 x, venc (nG D cA ad b) (vjn P0 Q0) 5 x) H := by
  have hx2 : x < 3 := hx
  refine hw.2 _ _ ?_
  refine (wA_m b x (1 + 3) hx2 (by decide)).trans ((b2_w _ 3 (by decide)).trans ?_)
  rfl
theorem nv_6 (hw : nW (nG D cA ad b) b (wAll (nG D cA ad b) b) H) (x : Nat) (hx : x < vcnt 6) : va_at D vcl (b + nOff 6 x, venc (nG D cA ad b) (vjn P0 Q0) 6 x) H := by
  have hx2 : x < 3 := hx
  refine row_at (t := 1) (N := 16) (f := fun j => b + (1 + 318 * x) + 1 + (5 + 4 * j)) (hw.2 _ _ ?_) ?_
  · refine (wA_m b x (1 + 4) hx2 (by decide)).trans ((b2_w _ 4 (by decide)).trans ?_)
    rfl
  · intro j hj
    show _ = b + nOff _ _
    simp only [nOff_1, nOff_2, nOff_3, nOff_4, nOff_5, nOff_6, nOff_7, nOff_8, nOff_9, nOff_10, nOff_11, nOff_12, nOff_13, nOff_14, nOff_15, nOff_16] <;> omega
theorem nv_7 (hw : nW (nG D cA ad b) b (wAll (nG D cA ad b) b) H) (x : Nat) (hx : x < vcnt 7) : va_at D vcl (b + nOff 7 x, venc (nG D cA ad b) (vjn P0 Q0) 7 x) H := by
  have hx2 : x < 48 := hx
  refine hw.2 _ _ ?_
  refine (congrArg (fun i => (wAll (nG D cA ad b) b)[i]?) (show nOff 7 x = 1 + 318 * (x / 16) + (6 + 4 * (x % 16) + 0) by simp only [nOff_1, nOff_2, nOff_3, nOff_4, nOff_5, nOff_6, nOff_7, nOff_8, nOff_9, nOff_10, nOff_11, nOff_12, nOff_13, nOff_14, nOff_15, nOff_16] <;> omega)).trans ((wA_m b (x / 16) _ (by omega) (by omega)).trans ((b2_g _ (x % 16) 0 (by omega) (by decide)).trans ?_))
  refine congrArg some (congrArg Sum.inr (congrArg (Prod.mk _) ?_))
  show ([_, _, _, _, _, _, _, _, _, _, _, _, _] : List Value) = [_, _, _, _, _, _, _, _, _, _, _, _, _]
  refine congr (congrArg List.cons ?_) ?_
  · first | rfl | exact ref_eq (by show _ = b + nOff _ _; simp only [nOff_1, nOff_2, nOff_3, nOff_4, nOff_5, nOff_6, nOff_7, nOff_8, nOff_9, nOff_10, nOff_11, nOff_12, nOff_13, nOff_14, nOff_15, nOff_16] <;> omega)
  refine congr (congrArg List.cons ?_) ?_
  · first | rfl | exact ref_eq (by show _ = b + nOff _ _; simp only [nOff_1, nOff_2, nOff_3, nOff_4, nOff_5, nOff_6, nOff_7, nOff_8, nOff_9, nOff_10, nOff_11, nOff_12, nOff_13, nOff_14, nOff_15, nOff_16] <;> omega)
  refine congr (congrArg List.cons ?_) ?_
  · first | rfl | exact ref_eq (by show _ = b + nOff _ _; simp only [nOff_1, nOff_2, nOff_3, nOff_4, nOff_5, nOff_6, nOff_7, nOff_8, nOff_9, nOff_10, nOff_11, nOff_12, nOff_13, nOff_14, nOff_15, nOff_16] <;> omega)
  refine congr (congrArg List.cons ?_) ?_
  · first | rfl | exact ref_eq (by show _ = b + nOff _ _; simp only [nOff_1, nOff_2, nOff_3, nOff_4, nOff_5, nOff_6, nOff_7, nOff_8, nOff_9, nOff_10, nOff_11, nOff_12, nOff_13, nOff_14, nOff_15, nOff_16] <;> omega)
  refine congr (congrArg List.cons ?_) ?_
  · first | rfl | exact ref_eq (by show _ = b + nOff _ _; simp only [nOff_1, nOff_2, nOff_3, nOff_4, nOff_5, nOff_6, nOff_7, nOff_8, nOff_9, nOff_10, nOff_11, nOff_12, nOff_13, nOff_14, nOff_15, nOff_16] <;> omega)
  refine congr (congrArg List.cons ?_) ?_
  · first | rfl | exact ref_eq (by show _ = b + nOff _ _; simp only [nOff_1, nOff_2, nOff_3, nOff_4, nOff_5, nOff_6, nOff_7, nOff_8, nOff_9, nOff_10, nOff_11, nOff_12, nOff_13, nOff_14, nOff_15, nOff_16] <;> omega)
  refine congr (congrArg List.cons ?_) ?_
  · first | rfl | exact ref_eq (by show _ = b + nOff _ _; simp only [nOff_1, nOff_2, nOff_3, nOff_4, nOff_5, nOff_6, nOff_7, nOff_8, nOff_9, nOff_10, nOff_11, nOff_12, nOff_13, nOff_14, nOff_15, nOff_16] <;> omega)
  refine congr (congrArg List.cons ?_) ?_
  · first | rfl | exact ref_eq (by show _ = b + nOff _ _; simp only [nOff_1, nOff_2, nOff_3, nOff_4, nOff_5, nOff_6, nOff_7, nOff_8, nOff_9, nOff_10, nOff_11, nOff_12, nOff_13, nOff_14, nOff_15, nOff_16] <;> omega)
  refine congr (congrArg List.cons ?_) ?_
  · first | rfl | exact ref_eq (by show _ = b + nOff _ _; simp only [nOff_1, nOff_2, nOff_3, nOff_4, nOff_5, nOff_6, nOff_7, nOff_8, nOff_9, nOff_10, nOff_11, nOff_12, nOff_13, nOff_14, nOff_15, nOff_16] <;> omega)
  refine congr (congrArg List.cons ?_) ?_
  · first | rfl | exact ref_eq (by show _ = b + nOff _ _; simp only [nOff_1, nOff_2, nOff_3, nOff_4, nOff_5, nOff_6, nOff_7, nOff_8, nOff_9, nOff_10, nOff_11, nOff_12, nOff_13, nOff_14, nOff_15, nOff_16] <;> omega)
  refine congr (congrArg List.cons ?_) ?_
  · first | rfl | exact ref_eq (by show _ = b + nOff _ _; simp only [nOff_1, nOff_2, nOff_3, nOff_4, nOff_5, nOff_6, nOff_7, nOff_8, nOff_9, nOff_10, nOff_11, nOff_12, nOff_13, nOff_14, nOff_15, nOff_16] <;> omega)
  refine congr (congrArg List.cons ?_) ?_
  · first | rfl | exact ref_eq (by show _ = b + nOff _ _; simp only [nOff_1, nOff_2, nOff_3, nOff_4, nOff_5, nOff_6, nOff_7, nOff_8, nOff_9, nOff_10, nOff_11, nOff_12, nOff_13, nOff_14, nOff_15, nOff_16] <;> omega)
  refine congr (congrArg List.cons ?_) ?_
  · first | rfl | exact ref_eq (by show _ = b + nOff _ _; simp only [nOff_1, nOff_2, nOff_3, nOff_4, nOff_5, nOff_6, nOff_7, nOff_8, nOff_9, nOff_10, nOff_11, nOff_12, nOff_13, nOff_14, nOff_15, nOff_16] <;> omega)
  rfl
theorem nv_8 (hw : nW (nG D cA ad b) b (wAll (nG D cA ad b) b) H) (x : Nat) (hx : x < vcnt 8) : va_at D vcl (b + nOff 8 x, venc (nG D cA ad b) (vjn P0 Q0) 8 x) H := by
  have hx2 : x < 48 := hx
  refine hw.2 _ _ ?_
  refine (congrArg (fun i => (wAll (nG D cA ad b) b)[i]?) (show nOff 8 x = 1 + 318 * (x / 16) + (6 + 4 * (x % 16) + 1) by simp only [nOff_1, nOff_2, nOff_3, nOff_4, nOff_5, nOff_6, nOff_7, nOff_8, nOff_9, nOff_10, nOff_11, nOff_12, nOff_13, nOff_14, nOff_15, nOff_16] <;> omega)).trans ((wA_m b (x / 16) _ (by omega) (by omega)).trans ((b2_g _ (x % 16) 1 (by omega) (by decide)).trans ?_))
  rfl
theorem nv_9 (hw : nW (nG D cA ad b) b (wAll (nG D cA ad b) b) H) (x : Nat) (hx : x < vcnt 9) : va_at D vcl (b + nOff 9 x, venc (nG D cA ad b) (vjn P0 Q0) 9 x) H := by
  have hx2 : x < 48 := hx
  refine hw.2 _ _ ?_
  refine (congrArg (fun i => (wAll (nG D cA ad b) b)[i]?) (show nOff 9 x = 1 + 318 * (x / 16) + (6 + 4 * (x % 16) + 2) by simp only [nOff_1, nOff_2, nOff_3, nOff_4, nOff_5, nOff_6, nOff_7, nOff_8, nOff_9, nOff_10, nOff_11, nOff_12, nOff_13, nOff_14, nOff_15, nOff_16] <;> omega)).trans ((wA_m b (x / 16) _ (by omega) (by omega)).trans ((b2_g _ (x % 16) 2 (by omega) (by decide)).trans ?_))
  rfl
theorem nv_10 (hw : nW (nG D cA ad b) b (wAll (nG D cA ad b) b) H) (x : Nat) (hx : x < vcnt 10) : va_at D vcl (b + nOff 10 x, venc (nG D cA ad b) (vjn P0 Q0) 10 x) H := by
  have hx2 : x < 48 := hx
  refine hw.2 _ _ ?_
  refine (congrArg (fun i => (wAll (nG D cA ad b) b)[i]?) (show nOff 10 x = 1 + 318 * (x / 16) + (6 + 4 * (x % 16) + 3) by simp only [nOff_1, nOff_2, nOff_3, nOff_4, nOff_5, nOff_6, nOff_7, nOff_8, nOff_9, nOff_10, nOff_11, nOff_12, nOff_13, nOff_14, nOff_15, nOff_16] <;> omega)).trans ((wA_m b (x / 16) _ (by omega) (by omega)).trans ((b2_g _ (x % 16) 3 (by omega) (by decide)).trans ?_))
  rfl
theorem nv_11 (hw : nW (nG D cA ad b) b (wAll (nG D cA ad b) b) H) (x : Nat) (hx : x < vcnt 11) : va_at D vcl (b + nOff 11 x, venc (nG D cA ad b) (vjn P0 Q0) 11 x) H := by
  have hx2 : x < 3 := hx
  refine hw.2 _ _ ?_
  refine (wA_m b x (70 + 0) hx2 (by decide)).trans ((b2_s _ 0 (by decide)).trans ?_)
  refine congrArg some (congrArg Sum.inr (congrArg (Prod.mk _) ?_))
  show ([_, _] : List Value) = [_, _]
  refine congr (congrArg List.cons ?_) ?_
  · first | rfl | exact ref_eq (by show _ = b + nOff _ _; simp only [nOff_1, nOff_2, nOff_3, nOff_4, nOff_5, nOff_6, nOff_7, nOff_8, nOff_9, nOff_10, nOff_11, nOff_12, nOff_13, nOff_14, nOff_15, nOff_16] <;> omega)
  refine congr (congrArg List.cons ?_) ?_
  · first | rfl | exact ref_eq (by show _ = b + nOff _ _; simp only [nOff_1, nOff_2, nOff_3, nOff_4, nOff_5, nOff_6, nOff_7, nOff_8, nOff_9, nOff_10, nOff_11, nOff_12, nOff_13, nOff_14, nOff_15, nOff_16] <;> omega)
  rfl
theorem nv_12 (hw : nW (nG D cA ad b) b (wAll (nG D cA ad b) b) H) (x : Nat) (hx : x < vcnt 12) : va_at D vcl (b + nOff 12 x, venc (nG D cA ad b) (vjn P0 Q0) 12 x) H := by
  have hx2 : x < 3 := hx
  refine hw.2 _ _ ?_
  refine (wA_m b x (70 + 1) hx2 (by decide)).trans ((b2_s _ 1 (by decide)).trans ?_)
  rfl
theorem nv_13 (hw : nW (nG D cA ad b) b (wAll (nG D cA ad b) b) H) (x : Nat) (hx : x < vcnt 13) : va_at D vcl (b + nOff 13 x, venc (nG D cA ad b) (vjn P0 Q0) 13 x) H := by
  have hx2 : x < 3 := hx
  refine row_at (t := 2) (N := 48) (f := fun j => b + (1 + 318 * x) + 70 + (3 + 5 * j)) (hw.2 _ _ ?_) ?_
  · refine (wA_m b x (70 + 2) hx2 (by decide)).trans ((b2_s _ 2 (by decide)).trans ?_)
    rfl
  · intro j hj
    show _ = b + nOff _ _
    simp only [nOff_1, nOff_2, nOff_3, nOff_4, nOff_5, nOff_6, nOff_7, nOff_8, nOff_9, nOff_10, nOff_11, nOff_12, nOff_13, nOff_14, nOff_15, nOff_16] <;> omega
theorem nv_14 (hw : nW (nG D cA ad b) b (wAll (nG D cA ad b) b) H) (x : Nat) (hx : x < vcnt 14) : va_at D vcl (b + nOff 14 x, venc (nG D cA ad b) (vjn P0 Q0) 14 x) H := by
  have hx2 : x < 147 := hx
  refine hw.2 _ _ ?_
  refine (congrArg (fun i => (wAll (nG D cA ad b) b)[i]?) (show nOff 14 x = 1 + 318 * (x / 49) + (73 + 5 * (x % 49) + 0) by simp only [nOff_1, nOff_2, nOff_3, nOff_4, nOff_5, nOff_6, nOff_7, nOff_8, nOff_9, nOff_10, nOff_11, nOff_12, nOff_13, nOff_14, nOff_15, nOff_16] <;> omega)).trans ((wA_m b (x / 49) _ (by omega) (by omega)).trans ((b2_f _ (x % 49) 0 (by omega) (by decide)).trans ?_))
  refine congrArg some (congrArg Sum.inr (congrArg (Prod.mk _) ?_))
  show ([_, _, _, _, _, _] : List Value) = [_, _, _, _, _, _]
  refine congr (congrArg List.cons ?_) ?_
  · first | rfl | exact ref_eq (by show _ = b + nOff _ _; simp only [nOff_1, nOff_2, nOff_3, nOff_4, nOff_5, nOff_6, nOff_7, nOff_8, nOff_9, nOff_10, nOff_11, nOff_12, nOff_13, nOff_14, nOff_15, nOff_16] <;> omega)
  refine congr (congrArg List.cons ?_) ?_
  · first | rfl | exact ref_eq (by show _ = b + nOff _ _; simp only [nOff_1, nOff_2, nOff_3, nOff_4, nOff_5, nOff_6, nOff_7, nOff_8, nOff_9, nOff_10, nOff_11, nOff_12, nOff_13, nOff_14, nOff_15, nOff_16] <;> omega)
  refine congr (congrArg List.cons ?_) ?_
  · first | rfl | exact ref_eq (by show _ = b + nOff _ _; simp only [nOff_1, nOff_2, nOff_3, nOff_4, nOff_5, nOff_6, nOff_7, nOff_8, nOff_9, nOff_10, nOff_11, nOff_12, nOff_13, nOff_14, nOff_15, nOff_16] <;> omega)
  refine congr (congrArg List.cons ?_) ?_
  · first | rfl | exact ref_eq (by show _ = b + nOff _ _; simp only [nOff_1, nOff_2, nOff_3, nOff_4, nOff_5, nOff_6, nOff_7, nOff_8, nOff_9, nOff_10, nOff_11, nOff_12, nOff_13, nOff_14, nOff_15, nOff_16] <;> omega)
  refine congr (congrArg List.cons ?_) ?_
  · first | rfl | exact ref_eq (by show _ = b + nOff _ _; simp only [nOff_1, nOff_2, nOff_3, nOff_4, nOff_5, nOff_6, nOff_7, nOff_8, nOff_9, nOff_10, nOff_11, nOff_12, nOff_13, nOff_14, nOff_15, nOff_16] <;> omega)
  refine congr (congrArg List.cons ?_) ?_
  · first | rfl | exact ref_eq (by show _ = b + nOff _ _; simp only [nOff_1, nOff_2, nOff_3, nOff_4, nOff_5, nOff_6, nOff_7, nOff_8, nOff_9, nOff_10, nOff_11, nOff_12, nOff_13, nOff_14, nOff_15, nOff_16] <;> omega)
  rfl
theorem nv_15 (hw : nW (nG D cA ad b) b (wAll (nG D cA ad b) b) H) (x : Nat) (hx : x < vcnt 15) : va_at D vcl (b + nOff 15 x, venc (nG D cA ad b) (vjn P0 Q0) 15 x) H := by
  have hx2 : x < 147 := hx
  refine row_at (t := 3) (N := 3) (f := fun j => b + (1 + 318 * (x / 49)) + (73 + 5 * (x % 49)) + (2 + j)) (hw.2 _ _ ?_) ?_
  · refine (congrArg (fun i => (wAll (nG D cA ad b) b)[i]?) (show nOff 15 x = 1 + 318 * (x / 49) + (73 + 5 * (x % 49) + 1) by simp only [nOff_1, nOff_2, nOff_3, nOff_4, nOff_5, nOff_6, nOff_7, nOff_8, nOff_9, nOff_10, nOff_11, nOff_12, nOff_13, nOff_14, nOff_15, nOff_16] <;> omega)).trans ((wA_m b (x / 49) _ (by omega) (by omega)).trans ((b2_f _ (x % 49) 1 (by omega) (by decide)).trans ?_))
    rfl
  · intro j hj
    show _ = b + nOff _ _
    simp only [nOff_1, nOff_2, nOff_3, nOff_4, nOff_5, nOff_6, nOff_7, nOff_8, nOff_9, nOff_10, nOff_11, nOff_12, nOff_13, nOff_14, nOff_15, nOff_16] <;> omega
theorem nv_16 (hw : nW (nG D cA ad b) b (wAll (nG D cA ad b) b) H) (x : Nat) (hx : x < vcnt 16) : va_at D vcl (b + nOff 16 x, venc (nG D cA ad b) (vjn P0 Q0) 16 x) H := by
  have hx2 : x < 441 := hx
  refine hw.2 _ _ ?_
  refine (congrArg (fun i => (wAll (nG D cA ad b) b)[i]?) (show nOff 16 x = 1 + 318 * (x / 3 / 49) + (73 + 5 * (x / 3 % 49) + (2 + x % 3)) by simp only [nOff_1, nOff_2, nOff_3, nOff_4, nOff_5, nOff_6, nOff_7, nOff_8, nOff_9, nOff_10, nOff_11, nOff_12, nOff_13, nOff_14, nOff_15, nOff_16] <;> omega)).trans ((wA_m b (x / 3 / 49) _ (by omega) (by omega)).trans ((b2_f _ (x / 3 % 49) (2 + x % 3) (by omega) (by omega)).trans ((b1_a _ _ (by omega)).trans ?_)))
  refine congrArg some (congrArg Sum.inr (congrArg (Prod.mk _) ?_))
  show ([_, _, _, _, _] : List Value) = [_, _, _, _, _]
  refine congr (congrArg List.cons ?_) ?_
  · first | rfl | exact ref_eq (by show _ = b + nOff _ _; simp only [nOff_1, nOff_2, nOff_3, nOff_4, nOff_5, nOff_6, nOff_7, nOff_8, nOff_9, nOff_10, nOff_11, nOff_12, nOff_13, nOff_14, nOff_15, nOff_16] <;> omega)
  refine congr (congrArg List.cons ?_) ?_
  · first | rfl | exact ref_eq (by show _ = b + nOff _ _; simp only [nOff_1, nOff_2, nOff_3, nOff_4, nOff_5, nOff_6, nOff_7, nOff_8, nOff_9, nOff_10, nOff_11, nOff_12, nOff_13, nOff_14, nOff_15, nOff_16] <;> omega)
  refine congr (congrArg List.cons ?_) ?_
  · first | rfl | exact ref_eq (by show _ = b + nOff _ _; simp only [nOff_1, nOff_2, nOff_3, nOff_4, nOff_5, nOff_6, nOff_7, nOff_8, nOff_9, nOff_10, nOff_11, nOff_12, nOff_13, nOff_14, nOff_15, nOff_16] <;> omega)
  refine congr (congrArg List.cons ?_) ?_
  · first | rfl | exact ref_eq (by show _ = b + nOff _ _; simp only [nOff_1, nOff_2, nOff_3, nOff_4, nOff_5, nOff_6, nOff_7, nOff_8, nOff_9, nOff_10, nOff_11, nOff_12, nOff_13, nOff_14, nOff_15, nOff_16] <;> omega)
  refine congr (congrArg List.cons ?_) ?_
  · first | rfl | exact ref_eq (by show _ = b + nOff _ _; simp only [nOff_1, nOff_2, nOff_3, nOff_4, nOff_5, nOff_6, nOff_7, nOff_8, nOff_9, nOff_10, nOff_11, nOff_12, nOff_13, nOff_14, nOff_15, nOff_16] <;> omega)
  rfl
theorem nv_17 (hw : nW (nG D cA ad b) b (wAll (nG D cA ad b) b) H) (x : Nat) (hx : x < vcnt 17) : va_at D vcl (b + nOff 17 x, venc (nG D cA ad b) (vjn P0 Q0) 17 x) H := by
  have hx2 : x < 1 := hx
  refine hw.2 _ _ ?_
  obtain rfl : x = 0 := by omega
  refine (wA_t b 0 (by decide)).trans ?_
  refine congrArg some (congrArg Sum.inr (congrArg (Prod.mk _) ?_))
  show ([_, _, _, _, _, _, _, _] : List Value) = [_, _, _, _, _, _, _, _]
  refine congr (congrArg List.cons ?_) ?_
  · first | rfl | exact ref_eq (by show _ = b + nOff _ _; simp only [nOff_1, nOff_2, nOff_3, nOff_4, nOff_5, nOff_6, nOff_7, nOff_8, nOff_9, nOff_10, nOff_11, nOff_12, nOff_13, nOff_14, nOff_15, nOff_16] <;> omega)
  refine congr (congrArg List.cons ?_) ?_
  · first | rfl | exact ref_eq (by show _ = b + nOff _ _; simp only [nOff_1, nOff_2, nOff_3, nOff_4, nOff_5, nOff_6, nOff_7, nOff_8, nOff_9, nOff_10, nOff_11, nOff_12, nOff_13, nOff_14, nOff_15, nOff_16] <;> omega)
  refine congr (congrArg List.cons ?_) ?_
  · first | rfl | exact ref_eq (by show _ = b + nOff _ _; simp only [nOff_1, nOff_2, nOff_3, nOff_4, nOff_5, nOff_6, nOff_7, nOff_8, nOff_9, nOff_10, nOff_11, nOff_12, nOff_13, nOff_14, nOff_15, nOff_16] <;> omega)
  refine congr (congrArg List.cons ?_) ?_
  · first | rfl | exact ref_eq (by show _ = b + nOff _ _; simp only [nOff_1, nOff_2, nOff_3, nOff_4, nOff_5, nOff_6, nOff_7, nOff_8, nOff_9, nOff_10, nOff_11, nOff_12, nOff_13, nOff_14, nOff_15, nOff_16] <;> omega)
  refine congr (congrArg List.cons ?_) ?_
  · first | rfl | exact ref_eq (by show _ = b + nOff _ _; simp only [nOff_1, nOff_2, nOff_3, nOff_4, nOff_5, nOff_6, nOff_7, nOff_8, nOff_9, nOff_10, nOff_11, nOff_12, nOff_13, nOff_14, nOff_15, nOff_16] <;> omega)
  refine congr (congrArg List.cons ?_) ?_
  · first | rfl | exact ref_eq (by show _ = b + nOff _ _; simp only [nOff_1, nOff_2, nOff_3, nOff_4, nOff_5, nOff_6, nOff_7, nOff_8, nOff_9, nOff_10, nOff_11, nOff_12, nOff_13, nOff_14, nOff_15, nOff_16] <;> omega)
  refine congr (congrArg List.cons ?_) ?_
  · first | rfl | exact ref_eq (by show _ = b + nOff _ _; simp only [nOff_1, nOff_2, nOff_3, nOff_4, nOff_5, nOff_6, nOff_7, nOff_8, nOff_9, nOff_10, nOff_11, nOff_12, nOff_13, nOff_14, nOff_15, nOff_16] <;> omega)
  refine congr (congrArg List.cons ?_) ?_
  · first | rfl | exact ref_eq (by show _ = b + nOff _ _; simp only [nOff_1, nOff_2, nOff_3, nOff_4, nOff_5, nOff_6, nOff_7, nOff_8, nOff_9, nOff_10, nOff_11, nOff_12, nOff_13, nOff_14, nOff_15, nOff_16] <;> omega)
  rfl
theorem nv_18 (hw : nW (nG D cA ad b) b (wAll (nG D cA ad b) b) H) (x : Nat) (hx : x < vcnt 18) : va_at D vcl (b + nOff 18 x, venc (nG D cA ad b) (vjn P0 Q0) 18 x) H := by
  have hx2 : x < 1 := hx
  refine hw.2 _ _ ?_
  obtain rfl : x = 0 := by omega
  refine (wA_t b 1 (by decide)).trans ?_
  rfl
theorem nv_19 (hw : nW (nG D cA ad b) b (wAll (nG D cA ad b) b) H) (x : Nat) (hx : x < vcnt 19) : va_at D vcl (b + nOff 19 x, venc (nG D cA ad b) (vjn P0 Q0) 19 x) H := by
  have hx2 : x < 1 := hx
  refine hw.2 _ _ ?_
  obtain rfl : x = 0 := by omega
  refine (wA_t b 2 (by decide)).trans ?_
  rfl
theorem nv_20 (hw : nW (nG D cA ad b) b (wAll (nG D cA ad b) b) H) (x : Nat) (hx : x < vcnt 20) : va_at D vcl (b + nOff 20 x, venc (nG D cA ad b) (vjn P0 Q0) 20 x) H := by
  have hx2 : x < 1 := hx
  refine hw.2 _ _ ?_
  obtain rfl : x = 0 := by omega
  refine (wA_t b 3 (by decide)).trans ?_
  rfl
theorem nv_21 (hw : nW (nG D cA ad b) b (wAll (nG D cA ad b) b) H) (x : Nat) (hx : x < vcnt 21) : va_at D vcl (b + nOff 21 x, venc (nG D cA ad b) (vjn P0 Q0) 21 x) H := by
  have hx2 : x < 1 := hx
  refine hw.2 _ _ ?_
  obtain rfl : x = 0 := by omega
  refine (wA_t b 4 (by decide)).trans ?_
  rfl
theorem nv_22 (hw : nW (nG D cA ad b) b (wAll (nG D cA ad b) b) H) (x : Nat) (hx : x < vcnt 22) : va_at D vcl (b + nOff 22 x, venc (nG D cA ad b) (vjn P0 Q0) 22 x) H := by
  have hx2 : x < 1 := hx
  refine hw.2 _ _ ?_
  obtain rfl : x = 0 := by omega
  refine (wA_q b 0).trans ?_
  refine congrArg some (congrArg Sum.inr (congrArg (Prod.mk _) ?_))
  show ([_, _, _, _, _, _, _, _, _, _, _, _, _, _, _, _, _, _] : List Value) = [_, _, _, _, _, _, _, _, _, _, _, _, _, _, _, _, _, _]
  refine congr (congrArg List.cons ?_) ?_
  · first | rfl | exact ref_eq (by show _ = b + nOff _ _; simp only [nOff_1, nOff_2, nOff_3, nOff_4, nOff_5, nOff_6, nOff_7, nOff_8, nOff_9, nOff_10, nOff_11, nOff_12, nOff_13, nOff_14, nOff_15, nOff_16] <;> omega)
  refine congr (congrArg List.cons ?_) ?_
  · first | rfl | exact ref_eq (by show _ = b + nOff _ _; simp only [nOff_1, nOff_2, nOff_3, nOff_4, nOff_5, nOff_6, nOff_7, nOff_8, nOff_9, nOff_10, nOff_11, nOff_12, nOff_13, nOff_14, nOff_15, nOff_16] <;> omega)
  refine congr (congrArg List.cons ?_) ?_
  · first | rfl | exact ref_eq (by show _ = b + nOff _ _; simp only [nOff_1, nOff_2, nOff_3, nOff_4, nOff_5, nOff_6, nOff_7, nOff_8, nOff_9, nOff_10, nOff_11, nOff_12, nOff_13, nOff_14, nOff_15, nOff_16] <;> omega)
  refine congr (congrArg List.cons ?_) ?_
  · first | rfl | exact ref_eq (by show _ = b + nOff _ _; simp only [nOff_1, nOff_2, nOff_3, nOff_4, nOff_5, nOff_6, nOff_7, nOff_8, nOff_9, nOff_10, nOff_11, nOff_12, nOff_13, nOff_14, nOff_15, nOff_16] <;> omega)
  refine congr (congrArg List.cons ?_) ?_
  · first | rfl | exact ref_eq (by show _ = b + nOff _ _; simp only [nOff_1, nOff_2, nOff_3, nOff_4, nOff_5, nOff_6, nOff_7, nOff_8, nOff_9, nOff_10, nOff_11, nOff_12, nOff_13, nOff_14, nOff_15, nOff_16] <;> omega)
  refine congr (congrArg List.cons ?_) ?_
  · first | rfl | exact ref_eq (by show _ = b + nOff _ _; simp only [nOff_1, nOff_2, nOff_3, nOff_4, nOff_5, nOff_6, nOff_7, nOff_8, nOff_9, nOff_10, nOff_11, nOff_12, nOff_13, nOff_14, nOff_15, nOff_16] <;> omega)
  refine congr (congrArg List.cons ?_) ?_
  · first | rfl | exact ref_eq (by show _ = b + nOff _ _; simp only [nOff_1, nOff_2, nOff_3, nOff_4, nOff_5, nOff_6, nOff_7, nOff_8, nOff_9, nOff_10, nOff_11, nOff_12, nOff_13, nOff_14, nOff_15, nOff_16] <;> omega)
  refine congr (congrArg List.cons ?_) ?_
  · first | rfl | exact ref_eq (by show _ = b + nOff _ _; simp only [nOff_1, nOff_2, nOff_3, nOff_4, nOff_5, nOff_6, nOff_7, nOff_8, nOff_9, nOff_10, nOff_11, nOff_12, nOff_13, nOff_14, nOff_15, nOff_16] <;> omega)
  refine congr (congrArg List.cons ?_) ?_
  · first | rfl | exact ref_eq (by show _ = b + nOff _ _; simp only [nOff_1, nOff_2, nOff_3, nOff_4, nOff_5, nOff_6, nOff_7, nOff_8, nOff_9, nOff_10, nOff_11, nOff_12, nOff_13, nOff_14, nOff_15, nOff_16] <;> omega)
  refine congr (congrArg List.cons ?_) ?_
  · first | rfl | exact ref_eq (by show _ = b + nOff _ _; simp only [nOff_1, nOff_2, nOff_3, nOff_4, nOff_5, nOff_6, nOff_7, nOff_8, nOff_9, nOff_10, nOff_11, nOff_12, nOff_13, nOff_14, nOff_15, nOff_16] <;> omega)
  refine congr (congrArg List.cons ?_) ?_
  · first | rfl | exact ref_eq (by show _ = b + nOff _ _; simp only [nOff_1, nOff_2, nOff_3, nOff_4, nOff_5, nOff_6, nOff_7, nOff_8, nOff_9, nOff_10, nOff_11, nOff_12, nOff_13, nOff_14, nOff_15, nOff_16] <;> omega)
  refine congr (congrArg List.cons ?_) ?_
  · first | rfl | exact ref_eq (by show _ = b + nOff _ _; simp only [nOff_1, nOff_2, nOff_3, nOff_4, nOff_5, nOff_6, nOff_7, nOff_8, nOff_9, nOff_10, nOff_11, nOff_12, nOff_13, nOff_14, nOff_15, nOff_16] <;> omega)
  refine congr (congrArg List.cons ?_) ?_
  · first | rfl | exact ref_eq (by show _ = b + nOff _ _; simp only [nOff_1, nOff_2, nOff_3, nOff_4, nOff_5, nOff_6, nOff_7, nOff_8, nOff_9, nOff_10, nOff_11, nOff_12, nOff_13, nOff_14, nOff_15, nOff_16] <;> omega)
  refine congr (congrArg List.cons ?_) ?_
  · first | rfl | exact ref_eq (by show _ = b + nOff _ _; simp only [nOff_1, nOff_2, nOff_3, nOff_4, nOff_5, nOff_6, nOff_7, nOff_8, nOff_9, nOff_10, nOff_11, nOff_12, nOff_13, nOff_14, nOff_15, nOff_16] <;> omega)
  refine congr (congrArg List.cons ?_) ?_
  · first | rfl | exact ref_eq (by show _ = b + nOff _ _; simp only [nOff_1, nOff_2, nOff_3, nOff_4, nOff_5, nOff_6, nOff_7, nOff_8, nOff_9, nOff_10, nOff_11, nOff_12, nOff_13, nOff_14, nOff_15, nOff_16] <;> omega)
  refine congr (congrArg List.cons ?_) ?_
  · first | rfl | exact ref_eq (by show _ = b + nOff _ _; simp only [nOff_1, nOff_2, nOff_3, nOff_4, nOff_5, nOff_6, nOff_7, nOff_8, nOff_9, nOff_10, nOff_11, nOff_12, nOff_13, nOff_14, nOff_15, nOff_16] <;> omega)
  refine congr (congrArg List.cons ?_) ?_
  · first | rfl | exact ref_eq (by show _ = b + nOff _ _; simp only [nOff_1, nOff_2, nOff_3, nOff_4, nOff_5, nOff_6, nOff_7, nOff_8, nOff_9, nOff_10, nOff_11, nOff_12, nOff_13, nOff_14, nOff_15, nOff_16] <;> omega)
  refine congr (congrArg List.cons ?_) ?_
  · first | rfl | exact ref_eq (by show _ = b + nOff _ _; simp only [nOff_1, nOff_2, nOff_3, nOff_4, nOff_5, nOff_6, nOff_7, nOff_8, nOff_9, nOff_10, nOff_11, nOff_12, nOff_13, nOff_14, nOff_15, nOff_16] <;> omega)
  rfl
theorem nv_23 (hw : nW (nG D cA ad b) b (wAll (nG D cA ad b) b) H) (x : Nat) (hx : x < vcnt 23) : va_at D vcl (b + nOff 23 x, venc (nG D cA ad b) (vjn P0 Q0) 23 x) H := by
  have hx2 : x < 1 := hx
  refine hw.2 _ _ ?_
  obtain rfl : x = 0 := by omega
  refine (wA_q b 1).trans ?_
  rfl
theorem nv_24 (hw : nW (nG D cA ad b) b (wAll (nG D cA ad b) b) H) (x : Nat) (hx : x < vcnt 24) : va_at D vcl (b + nOff 24 x, venc (nG D cA ad b) (vjn P0 Q0) 24 x) H := by
  have hx2 : x < 1 := hx
  refine hw.2 _ _ ?_
  obtain rfl : x = 0 := by omega
  refine (wA_q b 2).trans ?_
  rfl
theorem nv_25 (hw : nW (nG D cA ad b) b (wAll (nG D cA ad b) b) H) (x : Nat) (hx : x < vcnt 25) : va_at D vcl (b + nOff 25 x, venc (nG D cA ad b) (vjn P0 Q0) 25 x) H := by
  have hx2 : x < 1 := hx
  refine hw.2 _ _ ?_
  obtain rfl : x = 0 := by omega
  refine (wA_q b 3).trans ?_
  rfl
theorem nv_26 (hw : nW (nG D cA ad b) b (wAll (nG D cA ad b) b) H) (x : Nat) (hx : x < vcnt 26) : va_at D vcl (b + nOff 26 x, venc (nG D cA ad b) (vjn P0 Q0) 26 x) H := by
  have hx2 : x < 1 := hx
  refine hw.2 _ _ ?_
  obtain rfl : x = 0 := by omega
  refine (wA_q b 4).trans ?_
  rfl
theorem nv_27 (hw : nW (nG D cA ad b) b (wAll (nG D cA ad b) b) H) (x : Nat) (hx : x < vcnt 27) : va_at D vcl (b + nOff 27 x, venc (nG D cA ad b) (vjn P0 Q0) 27 x) H := by
  have hx2 : x < 1 := hx
  refine hw.2 _ _ ?_
  obtain rfl : x = 0 := by omega
  refine (wA_q b 5).trans ?_
  rfl
theorem nv_28 (hw : nW (nG D cA ad b) b (wAll (nG D cA ad b) b) H) (x : Nat) (hx : x < vcnt 28) : va_at D vcl (b + nOff 28 x, venc (nG D cA ad b) (vjn P0 Q0) 28 x) H := by
  have hx2 : x < 1 := hx
  refine hw.2 _ _ ?_
  obtain rfl : x = 0 := by omega
  refine (wA_q b 7).trans ?_
  rfl
theorem nv_29 (hw : nW (nG D cA ad b) b (wAll (nG D cA ad b) b) H) (x : Nat) (hx : x < vcnt 29) : va_at D vcl (b + nOff 29 x, venc (nG D cA ad b) (vjn P0 Q0) 29 x) H := by
  have hx2 : x < 1 := hx
  obtain rfl : x = 0 := by omega
  have h1 := hw.2 (960 + 6) _ ((wA_q b 6).trans rfl)
  have h2 : H[b + 966]? = some (vp_cell (cA 4) (10, .inr (.inr (.inr (.inr (va_up (va_up (va_up (va_up (va_up (va_up (va_up (va_up (va_up (va_up (fun _ => none) (ix 0) (some (ad 0))) (ix 1) (some (ad 1))) (ix 2) (some (ad 2))) (ix 3) (some (ad 3))) (ix 4) (some (ad 4))) (ix 5) (some (ad 5))) (ix 6) (some (ad 6))) (ix 7) (some (ad 7))) (ix 8) (some (ad 8))) (ix 9) (some (ad 9)))))))) := h1
  show H[b + 966]? = some (vp_cell (cA 4) (10, .inr (.inr (.inr (.inr (fun j => some (ad j)))))))
  rw [h2, vp_cell_q, vp_cell_q]
  refine congrArg some (arr_eq fun j hj => ?_)
  rcases j with _ | _ | _ | _ | _ | _ | _ | _ | _ | _ | j <;> first | rfl | (exfalso; omega)
theorem nW_vW (hw : nW (nG D cA ad b) b (wAll (nG D cA ad b) b) H) : vW (nG D cA ad b) (vjn P0 Q0) H := by
  intro k x hx
  have hk := vcnt_hi hx
  rcases k with _ | _ | _ | _ | _ | _ | _ | _ | _ | _ | _ | _ | _ | _ | _ | _ | _ | _ | _ | _ | _ | _ | _ | _ | _ | _ | _ | _ | _ | _ | k
  · exact nv_0 hw x hx
  · exact nv_1 hw x hx
  · exact nv_2 hw x hx
  · exact nv_3 hw x hx
  · exact nv_4 hw x hx
  · exact nv_5 hw x hx
  · exact nv_6 hw x hx
  · exact nv_7 hw x hx
  · exact nv_8 hw x hx
  · exact nv_9 hw x hx
  · exact nv_10 hw x hx
  · exact nv_11 hw x hx
  · exact nv_12 hw x hx
  · exact nv_13 hw x hx
  · exact nv_14 hw x hx
  · exact nv_15 hw x hx
  · exact nv_16 hw x hx
  · exact nv_17 hw x hx
  · exact nv_18 hw x hx
  · exact nv_19 hw x hx
  · exact nv_20 hw x hx
  · exact nv_21 hw x hx
  · exact nv_22 hw x hx
  · exact nv_23 hw x hx
  · exact nv_24 hw x hx
  · exact nv_25 hw x hx
  · exact nv_26 hw x hx
  · exact nv_27 hw x hx
  · exact nv_28 hw x hx
  · exact nv_29 hw x hx
  · exact absurd hk (by omega)
end BORN2
