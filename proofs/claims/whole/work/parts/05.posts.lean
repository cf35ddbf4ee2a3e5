/-! LAYER V: what a method answers; loops; the fields, arrays and links of this claim -/
def vpI (J : VP) (φ : Int32 → Prop) : Option vV → VP → Prop := fun v J' => J' = J ∧ ∃ r, v = some (vI r) ∧ φ r
def vpO (k : Nat) (J : VP) (φ : Option Nat → Prop) : Option vV → VP → Prop := fun v J' => J' = J ∧ ∃ o, v = some (vO k o) ∧ (∀ x, o = some x → x < vcnt k) ∧ φ o
def vpT (J : VP) (φ : Nat → Prop) : Option vV → VP → Prop := fun v J' => J' = J ∧ ∃ j, j < 22 ∧ v = some (vT j) ∧ φ j
def vcI (Q : VP) (φ : Int32 → VP → Prop) : Option vV → VP → Prop := fun v J' => ∃ P' r, J' = vjn P' Q ∧ v = some (vI r) ∧ φ r P'
def vcV (Q : VP) (φ : VP → Prop) : Option vV → VP → Prop := fun v J' => ∃ P', J' = vjn P' Q ∧ v = none ∧ φ P'
def vmI (P : VP) (φ : Int32 → VP → Prop) : Option vV → VP → Prop := fun v J' => ∃ Q' r, J' = vjn P Q' ∧ v = some (vI r) ∧ φ r Q'
def vmV (P : VP) (φ : VP → Prop) : Option vV → VP → Prop := fun v J' => ∃ Q', J' = vjn P Q' ∧ v = none ∧ φ Q'
def vPA (k x : Nat) : Prop := vIA k ∧ x < vcnt k ∧ Nat.blt k 22 = true
def vQA (k x : Nat) : Prop := vIA k ∧ x < vcnt k ∧ Nat.blt k 22 = false
abbrev vlI (k : Nat) : Int32 := Int32.ofNat (vlen k)
section VPOST
variable {l : Launch} {g : vG} {own : String} {bs : ByteArray} {nL : Nat} {rt : Option FieldType} {R : Room} {ce sl : Nat} {E : Array Value → State → Prop} {Qf : List Frame → Array Value → State → State → Prop} {pc : Nat} {ll : List (Nat × vV)} {st : List vV} {J P Q : VP}
theorem ki {φ : Int32 → Prop} (h : ∀ r, φ r → VB l g own bs nL rt R ce sl E Qf pc ll (vI r :: st) J) : ∀ v J', vpI J φ v J' → VB l g own bs nL rt R ce sl E Qf pc ll (v.toList ++ st) J' := by
  rintro v J' ⟨rfl, r, rfl, h1⟩
  exact h r h1
theorem ko {k : Nat} {φ : Option Nat → Prop} (h : ∀ o, (∀ x, o = some x → x < vcnt k) → φ o → VB l g own bs nL rt R ce sl E Qf pc ll (vO k o :: st) J) : ∀ v J', vpO k J φ v J' → VB l g own bs nL rt R ce sl E Qf pc ll (v.toList ++ st) J' := by
  rintro v J' ⟨rfl, r, rfl, h1, h2⟩
  exact h r h1 h2
theorem kt {φ : Nat → Prop} (h : ∀ j, j < 22 → φ j → VB l g own bs nL rt R ce sl E Qf pc ll (vT j :: st) J) : ∀ v J', vpT J φ v J' → VB l g own bs nL rt R ce sl E Qf pc ll (v.toList ++ st) J' := by
  rintro v J' ⟨rfl, r, h1, rfl, h2⟩
  exact h r h1 h2
theorem kci {φ : Int32 → VP → Prop} (h : ∀ r P, φ r P → VB l g own bs nL rt R ce sl E Qf pc ll (vI r :: st) (vjn P Q)) : ∀ v J', vcI Q φ v J' → VB l g own bs nL rt R ce sl E Qf pc ll (v.toList ++ st) J' := by
  rintro v J' ⟨P, r, rfl, rfl, h1⟩
  exact h r P h1
theorem kcv {φ : VP → Prop} (h : ∀ P, φ P → VB l g own bs nL rt R ce sl E Qf pc ll st (vjn P Q)) : ∀ v J', vcV Q φ v J' → VB l g own bs nL rt R ce sl E Qf pc ll (v.toList ++ st) J' := by
  rintro v J' ⟨P, rfl, rfl, h1⟩
  exact h P h1
theorem kmi {φ : Int32 → VP → Prop} (h : ∀ r Q, φ r Q → VB l g own bs nL rt R ce sl E Qf pc ll (vI r :: st) (vjn P Q)) : ∀ v J', vmI P φ v J' → VB l g own bs nL rt R ce sl E Qf pc ll (v.toList ++ st) J' := by
  rintro v J' ⟨Q, r, rfl, rfl, h1⟩
  exact h r Q h1
theorem kmv {φ : VP → Prop} (h : ∀ Q, φ Q → VB l g own bs nL rt R ce sl E Qf pc ll st (vjn P Q)) : ∀ v J', vmV P φ v J' → VB l g own bs nL rt R ce sl E Qf pc ll (v.toList ++ st) J' := by
  rintro v J' ⟨Q, rfl, rfl, h1⟩
  exact h Q h1
theorem vr_nm {v e : Int32} (he : v = e) (h : VB l g own bs nL rt R ce sl E Qf pc ll (vI v :: st) J) : VB l g own bs nL rt R ce sl E Qf pc ll (vI e :: st) J := he ▸ h
theorem vr_nmL {v e : Int64} (he : v = e) (h : VB l g own bs nL rt R ce sl E Qf pc ll (vL v :: st) J) : VB l g own bs nL rt R ce sl E Qf pc ll (vL e :: st) J := he ▸ h
theorem vr_ialdP {k x : Nat} {i : Int32} (N : Int32) (hk : vPA k x) (hN : vlI k = N) (hi : 0 ≤ i ∧ i < N) (hd : decode bs pc = .ok (.iaload, 1))
    (h : VB l g own bs nL rt R ce sl E Qf (pc + 1) ll (vI (P k x (ix i)) :: st) (vjn P Q)) : VB l g own bs nL rt R ce sl E Qf pc ll (vI i :: vR k x :: st) (vjn P Q) := vr_iald N hk.2.1 hk.1 hN hi hd (by rw [vjn_lo hk.2.2]; exact h)
theorem vr_ialdQ {k x : Nat} {i : Int32} (N : Int32) (hk : vQA k x) (hN : vlI k = N) (hi : 0 ≤ i ∧ i < N) (hd : decode bs pc = .ok (.iaload, 1))
    (h : VB l g own bs nL rt R ce sl E Qf (pc + 1) ll (vI (Q k x (ix i)) :: st) (vjn P Q)) : VB l g own bs nL rt R ce sl E Qf pc ll (vI i :: vR k x :: st) (vjn P Q) := vr_iald N hk.2.1 hk.1 hN hi hd (by rw [vjn_hi hk.2.2]; exact h)
theorem vr_iastP {k x : Nat} {i v : Int32} {P1 : VP} (N : Int32) (hk : vPA k x) (hN : vlI k = N) (hi : 0 ≤ i ∧ i < N) (hP : P1 = vup P k x (ix i) v) (hd : decode bs pc = .ok (.iastore, 1))
    (h : VB l g own bs nL rt R ce sl E Qf (pc + 1) ll st (vjn P1 Q)) : VB l g own bs nL rt R ce sl E Qf pc ll (vI v :: vI i :: vR k x :: st) (vjn P Q) := vr_iast N hk.2.1 hk.1 hN hi hd (by rw [vup_lo hk.2.2, ← hP]; exact h)
theorem vr_iastQ {k x : Nat} {i v : Int32} {Q1 : VP} (N : Int32) (hk : vQA k x) (hN : vlI k = N) (hi : 0 ≤ i ∧ i < N) (hP : Q1 = vup Q k x (ix i) v) (hd : decode bs pc = .ok (.iastore, 1))
    (h : VB l g own bs nL rt R ce sl E Qf (pc + 1) ll st (vjn P Q1)) : VB l g own bs nL rt R ce sl E Qf pc ll (vI v :: vI i :: vR k x :: st) (vjn P Q) := vr_iast N hk.2.1 hk.1 hN hi hd (by rw [vup_hi hk.2.2, ← hP]; exact h)
theorem vr_max {x y : Int32} {idx : Nat} (hl : Cond.methodLink own idx Lib.Math.max.name ∈ vtb) (hm : ∀ w ∈ ([.static Lib.Math.max.name, .initialized "java/lang/Math", .code Lib.Math.max.name Lib.Math.max.code 2 (some .int)] : List Cond), w ∈ vtb) (hR : 1 ≤ R.frames ∧ vwsum st + 13 ≤ R.locals) (hce : ce ≤ R.cells ∧ sl ≤ R.slots) (hd : decode bs pc = .ok (.invokestatic idx, 3))
    (h : VB l g own bs nL rt R ce sl E Qf (pc + 3) ll (vI (if x < y then y else x) :: st) J) : VB l g own bs nL rt R ce sl E Qf pc ll (vI y :: vI x :: st) J := fun p e s m args below meth c H locs ls C0 w S L =>
  va_mmax C0.1 C0.2.1 (C0.2.2.1.trans L.1.symm) C0.2.2.2.2.2.1 (C0.2.2.2.2.2.2.1 _ hl) (C0.2.2.2.2.2.2.1 _ (hm _ (by simp))) (C0.2.2.2.2.2.2.1 _ (hm _ (by simp))) (C0.2.2.2.2.2.2.1 _ (hm _ (by simp))) hR.1 (by rw [vwsum_eq]; exact hR.2) hce.1 hce.2 hd (h p e s m args below meth c H locs ls C0 w S L)
theorem vr_min {x y : Int32} {idx : Nat} (hl : Cond.methodLink own idx Lib.Math.min.name ∈ vtb) (hm : ∀ w ∈ ([.static Lib.Math.min.name, .initialized "java/lang/Math", .code Lib.Math.min.name Lib.Math.min.code 2 (some .int)] : List Cond), w ∈ vtb) (hR : 1 ≤ R.frames ∧ vwsum st + 13 ≤ R.locals) (hce : ce ≤ R.cells ∧ sl ≤ R.slots) (hd : decode bs pc = .ok (.invokestatic idx, 3))
    (h : VB l g own bs nL rt R ce sl E Qf (pc + 3) ll (vI (if y < x then y else x) :: st) J) : VB l g own bs nL rt R ce sl E Qf pc ll (vI y :: vI x :: st) J := fun p e s m args below meth c H locs ls C0 w S L =>
  va_mmin C0.1 C0.2.1 (C0.2.2.1.trans L.1.symm) C0.2.2.2.2.2.1 (C0.2.2.2.2.2.2.1 _ hl) (C0.2.2.2.2.2.2.1 _ (hm _ (by simp))) (C0.2.2.2.2.2.2.1 _ (hm _ (by simp))) (C0.2.2.2.2.2.2.1 _ (hm _ (by simp))) hR.1 (by rw [vwsum_eq]; exact hR.2) hce.1 hce.2 hd (h p e s m args below meth c H locs ls C0 w S L)
theorem vg_16_0 {x idx : Nat} (own' : String) (ho : own = own') (hx : x < vcnt 16) (hl : Cond.fieldLink own' idx RX0 "segment" "I" ∈ vtb) (hd : decode bs pc = .ok (.getfield idx, 3))
    (h : VB l g own bs nL rt R ce sl E Qf (pc + 3) ll (vI (P 16 x 0) :: st) (vjn P Q)) : VB l g own bs nL rt R ce sl E Qf pc ll (vR 16 x :: st) (vjn P Q) :=
  vr_get own' (k := 16) (j := 0) (v := vI (P 16 x 0)) (ci := 0) (C := RX0) (T := TX0) (N := 5) ho hx rfl rfl inv_X0 (by decide) ⟨rfl, rfl, rfl⟩ hl rfl hd h
theorem vp_16_0 {x idx : Nat} {v : Int32} {P1 : VP} (own' : String) (ho : own = own') (hx : x < vcnt 16) (hl : Cond.fieldLink own' idx RX0 "segment" "I" ∈ vtb) (hP : P1 = vup P 16 x 0 v) (hd : decode bs pc = .ok (.putfield idx, 3))
    (h : VB l g own bs nL rt R ce sl E Qf (pc + 3) ll st (vjn P1 Q)) : VB l g own bs nL rt R ce sl E Qf pc ll (vI v :: vR 16 x :: st) (vjn P Q) :=
  vr_put own' (k := 16) (j := 0) (ci := 0) (C := RX0) (T := TX0) (N := 5) (ty := .int) (ty0 := tyX0) ho hx rfl rfl inv_X0 tyX0_ok nmX0 (by decide) ⟨rfl, rfl, rfl⟩ hl rfl rfl rfl rfl (Nat.le_of_ble_eq_true rfl) (by simp [venc, vup]) hd (by rw [vup_lo (k := 16) rfl P Q, ← hP]; exact h)
theorem vg_16_1 {x idx : Nat} (own' : String) (ho : own = own') (hx : x < vcnt 16) (hl : Cond.fieldLink own' idx RX0 "word" "I" ∈ vtb) (hd : decode bs pc = .ok (.getfield idx, 3))
    (h : VB l g own bs nL rt R ce sl E Qf (pc + 3) ll (vI (P 16 x 1) :: st) (vjn P Q)) : VB l g own bs nL rt R ce sl E Qf pc ll (vR 16 x :: st) (vjn P Q) :=
  vr_get own' (k := 16) (j := 1) (v := vI (P 16 x 1)) (ci := 0) (C := RX0) (T := TX0) (N := 5) ho hx rfl rfl inv_X0 (by decide) ⟨rfl, rfl, rfl⟩ hl rfl hd h
theorem vp_16_1 {x idx : Nat} {v : Int32} {P1 : VP} (own' : String) (ho : own = own') (hx : x < vcnt 16) (hl : Cond.fieldLink own' idx RX0 "word" "I" ∈ vtb) (hP : P1 = vup P 16 x 1 v) (hd : decode bs pc = .ok (.putfield idx, 3))
    (h : VB l g own bs nL rt R ce sl E Qf (pc + 3) ll st (vjn P1 Q)) : VB l g own bs nL rt R ce sl E Qf pc ll (vI v :: vR 16 x :: st) (vjn P Q) :=
  vr_put own' (k := 16) (j := 1) (ci := 0) (C := RX0) (T := TX0) (N := 5) (ty := .int) (ty0 := tyX0) ho hx rfl rfl inv_X0 tyX0_ok nmX0 (by decide) ⟨rfl, rfl, rfl⟩ hl rfl rfl rfl rfl (Nat.le_of_ble_eq_true rfl) (by simp [venc, vup]) hd (by rw [vup_lo (k := 16) rfl P Q, ← hP]; exact h)
theorem vg_16_2 {x idx : Nat} (own' : String) (ho : own = own') (hx : x < vcnt 16) (hl : Cond.fieldLink own' idx RX0 "ring" "I" ∈ vtb) (hd : decode bs pc = .ok (.getfield idx, 3))
    (h : VB l g own bs nL rt R ce sl E Qf (pc + 3) ll (vI (P 16 x 2) :: st) (vjn P Q)) : VB l g own bs nL rt R ce sl E Qf pc ll (vR 16 x :: st) (vjn P Q) :=
  vr_get own' (k := 16) (j := 2) (v := vI (P 16 x 2)) (ci := 0) (C := RX0) (T := TX0) (N := 5) ho hx rfl rfl inv_X0 (by decide) ⟨rfl, rfl, rfl⟩ hl rfl hd h
theorem vp_16_2 {x idx : Nat} {v : Int32} {P1 : VP} (own' : String) (ho : own = own') (hx : x < vcnt 16) (hl : Cond.fieldLink own' idx RX0 "ring" "I" ∈ vtb) (hP : P1 = vup P 16 x 2 v) (hd : decode bs pc = .ok (.putfield idx, 3))
    (h : VB l g own bs nL rt R ce sl E Qf (pc + 3) ll st (vjn P1 Q)) : VB l g own bs nL rt R ce sl E Qf pc ll (vI v :: vR 16 x :: st) (vjn P Q) :=
  vr_put own' (k := 16) (j := 2) (ci := 0) (C := RX0) (T := TX0) (N := 5) (ty := .int) (ty0 := tyX0) ho hx rfl rfl inv_X0 tyX0_ok nmX0 (by decide) ⟨rfl, rfl, rfl⟩ hl rfl rfl rfl rfl (Nat.le_of_ble_eq_true rfl) (by simp [venc, vup]) hd (by rw [vup_lo (k := 16) rfl P Q, ← hP]; exact h)
theorem vg_16_3 {x idx : Nat} (own' : String) (ho : own = own') (hx : x < vcnt 16) (hl : Cond.fieldLink own' idx RX0 "copy" "I" ∈ vtb) (hd : decode bs pc = .ok (.getfield idx, 3))
    (h : VB l g own bs nL rt R ce sl E Qf (pc + 3) ll (vI (P 16 x 3) :: st) (vjn P Q)) : VB l g own bs nL rt R ce sl E Qf pc ll (vR 16 x :: st) (vjn P Q) :=
  vr_get own' (k := 16) (j := 3) (v := vI (P 16 x 3)) (ci := 0) (C := RX0) (T := TX0) (N := 5) ho hx rfl rfl inv_X0 (by decide) ⟨rfl, rfl, rfl⟩ hl rfl hd h
theorem vp_16_3 {x idx : Nat} {v : Int32} {P1 : VP} (own' : String) (ho : own = own') (hx : x < vcnt 16) (hl : Cond.fieldLink own' idx RX0 "copy" "I" ∈ vtb) (hP : P1 = vup P 16 x 3 v) (hd : decode bs pc = .ok (.putfield idx, 3))
    (h : VB l g own bs nL rt R ce sl E Qf (pc + 3) ll st (vjn P1 Q)) : VB l g own bs nL rt R ce sl E Qf pc ll (vI v :: vR 16 x :: st) (vjn P Q) :=
  vr_put own' (k := 16) (j := 3) (ci := 0) (C := RX0) (T := TX0) (N := 5) (ty := .int) (ty0 := tyX0) ho hx rfl rfl inv_X0 tyX0_ok nmX0 (by decide) ⟨rfl, rfl, rfl⟩ hl rfl rfl rfl rfl (Nat.le_of_ble_eq_true rfl) (by simp [venc, vup]) hd (by rw [vup_lo (k := 16) rfl P Q, ← hP]; exact h)
theorem vg_16_4 {x idx : Nat} (own' : String) (ho : own = own') (hx : x < vcnt 16) (hl : Cond.fieldLink own' idx RX0 "isSet" "Z" ∈ vtb) (hd : decode bs pc = .ok (.getfield idx, 3))
    (h : VB l g own bs nL rt R ce sl E Qf (pc + 3) ll (vI (P 16 x 4) :: st) (vjn P Q)) : VB l g own bs nL rt R ce sl E Qf pc ll (vR 16 x :: st) (vjn P Q) :=
  vr_get own' (k := 16) (j := 4) (v := vI (P 16 x 4)) (ci := 0) (C := RX0) (T := TX0) (N := 5) ho hx rfl rfl inv_X0 (by decide) ⟨rfl, rfl, rfl⟩ hl rfl hd h
theorem vp_16_4 {x idx : Nat} {v : Int32} {P1 : VP} (own' : String) (ho : own = own') (hx : x < vcnt 16) (hl : Cond.fieldLink own' idx RX0 "isSet" "Z" ∈ vtb) (hv : v = 0 ∨ v = 1) (hP : P1 = vup P 16 x 4 v) (hd : decode bs pc = .ok (.putfield idx, 3))
    (h : VB l g own bs nL rt R ce sl E Qf (pc + 3) ll st (vjn P1 Q)) : VB l g own bs nL rt R ce sl E Qf pc ll (vI v :: vR 16 x :: st) (vjn P Q) :=
  vr_put own' (k := 16) (j := 4) (ci := 0) (C := RX0) (T := TX0) (N := 5) (ty := .boolean) (ty0 := tyX0) ho hx rfl rfl inv_X0 tyX0_ok nmX0 (by decide) ⟨rfl, rfl, rfl⟩ hl rfl rfl (by rcases hv with rfl | rfl <;> rfl) (by rcases hv with rfl | rfl <;> rfl) (Nat.le_of_ble_eq_true rfl) (by simp [venc, vup]) hd (by rw [vup_lo (k := 16) rfl P Q, ← hP]; exact h)
theorem vg_14_0 {x idx : Nat} (own' : String) (ho : own = own') (hx : x < vcnt 14) (hl : Cond.fieldLink own' idx RX1 "segment" "I" ∈ vtb) (hd : decode bs pc = .ok (.getfield idx, 3))
    (h : VB l g own bs nL rt R ce sl E Qf (pc + 3) ll (vI (P 14 x 0) :: st) (vjn P Q)) : VB l g own bs nL rt R ce sl E Qf pc ll (vR 14 x :: st) (vjn P Q) :=
  vr_get own' (k := 14) (j := 0) (v := vI (P 14 x 0)) (ci := 1) (C := RX1) (T := TX1) (N := 6) ho hx rfl rfl inv_X1 (by decide) ⟨rfl, rfl, rfl⟩ hl rfl hd h
theorem vp_14_0 {x idx : Nat} {v : Int32} {P1 : VP} (own' : String) (ho : own = own') (hx : x < vcnt 14) (hl : Cond.fieldLink own' idx RX1 "segment" "I" ∈ vtb) (hP : P1 = vup P 14 x 0 v) (hd : decode bs pc = .ok (.putfield idx, 3))
    (h : VB l g own bs nL rt R ce sl E Qf (pc + 3) ll st (vjn P1 Q)) : VB l g own bs nL rt R ce sl E Qf pc ll (vI v :: vR 14 x :: st) (vjn P Q) :=
  vr_put own' (k := 14) (j := 0) (ci := 1) (C := RX1) (T := TX1) (N := 6) (ty := .int) (ty0 := tyX1) ho hx rfl rfl inv_X1 tyX1_ok nmX1 (by decide) ⟨rfl, rfl, rfl⟩ hl rfl rfl rfl rfl (Nat.le_of_ble_eq_true rfl) (by simp [venc, vup]) hd (by rw [vup_lo (k := 14) rfl P Q, ← hP]; exact h)
theorem vg_14_1 {x idx : Nat} (own' : String) (ho : own = own') (hx : x < vcnt 14) (hl : Cond.fieldLink own' idx RX1 "word" "I" ∈ vtb) (hd : decode bs pc = .ok (.getfield idx, 3))
    (h : VB l g own bs nL rt R ce sl E Qf (pc + 3) ll (vI (P 14 x 1) :: st) (vjn P Q)) : VB l g own bs nL rt R ce sl E Qf pc ll (vR 14 x :: st) (vjn P Q) :=
  vr_get own' (k := 14) (j := 1) (v := vI (P 14 x 1)) (ci := 1) (C := RX1) (T := TX1) (N := 6) ho hx rfl rfl inv_X1 (by decide) ⟨rfl, rfl, rfl⟩ hl rfl hd h
theorem vp_14_1 {x idx : Nat} {v : Int32} {P1 : VP} (own' : String) (ho : own = own') (hx : x < vcnt 14) (hl : Cond.fieldLink own' idx RX1 "word" "I" ∈ vtb) (hP : P1 = vup P 14 x 1 v) (hd : decode bs pc = .ok (.putfield idx, 3))
    (h : VB l g own bs nL rt R ce sl E Qf (pc + 3) ll st (vjn P1 Q)) : VB l g own bs nL rt R ce sl E Qf pc ll (vI v :: vR 14 x :: st) (vjn P Q) :=
  vr_put own' (k := 14) (j := 1) (ci := 1) (C := RX1) (T := TX1) (N := 6) (ty := .int) (ty0 := tyX1) ho hx rfl rfl inv_X1 tyX1_ok nmX1 (by decide) ⟨rfl, rfl, rfl⟩ hl rfl rfl rfl rfl (Nat.le_of_ble_eq_true rfl) (by simp [venc, vup]) hd (by rw [vup_lo (k := 14) rfl P Q, ← hP]; exact h)
theorem vg_14_2 {x idx : Nat} (own' : String) (ho : own = own') (hx : x < vcnt 14) (hl : Cond.fieldLink own' idx RX1 "ring" "I" ∈ vtb) (hd : decode bs pc = .ok (.getfield idx, 3))
    (h : VB l g own bs nL rt R ce sl E Qf (pc + 3) ll (vI (P 14 x 2) :: st) (vjn P Q)) : VB l g own bs nL rt R ce sl E Qf pc ll (vR 14 x :: st) (vjn P Q) :=
  vr_get own' (k := 14) (j := 2) (v := vI (P 14 x 2)) (ci := 1) (C := RX1) (T := TX1) (N := 6) ho hx rfl rfl inv_X1 (by decide) ⟨rfl, rfl, rfl⟩ hl rfl hd h
theorem vp_14_2 {x idx : Nat} {v : Int32} {P1 : VP} (own' : String) (ho : own = own') (hx : x < vcnt 14) (hl : Cond.fieldLink own' idx RX1 "ring" "I" ∈ vtb) (hP : P1 = vup P 14 x 2 v) (hd : decode bs pc = .ok (.putfield idx, 3))
    (h : VB l g own bs nL rt R ce sl E Qf (pc + 3) ll st (vjn P1 Q)) : VB l g own bs nL rt R ce sl E Qf pc ll (vI v :: vR 14 x :: st) (vjn P Q) :=
  vr_put own' (k := 14) (j := 2) (ci := 1) (C := RX1) (T := TX1) (N := 6) (ty := .int) (ty0 := tyX1) ho hx rfl rfl inv_X1 tyX1_ok nmX1 (by decide) ⟨rfl, rfl, rfl⟩ hl rfl rfl rfl rfl (Nat.le_of_ble_eq_true rfl) (by simp [venc, vup]) hd (by rw [vup_lo (k := 14) rfl P Q, ← hP]; exact h)
theorem vg_14_3 {x idx : Nat} (own' : String) (ho : own = own') (hx : x < vcnt 14) (hl : Cond.fieldLink own' idx RX1 "outward" "Z" ∈ vtb) (hd : decode bs pc = .ok (.getfield idx, 3))
    (h : VB l g own bs nL rt R ce sl E Qf (pc + 3) ll (vI (P 14 x 3) :: st) (vjn P Q)) : VB l g own bs nL rt R ce sl E Qf pc ll (vR 14 x :: st) (vjn P Q) :=
  vr_get own' (k := 14) (j := 3) (v := vI (P 14 x 3)) (ci := 1) (C := RX1) (T := TX1) (N := 6) ho hx rfl rfl inv_X1 (by decide) ⟨rfl, rfl, rfl⟩ hl rfl hd h
theorem vp_14_3 {x idx : Nat} {v : Int32} {P1 : VP} (own' : String) (ho : own = own') (hx : x < vcnt 14) (hl : Cond.fieldLink own' idx RX1 "outward" "Z" ∈ vtb) (hv : v = 0 ∨ v = 1) (hP : P1 = vup P 14 x 3 v) (hd : decode bs pc = .ok (.putfield idx, 3))
    (h : VB l g own bs nL rt R ce sl E Qf (pc + 3) ll st (vjn P1 Q)) : VB l g own bs nL rt R ce sl E Qf pc ll (vI v :: vR 14 x :: st) (vjn P Q) :=
  vr_put own' (k := 14) (j := 3) (ci := 1) (C := RX1) (T := TX1) (N := 6) (ty := .boolean) (ty0 := tyX1) ho hx rfl rfl inv_X1 tyX1_ok nmX1 (by decide) ⟨rfl, rfl, rfl⟩ hl rfl rfl (by rcases hv with rfl | rfl <;> rfl) (by rcases hv with rfl | rfl <;> rfl) (Nat.le_of_ble_eq_true rfl) (by simp [venc, vup]) hd (by rw [vup_lo (k := 14) rfl P Q, ← hP]; exact h)
theorem vg_14_4 {x idx : Nat} (own' : String) (ho : own = own') (hx : x < vcnt 14) (hl : Cond.fieldLink own' idx RX1 "size" "I" ∈ vtb) (hd : decode bs pc = .ok (.getfield idx, 3))
    (h : VB l g own bs nL rt R ce sl E Qf (pc + 3) ll (vI (P 14 x 4) :: st) (vjn P Q)) : VB l g own bs nL rt R ce sl E Qf pc ll (vR 14 x :: st) (vjn P Q) :=
  vr_get own' (k := 14) (j := 4) (v := vI (P 14 x 4)) (ci := 1) (C := RX1) (T := TX1) (N := 6) ho hx rfl rfl inv_X1 (by decide) ⟨rfl, rfl, rfl⟩ hl rfl hd h
theorem vp_14_4 {x idx : Nat} {v : Int32} {P1 : VP} (own' : String) (ho : own = own') (hx : x < vcnt 14) (hl : Cond.fieldLink own' idx RX1 "size" "I" ∈ vtb) (hP : P1 = vup P 14 x 4 v) (hd : decode bs pc = .ok (.putfield idx, 3))
    (h : VB l g own bs nL rt R ce sl E Qf (pc + 3) ll st (vjn P1 Q)) : VB l g own bs nL rt R ce sl E Qf pc ll (vI v :: vR 14 x :: st) (vjn P Q) :=
  vr_put own' (k := 14) (j := 4) (ci := 1) (C := RX1) (T := TX1) (N := 6) (ty := .int) (ty0 := tyX1) ho hx rfl rfl inv_X1 tyX1_ok nmX1 (by decide) ⟨rfl, rfl, rfl⟩ hl rfl rfl rfl rfl (Nat.le_of_ble_eq_true rfl) (by simp [venc, vup]) hd (by rw [vup_lo (k := 14) rfl P Q, ← hP]; exact h)
theorem vg_14_5 {x idx : Nat} (own' : String) (ho : own = own') (hx : x < vcnt 14) (hl : Cond.fieldLink own' idx RX1 "arguments" "[LRingGates$Argument;" ∈ vtb) (hd : decode bs pc = .ok (.getfield idx, 3))
    (h : VB l g own bs nL rt R ce sl E Qf (pc + 3) ll (vR 15 x :: st) (vjn P Q)) : VB l g own bs nL rt R ce sl E Qf pc ll (vR 14 x :: st) (vjn P Q) :=
  vr_get own' (k := 14) (j := 5) (v := vR 15 x) (ci := 1) (C := RX1) (T := TX1) (N := 6) ho hx rfl rfl inv_X1 (by decide) ⟨rfl, rfl, rfl⟩ hl rfl hd h
theorem vg_1_0 {x idx : Nat} (own' : String) (ho : own = own') (hx : x < vcnt 1) (hl : Cond.fieldLink own' idx RX2 "world" "LRingGates$World;" ∈ vtb) (hd : decode bs pc = .ok (.getfield idx, 3))
    (h : VB l g own bs nL rt R ce sl E Qf (pc + 3) ll (vR 2 x :: st) (vjn P Q)) : VB l g own bs nL rt R ce sl E Qf pc ll (vR 1 x :: st) (vjn P Q) :=
  vr_get own' (k := 1) (j := 0) (v := vR 2 x) (ci := 2) (C := RX2) (T := TX2) (N := 12) ho hx rfl rfl inv_X2 (by decide) ⟨rfl, rfl, rfl⟩ hl rfl hd h
theorem vg_1_1 {x idx : Nat} (own' : String) (ho : own = own') (hx : x < vcnt 1) (hl : Cond.fieldLink own' idx RX2 "stacks" "LRingGates$Stacks;" ∈ vtb) (hd : decode bs pc = .ok (.getfield idx, 3))
    (h : VB l g own bs nL rt R ce sl E Qf (pc + 3) ll (vR 11 x :: st) (vjn P Q)) : VB l g own bs nL rt R ce sl E Qf pc ll (vR 1 x :: st) (vjn P Q) :=
  vr_get own' (k := 1) (j := 1) (v := vR 11 x) (ci := 2) (C := RX2) (T := TX2) (N := 12) ho hx rfl rfl inv_X2 (by decide) ⟨rfl, rfl, rfl⟩ hl rfl hd h
theorem vg_1_2 {x idx : Nat} (own' : String) (ho : own = own') (hx : x < vcnt 1) (hl : Cond.fieldLink own' idx RX2 "segment" "I" ∈ vtb) (hd : decode bs pc = .ok (.getfield idx, 3))
    (h : VB l g own bs nL rt R ce sl E Qf (pc + 3) ll (vI (P 1 x 2) :: st) (vjn P Q)) : VB l g own bs nL rt R ce sl E Qf pc ll (vR 1 x :: st) (vjn P Q) :=
  vr_get own' (k := 1) (j := 2) (v := vI (P 1 x 2)) (ci := 2) (C := RX2) (T := TX2) (N := 12) ho hx rfl rfl inv_X2 (by decide) ⟨rfl, rfl, rfl⟩ hl rfl hd h
theorem vp_1_2 {x idx : Nat} {v : Int32} {P1 : VP} (own' : String) (ho : own = own') (hx : x < vcnt 1) (hl : Cond.fieldLink own' idx RX2 "segment" "I" ∈ vtb) (hP : P1 = vup P 1 x 2 v) (hd : decode bs pc = .ok (.putfield idx, 3))
    (h : VB l g own bs nL rt R ce sl E Qf (pc + 3) ll st (vjn P1 Q)) : VB l g own bs nL rt R ce sl E Qf pc ll (vI v :: vR 1 x :: st) (vjn P Q) :=
  vr_put own' (k := 1) (j := 2) (ci := 2) (C := RX2) (T := TX2) (N := 12) (ty := .int) (ty0 := tyX2) ho hx rfl rfl inv_X2 tyX2_ok nmX2 (by decide) ⟨rfl, rfl, rfl⟩ hl rfl rfl rfl rfl (Nat.le_of_ble_eq_true rfl) (by simp [venc, vup]) hd (by rw [vup_lo (k := 1) rfl P Q, ← hP]; exact h)
theorem vg_1_3 {x idx : Nat} (own' : String) (ho : own = own') (hx : x < vcnt 1) (hl : Cond.fieldLink own' idx RX2 "word" "I" ∈ vtb) (hd : decode bs pc = .ok (.getfield idx, 3))
    (h : VB l g own bs nL rt R ce sl E Qf (pc + 3) ll (vI (P 1 x 3) :: st) (vjn P Q)) : VB l g own bs nL rt R ce sl E Qf pc ll (vR 1 x :: st) (vjn P Q) :=
  vr_get own' (k := 1) (j := 3) (v := vI (P 1 x 3)) (ci := 2) (C := RX2) (T := TX2) (N := 12) ho hx rfl rfl inv_X2 (by decide) ⟨rfl, rfl, rfl⟩ hl rfl hd h
theorem vp_1_3 {x idx : Nat} {v : Int32} {P1 : VP} (own' : String) (ho : own = own') (hx : x < vcnt 1) (hl : Cond.fieldLink own' idx RX2 "word" "I" ∈ vtb) (hP : P1 = vup P 1 x 3 v) (hd : decode bs pc = .ok (.putfield idx, 3))
    (h : VB l g own bs nL rt R ce sl E Qf (pc + 3) ll st (vjn P1 Q)) : VB l g own bs nL rt R ce sl E Qf pc ll (vI v :: vR 1 x :: st) (vjn P Q) :=
  vr_put own' (k := 1) (j := 3) (ci := 2) (C := RX2) (T := TX2) (N := 12) (ty := .int) (ty0 := tyX2) ho hx rfl rfl inv_X2 tyX2_ok nmX2 (by decide) ⟨rfl, rfl, rfl⟩ hl rfl rfl rfl rfl (Nat.le_of_ble_eq_true rfl) (by simp [venc, vup]) hd (by rw [vup_lo (k := 1) rfl P Q, ← hP]; exact h)
theorem vg_1_4 {x idx : Nat} (own' : String) (ho : own = own') (hx : x < vcnt 1) (hl : Cond.fieldLink own' idx RX2 "ring" "I" ∈ vtb) (hd : decode bs pc = .ok (.getfield idx, 3))
    (h : VB l g own bs nL rt R ce sl E Qf (pc + 3) ll (vI (P 1 x 4) :: st) (vjn P Q)) : VB l g own bs nL rt R ce sl E Qf pc ll (vR 1 x :: st) (vjn P Q) :=
  vr_get own' (k := 1) (j := 4) (v := vI (P 1 x 4)) (ci := 2) (C := RX2) (T := TX2) (N := 12) ho hx rfl rfl inv_X2 (by decide) ⟨rfl, rfl, rfl⟩ hl rfl hd h
theorem vp_1_4 {x idx : Nat} {v : Int32} {P1 : VP} (own' : String) (ho : own = own') (hx : x < vcnt 1) (hl : Cond.fieldLink own' idx RX2 "ring" "I" ∈ vtb) (hP : P1 = vup P 1 x 4 v) (hd : decode bs pc = .ok (.putfield idx, 3))
    (h : VB l g own bs nL rt R ce sl E Qf (pc + 3) ll st (vjn P1 Q)) : VB l g own bs nL rt R ce sl E Qf pc ll (vI v :: vR 1 x :: st) (vjn P Q) :=
  vr_put own' (k := 1) (j := 4) (ci := 2) (C := RX2) (T := TX2) (N := 12) (ty := .int) (ty0 := tyX2) ho hx rfl rfl inv_X2 tyX2_ok nmX2 (by decide) ⟨rfl, rfl, rfl⟩ hl rfl rfl rfl rfl (Nat.le_of_ble_eq_true rfl) (by simp [venc, vup]) hd (by rw [vup_lo (k := 1) rfl P Q, ← hP]; exact h)
theorem vg_1_5 {x idx : Nat} (own' : String) (ho : own = own') (hx : x < vcnt 1) (hl : Cond.fieldLink own' idx RX2 "a" "I" ∈ vtb) (hd : decode bs pc = .ok (.getfield idx, 3))
    (h : VB l g own bs nL rt R ce sl E Qf (pc + 3) ll (vI (P 1 x 5) :: st) (vjn P Q)) : VB l g own bs nL rt R ce sl E Qf pc ll (vR 1 x :: st) (vjn P Q) :=
  vr_get own' (k := 1) (j := 5) (v := vI (P 1 x 5)) (ci := 2) (C := RX2) (T := TX2) (N := 12) ho hx rfl rfl inv_X2 (by decide) ⟨rfl, rfl, rfl⟩ hl rfl hd h
theorem vp_1_5 {x idx : Nat} {v : Int32} {P1 : VP} (own' : String) (ho : own = own') (hx : x < vcnt 1) (hl : Cond.fieldLink own' idx RX2 "a" "I" ∈ vtb) (hP : P1 = vup P 1 x 5 v) (hd : decode bs pc = .ok (.putfield idx, 3))
    (h : VB l g own bs nL rt R ce sl E Qf (pc + 3) ll st (vjn P1 Q)) : VB l g own bs nL rt R ce sl E Qf pc ll (vI v :: vR 1 x :: st) (vjn P Q) :=
  vr_put own' (k := 1) (j := 5) (ci := 2) (C := RX2) (T := TX2) (N := 12) (ty := .int) (ty0 := tyX2) ho hx rfl rfl inv_X2 tyX2_ok nmX2 (by decide) ⟨rfl, rfl, rfl⟩ hl rfl rfl rfl rfl (Nat.le_of_ble_eq_true rfl) (by simp [venc, vup]) hd (by rw [vup_lo (k := 1) rfl P Q, ← hP]; exact h)
theorem vg_1_6 {x idx : Nat} (own' : String) (ho : own = own') (hx : x < vcnt 1) (hl : Cond.fieldLink own' idx RX2 "building" "LRingGates$Frame;" ∈ vtb) (hd : decode bs pc = .ok (.getfield idx, 3))
    (h : VB l g own bs nL rt R ce sl E Qf (pc + 3) ll (vR 14 (49 * x + 48) :: st) (vjn P Q)) : VB l g own bs nL rt R ce sl E Qf pc ll (vR 1 x :: st) (vjn P Q) :=
  vr_get own' (k := 1) (j := 6) (v := vR 14 (49 * x + 48)) (ci := 2) (C := RX2) (T := TX2) (N := 12) ho hx rfl rfl inv_X2 (by decide) ⟨rfl, rfl, rfl⟩ hl rfl hd h
theorem vg_1_7 {x idx : Nat} (own' : String) (ho : own = own') (hx : x < vcnt 1) (hl : Cond.fieldLink own' idx RX2 "operandSegment" "I" ∈ vtb) (hd : decode bs pc = .ok (.getfield idx, 3))
    (h : VB l g own bs nL rt R ce sl E Qf (pc + 3) ll (vI (P 1 x 7) :: st) (vjn P Q)) : VB l g own bs nL rt R ce sl E Qf pc ll (vR 1 x :: st) (vjn P Q) :=
  vr_get own' (k := 1) (j := 7) (v := vI (P 1 x 7)) (ci := 2) (C := RX2) (T := TX2) (N := 12) ho hx rfl rfl inv_X2 (by decide) ⟨rfl, rfl, rfl⟩ hl rfl hd h
theorem vp_1_7 {x idx : Nat} {v : Int32} {P1 : VP} (own' : String) (ho : own = own') (hx : x < vcnt 1) (hl : Cond.fieldLink own' idx RX2 "operandSegment" "I" ∈ vtb) (hP : P1 = vup P 1 x 7 v) (hd : decode bs pc = .ok (.putfield idx, 3))
    (h : VB l g own bs nL rt R ce sl E Qf (pc + 3) ll st (vjn P1 Q)) : VB l g own bs nL rt R ce sl E Qf pc ll (vI v :: vR 1 x :: st) (vjn P Q) :=
  vr_put own' (k := 1) (j := 7) (ci := 2) (C := RX2) (T := TX2) (N := 12) (ty := .int) (ty0 := tyX2) ho hx rfl rfl inv_X2 tyX2_ok nmX2 (by decide) ⟨rfl, rfl, rfl⟩ hl rfl rfl rfl rfl (Nat.le_of_ble_eq_true rfl) (by simp [venc, vup]) hd (by rw [vup_lo (k := 1) rfl P Q, ← hP]; exact h)
theorem vg_1_8 {x idx : Nat} (own' : String) (ho : own = own') (hx : x < vcnt 1) (hl : Cond.fieldLink own' idx RX2 "operandWord" "I" ∈ vtb) (hd : decode bs pc = .ok (.getfield idx, 3))
    (h : VB l g own bs nL rt R ce sl E Qf (pc + 3) ll (vI (P 1 x 8) :: st) (vjn P Q)) : VB l g own bs nL rt R ce sl E Qf pc ll (vR 1 x :: st) (vjn P Q) :=
  vr_get own' (k := 1) (j := 8) (v := vI (P 1 x 8)) (ci := 2) (C := RX2) (T := TX2) (N := 12) ho hx rfl rfl inv_X2 (by decide) ⟨rfl, rfl, rfl⟩ hl rfl hd h
theorem vp_1_8 {x idx : Nat} {v : Int32} {P1 : VP} (own' : String) (ho : own = own') (hx : x < vcnt 1) (hl : Cond.fieldLink own' idx RX2 "operandWord" "I" ∈ vtb) (hP : P1 = vup P 1 x 8 v) (hd : decode bs pc = .ok (.putfield idx, 3))
    (h : VB l g own bs nL rt R ce sl E Qf (pc + 3) ll st (vjn P1 Q)) : VB l g own bs nL rt R ce sl E Qf pc ll (vI v :: vR 1 x :: st) (vjn P Q) :=
  vr_put own' (k := 1) (j := 8) (ci := 2) (C := RX2) (T := TX2) (N := 12) (ty := .int) (ty0 := tyX2) ho hx rfl rfl inv_X2 tyX2_ok nmX2 (by decide) ⟨rfl, rfl, rfl⟩ hl rfl rfl rfl rfl (Nat.le_of_ble_eq_true rfl) (by simp [venc, vup]) hd (by rw [vup_lo (k := 1) rfl P Q, ← hP]; exact h)
theorem vg_1_9 {x idx : Nat} (own' : String) (ho : own = own') (hx : x < vcnt 1) (hl : Cond.fieldLink own' idx RX2 "operandRing" "I" ∈ vtb) (hd : decode bs pc = .ok (.getfield idx, 3))
    (h : VB l g own bs nL rt R ce sl E Qf (pc + 3) ll (vI (P 1 x 9) :: st) (vjn P Q)) : VB l g own bs nL rt R ce sl E Qf pc ll (vR 1 x :: st) (vjn P Q) :=
  vr_get own' (k := 1) (j := 9) (v := vI (P 1 x 9)) (ci := 2) (C := RX2) (T := TX2) (N := 12) ho hx rfl rfl inv_X2 (by decide) ⟨rfl, rfl, rfl⟩ hl rfl hd h
theorem vp_1_9 {x idx : Nat} {v : Int32} {P1 : VP} (own' : String) (ho : own = own') (hx : x < vcnt 1) (hl : Cond.fieldLink own' idx RX2 "operandRing" "I" ∈ vtb) (hP : P1 = vup P 1 x 9 v) (hd : decode bs pc = .ok (.putfield idx, 3))
    (h : VB l g own bs nL rt R ce sl E Qf (pc + 3) ll st (vjn P1 Q)) : VB l g own bs nL rt R ce sl E Qf pc ll (vI v :: vR 1 x :: st) (vjn P Q) :=
  vr_put own' (k := 1) (j := 9) (ci := 2) (C := RX2) (T := TX2) (N := 12) (ty := .int) (ty0 := tyX2) ho hx rfl rfl inv_X2 tyX2_ok nmX2 (by decide) ⟨rfl, rfl, rfl⟩ hl rfl rfl rfl rfl (Nat.le_of_ble_eq_true rfl) (by simp [venc, vup]) hd (by rw [vup_lo (k := 1) rfl P Q, ← hP]; exact h)
theorem vg_1_10 {x idx : Nat} (own' : String) (ho : own = own') (hx : x < vcnt 1) (hl : Cond.fieldLink own' idx RX2 "fetched" "I" ∈ vtb) (hd : decode bs pc = .ok (.getfield idx, 3))
    (h : VB l g own bs nL rt R ce sl E Qf (pc + 3) ll (vI (P 1 x 10) :: st) (vjn P Q)) : VB l g own bs nL rt R ce sl E Qf pc ll (vR 1 x :: st) (vjn P Q) :=
  vr_get own' (k := 1) (j := 10) (v := vI (P 1 x 10)) (ci := 2) (C := RX2) (T := TX2) (N := 12) ho hx rfl rfl inv_X2 (by decide) ⟨rfl, rfl, rfl⟩ hl rfl hd h
theorem vp_1_10 {x idx : Nat} {v : Int32} {P1 : VP} (own' : String) (ho : own = own') (hx : x < vcnt 1) (hl : Cond.fieldLink own' idx RX2 "fetched" "I" ∈ vtb) (hP : P1 = vup P 1 x 10 v) (hd : decode bs pc = .ok (.putfield idx, 3))
    (h : VB l g own bs nL rt R ce sl E Qf (pc + 3) ll st (vjn P1 Q)) : VB l g own bs nL rt R ce sl E Qf pc ll (vI v :: vR 1 x :: st) (vjn P Q) :=
  vr_put own' (k := 1) (j := 10) (ci := 2) (C := RX2) (T := TX2) (N := 12) (ty := .int) (ty0 := tyX2) ho hx rfl rfl inv_X2 tyX2_ok nmX2 (by decide) ⟨rfl, rfl, rfl⟩ hl rfl rfl rfl rfl (Nat.le_of_ble_eq_true rfl) (by simp [venc, vup]) hd (by rw [vup_lo (k := 1) rfl P Q, ← hP]; exact h)
theorem vg_1_11 {x idx : Nat} (own' : String) (ho : own = own') (hx : x < vcnt 1) (hl : Cond.fieldLink own' idx RX2 "outcome" "I" ∈ vtb) (hd : decode bs pc = .ok (.getfield idx, 3))
    (h : VB l g own bs nL rt R ce sl E Qf (pc + 3) ll (vI (P 1 x 11) :: st) (vjn P Q)) : VB l g own bs nL rt R ce sl E Qf pc ll (vR 1 x :: st) (vjn P Q) :=
  vr_get own' (k := 1) (j := 11) (v := vI (P 1 x 11)) (ci := 2) (C := RX2) (T := TX2) (N := 12) ho hx rfl rfl inv_X2 (by decide) ⟨rfl, rfl, rfl⟩ hl rfl hd h
theorem vp_1_11 {x idx : Nat} {v : Int32} {P1 : VP} (own' : String) (ho : own = own') (hx : x < vcnt 1) (hl : Cond.fieldLink own' idx RX2 "outcome" "I" ∈ vtb) (hP : P1 = vup P 1 x 11 v) (hd : decode bs pc = .ok (.putfield idx, 3))
    (h : VB l g own bs nL rt R ce sl E Qf (pc + 3) ll st (vjn P1 Q)) : VB l g own bs nL rt R ce sl E Qf pc ll (vI v :: vR 1 x :: st) (vjn P Q) :=
  vr_put own' (k := 1) (j := 11) (ci := 2) (C := RX2) (T := TX2) (N := 12) (ty := .int) (ty0 := tyX2) ho hx rfl rfl inv_X2 tyX2_ok nmX2 (by decide) ⟨rfl, rfl, rfl⟩ hl rfl rfl rfl rfl (Nat.le_of_ble_eq_true rfl) (by simp [venc, vup]) hd (by rw [vup_lo (k := 1) rfl P Q, ← hP]; exact h)
theorem vg_7_0 {x idx : Nat} (own' : String) (ho : own = own') (hx : x < vcnt 7) (hl : Cond.fieldLink own' idx RX3 "there" "Z" ∈ vtb) (hd : decode bs pc = .ok (.getfield idx, 3))
    (h : VB l g own bs nL rt R ce sl E Qf (pc + 3) ll (vI (P 7 x 0) :: st) (vjn P Q)) : VB l g own bs nL rt R ce sl E Qf pc ll (vR 7 x :: st) (vjn P Q) :=
  vr_get own' (k := 7) (j := 0) (v := vI (P 7 x 0)) (ci := 3) (C := RX3) (T := TX3) (N := 13) ho hx rfl rfl inv_X3 (by decide) ⟨rfl, rfl, rfl⟩ hl rfl hd h
theorem vp_7_0 {x idx : Nat} {v : Int32} {P1 : VP} (own' : String) (ho : own = own') (hx : x < vcnt 7) (hl : Cond.fieldLink own' idx RX3 "there" "Z" ∈ vtb) (hv : v = 0 ∨ v = 1) (hP : P1 = vup P 7 x 0 v) (hd : decode bs pc = .ok (.putfield idx, 3))
    (h : VB l g own bs nL rt R ce sl E Qf (pc + 3) ll st (vjn P1 Q)) : VB l g own bs nL rt R ce sl E Qf pc ll (vI v :: vR 7 x :: st) (vjn P Q) :=
  vr_put own' (k := 7) (j := 0) (ci := 3) (C := RX3) (T := TX3) (N := 13) (ty := .boolean) (ty0 := tyX3) ho hx rfl rfl inv_X3 tyX3_ok nmX3 (by decide) ⟨rfl, rfl, rfl⟩ hl rfl rfl (by rcases hv with rfl | rfl <;> rfl) (by rcases hv with rfl | rfl <;> rfl) (Nat.le_of_ble_eq_true rfl) (by simp [venc, vup]) hd (by rw [vup_lo (k := 7) rfl P Q, ← hP]; exact h)
theorem vg_7_1 {x idx : Nat} (own' : String) (ho : own = own') (hx : x < vcnt 7) (hl : Cond.fieldLink own' idx RX3 "directory" "I" ∈ vtb) (hd : decode bs pc = .ok (.getfield idx, 3))
    (h : VB l g own bs nL rt R ce sl E Qf (pc + 3) ll (vI (P 7 x 1) :: st) (vjn P Q)) : VB l g own bs nL rt R ce sl E Qf pc ll (vR 7 x :: st) (vjn P Q) :=
  vr_get own' (k := 7) (j := 1) (v := vI (P 7 x 1)) (ci := 3) (C := RX3) (T := TX3) (N := 13) ho hx rfl rfl inv_X3 (by decide) ⟨rfl, rfl, rfl⟩ hl rfl hd h
theorem vp_7_1 {x idx : Nat} {v : Int32} {P1 : VP} (own' : String) (ho : own = own') (hx : x < vcnt 7) (hl : Cond.fieldLink own' idx RX3 "directory" "I" ∈ vtb) (hP : P1 = vup P 7 x 1 v) (hd : decode bs pc = .ok (.putfield idx, 3))
    (h : VB l g own bs nL rt R ce sl E Qf (pc + 3) ll st (vjn P1 Q)) : VB l g own bs nL rt R ce sl E Qf pc ll (vI v :: vR 7 x :: st) (vjn P Q) :=
  vr_put own' (k := 7) (j := 1) (ci := 3) (C := RX3) (T := TX3) (N := 13) (ty := .int) (ty0 := tyX3) ho hx rfl rfl inv_X3 tyX3_ok nmX3 (by decide) ⟨rfl, rfl, rfl⟩ hl rfl rfl rfl rfl (Nat.le_of_ble_eq_true rfl) (by simp [venc, vup]) hd (by rw [vup_lo (k := 7) rfl P Q, ← hP]; exact h)
theorem vg_7_2 {x idx : Nat} (own' : String) (ho : own = own') (hx : x < vcnt 7) (hl : Cond.fieldLink own' idx RX3 "name" "I" ∈ vtb) (hd : decode bs pc = .ok (.getfield idx, 3))
    (h : VB l g own bs nL rt R ce sl E Qf (pc + 3) ll (vI (P 7 x 2) :: st) (vjn P Q)) : VB l g own bs nL rt R ce sl E Qf pc ll (vR 7 x :: st) (vjn P Q) :=
  vr_get own' (k := 7) (j := 2) (v := vI (P 7 x 2)) (ci := 3) (C := RX3) (T := TX3) (N := 13) ho hx rfl rfl inv_X3 (by decide) ⟨rfl, rfl, rfl⟩ hl rfl hd h
theorem vp_7_2 {x idx : Nat} {v : Int32} {P1 : VP} (own' : String) (ho : own = own') (hx : x < vcnt 7) (hl : Cond.fieldLink own' idx RX3 "name" "I" ∈ vtb) (hP : P1 = vup P 7 x 2 v) (hd : decode bs pc = .ok (.putfield idx, 3))
    (h : VB l g own bs nL rt R ce sl E Qf (pc + 3) ll st (vjn P1 Q)) : VB l g own bs nL rt R ce sl E Qf pc ll (vI v :: vR 7 x :: st) (vjn P Q) :=
  vr_put own' (k := 7) (j := 2) (ci := 3) (C := RX3) (T := TX3) (N := 13) (ty := .int) (ty0 := tyX3) ho hx rfl rfl inv_X3 tyX3_ok nmX3 (by decide) ⟨rfl, rfl, rfl⟩ hl rfl rfl rfl rfl (Nat.le_of_ble_eq_true rfl) (by simp [venc, vup]) hd (by rw [vup_lo (k := 7) rfl P Q, ← hP]; exact h)
theorem vg_7_3 {x idx : Nat} (own' : String) (ho : own = own') (hx : x < vcnt 7) (hl : Cond.fieldLink own' idx RX3 "serial" "I" ∈ vtb) (hd : decode bs pc = .ok (.getfield idx, 3))
    (h : VB l g own bs nL rt R ce sl E Qf (pc + 3) ll (vI (P 7 x 3) :: st) (vjn P Q)) : VB l g own bs nL rt R ce sl E Qf pc ll (vR 7 x :: st) (vjn P Q) :=
  vr_get own' (k := 7) (j := 3) (v := vI (P 7 x 3)) (ci := 3) (C := RX3) (T := TX3) (N := 13) ho hx rfl rfl inv_X3 (by decide) ⟨rfl, rfl, rfl⟩ hl rfl hd h
theorem vp_7_3 {x idx : Nat} {v : Int32} {P1 : VP} (own' : String) (ho : own = own') (hx : x < vcnt 7) (hl : Cond.fieldLink own' idx RX3 "serial" "I" ∈ vtb) (hP : P1 = vup P 7 x 3 v) (hd : decode bs pc = .ok (.putfield idx, 3))
    (h : VB l g own bs nL rt R ce sl E Qf (pc + 3) ll st (vjn P1 Q)) : VB l g own bs nL rt R ce sl E Qf pc ll (vI v :: vR 7 x :: st) (vjn P Q) :=
  vr_put own' (k := 7) (j := 3) (ci := 3) (C := RX3) (T := TX3) (N := 13) (ty := .int) (ty0 := tyX3) ho hx rfl rfl inv_X3 tyX3_ok nmX3 (by decide) ⟨rfl, rfl, rfl⟩ hl rfl rfl rfl rfl (Nat.le_of_ble_eq_true rfl) (by simp [venc, vup]) hd (by rw [vup_lo (k := 7) rfl P Q, ← hP]; exact h)
theorem vg_7_4 {x idx : Nat} (own' : String) (ho : own = own') (hx : x < vcnt 7) (hl : Cond.fieldLink own' idx RX3 "length" "I" ∈ vtb) (hd : decode bs pc = .ok (.getfield idx, 3))
    (h : VB l g own bs nL rt R ce sl E Qf (pc + 3) ll (vI (P 7 x 4) :: st) (vjn P Q)) : VB l g own bs nL rt R ce sl E Qf pc ll (vR 7 x :: st) (vjn P Q) :=
  vr_get own' (k := 7) (j := 4) (v := vI (P 7 x 4)) (ci := 3) (C := RX3) (T := TX3) (N := 13) ho hx rfl rfl inv_X3 (by decide) ⟨rfl, rfl, rfl⟩ hl rfl hd h
theorem vp_7_4 {x idx : Nat} {v : Int32} {P1 : VP} (own' : String) (ho : own = own') (hx : x < vcnt 7) (hl : Cond.fieldLink own' idx RX3 "length" "I" ∈ vtb) (hP : P1 = vup P 7 x 4 v) (hd : decode bs pc = .ok (.putfield idx, 3))
    (h : VB l g own bs nL rt R ce sl E Qf (pc + 3) ll st (vjn P1 Q)) : VB l g own bs nL rt R ce sl E Qf pc ll (vI v :: vR 7 x :: st) (vjn P Q) :=
  vr_put own' (k := 7) (j := 4) (ci := 3) (C := RX3) (T := TX3) (N := 13) (ty := .int) (ty0 := tyX3) ho hx rfl rfl inv_X3 tyX3_ok nmX3 (by decide) ⟨rfl, rfl, rfl⟩ hl rfl rfl rfl rfl (Nat.le_of_ble_eq_true rfl) (by simp [venc, vup]) hd (by rw [vup_lo (k := 7) rfl P Q, ← hP]; exact h)
theorem vg_7_5 {x idx : Nat} (own' : String) (ho : own = own') (hx : x < vcnt 7) (hl : Cond.fieldLink own' idx RX3 "r1" "I" ∈ vtb) (hd : decode bs pc = .ok (.getfield idx, 3))
    (h : VB l g own bs nL rt R ce sl E Qf (pc + 3) ll (vI (P 7 x 5) :: st) (vjn P Q)) : VB l g own bs nL rt R ce sl E Qf pc ll (vR 7 x :: st) (vjn P Q) :=
  vr_get own' (k := 7) (j := 5) (v := vI (P 7 x 5)) (ci := 3) (C := RX3) (T := TX3) (N := 13) ho hx rfl rfl inv_X3 (by decide) ⟨rfl, rfl, rfl⟩ hl rfl hd h
theorem vp_7_5 {x idx : Nat} {v : Int32} {P1 : VP} (own' : String) (ho : own = own') (hx : x < vcnt 7) (hl : Cond.fieldLink own' idx RX3 "r1" "I" ∈ vtb) (hP : P1 = vup P 7 x 5 v) (hd : decode bs pc = .ok (.putfield idx, 3))
    (h : VB l g own bs nL rt R ce sl E Qf (pc + 3) ll st (vjn P1 Q)) : VB l g own bs nL rt R ce sl E Qf pc ll (vI v :: vR 7 x :: st) (vjn P Q) :=
  vr_put own' (k := 7) (j := 5) (ci := 3) (C := RX3) (T := TX3) (N := 13) (ty := .int) (ty0 := tyX3) ho hx rfl rfl inv_X3 tyX3_ok nmX3 (by decide) ⟨rfl, rfl, rfl⟩ hl rfl rfl rfl rfl (Nat.le_of_ble_eq_true rfl) (by simp [venc, vup]) hd (by rw [vup_lo (k := 7) rfl P Q, ← hP]; exact h)
theorem vg_7_6 {x idx : Nat} (own' : String) (ho : own = own') (hx : x < vcnt 7) (hl : Cond.fieldLink own' idx RX3 "r2" "I" ∈ vtb) (hd : decode bs pc = .ok (.getfield idx, 3))
    (h : VB l g own bs nL rt R ce sl E Qf (pc + 3) ll (vI (P 7 x 6) :: st) (vjn P Q)) : VB l g own bs nL rt R ce sl E Qf pc ll (vR 7 x :: st) (vjn P Q) :=
  vr_get own' (k := 7) (j := 6) (v := vI (P 7 x 6)) (ci := 3) (C := RX3) (T := TX3) (N := 13) ho hx rfl rfl inv_X3 (by decide) ⟨rfl, rfl, rfl⟩ hl rfl hd h
theorem vp_7_6 {x idx : Nat} {v : Int32} {P1 : VP} (own' : String) (ho : own = own') (hx : x < vcnt 7) (hl : Cond.fieldLink own' idx RX3 "r2" "I" ∈ vtb) (hP : P1 = vup P 7 x 6 v) (hd : decode bs pc = .ok (.putfield idx, 3))
    (h : VB l g own bs nL rt R ce sl E Qf (pc + 3) ll st (vjn P1 Q)) : VB l g own bs nL rt R ce sl E Qf pc ll (vI v :: vR 7 x :: st) (vjn P Q) :=
  vr_put own' (k := 7) (j := 6) (ci := 3) (C := RX3) (T := TX3) (N := 13) (ty := .int) (ty0 := tyX3) ho hx rfl rfl inv_X3 tyX3_ok nmX3 (by decide) ⟨rfl, rfl, rfl⟩ hl rfl rfl rfl rfl (Nat.le_of_ble_eq_true rfl) (by simp [venc, vup]) hd (by rw [vup_lo (k := 7) rfl P Q, ← hP]; exact h)
theorem vg_7_7 {x idx : Nat} (own' : String) (ho : own = own') (hx : x < vcnt 7) (hl : Cond.fieldLink own' idx RX3 "r3" "I" ∈ vtb) (hd : decode bs pc = .ok (.getfield idx, 3))
    (h : VB l g own bs nL rt R ce sl E Qf (pc + 3) ll (vI (P 7 x 7) :: st) (vjn P Q)) : VB l g own bs nL rt R ce sl E Qf pc ll (vR 7 x :: st) (vjn P Q) :=
  vr_get own' (k := 7) (j := 7) (v := vI (P 7 x 7)) (ci := 3) (C := RX3) (T := TX3) (N := 13) ho hx rfl rfl inv_X3 (by decide) ⟨rfl, rfl, rfl⟩ hl rfl hd h
theorem vp_7_7 {x idx : Nat} {v : Int32} {P1 : VP} (own' : String) (ho : own = own') (hx : x < vcnt 7) (hl : Cond.fieldLink own' idx RX3 "r3" "I" ∈ vtb) (hP : P1 = vup P 7 x 7 v) (hd : decode bs pc = .ok (.putfield idx, 3))
    (h : VB l g own bs nL rt R ce sl E Qf (pc + 3) ll st (vjn P1 Q)) : VB l g own bs nL rt R ce sl E Qf pc ll (vI v :: vR 7 x :: st) (vjn P Q) :=
  vr_put own' (k := 7) (j := 7) (ci := 3) (C := RX3) (T := TX3) (N := 13) (ty := .int) (ty0 := tyX3) ho hx rfl rfl inv_X3 tyX3_ok nmX3 (by decide) ⟨rfl, rfl, rfl⟩ hl rfl rfl rfl rfl (Nat.le_of_ble_eq_true rfl) (by simp [venc, vup]) hd (by rw [vup_lo (k := 7) rfl P Q, ← hP]; exact h)
theorem vg_7_8 {x idx : Nat} (own' : String) (ho : own = own') (hx : x < vcnt 7) (hl : Cond.fieldLink own' idx RX3 "may" "I" ∈ vtb) (hd : decode bs pc = .ok (.getfield idx, 3))
    (h : VB l g own bs nL rt R ce sl E Qf (pc + 3) ll (vI (P 7 x 8) :: st) (vjn P Q)) : VB l g own bs nL rt R ce sl E Qf pc ll (vR 7 x :: st) (vjn P Q) :=
  vr_get own' (k := 7) (j := 8) (v := vI (P 7 x 8)) (ci := 3) (C := RX3) (T := TX3) (N := 13) ho hx rfl rfl inv_X3 (by decide) ⟨rfl, rfl, rfl⟩ hl rfl hd h
theorem vp_7_8 {x idx : Nat} {v : Int32} {P1 : VP} (own' : String) (ho : own = own') (hx : x < vcnt 7) (hl : Cond.fieldLink own' idx RX3 "may" "I" ∈ vtb) (hP : P1 = vup P 7 x 8 v) (hd : decode bs pc = .ok (.putfield idx, 3))
    (h : VB l g own bs nL rt R ce sl E Qf (pc + 3) ll st (vjn P1 Q)) : VB l g own bs nL rt R ce sl E Qf pc ll (vI v :: vR 7 x :: st) (vjn P Q) :=
  vr_put own' (k := 7) (j := 8) (ci := 3) (C := RX3) (T := TX3) (N := 13) (ty := .int) (ty0 := tyX3) ho hx rfl rfl inv_X3 tyX3_ok nmX3 (by decide) ⟨rfl, rfl, rfl⟩ hl rfl rfl rfl rfl (Nat.le_of_ble_eq_true rfl) (by simp [venc, vup]) hd (by rw [vup_lo (k := 7) rfl P Q, ← hP]; exact h)
theorem vg_7_9 {x idx : Nat} (own' : String) (ho : own = own') (hx : x < vcnt 7) (hl : Cond.fieldLink own' idx RX3 "gates" "I" ∈ vtb) (hd : decode bs pc = .ok (.getfield idx, 3))
    (h : VB l g own bs nL rt R ce sl E Qf (pc + 3) ll (vI (P 7 x 9) :: st) (vjn P Q)) : VB l g own bs nL rt R ce sl E Qf pc ll (vR 7 x :: st) (vjn P Q) :=
  vr_get own' (k := 7) (j := 9) (v := vI (P 7 x 9)) (ci := 3) (C := RX3) (T := TX3) (N := 13) ho hx rfl rfl inv_X3 (by decide) ⟨rfl, rfl, rfl⟩ hl rfl hd h
theorem vp_7_9 {x idx : Nat} {v : Int32} {P1 : VP} (own' : String) (ho : own = own') (hx : x < vcnt 7) (hl : Cond.fieldLink own' idx RX3 "gates" "I" ∈ vtb) (hP : P1 = vup P 7 x 9 v) (hd : decode bs pc = .ok (.putfield idx, 3))
    (h : VB l g own bs nL rt R ce sl E Qf (pc + 3) ll st (vjn P1 Q)) : VB l g own bs nL rt R ce sl E Qf pc ll (vI v :: vR 7 x :: st) (vjn P Q) :=
  vr_put own' (k := 7) (j := 9) (ci := 3) (C := RX3) (T := TX3) (N := 13) (ty := .int) (ty0 := tyX3) ho hx rfl rfl inv_X3 tyX3_ok nmX3 (by decide) ⟨rfl, rfl, rfl⟩ hl rfl rfl rfl rfl (Nat.le_of_ble_eq_true rfl) (by simp [venc, vup]) hd (by rw [vup_lo (k := 7) rfl P Q, ← hP]; exact h)
theorem vg_7_10 {x idx : Nat} (own' : String) (ho : own = own') (hx : x < vcnt 7) (hl : Cond.fieldLink own' idx RX3 "kinds" "[I" ∈ vtb) (hd : decode bs pc = .ok (.getfield idx, 3))
    (h : VB l g own bs nL rt R ce sl E Qf (pc + 3) ll (vR 8 x :: st) (vjn P Q)) : VB l g own bs nL rt R ce sl E Qf pc ll (vR 7 x :: st) (vjn P Q) :=
  vr_get own' (k := 7) (j := 10) (v := vR 8 x) (ci := 3) (C := RX3) (T := TX3) (N := 13) ho hx rfl rfl inv_X3 (by decide) ⟨rfl, rfl, rfl⟩ hl rfl hd h
theorem vg_7_11 {x idx : Nat} (own' : String) (ho : own = own') (hx : x < vcnt 7) (hl : Cond.fieldLink own' idx RX3 "values" "[I" ∈ vtb) (hd : decode bs pc = .ok (.getfield idx, 3))
    (h : VB l g own bs nL rt R ce sl E Qf (pc + 3) ll (vR 9 x :: st) (vjn P Q)) : VB l g own bs nL rt R ce sl E Qf pc ll (vR 7 x :: st) (vjn P Q) :=
  vr_get own' (k := 7) (j := 11) (v := vR 9 x) (ci := 3) (C := RX3) (T := TX3) (N := 13) ho hx rfl rfl inv_X3 (by decide) ⟨rfl, rfl, rfl⟩ hl rfl hd h
theorem vg_7_12 {x idx : Nat} (own' : String) (ho : own = own') (hx : x < vcnt 7) (hl : Cond.fieldLink own' idx RX3 "knowns" "[I" ∈ vtb) (hd : decode bs pc = .ok (.getfield idx, 3))
    (h : VB l g own bs nL rt R ce sl E Qf (pc + 3) ll (vR 10 x :: st) (vjn P Q)) : VB l g own bs nL rt R ce sl E Qf pc ll (vR 7 x :: st) (vjn P Q) :=
  vr_get own' (k := 7) (j := 12) (v := vR 10 x) (ci := 3) (C := RX3) (T := TX3) (N := 13) ho hx rfl rfl inv_X3 (by decide) ⟨rfl, rfl, rfl⟩ hl rfl hd h
theorem vg_11_0 {x idx : Nat} (own' : String) (ho : own = own') (hx : x < vcnt 11) (hl : Cond.fieldLink own' idx RX4 "heights" "[I" ∈ vtb) (hd : decode bs pc = .ok (.getfield idx, 3))
    (h : VB l g own bs nL rt R ce sl E Qf (pc + 3) ll (vR 12 x :: st) (vjn P Q)) : VB l g own bs nL rt R ce sl E Qf pc ll (vR 11 x :: st) (vjn P Q) :=
  vr_get own' (k := 11) (j := 0) (v := vR 12 x) (ci := 4) (C := RX4) (T := TX4) (N := 2) ho hx rfl rfl inv_X4 (by decide) ⟨rfl, rfl, rfl⟩ hl rfl hd h
theorem vg_11_1 {x idx : Nat} (own' : String) (ho : own = own') (hx : x < vcnt 11) (hl : Cond.fieldLink own' idx RX4 "frames" "[LRingGates$Frame;" ∈ vtb) (hd : decode bs pc = .ok (.getfield idx, 3))
    (h : VB l g own bs nL rt R ce sl E Qf (pc + 3) ll (vR 13 x :: st) (vjn P Q)) : VB l g own bs nL rt R ce sl E Qf pc ll (vR 11 x :: st) (vjn P Q) :=
  vr_get own' (k := 11) (j := 1) (v := vR 13 x) (ci := 4) (C := RX4) (T := TX4) (N := 2) ho hx rfl rfl inv_X4 (by decide) ⟨rfl, rfl, rfl⟩ hl rfl hd h
theorem vg_17_0 {x idx : Nat} (own' : String) (ho : own = own') (hx : x < vcnt 17) (hl : Cond.fieldLink own' idx RX5 "bytes" "[I" ∈ vtb) (hd : decode bs pc = .ok (.getfield idx, 3))
    (h : VB l g own bs nL rt R ce sl E Qf (pc + 3) ll (vR 18 x :: st) (vjn P Q)) : VB l g own bs nL rt R ce sl E Qf pc ll (vR 17 x :: st) (vjn P Q) :=
  vr_get own' (k := 17) (j := 0) (v := vR 18 x) (ci := 5) (C := RX5) (T := TX5) (N := 8) ho hx rfl rfl inv_X5 (by decide) ⟨rfl, rfl, rfl⟩ hl rfl hd h
theorem vg_17_1 {x idx : Nat} (own' : String) (ho : own = own') (hx : x < vcnt 17) (hl : Cond.fieldLink own' idx RX5 "length" "I" ∈ vtb) (hd : decode bs pc = .ok (.getfield idx, 3))
    (h : VB l g own bs nL rt R ce sl E Qf (pc + 3) ll (vI (P 17 x 1) :: st) (vjn P Q)) : VB l g own bs nL rt R ce sl E Qf pc ll (vR 17 x :: st) (vjn P Q) :=
  vr_get own' (k := 17) (j := 1) (v := vI (P 17 x 1)) (ci := 5) (C := RX5) (T := TX5) (N := 8) ho hx rfl rfl inv_X5 (by decide) ⟨rfl, rfl, rfl⟩ hl rfl hd h
theorem vp_17_1 {x idx : Nat} {v : Int32} {P1 : VP} (own' : String) (ho : own = own') (hx : x < vcnt 17) (hl : Cond.fieldLink own' idx RX5 "length" "I" ∈ vtb) (hP : P1 = vup P 17 x 1 v) (hd : decode bs pc = .ok (.putfield idx, 3))
    (h : VB l g own bs nL rt R ce sl E Qf (pc + 3) ll st (vjn P1 Q)) : VB l g own bs nL rt R ce sl E Qf pc ll (vI v :: vR 17 x :: st) (vjn P Q) :=
  vr_put own' (k := 17) (j := 1) (ci := 5) (C := RX5) (T := TX5) (N := 8) (ty := .int) (ty0 := tyX5) ho hx rfl rfl inv_X5 tyX5_ok nmX5 (by decide) ⟨rfl, rfl, rfl⟩ hl rfl rfl rfl rfl (Nat.le_of_ble_eq_true rfl) (by simp [venc, vup]) hd (by rw [vup_lo (k := 17) rfl P Q, ← hP]; exact h)
theorem vg_17_2 {x idx : Nat} (own' : String) (ho : own = own') (hx : x < vcnt 17) (hl : Cond.fieldLink own' idx RX5 "words" "I" ∈ vtb) (hd : decode bs pc = .ok (.getfield idx, 3))
    (h : VB l g own bs nL rt R ce sl E Qf (pc + 3) ll (vI (P 17 x 2) :: st) (vjn P Q)) : VB l g own bs nL rt R ce sl E Qf pc ll (vR 17 x :: st) (vjn P Q) :=
  vr_get own' (k := 17) (j := 2) (v := vI (P 17 x 2)) (ci := 5) (C := RX5) (T := TX5) (N := 8) ho hx rfl rfl inv_X5 (by decide) ⟨rfl, rfl, rfl⟩ hl rfl hd h
theorem vp_17_2 {x idx : Nat} {v : Int32} {P1 : VP} (own' : String) (ho : own = own') (hx : x < vcnt 17) (hl : Cond.fieldLink own' idx RX5 "words" "I" ∈ vtb) (hP : P1 = vup P 17 x 2 v) (hd : decode bs pc = .ok (.putfield idx, 3))
    (h : VB l g own bs nL rt R ce sl E Qf (pc + 3) ll st (vjn P1 Q)) : VB l g own bs nL rt R ce sl E Qf pc ll (vI v :: vR 17 x :: st) (vjn P Q) :=
  vr_put own' (k := 17) (j := 2) (ci := 5) (C := RX5) (T := TX5) (N := 8) (ty := .int) (ty0 := tyX5) ho hx rfl rfl inv_X5 tyX5_ok nmX5 (by decide) ⟨rfl, rfl, rfl⟩ hl rfl rfl rfl rfl (Nat.le_of_ble_eq_true rfl) (by simp [venc, vup]) hd (by rw [vup_lo (k := 17) rfl P Q, ← hP]; exact h)
theorem vg_17_3 {x idx : Nat} (own' : String) (ho : own = own') (hx : x < vcnt 17) (hl : Cond.fieldLink own' idx RX5 "kinds" "[I" ∈ vtb) (hd : decode bs pc = .ok (.getfield idx, 3))
    (h : VB l g own bs nL rt R ce sl E Qf (pc + 3) ll (vR 19 x :: st) (vjn P Q)) : VB l g own bs nL rt R ce sl E Qf pc ll (vR 17 x :: st) (vjn P Q) :=
  vr_get own' (k := 17) (j := 3) (v := vR 19 x) (ci := 5) (C := RX5) (T := TX5) (N := 8) ho hx rfl rfl inv_X5 (by decide) ⟨rfl, rfl, rfl⟩ hl rfl hd h
theorem vg_17_4 {x idx : Nat} (own' : String) (ho : own = own') (hx : x < vcnt 17) (hl : Cond.fieldLink own' idx RX5 "values" "[I" ∈ vtb) (hd : decode bs pc = .ok (.getfield idx, 3))
    (h : VB l g own bs nL rt R ce sl E Qf (pc + 3) ll (vR 20 x :: st) (vjn P Q)) : VB l g own bs nL rt R ce sl E Qf pc ll (vR 17 x :: st) (vjn P Q) :=
  vr_get own' (k := 17) (j := 4) (v := vR 20 x) (ci := 5) (C := RX5) (T := TX5) (N := 8) ho hx rfl rfl inv_X5 (by decide) ⟨rfl, rfl, rfl⟩ hl rfl hd h
theorem vg_17_5 {x idx : Nat} (own' : String) (ho : own = own') (hx : x < vcnt 17) (hl : Cond.fieldLink own' idx RX5 "parts" "[I" ∈ vtb) (hd : decode bs pc = .ok (.getfield idx, 3))
    (h : VB l g own bs nL rt R ce sl E Qf (pc + 3) ll (vR 21 x :: st) (vjn P Q)) : VB l g own bs nL rt R ce sl E Qf pc ll (vR 17 x :: st) (vjn P Q) :=
  vr_get own' (k := 17) (j := 5) (v := vR 21 x) (ci := 5) (C := RX5) (T := TX5) (N := 8) ho hx rfl rfl inv_X5 (by decide) ⟨rfl, rfl, rfl⟩ hl rfl hd h
theorem vg_17_6 {x idx : Nat} (own' : String) (ho : own = own') (hx : x < vcnt 17) (hl : Cond.fieldLink own' idx RX5 "at" "I" ∈ vtb) (hd : decode bs pc = .ok (.getfield idx, 3))
    (h : VB l g own bs nL rt R ce sl E Qf (pc + 3) ll (vI (P 17 x 6) :: st) (vjn P Q)) : VB l g own bs nL rt R ce sl E Qf pc ll (vR 17 x :: st) (vjn P Q) :=
  vr_get own' (k := 17) (j := 6) (v := vI (P 17 x 6)) (ci := 5) (C := RX5) (T := TX5) (N := 8) ho hx rfl rfl inv_X5 (by decide) ⟨rfl, rfl, rfl⟩ hl rfl hd h
theorem vp_17_6 {x idx : Nat} {v : Int32} {P1 : VP} (own' : String) (ho : own = own') (hx : x < vcnt 17) (hl : Cond.fieldLink own' idx RX5 "at" "I" ∈ vtb) (hP : P1 = vup P 17 x 6 v) (hd : decode bs pc = .ok (.putfield idx, 3))
    (h : VB l g own bs nL rt R ce sl E Qf (pc + 3) ll st (vjn P1 Q)) : VB l g own bs nL rt R ce sl E Qf pc ll (vI v :: vR 17 x :: st) (vjn P Q) :=
  vr_put own' (k := 17) (j := 6) (ci := 5) (C := RX5) (T := TX5) (N := 8) (ty := .int) (ty0 := tyX5) ho hx rfl rfl inv_X5 tyX5_ok nmX5 (by decide) ⟨rfl, rfl, rfl⟩ hl rfl rfl rfl rfl (Nat.le_of_ble_eq_true rfl) (by simp [venc, vup]) hd (by rw [vup_lo (k := 17) rfl P Q, ← hP]; exact h)
theorem vg_17_7 {x idx : Nat} (own' : String) (ho : own = own') (hx : x < vcnt 17) (hl : Cond.fieldLink own' idx RX5 "fault" "I" ∈ vtb) (hd : decode bs pc = .ok (.getfield idx, 3))
    (h : VB l g own bs nL rt R ce sl E Qf (pc + 3) ll (vI (P 17 x 7) :: st) (vjn P Q)) : VB l g own bs nL rt R ce sl E Qf pc ll (vR 17 x :: st) (vjn P Q) :=
  vr_get own' (k := 17) (j := 7) (v := vI (P 17 x 7)) (ci := 5) (C := RX5) (T := TX5) (N := 8) ho hx rfl rfl inv_X5 (by decide) ⟨rfl, rfl, rfl⟩ hl rfl hd h
theorem vp_17_7 {x idx : Nat} {v : Int32} {P1 : VP} (own' : String) (ho : own = own') (hx : x < vcnt 17) (hl : Cond.fieldLink own' idx RX5 "fault" "I" ∈ vtb) (hP : P1 = vup P 17 x 7 v) (hd : decode bs pc = .ok (.putfield idx, 3))
    (h : VB l g own bs nL rt R ce sl E Qf (pc + 3) ll st (vjn P1 Q)) : VB l g own bs nL rt R ce sl E Qf pc ll (vI v :: vR 17 x :: st) (vjn P Q) :=
  vr_put own' (k := 17) (j := 7) (ci := 5) (C := RX5) (T := TX5) (N := 8) (ty := .int) (ty0 := tyX5) ho hx rfl rfl inv_X5 tyX5_ok nmX5 (by decide) ⟨rfl, rfl, rfl⟩ hl rfl rfl rfl rfl (Nat.le_of_ble_eq_true rfl) (by simp [venc, vup]) hd (by rw [vup_lo (k := 17) rfl P Q, ← hP]; exact h)
theorem vg_2_0 {x idx : Nat} (own' : String) (ho : own = own') (hx : x < vcnt 2) (hl : Cond.fieldLink own' idx RX6 "directories" "I" ∈ vtb) (hd : decode bs pc = .ok (.getfield idx, 3))
    (h : VB l g own bs nL rt R ce sl E Qf (pc + 3) ll (vI (P 2 x 0) :: st) (vjn P Q)) : VB l g own bs nL rt R ce sl E Qf pc ll (vR 2 x :: st) (vjn P Q) :=
  vr_get own' (k := 2) (j := 0) (v := vI (P 2 x 0)) (ci := 6) (C := RX6) (T := TX6) (N := 7) ho hx rfl rfl inv_X6 (by decide) ⟨rfl, rfl, rfl⟩ hl rfl hd h
theorem vp_2_0 {x idx : Nat} {v : Int32} {P1 : VP} (own' : String) (ho : own = own') (hx : x < vcnt 2) (hl : Cond.fieldLink own' idx RX6 "directories" "I" ∈ vtb) (hP : P1 = vup P 2 x 0 v) (hd : decode bs pc = .ok (.putfield idx, 3))
    (h : VB l g own bs nL rt R ce sl E Qf (pc + 3) ll st (vjn P1 Q)) : VB l g own bs nL rt R ce sl E Qf pc ll (vI v :: vR 2 x :: st) (vjn P Q) :=
  vr_put own' (k := 2) (j := 0) (ci := 6) (C := RX6) (T := TX6) (N := 7) (ty := .int) (ty0 := tyX6) ho hx rfl rfl inv_X6 tyX6_ok nmX6 (by decide) ⟨rfl, rfl, rfl⟩ hl rfl rfl rfl rfl (Nat.le_of_ble_eq_true rfl) (by simp [venc, vup]) hd (by rw [vup_lo (k := 2) rfl P Q, ← hP]; exact h)
theorem vg_2_1 {x idx : Nat} (own' : String) (ho : own = own') (hx : x < vcnt 2) (hl : Cond.fieldLink own' idx RX6 "aboves" "[I" ∈ vtb) (hd : decode bs pc = .ok (.getfield idx, 3))
    (h : VB l g own bs nL rt R ce sl E Qf (pc + 3) ll (vR 3 x :: st) (vjn P Q)) : VB l g own bs nL rt R ce sl E Qf pc ll (vR 2 x :: st) (vjn P Q) :=
  vr_get own' (k := 2) (j := 1) (v := vR 3 x) (ci := 6) (C := RX6) (T := TX6) (N := 7) ho hx rfl rfl inv_X6 (by decide) ⟨rfl, rfl, rfl⟩ hl rfl hd h
theorem vg_2_2 {x idx : Nat} (own' : String) (ho : own = own') (hx : x < vcnt 2) (hl : Cond.fieldLink own' idx RX6 "quotas" "[I" ∈ vtb) (hd : decode bs pc = .ok (.getfield idx, 3))
    (h : VB l g own bs nL rt R ce sl E Qf (pc + 3) ll (vR 4 x :: st) (vjn P Q)) : VB l g own bs nL rt R ce sl E Qf pc ll (vR 2 x :: st) (vjn P Q) :=
  vr_get own' (k := 2) (j := 2) (v := vR 4 x) (ci := 6) (C := RX6) (T := TX6) (N := 7) ho hx rfl rfl inv_X6 (by decide) ⟨rfl, rfl, rfl⟩ hl rfl hd h
theorem vg_2_3 {x idx : Nat} (own' : String) (ho : own = own') (hx : x < vcnt 2) (hl : Cond.fieldLink own' idx RX6 "rules" "I" ∈ vtb) (hd : decode bs pc = .ok (.getfield idx, 3))
    (h : VB l g own bs nL rt R ce sl E Qf (pc + 3) ll (vI (P 2 x 3) :: st) (vjn P Q)) : VB l g own bs nL rt R ce sl E Qf pc ll (vR 2 x :: st) (vjn P Q) :=
  vr_get own' (k := 2) (j := 3) (v := vI (P 2 x 3)) (ci := 6) (C := RX6) (T := TX6) (N := 7) ho hx rfl rfl inv_X6 (by decide) ⟨rfl, rfl, rfl⟩ hl rfl hd h
theorem vp_2_3 {x idx : Nat} {v : Int32} {P1 : VP} (own' : String) (ho : own = own') (hx : x < vcnt 2) (hl : Cond.fieldLink own' idx RX6 "rules" "I" ∈ vtb) (hP : P1 = vup P 2 x 3 v) (hd : decode bs pc = .ok (.putfield idx, 3))
    (h : VB l g own bs nL rt R ce sl E Qf (pc + 3) ll st (vjn P1 Q)) : VB l g own bs nL rt R ce sl E Qf pc ll (vI v :: vR 2 x :: st) (vjn P Q) :=
  vr_put own' (k := 2) (j := 3) (ci := 6) (C := RX6) (T := TX6) (N := 7) (ty := .int) (ty0 := tyX6) ho hx rfl rfl inv_X6 tyX6_ok nmX6 (by decide) ⟨rfl, rfl, rfl⟩ hl rfl rfl rfl rfl (Nat.le_of_ble_eq_true rfl) (by simp [venc, vup]) hd (by rw [vup_lo (k := 2) rfl P Q, ← hP]; exact h)
theorem vg_2_4 {x idx : Nat} (own' : String) (ho : own = own') (hx : x < vcnt 2) (hl : Cond.fieldLink own' idx RX6 "ruleRow" "[I" ∈ vtb) (hd : decode bs pc = .ok (.getfield idx, 3))
    (h : VB l g own bs nL rt R ce sl E Qf (pc + 3) ll (vR 5 x :: st) (vjn P Q)) : VB l g own bs nL rt R ce sl E Qf pc ll (vR 2 x :: st) (vjn P Q) :=
  vr_get own' (k := 2) (j := 4) (v := vR 5 x) (ci := 6) (C := RX6) (T := TX6) (N := 7) ho hx rfl rfl inv_X6 (by decide) ⟨rfl, rfl, rfl⟩ hl rfl hd h
theorem vg_2_5 {x idx : Nat} (own' : String) (ho : own = own') (hx : x < vcnt 2) (hl : Cond.fieldLink own' idx RX6 "made" "I" ∈ vtb) (hd : decode bs pc = .ok (.getfield idx, 3))
    (h : VB l g own bs nL rt R ce sl E Qf (pc + 3) ll (vI (P 2 x 5) :: st) (vjn P Q)) : VB l g own bs nL rt R ce sl E Qf pc ll (vR 2 x :: st) (vjn P Q) :=
  vr_get own' (k := 2) (j := 5) (v := vI (P 2 x 5)) (ci := 6) (C := RX6) (T := TX6) (N := 7) ho hx rfl rfl inv_X6 (by decide) ⟨rfl, rfl, rfl⟩ hl rfl hd h
theorem vp_2_5 {x idx : Nat} {v : Int32} {P1 : VP} (own' : String) (ho : own = own') (hx : x < vcnt 2) (hl : Cond.fieldLink own' idx RX6 "made" "I" ∈ vtb) (hP : P1 = vup P 2 x 5 v) (hd : decode bs pc = .ok (.putfield idx, 3))
    (h : VB l g own bs nL rt R ce sl E Qf (pc + 3) ll st (vjn P1 Q)) : VB l g own bs nL rt R ce sl E Qf pc ll (vI v :: vR 2 x :: st) (vjn P Q) :=
  vr_put own' (k := 2) (j := 5) (ci := 6) (C := RX6) (T := TX6) (N := 7) (ty := .int) (ty0 := tyX6) ho hx rfl rfl inv_X6 tyX6_ok nmX6 (by decide) ⟨rfl, rfl, rfl⟩ hl rfl rfl rfl rfl (Nat.le_of_ble_eq_true rfl) (by simp [venc, vup]) hd (by rw [vup_lo (k := 2) rfl P Q, ← hP]; exact h)
theorem vg_2_6 {x idx : Nat} (own' : String) (ho : own = own') (hx : x < vcnt 2) (hl : Cond.fieldLink own' idx RX6 "segments" "[LRingGates$Segment;" ∈ vtb) (hd : decode bs pc = .ok (.getfield idx, 3))
    (h : VB l g own bs nL rt R ce sl E Qf (pc + 3) ll (vR 6 x :: st) (vjn P Q)) : VB l g own bs nL rt R ce sl E Qf pc ll (vR 2 x :: st) (vjn P Q) :=
  vr_get own' (k := 2) (j := 6) (v := vR 6 x) (ci := 6) (C := RX6) (T := TX6) (N := 7) ho hx rfl rfl inv_X6 (by decide) ⟨rfl, rfl, rfl⟩ hl rfl hd h
theorem vg_0_0 {x idx : Nat} (own' : String) (ho : own = own') (hx : x < vcnt 0) (hl : Cond.fieldLink own' idx RX7 "now" "LRingGates$Machine;" ∈ vtb) (hd : decode bs pc = .ok (.getfield idx, 3))
    (h : VB l g own bs nL rt R ce sl E Qf (pc + 3) ll (vR 1 0 :: st) (vjn P Q)) : VB l g own bs nL rt R ce sl E Qf pc ll (vR 0 x :: st) (vjn P Q) :=
  vr_get own' (k := 0) (j := 0) (v := vR 1 0) (ci := 7) (C := RX7) (T := TX7) (N := 6) ho hx rfl rfl inv_X7 (by decide) ⟨rfl, rfl, rfl⟩ hl rfl hd h
theorem vg_0_1 {x idx : Nat} (own' : String) (ho : own = own') (hx : x < vcnt 0) (hl : Cond.fieldLink own' idx RX7 "kept" "LRingGates$Machine;" ∈ vtb) (hd : decode bs pc = .ok (.getfield idx, 3))
    (h : VB l g own bs nL rt R ce sl E Qf (pc + 3) ll (vR 1 1 :: st) (vjn P Q)) : VB l g own bs nL rt R ce sl E Qf pc ll (vR 0 x :: st) (vjn P Q) :=
  vr_get own' (k := 0) (j := 1) (v := vR 1 1) (ci := 7) (C := RX7) (T := TX7) (N := 6) ho hx rfl rfl inv_X7 (by decide) ⟨rfl, rfl, rfl⟩ hl rfl hd h
theorem vg_0_2 {x idx : Nat} (own' : String) (ho : own = own') (hx : x < vcnt 0) (hl : Cond.fieldLink own' idx RX7 "thought" "LRingGates$Machine;" ∈ vtb) (hd : decode bs pc = .ok (.getfield idx, 3))
    (h : VB l g own bs nL rt R ce sl E Qf (pc + 3) ll (vR 1 2 :: st) (vjn P Q)) : VB l g own bs nL rt R ce sl E Qf pc ll (vR 0 x :: st) (vjn P Q) :=
  vr_get own' (k := 0) (j := 2) (v := vR 1 2) (ci := 7) (C := RX7) (T := TX7) (N := 6) ho hx rfl rfl inv_X7 (by decide) ⟨rfl, rfl, rfl⟩ hl rfl hd h
theorem vg_0_3 {x idx : Nat} (own' : String) (ho : own = own') (hx : x < vcnt 0) (hl : Cond.fieldLink own' idx RX7 "tape" "LRingGates$Text;" ∈ vtb) (hd : decode bs pc = .ok (.getfield idx, 3))
    (h : VB l g own bs nL rt R ce sl E Qf (pc + 3) ll (vR 17 0 :: st) (vjn P Q)) : VB l g own bs nL rt R ce sl E Qf pc ll (vR 0 x :: st) (vjn P Q) :=
  vr_get own' (k := 0) (j := 3) (v := vR 17 0) (ci := 7) (C := RX7) (T := TX7) (N := 6) ho hx rfl rfl inv_X7 (by decide) ⟨rfl, rfl, rfl⟩ hl rfl hd h
theorem vg_0_4 {x idx : Nat} (own' : String) (ho : own = own') (hx : x < vcnt 0) (hl : Cond.fieldLink own' idx RX7 "isKept" "Z" ∈ vtb) (hd : decode bs pc = .ok (.getfield idx, 3))
    (h : VB l g own bs nL rt R ce sl E Qf (pc + 3) ll (vI (P 0 x 4) :: st) (vjn P Q)) : VB l g own bs nL rt R ce sl E Qf pc ll (vR 0 x :: st) (vjn P Q) :=
  vr_get own' (k := 0) (j := 4) (v := vI (P 0 x 4)) (ci := 7) (C := RX7) (T := TX7) (N := 6) ho hx rfl rfl inv_X7 (by decide) ⟨rfl, rfl, rfl⟩ hl rfl hd h
theorem vp_0_4 {x idx : Nat} {v : Int32} {P1 : VP} (own' : String) (ho : own = own') (hx : x < vcnt 0) (hl : Cond.fieldLink own' idx RX7 "isKept" "Z" ∈ vtb) (hv : v = 0 ∨ v = 1) (hP : P1 = vup P 0 x 4 v) (hd : decode bs pc = .ok (.putfield idx, 3))
    (h : VB l g own bs nL rt R ce sl E Qf (pc + 3) ll st (vjn P1 Q)) : VB l g own bs nL rt R ce sl E Qf pc ll (vI v :: vR 0 x :: st) (vjn P Q) :=
  vr_put own' (k := 0) (j := 4) (ci := 7) (C := RX7) (T := TX7) (N := 6) (ty := .boolean) (ty0 := tyX7) ho hx rfl rfl inv_X7 tyX7_ok nmX7 (by decide) ⟨rfl, rfl, rfl⟩ hl rfl rfl (by rcases hv with rfl | rfl <;> rfl) (by rcases hv with rfl | rfl <;> rfl) (Nat.le_of_ble_eq_true rfl) (by simp [venc, vup]) hd (by rw [vup_lo (k := 0) rfl P Q, ← hP]; exact h)
theorem vg_0_5 {x idx : Nat} (own' : String) (ho : own = own') (hx : x < vcnt 0) (hl : Cond.fieldLink own' idx RX7 "latestWhy" "I" ∈ vtb) (hd : decode bs pc = .ok (.getfield idx, 3))
    (h : VB l g own bs nL rt R ce sl E Qf (pc + 3) ll (vI (P 0 x 5) :: st) (vjn P Q)) : VB l g own bs nL rt R ce sl E Qf pc ll (vR 0 x :: st) (vjn P Q) :=
  vr_get own' (k := 0) (j := 5) (v := vI (P 0 x 5)) (ci := 7) (C := RX7) (T := TX7) (N := 6) ho hx rfl rfl inv_X7 (by decide) ⟨rfl, rfl, rfl⟩ hl rfl hd h
theorem vp_0_5 {x idx : Nat} {v : Int32} {P1 : VP} (own' : String) (ho : own = own') (hx : x < vcnt 0) (hl : Cond.fieldLink own' idx RX7 "latestWhy" "I" ∈ vtb) (hP : P1 = vup P 0 x 5 v) (hd : decode bs pc = .ok (.putfield idx, 3))
    (h : VB l g own bs nL rt R ce sl E Qf (pc + 3) ll st (vjn P1 Q)) : VB l g own bs nL rt R ce sl E Qf pc ll (vI v :: vR 0 x :: st) (vjn P Q) :=
  vr_put own' (k := 0) (j := 5) (ci := 7) (C := RX7) (T := TX7) (N := 6) (ty := .int) (ty0 := tyX7) ho hx rfl rfl inv_X7 tyX7_ok nmX7 (by decide) ⟨rfl, rfl, rfl⟩ hl rfl rfl rfl rfl (Nat.le_of_ble_eq_true rfl) (by simp [venc, vup]) hd (by rw [vup_lo (k := 0) rfl P Q, ← hP]; exact h)
theorem vg_22_0 {x idx : Nat} (own' : String) (ho : own = own') (hx : x < vcnt 22) (hl : Cond.fieldLink own' idx RX8 "now" "[I" ∈ vtb) (hd : decode bs pc = .ok (.getfield idx, 3))
    (h : VB l g own bs nL rt R ce sl E Qf (pc + 3) ll (vR 23 x :: st) (vjn P Q)) : VB l g own bs nL rt R ce sl E Qf pc ll (vR 22 x :: st) (vjn P Q) :=
  vr_get own' (k := 22) (j := 0) (v := vR 23 x) (ci := 8) (C := RX8) (T := TX8) (N := 18) ho hx rfl rfl inv_X8 (by decide) ⟨rfl, rfl, rfl⟩ hl rfl hd h
theorem vg_22_1 {x idx : Nat} (own' : String) (ho : own = own') (hx : x < vcnt 22) (hl : Cond.fieldLink own' idx RX8 "then" "[I" ∈ vtb) (hd : decode bs pc = .ok (.getfield idx, 3))
    (h : VB l g own bs nL rt R ce sl E Qf (pc + 3) ll (vR 24 x :: st) (vjn P Q)) : VB l g own bs nL rt R ce sl E Qf pc ll (vR 22 x :: st) (vjn P Q) :=
  vr_get own' (k := 22) (j := 1) (v := vR 24 x) (ci := 8) (C := RX8) (T := TX8) (N := 18) ho hx rfl rfl inv_X8 (by decide) ⟨rfl, rfl, rfl⟩ hl rfl hd h
theorem vg_22_2 {x idx : Nat} (own' : String) (ho : own = own') (hx : x < vcnt 22) (hl : Cond.fieldLink own' idx RX8 "kept" "[I" ∈ vtb) (hd : decode bs pc = .ok (.getfield idx, 3))
    (h : VB l g own bs nL rt R ce sl E Qf (pc + 3) ll (vR 25 x :: st) (vjn P Q)) : VB l g own bs nL rt R ce sl E Qf pc ll (vR 22 x :: st) (vjn P Q) :=
  vr_get own' (k := 22) (j := 2) (v := vR 25 x) (ci := 8) (C := RX8) (T := TX8) (N := 18) ho hx rfl rfl inv_X8 (by decide) ⟨rfl, rfl, rfl⟩ hl rfl hd h
theorem vg_22_3 {x idx : Nat} (own' : String) (ho : own = own') (hx : x < vcnt 22) (hl : Cond.fieldLink own' idx RX8 "hasImage" "Z" ∈ vtb) (hd : decode bs pc = .ok (.getfield idx, 3))
    (h : VB l g own bs nL rt R ce sl E Qf (pc + 3) ll (vI (Q 22 x 3) :: st) (vjn P Q)) : VB l g own bs nL rt R ce sl E Qf pc ll (vR 22 x :: st) (vjn P Q) :=
  vr_get own' (k := 22) (j := 3) (v := vI (Q 22 x 3)) (ci := 8) (C := RX8) (T := TX8) (N := 18) ho hx rfl rfl inv_X8 (by decide) ⟨rfl, rfl, rfl⟩ hl rfl hd h
theorem vp_22_3 {x idx : Nat} {v : Int32} {P1 : VP} (own' : String) (ho : own = own') (hx : x < vcnt 22) (hl : Cond.fieldLink own' idx RX8 "hasImage" "Z" ∈ vtb) (hv : v = 0 ∨ v = 1) (hP : P1 = vup Q 22 x 3 v) (hd : decode bs pc = .ok (.putfield idx, 3))
    (h : VB l g own bs nL rt R ce sl E Qf (pc + 3) ll st (vjn P P1)) : VB l g own bs nL rt R ce sl E Qf pc ll (vI v :: vR 22 x :: st) (vjn P Q) :=
  vr_put own' (k := 22) (j := 3) (ci := 8) (C := RX8) (T := TX8) (N := 18) (ty := .boolean) (ty0 := tyX8) ho hx rfl rfl inv_X8 tyX8_ok nmX8 (by decide) ⟨rfl, rfl, rfl⟩ hl rfl rfl (by rcases hv with rfl | rfl <;> rfl) (by rcases hv with rfl | rfl <;> rfl) (Nat.le_of_ble_eq_true rfl) (by simp [venc, vup]) hd (by rw [vup_hi (k := 22) rfl P Q, ← hP]; exact h)
theorem vg_22_4 {x idx : Nat} (own' : String) (ho : own = own') (hx : x < vcnt 22) (hl : Cond.fieldLink own' idx RX8 "why" "I" ∈ vtb) (hd : decode bs pc = .ok (.getfield idx, 3))
    (h : VB l g own bs nL rt R ce sl E Qf (pc + 3) ll (vI (Q 22 x 4) :: st) (vjn P Q)) : VB l g own bs nL rt R ce sl E Qf pc ll (vR 22 x :: st) (vjn P Q) :=
  vr_get own' (k := 22) (j := 4) (v := vI (Q 22 x 4)) (ci := 8) (C := RX8) (T := TX8) (N := 18) ho hx rfl rfl inv_X8 (by decide) ⟨rfl, rfl, rfl⟩ hl rfl hd h
theorem vp_22_4 {x idx : Nat} {v : Int32} {P1 : VP} (own' : String) (ho : own = own') (hx : x < vcnt 22) (hl : Cond.fieldLink own' idx RX8 "why" "I" ∈ vtb) (hP : P1 = vup Q 22 x 4 v) (hd : decode bs pc = .ok (.putfield idx, 3))
    (h : VB l g own bs nL rt R ce sl E Qf (pc + 3) ll st (vjn P P1)) : VB l g own bs nL rt R ce sl E Qf pc ll (vI v :: vR 22 x :: st) (vjn P Q) :=
  vr_put own' (k := 22) (j := 4) (ci := 8) (C := RX8) (T := TX8) (N := 18) (ty := .int) (ty0 := tyX8) ho hx rfl rfl inv_X8 tyX8_ok nmX8 (by decide) ⟨rfl, rfl, rfl⟩ hl rfl rfl rfl rfl (Nat.le_of_ble_eq_true rfl) (by simp [venc, vup]) hd (by rw [vup_hi (k := 22) rfl P Q, ← hP]; exact h)
theorem vg_22_5 {x idx : Nat} (own' : String) (ho : own = own') (hx : x < vcnt 22) (hl : Cond.fieldLink own' idx RX8 "tape" "[I" ∈ vtb) (hd : decode bs pc = .ok (.getfield idx, 3))
    (h : VB l g own bs nL rt R ce sl E Qf (pc + 3) ll (vR 26 x :: st) (vjn P Q)) : VB l g own bs nL rt R ce sl E Qf pc ll (vR 22 x :: st) (vjn P Q) :=
  vr_get own' (k := 22) (j := 5) (v := vR 26 x) (ci := 8) (C := RX8) (T := TX8) (N := 18) ho hx rfl rfl inv_X8 (by decide) ⟨rfl, rfl, rfl⟩ hl rfl hd h
theorem vg_22_6 {x idx : Nat} (own' : String) (ho : own = own') (hx : x < vcnt 22) (hl : Cond.fieldLink own' idx RX8 "taped" "I" ∈ vtb) (hd : decode bs pc = .ok (.getfield idx, 3))
    (h : VB l g own bs nL rt R ce sl E Qf (pc + 3) ll (vI (Q 22 x 6) :: st) (vjn P Q)) : VB l g own bs nL rt R ce sl E Qf pc ll (vR 22 x :: st) (vjn P Q) :=
  vr_get own' (k := 22) (j := 6) (v := vI (Q 22 x 6)) (ci := 8) (C := RX8) (T := TX8) (N := 18) ho hx rfl rfl inv_X8 (by decide) ⟨rfl, rfl, rfl⟩ hl rfl hd h
theorem vp_22_6 {x idx : Nat} {v : Int32} {P1 : VP} (own' : String) (ho : own = own') (hx : x < vcnt 22) (hl : Cond.fieldLink own' idx RX8 "taped" "I" ∈ vtb) (hP : P1 = vup Q 22 x 6 v) (hd : decode bs pc = .ok (.putfield idx, 3))
    (h : VB l g own bs nL rt R ce sl E Qf (pc + 3) ll st (vjn P P1)) : VB l g own bs nL rt R ce sl E Qf pc ll (vI v :: vR 22 x :: st) (vjn P Q) :=
  vr_put own' (k := 22) (j := 6) (ci := 8) (C := RX8) (T := TX8) (N := 18) (ty := .int) (ty0 := tyX8) ho hx rfl rfl inv_X8 tyX8_ok nmX8 (by decide) ⟨rfl, rfl, rfl⟩ hl rfl rfl rfl rfl (Nat.le_of_ble_eq_true rfl) (by simp [venc, vup]) hd (by rw [vup_hi (k := 22) rfl P Q, ← hP]; exact h)
theorem vg_22_7 {x idx : Nat} (own' : String) (ho : own = own') (hx : x < vcnt 22) (hl : Cond.fieldLink own' idx RX8 "length" "I" ∈ vtb) (hd : decode bs pc = .ok (.getfield idx, 3))
    (h : VB l g own bs nL rt R ce sl E Qf (pc + 3) ll (vI (Q 22 x 7) :: st) (vjn P Q)) : VB l g own bs nL rt R ce sl E Qf pc ll (vR 22 x :: st) (vjn P Q) :=
  vr_get own' (k := 22) (j := 7) (v := vI (Q 22 x 7)) (ci := 8) (C := RX8) (T := TX8) (N := 18) ho hx rfl rfl inv_X8 (by decide) ⟨rfl, rfl, rfl⟩ hl rfl hd h
theorem vp_22_7 {x idx : Nat} {v : Int32} {P1 : VP} (own' : String) (ho : own = own') (hx : x < vcnt 22) (hl : Cond.fieldLink own' idx RX8 "length" "I" ∈ vtb) (hP : P1 = vup Q 22 x 7 v) (hd : decode bs pc = .ok (.putfield idx, 3))
    (h : VB l g own bs nL rt R ce sl E Qf (pc + 3) ll st (vjn P P1)) : VB l g own bs nL rt R ce sl E Qf pc ll (vI v :: vR 22 x :: st) (vjn P Q) :=
  vr_put own' (k := 22) (j := 7) (ci := 8) (C := RX8) (T := TX8) (N := 18) (ty := .int) (ty0 := tyX8) ho hx rfl rfl inv_X8 tyX8_ok nmX8 (by decide) ⟨rfl, rfl, rfl⟩ hl rfl rfl rfl rfl (Nat.le_of_ble_eq_true rfl) (by simp [venc, vup]) hd (by rw [vup_hi (k := 22) rfl P Q, ← hP]; exact h)
theorem vg_22_8 {x idx : Nat} (own' : String) (ho : own = own') (hx : x < vcnt 22) (hl : Cond.fieldLink own' idx RX8 "place" "I" ∈ vtb) (hd : decode bs pc = .ok (.getfield idx, 3))
    (h : VB l g own bs nL rt R ce sl E Qf (pc + 3) ll (vI (Q 22 x 8) :: st) (vjn P Q)) : VB l g own bs nL rt R ce sl E Qf pc ll (vR 22 x :: st) (vjn P Q) :=
  vr_get own' (k := 22) (j := 8) (v := vI (Q 22 x 8)) (ci := 8) (C := RX8) (T := TX8) (N := 18) ho hx rfl rfl inv_X8 (by decide) ⟨rfl, rfl, rfl⟩ hl rfl hd h
theorem vp_22_8 {x idx : Nat} {v : Int32} {P1 : VP} (own' : String) (ho : own = own') (hx : x < vcnt 22) (hl : Cond.fieldLink own' idx RX8 "place" "I" ∈ vtb) (hP : P1 = vup Q 22 x 8 v) (hd : decode bs pc = .ok (.putfield idx, 3))
    (h : VB l g own bs nL rt R ce sl E Qf (pc + 3) ll st (vjn P P1)) : VB l g own bs nL rt R ce sl E Qf pc ll (vI v :: vR 22 x :: st) (vjn P Q) :=
  vr_put own' (k := 22) (j := 8) (ci := 8) (C := RX8) (T := TX8) (N := 18) (ty := .int) (ty0 := tyX8) ho hx rfl rfl inv_X8 tyX8_ok nmX8 (by decide) ⟨rfl, rfl, rfl⟩ hl rfl rfl rfl rfl (Nat.le_of_ble_eq_true rfl) (by simp [venc, vup]) hd (by rw [vup_hi (k := 22) rfl P Q, ← hP]; exact h)
theorem vg_22_9 {x idx : Nat} (own' : String) (ho : own = own') (hx : x < vcnt 22) (hl : Cond.fieldLink own' idx RX8 "fault" "I" ∈ vtb) (hd : decode bs pc = .ok (.getfield idx, 3))
    (h : VB l g own bs nL rt R ce sl E Qf (pc + 3) ll (vI (Q 22 x 9) :: st) (vjn P Q)) : VB l g own bs nL rt R ce sl E Qf pc ll (vR 22 x :: st) (vjn P Q) :=
  vr_get own' (k := 22) (j := 9) (v := vI (Q 22 x 9)) (ci := 8) (C := RX8) (T := TX8) (N := 18) ho hx rfl rfl inv_X8 (by decide) ⟨rfl, rfl, rfl⟩ hl rfl hd h
theorem vp_22_9 {x idx : Nat} {v : Int32} {P1 : VP} (own' : String) (ho : own = own') (hx : x < vcnt 22) (hl : Cond.fieldLink own' idx RX8 "fault" "I" ∈ vtb) (hP : P1 = vup Q 22 x 9 v) (hd : decode bs pc = .ok (.putfield idx, 3))
    (h : VB l g own bs nL rt R ce sl E Qf (pc + 3) ll st (vjn P P1)) : VB l g own bs nL rt R ce sl E Qf pc ll (vI v :: vR 22 x :: st) (vjn P Q) :=
  vr_put own' (k := 22) (j := 9) (ci := 8) (C := RX8) (T := TX8) (N := 18) (ty := .int) (ty0 := tyX8) ho hx rfl rfl inv_X8 tyX8_ok nmX8 (by decide) ⟨rfl, rfl, rfl⟩ hl rfl rfl rfl rfl (Nat.le_of_ble_eq_true rfl) (by simp [venc, vup]) hd (by rw [vup_hi (k := 22) rfl P Q, ← hP]; exact h)
theorem vg_22_10 {x idx : Nat} (own' : String) (ho : own = own') (hx : x < vcnt 22) (hl : Cond.fieldLink own' idx RX8 "lines" "[I" ∈ vtb) (hd : decode bs pc = .ok (.getfield idx, 3))
    (h : VB l g own bs nL rt R ce sl E Qf (pc + 3) ll (vR 27 x :: st) (vjn P Q)) : VB l g own bs nL rt R ce sl E Qf pc ll (vR 22 x :: st) (vjn P Q) :=
  vr_get own' (k := 22) (j := 10) (v := vR 27 x) (ci := 8) (C := RX8) (T := TX8) (N := 18) ho hx rfl rfl inv_X8 (by decide) ⟨rfl, rfl, rfl⟩ hl rfl hd h
theorem vg_22_11 {x idx : Nat} (own' : String) (ho : own = own') (hx : x < vcnt 22) (hl : Cond.fieldLink own' idx RX8 "lineMany" "I" ∈ vtb) (hd : decode bs pc = .ok (.getfield idx, 3))
    (h : VB l g own bs nL rt R ce sl E Qf (pc + 3) ll (vI (Q 22 x 11) :: st) (vjn P Q)) : VB l g own bs nL rt R ce sl E Qf pc ll (vR 22 x :: st) (vjn P Q) :=
  vr_get own' (k := 22) (j := 11) (v := vI (Q 22 x 11)) (ci := 8) (C := RX8) (T := TX8) (N := 18) ho hx rfl rfl inv_X8 (by decide) ⟨rfl, rfl, rfl⟩ hl rfl hd h
theorem vp_22_11 {x idx : Nat} {v : Int32} {P1 : VP} (own' : String) (ho : own = own') (hx : x < vcnt 22) (hl : Cond.fieldLink own' idx RX8 "lineMany" "I" ∈ vtb) (hP : P1 = vup Q 22 x 11 v) (hd : decode bs pc = .ok (.putfield idx, 3))
    (h : VB l g own bs nL rt R ce sl E Qf (pc + 3) ll st (vjn P P1)) : VB l g own bs nL rt R ce sl E Qf pc ll (vI v :: vR 22 x :: st) (vjn P Q) :=
  vr_put own' (k := 22) (j := 11) (ci := 8) (C := RX8) (T := TX8) (N := 18) (ty := .int) (ty0 := tyX8) ho hx rfl rfl inv_X8 tyX8_ok nmX8 (by decide) ⟨rfl, rfl, rfl⟩ hl rfl rfl rfl rfl (Nat.le_of_ble_eq_true rfl) (by simp [venc, vup]) hd (by rw [vup_hi (k := 22) rfl P Q, ← hP]; exact h)
theorem vg_22_12 {x idx : Nat} (own' : String) (ho : own = own') (hx : x < vcnt 22) (hl : Cond.fieldLink own' idx RX8 "acts" "[Ljava/lang/String;" ∈ vtb) (hd : decode bs pc = .ok (.getfield idx, 3))
    (h : VB l g own bs nL rt R ce sl E Qf (pc + 3) ll (vR 29 x :: st) (vjn P Q)) : VB l g own bs nL rt R ce sl E Qf pc ll (vR 22 x :: st) (vjn P Q) :=
  vr_get own' (k := 22) (j := 12) (v := vR 29 x) (ci := 8) (C := RX8) (T := TX8) (N := 18) ho hx rfl rfl inv_X8 (by decide) ⟨rfl, rfl, rfl⟩ hl rfl hd h
theorem vg_22_13 {x idx : Nat} (own' : String) (ho : own = own') (hx : x < vcnt 22) (hl : Cond.fieldLink own' idx RX8 "e" "I" ∈ vtb) (hd : decode bs pc = .ok (.getfield idx, 3))
    (h : VB l g own bs nL rt R ce sl E Qf (pc + 3) ll (vI (Q 22 x 13) :: st) (vjn P Q)) : VB l g own bs nL rt R ce sl E Qf pc ll (vR 22 x :: st) (vjn P Q) :=
  vr_get own' (k := 22) (j := 13) (v := vI (Q 22 x 13)) (ci := 8) (C := RX8) (T := TX8) (N := 18) ho hx rfl rfl inv_X8 (by decide) ⟨rfl, rfl, rfl⟩ hl rfl hd h
theorem vp_22_13 {x idx : Nat} {v : Int32} {P1 : VP} (own' : String) (ho : own = own') (hx : x < vcnt 22) (hl : Cond.fieldLink own' idx RX8 "e" "I" ∈ vtb) (hP : P1 = vup Q 22 x 13 v) (hd : decode bs pc = .ok (.putfield idx, 3))
    (h : VB l g own bs nL rt R ce sl E Qf (pc + 3) ll st (vjn P P1)) : VB l g own bs nL rt R ce sl E Qf pc ll (vI v :: vR 22 x :: st) (vjn P Q) :=
  vr_put own' (k := 22) (j := 13) (ci := 8) (C := RX8) (T := TX8) (N := 18) (ty := .int) (ty0 := tyX8) ho hx rfl rfl inv_X8 tyX8_ok nmX8 (by decide) ⟨rfl, rfl, rfl⟩ hl rfl rfl rfl rfl (Nat.le_of_ble_eq_true rfl) (by simp [venc, vup]) hd (by rw [vup_hi (k := 22) rfl P Q, ← hP]; exact h)
theorem vg_22_14 {x idx : Nat} (own' : String) (ho : own = own') (hx : x < vcnt 22) (hl : Cond.fieldLink own' idx RX8 "segmentCame" "I" ∈ vtb) (hd : decode bs pc = .ok (.getfield idx, 3))
    (h : VB l g own bs nL rt R ce sl E Qf (pc + 3) ll (vI (Q 22 x 14) :: st) (vjn P Q)) : VB l g own bs nL rt R ce sl E Qf pc ll (vR 22 x :: st) (vjn P Q) :=
  vr_get own' (k := 22) (j := 14) (v := vI (Q 22 x 14)) (ci := 8) (C := RX8) (T := TX8) (N := 18) ho hx rfl rfl inv_X8 (by decide) ⟨rfl, rfl, rfl⟩ hl rfl hd h
theorem vp_22_14 {x idx : Nat} {v : Int32} {P1 : VP} (own' : String) (ho : own = own') (hx : x < vcnt 22) (hl : Cond.fieldLink own' idx RX8 "segmentCame" "I" ∈ vtb) (hP : P1 = vup Q 22 x 14 v) (hd : decode bs pc = .ok (.putfield idx, 3))
    (h : VB l g own bs nL rt R ce sl E Qf (pc + 3) ll st (vjn P P1)) : VB l g own bs nL rt R ce sl E Qf pc ll (vI v :: vR 22 x :: st) (vjn P Q) :=
  vr_put own' (k := 22) (j := 14) (ci := 8) (C := RX8) (T := TX8) (N := 18) (ty := .int) (ty0 := tyX8) ho hx rfl rfl inv_X8 tyX8_ok nmX8 (by decide) ⟨rfl, rfl, rfl⟩ hl rfl rfl rfl rfl (Nat.le_of_ble_eq_true rfl) (by simp [venc, vup]) hd (by rw [vup_hi (k := 22) rfl P Q, ← hP]; exact h)
theorem vg_22_15 {x idx : Nat} (own' : String) (ho : own = own') (hx : x < vcnt 22) (hl : Cond.fieldLink own' idx RX8 "wordCame" "I" ∈ vtb) (hd : decode bs pc = .ok (.getfield idx, 3))
    (h : VB l g own bs nL rt R ce sl E Qf (pc + 3) ll (vI (Q 22 x 15) :: st) (vjn P Q)) : VB l g own bs nL rt R ce sl E Qf pc ll (vR 22 x :: st) (vjn P Q) :=
  vr_get own' (k := 22) (j := 15) (v := vI (Q 22 x 15)) (ci := 8) (C := RX8) (T := TX8) (N := 18) ho hx rfl rfl inv_X8 (by decide) ⟨rfl, rfl, rfl⟩ hl rfl hd h
theorem vp_22_15 {x idx : Nat} {v : Int32} {P1 : VP} (own' : String) (ho : own = own') (hx : x < vcnt 22) (hl : Cond.fieldLink own' idx RX8 "wordCame" "I" ∈ vtb) (hP : P1 = vup Q 22 x 15 v) (hd : decode bs pc = .ok (.putfield idx, 3))
    (h : VB l g own bs nL rt R ce sl E Qf (pc + 3) ll st (vjn P P1)) : VB l g own bs nL rt R ce sl E Qf pc ll (vI v :: vR 22 x :: st) (vjn P Q) :=
  vr_put own' (k := 22) (j := 15) (ci := 8) (C := RX8) (T := TX8) (N := 18) (ty := .int) (ty0 := tyX8) ho hx rfl rfl inv_X8 tyX8_ok nmX8 (by decide) ⟨rfl, rfl, rfl⟩ hl rfl rfl rfl rfl (Nat.le_of_ble_eq_true rfl) (by simp [venc, vup]) hd (by rw [vup_hi (k := 22) rfl P Q, ← hP]; exact h)
theorem vg_22_16 {x idx : Nat} (own' : String) (ho : own = own') (hx : x < vcnt 22) (hl : Cond.fieldLink own' idx RX8 "given" "[I" ∈ vtb) (hd : decode bs pc = .ok (.getfield idx, 3))
    (h : VB l g own bs nL rt R ce sl E Qf (pc + 3) ll (vR 28 x :: st) (vjn P Q)) : VB l g own bs nL rt R ce sl E Qf pc ll (vR 22 x :: st) (vjn P Q) :=
  vr_get own' (k := 22) (j := 16) (v := vR 28 x) (ci := 8) (C := RX8) (T := TX8) (N := 18) ho hx rfl rfl inv_X8 (by decide) ⟨rfl, rfl, rfl⟩ hl rfl hd h
theorem vg_22_17 {x idx : Nat} (own' : String) (ho : own = own') (hx : x < vcnt 22) (hl : Cond.fieldLink own' idx RX8 "whyThen" "I" ∈ vtb) (hd : decode bs pc = .ok (.getfield idx, 3))
    (h : VB l g own bs nL rt R ce sl E Qf (pc + 3) ll (vI (Q 22 x 17) :: st) (vjn P Q)) : VB l g own bs nL rt R ce sl E Qf pc ll (vR 22 x :: st) (vjn P Q) :=
  vr_get own' (k := 22) (j := 17) (v := vI (Q 22 x 17)) (ci := 8) (C := RX8) (T := TX8) (N := 18) ho hx rfl rfl inv_X8 (by decide) ⟨rfl, rfl, rfl⟩ hl rfl hd h
theorem vp_22_17 {x idx : Nat} {v : Int32} {P1 : VP} (own' : String) (ho : own = own') (hx : x < vcnt 22) (hl : Cond.fieldLink own' idx RX8 "whyThen" "I" ∈ vtb) (hP : P1 = vup Q 22 x 17 v) (hd : decode bs pc = .ok (.putfield idx, 3))
    (h : VB l g own bs nL rt R ce sl E Qf (pc + 3) ll st (vjn P P1)) : VB l g own bs nL rt R ce sl E Qf pc ll (vI v :: vR 22 x :: st) (vjn P Q) :=
  vr_put own' (k := 22) (j := 17) (ci := 8) (C := RX8) (T := TX8) (N := 18) (ty := .int) (ty0 := tyX8) ho hx rfl rfl inv_X8 tyX8_ok nmX8 (by decide) ⟨rfl, rfl, rfl⟩ hl rfl rfl rfl rfl (Nat.le_of_ble_eq_true rfl) (by simp [venc, vup]) hd (by rw [vup_hi (k := 22) rfl P Q, ← hP]; exact h)
theorem vq_6 {x : Nat} {i : Int32} (hx : x < vcnt 6) (hi : 0 ≤ i ∧ i < 16) (hd : decode bs pc = .ok (.aaload, 1))
    (h : 16 * x + ix i < vcnt 7 → VB l g own bs nL rt R ce sl E Qf (pc + 1) ll (vR 7 (16 * x + ix i) :: st) J) : VB l g own bs nL rt R ce sl E Qf pc ll (vI i :: vR 6 x :: st) J :=
  vr_aald 16 (vR 7 (16 * x + ix i)) hx rfl (ca := 1) (n := 16) rfl (by decide) rfl hi rfl hd (fun q => h (by have h1 : x < 3 := hx; show _ < 48; omega))
theorem vl_6 {x : Nat} (hx : x < vcnt 6) (hd : decode bs pc = .ok (.arraylength, 1))
    (h : VB l g own bs nL rt R ce sl E Qf (pc + 1) ll (vI 16 :: st) J) : VB l g own bs nL rt R ce sl E Qf pc ll (vR 6 x :: st) J :=
  vr_alenR 16 hx rfl (ca := 1) (n := 16) rfl rfl hd h
theorem vq_13 {x : Nat} {i : Int32} (hx : x < vcnt 13) (hi : 0 ≤ i ∧ i < 48) (hd : decode bs pc = .ok (.aaload, 1))
    (h : 49 * x + ix i < vcnt 14 → VB l g own bs nL rt R ce sl E Qf (pc + 1) ll (vR 14 (49 * x + ix i) :: st) J) : VB l g own bs nL rt R ce sl E Qf pc ll (vI i :: vR 13 x :: st) J :=
  vr_aald 48 (vR 14 (49 * x + ix i)) hx rfl (ca := 2) (n := 48) rfl (by decide) rfl hi rfl hd (fun q => h (by have h1 : x < 3 := hx; show _ < 147; omega))
theorem vl_13 {x : Nat} (hx : x < vcnt 13) (hd : decode bs pc = .ok (.arraylength, 1))
    (h : VB l g own bs nL rt R ce sl E Qf (pc + 1) ll (vI 48 :: st) J) : VB l g own bs nL rt R ce sl E Qf pc ll (vR 13 x :: st) J :=
  vr_alenR 48 hx rfl (ca := 2) (n := 48) rfl rfl hd h
theorem vq_15 {x : Nat} {i : Int32} (hx : x < vcnt 15) (hi : 0 ≤ i ∧ i < 3) (hd : decode bs pc = .ok (.aaload, 1))
    (h : 3 * x + ix i < vcnt 16 → VB l g own bs nL rt R ce sl E Qf (pc + 1) ll (vR 16 (3 * x + ix i) :: st) J) : VB l g own bs nL rt R ce sl E Qf pc ll (vI i :: vR 15 x :: st) J :=
  vr_aald 3 (vR 16 (3 * x + ix i)) hx rfl (ca := 3) (n := 3) rfl (by decide) rfl hi rfl hd (fun q => h (by have h1 : x < 147 := hx; show _ < 441; omega))
theorem vl_15 {x : Nat} (hx : x < vcnt 15) (hd : decode bs pc = .ok (.arraylength, 1))
    (h : VB l g own bs nL rt R ce sl E Qf (pc + 1) ll (vI 3 :: st) J) : VB l g own bs nL rt R ce sl E Qf pc ll (vR 15 x :: st) J :=
  vr_alenR 3 hx rfl (ca := 3) (n := 3) rfl rfl hd h
theorem vq_29 {x : Nat} {i : Int32} (hx : x < vcnt 29) (hi : 0 ≤ i ∧ i < 10) (hd : decode bs pc = .ok (.aaload, 1))
    (h : ix i < 22 → VB l g own bs nL rt R ce sl E Qf (pc + 1) ll (vT (ix i) :: st) J) : VB l g own bs nL rt R ce sl E Qf pc ll (vI i :: vR 29 x :: st) J :=
  vr_aald 10 (vT (ix i)) hx rfl (ca := 4) (n := 10) rfl (by decide) rfl hi rfl hd (fun q => h (by omega))
end VPOST
def vl1 {A1 : Type} (b : (A1 → Prop) → A1 → Prop) : Nat → A1 → Prop
  | 0 => fun _ => False
  | n + 1 => b (vl1 b n)
def vL1 {A1 : Type} (b : (A1 → Prop) → A1 → Prop) : A1 → Prop := fun a1 => ∃ n, vl1 b n a1
theorem vL1_s {A1 : Type} {b : (A1 → Prop) → A1 → Prop} (T : A1 → Prop) (hb : ∀ X : A1 → Prop, (∀ a1, X a1 → T a1) → ∀ a1, b X a1 → T a1) {a1 : A1} (h : vL1 b a1) : T a1 := by
  obtain ⟨n, hn⟩ := h
  induction n generalizing a1 with
  | zero => exact hn.elim
  | succ n ih => exact hb _ (fun a1 q => ih q) a1 hn
theorem vL1_i {A1 : Type} {b : (A1 → Prop) → A1 → Prop} (I : A1 → Prop) (μ : A1 → Nat) (hs : ∀ X : A1 → Prop, ∀ a1, I a1 → (∀ c1, I c1 → μ c1 < μ a1 → X c1) → b X a1) {a1 : A1} (h : I a1) : vL1 b a1 := by
  have key : ∀ n a1, I a1 → μ a1 < n → vl1 b n a1 := by
    intro n
    induction n with
    | zero => intro a1 _ h; exact absurd h (Nat.not_lt_zero _)
    | succ n ih => intro a1 hI hm; exact hs (vl1 b n) a1 hI (fun c1 q1 q2 => ih c1 q1 (by omega))
  exact ⟨μ a1 + 1, key _ a1 h (Nat.lt_succ_self _)⟩
def vl2 {A1 A2 : Type} (b : (A1 → A2 → Prop) → A1 → A2 → Prop) : Nat → A1 → A2 → Prop
  | 0 => fun _ _ => False
  | n + 1 => b (vl2 b n)
def vL2 {A1 A2 : Type} (b : (A1 → A2 → Prop) → A1 → A2 → Prop) : A1 → A2 → Prop := fun a1 a2 => ∃ n, vl2 b n a1 a2
theorem vL2_s {A1 A2 : Type} {b : (A1 → A2 → Prop) → A1 → A2 → Prop} (T : A1 → A2 → Prop) (hb : ∀ X : A1 → A2 → Prop, (∀ a1 a2, X a1 a2 → T a1 a2) → ∀ a1 a2, b X a1 a2 → T a1 a2) {a1 : A1} {a2 : A2} (h : vL2 b a1 a2) : T a1 a2 := by
  obtain ⟨n, hn⟩ := h
  induction n generalizing a1 a2 with
  | zero => exact hn.elim
  | succ n ih => exact hb _ (fun a1 a2 q => ih q) a1 a2 hn
theorem vL2_i {A1 A2 : Type} {b : (A1 → A2 → Prop) → A1 → A2 → Prop} (I : A1 → A2 → Prop) (μ : A1 → A2 → Nat) (hs : ∀ X : A1 → A2 → Prop, ∀ a1 a2, I a1 a2 → (∀ c1 c2, I c1 c2 → μ c1 c2 < μ a1 a2 → X c1 c2) → b X a1 a2) {a1 : A1} {a2 : A2} (h : I a1 a2) : vL2 b a1 a2 := by
  have key : ∀ n a1 a2, I a1 a2 → μ a1 a2 < n → vl2 b n a1 a2 := by
    intro n
    induction n with
    | zero => intro a1 a2 _ h; exact absurd h (Nat.not_lt_zero _)
    | succ n ih => intro a1 a2 hI hm; exact hs (vl2 b n) a1 a2 hI (fun c1 c2 q1 q2 => ih c1 c2 q1 (by omega))
  exact ⟨μ a1 a2 + 1, key _ a1 a2 h (Nat.lt_succ_self _)⟩
def vl3 {A1 A2 A3 : Type} (b : (A1 → A2 → A3 → Prop) → A1 → A2 → A3 → Prop) : Nat → A1 → A2 → A3 → Prop
  | 0 => fun _ _ _ => False
  | n + 1 => b (vl3 b n)
def vL3 {A1 A2 A3 : Type} (b : (A1 → A2 → A3 → Prop) → A1 → A2 → A3 → Prop) : A1 → A2 → A3 → Prop := fun a1 a2 a3 => ∃ n, vl3 b n a1 a2 a3
theorem vL3_s {A1 A2 A3 : Type} {b : (A1 → A2 → A3 → Prop) → A1 → A2 → A3 → Prop} (T : A1 → A2 → A3 → Prop) (hb : ∀ X : A1 → A2 → A3 → Prop, (∀ a1 a2 a3, X a1 a2 a3 → T a1 a2 a3) → ∀ a1 a2 a3, b X a1 a2 a3 → T a1 a2 a3) {a1 : A1} {a2 : A2} {a3 : A3} (h : vL3 b a1 a2 a3) : T a1 a2 a3 := by
  obtain ⟨n, hn⟩ := h
  induction n generalizing a1 a2 a3 with
  | zero => exact hn.elim
  | succ n ih => exact hb _ (fun a1 a2 a3 q => ih q) a1 a2 a3 hn
theorem vL3_i {A1 A2 A3 : Type} {b : (A1 → A2 → A3 → Prop) → A1 → A2 → A3 → Prop} (I : A1 → A2 → A3 → Prop) (μ : A1 → A2 → A3 → Nat) (hs : ∀ X : A1 → A2 → A3 → Prop, ∀ a1 a2 a3, I a1 a2 a3 → (∀ c1 c2 c3, I c1 c2 c3 → μ c1 c2 c3 < μ a1 a2 a3 → X c1 c2 c3) → b X a1 a2 a3) {a1 : A1} {a2 : A2} {a3 : A3} (h : I a1 a2 a3) : vL3 b a1 a2 a3 := by
  have key : ∀ n a1 a2 a3, I a1 a2 a3 → μ a1 a2 a3 < n → vl3 b n a1 a2 a3 := by
    intro n
    induction n with
    | zero => intro a1 a2 a3 _ h; exact absurd h (Nat.not_lt_zero _)
    | succ n ih => intro a1 a2 a3 hI hm; exact hs (vl3 b n) a1 a2 a3 hI (fun c1 c2 c3 q1 q2 => ih c1 c2 c3 q1 (by omega))
  exact ⟨μ a1 a2 a3 + 1, key _ a1 a2 a3 h (Nat.lt_succ_self _)⟩
def vl4 {A1 A2 A3 A4 : Type} (b : (A1 → A2 → A3 → A4 → Prop) → A1 → A2 → A3 → A4 → Prop) : Nat → A1 → A2 → A3 → A4 → Prop
  | 0 => fun _ _ _ _ => False
  | n + 1 => b (vl4 b n)
def vL4 {A1 A2 A3 A4 : Type} (b : (A1 → A2 → A3 → A4 → Prop) → A1 → A2 → A3 → A4 → Prop) : A1 → A2 → A3 → A4 → Prop := fun a1 a2 a3 a4 => ∃ n, vl4 b n a1 a2 a3 a4
theorem vL4_s {A1 A2 A3 A4 : Type} {b : (A1 → A2 → A3 → A4 → Prop) → A1 → A2 → A3 → A4 → Prop} (T : A1 → A2 → A3 → A4 → Prop) (hb : ∀ X : A1 → A2 → A3 → A4 → Prop, (∀ a1 a2 a3 a4, X a1 a2 a3 a4 → T a1 a2 a3 a4) → ∀ a1 a2 a3 a4, b X a1 a2 a3 a4 → T a1 a2 a3 a4) {a1 : A1} {a2 : A2} {a3 : A3} {a4 : A4} (h : vL4 b a1 a2 a3 a4) : T a1 a2 a3 a4 := by
  obtain ⟨n, hn⟩ := h
  induction n generalizing a1 a2 a3 a4 with
  | zero => exact hn.elim
  | succ n ih => exact hb _ (fun a1 a2 a3 a4 q => ih q) a1 a2 a3 a4 hn
theorem vL4_i {A1 A2 A3 A4 : Type} {b : (A1 → A2 → A3 → A4 → Prop) → A1 → A2 → A3 → A4 → Prop} (I : A1 → A2 → A3 → A4 → Prop) (μ : A1 → A2 → A3 → A4 → Nat) (hs : ∀ X : A1 → A2 → A3 → A4 → Prop, ∀ a1 a2 a3 a4, I a1 a2 a3 a4 → (∀ c1 c2 c3 c4, I c1 c2 c3 c4 → μ c1 c2 c3 c4 < μ a1 a2 a3 a4 → X c1 c2 c3 c4) → b X a1 a2 a3 a4) {a1 : A1} {a2 : A2} {a3 : A3} {a4 : A4} (h : I a1 a2 a3 a4) : vL4 b a1 a2 a3 a4 := by
  have key : ∀ n a1 a2 a3 a4, I a1 a2 a3 a4 → μ a1 a2 a3 a4 < n → vl4 b n a1 a2 a3 a4 := by
    intro n
    induction n with
    | zero => intro a1 a2 a3 a4 _ h; exact absurd h (Nat.not_lt_zero _)
    | succ n ih => intro a1 a2 a3 a4 hI hm; exact hs (vl4 b n) a1 a2 a3 a4 hI (fun c1 c2 c3 c4 q1 q2 => ih c1 c2 c3 c4 q1 (by omega))
  exact ⟨μ a1 a2 a3 a4 + 1, key _ a1 a2 a3 a4 h (Nat.lt_succ_self _)⟩
def vl5 {A1 A2 A3 A4 A5 : Type} (b : (A1 → A2 → A3 → A4 → A5 → Prop) → A1 → A2 → A3 → A4 → A5 → Prop) : Nat → A1 → A2 → A3 → A4 → A5 → Prop
  | 0 => fun _ _ _ _ _ => False
  | n + 1 => b (vl5 b n)
def vL5 {A1 A2 A3 A4 A5 : Type} (b : (A1 → A2 → A3 → A4 → A5 → Prop) → A1 → A2 → A3 → A4 → A5 → Prop) : A1 → A2 → A3 → A4 → A5 → Prop := fun a1 a2 a3 a4 a5 => ∃ n, vl5 b n a1 a2 a3 a4 a5
theorem vL5_s {A1 A2 A3 A4 A5 : Type} {b : (A1 → A2 → A3 → A4 → A5 → Prop) → A1 → A2 → A3 → A4 → A5 → Prop} (T : A1 → A2 → A3 → A4 → A5 → Prop) (hb : ∀ X : A1 → A2 → A3 → A4 → A5 → Prop, (∀ a1 a2 a3 a4 a5, X a1 a2 a3 a4 a5 → T a1 a2 a3 a4 a5) → ∀ a1 a2 a3 a4 a5, b X a1 a2 a3 a4 a5 → T a1 a2 a3 a4 a5) {a1 : A1} {a2 : A2} {a3 : A3} {a4 : A4} {a5 : A5} (h : vL5 b a1 a2 a3 a4 a5) : T a1 a2 a3 a4 a5 := by
  obtain ⟨n, hn⟩ := h
  induction n generalizing a1 a2 a3 a4 a5 with
  | zero => exact hn.elim
  | succ n ih => exact hb _ (fun a1 a2 a3 a4 a5 q => ih q) a1 a2 a3 a4 a5 hn
theorem vL5_i {A1 A2 A3 A4 A5 : Type} {b : (A1 → A2 → A3 → A4 → A5 → Prop) → A1 → A2 → A3 → A4 → A5 → Prop} (I : A1 → A2 → A3 → A4 → A5 → Prop) (μ : A1 → A2 → A3 → A4 → A5 → Nat) (hs : ∀ X : A1 → A2 → A3 → A4 → A5 → Prop, ∀ a1 a2 a3 a4 a5, I a1 a2 a3 a4 a5 → (∀ c1 c2 c3 c4 c5, I c1 c2 c3 c4 c5 → μ c1 c2 c3 c4 c5 < μ a1 a2 a3 a4 a5 → X c1 c2 c3 c4 c5) → b X a1 a2 a3 a4 a5) {a1 : A1} {a2 : A2} {a3 : A3} {a4 : A4} {a5 : A5} (h : I a1 a2 a3 a4 a5) : vL5 b a1 a2 a3 a4 a5 := by
  have key : ∀ n a1 a2 a3 a4 a5, I a1 a2 a3 a4 a5 → μ a1 a2 a3 a4 a5 < n → vl5 b n a1 a2 a3 a4 a5 := by
    intro n
    induction n with
    | zero => intro a1 a2 a3 a4 a5 _ h; exact absurd h (Nat.not_lt_zero _)
    | succ n ih => intro a1 a2 a3 a4 a5 hI hm; exact hs (vl5 b n) a1 a2 a3 a4 a5 hI (fun c1 c2 c3 c4 c5 q1 q2 => ih c1 c2 c3 c4 c5 q1 (by omega))
  exact ⟨μ a1 a2 a3 a4 a5 + 1, key _ a1 a2 a3 a4 a5 h (Nat.lt_succ_self _)⟩
def vl6 {A1 A2 A3 A4 A5 A6 : Type} (b : (A1 → A2 → A3 → A4 → A5 → A6 → Prop) → A1 → A2 → A3 → A4 → A5 → A6 → Prop) : Nat → A1 → A2 → A3 → A4 → A5 → A6 → Prop
  | 0 => fun _ _ _ _ _ _ => False
  | n + 1 => b (vl6 b n)
def vL6 {A1 A2 A3 A4 A5 A6 : Type} (b : (A1 → A2 → A3 → A4 → A5 → A6 → Prop) → A1 → A2 → A3 → A4 → A5 → A6 → Prop) : A1 → A2 → A3 → A4 → A5 → A6 → Prop := fun a1 a2 a3 a4 a5 a6 => ∃ n, vl6 b n a1 a2 a3 a4 a5 a6
theorem vL6_s {A1 A2 A3 A4 A5 A6 : Type} {b : (A1 → A2 → A3 → A4 → A5 → A6 → Prop) → A1 → A2 → A3 → A4 → A5 → A6 → Prop} (T : A1 → A2 → A3 → A4 → A5 → A6 → Prop) (hb : ∀ X : A1 → A2 → A3 → A4 → A5 → A6 → Prop, (∀ a1 a2 a3 a4 a5 a6, X a1 a2 a3 a4 a5 a6 → T a1 a2 a3 a4 a5 a6) → ∀ a1 a2 a3 a4 a5 a6, b X a1 a2 a3 a4 a5 a6 → T a1 a2 a3 a4 a5 a6) {a1 : A1} {a2 : A2} {a3 : A3} {a4 : A4} {a5 : A5} {a6 : A6} (h : vL6 b a1 a2 a3 a4 a5 a6) : T a1 a2 a3 a4 a5 a6 := by
  obtain ⟨n, hn⟩ := h
  induction n generalizing a1 a2 a3 a4 a5 a6 with
  | zero => exact hn.elim
  | succ n ih => exact hb _ (fun a1 a2 a3 a4 a5 a6 q => ih q) a1 a2 a3 a4 a5 a6 hn
theorem vL6_i {A1 A2 A3 A4 A5 A6 : Type} {b : (A1 → A2 → A3 → A4 → A5 → A6 → Prop) → A1 → A2 → A3 → A4 → A5 → A6 → Prop} (I : A1 → A2 → A3 → A4 → A5 → A6 → Prop) (μ : A1 → A2 → A3 → A4 → A5 → A6 → Nat) (hs : ∀ X : A1 → A2 → A3 → A4 → A5 → A6 → Prop, ∀ a1 a2 a3 a4 a5 a6, I a1 a2 a3 a4 a5 a6 → (∀ c1 c2 c3 c4 c5 c6, I c1 c2 c3 c4 c5 c6 → μ c1 c2 c3 c4 c5 c6 < μ a1 a2 a3 a4 a5 a6 → X c1 c2 c3 c4 c5 c6) → b X a1 a2 a3 a4 a5 a6) {a1 : A1} {a2 : A2} {a3 : A3} {a4 : A4} {a5 : A5} {a6 : A6} (h : I a1 a2 a3 a4 a5 a6) : vL6 b a1 a2 a3 a4 a5 a6 := by
  have key : ∀ n a1 a2 a3 a4 a5 a6, I a1 a2 a3 a4 a5 a6 → μ a1 a2 a3 a4 a5 a6 < n → vl6 b n a1 a2 a3 a4 a5 a6 := by
    intro n
    induction n with
    | zero => intro a1 a2 a3 a4 a5 a6 _ h; exact absurd h (Nat.not_lt_zero _)
    | succ n ih => intro a1 a2 a3 a4 a5 a6 hI hm; exact hs (vl6 b n) a1 a2 a3 a4 a5 a6 hI (fun c1 c2 c3 c4 c5 c6 q1 q2 => ih c1 c2 c3 c4 c5 c6 q1 (by omega))
  exact ⟨μ a1 a2 a3 a4 a5 a6 + 1, key _ a1 a2 a3 a4 a5 a6 h (Nat.lt_succ_self _)⟩
def vl7 {A1 A2 A3 A4 A5 A6 A7 : Type} (b : (A1 → A2 → A3 → A4 → A5 → A6 → A7 → Prop) → A1 → A2 → A3 → A4 → A5 → A6 → A7 → Prop) : Nat → A1 → A2 → A3 → A4 → A5 → A6 → A7 → Prop
  | 0 => fun _ _ _ _ _ _ _ => False
  | n + 1 => b (vl7 b n)
def vL7 {A1 A2 A3 A4 A5 A6 A7 : Type} (b : (A1 → A2 → A3 → A4 → A5 → A6 → A7 → Prop) → A1 → A2 → A3 → A4 → A5 → A6 → A7 → Prop) : A1 → A2 → A3 → A4 → A5 → A6 → A7 → Prop := fun a1 a2 a3 a4 a5 a6 a7 => ∃ n, vl7 b n a1 a2 a3 a4 a5 a6 a7
theorem vL7_s {A1 A2 A3 A4 A5 A6 A7 : Type} {b : (A1 → A2 → A3 → A4 → A5 → A6 → A7 → Prop) → A1 → A2 → A3 → A4 → A5 → A6 → A7 → Prop} (T : A1 → A2 → A3 → A4 → A5 → A6 → A7 → Prop) (hb : ∀ X : A1 → A2 → A3 → A4 → A5 → A6 → A7 → Prop, (∀ a1 a2 a3 a4 a5 a6 a7, X a1 a2 a3 a4 a5 a6 a7 → T a1 a2 a3 a4 a5 a6 a7) → ∀ a1 a2 a3 a4 a5 a6 a7, b X a1 a2 a3 a4 a5 a6 a7 → T a1 a2 a3 a4 a5 a6 a7) {a1 : A1} {a2 : A2} {a3 : A3} {a4 : A4} {a5 : A5} {a6 : A6} {a7 : A7} (h : vL7 b a1 a2 a3 a4 a5 a6 a7) : T a1 a2 a3 a4 a5 a6 a7 := by
  obtain ⟨n, hn⟩ := h
  induction n generalizing a1 a2 a3 a4 a5 a6 a7 with
  | zero => exact hn.elim
  | succ n ih => exact hb _ (fun a1 a2 a3 a4 a5 a6 a7 q => ih q) a1 a2 a3 a4 a5 a6 a7 hn
theorem vL7_i {A1 A2 A3 A4 A5 A6 A7 : Type} {b : (A1 → A2 → A3 → A4 → A5 → A6 → A7 → Prop) → A1 → A2 → A3 → A4 → A5 → A6 → A7 → Prop} (I : A1 → A2 → A3 → A4 → A5 → A6 → A7 → Prop) (μ : A1 → A2 → A3 → A4 → A5 → A6 → A7 → Nat) (hs : ∀ X : A1 → A2 → A3 → A4 → A5 → A6 → A7 → Prop, ∀ a1 a2 a3 a4 a5 a6 a7, I a1 a2 a3 a4 a5 a6 a7 → (∀ c1 c2 c3 c4 c5 c6 c7, I c1 c2 c3 c4 c5 c6 c7 → μ c1 c2 c3 c4 c5 c6 c7 < μ a1 a2 a3 a4 a5 a6 a7 → X c1 c2 c3 c4 c5 c6 c7) → b X a1 a2 a3 a4 a5 a6 a7) {a1 : A1} {a2 : A2} {a3 : A3} {a4 : A4} {a5 : A5} {a6 : A6} {a7 : A7} (h : I a1 a2 a3 a4 a5 a6 a7) : vL7 b a1 a2 a3 a4 a5 a6 a7 := by
  have key : ∀ n a1 a2 a3 a4 a5 a6 a7, I a1 a2 a3 a4 a5 a6 a7 → μ a1 a2 a3 a4 a5 a6 a7 < n → vl7 b n a1 a2 a3 a4 a5 a6 a7 := by
    intro n
    induction n with
    | zero => intro a1 a2 a3 a4 a5 a6 a7 _ h; exact absurd h (Nat.not_lt_zero _)
    | succ n ih => intro a1 a2 a3 a4 a5 a6 a7 hI hm; exact hs (vl7 b n) a1 a2 a3 a4 a5 a6 a7 hI (fun c1 c2 c3 c4 c5 c6 c7 q1 q2 => ih c1 c2 c3 c4 c5 c6 c7 q1 (by omega))
  exact ⟨μ a1 a2 a3 a4 a5 a6 a7 + 1, key _ a1 a2 a3 a4 a5 a6 a7 h (Nat.lt_succ_self _)⟩
def vl8 {A1 A2 A3 A4 A5 A6 A7 A8 : Type} (b : (A1 → A2 → A3 → A4 → A5 → A6 → A7 → A8 → Prop) → A1 → A2 → A3 → A4 → A5 → A6 → A7 → A8 → Prop) : Nat → A1 → A2 → A3 → A4 → A5 → A6 → A7 → A8 → Prop
  | 0 => fun _ _ _ _ _ _ _ _ => False
  | n + 1 => b (vl8 b n)
def vL8 {A1 A2 A3 A4 A5 A6 A7 A8 : Type} (b : (A1 → A2 → A3 → A4 → A5 → A6 → A7 → A8 → Prop) → A1 → A2 → A3 → A4 → A5 → A6 → A7 → A8 → Prop) : A1 → A2 → A3 → A4 → A5 → A6 → A7 → A8 → Prop := fun a1 a2 a3 a4 a5 a6 a7 a8 => ∃ n, vl8 b n a1 a2 a3 a4 a5 a6 a7 a8
theorem vL8_s {A1 A2 A3 A4 A5 A6 A7 A8 : Type} {b : (A1 → A2 → A3 → A4 → A5 → A6 → A7 → A8 → Prop) → A1 → A2 → A3 → A4 → A5 → A6 → A7 → A8 → Prop} (T : A1 → A2 → A3 → A4 → A5 → A6 → A7 → A8 → Prop) (hb : ∀ X : A1 → A2 → A3 → A4 → A5 → A6 → A7 → A8 → Prop, (∀ a1 a2 a3 a4 a5 a6 a7 a8, X a1 a2 a3 a4 a5 a6 a7 a8 → T a1 a2 a3 a4 a5 a6 a7 a8) → ∀ a1 a2 a3 a4 a5 a6 a7 a8, b X a1 a2 a3 a4 a5 a6 a7 a8 → T a1 a2 a3 a4 a5 a6 a7 a8) {a1 : A1} {a2 : A2} {a3 : A3} {a4 : A4} {a5 : A5} {a6 : A6} {a7 : A7} {a8 : A8} (h : vL8 b a1 a2 a3 a4 a5 a6 a7 a8) : T a1 a2 a3 a4 a5 a6 a7 a8 := by
  obtain ⟨n, hn⟩ := h
  induction n generalizing a1 a2 a3 a4 a5 a6 a7 a8 with
  | zero => exact hn.elim
  | succ n ih => exact hb _ (fun a1 a2 a3 a4 a5 a6 a7 a8 q => ih q) a1 a2 a3 a4 a5 a6 a7 a8 hn
theorem vL8_i {A1 A2 A3 A4 A5 A6 A7 A8 : Type} {b : (A1 → A2 → A3 → A4 → A5 → A6 → A7 → A8 → Prop) → A1 → A2 → A3 → A4 → A5 → A6 → A7 → A8 → Prop} (I : A1 → A2 → A3 → A4 → A5 → A6 → A7 → A8 → Prop) (μ : A1 → A2 → A3 → A4 → A5 → A6 → A7 → A8 → Nat) (hs : ∀ X : A1 → A2 → A3 → A4 → A5 → A6 → A7 → A8 → Prop, ∀ a1 a2 a3 a4 a5 a6 a7 a8, I a1 a2 a3 a4 a5 a6 a7 a8 → (∀ c1 c2 c3 c4 c5 c6 c7 c8, I c1 c2 c3 c4 c5 c6 c7 c8 → μ c1 c2 c3 c4 c5 c6 c7 c8 < μ a1 a2 a3 a4 a5 a6 a7 a8 → X c1 c2 c3 c4 c5 c6 c7 c8) → b X a1 a2 a3 a4 a5 a6 a7 a8) {a1 : A1} {a2 : A2} {a3 : A3} {a4 : A4} {a5 : A5} {a6 : A6} {a7 : A7} {a8 : A8} (h : I a1 a2 a3 a4 a5 a6 a7 a8) : vL8 b a1 a2 a3 a4 a5 a6 a7 a8 := by
  have key : ∀ n a1 a2 a3 a4 a5 a6 a7 a8, I a1 a2 a3 a4 a5 a6 a7 a8 → μ a1 a2 a3 a4 a5 a6 a7 a8 < n → vl8 b n a1 a2 a3 a4 a5 a6 a7 a8 := by
    intro n
    induction n with
    | zero => intro a1 a2 a3 a4 a5 a6 a7 a8 _ h; exact absurd h (Nat.not_lt_zero _)
    | succ n ih => intro a1 a2 a3 a4 a5 a6 a7 a8 hI hm; exact hs (vl8 b n) a1 a2 a3 a4 a5 a6 a7 a8 hI (fun c1 c2 c3 c4 c5 c6 c7 c8 q1 q2 => ih c1 c2 c3 c4 c5 c6 c7 c8 q1 (by omega))
  exact ⟨μ a1 a2 a3 a4 a5 a6 a7 a8 + 1, key _ a1 a2 a3 a4 a5 a6 a7 a8 h (Nat.lt_succ_self _)⟩
def vl9 {A1 A2 A3 A4 A5 A6 A7 A8 A9 : Type} (b : (A1 → A2 → A3 → A4 → A5 → A6 → A7 → A8 → A9 → Prop) → A1 → A2 → A3 → A4 → A5 → A6 → A7 → A8 → A9 → Prop) : Nat → A1 → A2 → A3 → A4 → A5 → A6 → A7 → A8 → A9 → Prop
  | 0 => fun _ _ _ _ _ _ _ _ _ => False
  | n + 1 => b (vl9 b n)
def vL9 {A1 A2 A3 A4 A5 A6 A7 A8 A9 : Type} (b : (A1 → A2 → A3 → A4 → A5 → A6 → A7 → A8 → A9 → Prop) → A1 → A2 → A3 → A4 → A5 → A6 → A7 → A8 → A9 → Prop) : A1 → A2 → A3 → A4 → A5 → A6 → A7 → A8 → A9 → Prop := fun a1 a2 a3 a4 a5 a6 a7 a8 a9 => ∃ n, vl9 b n a1 a2 a3 a4 a5 a6 a7 a8 a9
theorem vL9_s {A1 A2 A3 A4 A5 A6 A7 A8 A9 : Type} {b : (A1 → A2 → A3 → A4 → A5 → A6 → A7 → A8 → A9 → Prop) → A1 → A2 → A3 → A4 → A5 → A6 → A7 → A8 → A9 → Prop} (T : A1 → A2 → A3 → A4 → A5 → A6 → A7 → A8 → A9 → Prop) (hb : ∀ X : A1 → A2 → A3 → A4 → A5 → A6 → A7 → A8 → A9 → Prop, (∀ a1 a2 a3 a4 a5 a6 a7 a8 a9, X a1 a2 a3 a4 a5 a6 a7 a8 a9 → T a1 a2 a3 a4 a5 a6 a7 a8 a9) → ∀ a1 a2 a3 a4 a5 a6 a7 a8 a9, b X a1 a2 a3 a4 a5 a6 a7 a8 a9 → T a1 a2 a3 a4 a5 a6 a7 a8 a9) {a1 : A1} {a2 : A2} {a3 : A3} {a4 : A4} {a5 : A5} {a6 : A6} {a7 : A7} {a8 : A8} {a9 : A9} (h : vL9 b a1 a2 a3 a4 a5 a6 a7 a8 a9) : T a1 a2 a3 a4 a5 a6 a7 a8 a9 := by
  obtain ⟨n, hn⟩ := h
  induction n generalizing a1 a2 a3 a4 a5 a6 a7 a8 a9 with
  | zero => exact hn.elim
  | succ n ih => exact hb _ (fun a1 a2 a3 a4 a5 a6 a7 a8 a9 q => ih q) a1 a2 a3 a4 a5 a6 a7 a8 a9 hn
theorem vL9_i {A1 A2 A3 A4 A5 A6 A7 A8 A9 : Type} {b : (A1 → A2 → A3 → A4 → A5 → A6 → A7 → A8 → A9 → Prop) → A1 → A2 → A3 → A4 → A5 → A6 → A7 → A8 → A9 → Prop} (I : A1 → A2 → A3 → A4 → A5 → A6 → A7 → A8 → A9 → Prop) (μ : A1 → A2 → A3 → A4 → A5 → A6 → A7 → A8 → A9 → Nat) (hs : ∀ X : A1 → A2 → A3 → A4 → A5 → A6 → A7 → A8 → A9 → Prop, ∀ a1 a2 a3 a4 a5 a6 a7 a8 a9, I a1 a2 a3 a4 a5 a6 a7 a8 a9 → (∀ c1 c2 c3 c4 c5 c6 c7 c8 c9, I c1 c2 c3 c4 c5 c6 c7 c8 c9 → μ c1 c2 c3 c4 c5 c6 c7 c8 c9 < μ a1 a2 a3 a4 a5 a6 a7 a8 a9 → X c1 c2 c3 c4 c5 c6 c7 c8 c9) → b X a1 a2 a3 a4 a5 a6 a7 a8 a9) {a1 : A1} {a2 : A2} {a3 : A3} {a4 : A4} {a5 : A5} {a6 : A6} {a7 : A7} {a8 : A8} {a9 : A9} (h : I a1 a2 a3 a4 a5 a6 a7 a8 a9) : vL9 b a1 a2 a3 a4 a5 a6 a7 a8 a9 := by
  have key : ∀ n a1 a2 a3 a4 a5 a6 a7 a8 a9, I a1 a2 a3 a4 a5 a6 a7 a8 a9 → μ a1 a2 a3 a4 a5 a6 a7 a8 a9 < n → vl9 b n a1 a2 a3 a4 a5 a6 a7 a8 a9 := by
    intro n
    induction n with
    | zero => intro a1 a2 a3 a4 a5 a6 a7 a8 a9 _ h; exact absurd h (Nat.not_lt_zero _)
    | succ n ih => intro a1 a2 a3 a4 a5 a6 a7 a8 a9 hI hm; exact hs (vl9 b n) a1 a2 a3 a4 a5 a6 a7 a8 a9 hI (fun c1 c2 c3 c4 c5 c6 c7 c8 c9 q1 q2 => ih c1 c2 c3 c4 c5 c6 c7 c8 c9 q1 (by omega))
  exact ⟨μ a1 a2 a3 a4 a5 a6 a7 a8 a9 + 1, key _ a1 a2 a3 a4 a5 a6 a7 a8 a9 h (Nat.lt_succ_self _)⟩
def vl10 {A1 A2 A3 A4 A5 A6 A7 A8 A9 A10 : Type} (b : (A1 → A2 → A3 → A4 → A5 → A6 → A7 → A8 → A9 → A10 → Prop) → A1 → A2 → A3 → A4 → A5 → A6 → A7 → A8 → A9 → A10 → Prop) : Nat → A1 → A2 → A3 → A4 → A5 → A6 → A7 → A8 → A9 → A10 → Prop
  | 0 => fun _ _ _ _ _ _ _ _ _ _ => False
  | n + 1 => b (vl10 b n)
def vL10 {A1 A2 A3 A4 A5 A6 A7 A8 A9 A10 : Type} (b : (A1 → A2 → A3 → A4 → A5 → A6 → A7 → A8 → A9 → A10 → Prop) → A1 → A2 → A3 → A4 → A5 → A6 → A7 → A8 → A9 → A10 → Prop) : A1 → A2 → A3 → A4 → A5 → A6 → A7 → A8 → A9 → A10 → Prop := fun a1 a2 a3 a4 a5 a6 a7 a8 a9 a10 => ∃ n, vl10 b n a1 a2 a3 a4 a5 a6 a7 a8 a9 a10
theorem vL10_s {A1 A2 A3 A4 A5 A6 A7 A8 A9 A10 : Type} {b : (A1 → A2 → A3 → A4 → A5 → A6 → A7 → A8 → A9 → A10 → Prop) → A1 → A2 → A3 → A4 → A5 → A6 → A7 → A8 → A9 → A10 → Prop} (T : A1 → A2 → A3 → A4 → A5 → A6 → A7 → A8 → A9 → A10 → Prop) (hb : ∀ X : A1 → A2 → A3 → A4 → A5 → A6 → A7 → A8 → A9 → A10 → Prop, (∀ a1 a2 a3 a4 a5 a6 a7 a8 a9 a10, X a1 a2 a3 a4 a5 a6 a7 a8 a9 a10 → T a1 a2 a3 a4 a5 a6 a7 a8 a9 a10) → ∀ a1 a2 a3 a4 a5 a6 a7 a8 a9 a10, b X a1 a2 a3 a4 a5 a6 a7 a8 a9 a10 → T a1 a2 a3 a4 a5 a6 a7 a8 a9 a10) {a1 : A1} {a2 : A2} {a3 : A3} {a4 : A4} {a5 : A5} {a6 : A6} {a7 : A7} {a8 : A8} {a9 : A9} {a10 : A10} (h : vL10 b a1 a2 a3 a4 a5 a6 a7 a8 a9 a10) : T a1 a2 a3 a4 a5 a6 a7 a8 a9 a10 := by
  obtain ⟨n, hn⟩ := h
  induction n generalizing a1 a2 a3 a4 a5 a6 a7 a8 a9 a10 with
  | zero => exact hn.elim
  | succ n ih => exact hb _ (fun a1 a2 a3 a4 a5 a6 a7 a8 a9 a10 q => ih q) a1 a2 a3 a4 a5 a6 a7 a8 a9 a10 hn
theorem vL10_i {A1 A2 A3 A4 A5 A6 A7 A8 A9 A10 : Type} {b : (A1 → A2 → A3 → A4 → A5 → A6 → A7 → A8 → A9 → A10 → Prop) → A1 → A2 → A3 → A4 → A5 → A6 → A7 → A8 → A9 → A10 → Prop} (I : A1 → A2 → A3 → A4 → A5 → A6 → A7 → A8 → A9 → A10 → Prop) (μ : A1 → A2 → A3 → A4 → A5 → A6 → A7 → A8 → A9 → A10 → Nat) (hs : ∀ X : A1 → A2 → A3 → A4 → A5 → A6 → A7 → A8 → A9 → A10 → Prop, ∀ a1 a2 a3 a4 a5 a6 a7 a8 a9 a10, I a1 a2 a3 a4 a5 a6 a7 a8 a9 a10 → (∀ c1 c2 c3 c4 c5 c6 c7 c8 c9 c10, I c1 c2 c3 c4 c5 c6 c7 c8 c9 c10 → μ c1 c2 c3 c4 c5 c6 c7 c8 c9 c10 < μ a1 a2 a3 a4 a5 a6 a7 a8 a9 a10 → X c1 c2 c3 c4 c5 c6 c7 c8 c9 c10) → b X a1 a2 a3 a4 a5 a6 a7 a8 a9 a10) {a1 : A1} {a2 : A2} {a3 : A3} {a4 : A4} {a5 : A5} {a6 : A6} {a7 : A7} {a8 : A8} {a9 : A9} {a10 : A10} (h : I a1 a2 a3 a4 a5 a6 a7 a8 a9 a10) : vL10 b a1 a2 a3 a4 a5 a6 a7 a8 a9 a10 := by
  have key : ∀ n a1 a2 a3 a4 a5 a6 a7 a8 a9 a10, I a1 a2 a3 a4 a5 a6 a7 a8 a9 a10 → μ a1 a2 a3 a4 a5 a6 a7 a8 a9 a10 < n → vl10 b n a1 a2 a3 a4 a5 a6 a7 a8 a9 a10 := by
    intro n
    induction n with
    | zero => intro a1 a2 a3 a4 a5 a6 a7 a8 a9 a10 _ h; exact absurd h (Nat.not_lt_zero _)
    | succ n ih => intro a1 a2 a3 a4 a5 a6 a7 a8 a9 a10 hI hm; exact hs (vl10 b n) a1 a2 a3 a4 a5 a6 a7 a8 a9 a10 hI (fun c1 c2 c3 c4 c5 c6 c7 c8 c9 c10 q1 q2 => ih c1 c2 c3 c4 c5 c6 c7 c8 c9 c10 q1 (by omega))
  exact ⟨μ a1 a2 a3 a4 a5 a6 a7 a8 a9 a10 + 1, key _ a1 a2 a3 a4 a5 a6 a7 a8 a9 a10 h (Nat.lt_succ_self _)⟩
theorem ia_3 {x : Nat} (hx : x < vcnt 3) : vPA 3 x := ⟨⟨fun _ _ _ => rfl, by decide⟩, hx, rfl⟩
theorem ia_4 {x : Nat} (hx : x < vcnt 4) : vPA 4 x := ⟨⟨fun _ _ _ => rfl, by decide⟩, hx, rfl⟩
theorem ia_5 {x : Nat} (hx : x < vcnt 5) : vPA 5 x := ⟨⟨fun _ _ _ => rfl, by decide⟩, hx, rfl⟩
theorem ia_8 {x : Nat} (hx : x < vcnt 8) : vPA 8 x := ⟨⟨fun _ _ _ => rfl, by decide⟩, hx, rfl⟩
theorem ia_9 {x : Nat} (hx : x < vcnt 9) : vPA 9 x := ⟨⟨fun _ _ _ => rfl, by decide⟩, hx, rfl⟩
theorem ia_10 {x : Nat} (hx : x < vcnt 10) : vPA 10 x := ⟨⟨fun _ _ _ => rfl, by decide⟩, hx, rfl⟩
theorem ia_12 {x : Nat} (hx : x < vcnt 12) : vPA 12 x := ⟨⟨fun _ _ _ => rfl, by decide⟩, hx, rfl⟩
theorem ia_18 {x : Nat} (hx : x < vcnt 18) : vPA 18 x := ⟨⟨fun _ _ _ => rfl, by decide⟩, hx, rfl⟩
theorem ia_19 {x : Nat} (hx : x < vcnt 19) : vPA 19 x := ⟨⟨fun _ _ _ => rfl, by decide⟩, hx, rfl⟩
theorem ia_20 {x : Nat} (hx : x < vcnt 20) : vPA 20 x := ⟨⟨fun _ _ _ => rfl, by decide⟩, hx, rfl⟩
theorem ia_21 {x : Nat} (hx : x < vcnt 21) : vPA 21 x := ⟨⟨fun _ _ _ => rfl, by decide⟩, hx, rfl⟩
theorem ia_23 : vQA 23 0 := ⟨⟨fun _ _ _ => rfl, by decide⟩, by decide, rfl⟩
theorem ia_24 : vQA 24 0 := ⟨⟨fun _ _ _ => rfl, by decide⟩, by decide, rfl⟩
theorem ia_25 : vQA 25 0 := ⟨⟨fun _ _ _ => rfl, by decide⟩, by decide, rfl⟩
theorem ia_26 : vQA 26 0 := ⟨⟨fun _ _ _ => rfl, by decide⟩, by decide, rfl⟩
theorem ia_27 : vQA 27 0 := ⟨⟨fun _ _ _ => rfl, by decide⟩, by decide, rfl⟩
theorem ia_28 : vQA 28 0 := ⟨⟨fun _ _ _ => rfl, by decide⟩, by decide, rfl⟩
theorem vb_14 {x : Nat} (h : x < vcnt 1) : 49 * x + 48 < vcnt 14 := by
  have h1 : x < 3 := h
  show _ < 147
  omega

