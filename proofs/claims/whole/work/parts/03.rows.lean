/-! LAYER V: a row an instruction -/
section VROWS
variable {l : Launch} {g : vG} {own : String} {bs : ByteArray} {nL : Nat} {rt : Option FieldType} {R : Room} {ce sl : Nat} {E : Array Value → State → Prop} {Qf : List Frame → Array Value → State → State → Prop} {pc : Nat} {ll : List (Nat × vV)} {st : List vV} {J : VP}
theorem vr_get (own' : String) {k x j : Nat} {v : vV} {ci : Nat} {fs : List Value} {C n d : String} {T : u_T} {N idx : Nat} (ho : own = own') (hx : x < vcnt k) (he : venc g J k x = .inr (ci, fs)) (hc : vcl[ci]? = some (C, T, N)) (hin : ∀ w ∈ u_ws C T N, w ∈ vtb) (hj : j < N) (hT : (T j).1 = C ∧ (T j).2.1 = n ∧ (T j).2.2.1 = d) (hl : Cond.fieldLink own' idx C n d ∈ vtb) (hv : fs[j]? = some (vv g v)) (hd : decode bs pc = .ok (.getfield idx, 3))
    (h : VB l g own bs nL rt R ce sl E Qf (pc + 3) ll (v :: st) J) : VB l g own bs nL rt R ce sl E Qf pc ll (vR k x :: st) J := fun p e s m args below meth c H locs ls C0 w S L => by
  subst ho
  obtain ⟨rfl, rfl, rfl⟩ := hT
  obtain ⟨hx0, hb0, -, -, -, hown, hts, hK, -⟩ := id C0
  have hP : va_P g.1 vcl [(g.2.2.1 k x, venc g J k x)] H := fun i q hi => by
    have h1 : i < 1 := (List.getElem?_eq_some_iff.mp hi).1
    obtain rfl : i = 0 := by omega
    cases hi
    exact w k x hx
  rw [he] at hP
  exact va_get hx0 hb0 hts hin hown hK.2.1 hP 0 rfl hc j hj (hts _ hl) (fun _ hh => hh) hv hd (h p e s m args below meth c H locs ls C0 w S L)
/-- what a world becomes when a slot of an object gets an int -/
theorem vW_set {J : VP} {H H1 : Heap} {k x j : Nat} {v : Int32} (hO : vOK g) (hx : x < vcnt k) (w : vW g J H) (h1 : va_at g.1 vcl (g.2.2.1 k x, venc g (vup J k x j v) k x) H1) (oq : ∀ q : Nat, q ≠ g.2.2.1 k x → H1[q]? = H[q]?) (hk : ∀ k' x' : Nat, ¬ (k' = k ∧ x' = x) → venc g (vup J k x j v) k' x' = venc g J k' x') : vW g (vup J k x j v) H1 := by
  intro k' x' hx'
  by_cases e : k' = k ∧ x' = x
  · obtain ⟨rfl, rfl⟩ := e
    exact h1
  · rw [hk k' x' e]
    exact (w k' x' hx').kept (oq _ (fun z => e (hO.1 k' x' k x hx' hx z)))
theorem venc_off (g : vG) (J : VP) {k x j : Nat} {v : Int32} {k' x' : Nat} (e : ¬ (k' = k ∧ x' = x)) : venc g (vup J k x j v) k' x' = venc g J k' x' := by
  have f : ∀ k2 : Nat, k2 = k' → (fun j' => vup J k x j v k2 x' j') = fun j' => J k2 x' j' := by
    intro k2 h2
    funext j'
    subst h2
    unfold vup
    rw [if_neg]
    rintro ⟨a, b, -⟩
    exact e ⟨a, b⟩
  have f1 : ∀ (k2 j' : Nat), k2 = k' → vup J k x j v k2 x' j' = J k2 x' j' := fun k2 j' h2 => congrFun (f k2 h2) j'
  unfold venc
  split <;> simp only [f _ rfl, f1 _ _ rfl]
theorem vr_put (own' : String) {k x j : Nat} {v : Int32} {ci : Nat} {fs : List Value} {C n d : String} {T : u_T} {N idx : Nat} {ty : FieldType} {ty0 : Nat → FieldType} (ho : own = own') (hx : x < vcnt k) (he : venc g J k x = .inr (ci, fs)) (hc : vcl[ci]? = some (C, T, N)) (hin : ∀ w ∈ u_ws C T N, w ∈ vtb) (hty : ∀ k, k < N → parseFieldDescriptor (T k).2.2.1 = some (ty0 k)) (hnm : ∀ a, a < N → ∀ b, b < N → a ≠ b → (T a).2.1 ≠ (T b).2.1) (hj : j < N) (hT : (T j).1 = C ∧ (T j).2.1 = n ∧ (T j).2.2.1 = d) (hl : Cond.fieldLink own' idx C n d ∈ vtb) (hfin : (T j).2.2.2 = false) (htj : ty0 j = ty) (hn : narrow ty (.int v) = .int v) (hfit : fits ty (.int v) = true) (hlen : j < fs.length) (hset : venc g (vup J k x j v) k x = .inr (ci, fs.set j (.int v))) (hd : decode bs pc = .ok (.putfield idx, 3))
    (h : VB l g own bs nL rt R ce sl E Qf (pc + 3) ll st (vup J k x j v)) : VB l g own bs nL rt R ce sl E Qf pc ll (vI v :: vR k x :: st) J := fun p e s m args below meth c H locs ls C0 w S L => by
  subst ho
  obtain ⟨hT1, rfl, rfl⟩ := hT
  obtain ⟨hx0, hb0, -, -, -, hown, hts, hK, -⟩ := id C0
  have hP : va_P g.1 vcl [(g.2.2.1 k x, venc g J k x)] H := fun i q hi => by
    have h1 : i < 1 := (List.getElem?_eq_some_iff.mp hi).1
    obtain rfl : i = 0 := by omega
    cases hi
    exact w k x hx
  rw [he] at hP
  have hD : va_D (vA g) [(g.2.2.1 k x, (.inr (ci, fs) : va_E))] := ⟨fun a b p q ha hb _ => by
    have h1 : a < 1 := (List.getElem?_eq_some_iff.mp ha).1
    have h2 : b < 1 := (List.getElem?_eq_some_iff.mp hb).1
    omega, fun a q ha => by
    have h1 : a < 1 := (List.getElem?_eq_some_iff.mp ha).1
    obtain rfl : a = 0 := by omega
    cases ha
    exact hK.1.1.2 k x hx⟩
  have hap := va_apart (own := own) hts hin ty0 hty hnm hK.2.1 hc
  obtain ⟨r, h1, cell, q1, q2, q3, q4⟩ := hP 0 _ rfl
  have hr : r = (C, T, N) := Option.some.inj (h1.symm.trans hc)
  subst hr
  obtain ⟨hS, hfc, kC, hkC, hkind⟩ := hK.2.1.1 ci _ hc
  obtain ⟨cf, kf, fi, f, hi, hsl⟩ := hS j hj
  have hlay := hts _ (hin _ (u_in_lay hj))
  unfold u_lay at hlay
  rw [if_neg (by rw [hfin]; decide)] at hlay
  have hst := (u_facts hfc hkC (u_lays hts hin hj) hi).1
  have h6 := u_store hfc hkC hkind hlay hi ((hty j hj).trans (congrArg some htj)) hn hfit
  refine W.putK hx0 hb0 (f := f) ⟨hown, hts _ hl, ⟨_, _, _, (show s.fieldFound? C (T j).2.1 (T j).2.2.1 = _ from hT1 ▸ hi)⟩, hst⟩ (by rw [q2]; exact h6) q1 q3 (by rw [hsl]; exact k2_hasslot (q4 j hj)) rfl rfl hd fun H' e1 e2 e3 => ?_
  rw [hsl] at e1 ⊢
  have hat : va_at g.1 vcl (g.2.2.1 k x, .inr (ci, fs.set j (.int v))) H' := ⟨_, hc, t_OB.to (V := updV (vp_V fs) j (.int v)) ⟨_, e1, q2, q3, t_set q4 hap hj (.int v)⟩ (fun i _ => vp_updV_set hlen (.int v) i)⟩
  exact h p e s m args below meth c H' _ ls C0 (vW_set hK.1.1 hx w (by rw [hset]; exact hat) e3 (fun k' x' z => venc_off g J z)) (S.put e2 e3 (hD.2 0 _ rfl)) L
theorem vr_iconst {n : Int} (v : Int32) (hd : decode bs pc = .ok (.iconst n, 1)) (hv : Int32.ofInt n = v)
    (h : VB l g own bs nL rt R ce sl E Qf (pc + 1) ll (vI v :: st) J) : VB l g own bs nL rt R ce sl E Qf pc ll st J := fun p e s m args below meth c H locs ls C0 w S L => lv_iconst C0.1 C0.2.1 hd hv (h p e s m args below meth c H locs ls C0 w S L)
theorem vr_bipush {n : Int} (v : Int32) (hd : decode bs pc = .ok (.bipush n, 2)) (hv : (Int8.ofInt n).toInt32 = v)
    (h : VB l g own bs nL rt R ce sl E Qf (pc + 2) ll (vI v :: st) J) : VB l g own bs nL rt R ce sl E Qf pc ll st J := fun p e s m args below meth c H locs ls C0 w S L => lv_bipush C0.1 C0.2.1 hd hv (h p e s m args below meth c H locs ls C0 w S L)
theorem vr_sipush {n : Int} (v : Int32) (hd : decode bs pc = .ok (.sipush n, 3)) (hv : (Int16.ofInt n).toInt32 = v)
    (h : VB l g own bs nL rt R ce sl E Qf (pc + 3) ll (vI v :: st) J) : VB l g own bs nL rt R ce sl E Qf pc ll st J := fun p e s m args below meth c H locs ls C0 w S L => lv_sipush C0.1 C0.2.1 hd hv (h p e s m args below meth c H locs ls C0 w S L)
theorem vr_lconst {n : Fin 2} (v : Int64) (hd : decode bs pc = .ok (.lconst n, 1)) (hv : Int64.ofNat (n : Nat) = v)
    (h : VB l g own bs nL rt R ce sl E Qf (pc + 1) ll (vL v :: st) J) : VB l g own bs nL rt R ce sl E Qf pc ll st J := fun p e s m args below meth c H locs ls C0 w S L => lv_lconst C0.1 C0.2.1 hd hv (h p e s m args below meth c H locs ls C0 w S L)
theorem vr_ldc {idx : Nat} (v : Int32) (hc : Cond.constant own idx v ∈ vtb) (hd : decode bs pc = .ok (.ldc idx, 2))
    (h : VB l g own bs nL rt R ce sl E Qf (pc + 2) ll (vI v :: st) J) : VB l g own bs nL rt R ce sl E Qf pc ll st J := fun p e s m args below meth c H locs ls C0 w S L => lv_ldc C0.1 C0.2.1 C0.2.2.2.2.2.1 (C0.2.2.2.2.2.2.1 _ hc) hd (h p e s m args below meth c H locs ls C0 w S L)
theorem vr_ldc2 {idx : Nat} (v : Int64) (hc : Cond.constantLong own idx v ∈ vtb) (hd : decode bs pc = .ok (.ldc2_w idx, 3))
    (h : VB l g own bs nL rt R ce sl E Qf (pc + 3) ll (vL v :: st) J) : VB l g own bs nL rt R ce sl E Qf pc ll st J := fun p e s m args below meth c H locs ls C0 w S L => lv_ldc2 C0.1 C0.2.1 C0.2.2.2.2.2.1 (C0.2.2.2.2.2.2.1 _ hc) hd (h p e s m args below meth c H locs ls C0 w S L)
theorem vr_ldcS {idx : Nat} {tx : String} (j : Nat) (hm : (own, idx, tx, j) ∈ vstr) (hd : decode bs pc = .ok (.ldc idx, 2))
    (h : VB l g own bs nL rt R ce sl E Qf (pc + 2) ll (vT j :: st) J) : VB l g own bs nL rt R ce sl E Qf pc ll st J := fun p e s m args below meth c H locs ls C0 w S L => va_ldcS C0.1 C0.2.1 C0.2.2.2.2.2.1 (C0.2.2.2.2.2.2.2.1.2.2.2.1 _ hm) hd (h p e s m args below meth c H locs ls C0 w S L)
theorem vr_anull  (hd : decode bs pc = .ok (.aconst_null, 1))
    (h : VB l g own bs nL rt R ce sl E Qf (pc + 1) ll (vN :: st) J) : VB l g own bs nL rt R ce sl E Qf pc ll st J := fun p e s m args below meth c H locs ls C0 w S L => lv_null C0.1 C0.2.1 hd (h p e s m args below meth c H locs ls C0 w S L)
theorem vls_at {q i : Nat} {v : vV} (hl : ll[q]? = some (i, v)) : (vls g ll)[q]? = some (i, vv g v) := by
  rw [List.getElem?_map, hl]; rfl
theorem vr_iload_n {x : Int32} {k : Fin 4} (i q : Nat) (hd : decode bs pc = .ok (.iload_n k, 1)) (hi : (k : Nat) = i) (hl : ll[q]? = some (i, vI x))
    (h : VB l g own bs nL rt R ce sl E Qf (pc + 1) ll (vI x :: st) J) : VB l g own bs nL rt R ce sl E Qf pc ll st J := fun p e s m args below meth c H locs ls C0 w S L => lv_iload_n C0.1 C0.2.1 hd hi (lv_at L q (vls_at hl)) (h p e s m args below meth c H locs ls C0 w S L)
theorem vr_iload {x : Int32} {i : Nat} (q : Nat) (hd : decode bs pc = .ok (.iload i, 2)) (hl : ll[q]? = some (i, vI x))
    (h : VB l g own bs nL rt R ce sl E Qf (pc + 2) ll (vI x :: st) J) : VB l g own bs nL rt R ce sl E Qf pc ll st J := fun p e s m args below meth c H locs ls C0 w S L => lv_iload C0.1 C0.2.1 hd (lv_at L q (vls_at hl)) (h p e s m args below meth c H locs ls C0 w S L)
theorem vr_lload_n {x : Int64} {k : Fin 4} (i q : Nat) (hd : decode bs pc = .ok (.lload_n k, 1)) (hi : (k : Nat) = i) (hl : ll[q]? = some (i, vL x))
    (h : VB l g own bs nL rt R ce sl E Qf (pc + 1) ll (vL x :: st) J) : VB l g own bs nL rt R ce sl E Qf pc ll st J := fun p e s m args below meth c H locs ls C0 w S L => lv_lload_n C0.1 C0.2.1 hd hi (lv_at L q (vls_at hl)) (h p e s m args below meth c H locs ls C0 w S L)
theorem vr_lload {x : Int64} {i : Nat} (q : Nat) (hd : decode bs pc = .ok (.lload i, 2)) (hl : ll[q]? = some (i, vL x))
    (h : VB l g own bs nL rt R ce sl E Qf (pc + 2) ll (vL x :: st) J) : VB l g own bs nL rt R ce sl E Qf pc ll st J := fun p e s m args below meth c H locs ls C0 w S L => lv_lload C0.1 C0.2.1 hd (lv_at L q (vls_at hl)) (h p e s m args below meth c H locs ls C0 w S L)
theorem vr_aload_n {z : Option (Nat × Nat) ⊕ Nat} {k : Fin 4} (i q : Nat) (hd : decode bs pc = .ok (.aload_n k, 1)) (hi : (k : Nat) = i) (hl : ll[q]? = some (i, .inr (.inr z)))
    (h : VB l g own bs nL rt R ce sl E Qf (pc + 1) ll (.inr (.inr z) :: st) J) : VB l g own bs nL rt R ce sl E Qf pc ll st J := fun p e s m args below meth c H locs ls C0 w S L => by
  rcases z with (_ | y) | j
  · exact lv_aload_nN C0.1 C0.2.1 hd hi (lv_at L q (vls_at hl)) (h p e s m args below meth c H locs ls C0 w S L)
  · exact lv_aload_n C0.1 C0.2.1 hd hi (lv_at L q (vls_at hl)) (h p e s m args below meth c H locs ls C0 w S L)
  · exact lv_aload_n C0.1 C0.2.1 hd hi (lv_at L q (vls_at hl)) (h p e s m args below meth c H locs ls C0 w S L)
theorem vr_aload {z : Option (Nat × Nat) ⊕ Nat} {i : Nat} (q : Nat) (hd : decode bs pc = .ok (.aload i, 2)) (hl : ll[q]? = some (i, .inr (.inr z)))
    (h : VB l g own bs nL rt R ce sl E Qf (pc + 2) ll (.inr (.inr z) :: st) J) : VB l g own bs nL rt R ce sl E Qf pc ll st J := fun p e s m args below meth c H locs ls C0 w S L => by
  rcases z with (_ | y) | j
  · exact lv_aloadN C0.1 C0.2.1 hd (lv_at L q (vls_at hl)) (h p e s m args below meth c H locs ls C0 w S L)
  · exact lv_aload C0.1 C0.2.1 hd (lv_at L q (vls_at hl)) (h p e s m args below meth c H locs ls C0 w S L)
  · exact lv_aload C0.1 C0.2.1 hd (lv_at L q (vls_at hl)) (h p e s m args below meth c H locs ls C0 w S L)
def vst (i : Nat) (v : vV) (ll : List (Nat × vV)) : List (Nat × vV) := (i, v) :: ll.filter (fun q => !(q.1 == i) && !(q.1 + 1 == i && vwide q.2))
def vstL (i : Nat) (v : vV) (ll : List (Nat × vV)) : List (Nat × vV) := (i, v) :: ll.filter (fun q => !(q.1 == i) && (!(q.1 == i + 1) && !(q.1 + 1 == i && vwide q.2)))
theorem vst_eq {i : Nat} {v : vV} {ll' : List (Nat × vV)} (he : vst i v ll = ll') : (i, vv g v) :: (vls g ll).filter (fun q => !(q.1 == i) && !(q.1 + 1 == i && q.2.category == 2)) = vls g ll' := by
  subst he
  show _ = (i, vv g v) :: vls g (ll.filter _)
  rw [List.filter_map]
  congr 2
  refine List.filter_congr fun q _ => ?_
  simp only [Function.comp, vv_catB]
theorem vstL_eq {i : Nat} {v : vV} {ll' : List (Nat × vV)} (he : vstL i v ll = ll') : (i, vv g v) :: (vls g ll).filter (fun q => !(q.1 == i) && (!(q.1 == i + 1) && !(q.1 + 1 == i && q.2.category == 2))) = vls g ll' := by
  subst he
  show _ = (i, vv g v) :: vls g (ll.filter _)
  rw [List.filter_map]
  congr 2
  refine List.filter_congr fun q _ => ?_
  simp only [Function.comp, vv_catB]
theorem vr_istore_n {x : Int32} {k : Fin 4} (i : Nat) (ll' : List (Nat × vV)) (hd : decode bs pc = .ok (.istore_n k, 1)) (hi : (k : Nat) = i) (hn : i < nL) (he : vst i (vI x) ll = ll')
    (h : VB l g own bs nL rt R ce sl E Qf (pc + 1) ll' st J) : VB l g own bs nL rt R ce sl E Qf pc ll (vI x :: st) J := fun p e s m args below meth c H locs ls C0 w S L => lv_istore_n C0.1 C0.2.1 hd hi L hn (vst_eq he) (fun ls L => h p e s m args below meth c H locs ls C0 w S L)
theorem vr_istore {x : Int32} {i : Nat} (ll' : List (Nat × vV)) (hd : decode bs pc = .ok (.istore i, 2)) (hn : i < nL) (he : vst i (vI x) ll = ll')
    (h : VB l g own bs nL rt R ce sl E Qf (pc + 2) ll' st J) : VB l g own bs nL rt R ce sl E Qf pc ll (vI x :: st) J := fun p e s m args below meth c H locs ls C0 w S L => lv_istore C0.1 C0.2.1 hd L hn (vst_eq he) (fun ls L => h p e s m args below meth c H locs ls C0 w S L)
theorem vr_lstore_n {x : Int64} {k : Fin 4} (i : Nat) (ll' : List (Nat × vV)) (hd : decode bs pc = .ok (.lstore_n k, 1)) (hi : (k : Nat) = i) (hn : i + 1 < nL) (he : vstL i (vL x) ll = ll')
    (h : VB l g own bs nL rt R ce sl E Qf (pc + 1) ll' st J) : VB l g own bs nL rt R ce sl E Qf pc ll (vL x :: st) J := fun p e s m args below meth c H locs ls C0 w S L => lv_lstore_n C0.1 C0.2.1 hd hi L hn (vstL_eq he) (fun ls L => h p e s m args below meth c H locs ls C0 w S L)
theorem vr_lstore {x : Int64} {i : Nat} (ll' : List (Nat × vV)) (hd : decode bs pc = .ok (.lstore i, 2)) (hn : i + 1 < nL) (he : vstL i (vL x) ll = ll')
    (h : VB l g own bs nL rt R ce sl E Qf (pc + 2) ll' st J) : VB l g own bs nL rt R ce sl E Qf pc ll (vL x :: st) J := fun p e s m args below meth c H locs ls C0 w S L => lv_lstore C0.1 C0.2.1 hd L hn (vstL_eq he) (fun ls L => h p e s m args below meth c H locs ls C0 w S L)
theorem vr_astore_n {z : Option (Nat × Nat) ⊕ Nat} {k : Fin 4} (i : Nat) (ll' : List (Nat × vV)) (hd : decode bs pc = .ok (.astore_n k, 1)) (hi : (k : Nat) = i) (hn : i < nL) (he : vst i (.inr (.inr z)) ll = ll')
    (h : VB l g own bs nL rt R ce sl E Qf (pc + 1) ll' st J) : VB l g own bs nL rt R ce sl E Qf pc ll (.inr (.inr z) :: st) J := fun p e s m args below meth c H locs ls C0 w S L => by
  rcases z with (_ | y) | j
  · exact lv_astore_nN C0.1 C0.2.1 hd hi L hn (vst_eq he) (fun ls L => h p e s m args below meth c H locs ls C0 w S L)
  · exact lv_astore_n C0.1 C0.2.1 hd hi L hn (vst_eq he) (fun ls L => h p e s m args below meth c H locs ls C0 w S L)
  · exact lv_astore_n C0.1 C0.2.1 hd hi L hn (vst_eq he) (fun ls L => h p e s m args below meth c H locs ls C0 w S L)
theorem vr_astore {z : Option (Nat × Nat) ⊕ Nat} {i : Nat} (ll' : List (Nat × vV)) (hd : decode bs pc = .ok (.astore i, 2)) (hn : i < nL) (he : vst i (.inr (.inr z)) ll = ll')
    (h : VB l g own bs nL rt R ce sl E Qf (pc + 2) ll' st J) : VB l g own bs nL rt R ce sl E Qf pc ll (.inr (.inr z) :: st) J := fun p e s m args below meth c H locs ls C0 w S L => by
  rcases z with (_ | y) | j
  · exact lv_astoreN C0.1 C0.2.1 hd L hn (vst_eq he) (fun ls L => h p e s m args below meth c H locs ls C0 w S L)
  · exact lv_astore C0.1 C0.2.1 hd L hn (vst_eq he) (fun ls L => h p e s m args below meth c H locs ls C0 w S L)
  · exact lv_astore C0.1 C0.2.1 hd L hn (vst_eq he) (fun ls L => h p e s m args below meth c H locs ls C0 w S L)
theorem vr_iinc {x : Int32} {i : Nat} {n : Int} (v : Int32) (q : Nat) (ll' : List (Nat × vV)) (hd : decode bs pc = .ok (.iinc i n, 3)) (hq : ll[q]? = some (i, vI x)) (hv : x + Int32.ofInt n = v) (hn : i < nL) (he : vst i (vI v) ll = ll')
    (h : VB l g own bs nL rt R ce sl E Qf (pc + 3) ll' st J) : VB l g own bs nL rt R ce sl E Qf pc ll st J := fun p e s m args below meth c H locs ls C0 w S L => lv_iinc C0.1 C0.2.1 hd L (vls_at hq) hv hn (vst_eq he) (fun ls L => h p e s m args below meth c H locs ls C0 w S L)
theorem vr_sub (ks : List Nat) (ll' : List (Nat × vV)) (he : ks.filterMap (fun k => ll[k]?) = ll')
    (h : VB l g own bs nL rt R ce sl E Qf pc ll' st J) : VB l g own bs nL rt R ce sl E Qf pc ll st J := fun p e s m args below meth c H locs ls C0 w S L => by
  subst he
  refine h p e s m args below meth c H locs ls C0 w S (lv_sub L ks ?_)
  unfold lv_pick
  show _ = List.map _ _
  rw [List.map_filterMap]
  exact congrArg (fun f => List.filterMap f ks) (funext fun k => List.getElem?_map ..)
theorem vr_iadd {x y : Int32} (hd : decode bs pc = .ok (.iadd, 1))
    (h : VB l g own bs nL rt R ce sl E Qf (pc + 1) ll (vI (x + y) :: st) J) : VB l g own bs nL rt R ce sl E Qf pc ll (vI y :: vI x :: st) J := fun p e s m args below meth c H locs ls C0 w S L => lv_iadd C0.1 C0.2.1 hd (h p e s m args below meth c H locs ls C0 w S L)
theorem vr_isub {x y : Int32} (hd : decode bs pc = .ok (.isub, 1))
    (h : VB l g own bs nL rt R ce sl E Qf (pc + 1) ll (vI (x - y) :: st) J) : VB l g own bs nL rt R ce sl E Qf pc ll (vI y :: vI x :: st) J := fun p e s m args below meth c H locs ls C0 w S L => lv_isub C0.1 C0.2.1 hd (h p e s m args below meth c H locs ls C0 w S L)
theorem vr_imul {x y : Int32} (hd : decode bs pc = .ok (.imul, 1))
    (h : VB l g own bs nL rt R ce sl E Qf (pc + 1) ll (vI (x * y) :: st) J) : VB l g own bs nL rt R ce sl E Qf pc ll (vI y :: vI x :: st) J := fun p e s m args below meth c H locs ls C0 w S L => lv_imul C0.1 C0.2.1 hd (h p e s m args below meth c H locs ls C0 w S L)
theorem vr_iand {x y : Int32} (hd : decode bs pc = .ok (.iand, 1))
    (h : VB l g own bs nL rt R ce sl E Qf (pc + 1) ll (vI (x &&& y) :: st) J) : VB l g own bs nL rt R ce sl E Qf pc ll (vI y :: vI x :: st) J := fun p e s m args below meth c H locs ls C0 w S L => lv_iand C0.1 C0.2.1 hd (h p e s m args below meth c H locs ls C0 w S L)
theorem vr_ior {x y : Int32} (hd : decode bs pc = .ok (.ior, 1))
    (h : VB l g own bs nL rt R ce sl E Qf (pc + 1) ll (vI (x ||| y) :: st) J) : VB l g own bs nL rt R ce sl E Qf pc ll (vI y :: vI x :: st) J := fun p e s m args below meth c H locs ls C0 w S L => lv_ior C0.1 C0.2.1 hd (h p e s m args below meth c H locs ls C0 w S L)
theorem vr_ladd {x y : Int64} (hd : decode bs pc = .ok (.ladd, 1))
    (h : VB l g own bs nL rt R ce sl E Qf (pc + 1) ll (vL (x + y) :: st) J) : VB l g own bs nL rt R ce sl E Qf pc ll (vL y :: vL x :: st) J := fun p e s m args below meth c H locs ls C0 w S L => lv_ladd C0.1 C0.2.1 hd (h p e s m args below meth c H locs ls C0 w S L)
theorem vr_lsub {x y : Int64} (hd : decode bs pc = .ok (.lsub, 1))
    (h : VB l g own bs nL rt R ce sl E Qf (pc + 1) ll (vL (x - y) :: st) J) : VB l g own bs nL rt R ce sl E Qf pc ll (vL y :: vL x :: st) J := fun p e s m args below meth c H locs ls C0 w S L => lv_lsub C0.1 C0.2.1 hd (h p e s m args below meth c H locs ls C0 w S L)
theorem vr_idiv {x y : Int32} (hd : decode bs pc = .ok (.idiv, 1)) (hne : ¬ y = 0)
    (h : VB l g own bs nL rt R ce sl E Qf (pc + 1) ll (vI (x / y) :: st) J) : VB l g own bs nL rt R ce sl E Qf pc ll (vI y :: vI x :: st) J := fun p e s m args below meth c H locs ls C0 w S L => lv_idiv C0.1 C0.2.1 hd hne (h p e s m args below meth c H locs ls C0 w S L)
theorem vr_irem {x y : Int32} (hd : decode bs pc = .ok (.irem, 1)) (hne : ¬ y = 0)
    (h : VB l g own bs nL rt R ce sl E Qf (pc + 1) ll (vI (x - x / y * y) :: st) J) : VB l g own bs nL rt R ce sl E Qf pc ll (vI y :: vI x :: st) J := fun p e s m args below meth c H locs ls C0 w S L => lv_irem C0.1 C0.2.1 hd hne (h p e s m args below meth c H locs ls C0 w S L)
theorem vr_ineg {x : Int32} (hd : decode bs pc = .ok (.ineg, 1))
    (h : VB l g own bs nL rt R ce sl E Qf (pc + 1) ll (vI (-x) :: st) J) : VB l g own bs nL rt R ce sl E Qf pc ll (vI x :: st) J := fun p e s m args below meth c H locs ls C0 w S L => lv_ineg C0.1 C0.2.1 hd (h p e s m args below meth c H locs ls C0 w S L)
theorem vr_ishl {x y : Int32} (hd : decode bs pc = .ok (.ishl, 1))
    (h : VB l g own bs nL rt R ce sl E Qf (pc + 1) ll (vI (x <<< (y &&& 31)) :: st) J) : VB l g own bs nL rt R ce sl E Qf pc ll (vI y :: vI x :: st) J := fun p e s m args below meth c H locs ls C0 w S L => lv_ishl C0.1 C0.2.1 hd (h p e s m args below meth c H locs ls C0 w S L)
theorem vr_ishr {x y : Int32} (hd : decode bs pc = .ok (.ishr, 1))
    (h : VB l g own bs nL rt R ce sl E Qf (pc + 1) ll (vI (x >>> (y &&& 31)) :: st) J) : VB l g own bs nL rt R ce sl E Qf pc ll (vI y :: vI x :: st) J := fun p e s m args below meth c H locs ls C0 w S L => lv_ishr C0.1 C0.2.1 hd (h p e s m args below meth c H locs ls C0 w S L)
theorem vr_iushr {x y : Int32} (hd : decode bs pc = .ok (.iushr, 1))
    (h : VB l g own bs nL rt R ce sl E Qf (pc + 1) ll (vI ((x.toUInt32 >>> (y.toUInt32 &&& Int32.toUInt32 31)).toInt32) :: st) J) : VB l g own bs nL rt R ce sl E Qf pc ll (vI y :: vI x :: st) J := fun p e s m args below meth c H locs ls C0 w S L => lv_iushr C0.1 C0.2.1 hd rfl (h p e s m args below meth c H locs ls C0 w S L)
theorem vr_i2l {x : Int32} (hd : decode bs pc = .ok (.i2l, 1))
    (h : VB l g own bs nL rt R ce sl E Qf (pc + 1) ll (vL x.toInt64 :: st) J) : VB l g own bs nL rt R ce sl E Qf pc ll (vI x :: st) J := fun p e s m args below meth c H locs ls C0 w S L => lv_i2l C0.1 C0.2.1 hd rfl (h p e s m args below meth c H locs ls C0 w S L)
theorem vr_l2i {x : Int64} (hd : decode bs pc = .ok (.l2i, 1))
    (h : VB l g own bs nL rt R ce sl E Qf (pc + 1) ll (vI x.toInt32 :: st) J) : VB l g own bs nL rt R ce sl E Qf pc ll (vL x :: st) J := fun p e s m args below meth c H locs ls C0 w S L => lv_l2i C0.1 C0.2.1 hd rfl (h p e s m args below meth c H locs ls C0 w S L)
theorem vr_lcmp {x y : Int64} (hd : decode bs pc = .ok (.lcmp, 1))
    (h : VB l g own bs nL rt R ce sl E Qf (pc + 1) ll (vI (lg_cmp x y) :: st) J) : VB l g own bs nL rt R ce sl E Qf pc ll (vL y :: vL x :: st) J := fun p e s m args below meth c H locs ls C0 w S L => W.lcmp C0.1 C0.2.1 hd (h p e s m args below meth c H locs ls C0 w S L)
theorem vr_dup {v : vV} (hd : decode bs pc = .ok (.dup, 1)) (hv : vwide v = false)
    (h : VB l g own bs nL rt R ce sl E Qf (pc + 1) ll (v :: v :: st) J) : VB l g own bs nL rt R ce sl E Qf pc ll (v :: st) J := fun p e s m args below meth c H locs ls C0 w S L => lv_dup C0.1 C0.2.1 hd (by rw [vv_cat, hv]; rfl) (h p e s m args below meth c H locs ls C0 w S L)
theorem vr_pop {v : vV} (hd : decode bs pc = .ok (.pop, 1)) (hv : vwide v = false)
    (h : VB l g own bs nL rt R ce sl E Qf (pc + 1) ll st J) : VB l g own bs nL rt R ce sl E Qf pc ll (v :: st) J := fun p e s m args below meth c H locs ls C0 w S L => lv_pop C0.1 C0.2.1 hd (by rw [vv_cat, hv]; rfl) (h p e s m args below meth c H locs ls C0 w S L)
theorem vr_dup2 {u v : vV} (hd : decode bs pc = .ok (.dup2, 1)) (hu : vwide u = false) (hv : vwide v = false)
    (h : VB l g own bs nL rt R ce sl E Qf (pc + 1) ll (u :: v :: u :: v :: st) J) : VB l g own bs nL rt R ce sl E Qf pc ll (u :: v :: st) J := fun p e s m args below meth c H locs ls C0 w S L => lv_dup2_11 C0.1 C0.2.1 hd (by rw [vv_cat, hu]; rfl) (by rw [vv_cat, hv]; rfl) (h p e s m args below meth c H locs ls C0 w S L)
theorem vr_goto {off : Int} (tgt : Nat) (hd : decode bs pc = .ok (.goto off, 3)) (ht : (pc : Int) + off = (tgt : Int))
    (h : VB l g own bs nL rt R ce sl E Qf tgt ll st J) : VB l g own bs nL rt R ce sl E Qf pc ll st J := fun p e s m args below meth c H locs ls C0 w S L => lv_goto C0.1 C0.2.1 hd ht (h p e s m args below meth c H locs ls C0 w S L)
theorem vr_ifeq {x : Int32} {off : Int} (tgt : Nat) (hd : decode bs pc = .ok (.ifCond .eq off, 3)) (ht : (pc : Int) + off = (tgt : Int))
    (h1 : (x = 0) → VB l g own bs nL rt R ce sl E Qf tgt ll st J) (h2 : ¬ (x = 0) → VB l g own bs nL rt R ce sl E Qf (pc + 3) ll st J) : VB l g own bs nL rt R ce sl E Qf pc ll (vI x :: st) J := fun p e s m args below meth c H locs ls C0 w S L => lv_if_eq C0.1 C0.2.1 hd ht (fun q => h1 q p e s m args below meth c H locs ls C0 w S L) (fun q => h2 q p e s m args below meth c H locs ls C0 w S L)
theorem vr_ifne {x : Int32} {off : Int} (tgt : Nat) (hd : decode bs pc = .ok (.ifCond .ne off, 3)) (ht : (pc : Int) + off = (tgt : Int))
    (h1 : (x = 0) → VB l g own bs nL rt R ce sl E Qf (pc + 3) ll st J) (h2 : ¬ (x = 0) → VB l g own bs nL rt R ce sl E Qf tgt ll st J) : VB l g own bs nL rt R ce sl E Qf pc ll (vI x :: st) J := fun p e s m args below meth c H locs ls C0 w S L => lv_if_ne C0.1 C0.2.1 hd ht (fun q => h2 q p e s m args below meth c H locs ls C0 w S L) (fun q => h1 q p e s m args below meth c H locs ls C0 w S L)
theorem vr_iflt {x : Int32} {off : Int} (tgt : Nat) (hd : decode bs pc = .ok (.ifCond .lt off, 3)) (ht : (pc : Int) + off = (tgt : Int))
    (h1 : (x < 0) → VB l g own bs nL rt R ce sl E Qf tgt ll st J) (h2 : ¬ (x < 0) → VB l g own bs nL rt R ce sl E Qf (pc + 3) ll st J) : VB l g own bs nL rt R ce sl E Qf pc ll (vI x :: st) J := fun p e s m args below meth c H locs ls C0 w S L => lv_if_lt C0.1 C0.2.1 hd ht (fun q => h1 q p e s m args below meth c H locs ls C0 w S L) (fun q => h2 q p e s m args below meth c H locs ls C0 w S L)
theorem vr_ifge {x : Int32} {off : Int} (tgt : Nat) (hd : decode bs pc = .ok (.ifCond .ge off, 3)) (ht : (pc : Int) + off = (tgt : Int))
    (h1 : (x < 0) → VB l g own bs nL rt R ce sl E Qf (pc + 3) ll st J) (h2 : ¬ (x < 0) → VB l g own bs nL rt R ce sl E Qf tgt ll st J) : VB l g own bs nL rt R ce sl E Qf pc ll (vI x :: st) J := fun p e s m args below meth c H locs ls C0 w S L => lv_if_ge C0.1 C0.2.1 hd ht (fun q => h2 (Int32.not_lt.mpr q) p e s m args below meth c H locs ls C0 w S L) (fun q => h1 (Int32.not_le.mp q) p e s m args below meth c H locs ls C0 w S L)
theorem vr_ifgt {x : Int32} {off : Int} (tgt : Nat) (hd : decode bs pc = .ok (.ifCond .gt off, 3)) (ht : (pc : Int) + off = (tgt : Int))
    (h1 : (0 < x) → VB l g own bs nL rt R ce sl E Qf tgt ll st J) (h2 : ¬ (0 < x) → VB l g own bs nL rt R ce sl E Qf (pc + 3) ll st J) : VB l g own bs nL rt R ce sl E Qf pc ll (vI x :: st) J := fun p e s m args below meth c H locs ls C0 w S L => lv_if_gt C0.1 C0.2.1 hd ht (fun q => h1 q p e s m args below meth c H locs ls C0 w S L) (fun q => h2 q p e s m args below meth c H locs ls C0 w S L)
theorem vr_ifle {x : Int32} {off : Int} (tgt : Nat) (hd : decode bs pc = .ok (.ifCond .le off, 3)) (ht : (pc : Int) + off = (tgt : Int))
    (h1 : (0 < x) → VB l g own bs nL rt R ce sl E Qf (pc + 3) ll st J) (h2 : ¬ (0 < x) → VB l g own bs nL rt R ce sl E Qf tgt ll st J) : VB l g own bs nL rt R ce sl E Qf pc ll (vI x :: st) J := fun p e s m args below meth c H locs ls C0 w S L => lv_if_le C0.1 C0.2.1 hd ht (fun q => h2 (Int32.not_lt.mpr q) p e s m args below meth c H locs ls C0 w S L) (fun q => h1 (Int32.not_le.mp q) p e s m args below meth c H locs ls C0 w S L)
theorem vr_icmpeq {x y : Int32} {off : Int} (tgt : Nat) (hd : decode bs pc = .ok (.if_icmp .eq off, 3)) (ht : (pc : Int) + off = (tgt : Int))
    (h1 : (x = y) → VB l g own bs nL rt R ce sl E Qf tgt ll st J) (h2 : ¬ (x = y) → VB l g own bs nL rt R ce sl E Qf (pc + 3) ll st J) : VB l g own bs nL rt R ce sl E Qf pc ll (vI y :: vI x :: st) J := fun p e s m args below meth c H locs ls C0 w S L => lv_icmp_eq C0.1 C0.2.1 hd ht (fun q => h1 q p e s m args below meth c H locs ls C0 w S L) (fun q => h2 q p e s m args below meth c H locs ls C0 w S L)
theorem vr_icmpne {x y : Int32} {off : Int} (tgt : Nat) (hd : decode bs pc = .ok (.if_icmp .ne off, 3)) (ht : (pc : Int) + off = (tgt : Int))
    (h1 : (x = y) → VB l g own bs nL rt R ce sl E Qf (pc + 3) ll st J) (h2 : ¬ (x = y) → VB l g own bs nL rt R ce sl E Qf tgt ll st J) : VB l g own bs nL rt R ce sl E Qf pc ll (vI y :: vI x :: st) J := fun p e s m args below meth c H locs ls C0 w S L => lv_icmp_ne C0.1 C0.2.1 hd ht (fun q => h2 q p e s m args below meth c H locs ls C0 w S L) (fun q => h1 q p e s m args below meth c H locs ls C0 w S L)
theorem vr_icmplt {x y : Int32} {off : Int} (tgt : Nat) (hd : decode bs pc = .ok (.if_icmp .lt off, 3)) (ht : (pc : Int) + off = (tgt : Int))
    (h1 : (x < y) → VB l g own bs nL rt R ce sl E Qf tgt ll st J) (h2 : ¬ (x < y) → VB l g own bs nL rt R ce sl E Qf (pc + 3) ll st J) : VB l g own bs nL rt R ce sl E Qf pc ll (vI y :: vI x :: st) J := fun p e s m args below meth c H locs ls C0 w S L => lv_icmp_lt C0.1 C0.2.1 hd ht (fun q => h1 q p e s m args below meth c H locs ls C0 w S L) (fun q => h2 q p e s m args below meth c H locs ls C0 w S L)
theorem vr_icmpge {x y : Int32} {off : Int} (tgt : Nat) (hd : decode bs pc = .ok (.if_icmp .ge off, 3)) (ht : (pc : Int) + off = (tgt : Int))
    (h1 : (x < y) → VB l g own bs nL rt R ce sl E Qf (pc + 3) ll st J) (h2 : ¬ (x < y) → VB l g own bs nL rt R ce sl E Qf tgt ll st J) : VB l g own bs nL rt R ce sl E Qf pc ll (vI y :: vI x :: st) J := fun p e s m args below meth c H locs ls C0 w S L => lv_icmp_ge C0.1 C0.2.1 hd ht (fun q => h2 (Int32.not_lt.mpr q) p e s m args below meth c H locs ls C0 w S L) (fun q => h1 (Int32.not_le.mp q) p e s m args below meth c H locs ls C0 w S L)
theorem vr_icmpgt {x y : Int32} {off : Int} (tgt : Nat) (hd : decode bs pc = .ok (.if_icmp .gt off, 3)) (ht : (pc : Int) + off = (tgt : Int))
    (h1 : (y < x) → VB l g own bs nL rt R ce sl E Qf tgt ll st J) (h2 : ¬ (y < x) → VB l g own bs nL rt R ce sl E Qf (pc + 3) ll st J) : VB l g own bs nL rt R ce sl E Qf pc ll (vI y :: vI x :: st) J := fun p e s m args below meth c H locs ls C0 w S L => lv_icmp_gt C0.1 C0.2.1 hd ht (fun q => h1 q p e s m args below meth c H locs ls C0 w S L) (fun q => h2 q p e s m args below meth c H locs ls C0 w S L)
theorem vr_icmple {x y : Int32} {off : Int} (tgt : Nat) (hd : decode bs pc = .ok (.if_icmp .le off, 3)) (ht : (pc : Int) + off = (tgt : Int))
    (h1 : (y < x) → VB l g own bs nL rt R ce sl E Qf (pc + 3) ll st J) (h2 : ¬ (y < x) → VB l g own bs nL rt R ce sl E Qf tgt ll st J) : VB l g own bs nL rt R ce sl E Qf pc ll (vI y :: vI x :: st) J := fun p e s m args below meth c H locs ls C0 w S L => lv_icmp_le C0.1 C0.2.1 hd ht (fun q => h2 (Int32.not_lt.mpr q) p e s m args below meth c H locs ls C0 w S L) (fun q => h1 (Int32.not_le.mp q) p e s m args below meth c H locs ls C0 w S L)
theorem vr_ifnullR {k x : Nat} {off : Int} (hd : decode bs pc = .ok (.ifnull off, 3))
    (h : VB l g own bs nL rt R ce sl E Qf (pc + 3) ll st J) : VB l g own bs nL rt R ce sl E Qf pc ll (vR k x :: st) J := fun p e s m args below meth c H locs ls C0 w S L => lv_ifnull C0.1 C0.2.1 hd (h p e s m args below meth c H locs ls C0 w S L)
theorem vr_ifnullN {off : Int} (tgt : Nat) (hd : decode bs pc = .ok (.ifnull off, 3)) (ht : (pc : Int) + off = (tgt : Int))
    (h : VB l g own bs nL rt R ce sl E Qf tgt ll st J) : VB l g own bs nL rt R ce sl E Qf pc ll (vN :: st) J := fun p e s m args below meth c H locs ls C0 w S L => lv_ifnullN C0.1 C0.2.1 hd ht (h p e s m args below meth c H locs ls C0 w S L)
theorem vr_ifnonnullR {k x : Nat} {off : Int} (tgt : Nat) (hd : decode bs pc = .ok (.ifnonnull off, 3)) (ht : (pc : Int) + off = (tgt : Int))
    (h : VB l g own bs nL rt R ce sl E Qf tgt ll st J) : VB l g own bs nL rt R ce sl E Qf pc ll (vR k x :: st) J := fun p e s m args below meth c H locs ls C0 w S L => lv_ifnonnull C0.1 C0.2.1 hd ht (h p e s m args below meth c H locs ls C0 w S L)
theorem vr_ifnonnullN {off : Int} (hd : decode bs pc = .ok (.ifnonnull off, 3))
    (h : VB l g own bs nL rt R ce sl E Qf (pc + 3) ll st J) : VB l g own bs nL rt R ce sl E Qf pc ll (vN :: st) J := fun p e s m args below meth c H locs ls C0 w S L => lv_ifnonnullN C0.1 C0.2.1 hd (h p e s m args below meth c H locs ls C0 w S L)
theorem vr_tswIn {x : Int32} {dflt lo hi : Int} {offs : Array Int} {len : Nat} {off : Int} (v : Int32) (tgt : Nat) (hd : decode bs pc = .ok (.tableswitch dflt lo hi offs, len)) (hx : x = v) (h1 : ¬ v.toInt < lo ∧ ¬ hi < v.toInt) (ho : offs[(v.toInt - lo).toNat]? = some off) (ht : (pc : Int) + off = (tgt : Int))
    (h : VB l g own bs nL rt R ce sl E Qf tgt ll st J) : VB l g own bs nL rt R ce sl E Qf pc ll (vI x :: st) J := fun p e s m args below meth c H locs ls C0 w S L => by
  subst hx
  exact lv_tableIn C0.1 C0.2.1 hd h1.1 h1.2 ho ht (h p e s m args below meth c H locs ls C0 w S L)
theorem vr_tswOut {x : Int32} {dflt lo hi : Int} {offs : Array Int} {len : Nat} (tgt : Nat) (hd : decode bs pc = .ok (.tableswitch dflt lo hi offs, len)) (hx : x.toInt < lo ∨ hi < x.toInt) (ht : (pc : Int) + dflt = (tgt : Int))
    (h : VB l g own bs nL rt R ce sl E Qf tgt ll st J) : VB l g own bs nL rt R ce sl E Qf pc ll (vI x :: st) J := fun p e s m args below meth c H locs ls C0 w S L => lv_tableOut C0.1 C0.2.1 hd hx ht (h p e s m args below meth c H locs ls C0 w S L)
theorem vr_lsw {x : Int32} {dflt : Int} {ps : Array (Int × Int)} {len : Nat} {off : Int} (tgt : Nat) (hd : decode bs pc = .ok (.lookupswitch dflt ps, len)) (hp : (ps.toList.zip (ps.toList.drop 1)).all (fun (a, next) => a.1 < next.1) = true) (ho : Op.lookupswitch.offset ps.toList dflt x.toInt = off) (ht : (pc : Int) + off = (tgt : Int))
    (h : VB l g own bs nL rt R ce sl E Qf tgt ll st J) : VB l g own bs nL rt R ce sl E Qf pc ll (vI x :: st) J := fun p e s m args below meth c H locs ls C0 w S L => lv_lookup C0.1 C0.2.1 hd hp ho ht (h p e s m args below meth c H locs ls C0 w S L)
end VROWS
