/-! LAYER N: the heap grows; what lies from an address on is one list -/
def nAO : List String := [RX3, RX1, RX0, "java/lang/String"]
def nX (U : State) : Prop := ∀ C ∈ nAO, va_AO C U
def nA (a : Nat) : Nat → Prop := fun q => a ≤ q
def nW (g : vG) (a : Nat) (w : List va_E) (H : Heap) : Prop := H.size = a + w.length ∧ ∀ (j : Nat) (e : va_E), w[j]? = some e → va_at g.1 vcl (a + j, e) H
def nC (g : vG) (own : String) (bs : ByteArray) (nL : Nat) (rt : Option FieldType) (ini : Bool) (E : Array Value → State → Prop) (a : Nat) (p : Program) (s : State) (m : MethodId) (args : Array Value) (meth : Method) (c : Code) : Prop :=
  vC g own bs nL rt E p s m args meth c ∧ (ini = true → meth.name = "<init>") ∧ g.2.2.2.2 ≤ a ∧ nX s
def NB (l : Launch) (g : vG) (own : String) (bs : ByteArray) (nL : Nat) (rt : Option FieldType) (R : Room) (ini : Bool) (E : Array Value → State → Prop) (Qf : List Frame → Array Value → State → State → Prop) (a ce sl pc : Nat) (ll : List (Nat × Value)) (st : List Value) (w : List va_E) : Prop :=
  ∀ (p : Program) (e : Env) (s : State) (m : MethodId) (args : Array Value) (below : List Frame) (meth : Method) (c : Code) (H : Heap) (locs : List Loc) (ls : Array Slot),
    nC g own bs nL rt ini E a p s m args meth c → nW g a w H → va_S (nA a) s.heap H locs → lv_has ls nL ll →
    W p l e R s m args below meth c H locs ce sl (Qf below args s) (F0 m pc ls st)
theorem nW_push {g : vG} {a : Nat} {w : List va_E} {H H1 : Heap} {e : va_E} (h : nW g a w H) (he : va_at g.1 vcl (a + w.length, e) H1) (hz : H1.size = a + w.length + 1) (ho : ∀ q, q < a + w.length → H1[q]? = H[q]?) : nW g a (w ++ [e]) H1 := by
  refine ⟨by rw [hz, List.length_append]; rfl, fun j x hj => ?_⟩
  by_cases hl : j < w.length
  · rw [List.getElem?_append_left hl] at hj
    exact (h.2 j x hj).kept (ho _ (by show a + j < _; omega))
  · rw [List.getElem?_append_right (by omega)] at hj
    have h1 : j - w.length < 1 := (List.getElem?_eq_some_iff.mp hj).1
    have h2 : j = w.length := by omega
    subst h2
    rw [Nat.sub_self] at hj
    cases hj
    exact he
theorem nW_set {g : vG} {a j : Nat} {w : List va_E} {H H1 : Heap} {e : va_E} (h : nW g a w H) (he : va_at g.1 vcl (a + j, e) H1) (hz : H1.size = H.size) (ho : ∀ q, q ≠ a + j → H1[q]? = H[q]?) : nW g a (w.set j e) H1 := by
  refine ⟨by rw [hz, List.length_set]; exact h.1, fun i x hi => ?_⟩
  by_cases hl : i = j
  · subst hl
    have h1 := (List.getElem?_eq_some_iff.mp hi).1
    rw [List.length_set] at h1
    rw [List.getElem?_set_self h1] at hi
    cases hi
    exact he
  · rw [List.getElem?_set_ne (Ne.symm hl)] at hi
    exact (h.2 i x hi).kept (ho _ (by show a + i ≠ _; omega))
theorem nW_P {g : vG} {a j : Nat} {w : List va_E} {H : Heap} {e : va_E} (h : nW g a w H) (hj : w[j]? = some e) : va_P g.1 vcl [(a + j, e)] H := fun i q hi => by
  have h1 : i < 1 := (List.getElem?_eq_some_iff.mp hi).1
  obtain rfl : i = 0 := by omega
  cases hi
  exact h.2 j _ hj
theorem va_S.mono {A B : Nat → Prop} {H0 H : Heap} {locs : List Loc} (h : va_S A H0 H locs) (hAB : ∀ q, A q → B q) : va_S B H0 H locs := ⟨h.1, fun q h1 h2 => h.2.1 q h1 (fun z => h2 (hAB q z)), fun q hq => hAB _ (h.2.2 q hq)⟩
theorem va_S.grow {A : Nat → Prop} {H0 H H1 : Heap} {locs : List Loc} {n : Nat} (h : va_S A H0 H locs) (hn : H.size = n) (z : H1.size = n + 1) (ho : ∀ q, q < n → H1[q]? = H[q]?) : va_S A H0 H1 locs := by
  subst hn
  exact ⟨Nat.le_trans h.1 (by omega), fun q h1 h2 => (ho q (Nat.lt_of_lt_of_le h1 h.1)).trans (h.2.1 q h1 h2), h.2.2⟩
section NROWS
variable {l : Launch} {g : vG} {own : String} {bs : ByteArray} {nL : Nat} {rt : Option FieldType} {R : Room} {ini : Bool} {E : Array Value → State → Prop} {Qf : List Frame → Array Value → State → State → Prop} {a ce sl pc : Nat} {ll : List (Nat × Value)} {st : List Value} {w : List va_E}
theorem nr_aload_n {b : Nat} {k : Fin 4} (i q : Nat) (hd : decode bs pc = .ok (.aload_n k, 1)) (hi : (k : Nat) = i) (hl : ll[q]? = some (i, .ref b))
    (h : NB l g own bs nL rt R ini E Qf a ce sl (pc + 1) ll (.ref b :: st) w) : NB l g own bs nL rt R ini E Qf a ce sl pc ll st w := fun p e s m args below meth c H locs ls C0 hw S L =>
  lv_aload_n C0.1.1 C0.1.2.1 hd hi (lv_at L q hl) (h p e s m args below meth c H locs ls C0 hw S L)
theorem nr_iload_n {x : Int32} {k : Fin 4} (i q : Nat) (hd : decode bs pc = .ok (.iload_n k, 1)) (hi : (k : Nat) = i) (hl : ll[q]? = some (i, .int x))
    (h : NB l g own bs nL rt R ini E Qf a ce sl (pc + 1) ll (.int x :: st) w) : NB l g own bs nL rt R ini E Qf a ce sl pc ll st w := fun p e s m args below meth c H locs ls C0 hw S L =>
  lv_iload_n C0.1.1 C0.1.2.1 hd hi (lv_at L q hl) (h p e s m args below meth c H locs ls C0 hw S L)
theorem nr_astore_n {b : Nat} {k : Fin 4} (i : Nat) (ll' : List (Nat × Value)) (hd : decode bs pc = .ok (.astore_n k, 1)) (hi : (k : Nat) = i) (hn : i < nL) (he : (i, Value.ref b) :: ll.filter (fun q => !(q.1 == i) && !(q.1 + 1 == i && q.2.category == 2)) = ll')
    (h : NB l g own bs nL rt R ini E Qf a ce sl (pc + 1) ll' st w) : NB l g own bs nL rt R ini E Qf a ce sl pc ll (.ref b :: st) w := fun p e s m args below meth c H locs ls C0 hw S L =>
  lv_astore_n C0.1.1 C0.1.2.1 hd hi L hn he (fun ls L => h p e s m args below meth c H locs ls C0 hw S L)
theorem nr_istore_n {x : Int32} {k : Fin 4} (i : Nat) (ll' : List (Nat × Value)) (hd : decode bs pc = .ok (.istore_n k, 1)) (hi : (k : Nat) = i) (hn : i < nL) (he : (i, Value.int x) :: ll.filter (fun q => !(q.1 == i) && !(q.1 + 1 == i && q.2.category == 2)) = ll')
    (h : NB l g own bs nL rt R ini E Qf a ce sl (pc + 1) ll' st w) : NB l g own bs nL rt R ini E Qf a ce sl pc ll (.int x :: st) w := fun p e s m args below meth c H locs ls C0 hw S L =>
  lv_istore_n C0.1.1 C0.1.2.1 hd hi L hn he (fun ls L => h p e s m args below meth c H locs ls C0 hw S L)
theorem nr_iinc {x : Int32} {i : Nat} {n : Int} (v : Int32) (q : Nat) (ll' : List (Nat × Value)) (hd : decode bs pc = .ok (.iinc i n, 3)) (hq : ll[q]? = some (i, .int x)) (hv : x + Int32.ofInt n = v) (hn : i < nL) (he : (i, Value.int v) :: ll.filter (fun q => !(q.1 == i) && !(q.1 + 1 == i && q.2.category == 2)) = ll')
    (h : NB l g own bs nL rt R ini E Qf a ce sl (pc + 3) ll' st w) : NB l g own bs nL rt R ini E Qf a ce sl pc ll st w := fun p e s m args below meth c H locs ls C0 hw S L =>
  lv_iinc C0.1.1 C0.1.2.1 hd L hq hv hn he (fun ls L => h p e s m args below meth c H locs ls C0 hw S L)
theorem nr_iconst {n : Int} (v : Int32) (hd : decode bs pc = .ok (.iconst n, 1)) (hv : Int32.ofInt n = v)
    (h : NB l g own bs nL rt R ini E Qf a ce sl (pc + 1) ll (.int v :: st) w) : NB l g own bs nL rt R ini E Qf a ce sl pc ll st w := fun p e s m args below meth c H locs ls C0 hw S L =>
  lv_iconst C0.1.1 C0.1.2.1 hd hv (h p e s m args below meth c H locs ls C0 hw S L)
theorem nr_bipush {n : Int} (v : Int32) (hd : decode bs pc = .ok (.bipush n, 2)) (hv : (Int8.ofInt n).toInt32 = v)
    (h : NB l g own bs nL rt R ini E Qf a ce sl (pc + 2) ll (.int v :: st) w) : NB l g own bs nL rt R ini E Qf a ce sl pc ll st w := fun p e s m args below meth c H locs ls C0 hw S L =>
  lv_bipush C0.1.1 C0.1.2.1 hd hv (h p e s m args below meth c H locs ls C0 hw S L)
theorem nr_sipush {n : Int} (v : Int32) (hd : decode bs pc = .ok (.sipush n, 3)) (hv : (Int16.ofInt n).toInt32 = v)
    (h : NB l g own bs nL rt R ini E Qf a ce sl (pc + 3) ll (.int v :: st) w) : NB l g own bs nL rt R ini E Qf a ce sl pc ll st w := fun p e s m args below meth c H locs ls C0 hw S L =>
  lv_sipush C0.1.1 C0.1.2.1 hd hv (h p e s m args below meth c H locs ls C0 hw S L)
theorem nr_dup {b : Nat} (hd : decode bs pc = .ok (.dup, 1))
    (h : NB l g own bs nL rt R ini E Qf a ce sl (pc + 1) ll (.ref b :: .ref b :: st) w) : NB l g own bs nL rt R ini E Qf a ce sl pc ll (.ref b :: st) w := fun p e s m args below meth c H locs ls C0 hw S L =>
  lv_dup C0.1.1 C0.1.2.1 hd rfl (h p e s m args below meth c H locs ls C0 hw S L)
theorem nr_goto {off : Int} (tgt : Nat) (hd : decode bs pc = .ok (.goto off, 3)) (ht : (pc : Int) + off = (tgt : Int))
    (h : NB l g own bs nL rt R ini E Qf a ce sl tgt ll st w) : NB l g own bs nL rt R ini E Qf a ce sl pc ll st w := fun p e s m args below meth c H locs ls C0 hw S L =>
  lv_goto C0.1.1 C0.1.2.1 hd ht (h p e s m args below meth c H locs ls C0 hw S L)
theorem nr_icmpge {x y : Int32} {off : Int} (tgt : Nat) (hd : decode bs pc = .ok (.if_icmp .ge off, 3)) (ht : (pc : Int) + off = (tgt : Int))
    (h1 : ¬ y ≤ x → NB l g own bs nL rt R ini E Qf a ce sl (pc + 3) ll st w) (h2 : y ≤ x → NB l g own bs nL rt R ini E Qf a ce sl tgt ll st w) : NB l g own bs nL rt R ini E Qf a ce sl pc ll (.int y :: .int x :: st) w := fun p e s m args below meth c H locs ls C0 hw S L =>
  lv_icmp_ge C0.1.1 C0.1.2.1 hd ht (fun q => h2 q p e s m args below meth c H locs ls C0 hw S L) (fun q => h1 q p e s m args below meth c H locs ls C0 hw S L)
theorem nr_ldcS {idx : Nat} {tx : String} (j : Nat) (hm : (own, idx, tx, j) ∈ vstr) (hd : decode bs pc = .ok (.ldc idx, 2))
    (h : NB l g own bs nL rt R ini E Qf a ce sl (pc + 2) ll (.ref (g.2.2.2.1 j) :: st) w) : NB l g own bs nL rt R ini E Qf a ce sl pc ll st w := fun p e s m args below meth c H locs ls C0 hw S L =>
  va_ldcS C0.1.1 C0.1.2.1 C0.1.2.2.2.2.2.1 (C0.1.2.2.2.2.2.2.2.1.2.2.2.1 _ hm) hd (h p e s m args below meth c H locs ls C0 hw S L)
theorem nr_ext {w' : List va_E} (he : w = w') (h : NB l g own bs nL rt R ini E Qf a ce sl pc ll st w') : NB l g own bs nL rt R ini E Qf a ce sl pc ll st w := he ▸ h
theorem nr_obj (own' : String) {idx b : Nat} (ho : own = own') (hl : Cond.methodLink own' idx Lib.objectInit ∈ vtb) (hi : Cond.instanceMethod Lib.objectInit ∈ vtb) (hc : Cond.code Lib.objectInit ⟨#[0xb1]⟩ 1 none ∈ vtb) (hf : 1 ≤ R.frames ∧ 12 ≤ R.locals) (hd : decode bs pc = .ok (.invokespecial idx, 3))
    (h : NB l g own bs nL rt R ini E Qf a ce sl (pc + 3) ll [] w) : NB l g own bs nL rt R ini E Qf a ce sl pc ll [.ref b] w := fun p e s m args below meth c H locs ls C0 hw S L => by
  subst ho
  obtain ⟨hx0, hb0, hml, -, -, hown, hts, hK, -⟩ := id C0.1
  exact W.objInit hx0 hb0 hown (hts _ hl) (hts _ hi) (hts _ hc) rfl (L.1.trans hml.symm) rfl hd hf.1 (by simpa using hf.2) (h p e s m args below meth c H locs ls C0 hw S L)
theorem nr_new (own' : String) {C : String} {T : u_T} {N idx ci b : Nat} {ty : Nat → FieldType} (fs : List Value) (ho : own = own') (hin : ∀ w ∈ u_ws C T N, w ∈ vtb) (hty : ∀ k, k < N → parseFieldDescriptor (T k).2.2.1 = some (ty k)) (hcl : Cond.classLink own' idx C ∈ vtb) (hinst : Cond.instantiable C N ∈ vtb) (hini : Cond.initialized C ∈ vtb) (hc : vcl[ci]? = some (C, T, N)) (hfs : ∀ j, j < N → defaultValue (ty j) = vp_V fs j) (hR : ce + 1 ≤ R.cells ∧ sl + N ≤ R.slots) (hb : a + w.length = b) (hd : decode bs pc = .ok (.new idx, 3))
    (h : NB l g own bs nL rt R ini E Qf a (ce + 1) (sl + N) (pc + 3) ll (.ref b :: st) (w ++ [.inr (ci, fs)])) : NB l g own bs nL rt R ini E Qf a ce sl pc ll st w := fun p e s m args below meth c H locs ls C0 hw S L => by
  subst ho
  subst hb
  obtain ⟨hx0, hb0, hml, -, -, hown, hts, hK, -⟩ := id C0.1
  have hKn := hK.2.1.1 ci _ hc
  refine W.newcK hx0 hb0 hown (hts _ hcl) (hts _ hinst) (hts _ hini) rfl hd hR.1 hR.2 hKn.2.1 hw.1 fun H1 kC hkC e1 z1 o1 => ?_
  exact h p e s m args below meth c H1 locs ls C0 (nW_push hw ⟨_, hc, (u_born ty hts hin hKn hkC e1 hty).to hfs⟩ z1 o1) (S.grow hw.1 z1 o1) L
theorem nr_newa {N b : Nat} {n : Int32} (ho : Cond.arrayClass .int ∈ vtb) (hn : ¬ n < 0) (hN : n.toNatClampNeg = N) (hN2 : N ≤ 100000) (hR : ce + 1 ≤ R.cells ∧ sl + N ≤ R.slots) (hb : a + w.length = b) (hd : decode bs pc = .ok (.newarray .int, 2))
    (h : NB l g own bs nL rt R ini E Qf a (ce + 1) (sl + N) (pc + 2) ll (.ref b :: st) (w ++ [.inl (g.2.1 0, N, .inl (fun _ => 0))])) : NB l g own bs nL rt R ini E Qf a ce sl pc ll (.int n :: st) w := fun p e s m args below meth c H locs ls C0 hw S L => by
  subst hb
  obtain ⟨hx0, hb0, hml, -, -, hown, hts, hK, -⟩ := id C0.1
  refine va_newaK hx0 hb0 (atype := .int) (hts _ ho) rfl hd rfl hn hN (by show N * 4 ≤ _; omega) hR.1 hR.2 hw.1 fun H1 cA e1 z1 o1 hAr hNm => ?_
  have hcA : s.vm.findClass ("[" ++ FieldType.int.toString) = some (g.2.1 0) := (hK.2.1.2 0 _ rfl).2
  have e2 : cA = g.2.1 0 := Option.some.inj (hNm.symm.trans hcA)
  subst e2
  exact h p e s m args below meth c H1 locs ls C0 (nW_push hw e1 z1 o1) (S.grow hw.1 z1 o1) L
theorem nr_anew (own' : String) {C : String} {idx t N b : Nat} {n : Int32} (ho : own = own') (hm : C ∈ nAO) (ht : (vtys g)[t]? = some (g.2.1 t, .object C)) (hcl : Cond.classLink own' idx C ∈ vtb) (hn : ¬ n < 0) (hN : n.toNatClampNeg = N) (hN2 : N ≤ 100000) (hR : ce + 1 ≤ R.cells ∧ sl + N ≤ R.slots) (hb : a + w.length = b) (hd : decode bs pc = .ok (.anewarray idx, 3))
    (h : NB l g own bs nL rt R ini E Qf a (ce + 1) (sl + N) (pc + 3) ll (.ref b :: st) (w ++ [.inl (g.2.1 t, N, .inr (.inr (.inr (.inr (fun _ => none)))))])) : NB l g own bs nL rt R ini E Qf a ce sl pc ll (.int n :: st) w := fun p e s m args below meth c H locs ls C0 hw S L => by
  subst ho
  subst hb
  subst hN
  obtain ⟨hx0, hb0, hml, -, -, hown, hts, hK, -⟩ := id C0.1
  refine W.anew hx0 hb0 hown (hts _ hcl) (va_AO.use (C0.2.2.2 C hm)) rfl hd rfl hn (by omega) hR.1 hR.2 fun cA kA comp h1 h2 h3 h4 => ?_
  obtain ⟨-, -, -, -, -, h5⟩ := (hK.2.1.2 t _ ht).2
  have e2 : cA = g.2.1 t := Option.some.inj (h1.symm.trans h5)
  subst e2
  have o1 : ∀ q, q < a + w.length → (H.push { cls := g.2.1 t, slots := Array.replicate n.toNatClampNeg .null, vm := .none })[q]? = H[q]? := fun q hq => by
    rw [Array.getElem?_push, if_neg (by rw [hw.1]; exact Nat.ne_of_lt hq)]
  have z1 : (H.push { cls := g.2.1 t, slots := Array.replicate n.toNatClampNeg .null, vm := .none }).size = a + w.length + 1 := by
    rw [Array.size_push, hw.1]
  have e3 : (H.push { cls := g.2.1 t, slots := Array.replicate n.toNatClampNeg .null, vm := .none })[a + w.length]? = some (arrV (g.2.1 t) n.toNatClampNeg (fun _ => .null)) := by
    rw [Array.getElem?_push, if_pos hw.1.symm, arrV_new]
  have h6 := h p e s m args below meth c _ locs ls C0 (nW_push hw e3 z1 o1) (S.grow hw.1 z1 o1) L
  rw [← hw.1] at h6
  exact h6
theorem nr_get (own' : String) {j k ci b : Nat} {v : Value} {fs : List Value} {C n d : String} {T : u_T} {N idx : Nat} (ho : own = own') (hb : a + j = b) (he : w[j]? = some (.inr (ci, fs))) (hc : vcl[ci]? = some (C, T, N)) (hin : ∀ w ∈ u_ws C T N, w ∈ vtb) (hk : k < N) (hT : (T k).1 = C ∧ (T k).2.1 = n ∧ (T k).2.2.1 = d) (hl : Cond.fieldLink own' idx C n d ∈ vtb) (hv : fs[k]? = some v) (hd : decode bs pc = .ok (.getfield idx, 3))
    (h : NB l g own bs nL rt R ini E Qf a ce sl (pc + 3) ll (v :: st) w) : NB l g own bs nL rt R ini E Qf a ce sl pc ll (.ref b :: st) w := fun p e s m args below meth c H locs ls C0 hw S L => by
  subst ho
  subst hb
  obtain ⟨rfl, rfl, rfl⟩ := hT
  obtain ⟨hx0, hb0, -, -, -, hown, hts, hK, -⟩ := id C0.1
  exact va_get hx0 hb0 hts hin hown hK.2.1 (nW_P hw he) 0 rfl hc k hk (hts _ hl) (fun _ hh => hh) hv hd (h p e s m args below meth c H locs ls C0 hw S L)
theorem nr_putF (own' : String) {j k ci b : Nat} {v : Value} {fs : List Value} {C n d : String} {T : u_T} {N idx : Nat} {ty : FieldType} {ty0 : Nat → FieldType} {w' : List va_E} (hi : ini = true) (ho : own = own') (hb : a + j = b) (he : w[j]? = some (.inr (ci, fs))) (hc : vcl[ci]? = some (C, T, N)) (hin : ∀ w ∈ u_ws C T N, w ∈ vtb) (hty : ∀ k, k < N → parseFieldDescriptor (T k).2.2.1 = some (ty0 k)) (hnm : ∀ a, a < N → ∀ b, b < N → a ≠ b → (T a).2.1 ≠ (T b).2.1) (hk : k < N) (hT : (T k).1 = C ∧ (T k).2.1 = n ∧ (T k).2.2.1 = d) (hl : Cond.fieldLink own' idx C n d ∈ vtb) (hfin : (T k).2.2.2 = true) (hdecl : (T k).1 = own') (htk : ty0 k = ty) (hn : narrow ty v = v) (hfit : fits ty v = true) (hlen : k < fs.length) (hset : w.set j (.inr (ci, fs.set k v)) = w') (hd : decode bs pc = .ok (.putfield idx, 3))
    (h : NB l g own bs nL rt R ini E Qf a ce sl (pc + 3) ll st w') : NB l g own bs nL rt R ini E Qf a ce sl pc ll (v :: .ref b :: st) w := fun p e s m args below meth c H locs ls C0 hw S L => by
  subst ho
  subst hb
  subst hset
  obtain ⟨hT1, rfl, rfl⟩ := hT
  obtain ⟨hx0, hb0, -, -, -, hown, hts, hK, -⟩ := id C0.1
  have hP := nW_P hw he
  have hap := va_apart (own := own) hts hin ty0 hty hnm hK.2.1 hc
  obtain ⟨r, h1, cell, q1, q2, q3, q4⟩ := hP 0 _ rfl
  have hr : r = (C, T, N) := Option.some.inj (h1.symm.trans hc)
  subst hr
  obtain ⟨hS, hfc, kC, hkC, hkind⟩ := hK.2.1.1 ci _ hc
  obtain ⟨cf, kf, fi, f, hi', hsl⟩ := hS k hk
  have hlay := hts _ (hin _ (u_in_lay hk))
  unfold u_lay at hlay
  rw [if_pos hfin] at hlay
  have hst := (u_facts hfc hkC (u_lays hts hin hk) hi').1
  have hcf : m.cls = cf := by
    obtain ⟨_, _, c', _, _, _, -, -, hf', -, -, -, hown2, -⟩ := Cond.laysFinal_spec hlay
    have e1 : c' = cf := by have := hi'.symm.trans hf'; simp at this; exact this.1.symm
    rw [hdecl] at hown2
    rw [← e1]; exact Option.some.inj (hown.symm.trans hown2)
  have h6 := u_fits hfc hkC hkind (Or.inr hlay) hi' ((hty k hk).trans (congrArg some htk)) hn hfit
  refine W.putFinK hx0 hb0 hown (hts _ hl) (show s.fieldFound? C (T k).2.1 (T k).2.2.1 = _ from hT1 ▸ hi') hst hcf (C0.2.1 hi) (by rw [q2]; exact h6) q1 q3 (by rw [hsl]; exact k2_hasslot (q4 k hk)) rfl rfl hd fun H' e1 e2 e3 => ?_
  rw [hsl] at e1 ⊢
  have hat : va_at g.1 vcl (a + j, .inr (ci, fs.set k v)) H' := ⟨_, hc, t_OB.to (V := updV (vp_V fs) k v) ⟨_, e1, q2, q3, t_set q4 hap hk v⟩ (fun i _ => vp_updV_set hlen v i)⟩
  exact h p e s m args below meth c H' _ ls C0 (nW_set hw hat e2 e3) (S.put e2 e3 (show a ≤ a + j from Nat.le_add_right _ _)) L
theorem nr_put (own' : String) {j k ci b : Nat} {v : Value} {fs : List Value} {C n d : String} {T : u_T} {N idx : Nat} {ty : FieldType} {ty0 : Nat → FieldType} {w' : List va_E} (ho : own = own') (hb : a + j = b) (he : w[j]? = some (.inr (ci, fs))) (hc : vcl[ci]? = some (C, T, N)) (hin : ∀ w ∈ u_ws C T N, w ∈ vtb) (hty : ∀ k, k < N → parseFieldDescriptor (T k).2.2.1 = some (ty0 k)) (hnm : ∀ a, a < N → ∀ b, b < N → a ≠ b → (T a).2.1 ≠ (T b).2.1) (hk : k < N) (hT : (T k).1 = C ∧ (T k).2.1 = n ∧ (T k).2.2.1 = d) (hl : Cond.fieldLink own' idx C n d ∈ vtb) (hfin : (T k).2.2.2 = false) (htk : ty0 k = ty) (hn : narrow ty v = v) (hfit : fits ty v = true) (hlen : k < fs.length) (hset : w.set j (.inr (ci, fs.set k v)) = w') (hd : decode bs pc = .ok (.putfield idx, 3))
    (h : NB l g own bs nL rt R ini E Qf a ce sl (pc + 3) ll st w') : NB l g own bs nL rt R ini E Qf a ce sl pc ll (v :: .ref b :: st) w := fun p e s m args below meth c H locs ls C0 hw S L => by
  subst ho
  subst hb
  subst hset
  obtain ⟨hT1, rfl, rfl⟩ := hT
  obtain ⟨hx0, hb0, -, -, -, hown, hts, hK, -⟩ := id C0.1
  have hP := nW_P hw he
  have hap := va_apart (own := own) hts hin ty0 hty hnm hK.2.1 hc
  obtain ⟨r, h1, cell, q1, q2, q3, q4⟩ := hP 0 _ rfl
  have hr : r = (C, T, N) := Option.some.inj (h1.symm.trans hc)
  subst hr
  obtain ⟨hS, hfc, kC, hkC, hkind⟩ := hK.2.1.1 ci _ hc
  obtain ⟨cf, kf, fi, f, hi', hsl⟩ := hS k hk
  have hlay := hts _ (hin _ (u_in_lay hk))
  unfold u_lay at hlay
  rw [if_neg (by rw [hfin]; decide)] at hlay
  have hst := (u_facts hfc hkC (u_lays hts hin hk) hi').1
  have h6 := u_store hfc hkC hkind hlay hi' ((hty k hk).trans (congrArg some htk)) hn hfit
  refine W.putK hx0 hb0 (f := f) ⟨hown, hts _ hl, ⟨_, _, _, (show s.fieldFound? C (T k).2.1 (T k).2.2.1 = _ from hT1 ▸ hi')⟩, hst⟩ (by rw [q2]; exact h6) q1 q3 (by rw [hsl]; exact k2_hasslot (q4 k hk)) rfl rfl hd fun H' e1 e2 e3 => ?_
  rw [hsl] at e1 ⊢
  have hat : va_at g.1 vcl (a + j, .inr (ci, fs.set k v)) H' := ⟨_, hc, t_OB.to (V := updV (vp_V fs) k v) ⟨_, e1, q2, q3, t_set q4 hap hk v⟩ (fun i _ => vp_updV_set hlen v i)⟩
  exact h p e s m args below meth c H' _ ls C0 (nW_set hw hat e2 e3) (S.put e2 e3 (show a ≤ a + j from Nat.le_add_right _ _)) L
theorem nr_alen {j t N b : Nat} {x : (Nat → Int32) ⊕ (Nat → Int64) ⊕ (Nat → UInt32) ⊕ (Nat → UInt64) ⊕ (Nat → Option Nat)} {ty : FieldType} (v : Int32) (hb : a + j = b) (he : w[j]? = some (.inl (g.2.1 t, N, x))) (ht : (vtys g)[t]? = some (g.2.1 t, ty)) (hv : Int32.ofNat N = v) (hd : decode bs pc = .ok (.arraylength, 1))
    (h : NB l g own bs nL rt R ini E Qf a ce sl (pc + 1) ll (.int v :: st) w) : NB l g own bs nL rt R ini E Qf a ce sl pc ll (.ref b :: st) w := fun p e s m args below meth c H locs ls C0 hw S L => by
  subst hb
  exact va_alen C0.1.1 C0.1.2.1 C0.1.2.2.2.2.2.2.2.1.2.1 (nW_P hw he) 0 t rfl ht hv hd (h p e s m args below meth c H locs ls C0 hw S L)
theorem nr_iast {j N b : Nat} {f : Nat → Int32} {i v : Int32} {w' : List va_E} (hb : a + j = b) (he : w[j]? = some (.inl (g.2.1 0, N, .inl f))) (hin : vp_in i N) (hset : w.set j (.inl (g.2.1 0, N, .inl (va_up f (ix i) v))) = w') (hd : decode bs pc = .ok (.iastore, 1))
    (h : NB l g own bs nL rt R ini E Qf a ce sl (pc + 1) ll st w') : NB l g own bs nL rt R ini E Qf a ce sl pc ll (.int v :: .int i :: .ref b :: st) w := fun p e s m args below meth c H locs ls C0 hw S L => by
  subst hb
  subst hset
  obtain ⟨hx0, hb0, -, -, -, hown, hts, hK, -⟩ := id C0.1
  refine W.iast hx0 hb0 (cell := vp_cell (g.2.1 0) (N, .inl f)) (hw.2 j _ he) ((hK.2.1.2 0 _ rfl).1 N (fun j => .int (f j))) (fun q => by cases q) (by show ¬ (i < 0 ∨ (arrV _ _ _).slots.size ≤ _); rw [arrV_size]; exact hin) rfl rfl hd fun H1 e1 z oq => ?_
  refine h p e s m args below meth c H1 _ ls C0 (nW_set hw ?_ z oq) (S.put z oq (show a ≤ a + j from Nat.le_add_right _ _)) L
  show H1[_]? = some (vp_cell _ _)
  rw [e1, vp_cell_i, vp_cell_i, arrV_store]
  congr 2
  funext q
  by_cases hq : q = ix i
  · subst hq
    simp [updV, va_up]
  · simp [updV, va_up, hq]
theorem nr_aastW {j t N b v : Nat} {C : String} {f : Nat → Option Nat} {i : Int32} {w' : List va_E} (hb : a + j = b) (he : w[j]? = some (.inl (g.2.1 t, N, .inr (.inr (.inr (.inr f)))))) (ht : (vtys g)[t]? = some (g.2.1 t, .object C)) (hin : vp_in i N) (hset : w.set j (.inl (g.2.1 t, N, .inr (.inr (.inr (.inr (va_up f (ix i) (some v))))))) = w') (hd : decode bs pc = .ok (.aastore, 1))
    (hr : ∀ (s : State) (H : Heap) (locs : List Loc), vK g s → g.2.2.2.2 ≤ a → nW g a w H → va_S (nA a) s.heap H locs → ∃ cellV : Cell, H[v]? = some cellV ∧ cellV.vm.isStatics = false ∧ s.vm.findClass C = some cellV.cls)
    (h : NB l g own bs nL rt R ini E Qf a ce sl (pc + 1) ll st w') : NB l g own bs nL rt R ini E Qf a ce sl pc ll (.ref v :: .int i :: .ref b :: st) w := fun p e s m args below meth c H locs ls C0 hw S L => by
  subst hb
  subst hset
  obtain ⟨hx0, hb0, -, -, -, hown, hts, hK, -⟩ := id C0.1
  have hlt : i.toNatClampNeg < N := Nat.not_le.mp fun q => hin (Or.inr q)
  have h0 : ¬ i < 0 := fun q => hin (Or.inl q)
  obtain ⟨cellV, g1, g3, g2⟩ := hr s H locs hK C0.2.2.1 hw S
  obtain ⟨kA, comp, k1, k2, k3, -⟩ := (hK.2.1.2 t _ ht).2
  obtain ⟨kE, hkE, -⟩ := Vm.findClass_spec k3
  obtain ⟨kC, hkC, -⟩ := Vm.findClass_spec g2
  have e0 : cellV.cls = comp := Option.some.inj (g2.symm.trans k3)
  refine W.aast hx0 hb0 (hw.2 j _ he) (fun q h => by cases h) (fun h => by cases h) k1 k2 rfl hkE ⟨h0, by show _ < (arrV _ _ _).slots.size; rw [arrV_size]; exact hlt⟩ g1 (fun q h => by rw [h] at g3; cases g3) hkC (by rw [e0]; exact va_asg _ _) rfl rfl hd fun H1 e1 z oq => ?_
  refine h p e s m args below meth c H1 _ ls C0 (nW_set hw ?_ z oq) (S.put z oq (show a ≤ a + j from Nat.le_add_right _ _)) L
  show H1[_]? = some (vp_cell _ _)
  rw [e1, vp_cell_q, vp_cell_q, arrV_store]
  congr 2
  funext q
  by_cases hq : q = i.toNatClampNeg
  · subst hq
    simp [updV, va_up, va_rf]
  · simp [updV, va_up, hq]
theorem nr_aast {j t N b v jv ci : Nat} {r : vw_C} {vs : List Value} {f : Nat → Option Nat} {i : Int32} {w' : List va_E} (hb : a + j = b) (he : w[j]? = some (.inl (g.2.1 t, N, .inr (.inr (.inr (.inr f)))))) (ht : (vtys g)[t]? = some (g.2.1 t, .object r.1)) (hin : vp_in i N) (hset : w.set j (.inl (g.2.1 t, N, .inr (.inr (.inr (.inr (va_up f (ix i) (some v))))))) = w') (hbv : a + jv = v) (hev : w[jv]? = some (.inr (ci, vs))) (hc : vcl[ci]? = some r) (hd : decode bs pc = .ok (.aastore, 1))
    (h : NB l g own bs nL rt R ini E Qf a ce sl (pc + 1) ll st w') : NB l g own bs nL rt R ini E Qf a ce sl pc ll (.ref v :: .int i :: .ref b :: st) w :=
  nr_aastW hb he ht hin hset hd (fun s H locs hK ha hw S => by
    subst hbv
    exact va_recv (q0 := 0) hK.2.1 (nW_P hw hev) hc rfl) h
theorem nr_aastS {j N b k : Nat} {f : Nat → Option Nat} {i : Int32} {w' : List va_E} (hb : a + j = b) (he : w[j]? = some (.inl (g.2.1 4, N, .inr (.inr (.inr (.inr f)))))) (hin : vp_in i N) (hk : k < 22) (hset : w.set j (.inl (g.2.1 4, N, .inr (.inr (.inr (.inr (va_up f (ix i) (some (g.2.2.2.1 k)))))))) = w') (hd : decode bs pc = .ok (.aastore, 1))
    (h : NB l g own bs nL rt R ini E Qf a ce sl (pc + 1) ll st w') : NB l g own bs nL rt R ini E Qf a ce sl pc ll (.ref (g.2.2.2.1 k) :: .int i :: .ref b :: st) w :=
  nr_aastW hb he rfl hin hset hd (fun s H locs hK ha hw S => vk_recv hK.2.2.2.2.1 hk (S.mono (fun q (hq : a ≤ q) => (Nat.le_trans ha hq : vA g q)))) h
end NROWS
def nQ (g : vG) (a : Nat) (w : List va_E) : Array Value → State → Outcome → State → Prop := fun _ st oc t => (oc = .returned none ∧ nW g a w t.heap) ∧ va_F (nA a) st t
def nQf (g : vG) (a : Nat) (w : List va_E) (mc ms : Nat) : List Frame → Array Value → State → State → Prop := fun below args s => MQ below (nQ g a w) args s mc ms (nA a)
def nrm (d mc ms : Nat) : Room := { frames := d, cells := mc, slots := ms, locals := 38 * d }
/-- the contract of a constructor: the object lies at a, last of the heap, with its first values -/
def NC (l : Launch) (g : vG) (y : MethodName) (bs : ByteArray) (nL d mc ms : Nat) (e0 : va_E) (blk : Nat → List va_E) : Prop :=
  ∀ a : Nat, g.2.2.2.2 ≤ a → Met l y (.code y bs nL none :: vtb) (nrm d mc ms) (va_Pc [.ref a] (fun U => vK g U ∧ nX U ∧ nW g a [e0] U.heap)) (nQ g a (blk a)) mc ms (nA a)
abbrev NJ (l : Launch) (g : vG) (own : String) (bs : ByteArray) (nL d mc ms : Nat) (blk : List va_E) (a ce sl pc : Nat) (ll : List (Nat × Value)) (st : List Value) (w : List va_E) : Prop := NB l g own bs nL none (nrm d mc ms) true vE0 (nQf g a blk mc ms) a ce sl pc ll st w
theorem NC.of {l : Launch} {g : vG} {y : MethodName} {bs : ByteArray} {nL d mc ms : Nat} {e0 : va_E} {blk : Nat → List va_E} (hy : plainName y.cls = true) (hi : y.name = "<init>") (hn : 1 ≤ nL)
    (h : ∀ a : Nat, NJ l g y.cls bs nL d mc ms (blk a) a 0 0 0 [(0, .ref a)] [] [e0]) : NC l g y bs nL d mc ms e0 blk := by
  intro a ha
  refine Met.ofW (cc := bs) (maxL := nL) (ret := none) hy rfl ?_
  intro p e s m args below meth c s₁ B hml hv
  obtain ⟨rfl, hK, hX, hW⟩ := hv
  have hown : s.vm.findClass y.cls = some m.cls := findClass_of_methodNamed B.named
  have hnm : meth.name = "<init>" := (name_of_methodNamed B.named B.method).1.trans hi
  have hts := atoms_spec (ws := .code y bs nL none :: vtb) B.pre
  have hl := lv_entry [.ref a] (n := nL) (by show 1 ≤ nL; exact hn)
  rw [lg_entry_eq]
  exact h a p e s m _ below meth c s.heap [] _ ⟨⟨B.exec, B.bytes, hml, B.returns, B.notSynchronized, hown, fun w hw => hts w (List.mem_cons_of_mem _ hw), hK, trivial⟩, fun _ => hnm, ha, hX⟩ hW va_S.rf hl
theorem nX_moved {u U : State} (hvm : u.vm.Alike U.vm) (h : nX u) : nX U := fun C hC => va_AO.moved hvm (h C hC)
theorem nr_vret {l : Launch} {g : vG} {own : String} {bs : ByteArray} {nL d mc ms : Nat} {blk : List va_E} {a ce sl pc : Nat} {ll : List (Nat × Value)} {w : List va_E} (hw' : w = blk) (hc : ce = mc ∧ sl = ms) (hd : decode bs pc = .ok (.return_, 1)) : NJ l g own bs nL d mc ms blk a ce sl pc ll [] w := fun p e s m args below meth c H locs ls C0 hw S L => by
  obtain ⟨rfl, rfl⟩ := hc
  subst hw'
  exact W.vret C0.1.1 C0.1.2.1 C0.1.2.2.2.1 (fun t ht hW => ⟨⟨rfl, by rw [ht]; exact hw⟩, S.F ht⟩) S.2.2 hd (hlocks := C0.1.2.2.2.2.1)
theorem npc_blind {g : vG} {a : Nat} {e0 : va_E} : FrameBlind (va_Pc [.ref a] (fun U => vK g U ∧ nX U ∧ nW g a [e0] U.heap)) := fun _ U gg mk h => ⟨h.1, vK_blind h.2.1, nX_moved (u := U) (U := U.calling gg mk _) (Vm.Alike.refl U.vm) h.2.2.1, h.2.2.2⟩
/-- what a constructor finds when it is called for the last object of the list -/
theorem nK_call {g : vG} {a : Nat} {w : List va_E} {e0 : va_E} {s U : State} {H : Heap} {locs : List Loc} (hK : vK g s) (ha : g.2.2.2.2 ≤ a) (hX : nX s) (hw : nW g a (w ++ [e0]) H) (S : va_S (nA a) s.heap H locs) (hU : U.heap = H) (hW : s.WarmedH U.vm) : vK g U ∧ nX U ∧ nW g (a + w.length) [e0] U.heap := by
  have S' : va_S (vA g) s.heap H locs := S.mono (fun q (hq : a ≤ q) => (Nat.le_trans ha hq : vA g q))
  obtain ⟨⟨hO, hb⟩, hK1, hn, hr, hs, hz, hf⟩ := hK
  refine ⟨⟨⟨hO, by rw [hU]; exact Nat.le_trans hb S.1⟩, va_K.moved hW.alike hK1, fun c hc => ?_, fun q hq => (hr q hq).warm hW, ?_, ?_, ?_⟩, nX_moved hW.alike hX, ?_⟩
  · have h1 := hn c hc
    have hform : ∃ a i x b, c = Cond.methodLinkNest a i x b := by
      have : ∀ c ∈ vnest, ∃ a i x b, c = Cond.methodLinkNest a i x b := by
        unfold vnest
        repeat' (first | refine List.forall_mem_cons.mpr ⟨⟨_, _, _, _, rfl⟩, ?_⟩ | exact fun _ h => absurd h List.not_mem_nil)
      exact this c hc
    obtain ⟨a, i, x, b, rfl⟩ := hform
    exact va_Nw.warmM hW h1
  · rw [hU]
    exact vk_S.moved hW.alike (hs.kept (fun q h1 h2 => S'.2.1 q h1 h2))
  · rw [hU]
    exact va_Z.moved hW.alike (hz.kept (fun q h1 h2 => S'.2.1 q h1 h2))
  · rw [hU]
    exact hf.imp (fun h => va_Z.moved hW.alike (h.kept (fun q h1 h2 => S'.2.1 q h1 h2))) (fun h => va_Z.moved hW.alike (h.kept (fun q h1 h2 => S'.2.1 q h1 h2)))
  · rw [hU]
    refine ⟨by rw [hw.1, List.length_append, List.length_singleton]; omega, fun j e hj => ?_⟩
    have h1 : j < 1 := (List.getElem?_eq_some_iff.mp hj).1
    obtain rfl : j = 0 := by omega
    cases hj
    have := hw.2 w.length e0 (by simp)
    exact this
section NCALL
variable {l : Launch} {g : vG} {own : String} {bs : ByteArray} {nL : Nat} {rt : Option FieldType} {R : Room} {ini : Bool} {E : Array Value → State → Prop} {Qf : List Frame → Array Value → State → State → Prop} {a ce sl pc : Nat} {ll : List (Nat × Value)} {st : List Value} {w : List va_E}
/-- behind a constructor -/
theorem nr_back {mc ms b : Nat} {st0 : List Value} {e0 : va_E} {blk : List va_E} {p : Program} {e : Env} {s : State} {m : MethodId} {args aa : Array Value} {below : List Frame} {meth : Method} {c : Code} {H : Heap} {locs : List Loc} {ls : Array Slot} {Q : State → Prop}
    (hb : a + w.length = b) (hw : nW g a (w ++ [e0]) H) (hr : va_Run p l e R s m args below meth c H locs ce sl mc ms (F0 m pc ls st0) st (nQ g b blk aa) (nA b)) (S : va_S (nA a) s.heap H locs)
    (kk : ∀ (H1 : Heap) (locs1 : List Loc), nW g a (w ++ blk) H1 → va_S (nA a) s.heap H1 locs1 → W p l e R s m args below meth c H1 locs1 (ce + mc) (sl + ms) Q (F0 m (pc + 3) ls st)) : W p l e R s m args below meth c H locs ce sl Q (F0 m pc ls st0) := by
  subst hb
  intro T hT X
  obtain ⟨v, st₀, t, T', L, h0, X', hL, e1, e2, ⟨⟨hv, hw1⟩, hz, hk⟩, st1⟩ := hr T hT X
  cases hv
  rw [h0] at hz hk
  have hw2 : nW g a (w ++ blk) T'.heap := by
    rw [e1]
    refine ⟨by rw [hw1.1, List.length_append]; omega, fun j x hj => ?_⟩
    by_cases hl : j < w.length
    · rw [List.getElem?_append_left hl] at hj
      have h1 := hw.2 j x (by rw [List.getElem?_append_left hl]; exact hj)
      have h2 : a + j < H.size := by rw [hw.1, List.length_append]; omega
      exact h1.kept (hk _ h2 (fun (z : a + w.length ≤ a + j) => by omega))
    · rw [List.getElem?_append_right (by omega)] at hj
      have h1 := hw1.2 _ x hj
      rw [show a + w.length + (j - w.length) = a + j by omega] at h1
      exact h1
  obtain ⟨t2, a1, b1⟩ := kk T'.heap (locs ++ L) hw2
    ⟨Nat.le_trans S.1 (by rw [e1]; exact hz), fun q h1 h2 => by rw [e1, hk q (Nat.lt_of_lt_of_le h1 S.1) (fun (z : a + w.length ≤ q) => h2 (show a ≤ q by omega))]; exact S.2.1 q h1 h2, fun q hq => by
      rcases List.mem_append.mp hq with h | h
      · exact S.2.2 q h
      · exact Nat.le_trans (Nat.le_add_right a w.length) (hL q h)⟩ T' rfl X'
  exact ⟨t2, st1 t2 a1, b1⟩
theorem nr_init (own' : String) {dY nY mc ms b idx : Nat} {y : MethodName} {bY : ByteArray} {e0 : va_E} {blk : Nat → List va_E} {w0 : List va_E} (hM : NC l g y bY nY dY mc ms e0 blk) (ho : own = own') (hw0 : w0 = w ++ [e0]) (hb : a + w.length = b) (hcode : Cond.code y bY nY none ∈ vtb) (hlink : Cond.methodLink own' idx y ∈ vtb) (hinst : Cond.instanceMethod y ∈ vtb) (hini : Cond.initialized y.cls ∈ vtb)
    (hy : y.cls ≠ "java/lang/invoke/MethodHandle" ∧ y.cls ≠ "java/lang/invoke/VarHandle" ∧ (parseMethodDescriptor y.desc).map (fun d => d.parameters.length) = some 0) (hyn : y.name = "<init>") (hR : dY + 1 ≤ R.frames ∧ 8 + (nY + 11) + 38 * dY ≤ R.locals) (hs : (st.map fun v => v.category).sum ≤ 8) (hce : ce + mc ≤ R.cells ∧ sl + ms ≤ R.slots) (hd : decode bs pc = .ok (.invokespecial idx, 3))
    (h : NB l g own bs nL rt R ini E Qf a (ce + mc) (sl + ms) (pc + 3) ll st (w ++ blk b)) : NB l g own bs nL rt R ini E Qf a ce sl pc ll (.ref b :: st) w0 := fun p e s m args below meth c H locs ls C0 hw S L => by
  subst ho
  subst hw0
  subst hb
  obtain ⟨hx0, hb0, hml, -, -, hown, hts, hK, -⟩ := id C0.1
  have hG : GoodIn vtb (.code y bY nY none :: vtb) := vtb_good (fun w hw => by
    rcases List.mem_cons.mp hw with rfl | h2
    · exact hcode
    · exact h2)
  have hrun := va_runI (e := e) (below := below) (meth := meth) (H := H) (locs := locs) (cells := ce) (slots := sl) (g := F0 m pc ls (.ref (a + w.length) :: st)) (b := a + w.length) (As := []) (rest := st) ⟨hx0, hb0, hml, hown, hts⟩ (hM _ (Nat.le_trans C0.2.2.1 (Nat.le_add_right _ _))) (cwI 0 hts hG rfl rfl rfl (hts _ hini) (hts _ hlink) (hts _ hinst) hyn hy hR) ⟨npc_blind, fun U hU hW => ⟨rfl, nK_call hK C0.2.2.1 C0.2.2.2 hw S hU hW⟩⟩ rfl rfl L.1 rfl (by simpa using hs) hd hce
  exact nr_back rfl hw hrun S (fun H1 locs1 hw1 hS => h p e s m args below meth c H1 locs1 ls C0 hw1 hS L)
theorem nr_initN (own' host : String) {dY nY mc ms b idx : Nat} {y : MethodName} {bY : ByteArray} {e0 : va_E} {blk : Nat → List va_E} {w0 : List va_E} (hM : NC l g y bY nY dY mc ms e0 blk) (ho : own = own') (hw0 : w0 = w ++ [e0]) (hb : a + w.length = b) (hcode : Cond.code y bY nY none ∈ vtb) (hlink : Cond.methodLinkNest own' idx y host ∈ vnest) (hinst : Cond.instanceMethod y ∈ vtb) (hini : Cond.initialized y.cls ∈ vtb)
    (hy : y.cls ≠ "java/lang/invoke/MethodHandle" ∧ y.cls ≠ "java/lang/invoke/VarHandle" ∧ (parseMethodDescriptor y.desc).map (fun d => d.parameters.length) = some 0) (hyn : y.name = "<init>") (hR : dY + 1 ≤ R.frames ∧ 8 + (nY + 11) + 38 * dY ≤ R.locals) (hs : (st.map fun v => v.category).sum ≤ 8) (hce : ce + mc ≤ R.cells ∧ sl + ms ≤ R.slots) (hd : decode bs pc = .ok (.invokespecial idx, 3))
    (h : NB l g own bs nL rt R ini E Qf a (ce + mc) (sl + ms) (pc + 3) ll st (w ++ blk b)) : NB l g own bs nL rt R ini E Qf a ce sl pc ll (.ref b :: st) w0 := fun p e s m args below meth c H locs ls C0 hw S L => by
  subst ho
  subst hw0
  subst hb
  obtain ⟨hx0, hb0, hml, -, -, hown, hts, hK, -⟩ := id C0.1
  have hG : GoodIn vtb (.code y bY nY none :: vtb) := vtb_good (fun w hw => by
    rcases List.mem_cons.mp hw with rfl | h2
    · exact hcode
    · exact h2)
  have hrun := va_runIN (e := e) (below := below) (meth := meth) (H := H) (locs := locs) (cells := ce) (slots := sl) (host := host) (index := idx) (g := F0 m pc ls (.ref (a + w.length) :: st)) (b := a + w.length) (As := []) (rest := st) ⟨hx0, hb0, hml, hown, hts⟩ (hM _ (Nat.le_trans C0.2.2.1 (Nat.le_add_right _ _))) ⟨va_cnB 0 hts hG rfl rfl rfl (hK.2.2.1 _ hlink) (hts _ hini) hy hR, hyn, hts _ hinst⟩ ⟨npc_blind, fun U hU hW => ⟨rfl, nK_call hK C0.2.2.1 C0.2.2.2 hw S hU hW⟩⟩ rfl rfl L.1 rfl (by simpa using hs) hd hce
  exact nr_back rfl hw hrun S (fun H1 locs1 hw1 hS => h p e s m args below meth c H1 locs1 ls C0 hw1 hS L)
end NCALL
