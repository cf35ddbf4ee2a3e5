/-! LAYER V: a fixed graph of objects (kind k, index x), its payload, a judgement at an instruction that hides the machine's context -/
abbrev vV : Type := Int32 ⊕ (Int64 ⊕ (Option (Nat × Nat) ⊕ Nat))
abbrev vI (x : Int32) : vV := .inl x
abbrev vL (x : Int64) : vV := .inr (.inl x)
abbrev vR (k x : Nat) : vV := .inr (.inr (.inl (some (k, x))))
abbrev vO (k : Nat) (o : Option Nat) : vV := .inr (.inr (.inl (o.map fun x => (k, x))))
abbrev vN : vV := .inr (.inr (.inl none))
abbrev vT (j : Nat) : vV := .inr (.inr (.inr j))
/-- classes and slots; array classes (0 int, 1 Segment, 2 Frame, 3 Argument, 4 String); addresses of objects; of strings (and what else lies outside); where the graph begins -/
abbrev vG : Type := va_G × (Nat → ClassId) × (Nat → Nat → Nat) × (Nat → Nat) × Nat
def vv (g : vG) : vV → Value
  | .inl x => .int x
  | .inr (.inl x) => .long x
  | .inr (.inr (.inl none)) => .null
  | .inr (.inr (.inl (some q))) => .ref (g.2.2.1 q.1 q.2)
  | .inr (.inr (.inr j)) => .ref (g.2.2.2.1 j)
abbrev VP : Type := Nat → Nat → Nat → Int32
def vup (P : VP) (k x j : Nat) (v : Int32) : VP := fun k' x' j' => if k' = k ∧ x' = x ∧ j' = j then v else P k' x' j'
def vjn (P Q : VP) : VP := fun k => cond (Nat.blt k 22) (P k) (Q k)
/-- an index as a place -/
abbrev ix (i : Int32) : Nat := i.toNatClampNeg
def vcnt : Nat → Nat := fun k => match k with
  | 0 => 1 | 1 => 3 | 2 => 3 | 3 => 3 | 4 => 3 | 5 => 3 | 6 => 3 | 7 => 48 | 8 => 48 | 9 => 48 | 10 => 48 | 11 => 3 | 12 => 3 | 13 => 3
  | 14 => 147 | 15 => 147 | 16 => 441 | 17 => 1 | 18 => 1 | 19 => 1 | 20 => 1 | 21 => 1 | 22 => 1 | 23 => 1 | 24 => 1 | 25 => 1 | 26 => 1 | 27 => 1 | 28 => 1 | 29 => 1
  | _ => 0
/-- the lengths of the int arrays -/
def vlen : Nat → Nat := fun k => match k with
  | 3 => 8 | 4 => 8 | 5 => 4 | 8 => 24 | 9 => 24 | 10 => 24 | 12 => 8 | 18 => 120 | 19 => 121 | 20 => 121 | 21 => 3
  | 23 => 3464 | 24 => 3464 | 25 => 3464 | 26 => 120 | 27 => 480 | 28 => 12
  | _ => 0
def vArr (g : vG) (k : Nat) (f : Nat → Int32) : va_E := .inl (g.2.1 0, vlen k, .inl f)
def vRow (g : vG) (c n : Nat) (f : Nat → Nat) : va_E := .inl (g.2.1 c, n, .inr (.inr (.inr (.inr (fun j => some (f j))))))
def venc (g : vG) (J : VP) (k x : Nat) : va_E := match k with
  | 0 => .inr (7, [.ref (g.2.2.1 1 0), .ref (g.2.2.1 1 1), .ref (g.2.2.1 1 2), .ref (g.2.2.1 17 0), .int (J 0 x 4), .int (J 0 x 5)])
  | 1 => .inr (2, [.ref (g.2.2.1 2 x), .ref (g.2.2.1 11 x), .int (J 1 x 2), .int (J 1 x 3), .int (J 1 x 4), .int (J 1 x 5), .ref (g.2.2.1 14 (49 * x + 48)), .int (J 1 x 7), .int (J 1 x 8), .int (J 1 x 9), .int (J 1 x 10), .int (J 1 x 11)])
  | 2 => .inr (6, [.int (J 2 x 0), .ref (g.2.2.1 3 x), .ref (g.2.2.1 4 x), .int (J 2 x 3), .ref (g.2.2.1 5 x), .int (J 2 x 5), .ref (g.2.2.1 6 x)])
  | 3 => vArr g 3 (J 3 x)
  | 4 => vArr g 4 (J 4 x)
  | 5 => vArr g 5 (J 5 x)
  | 6 => vRow g 1 16 (fun j => g.2.2.1 7 (16 * x + j))
  | 7 => .inr (3, [.int (J 7 x 0), .int (J 7 x 1), .int (J 7 x 2), .int (J 7 x 3), .int (J 7 x 4), .int (J 7 x 5), .int (J 7 x 6), .int (J 7 x 7), .int (J 7 x 8), .int (J 7 x 9), .ref (g.2.2.1 8 x), .ref (g.2.2.1 9 x), .ref (g.2.2.1 10 x)])
  | 8 => vArr g 8 (J 8 x)
  | 9 => vArr g 9 (J 9 x)
  | 10 => vArr g 10 (J 10 x)
  | 11 => .inr (4, [.ref (g.2.2.1 12 x), .ref (g.2.2.1 13 x)])
  | 12 => vArr g 12 (J 12 x)
  | 13 => vRow g 2 48 (fun j => g.2.2.1 14 (49 * x + j))
  | 14 => .inr (1, [.int (J 14 x 0), .int (J 14 x 1), .int (J 14 x 2), .int (J 14 x 3), .int (J 14 x 4), .ref (g.2.2.1 15 x)])
  | 15 => vRow g 3 3 (fun j => g.2.2.1 16 (3 * x + j))
  | 16 => .inr (0, [.int (J 16 x 0), .int (J 16 x 1), .int (J 16 x 2), .int (J 16 x 3), .int (J 16 x 4)])
  | 17 => .inr (5, [.ref (g.2.2.1 18 x), .int (J 17 x 1), .int (J 17 x 2), .ref (g.2.2.1 19 x), .ref (g.2.2.1 20 x), .ref (g.2.2.1 21 x), .int (J 17 x 6), .int (J 17 x 7)])
  | 18 => vArr g 18 (J 18 x)
  | 19 => vArr g 19 (J 19 x)
  | 20 => vArr g 20 (J 20 x)
  | 21 => vArr g 21 (J 21 x)
  | 22 => .inr (8, [.ref (g.2.2.1 23 x), .ref (g.2.2.1 24 x), .ref (g.2.2.1 25 x), .int (J 22 x 3), .int (J 22 x 4), .ref (g.2.2.1 26 x), .int (J 22 x 6), .int (J 22 x 7), .int (J 22 x 8), .int (J 22 x 9), .ref (g.2.2.1 27 x), .int (J 22 x 11), .ref (g.2.2.1 29 x), .int (J 22 x 13), .int (J 22 x 14), .int (J 22 x 15), .ref (g.2.2.1 28 x), .int (J 22 x 17)])
  | 23 => vArr g 23 (J 23 x)
  | 24 => vArr g 24 (J 24 x)
  | 25 => vArr g 25 (J 25 x)
  | 26 => vArr g 26 (J 26 x)
  | 27 => vArr g 27 (J 27 x)
  | 28 => vArr g 28 (J 28 x)
  | _ => vRow g 4 10 (fun j => g.2.2.2.1 j)
def vOK (g : vG) : Prop := (∀ k x k' x' : Nat, x < vcnt k → x' < vcnt k' → g.2.2.1 k x = g.2.2.1 k' x' → k = k' ∧ x = x') ∧ ∀ k x : Nat, x < vcnt k → g.2.2.2.2 ≤ g.2.2.1 k x
def vW (g : vG) (J : VP) (H : Heap) : Prop := ∀ k x : Nat, x < vcnt k → va_at g.1 vcl (g.2.2.1 k x, venc g J k x) H
def vA (g : vG) : Nat → Prop := fun q => g.2.2.2.2 ≤ q
abbrev vtys (g : vG) : List (ClassId × FieldType) := [(g.2.1 0, .int), (g.2.1 1, .object "RingGates$Segment"), (g.2.1 2, .object "RingGates$Frame"), (g.2.1 3, .object "RingGates$Argument"), (g.2.1 4, .object "java/lang/String")]
def vnest : List Cond := [.methodLinkNest "RingGates" 9 yX2_init "RingGates", .methodLinkNest "RingGates$World" 31 yX3_init "RingGates", .methodLinkNest "RingGates$Frame" 17 yX0_init "RingGates", .methodLinkNest "RingGates" 24 yX5_init "RingGates", .methodLinkNest "RingGates$World" 88 yX7_recordsOf "RingGates", .methodLinkNest "RingGates$Machine" 205 yX7_segmentIn "RingGates", .methodLinkNest "RingGates$Machine" 208 yX7_wordIn "RingGates", .methodLinkNest "RingGates$Machine" 211 yX7_ringIn "RingGates", .methodLinkNest "RingGates$World" 136 yX7_copyNumbers "RingGates", .methodLinkNest "RingGates$Segment" 74 yX7_copyNumbers "RingGates", .methodLinkNest "RingGates$World" 129 yX7_segmentIn "RingGates"]
/-- the strings: class, entry, text, number -/
def vstr : List (String × Nat × String × Nat) := [("RingGates$Text", 102, "halt", 0), ("RingGates$Text", 104, "take", 1), ("RingGates$Text", 106, "put", 2), ("RingGates$Text", 108, "add", 3), ("RingGates$Text", 110, "go", 4), ("RingGates$Text", 112, "call", 5), ("RingGates$Text", 114, "back", 6), ("RingGates$Text", 116, "arg", 7), ("RingGates$Text", 118, "set", 8), ("RingGates$Text", 120, "test", 9), ("RingGates$Text", 122, "num", 10), ("RingGates$Text", 124, "ptr", 11), ("RingGates$Text", 126, "ind", 12), ("RingGates$Text", 128, "none", 13), ("RingGates$Text", 130, "link", 14), ("RingGates$Text", 132, "W", 15), ("RingGates$Text", 134, "WN", 16), ("RingGates$Text", 136, "K", 17), ("RingGates$Text", 138, "V", 18), ("RingGates$Text", 140, "RSW", 19), ("RingGates$Text", 142, "LW", 20), ("RingGates$Text", 144, "", 21), ("RingGatesModel", 27, "halt", 0), ("RingGatesModel", 29, "take", 1), ("RingGatesModel", 31, "put", 2), ("RingGatesModel", 33, "add", 3), ("RingGatesModel", 35, "go", 4), ("RingGatesModel", 37, "call", 5), ("RingGatesModel", 39, "back", 6), ("RingGatesModel", 41, "arg", 7), ("RingGatesModel", 43, "set", 8), ("RingGatesModel", 45, "test", 9), ("RingGatesModel", 192, "none", 13), ("RingGatesModel", 194, "num", 10), ("RingGatesModel", 199, "ptr", 11), ("RingGatesModel", 201, "ind", 12), ("RingGatesModel", 203, "link", 14)]
def vlenS : List Nat := [4, 4, 3, 3, 2, 4, 4, 3, 3, 4, 3, 3, 3, 4, 4, 1, 2, 1, 1, 3, 2, 0]
def vbytS : List (List Int32) := [[104, 97, 108, 116], [116, 97, 107, 101], [112, 117, 116], [97, 100, 100], [103, 111], [99, 97, 108, 108], [98, 97, 99, 107], [97, 114, 103], [115, 101, 116], [116, 101, 115, 116], [110, 117, 109], [112, 116, 114], [105, 110, 100], [110, 111, 110, 101], [108, 105, 110, 107], [87], [87, 78], [75], [86], [82, 83, 87], [76, 87], []]
/-- what is known of the machine's tables, and of what lies outside the graph -/
def vK (g : vG) (U : State) : Prop := (vOK g ∧ g.2.2.2.2 ≤ U.heap.size) ∧ va_K g.1 vcl (vtys g) U ∧ (∀ w ∈ vnest, va_Nw w U) ∧ (∀ q ∈ vstr, vk_R q.1 q.2.1 q.2.2.1 (g.2.2.2.1 q.2.2.2) U) ∧ vk_S 22 vlenS vbytS g.2.2.2.1 (fun j => g.2.2.2.1 (22 + j)) (vA g) U U.heap ∧ va_Z "java/lang/String" "COMPACT_STRINGS" "Z" (.int 1) (vA g) U U.heap ∧ (va_Z "jdk/internal/util/Preconditions" "SIOOBE_FORMATTER" "Ljava/util/function/BiFunction;" .null (vA g) U U.heap ∨ va_Z "jdk/internal/util/Preconditions" "SIOOBE_FORMATTER" "Ljava/util/function/BiFunction;" (.ref (g.2.2.2.1 44)) (vA g) U U.heap)
def vrm (d : Nat) : Room := { frames := d, cells := 0, slots := 0, locals := 38 * d }
def vQ (g : vG) (post : Option vV → VP → Prop) : Array Value → State → Outcome → State → Prop := fun _ st oc t => (∃ (r : Option vV) (J : VP), oc = .returned (r.map (vv g)) ∧ post r J ∧ vW g J t.heap) ∧ va_F (vA g) st t
/-- the contract of a method -/
def VC (l : Launch) (g : vG) (y : MethodName) (bs : ByteArray) (nL : Nat) (rt : Option FieldType) (d : Nat) (av : List vV) (J : VP) (post : Option vV → VP → Prop) : Prop :=
  Met l y (.code y bs nL rt :: vtb) (vrm d) (va_Pc (av.map (vv g)) (fun U => vK g U ∧ vW g J U.heap)) (vQ g post) 0 0 (vA g)
abbrev vls (g : vG) (ll : List (Nat × vV)) : List (Nat × Value) := ll.map fun q => (q.1, vv g q.2)
/-- the context of a method's run -/
def vC (g : vG) (own : String) (bs : ByteArray) (nL : Nat) (rt : Option FieldType) (E : Array Value → State → Prop) (p : Program) (s : State) (m : MethodId) (args : Array Value) (meth : Method) (c : Code) : Prop :=
  p.tables.exec = Jvm.exec ∧ c.code = bs ∧ c.maxLocals = nL ∧ meth.sig.returnType = rt ∧ meth.locks = false ∧ s.vm.findClass own = some m.cls ∧ (∀ w ∈ vtb, w.before args s = true) ∧ vK g s ∧ E args s
/-- the judgement at an instruction -/
def VB (l : Launch) (g : vG) (own : String) (bs : ByteArray) (nL : Nat) (rt : Option FieldType) (R : Room) (ce sl : Nat) (E : Array Value → State → Prop) (Qf : List Frame → Array Value → State → State → Prop) (pc : Nat) (ll : List (Nat × vV)) (st : List vV) (J : VP) : Prop :=
  ∀ (p : Program) (e : Env) (s : State) (m : MethodId) (args : Array Value) (below : List Frame) (meth : Method) (c : Code) (H : Heap) (locs : List Loc) (ls : Array Slot),
    vC g own bs nL rt E p s m args meth c → vW g J H → va_S (vA g) s.heap H locs → lv_has ls nL (vls g ll) →
    W p l e R s m args below meth c H locs ce sl (Qf below args s) (F0 m pc ls (st.map (vv g)))
def vE0 : Array Value → State → Prop := fun _ _ => True
def vQf (g : vG) (post : Option vV → VP → Prop) : List Frame → Array Value → State → State → Prop := fun below args s => MQ below (vQ g post) args s 0 0 (vA g)
abbrev VM (l : Launch) (g : vG) (own : String) (bs : ByteArray) (nL : Nat) (rt : Option FieldType) (d : Nat) (post : Option vV → VP → Prop) (pc : Nat) (ll : List (Nat × vV)) (st : List vV) (J : VP) : Prop := VB l g own bs nL rt (vrm d) 0 0 vE0 (vQf g post) pc ll st J
def vargs : Nat → List vV → List (Nat × vV)
  | _, [] => []
  | i, .inr (.inl x) :: vs => (i, .inr (.inl x)) :: vargs (i + 2) vs
  | i, v :: vs => (i, v) :: vargs (i + 1) vs
def vwide : vV → Bool
  | .inr (.inl _) => true
  | _ => false
theorem vv_cat (g : vG) (v : vV) : (vv g v).category = if vwide v then 2 else 1 := by
  rcases v with x | x | (_ | q) | j <;> rfl
theorem vv_catB (g : vG) (v : vV) : ((vv g v).category == 2) = vwide v := by
  rcases v with x | x | (_ | q) | j <;> rfl
theorem vargs_eq (g : vG) (vs : List vV) : ∀ i, lv_args i (vs.map (vv g)) = vls g (vargs i vs) := by
  induction vs with
  | nil => intro i; rfl
  | cons v vs ih =>
    intro i
    rcases v with x | x | (_ | q) | j
    · exact congrArg (List.cons (i, Value.int x)) (ih (i + 1))
    · exact congrArg (List.cons (i, Value.long x)) (ih (i + 2))
    · exact congrArg (List.cons (i, Value.null)) (ih (i + 1))
    · exact congrArg (List.cons (i, Value.ref (g.2.2.1 q.1 q.2))) (ih (i + 1))
    · exact congrArg (List.cons (i, Value.ref (g.2.2.2.1 j))) (ih (i + 1))
def vwsum : List vV → Nat
  | [] => 0
  | v :: vs => (if vwide v then 2 else 1) + vwsum vs
theorem vwsum_eq (g : vG) (vs : List vV) : ((vs.map (vv g)).map fun v => v.category).sum = vwsum vs := by
  induction vs with
  | nil => rfl
  | cons v vs ih =>
    simp only [List.map_cons, List.sum_cons, vwsum, vv_cat]
    rw [← ih]
theorem vsl_len (g : vG) (vs : List vV) : (lg_sl (vs.map (vv g))).length = vwsum vs := by
  induction vs with
  | nil => rfl
  | cons v vs ih =>
    simp only [List.map_cons, vwsum, ← ih, lg_sl, List.flatMap_cons, List.length_append, vv_cat]
    cases vwide v <;> simp
/-- a contract out of a walk -/
theorem VC.of {l : Launch} {g : vG} {y : MethodName} {bs : ByteArray} {nL : Nat} {rt : Option FieldType} {d : Nat} {av : List vV} {J : VP} {post : Option vV → VP → Prop} (hy : plainName y.cls = true) (hn : vwsum av ≤ nL)
    (h : VM l g y.cls bs nL rt d post 0 (vargs 0 av) [] J) : VC l g y bs nL rt d av J post := by
  refine Met.ofW (cc := bs) (maxL := nL) (ret := rt) hy rfl ?_
  intro p e s m args below meth c s₁ B hml hv
  obtain ⟨rfl, hK, hW⟩ := hv
  have hown : s.vm.findClass y.cls = some m.cls := findClass_of_methodNamed B.named
  have hts := atoms_spec (ws := .code y bs nL rt :: vtb) B.pre
  have hl := lv_entry (av.map (vv g)) (n := nL) (by rw [vsl_len]; exact hn)
  rw [vargs_eq] at hl
  rw [lg_entry_eq]
  exact h p e s m _ below meth c s.heap [] _ ⟨B.exec, B.bytes, hml, B.returns, B.notSynchronized, hown, fun w hw => hts w (List.mem_cons_of_mem _ hw), hK, trivial⟩ hW va_S.rf hl
