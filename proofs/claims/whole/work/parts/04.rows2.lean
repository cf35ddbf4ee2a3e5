/-! LAYER V: arrays, calls, returns -/
theorem vjn_lo {k : Nat} (hk : Nat.blt k 22 = true) (P Q : VP) : vjn P Q k = P k := by unfold vjn; rw [hk]; rfl
theorem vjn_hi {k : Nat} (hk : Nat.blt k 22 = false) (P Q : VP) : vjn P Q k = Q k := by unfold vjn; rw [hk]; rfl
theorem vup_lo {k : Nat} (hk : Nat.blt k 22 = true) (P Q : VP) (x j : Nat) (v : Int32) : vup (vjn P Q) k x j v = vjn (vup P k x j v) Q := by
  funext k' x' j'
  unfold vup vjn
  by_cases h : k' = k ∧ x' = x ∧ j' = j
  · obtain ⟨rfl, rfl, rfl⟩ := h
    simp [hk]
  · rw [if_neg h]
    cases Nat.blt k' 22 <;> simp [h]
theorem vup_hi {k : Nat} (hk : Nat.blt k 22 = false) (P Q : VP) (x j : Nat) (v : Int32) : vup (vjn P Q) k x j v = vjn P (vup Q k x j v) := by
  funext k' x' j'
  unfold vup vjn
  by_cases h : k' = k ∧ x' = x ∧ j' = j
  · obtain ⟨rfl, rfl, rfl⟩ := h
    simp [hk]
  · rw [if_neg h]
    cases Nat.blt k' 22 <;> simp [h]
/-- an int array's kind -/
def vIA (k : Nat) : Prop := (∀ (g : vG) (J : VP) (x : Nat), venc g J k x = vArr g k (J k x)) ∧ vlen k < 2147483648
theorem vin_of {i N : Int32} {n : Nat} (hN : Int32.ofNat n = N) (hn : n < 2147483648) (h : 0 ≤ i ∧ i < N) : vp_in i n := by
  rw [vp_in_iff]
  have h1 := Int32.le_iff_toInt_le.mp h.1
  have h2 := Int32.lt_iff_toInt_lt.mp h.2
  rw [← hN] at h2
  have h3 := nI_toInt (n := n) hn
  unfold nI at h3
  rw [h3] at h2
  exact ⟨h1, h2⟩
theorem vin_lt {i : Int32} {n : Nat} (h : vp_in i n) : ix i < n := Nat.not_le.mp fun q => h (Or.inr q)
section VROWS2
variable {l : Launch} {g : vG} {own : String} {bs : ByteArray} {nL : Nat} {rt : Option FieldType} {R : Room} {ce sl : Nat} {E : Array Value → State → Prop} {Qf : List Frame → Array Value → State → State → Prop} {pc : Nat} {ll : List (Nat × vV)} {st : List vV} {J : VP}
theorem vr_one {k x : Nat} {H : Heap} {e : va_E} (hx : x < vcnt k) (he : venc g J k x = e) (w : vW g J H) : va_P g.1 vcl [(g.2.2.1 k x, e)] H := fun i q hi => by
  have h1 : i < 1 := (List.getElem?_eq_some_iff.mp hi).1
  obtain rfl : i = 0 := by omega
  cases hi
  rw [← he]
  exact w k x hx
theorem vr_oneD {k x : Nat} {e : va_E} (hO : vOK g) (hx : x < vcnt k) : va_D (vA g) [(g.2.2.1 k x, e)] := ⟨fun a b p q ha hb _ => by
    have h1 : a < 1 := (List.getElem?_eq_some_iff.mp ha).1
    have h2 : b < 1 := (List.getElem?_eq_some_iff.mp hb).1
    omega, fun a q ha => by
    have h1 : a < 1 := (List.getElem?_eq_some_iff.mp ha).1
    obtain rfl : a = 0 := by omega
    cases ha
    exact hO.2 k x hx⟩
theorem vr_alen {k x : Nat} (v : Int32) (hx : x < vcnt k) (hk : vIA k) (hv : Int32.ofNat (vlen k) = v) (hd : decode bs pc = .ok (.arraylength, 1))
    (h : VB l g own bs nL rt R ce sl E Qf (pc + 1) ll (vI v :: st) J) : VB l g own bs nL rt R ce sl E Qf pc ll (vR k x :: st) J := fun p e s m args below meth c H locs ls C0 w S L => va_alen C0.1 C0.2.1 C0.2.2.2.2.2.2.2.1.2.1 (vr_one hx (hk.1 g J x) w) 0 0 rfl rfl hv hd (h p e s m args below meth c H locs ls C0 w S L)
theorem vr_alenR {k x ca n : Nat} {f : Nat → Nat} {ty : FieldType} (v : Int32) (hx : x < vcnt k) (he : venc g J k x = vRow g ca n f) (ht : (vtys g)[ca]? = some (g.2.1 ca, ty)) (hv : Int32.ofNat n = v) (hd : decode bs pc = .ok (.arraylength, 1))
    (h : VB l g own bs nL rt R ce sl E Qf (pc + 1) ll (vI v :: st) J) : VB l g own bs nL rt R ce sl E Qf pc ll (vR k x :: st) J := fun p e s m args below meth c H locs ls C0 w S L => va_alen C0.1 C0.2.1 C0.2.2.2.2.2.2.2.1.2.1 (vr_one hx he w) 0 ca rfl ht hv hd (h p e s m args below meth c H locs ls C0 w S L)
theorem vr_iald {k x : Nat} {i : Int32} (N : Int32) (hx : x < vcnt k) (hk : vIA k) (hN : Int32.ofNat (vlen k) = N) (hi : 0 ≤ i ∧ i < N) (hd : decode bs pc = .ok (.iaload, 1))
    (h : VB l g own bs nL rt R ce sl E Qf (pc + 1) ll (vI (J k x (ix i)) :: st) J) : VB l g own bs nL rt R ce sl E Qf pc ll (vI i :: vR k x :: st) J := fun p e s m args below meth c H locs ls C0 w S L => va_iald C0.1 C0.2.1 C0.2.2.2.2.2.2.2.1.2.1 (vr_one hx (hk.1 g J x) w) 0 0 rfl rfl (vin_of hN hk.2 hi) hd (h p e s m args below meth c H locs ls C0 w S L)
theorem vr_iast {k x : Nat} {i v : Int32} (N : Int32) (hx : x < vcnt k) (hk : vIA k) (hN : Int32.ofNat (vlen k) = N) (hi : 0 ≤ i ∧ i < N) (hd : decode bs pc = .ok (.iastore, 1))
    (h : VB l g own bs nL rt R ce sl E Qf (pc + 1) ll st (vup J k x (ix i) v)) : VB l g own bs nL rt R ce sl E Qf pc ll (vI v :: vI i :: vR k x :: st) J := fun p e s m args below meth c H locs ls C0 w S L => by
  obtain ⟨hx0, hb0, -, -, -, hown, hts, hK, -⟩ := id C0
  have hin := vin_of hN hk.2 hi
  refine W.iast hx0 hb0 (cell := vp_cell (g.2.1 0) (vlen k, .inl (J k x))) (by have h1 := w k x hx; rw [hk.1] at h1; exact h1) ((hK.2.1.2 0 _ rfl).1 (vlen k) (fun j => .int (J k x j))) (fun q => by cases q) (by show ¬ (i < 0 ∨ (arrV _ _ _).slots.size ≤ _); rw [arrV_size]; exact hin) rfl rfl hd fun H1 e1 z oq => ?_
  refine h p e s m args below meth c H1 _ ls C0 (vW_set hK.1.1 hx w ?_ oq (fun k' x' z => venc_off g J z)) (S.put z oq (hK.1.1.2 k x hx)) L
  rw [hk.1]
  show H1[_]? = some (vp_cell _ _)
  rw [e1, vp_cell_i, vp_cell_i, arrV_store]
  congr 2
  funext q
  by_cases hq : q = ix i
  · subst hq
    simp [updV, vup]
  · simp [updV, vup, hq]
theorem vr_aald {k x ca n : Nat} {f : Nat → Nat} {C : String} {i : Int32} (N : Int32) (v : vV) (hx : x < vcnt k) (he : venc g J k x = vRow g ca n f) (ht : (vtys g)[ca]? = some (g.2.1 ca, .object C)) (hn : n < 2147483648) (hN : Int32.ofNat n = N) (hi : 0 ≤ i ∧ i < N) (hv : vv g v = .ref (f (ix i))) (hd : decode bs pc = .ok (.aaload, 1))
    (h : ix i < n → VB l g own bs nL rt R ce sl E Qf (pc + 1) ll (v :: st) J) : VB l g own bs nL rt R ce sl E Qf pc ll (vI i :: vR k x :: st) J := fun p e s m args below meth c H locs ls C0 w S L => by
  have hin := vin_of hN hn hi
  refine va_aldq C0.1 C0.2.1 C0.2.2.2.2.2.2.2.1.2.1 (vr_one hx he w) 0 ca rfl ht hin hd ?_
  have h2 := h (vin_lt hin) p e s m args below meth c H locs ls C0 w S L
  rw [List.map_cons, hv] at h2
  exact h2
/-! calls -/
theorem vK_call {J : VP} {s : State} {H : Heap} {locs : List Loc} (hK : vK g s) (w : vW g J H) (S : va_S (vA g) s.heap H locs) {U : State} (hU : U.heap = H) (hW : s.WarmedH U.vm) : vK g U ∧ vW g J U.heap := by
  obtain ⟨⟨hO, hb⟩, hK1, hn, hr, hs, hz, hf⟩ := hK
  refine ⟨⟨⟨hO, by rw [hU]; exact Nat.le_trans hb S.1⟩, va_K.moved hW.alike hK1, fun c hc => ?_, fun q hq => (hr q hq).warm hW, ?_, ?_, ?_⟩, by rw [hU]; exact w⟩
  · have h1 := hn c hc
    have hform : ∃ a i x b, c = Cond.methodLinkNest a i x b := by
      have : ∀ c ∈ vnest, ∃ a i x b, c = Cond.methodLinkNest a i x b := by
        unfold vnest
        repeat' (first | refine List.forall_mem_cons.mpr ⟨⟨_, _, _, _, rfl⟩, ?_⟩ | exact fun _ h => absurd h List.not_mem_nil)
      exact this c hc
    obtain ⟨a, i, x, b, rfl⟩ := hform
    exact va_Nw.warmM hW h1
  · rw [hU]
    exact vk_S.moved hW.alike (hs.kept (fun q h1 h2 => S.2.1 q h1 h2))
  · rw [hU]
    exact va_Z.moved hW.alike (hz.kept (fun q h1 h2 => S.2.1 q h1 h2))
  · rw [hU]
    exact hf.imp (fun h => va_Z.moved hW.alike (h.kept (fun q h1 h2 => S.2.1 q h1 h2))) (fun h => va_Z.moved hW.alike (h.kept (fun q h1 h2 => S.2.1 q h1 h2)))
theorem vK_blind {U : State} {gg : JFrame} {mk : MethodId} {a : Array Value} (h : vK g U) : vK g (U.calling gg mk a) := by
  obtain ⟨⟨hO, hb⟩, hK1, hn, hr, hs, hz, hf⟩ := h
  refine ⟨⟨hO, hb⟩, va_K.moved (u := U) (U := U.calling gg mk a) (Vm.Alike.refl U.vm) hK1, fun c hc => ?_, fun q hq => vk_R.same (u := U) rfl (hr q hq), vk_S.moved (u := U) (U := U.calling gg mk a) (Vm.Alike.refl U.vm) hs, va_Z.moved (u := U) (U := U.calling gg mk a) (Vm.Alike.refl U.vm) hz, hf.imp (fun h => va_Z.moved (u := U) (U := U.calling gg mk a) (Vm.Alike.refl U.vm) h) (fun h => va_Z.moved (u := U) (U := U.calling gg mk a) (Vm.Alike.refl U.vm) h)⟩
  have hform : c.onTables = true := by
    have : ∀ c ∈ vnest, c.onTables = true := by
      unfold vnest
      repeat' (first | refine List.forall_mem_cons.mpr ⟨rfl, ?_⟩ | exact fun _ h => absurd h List.not_mem_nil)
    exact this c hc
  exact va_Nw.same (u := U) hform rfl (hn c hc)
theorem vpc_blind {av : List vV} {J : VP} : FrameBlind (va_Pc (av.map (vv g)) (fun U => vK g U ∧ vW g J U.heap)) := fun _ _ _ _ h => ⟨h.1, vK_blind h.2.1, h.2.2⟩
/-- behind a call -/
theorem vr_back {dY nY : Nat} {y : MethodName} {bY : ByteArray} {tY : Option FieldType} {av : List vV} {J : VP} {post : Option vV → VP → Prop} {k : Nat} {st0 : List vV} {p : Program} {e : Env} {s : State} {m : MethodId} {args : Array Value} {below : List Frame} {meth : Method} {c : Code} {H : Heap} {locs : List Loc} {ls : Array Slot} {a : Array Value} {Q : State → Prop}
    (hb : g.2.2.2.2 ≤ s.heap.size) (hr : va_Run p l e R s m args below meth c H locs ce sl 0 0 (F0 m pc ls (st0.map (vv g))) (st.map (vv g)) (vQ g post a) (vA g)) (S : va_S (vA g) s.heap H locs)
    (kk : ∀ (r : Option vV) (J' : VP) (H1 : Heap) (locs1 : List Loc), post r J' → vW g J' H1 → va_S (vA g) s.heap H1 locs1 → W p l e R s m args below meth c H1 locs1 ce sl Q (F0 m (pc + 3) ls ((r.toList ++ st).map (vv g)))) : W p l e R s m args below meth c H locs ce sl Q (F0 m pc ls (st0.map (vv g))) := by
  intro T hT X
  obtain ⟨v, st₀, t, T', L, h0, X', hL, e1, e2, ⟨⟨r, J', hv, hp, hw⟩, hz, hk⟩, st1⟩ := hr T hT X
  cases hv
  rw [h0] at hz hk
  obtain ⟨t2, a1, b1⟩ := kk r J' T'.heap (locs ++ L) hp (by rw [e1]; exact hw)
    ⟨Nat.le_trans S.1 (by rw [e1]; exact hz), fun q h1 h2 => by rw [e1, hk q (Nat.lt_of_lt_of_le h1 S.1) h2]; exact S.2.1 q h1 h2, fun q hq => by
      rcases List.mem_append.mp hq with h | h
      · exact S.2.2 q h
      · exact hL q h⟩ T' rfl X'
  refine ⟨t2, st1 t2 ?_, b1⟩
  have e3 : (r.map (vv g)).toList ++ st.map (vv g) = (r.toList ++ st).map (vv g) := by cases r <;> simp
  rw [e3]
  exact a1
theorem vr_callV (own' : String) {dY nY : Nat} {y : MethodName} {bY : ByteArray} {tY : Option FieldType} {post : Option vV → VP → Prop} {k x idx n ci : Nat} {fs : List Value} {q : vw_C} {As st0 : List vV} (hM : VC l g y bY nY tY dY (vR k x :: As) J post) (ho : own = own') (hx : x < vcnt k) (he : venc g J k x = .inr (ci, fs)) (hc : vcl[ci]? = some q) (hq : q.1 = y.cls) (hm : ∀ w ∈ wsV own' idx y.cls y [.code y bY nY tY], w ∈ vtb) (hst : st0 = As.reverse ++ vR k x :: st)
    (hy : y.cls ≠ "java/lang/invoke/MethodHandle" ∧ y.cls ≠ "java/lang/invoke/VarHandle" ∧ (parseMethodDescriptor y.desc).map (fun d => d.parameters.length) = some n) (hn : As.length = n) (hR : dY + 1 ≤ R.frames ∧ 8 + (nY + 11) + 38 * dY ≤ R.locals) (hs : vwsum st ≤ 8) (hce : ce ≤ R.cells ∧ sl ≤ R.slots) (hd : decode bs pc = .ok (.invokevirtual idx, 3))
    (h : ∀ r J', post r J' → VB l g own bs nL rt R ce sl E Qf (pc + 3) ll (r.toList ++ st) J') : VB l g own bs nL rt R ce sl E Qf pc ll st0 J := fun p e s m args below meth c H locs ls C0 w S L => by
  subst hst
  subst ho
  obtain ⟨hx0, hb0, hml, -, -, hown, hts, hK, -⟩ := id C0
  have hP := vr_one hx he w
  have hrv := va_recv hK.2.1 hP hc (q0 := 0) rfl
  rw [hq] at hrv
  have hG : GoodIn vtb (wsV own idx y.cls y (.code y bY nY tY :: vtb)) := vtb_good (fun w hw => by
    unfold wsV at hw hm
    rcases List.mem_append.mp hw with h1 | h1
    · exact hm w (List.mem_append_left _ h1)
    · rcases List.mem_cons.mp h1 with rfl | h2
      · exact hm _ (List.mem_append_right _ List.mem_cons_self)
      · exact h2)
  have hrun := va_runV (e := e) (below := below) (meth := meth) (H := H) (locs := locs) (cells := ce) (slots := sl) (g := F0 m pc ls ((As.reverse ++ vR k x :: st).map (vv g))) (b := g.2.2.1 k x) (As := As.map (vv g)) (rest := st.map (vv g)) ⟨hx0, hb0, hml, hown, hts⟩ hM (cwV n hts hG rfl rfl rfl ⟨rfl, hy.1, hy.2.1, hy.2.2⟩ hR) ⟨vpc_blind, hrv, fun U hU hW => ⟨rfl, vK_call hK w S hU hW⟩⟩ rfl (by rw [List.length_map]; exact hn) L.1 (by simp [vv]) (by rw [vwsum_eq]; simpa using hs) hd ⟨hce.1, hce.2⟩
  exact vr_back (dY := dY) (nY := nY) (y := y) (bY := bY) (tY := tY) (av := []) (J := J) (k := 0) hK.1.2 hrun S (fun r J' H1 locs1 hp hw hS => h r J' hp p e s m args below meth c H1 locs1 ls C0 hw hS L)
theorem vr_callS (own' : String) {dY nY : Nat} {y : MethodName} {bY : ByteArray} {tY : Option FieldType} {post : Option vV → VP → Prop} {idx n : Nat} {As st0 : List vV} (hM : VC l g y bY nY tY dY As J post) (ho : own = own') (hyo : y.cls = own') (hm : ∀ w ∈ wsS own' idx y [.code y bY nY tY], w ∈ vtb) (hst : st0 = As.reverse ++ st)
    (hy : y.cls ≠ "java/lang/invoke/MethodHandle" ∧ y.cls ≠ "java/lang/invoke/VarHandle" ∧ (parseMethodDescriptor y.desc).map (fun d => d.parameters.length) = some n) (hn : As.length = n) (hR : dY + 1 ≤ R.frames ∧ 8 + (nY + 11) + 38 * dY ≤ R.locals) (hs : vwsum st ≤ 8) (hce : ce ≤ R.cells ∧ sl ≤ R.slots) (hd : decode bs pc = .ok (.invokestatic idx, 3))
    (h : ∀ r J', post r J' → VB l g own bs nL rt R ce sl E Qf (pc + 3) ll (r.toList ++ st) J') : VB l g own bs nL rt R ce sl E Qf pc ll st0 J := fun p e s m args below meth c H locs ls C0 w S L => by
  subst hst
  subst ho
  obtain ⟨hx0, hb0, hml, -, -, hown, hts, hK, -⟩ := id C0
  have hG : GoodIn vtb (wsS own idx y (.code y bY nY tY :: vtb)) := vtb_good (fun w hw => by
    unfold wsS at hw hm
    rcases List.mem_append.mp hw with h1 | h1
    · exact hm w (List.mem_append_left _ h1)
    · rcases List.mem_cons.mp h1 with rfl | h2
      · exact hm _ (List.mem_append_right _ List.mem_cons_self)
      · exact h2)
  have hrun := va_runS (e := e) (below := below) (meth := meth) (H := H) (locs := locs) (cells := ce) (slots := sl) (g := F0 m pc ls ((As.reverse ++ st).map (vv g))) (As := As.map (vv g)) (rest := st.map (vv g)) ⟨hx0, hb0, hml, hown, hts⟩ hM (cwS n hts hG rfl rfl rfl ⟨hyo, hy.1, hy.2.1, hy.2.2⟩ hR) ⟨vpc_blind, fun U hU hW => ⟨rfl, vK_call hK w S hU hW⟩⟩ rfl (by rw [List.length_map]; exact hn) L.1 (by simp) (by rw [vwsum_eq]; simpa using hs) hd ⟨hce.1, hce.2⟩
  exact vr_back (dY := dY) (nY := nY) (y := y) (bY := bY) (tY := tY) (av := []) (J := J) (k := 0) hK.1.2 hrun S (fun r J' H1 locs1 hp hw hS => h r J' hp p e s m args below meth c H1 locs1 ls C0 hw hS L)
theorem vr_callS2 (own' : String) {dY nY : Nat} {y : MethodName} {bY : ByteArray} {tY : Option FieldType} {post : Option vV → VP → Prop} {idx n : Nat} {As st0 : List vV} (hM : VC l g y bY nY tY dY As J post) (ho : own = own') (hm : ∀ w ∈ va_wsS own' idx y [.code y bY nY tY], w ∈ vtb) (hst : st0 = As.reverse ++ st)
    (hy : y.cls ≠ "java/lang/invoke/MethodHandle" ∧ y.cls ≠ "java/lang/invoke/VarHandle" ∧ (parseMethodDescriptor y.desc).map (fun d => d.parameters.length) = some n) (hn : As.length = n) (hR : dY + 1 ≤ R.frames ∧ 8 + (nY + 11) + 38 * dY ≤ R.locals) (hs : vwsum st ≤ 8) (hce : ce ≤ R.cells ∧ sl ≤ R.slots) (hd : decode bs pc = .ok (.invokestatic idx, 3))
    (h : ∀ r J', post r J' → VB l g own bs nL rt R ce sl E Qf (pc + 3) ll (r.toList ++ st) J') : VB l g own bs nL rt R ce sl E Qf pc ll st0 J := fun p e s m args below meth c H locs ls C0 w S L => by
  subst hst
  subst ho
  obtain ⟨hx0, hb0, hml, -, -, hown, hts, hK, -⟩ := id C0
  have hG : GoodIn vtb (va_wsS own idx y (.code y bY nY tY :: vtb)) := vtb_good (fun w hw => by
    unfold va_wsS at hw hm
    rcases List.mem_append.mp hw with h1 | h1
    · exact hm w (List.mem_append_left _ h1)
    · rcases List.mem_cons.mp h1 with rfl | h2
      · exact hm _ (List.mem_append_right _ List.mem_cons_self)
      · exact h2)
  have hrun := va_runS (e := e) (below := below) (meth := meth) (H := H) (locs := locs) (cells := ce) (slots := sl) (g := F0 m pc ls ((As.reverse ++ st).map (vv g))) (As := As.map (vv g)) (rest := st.map (vv g)) ⟨hx0, hb0, hml, hown, hts⟩ hM (va_cwS n hts hG rfl rfl rfl ⟨hy.1, hy.2.1, hy.2.2⟩ hR) ⟨vpc_blind, fun U hU hW => ⟨rfl, vK_call hK w S hU hW⟩⟩ rfl (by rw [List.length_map]; exact hn) L.1 (by simp) (by rw [vwsum_eq]; simpa using hs) hd ⟨hce.1, hce.2⟩
  exact vr_back (dY := dY) (nY := nY) (y := y) (bY := bY) (tY := tY) (av := []) (J := J) (k := 0) hK.1.2 hrun S (fun r J' H1 locs1 hp hw hS => h r J' hp p e s m args below meth c H1 locs1 ls C0 hw hS L)
/-- a call of a string's method -/
theorem vr_callT (own' : String) {dY nY : Nat} {y : MethodName} {bY : ByteArray} {tY : Option FieldType} {post : Option vV → VP → Prop} {j idx n : Nat} {As st0 : List vV} (hM : VC l g y bY nY tY dY (vT j :: As) J post) (ho : own = own') (hj : j < 22) (hq : "java/lang/String" = y.cls) (hm : ∀ w ∈ wsV own' idx y.cls y [.code y bY nY tY], w ∈ vtb) (hst : st0 = As.reverse ++ vT j :: st)
    (hy : y.cls ≠ "java/lang/invoke/MethodHandle" ∧ y.cls ≠ "java/lang/invoke/VarHandle" ∧ (parseMethodDescriptor y.desc).map (fun d => d.parameters.length) = some n) (hn : As.length = n) (hR : dY + 1 ≤ R.frames ∧ 8 + (nY + 11) + 38 * dY ≤ R.locals) (hs : vwsum st ≤ 8) (hce : ce ≤ R.cells ∧ sl ≤ R.slots) (hd : decode bs pc = .ok (.invokevirtual idx, 3))
    (h : ∀ r J', post r J' → VB l g own bs nL rt R ce sl E Qf (pc + 3) ll (r.toList ++ st) J') : VB l g own bs nL rt R ce sl E Qf pc ll st0 J := fun p e s m args below meth c H locs ls C0 w S L => by
  subst hst
  subst ho
  obtain ⟨hx0, hb0, hml, -, -, hown, hts, hK, -⟩ := id C0
  have hrv := vk_recv hK.2.2.2.2.1 hj S
  rw [hq] at hrv
  have hG : GoodIn vtb (wsV own idx y.cls y (.code y bY nY tY :: vtb)) := vtb_good (fun w hw => by
    unfold wsV at hw hm
    rcases List.mem_append.mp hw with h1 | h1
    · exact hm w (List.mem_append_left _ h1)
    · rcases List.mem_cons.mp h1 with rfl | h2
      · exact hm _ (List.mem_append_right _ List.mem_cons_self)
      · exact h2)
  have hrun := va_runV (e := e) (below := below) (meth := meth) (H := H) (locs := locs) (cells := ce) (slots := sl) (g := F0 m pc ls ((As.reverse ++ vT j :: st).map (vv g))) (b := g.2.2.2.1 j) (As := As.map (vv g)) (rest := st.map (vv g)) ⟨hx0, hb0, hml, hown, hts⟩ hM (cwV n hts hG rfl rfl rfl ⟨rfl, hy.1, hy.2.1, hy.2.2⟩ hR) ⟨vpc_blind, hrv, fun U hU hW => ⟨rfl, vK_call hK w S hU hW⟩⟩ rfl (by rw [List.length_map]; exact hn) L.1 (by simp [vv]) (by rw [vwsum_eq]; simpa using hs) hd ⟨hce.1, hce.2⟩
  exact vr_back (dY := dY) (nY := nY) (y := y) (bY := bY) (tY := tY) (av := []) (J := J) (k := 0) hK.1.2 hrun S (fun r J' H1 locs1 hp hw hS => h r J' hp p e s m args below meth c H1 locs1 ls C0 hw hS L)
/-- a static method of a nest mate -/
theorem vr_callN (own' host : String) {dY nY : Nat} {y : MethodName} {bY : ByteArray} {tY : Option FieldType} {post : Option vV → VP → Prop} {idx n : Nat} {As st0 : List vV} (hM : VC l g y bY nY tY dY As J post) (ho : own = own') (hl : Cond.methodLinkNest own' idx y host ∈ vnest) (hm : ∀ w ∈ ([.code y bY nY tY, .initialized y.cls, .static y] : List Cond), w ∈ vtb) (hst : st0 = As.reverse ++ st)
    (hy : y.cls ≠ "java/lang/invoke/MethodHandle" ∧ y.cls ≠ "java/lang/invoke/VarHandle" ∧ (parseMethodDescriptor y.desc).map (fun d => d.parameters.length) = some n) (hn : As.length = n) (hR : dY + 1 ≤ R.frames ∧ 8 + (nY + 11) + 38 * dY ≤ R.locals) (hs : vwsum st ≤ 8) (hce : ce ≤ R.cells ∧ sl ≤ R.slots) (hd : decode bs pc = .ok (.invokestatic idx, 3))
    (h : ∀ r J', post r J' → VB l g own bs nL rt R ce sl E Qf (pc + 3) ll (r.toList ++ st) J') : VB l g own bs nL rt R ce sl E Qf pc ll st0 J := fun p e s m args below meth c H locs ls C0 w S L => by
  subst hst
  subst ho
  obtain ⟨hx0, hb0, hml, -, -, hown, hts, hK, -⟩ := id C0
  have hG : GoodIn vtb (.code y bY nY tY :: vtb) := vtb_good (fun w hw => by
    rcases List.mem_cons.mp hw with rfl | h2
    · exact hm _ List.mem_cons_self
    · exact h2)
  have hrun := va_runSN (e := e) (below := below) (meth := meth) (H := H) (locs := locs) (cells := ce) (slots := sl) (host := host) (index := idx) (g := F0 m pc ls ((As.reverse ++ st).map (vv g))) (As := As.map (vv g)) (rest := st.map (vv g)) ⟨hx0, hb0, hml, hown, hts⟩ hM ⟨va_cnB n hts hG rfl rfl rfl (hK.2.2.1 _ hl) (hts _ (hm _ (by simp))) ⟨hy.1, hy.2.1, hy.2.2⟩ hR, hts _ (hm _ (by simp)), trivial⟩ ⟨vpc_blind, fun U hU hW => ⟨rfl, vK_call hK w S hU hW⟩⟩ rfl (by rw [List.length_map]; exact hn) L.1 (by simp) (by rw [vwsum_eq]; simpa using hs) hd ⟨hce.1, hce.2⟩
  exact vr_back (dY := dY) (nY := nY) (y := y) (bY := bY) (tY := tY) (av := []) (J := J) (k := 0) hK.1.2 hrun S (fun r J' H1 locs1 hp hw hS => h r J' hp p e s m args below meth c H1 locs1 ls C0 hw hS L)
/-! returns -/
theorem vr_iret {d : Nat} {post : Option vV → VP → Prop} {v : Int32} (hr : rt = some .int) (hp : post (some (vI v)) J) (hd : decode bs pc = .ok (.ireturn, 1)) : VM l g own bs nL rt d post pc ll [vI v] J := fun p e s m args below meth c H locs ls C0 w S L =>
  W.iret C0.1 C0.2.1 (C0.2.2.2.1.trans hr) (fun t ht hW => ⟨⟨some (vI v), J, rfl, hp, by rw [ht]; exact w⟩, S.F ht⟩) S.2.2 hd (hlocks := C0.2.2.2.2.1)
theorem vr_zret {d : Nat} {post : Option vV → VP → Prop} {v : Int32} (hr : rt = some .boolean) (hv : v = 0 ∨ v = 1) (hp : post (some (vI v)) J) (hd : decode bs pc = .ok (.ireturn, 1)) : VM l g own bs nL rt d post pc ll [vI v] J := fun p e s m args below meth c H locs ls C0 w S L =>
  W.zret C0.1 C0.2.1 (C0.2.2.2.1.trans hr) (by rcases hv with rfl | rfl <;> rfl) (fun t ht hW => ⟨⟨some (vI v), J, rfl, hp, by rw [ht]; exact w⟩, S.F ht⟩) S.2.2 hd (hlocks := C0.2.2.2.2.1)
theorem vr_nret {d : Nat} {post : Option vV → VP → Prop} {v : Int32} (ty : FieldType) (hr : rt = some ty) (hn : narrow ty (.int v) = .int v) (hp : post (some (vI v)) J) (hd : decode bs pc = .ok (.ireturn, 1)) : VM l g own bs nL rt d post pc ll [vI v] J := fun p e s m args below meth c H locs ls C0 w S L =>
  W.zret C0.1 C0.2.1 (C0.2.2.2.1.trans hr) hn (fun t ht hW => ⟨⟨some (vI v), J, rfl, hp, by rw [ht]; exact w⟩, S.F ht⟩) S.2.2 hd (hlocks := C0.2.2.2.2.1)
theorem vr_vret {d : Nat} {post : Option vV → VP → Prop} (hr : rt = none) (hp : post none J) (hd : decode bs pc = .ok (.return_, 1)) : VM l g own bs nL rt d post pc ll [] J := fun p e s m args below meth c H locs ls C0 w S L =>
  W.vret C0.1 C0.2.1 (C0.2.2.2.1.trans hr) (fun t ht hW => ⟨⟨none, J, rfl, hp, by rw [ht]; exact w⟩, S.F ht⟩) S.2.2 hd (hlocks := C0.2.2.2.2.1)
theorem vr_aret {d : Nat} {post : Option vV → VP → Prop} {z : Option (Nat × Nat) ⊕ Nat} {C : String} (hr : rt = some (.object C)) (hp : post (some (.inr (.inr z))) J) (hd : decode bs pc = .ok (.areturn, 1)) : VM l g own bs nL rt d post pc ll [.inr (.inr z)] J := fun p e s m args below meth c H locs ls C0 w S L =>
  W.aret C0.1 C0.2.1 (C0.2.2.2.1.trans hr) (Or.inl ⟨_, rfl⟩) (by rcases z with (_ | y) | j <;> first | exact Or.inl rfl | exact Or.inr ⟨_, rfl⟩) (fun t ht hW => ⟨⟨some (.inr (.inr z)), J, rfl, hp, by rw [ht]; exact w⟩, S.F ht⟩) S.2.2 hd (hlocks := C0.2.2.2.2.1)
end VROWS2
