/-! from the entry -/
theorem l_turn {l : Launch} {D : va_G} {cA : Nat → ClassId} {ad : Nat → Nat} {b L base : Nat} {xs : Nat → Int32} (hb : ad 45 = b) (h : VB l (nG D cA ad base) RL code 4 ret room_1 968 19358 (lE (nG D cA ad base) b L xs) lw_Z 16 [(2, vR 22 0), (1, vR 0 0), (0, vT 45)] [] (vjn P0 Q0)) : NB l (nG D cA ad base) RL code 4 ret room_1 false (lE (nG D cA ad base) b L xs) lw_Z base 968 19358 16 [(2, .ref (base + 960)), (1, .ref base), (0, .ref b)] [] (wAll (nG D cA ad base) base) := fun p e s m args below meth c H locs ls C0 hw S LL => by
  refine h p e s m args below meth c H locs ls C0.1 (nW_vW hw) S ?_
  subst hb
  exact LL
theorem l_start {l : Launch} {D : va_G} {cA : Nat → ClassId} {ad : Nat → Nat} {b L base : Nat} {xs : Nat → Int32} (hL : L ≤ 3072) (hb : ad 45 = b) : NB l (nG D cA ad base) RL code 4 ret room_1 false (lE (nG D cA ad base) b L xs) lw_Z base 0 0 0 [(0, .ref b)] [] [] := by
  refine nr_new RL (ci := 7) (b := base) [.null, .null, .null, .null, .int 0, .int 0] rfl inv_X7 tyX7_ok cl_L_7 in_7 it_7 rfl hf_7 ⟨Nat.le_of_ble_eq_true rfl, Nat.le_of_ble_eq_true rfl⟩ rfl dL_0 ?_
  refine nr_dup dL_3 ?_
  refine nr_init RL (w := []) (n_X7 l _) rfl rfl rfl ck_7 mi_L_9 im_7 it_7 (by decide +kernel) rfl ⟨Nat.le_of_ble_eq_true rfl, Nat.le_of_ble_eq_true rfl⟩ (Nat.le_of_ble_eq_true rfl) ⟨Nat.le_of_ble_eq_true rfl, Nat.le_of_ble_eq_true rfl⟩ dL_4 ?_
  refine nr_astore_n 1 [(1, .ref base), (0, .ref b)] dL_7 rfl (by decide) rfl ?_
  refine nr_ext (w' := bX7 (nG D cA ad base) base) rfl ?_
  refine nr_new RL (ci := 8) (b := base + 960) [.null, .null, .null, .int 0, .int 0, .null, .int 0, .int 0, .int 0, .int 0, .null, .int 0, .null, .int 0, .int 0, .int 0, .null, .int 0] rfl inv_X8 tyX8_ok cl_L_10 in_8 it_8 rfl hf_8 ⟨Nat.le_of_ble_eq_true rfl, Nat.le_of_ble_eq_true rfl⟩ (by rw [le_X7]) dL_8 ?_
  refine nr_dup dL_11 ?_
  refine nr_init RL (w := bX7 (nG D cA ad base) base) (n_X8 l _) rfl rfl (by rw [le_X7]) ck_8 mi_L_12 im_8 it_8 (by decide +kernel) rfl ⟨Nat.le_of_ble_eq_true rfl, Nat.le_of_ble_eq_true rfl⟩ (Nat.le_of_ble_eq_true rfl) ⟨Nat.le_of_ble_eq_true rfl, Nat.le_of_ble_eq_true rfl⟩ dL_12 ?_
  refine nr_astore_n 2 [(2, .ref (base + 960)), (1, .ref base), (0, .ref b)] dL_15 rfl (by decide) rfl ?_
  refine nr_ceq (ce' := 968) (sl' := 19358) rfl rfl ?_
  refine l_turn hb ?_
  refine vr_iconst 0 dL_16 rfl ?_
  refine vr_istore_n 3 (LLs 0) dL_17 rfl (by decide) rfl ?_
  exact l_loop hL hb 4000 0 P0 Q0 RR0 (Int32.le_refl _) (by decide) (Nat.sub_le _ _)
/-- YOUR PART: from the entry, for every script of at most 3072 ints, the law comes to its end with true ('hflags': the launch's flags, for a law that throws: no stack traces) -/
theorem whole_start {p : Program} {e : Env} {s : State} {m : MethodId} {below : List Frame} {meth : Method} {c : Code} (l : Launch) (hflags : l.flags = flags0) {b L : Nat} {xs : Nat → Int32} (hL : L ≤ 3072) (C0 : lw_At p s m meth c b L xs) : W p l e room_1 s m #[Value.ref b] below meth c s.heap [] 0 0 (lw_Z below #[Value.ref b] s) (entryFrame m ([Value.ref b] : List Value).toArray 4) := by
  obtain ⟨hx, hc, hr, hml, hown, hts, hX, hbl, hlk, hgv⟩ := C0
  obtain ⟨D, cA, ad, hb, hK⟩ := k_all (b := b) hts hgv
  have hl := lv_entry [.ref b] (n := 4) (Nat.le_of_ble_eq_true rfl)
  rw [lg_entry_eq]
  exact l_start hL hb p e s m _ below meth c s.heap [] _ ⟨⟨hx, hc, hml, hr, hlk, hown, vtb_hts hts, hK, rfl, hX, hbl, rfl⟩, fun h => absurd h (by decide), Nat.le_refl _, k_nX hts⟩ ⟨rfl, fun j e h => by cases h⟩ va_S.rf hl
