/-! strings: length() and charAt() of the 22 constants, over the JDK's own code -/
def slen (j : Nat) : Int32 := Int32.ofNat (vlenS.getD j 0)
def sch (j k : Nat) : Int32 := (vbytS.getD j []).getD k 0
theorem vnone {n : Nat} : ∀ x : Nat, (none : Option Nat) = some x → x < n := fun _ e => by cases e
theorem vsome {y n : Nat} (h : y < n) : ∀ x : Nat, some y = some x → x < n := fun _ e => by cases e; exact h
/-- Math.max, Math.min -/
def imax (x y : Int32) : Int32 := if x < y then y else x
def imin (x y : Int32) : Int32 := if y < x then y else x
abbrev vush (x y : Int32) : Int32 := (x.toUInt32 >>> (y.toUInt32 &&& Int32.toUInt32 31)).toInt32
theorem dJ0_length_8abf5_0 : decode cJ0_length_8abf5 0 = .ok (.aload_n 0, 1) := by decide +kernel
theorem dJ0_length_8abf5_1 : decode cJ0_length_8abf5 1 = .ok (.getfield 9, 3) := by decide +kernel
theorem dJ0_length_8abf5_4 : decode cJ0_length_8abf5 4 = .ok (.arraylength, 1) := by decide +kernel
theorem dJ0_length_8abf5_5 : decode cJ0_length_8abf5 5 = .ok (.aload_n 0, 1) := by decide +kernel
theorem dJ0_length_8abf5_6 : decode cJ0_length_8abf5 6 = .ok (.invokevirtual 335, 3) := by decide +kernel
theorem dJ0_length_8abf5_9 : decode cJ0_length_8abf5 9 = .ok (.ishr, 1) := by decide +kernel
theorem dJ0_length_8abf5_10 : decode cJ0_length_8abf5 10 = .ok (.ireturn, 1) := by decide +kernel
theorem dJ0_charAt_5068e_0 : decode cJ0_charAt_5068e 0 = .ok (.aload_n 0, 1) := by decide +kernel
theorem dJ0_charAt_5068e_1 : decode cJ0_charAt_5068e 1 = .ok (.invokevirtual 492, 3) := by decide +kernel
theorem dJ0_charAt_5068e_4 : decode cJ0_charAt_5068e 4 = .ok (.ifCond .eq 12, 3) := by decide +kernel
theorem dJ0_charAt_5068e_7 : decode cJ0_charAt_5068e 7 = .ok (.aload_n 0, 1) := by decide +kernel
theorem dJ0_charAt_5068e_8 : decode cJ0_charAt_5068e 8 = .ok (.getfield 9, 3) := by decide +kernel
theorem dJ0_charAt_5068e_11 : decode cJ0_charAt_5068e 11 = .ok (.iload_n 1, 1) := by decide +kernel
theorem dJ0_charAt_5068e_12 : decode cJ0_charAt_5068e 12 = .ok (.invokestatic 495, 3) := by decide +kernel
theorem dJ0_charAt_5068e_15 : decode cJ0_charAt_5068e 15 = .ok (.ireturn, 1) := by decide +kernel
theorem dJ0_charAt_5068e_16 : decode cJ0_charAt_5068e 16 = .ok (.aload_n 0, 1) := by decide +kernel
theorem dJ0_charAt_5068e_17 : decode cJ0_charAt_5068e 17 = .ok (.getfield 9, 3) := by decide +kernel
theorem dJ0_charAt_5068e_20 : decode cJ0_charAt_5068e 20 = .ok (.iload_n 1, 1) := by decide +kernel
theorem dJ0_charAt_5068e_21 : decode cJ0_charAt_5068e 21 = .ok (.invokestatic 498, 3) := by decide +kernel
theorem dJ0_charAt_5068e_24 : decode cJ0_charAt_5068e 24 = .ok (.ireturn, 1) := by decide +kernel
theorem dJ0_coder_7d493_0 : decode cJ0_coder_7d493 0 = .ok (.getstatic 38, 3) := by decide +kernel
theorem dJ0_coder_7d493_3 : decode cJ0_coder_7d493 3 = .ok (.ifCond .eq 10, 3) := by decide +kernel
theorem dJ0_coder_7d493_6 : decode cJ0_coder_7d493 6 = .ok (.aload_n 0, 1) := by decide +kernel
theorem dJ0_coder_7d493_7 : decode cJ0_coder_7d493 7 = .ok (.getfield 15, 3) := by decide +kernel
theorem dJ0_coder_7d493_10 : decode cJ0_coder_7d493 10 = .ok (.goto 4, 3) := by decide +kernel
theorem dJ0_coder_7d493_13 : decode cJ0_coder_7d493 13 = .ok (.iconst 1, 1) := by decide +kernel
theorem dJ0_coder_7d493_14 : decode cJ0_coder_7d493 14 = .ok (.ireturn, 1) := by decide +kernel
theorem dJ0_isLatin1_aae02_0 : decode cJ0_isLatin1_aae02 0 = .ok (.getstatic 38, 3) := by decide +kernel
theorem dJ0_isLatin1_aae02_3 : decode cJ0_isLatin1_aae02 3 = .ok (.ifCond .eq 14, 3) := by decide +kernel
theorem dJ0_isLatin1_aae02_6 : decode cJ0_isLatin1_aae02 6 = .ok (.aload_n 0, 1) := by decide +kernel
theorem dJ0_isLatin1_aae02_7 : decode cJ0_isLatin1_aae02 7 = .ok (.getfield 15, 3) := by decide +kernel
theorem dJ0_isLatin1_aae02_10 : decode cJ0_isLatin1_aae02 10 = .ok (.ifCond .ne 7, 3) := by decide +kernel
theorem dJ0_isLatin1_aae02_13 : decode cJ0_isLatin1_aae02 13 = .ok (.iconst 1, 1) := by decide +kernel
theorem dJ0_isLatin1_aae02_14 : decode cJ0_isLatin1_aae02 14 = .ok (.goto 4, 3) := by decide +kernel
theorem dJ0_isLatin1_aae02_17 : decode cJ0_isLatin1_aae02 17 = .ok (.iconst 0, 1) := by decide +kernel
theorem dJ0_isLatin1_aae02_18 : decode cJ0_isLatin1_aae02 18 = .ok (.ireturn, 1) := by decide +kernel
theorem dJ0_checkIndex_df160_0 : decode cJ0_checkIndex_df160 0 = .ok (.iload_n 0, 1) := by decide +kernel
theorem dJ0_checkIndex_df160_1 : decode cJ0_checkIndex_df160 1 = .ok (.iload_n 1, 1) := by decide +kernel
theorem dJ0_checkIndex_df160_2 : decode cJ0_checkIndex_df160 2 = .ok (.getstatic 1053, 3) := by decide +kernel
theorem dJ0_checkIndex_df160_5 : decode cJ0_checkIndex_df160 5 = .ok (.invokestatic 1059, 3) := by decide +kernel
theorem dJ0_checkIndex_df160_8 : decode cJ0_checkIndex_df160 8 = .ok (.pop, 1) := by decide +kernel
theorem dJ0_checkIndex_df160_9 : decode cJ0_checkIndex_df160 9 = .ok (.return_, 1) := by decide +kernel
theorem dJ1_charAt_3b067_0 : decode cJ1_charAt_3b067 0 = .ok (.iload_n 1, 1) := by decide +kernel
theorem dJ1_charAt_3b067_1 : decode cJ1_charAt_3b067 1 = .ok (.aload_n 0, 1) := by decide +kernel
theorem dJ1_charAt_3b067_2 : decode cJ1_charAt_3b067 2 = .ok (.arraylength, 1) := by decide +kernel
theorem dJ1_charAt_3b067_3 : decode cJ1_charAt_3b067 3 = .ok (.invokestatic 9, 3) := by decide +kernel
theorem dJ1_charAt_3b067_6 : decode cJ1_charAt_3b067 6 = .ok (.aload_n 0, 1) := by decide +kernel
theorem dJ1_charAt_3b067_7 : decode cJ1_charAt_3b067 7 = .ok (.iload_n 1, 1) := by decide +kernel
theorem dJ1_charAt_3b067_8 : decode cJ1_charAt_3b067 8 = .ok (.baload, 1) := by decide +kernel
theorem dJ1_charAt_3b067_9 : decode cJ1_charAt_3b067 9 = .ok (.sipush 255, 3) := by decide +kernel
theorem dJ1_charAt_3b067_12 : decode cJ1_charAt_3b067 12 = .ok (.iand, 1) := by decide +kernel
theorem dJ1_charAt_3b067_13 : decode cJ1_charAt_3b067 13 = .ok (.i2c, 1) := by decide +kernel
theorem dJ1_charAt_3b067_14 : decode cJ1_charAt_3b067 14 = .ok (.ireturn, 1) := by decide +kernel
theorem dJ3_checkIndex_8e157_0 : decode cJ3_checkIndex_8e157 0 = .ok (.iload_n 0, 1) := by decide +kernel
theorem dJ3_checkIndex_8e157_1 : decode cJ3_checkIndex_8e157 1 = .ok (.ifCond .lt 8, 3) := by decide +kernel
theorem dJ3_checkIndex_8e157_4 : decode cJ3_checkIndex_8e157 4 = .ok (.iload_n 0, 1) := by decide +kernel
theorem dJ3_checkIndex_8e157_5 : decode cJ3_checkIndex_8e157 5 = .ok (.iload_n 1, 1) := by decide +kernel
theorem dJ3_checkIndex_8e157_6 : decode cJ3_checkIndex_8e157 6 = .ok (.if_icmp .lt 10, 3) := by decide +kernel
theorem dJ3_checkIndex_8e157_9 : decode cJ3_checkIndex_8e157 9 = .ok (.aload_n 2, 1) := by decide +kernel
theorem dJ3_checkIndex_8e157_10 : decode cJ3_checkIndex_8e157 10 = .ok (.iload_n 0, 1) := by decide +kernel
theorem dJ3_checkIndex_8e157_11 : decode cJ3_checkIndex_8e157 11 = .ok (.iload_n 1, 1) := by decide +kernel
theorem dJ3_checkIndex_8e157_12 : decode cJ3_checkIndex_8e157 12 = .ok (.invokestatic 95, 3) := by decide +kernel
theorem dJ3_checkIndex_8e157_15 : decode cJ3_checkIndex_8e157 15 = .ok (.athrow, 1) := by decide +kernel
theorem dJ3_checkIndex_8e157_16 : decode cJ3_checkIndex_8e157 16 = .ok (.iload_n 0, 1) := by decide +kernel
theorem dJ3_checkIndex_8e157_17 : decode cJ3_checkIndex_8e157 17 = .ok (.ireturn, 1) := by decide +kernel
theorem fs_9 : Cond.fieldLink RJ0 9 "java/lang/String" "value" "[B" ∈ vtb := vtb_m 1380 (by decide +kernel) (by decide +kernel)
theorem fs_15 : Cond.fieldLink RJ0 15 "java/lang/String" "coder" "B" ∈ vtb := vtb_m 1381 (by decide +kernel) (by decide +kernel)
theorem fs_38 : Cond.fieldLink RJ0 38 "java/lang/String" "COMPACT_STRINGS" "Z" ∈ vtb := vtb_m 562 (by decide +kernel) (by decide +kernel)
theorem fs_1053 : Cond.fieldLink RJ0 1053 "jdk/internal/util/Preconditions" "SIOOBE_FORMATTER" "Ljava/util/function/BiFunction;" ∈ vtb := vtb_m 578 (by decide +kernel) (by decide +kernel)
theorem ms_J0_335 : ∀ w ∈ wsV RJ0 335 RJ0 yJ0_coder_7d493 [.code yJ0_coder_7d493 cJ0_coder_7d493 1 (some .byte)], w ∈ vtb := List.forall_mem_cons.mpr ⟨(vtb_m (w := .methodLink RJ0 335 yJ0_coder_7d493) 558 (by decide +kernel) (by decide +kernel)), List.forall_mem_cons.mpr ⟨(vtb_m (w := .instanceMethod yJ0_coder_7d493) 559 (by decide +kernel) (by decide +kernel)), List.forall_mem_cons.mpr ⟨(vtb_m (w := .selects RJ0 yJ0_coder_7d493 yJ0_coder_7d493) 560 (by decide +kernel) (by decide +kernel)), List.forall_mem_cons.mpr ⟨(vtb_m (w := .initialized RJ0) 11 (by decide +kernel) (by decide +kernel)), List.forall_mem_cons.mpr ⟨(vtb_m (w := .code yJ0_coder_7d493 cJ0_coder_7d493 1 (some .byte)) 561 (by decide +kernel) (by decide +kernel)), fun _ h => absurd h List.not_mem_nil⟩⟩⟩⟩⟩
theorem ms_J0_492 : ∀ w ∈ wsV RJ0 492 RJ0 yJ0_isLatin1_aae02 [.code yJ0_isLatin1_aae02 cJ0_isLatin1_aae02 1 (some .boolean)], w ∈ vtb := List.forall_mem_cons.mpr ⟨(vtb_m (w := .methodLink RJ0 492 yJ0_isLatin1_aae02) 568 (by decide +kernel) (by decide +kernel)), List.forall_mem_cons.mpr ⟨(vtb_m (w := .instanceMethod yJ0_isLatin1_aae02) 569 (by decide +kernel) (by decide +kernel)), List.forall_mem_cons.mpr ⟨(vtb_m (w := .selects RJ0 yJ0_isLatin1_aae02 yJ0_isLatin1_aae02) 570 (by decide +kernel) (by decide +kernel)), List.forall_mem_cons.mpr ⟨(vtb_m (w := .initialized RJ0) 11 (by decide +kernel) (by decide +kernel)), List.forall_mem_cons.mpr ⟨(vtb_m (w := .code yJ0_isLatin1_aae02 cJ0_isLatin1_aae02 1 (some .boolean)) 571 (by decide +kernel) (by decide +kernel)), fun _ h => absurd h List.not_mem_nil⟩⟩⟩⟩⟩
theorem ms_J0_495 : ∀ w ∈ va_wsS RJ0 495 yJ1_charAt_3b067 [.code yJ1_charAt_3b067 cJ1_charAt_3b067 2 (some .char)], w ∈ vtb := List.forall_mem_cons.mpr ⟨(vtb_m (w := .methodLink RJ0 495 yJ1_charAt_3b067) 572 (by decide +kernel) (by decide +kernel)), List.forall_mem_cons.mpr ⟨(vtb_m (w := .static yJ1_charAt_3b067) 573 (by decide +kernel) (by decide +kernel)), List.forall_mem_cons.mpr ⟨(vtb_m (w := .initialized (yJ1_charAt_3b067).cls) 12 (by decide +kernel) (by decide +kernel)), List.forall_mem_cons.mpr ⟨(vtb_m (w := .code yJ1_charAt_3b067 cJ1_charAt_3b067 2 (some .char)) 574 (by decide +kernel) (by decide +kernel)), fun _ h => absurd h List.not_mem_nil⟩⟩⟩⟩
theorem ms_J0_1059 : ∀ w ∈ va_wsS RJ0 1059 yJ3_checkIndex_8e157 [.code yJ3_checkIndex_8e157 cJ3_checkIndex_8e157 3 (some .int)], w ∈ vtb := List.forall_mem_cons.mpr ⟨(vtb_m (w := .methodLink RJ0 1059 yJ3_checkIndex_8e157) 580 (by decide +kernel) (by decide +kernel)), List.forall_mem_cons.mpr ⟨(vtb_m (w := .static yJ3_checkIndex_8e157) 581 (by decide +kernel) (by decide +kernel)), List.forall_mem_cons.mpr ⟨(vtb_m (w := .initialized (yJ3_checkIndex_8e157).cls) 13 (by decide +kernel) (by decide +kernel)), List.forall_mem_cons.mpr ⟨(vtb_m (w := .code yJ3_checkIndex_8e157 cJ3_checkIndex_8e157 3 (some .int)) 582 (by decide +kernel) (by decide +kernel)), fun _ h => absurd h List.not_mem_nil⟩⟩⟩⟩
theorem ms_J1_9 : ∀ w ∈ va_wsS RJ1 9 yJ0_checkIndex_df160 [.code yJ0_checkIndex_df160 cJ0_checkIndex_df160 2 none], w ∈ vtb := List.forall_mem_cons.mpr ⟨(vtb_m (w := .methodLink RJ1 9 yJ0_checkIndex_df160) 575 (by decide +kernel) (by decide +kernel)), List.forall_mem_cons.mpr ⟨(vtb_m (w := .static yJ0_checkIndex_df160) 576 (by decide +kernel) (by decide +kernel)), List.forall_mem_cons.mpr ⟨(vtb_m (w := .initialized (yJ0_checkIndex_df160).cls) 11 (by decide +kernel) (by decide +kernel)), List.forall_mem_cons.mpr ⟨(vtb_m (w := .code yJ0_checkIndex_df160 cJ0_checkIndex_df160 2 none) 577 (by decide +kernel) (by decide +kernel)), fun _ h => absurd h List.not_mem_nil⟩⟩⟩⟩
theorem ms_5_48 : ∀ w ∈ wsV RX5 48 RJ0 yJ0_length_8abf5 [.code yJ0_length_8abf5 cJ0_length_8abf5 1 (some .int)], w ∈ vtb := List.forall_mem_cons.mpr ⟨(vtb_m (w := .methodLink RX5 48 yJ0_length_8abf5) 554 (by decide +kernel) (by decide +kernel)), List.forall_mem_cons.mpr ⟨(vtb_m (w := .instanceMethod yJ0_length_8abf5) 555 (by decide +kernel) (by decide +kernel)), List.forall_mem_cons.mpr ⟨(vtb_m (w := .selects RJ0 yJ0_length_8abf5 yJ0_length_8abf5) 556 (by decide +kernel) (by decide +kernel)), List.forall_mem_cons.mpr ⟨(vtb_m (w := .initialized RJ0) 11 (by decide +kernel) (by decide +kernel)), List.forall_mem_cons.mpr ⟨(vtb_m (w := .code yJ0_length_8abf5 cJ0_length_8abf5 1 (some .int)) 557 (by decide +kernel) (by decide +kernel)), fun _ h => absurd h List.not_mem_nil⟩⟩⟩⟩⟩
theorem ms_5_55 : ∀ w ∈ wsV RX5 55 RJ0 yJ0_charAt_5068e [.code yJ0_charAt_5068e cJ0_charAt_5068e 2 (some .char)], w ∈ vtb := List.forall_mem_cons.mpr ⟨(vtb_m (w := .methodLink RX5 55 yJ0_charAt_5068e) 564 (by decide +kernel) (by decide +kernel)), List.forall_mem_cons.mpr ⟨(vtb_m (w := .instanceMethod yJ0_charAt_5068e) 565 (by decide +kernel) (by decide +kernel)), List.forall_mem_cons.mpr ⟨(vtb_m (w := .selects RJ0 yJ0_charAt_5068e yJ0_charAt_5068e) 566 (by decide +kernel) (by decide +kernel)), List.forall_mem_cons.mpr ⟨(vtb_m (w := .initialized RJ0) 11 (by decide +kernel) (by decide +kernel)), List.forall_mem_cons.mpr ⟨(vtb_m (w := .code yJ0_charAt_5068e cJ0_charAt_5068e 2 (some .char)) 567 (by decide +kernel) (by decide +kernel)), fun _ h => absurd h List.not_mem_nil⟩⟩⟩⟩⟩
theorem ms_8_158 : ∀ w ∈ wsV RX8 158 RJ0 yJ0_length_8abf5 [.code yJ0_length_8abf5 cJ0_length_8abf5 1 (some .int)], w ∈ vtb := List.forall_mem_cons.mpr ⟨(vtb_m (w := .methodLink RX8 158 yJ0_length_8abf5) 1204 (by decide +kernel) (by decide +kernel)), List.forall_mem_cons.mpr ⟨(vtb_m (w := .instanceMethod yJ0_length_8abf5) 555 (by decide +kernel) (by decide +kernel)), List.forall_mem_cons.mpr ⟨(vtb_m (w := .selects RJ0 yJ0_length_8abf5 yJ0_length_8abf5) 556 (by decide +kernel) (by decide +kernel)), List.forall_mem_cons.mpr ⟨(vtb_m (w := .initialized RJ0) 11 (by decide +kernel) (by decide +kernel)), List.forall_mem_cons.mpr ⟨(vtb_m (w := .code yJ0_length_8abf5 cJ0_length_8abf5 1 (some .int)) 557 (by decide +kernel) (by decide +kernel)), fun _ h => absurd h List.not_mem_nil⟩⟩⟩⟩⟩
theorem ms_8_161 : ∀ w ∈ wsV RX8 161 RJ0 yJ0_charAt_5068e [.code yJ0_charAt_5068e cJ0_charAt_5068e 2 (some .char)], w ∈ vtb := List.forall_mem_cons.mpr ⟨(vtb_m (w := .methodLink RX8 161 yJ0_charAt_5068e) 1205 (by decide +kernel) (by decide +kernel)), List.forall_mem_cons.mpr ⟨(vtb_m (w := .instanceMethod yJ0_charAt_5068e) 565 (by decide +kernel) (by decide +kernel)), List.forall_mem_cons.mpr ⟨(vtb_m (w := .selects RJ0 yJ0_charAt_5068e yJ0_charAt_5068e) 566 (by decide +kernel) (by decide +kernel)), List.forall_mem_cons.mpr ⟨(vtb_m (w := .initialized RJ0) 11 (by decide +kernel) (by decide +kernel)), List.forall_mem_cons.mpr ⟨(vtb_m (w := .code yJ0_charAt_5068e cJ0_charAt_5068e 2 (some .char)) 567 (by decide +kernel) (by decide +kernel)), fun _ h => absurd h List.not_mem_nil⟩⟩⟩⟩⟩
theorem yh_pre : (yJ3_checkIndex_8e157).cls ≠ "java/lang/invoke/MethodHandle" ∧ (yJ3_checkIndex_8e157).cls ≠ "java/lang/invoke/VarHandle" ∧ (parseMethodDescriptor (yJ3_checkIndex_8e157).desc).map (fun d => d.parameters.length) = some 3 := ⟨by decide +kernel, by decide +kernel, by decide +kernel⟩
theorem yh_chk : (yJ0_checkIndex_df160).cls ≠ "java/lang/invoke/MethodHandle" ∧ (yJ0_checkIndex_df160).cls ≠ "java/lang/invoke/VarHandle" ∧ (parseMethodDescriptor (yJ0_checkIndex_df160).desc).map (fun d => d.parameters.length) = some 2 := ⟨by decide +kernel, by decide +kernel, by decide +kernel⟩
theorem yh_cod : (yJ0_coder_7d493).cls ≠ "java/lang/invoke/MethodHandle" ∧ (yJ0_coder_7d493).cls ≠ "java/lang/invoke/VarHandle" ∧ (parseMethodDescriptor (yJ0_coder_7d493).desc).map (fun d => d.parameters.length) = some 0 := ⟨by decide +kernel, by decide +kernel, by decide +kernel⟩
theorem yh_lat : (yJ0_isLatin1_aae02).cls ≠ "java/lang/invoke/MethodHandle" ∧ (yJ0_isLatin1_aae02).cls ≠ "java/lang/invoke/VarHandle" ∧ (parseMethodDescriptor (yJ0_isLatin1_aae02).desc).map (fun d => d.parameters.length) = some 0 := ⟨by decide +kernel, by decide +kernel, by decide +kernel⟩
theorem yh_l1 : (yJ1_charAt_3b067).cls ≠ "java/lang/invoke/MethodHandle" ∧ (yJ1_charAt_3b067).cls ≠ "java/lang/invoke/VarHandle" ∧ (parseMethodDescriptor (yJ1_charAt_3b067).desc).map (fun d => d.parameters.length) = some 2 := ⟨by decide +kernel, by decide +kernel, by decide +kernel⟩
theorem yh_len : (yJ0_length_8abf5).cls ≠ "java/lang/invoke/MethodHandle" ∧ (yJ0_length_8abf5).cls ≠ "java/lang/invoke/VarHandle" ∧ (parseMethodDescriptor (yJ0_length_8abf5).desc).map (fun d => d.parameters.length) = some 0 := ⟨by decide +kernel, by decide +kernel, by decide +kernel⟩
theorem yh_cha : (yJ0_charAt_5068e).cls ≠ "java/lang/invoke/MethodHandle" ∧ (yJ0_charAt_5068e).cls ≠ "java/lang/invoke/VarHandle" ∧ (parseMethodDescriptor (yJ0_charAt_5068e).desc).map (fun d => d.parameters.length) = some 1 := ⟨by decide +kernel, by decide +kernel, by decide +kernel⟩
section VSTR
variable {l : Launch} {g : vG} {own : String} {bs : ByteArray} {nL : Nat} {rt : Option FieldType} {R : Room} {ce sl : Nat} {E : Array Value → State → Prop} {Qf : List Frame → Array Value → State → State → Prop} {pc : Nat} {ll : List (Nat × vV)} {st : List vV} {J : VP}
theorem vr_ldcw {idx : Nat} (v : Int32) (hc : Cond.constant own idx v ∈ vtb) (hd : decode bs pc = .ok (.ldc_w idx, 3))
    (h : VB l g own bs nL rt R ce sl E Qf (pc + 3) ll (vI v :: st) J) : VB l g own bs nL rt R ce sl E Qf pc ll st J := fun p e s m args below meth c H locs ls C0 w S L => lv_ldcw C0.1 C0.2.1 C0.2.2.2.2.2.1 (C0.2.2.2.2.2.2.1 _ hc) hd (h p e s m args below meth c H locs ls C0 w S L)
theorem vr_i2c {x : Int32} (v : Int32) (hd : decode bs pc = .ok (.i2c, 1)) (hv : (x.toUInt32 % 65536).toInt32 = v)
    (h : VB l g own bs nL rt R ce sl E Qf (pc + 1) ll (vI v :: st) J) : VB l g own bs nL rt R ce sl E Qf pc ll (vI x :: st) J := fun p e s m args below meth c H locs ls C0 w S L => lv_i2c C0.1 C0.2.1 hd hv (h p e s m args below meth c H locs ls C0 w S L)
theorem vr_sval {j idx : Nat} (hj : j < 22) (hl : Cond.fieldLink own idx "java/lang/String" "value" "[B" ∈ vtb) (hd : decode bs pc = .ok (.getfield idx, 3))
    (h : VB l g own bs nL rt R ce sl E Qf (pc + 3) ll (vT (22 + j) :: st) J) : VB l g own bs nL rt R ce sl E Qf pc ll (vT j :: st) J := fun p e s m args below meth c H locs ls C0 w S L => vk_getf C0.1 C0.2.1 (C0.2.2.2.2.2.2.2.1.2.2.2.2.1.1 j hj).2.2.1 S C0.2.2.2.2.2.1 (C0.2.2.2.2.2.2.1 _ hl) (fun _ hh => hh) hd (h p e s m args below meth c H locs ls C0 w S L)
theorem vr_scod {j idx : Nat} (hj : j < 22) (hl : Cond.fieldLink own idx "java/lang/String" "coder" "B" ∈ vtb) (hd : decode bs pc = .ok (.getfield idx, 3))
    (h : VB l g own bs nL rt R ce sl E Qf (pc + 3) ll (vI 0 :: st) J) : VB l g own bs nL rt R ce sl E Qf pc ll (vT j :: st) J := fun p e s m args below meth c H locs ls C0 w S L => vk_getf C0.1 C0.2.1 (C0.2.2.2.2.2.2.2.1.2.2.2.2.1.1 j hj).2.1 S C0.2.2.2.2.2.1 (C0.2.2.2.2.2.2.1 _ hl) (fun _ hh => hh) hd (h p e s m args below meth c H locs ls C0 w S L)
theorem vr_blen {j : Nat} (hj : j < 22) (hd : decode bs pc = .ok (.arraylength, 1))
    (h : VB l g own bs nL rt R ce sl E Qf (pc + 1) ll (vI (slen j) :: st) J) : VB l g own bs nL rt R ce sl E Qf pc ll (vT (22 + j) :: st) J := fun p e s m args below meth c H locs ls C0 w S L => va_tlen C0.1 C0.2.1 (C0.2.2.2.2.2.2.2.1.2.2.2.2.1.1 j hj).2.2.2 S rfl hd (h p e s m args below meth c H locs ls C0 w S L)
theorem slen_lt (j : Nat) (hj : j < 22) : vlenS.getD j 0 < 2147483648 := (show ∀ j, j < 22 → vlenS.getD j 0 < 2147483648 by decide +kernel) j hj
theorem vr_bbald {j : Nat} {i : Int32} (hj : j < 22) (hi : 0 ≤ i ∧ i < slen j) (hd : decode bs pc = .ok (.baload, 1))
    (h : VB l g own bs nL rt R ce sl E Qf (pc + 1) ll (vI (sch j (ix i)) :: st) J) : VB l g own bs nL rt R ce sl E Qf pc ll (vI i :: vT (22 + j) :: st) J := fun p e s m args below meth c H locs ls C0 w S L => va_tb C0.1 C0.2.1 (C0.2.2.2.2.2.2.2.1.2.2.2.2.1.1 j hj).2.2.2 S (vin_of rfl (slen_lt j hj) hi) rfl hd (h p e s m args below meth c H locs ls C0 w S L)
theorem vr_gsC {idx : Nat} (hl : Cond.fieldLink own idx "java/lang/String" "COMPACT_STRINGS" "Z" ∈ vtb) (hd : decode bs pc = .ok (.getstatic idx, 3))
    (h : VB l g own bs nL rt R ce sl E Qf (pc + 3) ll (vI 1 :: st) J) : VB l g own bs nL rt R ce sl E Qf pc ll st J := fun p e s m args below meth c H locs ls C0 w S L => va_gets C0.1 C0.2.1 C0.2.2.2.2.2.2.2.1.2.2.2.2.2.1 S C0.2.2.2.2.2.1 (C0.2.2.2.2.2.2.1 _ hl) (fun _ hh => hh) hd (h p e s m args below meth c H locs ls C0 w S L)
theorem vr_gsF {idx : Nat} (hl : Cond.fieldLink own idx "jdk/internal/util/Preconditions" "SIOOBE_FORMATTER" "Ljava/util/function/BiFunction;" ∈ vtb) (hd : decode bs pc = .ok (.getstatic idx, 3))
    (h : ∀ z : Option (Nat × Nat) ⊕ Nat, VB l g own bs nL rt R ce sl E Qf (pc + 3) ll (.inr (.inr z) :: st) J) : VB l g own bs nL rt R ce sl E Qf pc ll st J := fun p e s m args below meth c H locs ls C0 w S L => by
  rcases C0.2.2.2.2.2.2.2.1.2.2.2.2.2.2 with hf | hf
  · exact va_gets C0.1 C0.2.1 hf S C0.2.2.2.2.2.1 (C0.2.2.2.2.2.2.1 _ hl) (fun _ hh => hh) hd (h (.inl none) p e s m args below meth c H locs ls C0 w S L)
  · exact va_gets C0.1 C0.2.1 hf S C0.2.2.2.2.2.1 (C0.2.2.2.2.2.2.1 _ hl) (fun _ hh => hh) hd (h (.inr 44) p e s m args below meth c H locs ls C0 w S L)
theorem s_pre {z : Option (Nat × Nat) ⊕ Nat} {i n : Int32} {φ : Int32 → Prop} (hi : 0 ≤ i ∧ i < n) (h : φ i) : VC l g yJ3_checkIndex_8e157 cJ3_checkIndex_8e157 3 (some .int) 0 [vI i, vI n, .inr (.inr z)] J (vpI J φ) := by
  have ha : vargs 0 [vI i, vI n, .inr (.inr z)] = [(0, vI i), (1, vI n), (2, .inr (.inr z))] := by rcases z with (_ | y) | j <;> rfl
  have hw : vwsum [vI i, vI n, .inr (.inr z)] ≤ 3 := by rcases z with (_ | y) | j <;> exact Nat.le_of_ble_eq_true rfl
  refine VC.of (by decide +kernel) hw ?_
  rw [ha]
  refine vr_iload_n 0 0 dJ3_checkIndex_8e157_0 rfl rfl ?_
  refine vr_iflt 9 dJ3_checkIndex_8e157_1 (by decide) (fun c1 => absurd c1 (Int32.not_lt.mpr hi.1)) (fun c1 => ?_)
  refine vr_iload_n 0 0 dJ3_checkIndex_8e157_4 rfl rfl ?_
  refine vr_iload_n 1 1 dJ3_checkIndex_8e157_5 rfl rfl ?_
  refine vr_icmplt 16 dJ3_checkIndex_8e157_6 (by decide) (fun c6 => ?_) (fun c6 => absurd hi.2 c6)
  refine vr_iload_n 0 0 dJ3_checkIndex_8e157_16 rfl rfl ?_
  exact vr_iret rfl ⟨rfl, _, rfl, h⟩ dJ3_checkIndex_8e157_17
def vpV (J : VP) : Option vV → VP → Prop := fun v J' => J' = J ∧ v = none
theorem kv (h : VB l g own bs nL rt R ce sl E Qf pc ll st J) : ∀ v J', vpV J v J' → VB l g own bs nL rt R ce sl E Qf pc ll (v.toList ++ st) J' := by
  rintro v J' ⟨rfl, rfl⟩
  exact h
theorem s_chk {i n : Int32} (hi : 0 ≤ i ∧ i < n) : VC l g yJ0_checkIndex_df160 cJ0_checkIndex_df160 2 none 1 [vI i, vI n] J (vpV J) := by
  refine VC.of (by decide +kernel) (Nat.le_of_ble_eq_true rfl) (show VM l g RJ0 cJ0_checkIndex_df160 2 none 1 (vpV J) 0 [(0, vI i), (1, vI n)] [] J from ?_)
  refine vr_iload_n 0 0 dJ0_checkIndex_df160_0 rfl rfl ?_
  refine vr_iload_n 1 1 dJ0_checkIndex_df160_1 rfl rfl ?_
  refine vr_gsF fs_1053 dJ0_checkIndex_df160_2 (fun z => ?_)
  refine vr_callS2 RJ0 (s_pre (z := z) (φ := fun _ => True) hi trivial) rfl ms_J0_1059 rfl yh_pre rfl ⟨Nat.le_of_ble_eq_true rfl, Nat.le_of_ble_eq_true rfl⟩ (Nat.le_of_ble_eq_true rfl) ⟨Nat.zero_le _, Nat.zero_le _⟩ dJ0_checkIndex_df160_5 (ki fun r h => ?_)
  refine vr_pop dJ0_checkIndex_df160_8 rfl ?_
  exact vr_vret rfl ⟨rfl, rfl⟩ dJ0_checkIndex_df160_9
theorem sch_ok : ∀ j, j < 22 → ∀ k, k < vlenS.getD j 0 → ((sch j k &&& 255).toUInt32 % 65536).toInt32 = sch j k ∧ narrow .char (.int (sch j k)) = .int (sch j k) := by decide +kernel
theorem s_l1 {j : Nat} {i : Int32} {φ : Int32 → Prop} (hj : j < 22) (hi : 0 ≤ i ∧ i < slen j) (h : φ (sch j (ix i))) : VC l g yJ1_charAt_3b067 cJ1_charAt_3b067 2 (some .char) 2 [vT (22 + j), vI i] J (vpI J φ) := by
  have ho := sch_ok j hj (ix i) (vin_lt (vin_of rfl (slen_lt j hj) hi))
  refine VC.of (by decide +kernel) (Nat.le_of_ble_eq_true rfl) (show VM l g RJ1 cJ1_charAt_3b067 2 (some .char) 2 (vpI J φ) 0 [(0, vT (22 + j)), (1, vI i)] [] J from ?_)
  refine vr_iload_n 1 1 dJ1_charAt_3b067_0 rfl rfl ?_
  refine vr_aload_n 0 0 dJ1_charAt_3b067_1 rfl rfl ?_
  refine vr_blen hj dJ1_charAt_3b067_2 ?_
  refine vr_callS2 RJ1 (s_chk hi) rfl ms_J1_9 rfl yh_chk rfl ⟨Nat.le_of_ble_eq_true rfl, Nat.le_of_ble_eq_true rfl⟩ (Nat.le_of_ble_eq_true rfl) ⟨Nat.zero_le _, Nat.zero_le _⟩ dJ1_charAt_3b067_3 (kv ?_)
  refine vr_aload_n 0 0 dJ1_charAt_3b067_6 rfl rfl ?_
  refine vr_iload_n 1 1 dJ1_charAt_3b067_7 rfl rfl ?_
  refine vr_bbald hj hi dJ1_charAt_3b067_8 ?_
  refine vr_sipush 255 dJ1_charAt_3b067_9 (by decide) ?_
  refine vr_iand dJ1_charAt_3b067_12 ?_
  refine vr_i2c _ dJ1_charAt_3b067_13 ho.1 ?_
  exact vr_nret .char rfl ho.2 ⟨rfl, _, rfl, h⟩ dJ1_charAt_3b067_14
theorem s_lat {j : Nat} {φ : Int32 → Prop} (hj : j < 22) (h : φ 1) : VC l g yJ0_isLatin1_aae02 cJ0_isLatin1_aae02 1 (some .boolean) 0 [vT j] J (vpI J φ) := by
  refine VC.of (by decide +kernel) (Nat.le_of_ble_eq_true rfl) (show VM l g RJ0 cJ0_isLatin1_aae02 1 (some .boolean) 0 (vpI J φ) 0 [(0, vT j)] [] J from ?_)
  refine vr_gsC fs_38 dJ0_isLatin1_aae02_0 ?_
  refine vr_ifeq 17 dJ0_isLatin1_aae02_3 (by decide) (fun c => absurd c (by decide)) (fun c => ?_)
  refine vr_aload_n 0 0 dJ0_isLatin1_aae02_6 rfl rfl ?_
  refine vr_scod hj fs_15 dJ0_isLatin1_aae02_7 ?_
  refine vr_ifne 17 dJ0_isLatin1_aae02_10 (by decide) (fun c => ?_) (fun c => absurd rfl c)
  refine vr_iconst 1 dJ0_isLatin1_aae02_13 (by decide) ?_
  refine vr_goto 18 dJ0_isLatin1_aae02_14 (by decide) ?_
  exact vr_zret rfl (Or.inr rfl) ⟨rfl, _, rfl, h⟩ dJ0_isLatin1_aae02_18
theorem s_cod {j : Nat} {φ : Int32 → Prop} (hj : j < 22) (h : φ 0) : VC l g yJ0_coder_7d493 cJ0_coder_7d493 1 (some .byte) 0 [vT j] J (vpI J φ) := by
  refine VC.of (by decide +kernel) (Nat.le_of_ble_eq_true rfl) (show VM l g RJ0 cJ0_coder_7d493 1 (some .byte) 0 (vpI J φ) 0 [(0, vT j)] [] J from ?_)
  refine vr_gsC fs_38 dJ0_coder_7d493_0 ?_
  refine vr_ifeq 13 dJ0_coder_7d493_3 (by decide) (fun c => absurd c (by decide)) (fun c => ?_)
  refine vr_aload_n 0 0 dJ0_coder_7d493_6 rfl rfl ?_
  refine vr_scod hj fs_15 dJ0_coder_7d493_7 ?_
  refine vr_goto 14 dJ0_coder_7d493_10 (by decide) ?_
  exact vr_nret .byte rfl rfl ⟨rfl, _, rfl, h⟩ dJ0_coder_7d493_14
theorem s_len {j : Nat} {φ : Int32 → Prop} (hj : j < 22) (h : φ (slen j)) : VC l g yJ0_length_8abf5 cJ0_length_8abf5 1 (some .int) 1 [vT j] J (vpI J φ) := by
  refine VC.of (by decide +kernel) (Nat.le_of_ble_eq_true rfl) (show VM l g RJ0 cJ0_length_8abf5 1 (some .int) 1 (vpI J φ) 0 [(0, vT j)] [] J from ?_)
  refine vr_aload_n 0 0 dJ0_length_8abf5_0 rfl rfl ?_
  refine vr_sval hj fs_9 dJ0_length_8abf5_1 ?_
  refine vr_blen hj dJ0_length_8abf5_4 ?_
  refine vr_aload_n 0 0 dJ0_length_8abf5_5 rfl rfl ?_
  refine vr_callT RJ0 (s_cod (φ := fun r => r = 0) hj rfl) rfl hj rfl ms_J0_335 rfl yh_cod rfl ⟨Nat.le_of_ble_eq_true rfl, Nat.le_of_ble_eq_true rfl⟩ (Nat.le_of_ble_eq_true rfl) ⟨Nat.zero_le _, Nat.zero_le _⟩ dJ0_length_8abf5_6 (ki fun r hr => ?_)
  subst hr
  refine vr_ishr dJ0_length_8abf5_9 ?_
  rw [sb_shr0]
  exact vr_iret rfl ⟨rfl, _, rfl, h⟩ dJ0_length_8abf5_10
theorem s_cha {j : Nat} {i : Int32} {φ : Int32 → Prop} (hj : j < 22) (hi : 0 ≤ i ∧ i < slen j) (h : φ (sch j (ix i))) : VC l g yJ0_charAt_5068e cJ0_charAt_5068e 2 (some .char) 3 [vT j, vI i] J (vpI J φ) := by
  have ho := sch_ok j hj (ix i) (vin_lt (vin_of rfl (slen_lt j hj) hi))
  refine VC.of (by decide +kernel) (Nat.le_of_ble_eq_true rfl) (show VM l g RJ0 cJ0_charAt_5068e 2 (some .char) 3 (vpI J φ) 0 [(0, vT j), (1, vI i)] [] J from ?_)
  refine vr_aload_n 0 0 dJ0_charAt_5068e_0 rfl rfl ?_
  refine vr_callT RJ0 (s_lat (φ := fun r => r = 1) hj rfl) rfl hj rfl ms_J0_492 rfl yh_lat rfl ⟨Nat.le_of_ble_eq_true rfl, Nat.le_of_ble_eq_true rfl⟩ (Nat.le_of_ble_eq_true rfl) ⟨Nat.zero_le _, Nat.zero_le _⟩ dJ0_charAt_5068e_1 (ki fun r hr => ?_)
  subst hr
  refine vr_ifeq 16 dJ0_charAt_5068e_4 (by decide) (fun c => absurd c (by decide)) (fun c => ?_)
  refine vr_aload_n 0 0 dJ0_charAt_5068e_7 rfl rfl ?_
  refine vr_sval hj fs_9 dJ0_charAt_5068e_8 ?_
  refine vr_iload_n 1 1 dJ0_charAt_5068e_11 rfl rfl ?_
  refine vr_callS2 RJ0 (s_l1 (φ := fun r => r = sch j (ix i)) hj hi rfl) rfl ms_J0_495 rfl yh_l1 rfl ⟨Nat.le_of_ble_eq_true rfl, Nat.le_of_ble_eq_true rfl⟩ (Nat.le_of_ble_eq_true rfl) ⟨Nat.zero_le _, Nat.zero_le _⟩ dJ0_charAt_5068e_12 (ki fun r hr => ?_)
  subst hr
  exact vr_nret .char rfl ho.2 ⟨rfl, _, rfl, h⟩ dJ0_charAt_5068e_15
theorem vr_slen (own' : String) {j idx : Nat} (ho : own = own') (hm : ∀ w ∈ wsV own' idx RJ0 yJ0_length_8abf5 [.code yJ0_length_8abf5 cJ0_length_8abf5 1 (some .int)], w ∈ vtb) (hj : j < 22) (hR : 1 + 1 ≤ R.frames ∧ 8 + (1 + 11) + 38 * 1 ≤ R.locals) (hs : vwsum st ≤ 8) (hce : ce ≤ R.cells ∧ sl ≤ R.slots) (hd : decode bs pc = .ok (.invokevirtual idx, 3))
    (h : VB l g own bs nL rt R ce sl E Qf (pc + 3) ll (vI (slen j) :: st) J) : VB l g own bs nL rt R ce sl E Qf pc ll (vT j :: st) J :=
  vr_callT own' (s_len (φ := fun r => r = slen j) hj rfl) ho hj rfl hm rfl yh_len rfl hR hs hce hd (ki fun r hr => by subst hr; exact h)
theorem vr_sch (own' : String) {j idx : Nat} {i : Int32} (ho : own = own') (hm : ∀ w ∈ wsV own' idx RJ0 yJ0_charAt_5068e [.code yJ0_charAt_5068e cJ0_charAt_5068e 2 (some .char)], w ∈ vtb) (hj : j < 22) (hi : 0 ≤ i ∧ i < slen j) (hR : 3 + 1 ≤ R.frames ∧ 8 + (2 + 11) + 38 * 3 ≤ R.locals) (hs : vwsum st ≤ 8) (hce : ce ≤ R.cells ∧ sl ≤ R.slots) (hd : decode bs pc = .ok (.invokevirtual idx, 3))
    (h : VB l g own bs nL rt R ce sl E Qf (pc + 3) ll (vI (sch j (ix i)) :: st) J) : VB l g own bs nL rt R ce sl E Qf pc ll (vI i :: vT j :: st) J :=
  vr_callT own' (s_cha (φ := fun r => r = sch j (ix i)) hj hi rfl) ho hj rfl hm rfl yh_cha rfl hR hs hce hd (ki fun r hr => by subst hr; exact h)
end VSTR
