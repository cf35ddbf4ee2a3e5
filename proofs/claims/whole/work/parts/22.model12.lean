/-! X8_argument, X8_moves, X8_steps, X8_runs, X8_start, X8_run, X8_why, X8_machine, X8_frame, X8_dry -/
theorem dX8_argument_0 : decode cX8_argument 0 = .ok (.aload_n 1, 1) := by decide +kernel
theorem dX8_argument_1 : decode cX8_argument 1 = .ok (.iconst 5, 1) := by decide +kernel
theorem dX8_argument_2 : decode cX8_argument 2 = .ok (.iaload, 1) := by decide +kernel
theorem dX8_argument_3 : decode cX8_argument 3 = .ok (.istore 4, 2) := by decide +kernel
theorem dX8_argument_5 : decode cX8_argument 5 = .ok (.aload_n 1, 1) := by decide +kernel
theorem dX8_argument_6 : decode cX8_argument 6 = .ok (.sipush 192, 3) := by decide +kernel
theorem dX8_argument_9 : decode cX8_argument 9 = .ok (.iload 4, 2) := by decide +kernel
theorem dX8_argument_11 : decode cX8_argument 11 = .ok (.iadd, 1) := by decide +kernel
theorem dX8_argument_12 : decode cX8_argument 12 = .ok (.iaload, 1) := by decide +kernel
theorem dX8_argument_13 : decode cX8_argument 13 = .ok (.istore 5, 2) := by decide +kernel
theorem dX8_argument_15 : decode cX8_argument 15 = .ok (.iload 5, 2) := by decide +kernel
theorem dX8_argument_17 : decode cX8_argument 17 = .ok (.ifCond .eq 20, 3) := by decide +kernel
theorem dX8_argument_20 : decode cX8_argument 20 = .ok (.iload_n 2, 1) := by decide +kernel
theorem dX8_argument_21 : decode cX8_argument 21 = .ok (.aload_n 1, 1) := by decide +kernel
theorem dX8_argument_22 : decode cX8_argument 22 = .ok (.iload 4, 2) := by decide +kernel
theorem dX8_argument_24 : decode cX8_argument 24 = .ok (.iload 5, 2) := by decide +kernel
theorem dX8_argument_26 : decode cX8_argument 26 = .ok (.iconst 1, 1) := by decide +kernel
theorem dX8_argument_27 : decode cX8_argument 27 = .ok (.isub, 1) := by decide +kernel
theorem dX8_argument_28 : decode cX8_argument 28 = .ok (.invokestatic 253, 3) := by decide +kernel
theorem dX8_argument_31 : decode cX8_argument 31 = .ok (.iconst 3, 1) := by decide +kernel
theorem dX8_argument_32 : decode cX8_argument 32 = .ok (.iadd, 1) := by decide +kernel
theorem dX8_argument_33 : decode cX8_argument 33 = .ok (.iaload, 1) := by decide +kernel
theorem dX8_argument_34 : decode cX8_argument 34 = .ok (.if_icmp .lt 6, 3) := by decide +kernel
theorem dX8_argument_37 : decode cX8_argument 37 = .ok (.bipush (-31), 2) := by decide +kernel
theorem dX8_argument_39 : decode cX8_argument 39 = .ok (.ireturn, 1) := by decide +kernel
theorem dX8_argument_40 : decode cX8_argument 40 = .ok (.iload 4, 2) := by decide +kernel
theorem dX8_argument_42 : decode cX8_argument 42 = .ok (.iload 5, 2) := by decide +kernel
theorem dX8_argument_44 : decode cX8_argument 44 = .ok (.iconst 1, 1) := by decide +kernel
theorem dX8_argument_45 : decode cX8_argument 45 = .ok (.isub, 1) := by decide +kernel
theorem dX8_argument_46 : decode cX8_argument 46 = .ok (.invokestatic 253, 3) := by decide +kernel
theorem dX8_argument_49 : decode cX8_argument 49 = .ok (.istore 6, 2) := by decide +kernel
theorem dX8_argument_51 : decode cX8_argument 51 = .ok (.iload 6, 2) := by decide +kernel
theorem dX8_argument_53 : decode cX8_argument 53 = .ok (.iconst 5, 1) := by decide +kernel
theorem dX8_argument_54 : decode cX8_argument 54 = .ok (.iadd, 1) := by decide +kernel
theorem dX8_argument_55 : decode cX8_argument 55 = .ok (.iconst 5, 1) := by decide +kernel
theorem dX8_argument_56 : decode cX8_argument 56 = .ok (.iload_n 2, 1) := by decide +kernel
theorem dX8_argument_57 : decode cX8_argument 57 = .ok (.imul, 1) := by decide +kernel
theorem dX8_argument_58 : decode cX8_argument 58 = .ok (.iadd, 1) := by decide +kernel
theorem dX8_argument_59 : decode cX8_argument 59 = .ok (.istore 7, 2) := by decide +kernel
theorem dX8_argument_61 : decode cX8_argument 61 = .ok (.aload_n 1, 1) := by decide +kernel
theorem dX8_argument_62 : decode cX8_argument 62 = .ok (.iload 6, 2) := by decide +kernel
theorem dX8_argument_64 : decode cX8_argument 64 = .ok (.iconst 4, 1) := by decide +kernel
theorem dX8_argument_65 : decode cX8_argument 65 = .ok (.iadd, 1) := by decide +kernel
theorem dX8_argument_66 : decode cX8_argument 66 = .ok (.iaload, 1) := by decide +kernel
theorem dX8_argument_67 : decode cX8_argument 67 = .ok (.iconst 1, 1) := by decide +kernel
theorem dX8_argument_68 : decode cX8_argument 68 = .ok (.if_icmp .ne 39, 3) := by decide +kernel
theorem dX8_argument_71 : decode cX8_argument 71 = .ok (.iload_n 3, 1) := by decide +kernel
theorem dX8_argument_72 : decode cX8_argument 72 = .ok (.ifCond .eq 23, 3) := by decide +kernel
theorem dX8_argument_75 : decode cX8_argument 75 = .ok (.aload_n 1, 1) := by decide +kernel
theorem dX8_argument_76 : decode cX8_argument 76 = .ok (.iload 7, 2) := by decide +kernel
theorem dX8_argument_78 : decode cX8_argument 78 = .ok (.iconst 3, 1) := by decide +kernel
theorem dX8_argument_79 : decode cX8_argument 79 = .ok (.iadd, 1) := by decide +kernel
theorem dX8_argument_80 : decode cX8_argument 80 = .ok (.aload_n 1, 1) := by decide +kernel
theorem dX8_argument_81 : decode cX8_argument 81 = .ok (.bipush 6, 2) := by decide +kernel
theorem dX8_argument_83 : decode cX8_argument 83 = .ok (.iaload, 1) := by decide +kernel
theorem dX8_argument_84 : decode cX8_argument 84 = .ok (.iastore, 1) := by decide +kernel
theorem dX8_argument_85 : decode cX8_argument 85 = .ok (.aload_n 1, 1) := by decide +kernel
theorem dX8_argument_86 : decode cX8_argument 86 = .ok (.iload 7, 2) := by decide +kernel
theorem dX8_argument_88 : decode cX8_argument 88 = .ok (.iconst 4, 1) := by decide +kernel
theorem dX8_argument_89 : decode cX8_argument 89 = .ok (.iadd, 1) := by decide +kernel
theorem dX8_argument_90 : decode cX8_argument 90 = .ok (.iconst 1, 1) := by decide +kernel
theorem dX8_argument_91 : decode cX8_argument 91 = .ok (.iastore, 1) := by decide +kernel
theorem dX8_argument_92 : decode cX8_argument 92 = .ok (.goto 13, 3) := by decide +kernel
theorem dX8_argument_95 : decode cX8_argument 95 = .ok (.aload_n 1, 1) := by decide +kernel
theorem dX8_argument_96 : decode cX8_argument 96 = .ok (.bipush 6, 2) := by decide +kernel
theorem dX8_argument_98 : decode cX8_argument 98 = .ok (.aload_n 1, 1) := by decide +kernel
theorem dX8_argument_99 : decode cX8_argument 99 = .ok (.iload 7, 2) := by decide +kernel
theorem dX8_argument_101 : decode cX8_argument 101 = .ok (.iconst 3, 1) := by decide +kernel
theorem dX8_argument_102 : decode cX8_argument 102 = .ok (.iadd, 1) := by decide +kernel
theorem dX8_argument_103 : decode cX8_argument 103 = .ok (.iaload, 1) := by decide +kernel
theorem dX8_argument_104 : decode cX8_argument 104 = .ok (.iastore, 1) := by decide +kernel
theorem dX8_argument_105 : decode cX8_argument 105 = .ok (.iconst 0, 1) := by decide +kernel
theorem dX8_argument_106 : decode cX8_argument 106 = .ok (.ireturn, 1) := by decide +kernel
theorem dX8_argument_107 : decode cX8_argument 107 = .ok (.aload_n 1, 1) := by decide +kernel
theorem dX8_argument_108 : decode cX8_argument 108 = .ok (.iload 7, 2) := by decide +kernel
theorem dX8_argument_110 : decode cX8_argument 110 = .ok (.iaload, 1) := by decide +kernel
theorem dX8_argument_111 : decode cX8_argument 111 = .ok (.iload 4, 2) := by decide +kernel
theorem dX8_argument_113 : decode cX8_argument 113 = .ok (.invokestatic 238, 3) := by decide +kernel
theorem dX8_argument_116 : decode cX8_argument 116 = .ok (.istore 8, 2) := by decide +kernel
theorem dX8_argument_118 : decode cX8_argument 118 = .ok (.iload_n 3, 1) := by decide +kernel
theorem dX8_argument_119 : decode cX8_argument 119 = .ok (.ifCond .eq 24, 3) := by decide +kernel
theorem dX8_argument_122 : decode cX8_argument 122 = .ok (.aload_n 1, 1) := by decide +kernel
theorem dX8_argument_123 : decode cX8_argument 123 = .ok (.aload_n 1, 1) := by decide +kernel
theorem dX8_argument_124 : decode cX8_argument 124 = .ok (.iload 7, 2) := by decide +kernel
theorem dX8_argument_126 : decode cX8_argument 126 = .ok (.iconst 1, 1) := by decide +kernel
theorem dX8_argument_127 : decode cX8_argument 127 = .ok (.iadd, 1) := by decide +kernel
theorem dX8_argument_128 : decode cX8_argument 128 = .ok (.iaload, 1) := by decide +kernel
theorem dX8_argument_129 : decode cX8_argument 129 = .ok (.aload_n 1, 1) := by decide +kernel
theorem dX8_argument_130 : decode cX8_argument 130 = .ok (.iload 7, 2) := by decide +kernel
theorem dX8_argument_132 : decode cX8_argument 132 = .ok (.iconst 2, 1) := by decide +kernel
theorem dX8_argument_133 : decode cX8_argument 133 = .ok (.iadd, 1) := by decide +kernel
theorem dX8_argument_134 : decode cX8_argument 134 = .ok (.iaload, 1) := by decide +kernel
theorem dX8_argument_135 : decode cX8_argument 135 = .ok (.iload 8, 2) := by decide +kernel
theorem dX8_argument_137 : decode cX8_argument 137 = .ok (.invokestatic 256, 3) := by decide +kernel
theorem dX8_argument_140 : decode cX8_argument 140 = .ok (.goto 22, 3) := by decide +kernel
theorem dX8_argument_143 : decode cX8_argument 143 = .ok (.aload_n 0, 1) := by decide +kernel
theorem dX8_argument_144 : decode cX8_argument 144 = .ok (.aload_n 1, 1) := by decide +kernel
theorem dX8_argument_145 : decode cX8_argument 145 = .ok (.aload_n 1, 1) := by decide +kernel
theorem dX8_argument_146 : decode cX8_argument 146 = .ok (.iload 7, 2) := by decide +kernel
theorem dX8_argument_148 : decode cX8_argument 148 = .ok (.iconst 1, 1) := by decide +kernel
theorem dX8_argument_149 : decode cX8_argument 149 = .ok (.iadd, 1) := by decide +kernel
theorem dX8_argument_150 : decode cX8_argument 150 = .ok (.iaload, 1) := by decide +kernel
theorem dX8_argument_151 : decode cX8_argument 151 = .ok (.aload_n 1, 1) := by decide +kernel
theorem dX8_argument_152 : decode cX8_argument 152 = .ok (.iload 7, 2) := by decide +kernel
theorem dX8_argument_154 : decode cX8_argument 154 = .ok (.iconst 2, 1) := by decide +kernel
theorem dX8_argument_155 : decode cX8_argument 155 = .ok (.iadd, 1) := by decide +kernel
theorem dX8_argument_156 : decode cX8_argument 156 = .ok (.iaload, 1) := by decide +kernel
theorem dX8_argument_157 : decode cX8_argument 157 = .ok (.iload 8, 2) := by decide +kernel
theorem dX8_argument_159 : decode cX8_argument 159 = .ok (.invokevirtual 250, 3) := by decide +kernel
theorem dX8_argument_162 : decode cX8_argument 162 = .ok (.istore 9, 2) := by decide +kernel
theorem dX8_argument_164 : decode cX8_argument 164 = .ok (.iload 9, 2) := by decide +kernel
theorem dX8_argument_166 : decode cX8_argument 166 = .ok (.ifCond .ne 35, 3) := by decide +kernel
theorem dX8_argument_169 : decode cX8_argument 169 = .ok (.iload_n 3, 1) := by decide +kernel
theorem dX8_argument_170 : decode cX8_argument 170 = .ok (.ifCond .eq 31, 3) := by decide +kernel
theorem dX8_argument_173 : decode cX8_argument 173 = .ok (.aload_n 1, 1) := by decide +kernel
theorem dX8_argument_174 : decode cX8_argument 174 = .ok (.aload_n 1, 1) := by decide +kernel
theorem dX8_argument_175 : decode cX8_argument 175 = .ok (.iload 7, 2) := by decide +kernel
theorem dX8_argument_177 : decode cX8_argument 177 = .ok (.iconst 1, 1) := by decide +kernel
theorem dX8_argument_178 : decode cX8_argument 178 = .ok (.iadd, 1) := by decide +kernel
theorem dX8_argument_179 : decode cX8_argument 179 = .ok (.iaload, 1) := by decide +kernel
theorem dX8_argument_180 : decode cX8_argument 180 = .ok (.aload_n 1, 1) := by decide +kernel
theorem dX8_argument_181 : decode cX8_argument 181 = .ok (.iload 7, 2) := by decide +kernel
theorem dX8_argument_183 : decode cX8_argument 183 = .ok (.iconst 2, 1) := by decide +kernel
theorem dX8_argument_184 : decode cX8_argument 184 = .ok (.iadd, 1) := by decide +kernel
theorem dX8_argument_185 : decode cX8_argument 185 = .ok (.iaload, 1) := by decide +kernel
theorem dX8_argument_186 : decode cX8_argument 186 = .ok (.iconst 1, 1) := by decide +kernel
theorem dX8_argument_187 : decode cX8_argument 187 = .ok (.aload_n 1, 1) := by decide +kernel
theorem dX8_argument_188 : decode cX8_argument 188 = .ok (.bipush 6, 2) := by decide +kernel
theorem dX8_argument_190 : decode cX8_argument 190 = .ok (.iaload, 1) := by decide +kernel
theorem dX8_argument_191 : decode cX8_argument 191 = .ok (.iconst 0, 1) := by decide +kernel
theorem dX8_argument_192 : decode cX8_argument 192 = .ok (.iconst 0, 1) := by decide +kernel
theorem dX8_argument_193 : decode cX8_argument 193 = .ok (.iconst 0, 1) := by decide +kernel
theorem dX8_argument_194 : decode cX8_argument 194 = .ok (.iconst 0, 1) := by decide +kernel
theorem dX8_argument_195 : decode cX8_argument 195 = .ok (.invokestatic 91, 3) := by decide +kernel
theorem dX8_argument_198 : decode cX8_argument 198 = .ok (.goto 29, 3) := by decide +kernel
theorem dX8_argument_201 : decode cX8_argument 201 = .ok (.iload 9, 2) := by decide +kernel
theorem dX8_argument_203 : decode cX8_argument 203 = .ok (.ifCond .ne 24, 3) := by decide +kernel
theorem dX8_argument_206 : decode cX8_argument 206 = .ok (.aload_n 1, 1) := by decide +kernel
theorem dX8_argument_207 : decode cX8_argument 207 = .ok (.bipush 6, 2) := by decide +kernel
theorem dX8_argument_209 : decode cX8_argument 209 = .ok (.aload_n 1, 1) := by decide +kernel
theorem dX8_argument_210 : decode cX8_argument 210 = .ok (.aload_n 1, 1) := by decide +kernel
theorem dX8_argument_211 : decode cX8_argument 211 = .ok (.iload 7, 2) := by decide +kernel
theorem dX8_argument_213 : decode cX8_argument 213 = .ok (.iconst 1, 1) := by decide +kernel
theorem dX8_argument_214 : decode cX8_argument 214 = .ok (.iadd, 1) := by decide +kernel
theorem dX8_argument_215 : decode cX8_argument 215 = .ok (.iaload, 1) := by decide +kernel
theorem dX8_argument_216 : decode cX8_argument 216 = .ok (.aload_n 1, 1) := by decide +kernel
theorem dX8_argument_217 : decode cX8_argument 217 = .ok (.iload 7, 2) := by decide +kernel
theorem dX8_argument_219 : decode cX8_argument 219 = .ok (.iconst 2, 1) := by decide +kernel
theorem dX8_argument_220 : decode cX8_argument 220 = .ok (.iadd, 1) := by decide +kernel
theorem dX8_argument_221 : decode cX8_argument 221 = .ok (.iaload, 1) := by decide +kernel
theorem dX8_argument_222 : decode cX8_argument 222 = .ok (.iconst 1, 1) := by decide +kernel
theorem dX8_argument_223 : decode cX8_argument 223 = .ok (.invokestatic 136, 3) := by decide +kernel
theorem dX8_argument_226 : decode cX8_argument 226 = .ok (.iastore, 1) := by decide +kernel
theorem dX8_argument_227 : decode cX8_argument 227 = .ok (.iload 9, 2) := by decide +kernel
theorem dX8_argument_229 : decode cX8_argument 229 = .ok (.ireturn, 1) := by decide +kernel
def F_X8_argument_b201 (k1 : Nat) (x2 : Int32) (x3 : Int32) (Q : VP) (post : Int32 → VP → Prop)  (v7 : Int32) (v9 : Int32) : Prop :=
  (v9 = 0 → (0 ≤ v7 + 1 ∧ v7 + 1 < vlI k1) ∧ ((0 ≤ v7 + 2 ∧ v7 + 2 < vlI k1) ∧ (F_X8_told k1 (Q k1 0 (ix (v7 + 1))) (Q k1 0 (ix (v7 + 2))) ((1 : Int32)) Q (fun r223 => (0 ≤ (6 : Int32) ∧ (6 : Int32) < vlI k1) ∧ (∀ Q226 : VP, Q226 = vup Q k1 0 (ix ((6 : Int32))) r223 → (post v9 Q226)))))) ∧ (¬ v9 = 0 → post v9 Q)
set_option maxRecDepth 4000 in
theorem s_X8_argument_b201 {l : Launch} {g : vG} {k1 : Nat} {x2 : Int32} {x3 : Int32} {P Q : VP} {post : Int32 → VP → Prop}  {v7 : Int32} {v9 : Int32}  (hk1 : vQA k1 0)  (h : F_X8_argument_b201 k1 x2 x3 Q post  v7 v9) : VM l g RX8 cX8_argument 10 (some .int) 4 (vmI P post) 201 [(1, vR k1 0), (7, vI v7), (9, vI v9)] [] (vjn P Q) := by
  unfold F_X8_argument_b201 at h
  refine vr_iload 2 dX8_argument_201 rfl ?_
  refine vr_ifne 227 dX8_argument_203 (by decide) (fun c203 => ?_) (fun c203 => ?_)
  · have h := h.1 c203
    refine vr_aload_n 1 0 dX8_argument_206 rfl rfl ?_
    refine vr_bipush 6 dX8_argument_207 (by decide) ?_
    refine vr_aload_n 1 0 dX8_argument_209 rfl rfl ?_
    refine vr_aload_n 1 0 dX8_argument_210 rfl rfl ?_
    refine vr_iload 1 dX8_argument_211 rfl ?_
    refine vr_iconst 1 dX8_argument_213 (by decide) ?_
    refine vr_iadd dX8_argument_214 ?_
    have hi := h.1
    have h := h.2
    refine vr_ialdQ (vlI k1) hk1 rfl hi dX8_argument_215 ?_
    refine vr_aload_n 1 0 dX8_argument_216 rfl rfl ?_
    refine vr_iload 1 dX8_argument_217 rfl ?_
    refine vr_iconst 2 dX8_argument_219 (by decide) ?_
    refine vr_iadd dX8_argument_220 ?_
    have hi := h.1
    have h := h.2
    refine vr_ialdQ (vlI k1) hk1 rfl hi dX8_argument_221 ?_
    refine vr_iconst 1 dX8_argument_222 (by decide) ?_
    refine vr_callS RX8 (s_X8_told hk1 h) rfl rfl ml_8_136 rfl yh_X8_told rfl ⟨Nat.le_of_ble_eq_true rfl, Nat.le_of_ble_eq_true rfl⟩ (Nat.le_of_ble_eq_true rfl) ⟨Nat.zero_le _, Nat.zero_le _⟩ dX8_argument_223 (ki fun r223 h => ?_)
    have hi := h.1
    have h := h.2
    obtain ⟨Q226, eQ226⟩ : ∃ y : VP, y = vup Q k1 0 (ix ((6 : Int32))) r223 := ⟨_, rfl⟩
    have h := h Q226 eQ226
    refine vr_iastQ (vlI k1) hk1 rfl hi eQ226 dX8_argument_226 ?_
    refine vr_iload 2 dX8_argument_227 rfl ?_
    exact vr_iret rfl ⟨_, _, rfl, rfl, h⟩ dX8_argument_229
  · have h := h.2 c203
    refine vr_iload 2 dX8_argument_227 rfl ?_
    exact vr_iret rfl ⟨_, _, rfl, rfl, h⟩ dX8_argument_229
def F_X8_argument_b162 (k1 : Nat) (x2 : Int32) (x3 : Int32) (Q : VP) (post : Int32 → VP → Prop)  (v7 : Int32) (t0 : Int32) : Prop :=
  (t0 = 0 → (x3 = 0 → F_X8_argument_b201 k1 x2 x3 Q post  v7 t0) ∧ (¬ x3 = 0 → (0 ≤ v7 + 1 ∧ v7 + 1 < vlI k1) ∧ ((0 ≤ v7 + 2 ∧ v7 + 2 < vlI k1) ∧ ((0 ≤ (6 : Int32) ∧ (6 : Int32) < vlI k1) ∧ (F_X8_writes k1 (Q k1 0 (ix (v7 + 1))) (Q k1 0 (ix (v7 + 2))) ((1 : Int32)) (Q k1 0 (ix ((6 : Int32)))) ((0 : Int32)) ((0 : Int32)) ((0 : Int32)) ((0 : Int32)) Q (fun Q195 => post t0 Q195)))))) ∧ (¬ t0 = 0 → F_X8_argument_b201 k1 x2 x3 Q post  v7 t0)
set_option maxRecDepth 4000 in
theorem s_X8_argument_b162 {l : Launch} {g : vG} {k1 : Nat} {x2 : Int32} {x3 : Int32} {P Q : VP} {post : Int32 → VP → Prop}  {v7 : Int32} {t0 : Int32}  (hk1 : vQA k1 0)  (h : F_X8_argument_b162 k1 x2 x3 Q post  v7 t0) : VM l g RX8 cX8_argument 10 (some .int) 4 (vmI P post) 162 [(1, vR k1 0), (3, vI x3), (7, vI v7)] [vI t0] (vjn P Q) := by
  unfold F_X8_argument_b162 at h
  refine vr_istore [(9, vI t0), (1, vR k1 0), (3, vI x3), (7, vI v7)] dX8_argument_162 (by decide) rfl ?_
  refine vr_iload 0 dX8_argument_164 rfl ?_
  refine vr_ifne 201 dX8_argument_166 (by decide) (fun c166 => ?_) (fun c166 => ?_)
  · have h := h.1 c166
    refine vr_iload_n 3 2 dX8_argument_169 rfl rfl ?_
    refine vr_ifeq 201 dX8_argument_170 (by decide) (fun c170 => ?_) (fun c170 => ?_)
    · have h := h.1 c170
      refine vr_sub [1, 3, 0] [(1, vR k1 0), (7, vI v7), (9, vI t0)] rfl ?_
      exact s_X8_argument_b201 hk1  h
    · have h := h.2 c170
      refine vr_aload_n 1 1 dX8_argument_173 rfl rfl ?_
      refine vr_aload_n 1 1 dX8_argument_174 rfl rfl ?_
      refine vr_iload 3 dX8_argument_175 rfl ?_
      refine vr_iconst 1 dX8_argument_177 (by decide) ?_
      refine vr_iadd dX8_argument_178 ?_
      have hi := h.1
      have h := h.2
      refine vr_ialdQ (vlI k1) hk1 rfl hi dX8_argument_179 ?_
      refine vr_aload_n 1 1 dX8_argument_180 rfl rfl ?_
      refine vr_iload 3 dX8_argument_181 rfl ?_
      refine vr_iconst 2 dX8_argument_183 (by decide) ?_
      refine vr_iadd dX8_argument_184 ?_
      have hi := h.1
      have h := h.2
      refine vr_ialdQ (vlI k1) hk1 rfl hi dX8_argument_185 ?_
      refine vr_iconst 1 dX8_argument_186 (by decide) ?_
      refine vr_aload_n 1 1 dX8_argument_187 rfl rfl ?_
      refine vr_bipush 6 dX8_argument_188 (by decide) ?_
      have hi := h.1
      have h := h.2
      refine vr_ialdQ (vlI k1) hk1 rfl hi dX8_argument_190 ?_
      refine vr_iconst 0 dX8_argument_191 (by decide) ?_
      refine vr_iconst 0 dX8_argument_192 (by decide) ?_
      refine vr_iconst 0 dX8_argument_193 (by decide) ?_
      refine vr_iconst 0 dX8_argument_194 (by decide) ?_
      refine vr_callS RX8 (s_X8_writes hk1 h) rfl rfl ml_8_91 rfl yh_X8_writes rfl ⟨Nat.le_of_ble_eq_true rfl, Nat.le_of_ble_eq_true rfl⟩ (Nat.le_of_ble_eq_true rfl) ⟨Nat.zero_le _, Nat.zero_le _⟩ dX8_argument_195 (kmv fun Q195 h => ?_)
      refine vr_goto 227 dX8_argument_198 (by decide) ?_
      refine vr_iload 0 dX8_argument_227 rfl ?_
      exact vr_iret rfl ⟨_, _, rfl, rfl, h⟩ dX8_argument_229
  · have h := h.2 c166
    refine vr_sub [1, 3, 0] [(1, vR k1 0), (7, vI v7), (9, vI t0)] rfl ?_
    exact s_X8_argument_b201 hk1  h
def F_X8_argument (k1 : Nat) (x2 : Int32) (x3 : Int32) (Q : VP) (post : Int32 → VP → Prop) : Prop :=
  (0 ≤ (5 : Int32) ∧ (5 : Int32) < vlI k1) ∧ ((0 ≤ 192 + (Q k1 0 (ix ((5 : Int32)))) ∧ 192 + (Q k1 0 (ix ((5 : Int32)))) < vlI k1) ∧ (∀ v5_13 : Int32, v5_13 = Q k1 0 (ix (192 + (Q k1 0 (ix ((5 : Int32)))))) → ((v5_13 = 0 → post (((-31) : Int32)) Q) ∧ (¬ v5_13 = 0 → F_X8_frameAt (Q k1 0 (ix ((5 : Int32)))) (v5_13 - 1) Q (fun r28 => (0 ≤ r28 + 3 ∧ r28 + 3 < vlI k1) ∧ ((x2 < Q k1 0 (ix (r28 + 3)) → F_X8_frameAt (Q k1 0 (ix ((5 : Int32)))) (v5_13 - 1) Q (fun r46 => (0 ≤ r46 + 4 ∧ r46 + 4 < vlI k1) ∧ ((Q k1 0 (ix (r46 + 4)) = 1 → (x3 = 0 → (0 ≤ ((r46 + 5) + (5 * x2)) + 3 ∧ ((r46 + 5) + (5 * x2)) + 3 < vlI k1) ∧ ((0 ≤ (6 : Int32) ∧ (6 : Int32) < vlI k1) ∧ (∀ Q104 : VP, Q104 = vup Q k1 0 (ix ((6 : Int32))) (Q k1 0 (ix (((r46 + 5) + (5 * x2)) + 3))) → (post ((0 : Int32)) Q104)))) ∧ (¬ x3 = 0 → (0 ≤ (6 : Int32) ∧ (6 : Int32) < vlI k1) ∧ ((0 ≤ ((r46 + 5) + (5 * x2)) + 3 ∧ ((r46 + 5) + (5 * x2)) + 3 < vlI k1) ∧ (∀ Q84 : VP, Q84 = vup Q k1 0 (ix (((r46 + 5) + (5 * x2)) + 3)) (Q k1 0 (ix ((6 : Int32)))) → ((0 ≤ ((r46 + 5) + (5 * x2)) + 4 ∧ ((r46 + 5) + (5 * x2)) + 4 < vlI k1) ∧ (∀ Q91 : VP, Q91 = vup Q84 k1 0 (ix (((r46 + 5) + (5 * x2)) + 4)) 1 → (post ((0 : Int32)) Q91))))))) ∧ (¬ Q k1 0 (ix (r46 + 4)) = 1 → (0 ≤ (r46 + 5) + (5 * x2) ∧ (r46 + 5) + (5 * x2) < vlI k1) ∧ (∀ v8_116 : Int32, v8_116 = imax (Q k1 0 (ix ((r46 + 5) + (5 * x2)))) (Q k1 0 (ix ((5 : Int32)))) → ((x3 = 0 → (0 ≤ ((r46 + 5) + (5 * x2)) + 1 ∧ ((r46 + 5) + (5 * x2)) + 1 < vlI k1) ∧ ((0 ≤ ((r46 + 5) + (5 * x2)) + 2 ∧ ((r46 + 5) + (5 * x2)) + 2 < vlI k1) ∧ (F_X8_numberAt k1 (Q k1 0 (ix (((r46 + 5) + (5 * x2)) + 1))) (Q k1 0 (ix (((r46 + 5) + (5 * x2)) + 2))) v8_116 Q (fun r159 => F_X8_argument_b162 k1 x2 x3 Q post  ((r46 + 5) + (5 * x2)) r159)))) ∧ (¬ x3 = 0 → (0 ≤ ((r46 + 5) + (5 * x2)) + 1 ∧ ((r46 + 5) + (5 * x2)) + 1 < vlI k1) ∧ ((0 ≤ ((r46 + 5) + (5 * x2)) + 2 ∧ ((r46 + 5) + (5 * x2)) + 2 < vlI k1) ∧ (F_X8_putAt k1 (Q k1 0 (ix (((r46 + 5) + (5 * x2)) + 1))) (Q k1 0 (ix (((r46 + 5) + (5 * x2)) + 2))) v8_116 Q (fun r137 => F_X8_argument_b162 k1 x2 x3 Q post  ((r46 + 5) + (5 * x2)) r137)))))))))) ∧ (¬ x2 < Q k1 0 (ix (r28 + 3)) → post (((-31) : Int32)) Q)))))))
set_option maxRecDepth 4000 in
theorem s_X8_argument {l : Launch} {g : vG} {k1 : Nat} {x2 : Int32} {x3 : Int32} {P Q : VP} {post : Int32 → VP → Prop} (hk1 : vQA k1 0) (h : F_X8_argument k1 x2 x3 Q post) : VC l g yX8_argument cX8_argument 10 (some .int) 4 [vR 22 0, vR k1 0, vI x2, vI x3] (vjn P Q) (vmI P post) := by
  refine VC.of (by decide +kernel) (Nat.le_of_ble_eq_true rfl) (show VM l g RX8 cX8_argument 10 (some .int) 4 (vmI P post) 0 [(0, vR 22 0), (1, vR k1 0), (2, vI x2), (3, vI x3)] [] (vjn P Q) from ?_)
  unfold F_X8_argument at h
  refine vr_aload_n 1 1 dX8_argument_0 rfl rfl ?_
  refine vr_iconst 5 dX8_argument_1 (by decide) ?_
  have hi := h.1
  have h := h.2
  refine vr_ialdQ (vlI k1) hk1 rfl hi dX8_argument_2 ?_
  refine vr_istore [(4, vI (Q k1 0 (ix ((5 : Int32))))), (0, vR 22 0), (1, vR k1 0), (2, vI x2), (3, vI x3)] dX8_argument_3 (by decide) rfl ?_
  refine vr_aload_n 1 2 dX8_argument_5 rfl rfl ?_
  refine vr_sipush 192 dX8_argument_6 (by decide) ?_
  refine vr_iload 0 dX8_argument_9 rfl ?_
  refine vr_iadd dX8_argument_11 ?_
  have hi := h.1
  have h := h.2
  refine vr_ialdQ (vlI k1) hk1 rfl hi dX8_argument_12 ?_
  obtain ⟨v5_13, ev5_13⟩ : ∃ y : Int32, y = Q k1 0 (ix (192 + (Q k1 0 (ix ((5 : Int32)))))) := ⟨_, rfl⟩
  have h := h v5_13 ev5_13
  refine vr_nm ev5_13 ?_
  refine vr_istore [(5, vI v5_13), (4, vI (Q k1 0 (ix ((5 : Int32))))), (0, vR 22 0), (1, vR k1 0), (2, vI x2), (3, vI x3)] dX8_argument_13 (by decide) rfl ?_
  refine vr_iload 0 dX8_argument_15 rfl ?_
  refine vr_ifeq 37 dX8_argument_17 (by decide) (fun c17 => ?_) (fun c17 => ?_)
  · have h := h.1 c17
    refine vr_bipush (-31) dX8_argument_37 (by decide) ?_
    exact vr_iret rfl ⟨_, _, rfl, rfl, h⟩ dX8_argument_39
  · have h := h.2 c17
    refine vr_iload_n 2 4 dX8_argument_20 rfl rfl ?_
    refine vr_aload_n 1 3 dX8_argument_21 rfl rfl ?_
    refine vr_iload 1 dX8_argument_22 rfl ?_
    refine vr_iload 0 dX8_argument_24 rfl ?_
    refine vr_iconst 1 dX8_argument_26 (by decide) ?_
    refine vr_isub dX8_argument_27 ?_
    refine vr_callS RX8 (s_X8_frameAt h) rfl rfl ml_8_253 rfl yh_X8_frameAt rfl ⟨Nat.le_of_ble_eq_true rfl, Nat.le_of_ble_eq_true rfl⟩ (Nat.le_of_ble_eq_true rfl) ⟨Nat.zero_le _, Nat.zero_le _⟩ dX8_argument_28 (ki fun r28 h => ?_)
    refine vr_iconst 3 dX8_argument_31 (by decide) ?_
    refine vr_iadd dX8_argument_32 ?_
    have hi := h.1
    have h := h.2
    refine vr_ialdQ (vlI k1) hk1 rfl hi dX8_argument_33 ?_
    refine vr_icmplt 40 dX8_argument_34 (by decide) (fun c34 => ?_) (fun c34 => ?_)
    · have h := h.1 c34
      refine vr_iload 1 dX8_argument_40 rfl ?_
      refine vr_iload 0 dX8_argument_42 rfl ?_
      refine vr_iconst 1 dX8_argument_44 (by decide) ?_
      refine vr_isub dX8_argument_45 ?_
      refine vr_callS RX8 (s_X8_frameAt h) rfl rfl ml_8_253 rfl yh_X8_frameAt rfl ⟨Nat.le_of_ble_eq_true rfl, Nat.le_of_ble_eq_true rfl⟩ (Nat.le_of_ble_eq_true rfl) ⟨Nat.zero_le _, Nat.zero_le _⟩ dX8_argument_46 (ki fun r46 h => ?_)
      refine vr_istore [(6, vI r46), (5, vI v5_13), (4, vI (Q k1 0 (ix ((5 : Int32))))), (0, vR 22 0), (1, vR k1 0), (2, vI x2), (3, vI x3)] dX8_argument_49 (by decide) rfl ?_
      refine vr_iload 0 dX8_argument_51 rfl ?_
      refine vr_iconst 5 dX8_argument_53 (by decide) ?_
      refine vr_iadd dX8_argument_54 ?_
      refine vr_iconst 5 dX8_argument_55 (by decide) ?_
      refine vr_iload_n 2 5 dX8_argument_56 rfl rfl ?_
      refine vr_imul dX8_argument_57 ?_
      refine vr_iadd dX8_argument_58 ?_
      refine vr_istore [(7, vI ((r46 + 5) + (5 * x2))), (6, vI r46), (5, vI v5_13), (4, vI (Q k1 0 (ix ((5 : Int32))))), (0, vR 22 0), (1, vR k1 0), (2, vI x2), (3, vI x3)] dX8_argument_59 (by decide) rfl ?_
      refine vr_aload_n 1 5 dX8_argument_61 rfl rfl ?_
      refine vr_iload 1 dX8_argument_62 rfl ?_
      refine vr_iconst 4 dX8_argument_64 (by decide) ?_
      refine vr_iadd dX8_argument_65 ?_
      have hi := h.1
      have h := h.2
      refine vr_ialdQ (vlI k1) hk1 rfl hi dX8_argument_66 ?_
      refine vr_iconst 1 dX8_argument_67 (by decide) ?_
      refine vr_icmpne 107 dX8_argument_68 (by decide) (fun c68 => ?_) (fun c68 => ?_)
      · have h := h.1 c68
        refine vr_iload_n 3 7 dX8_argument_71 rfl rfl ?_
        refine vr_ifeq 95 dX8_argument_72 (by decide) (fun c72 => ?_) (fun c72 => ?_)
        · have h := h.1 c72
          refine vr_aload_n 1 5 dX8_argument_95 rfl rfl ?_
          refine vr_bipush 6 dX8_argument_96 (by decide) ?_
          refine vr_aload_n 1 5 dX8_argument_98 rfl rfl ?_
          refine vr_iload 0 dX8_argument_99 rfl ?_
          refine vr_iconst 3 dX8_argument_101 (by decide) ?_
          refine vr_iadd dX8_argument_102 ?_
          have hi := h.1
          have h := h.2
          refine vr_ialdQ (vlI k1) hk1 rfl hi dX8_argument_103 ?_
          have hi := h.1
          have h := h.2
          obtain ⟨Q104, eQ104⟩ : ∃ y : VP, y = vup Q k1 0 (ix ((6 : Int32))) (Q k1 0 (ix (((r46 + 5) + (5 * x2)) + 3))) := ⟨_, rfl⟩
          have h := h Q104 eQ104
          refine vr_iastQ (vlI k1) hk1 rfl hi eQ104 dX8_argument_104 ?_
          refine vr_iconst 0 dX8_argument_105 (by decide) ?_
          exact vr_iret rfl ⟨_, _, rfl, rfl, h⟩ dX8_argument_106
        · have h := h.2 c72
          refine vr_aload_n 1 5 dX8_argument_75 rfl rfl ?_
          refine vr_iload 0 dX8_argument_76 rfl ?_
          refine vr_iconst 3 dX8_argument_78 (by decide) ?_
          refine vr_iadd dX8_argument_79 ?_
          refine vr_aload_n 1 5 dX8_argument_80 rfl rfl ?_
          refine vr_bipush 6 dX8_argument_81 (by decide) ?_
          have hi := h.1
          have h := h.2
          refine vr_ialdQ (vlI k1) hk1 rfl hi dX8_argument_83 ?_
          have hi := h.1
          have h := h.2
          obtain ⟨Q84, eQ84⟩ : ∃ y : VP, y = vup Q k1 0 (ix (((r46 + 5) + (5 * x2)) + 3)) (Q k1 0 (ix ((6 : Int32)))) := ⟨_, rfl⟩
          have h := h Q84 eQ84
          refine vr_iastQ (vlI k1) hk1 rfl hi eQ84 dX8_argument_84 ?_
          refine vr_aload_n 1 5 dX8_argument_85 rfl rfl ?_
          refine vr_iload 0 dX8_argument_86 rfl ?_
          refine vr_iconst 4 dX8_argument_88 (by decide) ?_
          refine vr_iadd dX8_argument_89 ?_
          refine vr_iconst 1 dX8_argument_90 (by decide) ?_
          have hi := h.1
          have h := h.2
          obtain ⟨Q91, eQ91⟩ : ∃ y : VP, y = vup Q84 k1 0 (ix (((r46 + 5) + (5 * x2)) + 4)) 1 := ⟨_, rfl⟩
          have h := h Q91 eQ91
          refine vr_iastQ (vlI k1) hk1 rfl hi eQ91 dX8_argument_91 ?_
          refine vr_goto 105 dX8_argument_92 (by decide) ?_
          refine vr_iconst 0 dX8_argument_105 (by decide) ?_
          exact vr_iret rfl ⟨_, _, rfl, rfl, h⟩ dX8_argument_106
      · have h := h.2 c68
        refine vr_aload_n 1 5 dX8_argument_107 rfl rfl ?_
        refine vr_iload 0 dX8_argument_108 rfl ?_
        have hi := h.1
        have h := h.2
        refine vr_ialdQ (vlI k1) hk1 rfl hi dX8_argument_110 ?_
        refine vr_iload 3 dX8_argument_111 rfl ?_
        refine vr_max mk_8_238 mm_max ⟨Nat.le_of_ble_eq_true rfl, Nat.le_of_ble_eq_true rfl⟩ ⟨Nat.zero_le _, Nat.zero_le _⟩ dX8_argument_113 ?_
        obtain ⟨v8_116, ev8_116⟩ : ∃ y : Int32, y = imax (Q k1 0 (ix ((r46 + 5) + (5 * x2)))) (Q k1 0 (ix ((5 : Int32)))) := ⟨_, rfl⟩
        have h := h v8_116 ev8_116
        refine vr_nm ev8_116 ?_
        refine vr_istore [(8, vI v8_116), (7, vI ((r46 + 5) + (5 * x2))), (6, vI r46), (5, vI v5_13), (4, vI (Q k1 0 (ix ((5 : Int32))))), (0, vR 22 0), (1, vR k1 0), (2, vI x2), (3, vI x3)] dX8_argument_116 (by decide) rfl ?_
        refine vr_iload_n 3 8 dX8_argument_118 rfl rfl ?_
        refine vr_ifeq 143 dX8_argument_119 (by decide) (fun c119 => ?_) (fun c119 => ?_)
        · have h := h.1 c119
          refine vr_aload_n 0 5 dX8_argument_143 rfl rfl ?_
          refine vr_aload_n 1 6 dX8_argument_144 rfl rfl ?_
          refine vr_aload_n 1 6 dX8_argument_145 rfl rfl ?_
          refine vr_iload 1 dX8_argument_146 rfl ?_
          refine vr_iconst 1 dX8_argument_148 (by decide) ?_
          refine vr_iadd dX8_argument_149 ?_
          have hi := h.1
          have h := h.2
          refine vr_ialdQ (vlI k1) hk1 rfl hi dX8_argument_150 ?_
          refine vr_aload_n 1 6 dX8_argument_151 rfl rfl ?_
          refine vr_iload 1 dX8_argument_152 rfl ?_
          refine vr_iconst 2 dX8_argument_154 (by decide) ?_
          refine vr_iadd dX8_argument_155 ?_
          have hi := h.1
          have h := h.2
          refine vr_ialdQ (vlI k1) hk1 rfl hi dX8_argument_156 ?_
          refine vr_iload 0 dX8_argument_157 rfl ?_
          refine vr_callV RX8 (s_X8_numberAt hk1 h) rfl (by decide) rfl rfl rfl ml_8_250 rfl yh_X8_numberAt rfl ⟨Nat.le_of_ble_eq_true rfl, Nat.le_of_ble_eq_true rfl⟩ (Nat.le_of_ble_eq_true rfl) ⟨Nat.zero_le _, Nat.zero_le _⟩ dX8_argument_159 (ki fun r159 h => ?_)
          refine vr_sub [6, 8, 1] [(1, vR k1 0), (3, vI x3), (7, vI ((r46 + 5) + (5 * x2)))] rfl ?_
          exact s_X8_argument_b162 hk1  h
        · have h := h.2 c119
          refine vr_aload_n 1 6 dX8_argument_122 rfl rfl ?_
          refine vr_aload_n 1 6 dX8_argument_123 rfl rfl ?_
          refine vr_iload 1 dX8_argument_124 rfl ?_
          refine vr_iconst 1 dX8_argument_126 (by decide) ?_
          refine vr_iadd dX8_argument_127 ?_
          have hi := h.1
          have h := h.2
          refine vr_ialdQ (vlI k1) hk1 rfl hi dX8_argument_128 ?_
          refine vr_aload_n 1 6 dX8_argument_129 rfl rfl ?_
          refine vr_iload 1 dX8_argument_130 rfl ?_
          refine vr_iconst 2 dX8_argument_132 (by decide) ?_
          refine vr_iadd dX8_argument_133 ?_
          have hi := h.1
          have h := h.2
          refine vr_ialdQ (vlI k1) hk1 rfl hi dX8_argument_134 ?_
          refine vr_iload 0 dX8_argument_135 rfl ?_
          refine vr_callS RX8 (s_X8_putAt hk1 h) rfl rfl ml_8_256 rfl yh_X8_putAt rfl ⟨Nat.le_of_ble_eq_true rfl, Nat.le_of_ble_eq_true rfl⟩ (Nat.le_of_ble_eq_true rfl) ⟨Nat.zero_le _, Nat.zero_le _⟩ dX8_argument_137 (ki fun r137 h => ?_)
          refine vr_goto 162 dX8_argument_140 (by decide) ?_
          refine vr_sub [6, 8, 1] [(1, vR k1 0), (3, vI x3), (7, vI ((r46 + 5) + (5 * x2)))] rfl ?_
          exact s_X8_argument_b162 hk1  h
    · have h := h.2 c34
      refine vr_bipush (-31) dX8_argument_37 (by decide) ?_
      exact vr_iret rfl ⟨_, _, rfl, rfl, h⟩ dX8_argument_39
theorem dX8_moves_0 : decode cX8_moves 0 = .ok (.aload_n 0, 1) := by decide +kernel
theorem dX8_moves_1 : decode cX8_moves 1 = .ok (.aload_n 1, 1) := by decide +kernel
theorem dX8_moves_2 : decode cX8_moves 2 = .ok (.iload_n 2, 1) := by decide +kernel
theorem dX8_moves_3 : decode cX8_moves 3 = .ok (.iload_n 3, 1) := by decide +kernel
theorem dX8_moves_4 : decode cX8_moves 4 = .ok (.aload_n 1, 1) := by decide +kernel
theorem dX8_moves_5 : decode cX8_moves 5 = .ok (.iconst 5, 1) := by decide +kernel
theorem dX8_moves_6 : decode cX8_moves 6 = .ok (.iaload, 1) := by decide +kernel
theorem dX8_moves_7 : decode cX8_moves 7 = .ok (.invokevirtual 244, 3) := by decide +kernel
theorem dX8_moves_10 : decode cX8_moves 10 = .ok (.istore 5, 2) := by decide +kernel
theorem dX8_moves_12 : decode cX8_moves 12 = .ok (.iload 5, 2) := by decide +kernel
theorem dX8_moves_14 : decode cX8_moves 14 = .ok (.ifCond .eq 6, 3) := by decide +kernel
theorem dX8_moves_17 : decode cX8_moves 17 = .ok (.iload 5, 2) := by decide +kernel
theorem dX8_moves_19 : decode cX8_moves 19 = .ok (.ireturn, 1) := by decide +kernel
theorem dX8_moves_20 : decode cX8_moves 20 = .ok (.iload 4, 2) := by decide +kernel
theorem dX8_moves_22 : decode cX8_moves 22 = .ok (.iconst 2, 1) := by decide +kernel
theorem dX8_moves_23 : decode cX8_moves 23 = .ok (.if_icmp .ne 22, 3) := by decide +kernel
theorem dX8_moves_26 : decode cX8_moves 26 = .ok (.aload_n 1, 1) := by decide +kernel
theorem dX8_moves_27 : decode cX8_moves 27 = .ok (.aload_n 0, 1) := by decide +kernel
theorem dX8_moves_28 : decode cX8_moves 28 = .ok (.getfield 220, 3) := by decide +kernel
theorem dX8_moves_31 : decode cX8_moves 31 = .ok (.aload_n 0, 1) := by decide +kernel
theorem dX8_moves_32 : decode cX8_moves 32 = .ok (.getfield 223, 3) := by decide +kernel
theorem dX8_moves_35 : decode cX8_moves 35 = .ok (.aload_n 0, 1) := by decide +kernel
theorem dX8_moves_36 : decode cX8_moves 36 = .ok (.getfield 217, 3) := by decide +kernel
theorem dX8_moves_39 : decode cX8_moves 39 = .ok (.invokestatic 256, 3) := by decide +kernel
theorem dX8_moves_42 : decode cX8_moves 42 = .ok (.goto 41, 3) := by decide +kernel
theorem dX8_moves_45 : decode cX8_moves 45 = .ok (.iload 4, 2) := by decide +kernel
theorem dX8_moves_47 : decode cX8_moves 47 = .ok (.iconst 4, 1) := by decide +kernel
theorem dX8_moves_48 : decode cX8_moves 48 = .ok (.if_icmp .ne 18, 3) := by decide +kernel
theorem dX8_moves_51 : decode cX8_moves 51 = .ok (.aload_n 1, 1) := by decide +kernel
theorem dX8_moves_52 : decode cX8_moves 52 = .ok (.aload_n 0, 1) := by decide +kernel
theorem dX8_moves_53 : decode cX8_moves 53 = .ok (.getfield 220, 3) := by decide +kernel
theorem dX8_moves_56 : decode cX8_moves 56 = .ok (.aload_n 0, 1) := by decide +kernel
theorem dX8_moves_57 : decode cX8_moves 57 = .ok (.getfield 223, 3) := by decide +kernel
theorem dX8_moves_60 : decode cX8_moves 60 = .ok (.invokestatic 226, 3) := by decide +kernel
theorem dX8_moves_63 : decode cX8_moves 63 = .ok (.goto 20, 3) := by decide +kernel
theorem dX8_moves_66 : decode cX8_moves 66 = .ok (.aload_n 0, 1) := by decide +kernel
theorem dX8_moves_67 : decode cX8_moves 67 = .ok (.aload_n 1, 1) := by decide +kernel
theorem dX8_moves_68 : decode cX8_moves 68 = .ok (.aload_n 0, 1) := by decide +kernel
theorem dX8_moves_69 : decode cX8_moves 69 = .ok (.getfield 220, 3) := by decide +kernel
theorem dX8_moves_72 : decode cX8_moves 72 = .ok (.aload_n 0, 1) := by decide +kernel
theorem dX8_moves_73 : decode cX8_moves 73 = .ok (.getfield 223, 3) := by decide +kernel
theorem dX8_moves_76 : decode cX8_moves 76 = .ok (.aload_n 0, 1) := by decide +kernel
theorem dX8_moves_77 : decode cX8_moves 77 = .ok (.getfield 217, 3) := by decide +kernel
theorem dX8_moves_80 : decode cX8_moves 80 = .ok (.invokevirtual 250, 3) := by decide +kernel
theorem dX8_moves_83 : decode cX8_moves 83 = .ok (.istore 5, 2) := by decide +kernel
theorem dX8_moves_85 : decode cX8_moves 85 = .ok (.iload 5, 2) := by decide +kernel
theorem dX8_moves_87 : decode cX8_moves 87 = .ok (.ifCond .eq 6, 3) := by decide +kernel
theorem dX8_moves_90 : decode cX8_moves 90 = .ok (.iload 5, 2) := by decide +kernel
theorem dX8_moves_92 : decode cX8_moves 92 = .ok (.ireturn, 1) := by decide +kernel
theorem dX8_moves_93 : decode cX8_moves 93 = .ok (.iload 4, 2) := by decide +kernel
theorem dX8_moves_95 : decode cX8_moves 95 = .ok (.iconst 2, 1) := by decide +kernel
theorem dX8_moves_96 : decode cX8_moves 96 = .ok (.if_icmp .ne 27, 3) := by decide +kernel
theorem dX8_moves_99 : decode cX8_moves 99 = .ok (.aload_n 1, 1) := by decide +kernel
theorem dX8_moves_100 : decode cX8_moves 100 = .ok (.aload_n 0, 1) := by decide +kernel
theorem dX8_moves_101 : decode cX8_moves 101 = .ok (.getfield 220, 3) := by decide +kernel
theorem dX8_moves_104 : decode cX8_moves 104 = .ok (.aload_n 0, 1) := by decide +kernel
theorem dX8_moves_105 : decode cX8_moves 105 = .ok (.getfield 223, 3) := by decide +kernel
theorem dX8_moves_108 : decode cX8_moves 108 = .ok (.iconst 1, 1) := by decide +kernel
theorem dX8_moves_109 : decode cX8_moves 109 = .ok (.aload_n 1, 1) := by decide +kernel
theorem dX8_moves_110 : decode cX8_moves 110 = .ok (.bipush 6, 2) := by decide +kernel
theorem dX8_moves_112 : decode cX8_moves 112 = .ok (.iaload, 1) := by decide +kernel
theorem dX8_moves_113 : decode cX8_moves 113 = .ok (.iconst 0, 1) := by decide +kernel
theorem dX8_moves_114 : decode cX8_moves 114 = .ok (.iconst 0, 1) := by decide +kernel
theorem dX8_moves_115 : decode cX8_moves 115 = .ok (.iconst 0, 1) := by decide +kernel
theorem dX8_moves_116 : decode cX8_moves 116 = .ok (.iconst 0, 1) := by decide +kernel
theorem dX8_moves_117 : decode cX8_moves 117 = .ok (.invokestatic 91, 3) := by decide +kernel
theorem dX8_moves_120 : decode cX8_moves 120 = .ok (.goto 83, 3) := by decide +kernel
theorem dX8_moves_123 : decode cX8_moves 123 = .ok (.iload 4, 2) := by decide +kernel
theorem dX8_moves_125 : decode cX8_moves 125 = .ok (.iconst 4, 1) := by decide +kernel
theorem dX8_moves_126 : decode cX8_moves 126 = .ok (.if_icmp .ne 45, 3) := by decide +kernel
theorem dX8_moves_129 : decode cX8_moves 129 = .ok (.aload_n 1, 1) := by decide +kernel
theorem dX8_moves_130 : decode cX8_moves 130 = .ok (.aload_n 0, 1) := by decide +kernel
theorem dX8_moves_131 : decode cX8_moves 131 = .ok (.getfield 220, 3) := by decide +kernel
theorem dX8_moves_134 : decode cX8_moves 134 = .ok (.aload_n 0, 1) := by decide +kernel
theorem dX8_moves_135 : decode cX8_moves 135 = .ok (.getfield 217, 3) := by decide +kernel
theorem dX8_moves_138 : decode cX8_moves 138 = .ok (.invokestatic 259, 3) := by decide +kernel
theorem dX8_moves_141 : decode cX8_moves 141 = .ok (.ifCond .ne 6, 3) := by decide +kernel
theorem dX8_moves_144 : decode cX8_moves 144 = .ok (.bipush (-22), 2) := by decide +kernel
theorem dX8_moves_146 : decode cX8_moves 146 = .ok (.ireturn, 1) := by decide +kernel
theorem dX8_moves_147 : decode cX8_moves 147 = .ok (.aload_n 1, 1) := by decide +kernel
theorem dX8_moves_148 : decode cX8_moves 148 = .ok (.iconst 3, 1) := by decide +kernel
theorem dX8_moves_149 : decode cX8_moves 149 = .ok (.aload_n 0, 1) := by decide +kernel
theorem dX8_moves_150 : decode cX8_moves 150 = .ok (.getfield 220, 3) := by decide +kernel
theorem dX8_moves_153 : decode cX8_moves 153 = .ok (.iastore, 1) := by decide +kernel
theorem dX8_moves_154 : decode cX8_moves 154 = .ok (.aload_n 1, 1) := by decide +kernel
theorem dX8_moves_155 : decode cX8_moves 155 = .ok (.iconst 4, 1) := by decide +kernel
theorem dX8_moves_156 : decode cX8_moves 156 = .ok (.aload_n 0, 1) := by decide +kernel
theorem dX8_moves_157 : decode cX8_moves 157 = .ok (.getfield 223, 3) := by decide +kernel
theorem dX8_moves_160 : decode cX8_moves 160 = .ok (.iastore, 1) := by decide +kernel
theorem dX8_moves_161 : decode cX8_moves 161 = .ok (.aload_n 1, 1) := by decide +kernel
theorem dX8_moves_162 : decode cX8_moves 162 = .ok (.iconst 5, 1) := by decide +kernel
theorem dX8_moves_163 : decode cX8_moves 163 = .ok (.aload_n 0, 1) := by decide +kernel
theorem dX8_moves_164 : decode cX8_moves 164 = .ok (.getfield 217, 3) := by decide +kernel
theorem dX8_moves_167 : decode cX8_moves 167 = .ok (.iastore, 1) := by decide +kernel
theorem dX8_moves_168 : decode cX8_moves 168 = .ok (.goto 35, 3) := by decide +kernel
theorem dX8_moves_171 : decode cX8_moves 171 = .ok (.aload_n 1, 1) := by decide +kernel
theorem dX8_moves_172 : decode cX8_moves 172 = .ok (.bipush 6, 2) := by decide +kernel
theorem dX8_moves_174 : decode cX8_moves 174 = .ok (.aload_n 1, 1) := by decide +kernel
theorem dX8_moves_175 : decode cX8_moves 175 = .ok (.aload_n 0, 1) := by decide +kernel
theorem dX8_moves_176 : decode cX8_moves 176 = .ok (.getfield 220, 3) := by decide +kernel
theorem dX8_moves_179 : decode cX8_moves 179 = .ok (.aload_n 0, 1) := by decide +kernel
theorem dX8_moves_180 : decode cX8_moves 180 = .ok (.getfield 223, 3) := by decide +kernel
theorem dX8_moves_183 : decode cX8_moves 183 = .ok (.iconst 1, 1) := by decide +kernel
theorem dX8_moves_184 : decode cX8_moves 184 = .ok (.invokestatic 136, 3) := by decide +kernel
theorem dX8_moves_187 : decode cX8_moves 187 = .ok (.iload 4, 2) := by decide +kernel
theorem dX8_moves_189 : decode cX8_moves 189 = .ok (.iconst 3, 1) := by decide +kernel
theorem dX8_moves_190 : decode cX8_moves 190 = .ok (.if_icmp .ne 10, 3) := by decide +kernel
theorem dX8_moves_193 : decode cX8_moves 193 = .ok (.aload_n 1, 1) := by decide +kernel
theorem dX8_moves_194 : decode cX8_moves 194 = .ok (.bipush 6, 2) := by decide +kernel
theorem dX8_moves_196 : decode cX8_moves 196 = .ok (.iaload, 1) := by decide +kernel
theorem dX8_moves_197 : decode cX8_moves 197 = .ok (.goto 4, 3) := by decide +kernel
theorem dX8_moves_200 : decode cX8_moves 200 = .ok (.iconst 0, 1) := by decide +kernel
theorem dX8_moves_201 : decode cX8_moves 201 = .ok (.iadd, 1) := by decide +kernel
theorem dX8_moves_202 : decode cX8_moves 202 = .ok (.iastore, 1) := by decide +kernel
theorem dX8_moves_203 : decode cX8_moves 203 = .ok (.iconst 0, 1) := by decide +kernel
theorem dX8_moves_204 : decode cX8_moves 204 = .ok (.ireturn, 1) := by decide +kernel
def F_X8_moves_b83 (k1 : Nat) (x2 : Int32) (x3 : Int32) (x4 : Int32) (Q : VP) (post : Int32 → VP → Prop)  (t0 : Int32) : Prop :=
  (t0 = 0 → (x4 = 2 → (0 ≤ (6 : Int32) ∧ (6 : Int32) < vlI k1) ∧ (F_X8_writes k1 (Q 22 0 14) (Q 22 0 15) ((1 : Int32)) (Q k1 0 (ix ((6 : Int32)))) ((0 : Int32)) ((0 : Int32)) ((0 : Int32)) ((0 : Int32)) Q (fun Q117 => post ((0 : Int32)) Q117))) ∧ (¬ x4 = 2 → (x4 = 4 → F_X8_mayGo k1 (Q 22 0 14) (Q 22 0 13) Q (fun r138 => (r138 = 0 → post (((-22) : Int32)) Q) ∧ (¬ r138 = 0 → (0 ≤ (3 : Int32) ∧ (3 : Int32) < vlI k1) ∧ (∀ Q153 : VP, Q153 = vup Q k1 0 (ix ((3 : Int32))) (Q 22 0 14) → ((0 ≤ (4 : Int32) ∧ (4 : Int32) < vlI k1) ∧ (∀ Q160 : VP, Q160 = vup Q153 k1 0 (ix ((4 : Int32))) (Q153 22 0 15) → ((0 ≤ (5 : Int32) ∧ (5 : Int32) < vlI k1) ∧ (∀ Q167 : VP, Q167 = vup Q160 k1 0 (ix ((5 : Int32))) (Q160 22 0 13) → (post ((0 : Int32)) Q167))))))))) ∧ (¬ x4 = 4 → F_X8_told k1 (Q 22 0 14) (Q 22 0 15) ((1 : Int32)) Q (fun r184 => (x4 = 3 → (0 ≤ (6 : Int32) ∧ (6 : Int32) < vlI k1) ∧ ((0 ≤ (6 : Int32) ∧ (6 : Int32) < vlI k1) ∧ (∀ Q202 : VP, Q202 = vup Q k1 0 (ix ((6 : Int32))) (r184 + (Q k1 0 (ix ((6 : Int32))))) → (post ((0 : Int32)) Q202)))) ∧ (¬ x4 = 3 → (0 ≤ (6 : Int32) ∧ (6 : Int32) < vlI k1) ∧ (∀ Q202 : VP, Q202 = vup Q k1 0 (ix ((6 : Int32))) (r184 + 0) → (post ((0 : Int32)) Q202))))))) ∧ (¬ t0 = 0 → post t0 Q)
set_option maxRecDepth 4000 in
theorem s_X8_moves_b83 {l : Launch} {g : vG} {k1 : Nat} {x2 : Int32} {x3 : Int32} {x4 : Int32} {P Q : VP} {post : Int32 → VP → Prop}  {t0 : Int32}  (hk1 : vQA k1 0)  (h : F_X8_moves_b83 k1 x2 x3 x4 Q post  t0) : VM l g RX8 cX8_moves 6 (some .int) 4 (vmI P post) 83 [(0, vR 22 0), (1, vR k1 0), (4, vI x4)] [vI t0] (vjn P Q) := by
  unfold F_X8_moves_b83 at h
  refine vr_istore [(5, vI t0), (0, vR 22 0), (1, vR k1 0), (4, vI x4)] dX8_moves_83 (by decide) rfl ?_
  refine vr_iload 0 dX8_moves_85 rfl ?_
  refine vr_ifeq 93 dX8_moves_87 (by decide) (fun c87 => ?_) (fun c87 => ?_)
  · have h := h.1 c87
    refine vr_iload 3 dX8_moves_93 rfl ?_
    refine vr_iconst 2 dX8_moves_95 (by decide) ?_
    refine vr_icmpne 123 dX8_moves_96 (by decide) (fun c96 => ?_) (fun c96 => ?_)
    · have h := h.1 c96
      refine vr_aload_n 1 2 dX8_moves_99 rfl rfl ?_
      refine vr_aload_n 0 1 dX8_moves_100 rfl rfl ?_
      refine vg_22_14 RX8 rfl (by decide) fl_8_220 dX8_moves_101 ?_
      refine vr_aload_n 0 1 dX8_moves_104 rfl rfl ?_
      refine vg_22_15 RX8 rfl (by decide) fl_8_223 dX8_moves_105 ?_
      refine vr_iconst 1 dX8_moves_108 (by decide) ?_
      refine vr_aload_n 1 2 dX8_moves_109 rfl rfl ?_
      refine vr_bipush 6 dX8_moves_110 (by decide) ?_
      have hi := h.1
      have h := h.2
      refine vr_ialdQ (vlI k1) hk1 rfl hi dX8_moves_112 ?_
      refine vr_iconst 0 dX8_moves_113 (by decide) ?_
      refine vr_iconst 0 dX8_moves_114 (by decide) ?_
      refine vr_iconst 0 dX8_moves_115 (by decide) ?_
      refine vr_iconst 0 dX8_moves_116 (by decide) ?_
      refine vr_callS RX8 (s_X8_writes hk1 h) rfl rfl ml_8_91 rfl yh_X8_writes rfl ⟨Nat.le_of_ble_eq_true rfl, Nat.le_of_ble_eq_true rfl⟩ (Nat.le_of_ble_eq_true rfl) ⟨Nat.zero_le _, Nat.zero_le _⟩ dX8_moves_117 (kmv fun Q117 h => ?_)
      refine vr_goto 203 dX8_moves_120 (by decide) ?_
      refine vr_iconst 0 dX8_moves_203 (by decide) ?_
      exact vr_iret rfl ⟨_, _, rfl, rfl, h⟩ dX8_moves_204
    · have h := h.2 c96
      refine vr_iload 3 dX8_moves_123 rfl ?_
      refine vr_iconst 4 dX8_moves_125 (by decide) ?_
      refine vr_icmpne 171 dX8_moves_126 (by decide) (fun c126 => ?_) (fun c126 => ?_)
      · have h := h.1 c126
        refine vr_aload_n 1 2 dX8_moves_129 rfl rfl ?_
        refine vr_aload_n 0 1 dX8_moves_130 rfl rfl ?_
        refine vg_22_14 RX8 rfl (by decide) fl_8_220 dX8_moves_131 ?_
        refine vr_aload_n 0 1 dX8_moves_134 rfl rfl ?_
        refine vg_22_13 RX8 rfl (by decide) fl_8_217 dX8_moves_135 ?_
        refine vr_callS RX8 (s_X8_mayGo hk1 h) rfl rfl ml_8_259 rfl yh_X8_mayGo rfl ⟨Nat.le_of_ble_eq_true rfl, Nat.le_of_ble_eq_true rfl⟩ (Nat.le_of_ble_eq_true rfl) ⟨Nat.zero_le _, Nat.zero_le _⟩ dX8_moves_138 (ki fun r138 h => ?_)
        refine vr_ifne 147 dX8_moves_141 (by decide) (fun c141 => ?_) (fun c141 => ?_)
        · have h := h.1 c141
          refine vr_bipush (-22) dX8_moves_144 (by decide) ?_
          exact vr_iret rfl ⟨_, _, rfl, rfl, h⟩ dX8_moves_146
        · have h := h.2 c141
          refine vr_aload_n 1 2 dX8_moves_147 rfl rfl ?_
          refine vr_iconst 3 dX8_moves_148 (by decide) ?_
          refine vr_aload_n 0 1 dX8_moves_149 rfl rfl ?_
          refine vg_22_14 RX8 rfl (by decide) fl_8_220 dX8_moves_150 ?_
          have hi := h.1
          have h := h.2
          obtain ⟨Q153, eQ153⟩ : ∃ y : VP, y = vup Q k1 0 (ix ((3 : Int32))) (Q 22 0 14) := ⟨_, rfl⟩
          have h := h Q153 eQ153
          refine vr_iastQ (vlI k1) hk1 rfl hi eQ153 dX8_moves_153 ?_
          refine vr_aload_n 1 2 dX8_moves_154 rfl rfl ?_
          refine vr_iconst 4 dX8_moves_155 (by decide) ?_
          refine vr_aload_n 0 1 dX8_moves_156 rfl rfl ?_
          refine vg_22_15 RX8 rfl (by decide) fl_8_223 dX8_moves_157 ?_
          have hi := h.1
          have h := h.2
          obtain ⟨Q160, eQ160⟩ : ∃ y : VP, y = vup Q153 k1 0 (ix ((4 : Int32))) (Q153 22 0 15) := ⟨_, rfl⟩
          have h := h Q160 eQ160
          refine vr_iastQ (vlI k1) hk1 rfl hi eQ160 dX8_moves_160 ?_
          refine vr_aload_n 1 2 dX8_moves_161 rfl rfl ?_
          refine vr_iconst 5 dX8_moves_162 (by decide) ?_
          refine vr_aload_n 0 1 dX8_moves_163 rfl rfl ?_
          refine vg_22_13 RX8 rfl (by decide) fl_8_217 dX8_moves_164 ?_
          have hi := h.1
          have h := h.2
          obtain ⟨Q167, eQ167⟩ : ∃ y : VP, y = vup Q160 k1 0 (ix ((5 : Int32))) (Q160 22 0 13) := ⟨_, rfl⟩
          have h := h Q167 eQ167
          refine vr_iastQ (vlI k1) hk1 rfl hi eQ167 dX8_moves_167 ?_
          refine vr_goto 203 dX8_moves_168 (by decide) ?_
          refine vr_iconst 0 dX8_moves_203 (by decide) ?_
          exact vr_iret rfl ⟨_, _, rfl, rfl, h⟩ dX8_moves_204
      · have h := h.2 c126
        refine vr_aload_n 1 2 dX8_moves_171 rfl rfl ?_
        refine vr_bipush 6 dX8_moves_172 (by decide) ?_
        refine vr_aload_n 1 2 dX8_moves_174 rfl rfl ?_
        refine vr_aload_n 0 1 dX8_moves_175 rfl rfl ?_
        refine vg_22_14 RX8 rfl (by decide) fl_8_220 dX8_moves_176 ?_
        refine vr_aload_n 0 1 dX8_moves_179 rfl rfl ?_
        refine vg_22_15 RX8 rfl (by decide) fl_8_223 dX8_moves_180 ?_
        refine vr_iconst 1 dX8_moves_183 (by decide) ?_
        refine vr_callS RX8 (s_X8_told hk1 h) rfl rfl ml_8_136 rfl yh_X8_told rfl ⟨Nat.le_of_ble_eq_true rfl, Nat.le_of_ble_eq_true rfl⟩ (Nat.le_of_ble_eq_true rfl) ⟨Nat.zero_le _, Nat.zero_le _⟩ dX8_moves_184 (ki fun r184 h => ?_)
        refine vr_iload 3 dX8_moves_187 rfl ?_
        refine vr_iconst 3 dX8_moves_189 (by decide) ?_
        refine vr_icmpne 200 dX8_moves_190 (by decide) (fun c190 => ?_) (fun c190 => ?_)
        · have h := h.1 c190
          refine vr_aload_n 1 2 dX8_moves_193 rfl rfl ?_
          refine vr_bipush 6 dX8_moves_194 (by decide) ?_
          have hi := h.1
          have h := h.2
          refine vr_ialdQ (vlI k1) hk1 rfl hi dX8_moves_196 ?_
          refine vr_goto 201 dX8_moves_197 (by decide) ?_
          refine vr_iadd dX8_moves_201 ?_
          have hi := h.1
          have h := h.2
          obtain ⟨Q202, eQ202⟩ : ∃ y : VP, y = vup Q k1 0 (ix ((6 : Int32))) (r184 + (Q k1 0 (ix ((6 : Int32))))) := ⟨_, rfl⟩
          have h := h Q202 eQ202
          refine vr_iastQ (vlI k1) hk1 rfl hi eQ202 dX8_moves_202 ?_
          refine vr_iconst 0 dX8_moves_203 (by decide) ?_
          exact vr_iret rfl ⟨_, _, rfl, rfl, h⟩ dX8_moves_204
        · have h := h.2 c190
          refine vr_iconst 0 dX8_moves_200 (by decide) ?_
          refine vr_iadd dX8_moves_201 ?_
          have hi := h.1
          have h := h.2
          obtain ⟨Q202, eQ202⟩ : ∃ y : VP, y = vup Q k1 0 (ix ((6 : Int32))) (r184 + 0) := ⟨_, rfl⟩
          have h := h Q202 eQ202
          refine vr_iastQ (vlI k1) hk1 rfl hi eQ202 dX8_moves_202 ?_
          refine vr_iconst 0 dX8_moves_203 (by decide) ?_
          exact vr_iret rfl ⟨_, _, rfl, rfl, h⟩ dX8_moves_204
  · have h := h.2 c87
    refine vr_iload 0 dX8_moves_90 rfl ?_
    exact vr_iret rfl ⟨_, _, rfl, rfl, h⟩ dX8_moves_92
def F_X8_moves (k1 : Nat) (x2 : Int32) (x3 : Int32) (x4 : Int32) (Q : VP) (post : Int32 → VP → Prop) : Prop :=
  (0 ≤ (5 : Int32) ∧ (5 : Int32) < vlI k1) ∧ (F_X8_comes k1 x2 x3 (Q k1 0 (ix ((5 : Int32)))) Q (fun r7 Q7 => (r7 = 0 → (x4 = 2 → F_X8_putAt k1 (Q7 22 0 14) (Q7 22 0 15) (Q7 22 0 13) Q7 (fun r39 => F_X8_moves_b83 k1 x2 x3 x4 Q7 post  r39)) ∧ (¬ x4 = 2 → (x4 = 4 → F_X8_there k1 (Q7 22 0 14) (Q7 22 0 15) Q7 (fun r60 => F_X8_moves_b83 k1 x2 x3 x4 Q7 post  r60)) ∧ (¬ x4 = 4 → F_X8_numberAt k1 (Q7 22 0 14) (Q7 22 0 15) (Q7 22 0 13) Q7 (fun r80 => F_X8_moves_b83 k1 x2 x3 x4 Q7 post  r80)))) ∧ (¬ r7 = 0 → post r7 Q7)))
set_option maxRecDepth 4000 in
theorem s_X8_moves {l : Launch} {g : vG} {k1 : Nat} {x2 : Int32} {x3 : Int32} {x4 : Int32} {P Q : VP} {post : Int32 → VP → Prop} (hk1 : vQA k1 0) (h : F_X8_moves k1 x2 x3 x4 Q post) : VC l g yX8_moves cX8_moves 6 (some .int) 4 [vR 22 0, vR k1 0, vI x2, vI x3, vI x4] (vjn P Q) (vmI P post) := by
  refine VC.of (by decide +kernel) (Nat.le_of_ble_eq_true rfl) (show VM l g RX8 cX8_moves 6 (some .int) 4 (vmI P post) 0 [(0, vR 22 0), (1, vR k1 0), (2, vI x2), (3, vI x3), (4, vI x4)] [] (vjn P Q) from ?_)
  unfold F_X8_moves at h
  refine vr_aload_n 0 0 dX8_moves_0 rfl rfl ?_
  refine vr_aload_n 1 1 dX8_moves_1 rfl rfl ?_
  refine vr_iload_n 2 2 dX8_moves_2 rfl rfl ?_
  refine vr_iload_n 3 3 dX8_moves_3 rfl rfl ?_
  refine vr_aload_n 1 1 dX8_moves_4 rfl rfl ?_
  refine vr_iconst 5 dX8_moves_5 (by decide) ?_
  have hi := h.1
  have h := h.2
  refine vr_ialdQ (vlI k1) hk1 rfl hi dX8_moves_6 ?_
  refine vr_callV RX8 (s_X8_comes hk1 h) rfl (by decide) rfl rfl rfl ml_8_244 rfl yh_X8_comes rfl ⟨Nat.le_of_ble_eq_true rfl, Nat.le_of_ble_eq_true rfl⟩ (Nat.le_of_ble_eq_true rfl) ⟨Nat.zero_le _, Nat.zero_le _⟩ dX8_moves_7 (kmi fun r7 Q7 h => ?_)
  refine vr_istore [(5, vI r7), (0, vR 22 0), (1, vR k1 0), (2, vI x2), (3, vI x3), (4, vI x4)] dX8_moves_10 (by decide) rfl ?_
  refine vr_iload 0 dX8_moves_12 rfl ?_
  refine vr_ifeq 20 dX8_moves_14 (by decide) (fun c14 => ?_) (fun c14 => ?_)
  · have h := h.1 c14
    refine vr_iload 5 dX8_moves_20 rfl ?_
    refine vr_iconst 2 dX8_moves_22 (by decide) ?_
    refine vr_icmpne 45 dX8_moves_23 (by decide) (fun c23 => ?_) (fun c23 => ?_)
    · have h := h.1 c23
      refine vr_aload_n 1 2 dX8_moves_26 rfl rfl ?_
      refine vr_aload_n 0 1 dX8_moves_27 rfl rfl ?_
      refine vg_22_14 RX8 rfl (by decide) fl_8_220 dX8_moves_28 ?_
      refine vr_aload_n 0 1 dX8_moves_31 rfl rfl ?_
      refine vg_22_15 RX8 rfl (by decide) fl_8_223 dX8_moves_32 ?_
      refine vr_aload_n 0 1 dX8_moves_35 rfl rfl ?_
      refine vg_22_13 RX8 rfl (by decide) fl_8_217 dX8_moves_36 ?_
      refine vr_callS RX8 (s_X8_putAt hk1 h) rfl rfl ml_8_256 rfl yh_X8_putAt rfl ⟨Nat.le_of_ble_eq_true rfl, Nat.le_of_ble_eq_true rfl⟩ (Nat.le_of_ble_eq_true rfl) ⟨Nat.zero_le _, Nat.zero_le _⟩ dX8_moves_39 (ki fun r39 h => ?_)
      refine vr_goto 83 dX8_moves_42 (by decide) ?_
      refine vr_sub [1, 2, 5] [(0, vR 22 0), (1, vR k1 0), (4, vI x4)] rfl ?_
      exact s_X8_moves_b83 hk1  h
    · have h := h.2 c23
      refine vr_iload 5 dX8_moves_45 rfl ?_
      refine vr_iconst 4 dX8_moves_47 (by decide) ?_
      refine vr_icmpne 66 dX8_moves_48 (by decide) (fun c48 => ?_) (fun c48 => ?_)
      · have h := h.1 c48
        refine vr_aload_n 1 2 dX8_moves_51 rfl rfl ?_
        refine vr_aload_n 0 1 dX8_moves_52 rfl rfl ?_
        refine vg_22_14 RX8 rfl (by decide) fl_8_220 dX8_moves_53 ?_
        refine vr_aload_n 0 1 dX8_moves_56 rfl rfl ?_
        refine vg_22_15 RX8 rfl (by decide) fl_8_223 dX8_moves_57 ?_
        refine vr_callS RX8 (s_X8_there hk1 h) rfl rfl ml_8_226 rfl yh_X8_there rfl ⟨Nat.le_of_ble_eq_true rfl, Nat.le_of_ble_eq_true rfl⟩ (Nat.le_of_ble_eq_true rfl) ⟨Nat.zero_le _, Nat.zero_le _⟩ dX8_moves_60 (ki fun r60 h => ?_)
        refine vr_goto 83 dX8_moves_63 (by decide) ?_
        refine vr_sub [1, 2, 5] [(0, vR 22 0), (1, vR k1 0), (4, vI x4)] rfl ?_
        exact s_X8_moves_b83 hk1  h
      · have h := h.2 c48
        refine vr_aload_n 0 1 dX8_moves_66 rfl rfl ?_
        refine vr_aload_n 1 2 dX8_moves_67 rfl rfl ?_
        refine vr_aload_n 0 1 dX8_moves_68 rfl rfl ?_
        refine vg_22_14 RX8 rfl (by decide) fl_8_220 dX8_moves_69 ?_
        refine vr_aload_n 0 1 dX8_moves_72 rfl rfl ?_
        refine vg_22_15 RX8 rfl (by decide) fl_8_223 dX8_moves_73 ?_
        refine vr_aload_n 0 1 dX8_moves_76 rfl rfl ?_
        refine vg_22_13 RX8 rfl (by decide) fl_8_217 dX8_moves_77 ?_
        refine vr_callV RX8 (s_X8_numberAt hk1 h) rfl (by decide) rfl rfl rfl ml_8_250 rfl yh_X8_numberAt rfl ⟨Nat.le_of_ble_eq_true rfl, Nat.le_of_ble_eq_true rfl⟩ (Nat.le_of_ble_eq_true rfl) ⟨Nat.zero_le _, Nat.zero_le _⟩ dX8_moves_80 (ki fun r80 h => ?_)
        refine vr_sub [1, 2, 5] [(0, vR 22 0), (1, vR k1 0), (4, vI x4)] rfl ?_
        exact s_X8_moves_b83 hk1  h
  · have h := h.2 c14
    refine vr_iload 0 dX8_moves_17 rfl ?_
    exact vr_iret rfl ⟨_, _, rfl, rfl, h⟩ dX8_moves_19
theorem dX8_steps_0 : decode cX8_steps 0 = .ok (.aload_n 1, 1) := by decide +kernel
theorem dX8_steps_1 : decode cX8_steps 1 = .ok (.iconst 3, 1) := by decide +kernel
theorem dX8_steps_2 : decode cX8_steps 2 = .ok (.iaload, 1) := by decide +kernel
theorem dX8_steps_3 : decode cX8_steps 3 = .ok (.istore_n 2, 1) := by decide +kernel
theorem dX8_steps_4 : decode cX8_steps 4 = .ok (.aload_n 1, 1) := by decide +kernel
theorem dX8_steps_5 : decode cX8_steps 5 = .ok (.iconst 4, 1) := by decide +kernel
theorem dX8_steps_6 : decode cX8_steps 6 = .ok (.iaload, 1) := by decide +kernel
theorem dX8_steps_7 : decode cX8_steps 7 = .ok (.istore_n 3, 1) := by decide +kernel
theorem dX8_steps_8 : decode cX8_steps 8 = .ok (.aload_n 1, 1) := by decide +kernel
theorem dX8_steps_9 : decode cX8_steps 9 = .ok (.iload_n 2, 1) := by decide +kernel
theorem dX8_steps_10 : decode cX8_steps 10 = .ok (.iload_n 3, 1) := by decide +kernel
theorem dX8_steps_11 : decode cX8_steps 11 = .ok (.invokestatic 226, 3) := by decide +kernel
theorem dX8_steps_14 : decode cX8_steps 14 = .ok (.istore 4, 2) := by decide +kernel
theorem dX8_steps_16 : decode cX8_steps 16 = .ok (.iload 4, 2) := by decide +kernel
theorem dX8_steps_18 : decode cX8_steps 18 = .ok (.ifCond .eq 6, 3) := by decide +kernel
theorem dX8_steps_21 : decode cX8_steps 21 = .ok (.iload 4, 2) := by decide +kernel
theorem dX8_steps_23 : decode cX8_steps 23 = .ok (.ireturn, 1) := by decide +kernel
theorem dX8_steps_24 : decode cX8_steps 24 = .ok (.aload_n 1, 1) := by decide +kernel
theorem dX8_steps_25 : decode cX8_steps 25 = .ok (.iload_n 2, 1) := by decide +kernel
theorem dX8_steps_26 : decode cX8_steps 26 = .ok (.aload_n 1, 1) := by decide +kernel
theorem dX8_steps_27 : decode cX8_steps 27 = .ok (.iconst 5, 1) := by decide +kernel
theorem dX8_steps_28 : decode cX8_steps 28 = .ok (.iaload, 1) := by decide +kernel
theorem dX8_steps_29 : decode cX8_steps 29 = .ok (.invokestatic 259, 3) := by decide +kernel
theorem dX8_steps_32 : decode cX8_steps 32 = .ok (.ifCond .ne 6, 3) := by decide +kernel
theorem dX8_steps_35 : decode cX8_steps 35 = .ok (.bipush (-22), 2) := by decide +kernel
theorem dX8_steps_37 : decode cX8_steps 37 = .ok (.ireturn, 1) := by decide +kernel
theorem dX8_steps_38 : decode cX8_steps 38 = .ok (.aload_n 1, 1) := by decide +kernel
theorem dX8_steps_39 : decode cX8_steps 39 = .ok (.iload_n 2, 1) := by decide +kernel
theorem dX8_steps_40 : decode cX8_steps 40 = .ok (.iload_n 3, 1) := by decide +kernel
theorem dX8_steps_41 : decode cX8_steps 41 = .ok (.iconst 0, 1) := by decide +kernel
theorem dX8_steps_42 : decode cX8_steps 42 = .ok (.invokestatic 136, 3) := by decide +kernel
theorem dX8_steps_45 : decode cX8_steps 45 = .ok (.istore 5, 2) := by decide +kernel
theorem dX8_steps_47 : decode cX8_steps 47 = .ok (.iload 5, 2) := by decide +kernel
theorem dX8_steps_49 : decode cX8_steps 49 = .ok (.bipush 6, 2) := by decide +kernel
theorem dX8_steps_51 : decode cX8_steps 51 = .ok (.if_icmp .eq 16, 3) := by decide +kernel
theorem dX8_steps_54 : decode cX8_steps 54 = .ok (.iload 5, 2) := by decide +kernel
theorem dX8_steps_56 : decode cX8_steps 56 = .ok (.ifCond .ne 8, 3) := by decide +kernel
theorem dX8_steps_59 : decode cX8_steps 59 = .ok (.bipush (-23), 2) := by decide +kernel
theorem dX8_steps_61 : decode cX8_steps 61 = .ok (.goto 5, 3) := by decide +kernel
theorem dX8_steps_64 : decode cX8_steps 64 = .ok (.bipush (-24), 2) := by decide +kernel
theorem dX8_steps_66 : decode cX8_steps 66 = .ok (.ireturn, 1) := by decide +kernel
theorem dX8_steps_67 : decode cX8_steps 67 = .ok (.aload_n 1, 1) := by decide +kernel
theorem dX8_steps_68 : decode cX8_steps 68 = .ok (.iload_n 2, 1) := by decide +kernel
theorem dX8_steps_69 : decode cX8_steps 69 = .ok (.iload_n 3, 1) := by decide +kernel
theorem dX8_steps_70 : decode cX8_steps 70 = .ok (.iconst 1, 1) := by decide +kernel
theorem dX8_steps_71 : decode cX8_steps 71 = .ok (.invokestatic 136, 3) := by decide +kernel
theorem dX8_steps_74 : decode cX8_steps 74 = .ok (.istore 6, 2) := by decide +kernel
theorem dX8_steps_76 : decode cX8_steps 76 = .ok (.aload_n 1, 1) := by decide +kernel
theorem dX8_steps_77 : decode cX8_steps 77 = .ok (.iload_n 2, 1) := by decide +kernel
theorem dX8_steps_78 : decode cX8_steps 78 = .ok (.iload_n 3, 1) := by decide +kernel
theorem dX8_steps_79 : decode cX8_steps 79 = .ok (.iconst 2, 1) := by decide +kernel
theorem dX8_steps_80 : decode cX8_steps 80 = .ok (.invokestatic 136, 3) := by decide +kernel
theorem dX8_steps_83 : decode cX8_steps 83 = .ok (.istore 7, 2) := by decide +kernel
theorem dX8_steps_85 : decode cX8_steps 85 = .ok (.aload_n 1, 1) := by decide +kernel
theorem dX8_steps_86 : decode cX8_steps 86 = .ok (.iload_n 2, 1) := by decide +kernel
theorem dX8_steps_87 : decode cX8_steps 87 = .ok (.iload_n 3, 1) := by decide +kernel
theorem dX8_steps_88 : decode cX8_steps 88 = .ok (.iconst 3, 1) := by decide +kernel
theorem dX8_steps_89 : decode cX8_steps 89 = .ok (.invokestatic 136, 3) := by decide +kernel
theorem dX8_steps_92 : decode cX8_steps 92 = .ok (.istore 8, 2) := by decide +kernel
theorem dX8_steps_94 : decode cX8_steps 94 = .ok (.iload 6, 2) := by decide +kernel
theorem dX8_steps_96 : decode cX8_steps 96 = .ok (.tableswitch 120 0 9 #[56, 120, 120, 120, 120, 58, 70, 76, 76, 100], 56) := by decide +kernel
theorem dX8_steps_152 : decode cX8_steps 152 = .ok (.iconst 1, 1) := by decide +kernel
theorem dX8_steps_153 : decode cX8_steps 153 = .ok (.ireturn, 1) := by decide +kernel
theorem dX8_steps_154 : decode cX8_steps 154 = .ok (.aload_n 0, 1) := by decide +kernel
theorem dX8_steps_155 : decode cX8_steps 155 = .ok (.aload_n 1, 1) := by decide +kernel
theorem dX8_steps_156 : decode cX8_steps 156 = .ok (.iload_n 2, 1) := by decide +kernel
theorem dX8_steps_157 : decode cX8_steps 157 = .ok (.iload_n 3, 1) := by decide +kernel
theorem dX8_steps_158 : decode cX8_steps 158 = .ok (.iload 7, 2) := by decide +kernel
theorem dX8_steps_160 : decode cX8_steps 160 = .ok (.iload 8, 2) := by decide +kernel
theorem dX8_steps_162 : decode cX8_steps 162 = .ok (.invokevirtual 262, 3) := by decide +kernel
theorem dX8_steps_165 : decode cX8_steps 165 = .ok (.ireturn, 1) := by decide +kernel
theorem dX8_steps_166 : decode cX8_steps 166 = .ok (.aload_n 0, 1) := by decide +kernel
theorem dX8_steps_167 : decode cX8_steps 167 = .ok (.aload_n 1, 1) := by decide +kernel
theorem dX8_steps_168 : decode cX8_steps 168 = .ok (.invokevirtual 266, 3) := by decide +kernel
theorem dX8_steps_171 : decode cX8_steps 171 = .ok (.ireturn, 1) := by decide +kernel
theorem dX8_steps_172 : decode cX8_steps 172 = .ok (.aload_n 0, 1) := by decide +kernel
theorem dX8_steps_173 : decode cX8_steps 173 = .ok (.aload_n 1, 1) := by decide +kernel
theorem dX8_steps_174 : decode cX8_steps 174 = .ok (.iload 7, 2) := by decide +kernel
theorem dX8_steps_176 : decode cX8_steps 176 = .ok (.iload 6, 2) := by decide +kernel
theorem dX8_steps_178 : decode cX8_steps 178 = .ok (.bipush 8, 2) := by decide +kernel
theorem dX8_steps_180 : decode cX8_steps 180 = .ok (.if_icmp .ne 7, 3) := by decide +kernel
theorem dX8_steps_183 : decode cX8_steps 183 = .ok (.iconst 1, 1) := by decide +kernel
theorem dX8_steps_184 : decode cX8_steps 184 = .ok (.goto 4, 3) := by decide +kernel
theorem dX8_steps_187 : decode cX8_steps 187 = .ok (.iconst 0, 1) := by decide +kernel
theorem dX8_steps_188 : decode cX8_steps 188 = .ok (.invokevirtual 270, 3) := by decide +kernel
theorem dX8_steps_191 : decode cX8_steps 191 = .ok (.istore 4, 2) := by decide +kernel
theorem dX8_steps_193 : decode cX8_steps 193 = .ok (.goto 35, 3) := by decide +kernel
theorem dX8_steps_196 : decode cX8_steps 196 = .ok (.aload_n 1, 1) := by decide +kernel
theorem dX8_steps_197 : decode cX8_steps 197 = .ok (.iconst 4, 1) := by decide +kernel
theorem dX8_steps_198 : decode cX8_steps 198 = .ok (.aload_n 1, 1) := by decide +kernel
theorem dX8_steps_199 : decode cX8_steps 199 = .ok (.bipush 6, 2) := by decide +kernel
theorem dX8_steps_201 : decode cX8_steps 201 = .ok (.iaload, 1) := by decide +kernel
theorem dX8_steps_202 : decode cX8_steps 202 = .ok (.ifCond .ne 8, 3) := by decide +kernel
theorem dX8_steps_205 : decode cX8_steps 205 = .ok (.iload 7, 2) := by decide +kernel
theorem dX8_steps_207 : decode cX8_steps 207 = .ok (.goto 6, 3) := by decide +kernel
theorem dX8_steps_210 : decode cX8_steps 210 = .ok (.iload_n 3, 1) := by decide +kernel
theorem dX8_steps_211 : decode cX8_steps 211 = .ok (.iconst 1, 1) := by decide +kernel
theorem dX8_steps_212 : decode cX8_steps 212 = .ok (.iadd, 1) := by decide +kernel
theorem dX8_steps_213 : decode cX8_steps 213 = .ok (.iastore, 1) := by decide +kernel
theorem dX8_steps_214 : decode cX8_steps 214 = .ok (.iconst 0, 1) := by decide +kernel
theorem dX8_steps_215 : decode cX8_steps 215 = .ok (.ireturn, 1) := by decide +kernel
theorem dX8_steps_216 : decode cX8_steps 216 = .ok (.aload_n 0, 1) := by decide +kernel
theorem dX8_steps_217 : decode cX8_steps 217 = .ok (.aload_n 1, 1) := by decide +kernel
theorem dX8_steps_218 : decode cX8_steps 218 = .ok (.iload_n 2, 1) := by decide +kernel
theorem dX8_steps_219 : decode cX8_steps 219 = .ok (.iload 7, 2) := by decide +kernel
theorem dX8_steps_221 : decode cX8_steps 221 = .ok (.iload 6, 2) := by decide +kernel
theorem dX8_steps_223 : decode cX8_steps 223 = .ok (.invokevirtual 274, 3) := by decide +kernel
theorem dX8_steps_226 : decode cX8_steps 226 = .ok (.istore 4, 2) := by decide +kernel
theorem dX8_steps_228 : decode cX8_steps 228 = .ok (.iload 4, 2) := by decide +kernel
theorem dX8_steps_230 : decode cX8_steps 230 = .ok (.ifCond .ne 15, 3) := by decide +kernel
theorem dX8_steps_233 : decode cX8_steps 233 = .ok (.iload 6, 2) := by decide +kernel
theorem dX8_steps_235 : decode cX8_steps 235 = .ok (.iconst 4, 1) := by decide +kernel
theorem dX8_steps_236 : decode cX8_steps 236 = .ok (.if_icmp .eq 9, 3) := by decide +kernel
theorem dX8_steps_239 : decode cX8_steps 239 = .ok (.aload_n 1, 1) := by decide +kernel
theorem dX8_steps_240 : decode cX8_steps 240 = .ok (.iconst 4, 1) := by decide +kernel
theorem dX8_steps_241 : decode cX8_steps 241 = .ok (.iload_n 3, 1) := by decide +kernel
theorem dX8_steps_242 : decode cX8_steps 242 = .ok (.iconst 1, 1) := by decide +kernel
theorem dX8_steps_243 : decode cX8_steps 243 = .ok (.iadd, 1) := by decide +kernel
theorem dX8_steps_244 : decode cX8_steps 244 = .ok (.iastore, 1) := by decide +kernel
theorem dX8_steps_245 : decode cX8_steps 245 = .ok (.iload 4, 2) := by decide +kernel
theorem dX8_steps_247 : decode cX8_steps 247 = .ok (.ireturn, 1) := by decide +kernel
def F_X8_steps_b228 (k1 : Nat) (Q : VP) (post : Int32 → VP → Prop)  (v3 : Int32) (v4 : Int32) (v6 : Int32) : Prop :=
  (v4 = 0 → (v6 = 4 → post v4 Q) ∧ (¬ v6 = 4 → (0 ≤ (4 : Int32) ∧ (4 : Int32) < vlI k1) ∧ (∀ Q244 : VP, Q244 = vup Q k1 0 (ix ((4 : Int32))) (v3 + 1) → (post v4 Q244)))) ∧ (¬ v4 = 0 → post v4 Q)
set_option maxRecDepth 4000 in
theorem s_X8_steps_b228 {l : Launch} {g : vG} {k1 : Nat} {P Q : VP} {post : Int32 → VP → Prop}  {v3 : Int32} {v4 : Int32} {v6 : Int32}  (hk1 : vQA k1 0)  (h : F_X8_steps_b228 k1 Q post  v3 v4 v6) : VM l g RX8 cX8_steps 9 (some .int) 5 (vmI P post) 228 [(1, vR k1 0), (3, vI v3), (4, vI v4), (6, vI v6)] [] (vjn P Q) := by
  unfold F_X8_steps_b228 at h
  refine vr_iload 2 dX8_steps_228 rfl ?_
  refine vr_ifne 245 dX8_steps_230 (by decide) (fun c230 => ?_) (fun c230 => ?_)
  · have h := h.1 c230
    refine vr_iload 3 dX8_steps_233 rfl ?_
    refine vr_iconst 4 dX8_steps_235 (by decide) ?_
    refine vr_icmpeq 245 dX8_steps_236 (by decide) (fun c236 => ?_) (fun c236 => ?_)
    · have h := h.1 c236
      refine vr_iload 2 dX8_steps_245 rfl ?_
      exact vr_iret rfl ⟨_, _, rfl, rfl, h⟩ dX8_steps_247
    · have h := h.2 c236
      refine vr_aload_n 1 0 dX8_steps_239 rfl rfl ?_
      refine vr_iconst 4 dX8_steps_240 (by decide) ?_
      refine vr_iload_n 3 1 dX8_steps_241 rfl rfl ?_
      refine vr_iconst 1 dX8_steps_242 (by decide) ?_
      refine vr_iadd dX8_steps_243 ?_
      have hi := h.1
      have h := h.2
      obtain ⟨Q244, eQ244⟩ : ∃ y : VP, y = vup Q k1 0 (ix ((4 : Int32))) (v3 + 1) := ⟨_, rfl⟩
      have h := h Q244 eQ244
      refine vr_iastQ (vlI k1) hk1 rfl hi eQ244 dX8_steps_244 ?_
      refine vr_iload 2 dX8_steps_245 rfl ?_
      exact vr_iret rfl ⟨_, _, rfl, rfl, h⟩ dX8_steps_247
  · have h := h.2 c230
    refine vr_iload 2 dX8_steps_245 rfl ?_
    exact vr_iret rfl ⟨_, _, rfl, rfl, h⟩ dX8_steps_247
def F_X8_steps_b216 (k1 : Nat) (Q : VP) (post : Int32 → VP → Prop)  (v2 : Int32) (v3 : Int32) (v6 : Int32) (v7 : Int32) : Prop :=
  F_X8_moves k1 v2 v7 v6 Q (fun r223 Q223 => F_X8_steps_b228 k1 Q223 post  v3 r223 v6)
set_option maxRecDepth 4000 in
theorem s_X8_steps_b216 {l : Launch} {g : vG} {k1 : Nat} {P Q : VP} {post : Int32 → VP → Prop}  {v2 : Int32} {v3 : Int32} {v6 : Int32} {v7 : Int32}  (hk1 : vQA k1 0)  (h : F_X8_steps_b216 k1 Q post  v2 v3 v6 v7) : VM l g RX8 cX8_steps 9 (some .int) 5 (vmI P post) 216 [(0, vR 22 0), (1, vR k1 0), (2, vI v2), (3, vI v3), (6, vI v6), (7, vI v7)] [] (vjn P Q) := by
  unfold F_X8_steps_b216 at h
  refine vr_aload_n 0 0 dX8_steps_216 rfl rfl ?_
  refine vr_aload_n 1 1 dX8_steps_217 rfl rfl ?_
  refine vr_iload_n 2 2 dX8_steps_218 rfl rfl ?_
  refine vr_iload 5 dX8_steps_219 rfl ?_
  refine vr_iload 4 dX8_steps_221 rfl ?_
  refine vr_callV RX8 (s_X8_moves hk1 h) rfl (by decide) rfl rfl rfl ml_8_274 rfl yh_X8_moves rfl ⟨Nat.le_of_ble_eq_true rfl, Nat.le_of_ble_eq_true rfl⟩ (Nat.le_of_ble_eq_true rfl) ⟨Nat.zero_le _, Nat.zero_le _⟩ dX8_steps_223 (kmi fun r223 Q223 h => ?_)
  refine vr_istore [(4, vI r223), (0, vR 22 0), (1, vR k1 0), (2, vI v2), (3, vI v3), (6, vI v6), (7, vI v7)] dX8_steps_226 (by decide) rfl ?_
  refine vr_sub [2, 4, 0, 5] [(1, vR k1 0), (3, vI v3), (4, vI r223), (6, vI v6)] rfl ?_
  exact s_X8_steps_b228 hk1  h
def F_X8_steps_b172 (k1 : Nat) (Q : VP) (post : Int32 → VP → Prop)  (v3 : Int32) (v6 : Int32) (v7 : Int32) : Prop :=
  (v6 = 8 → F_X8_argument k1 v7 ((1 : Int32)) Q (fun r188 Q188 => F_X8_steps_b228 k1 Q188 post  v3 r188 v6)) ∧ (¬ v6 = 8 → F_X8_argument k1 v7 ((0 : Int32)) Q (fun r188 Q188 => F_X8_steps_b228 k1 Q188 post  v3 r188 v6))
set_option maxRecDepth 4000 in
theorem s_X8_steps_b172 {l : Launch} {g : vG} {k1 : Nat} {P Q : VP} {post : Int32 → VP → Prop}  {v3 : Int32} {v6 : Int32} {v7 : Int32}  (hk1 : vQA k1 0)  (h : F_X8_steps_b172 k1 Q post  v3 v6 v7) : VM l g RX8 cX8_steps 9 (some .int) 5 (vmI P post) 172 [(0, vR 22 0), (1, vR k1 0), (3, vI v3), (6, vI v6), (7, vI v7)] [] (vjn P Q) := by
  unfold F_X8_steps_b172 at h
  refine vr_aload_n 0 0 dX8_steps_172 rfl rfl ?_
  refine vr_aload_n 1 1 dX8_steps_173 rfl rfl ?_
  refine vr_iload 4 dX8_steps_174 rfl ?_
  refine vr_iload 3 dX8_steps_176 rfl ?_
  refine vr_bipush 8 dX8_steps_178 (by decide) ?_
  refine vr_icmpne 187 dX8_steps_180 (by decide) (fun c180 => ?_) (fun c180 => ?_)
  · have h := h.1 c180
    refine vr_iconst 1 dX8_steps_183 (by decide) ?_
    refine vr_goto 188 dX8_steps_184 (by decide) ?_
    refine vr_callV RX8 (s_X8_argument hk1 h) rfl (by decide) rfl rfl rfl ml_8_270 rfl yh_X8_argument rfl ⟨Nat.le_of_ble_eq_true rfl, Nat.le_of_ble_eq_true rfl⟩ (Nat.le_of_ble_eq_true rfl) ⟨Nat.zero_le _, Nat.zero_le _⟩ dX8_steps_188 (kmi fun r188 Q188 h => ?_)
    refine vr_istore [(4, vI r188), (0, vR 22 0), (1, vR k1 0), (3, vI v3), (6, vI v6), (7, vI v7)] dX8_steps_191 (by decide) rfl ?_
    refine vr_goto 228 dX8_steps_193 (by decide) ?_
    refine vr_sub [2, 3, 0, 4] [(1, vR k1 0), (3, vI v3), (4, vI r188), (6, vI v6)] rfl ?_
    exact s_X8_steps_b228 hk1  h
  · have h := h.2 c180
    refine vr_iconst 0 dX8_steps_187 (by decide) ?_
    refine vr_callV RX8 (s_X8_argument hk1 h) rfl (by decide) rfl rfl rfl ml_8_270 rfl yh_X8_argument rfl ⟨Nat.le_of_ble_eq_true rfl, Nat.le_of_ble_eq_true rfl⟩ (Nat.le_of_ble_eq_true rfl) ⟨Nat.zero_le _, Nat.zero_le _⟩ dX8_steps_188 (kmi fun r188 Q188 h => ?_)
    refine vr_istore [(4, vI r188), (0, vR 22 0), (1, vR k1 0), (3, vI v3), (6, vI v6), (7, vI v7)] dX8_steps_191 (by decide) rfl ?_
    refine vr_goto 228 dX8_steps_193 (by decide) ?_
    refine vr_sub [2, 3, 0, 4] [(1, vR k1 0), (3, vI v3), (4, vI r188), (6, vI v6)] rfl ?_
    exact s_X8_steps_b228 hk1  h
def F_X8_steps (k1 : Nat) (Q : VP) (post : Int32 → VP → Prop) : Prop :=
  (0 ≤ (3 : Int32) ∧ (3 : Int32) < vlI k1) ∧ ((0 ≤ (4 : Int32) ∧ (4 : Int32) < vlI k1) ∧ (F_X8_there k1 (Q k1 0 (ix ((3 : Int32)))) (Q k1 0 (ix ((4 : Int32)))) Q (fun r11 => (r11 = 0 → (0 ≤ (5 : Int32) ∧ (5 : Int32) < vlI k1) ∧ (F_X8_mayGo k1 (Q k1 0 (ix ((3 : Int32)))) (Q k1 0 (ix ((5 : Int32)))) Q (fun r29 => (r29 = 0 → post (((-22) : Int32)) Q) ∧ (¬ r29 = 0 → F_X8_told k1 (Q k1 0 (ix ((3 : Int32)))) (Q k1 0 (ix ((4 : Int32)))) ((0 : Int32)) Q (fun r42 => (r42 = 6 → F_X8_told k1 (Q k1 0 (ix ((3 : Int32)))) (Q k1 0 (ix ((4 : Int32)))) ((1 : Int32)) Q (fun r71 => F_X8_told k1 (Q k1 0 (ix ((3 : Int32)))) (Q k1 0 (ix ((4 : Int32)))) ((2 : Int32)) Q (fun r80 => F_X8_told k1 (Q k1 0 (ix ((3 : Int32)))) (Q k1 0 (ix ((4 : Int32)))) ((3 : Int32)) Q (fun r89 => (r71 = 0 → post ((1 : Int32)) Q) ∧ (¬ r71 = 0 → (r71 = 1 → F_X8_steps_b216 k1 Q post  (Q k1 0 (ix ((3 : Int32)))) (Q k1 0 (ix ((4 : Int32)))) r71 r80) ∧ (¬ r71 = 1 → (r71 = 2 → F_X8_steps_b216 k1 Q post  (Q k1 0 (ix ((3 : Int32)))) (Q k1 0 (ix ((4 : Int32)))) r71 r80) ∧ (¬ r71 = 2 → (r71 = 3 → F_X8_steps_b216 k1 Q post  (Q k1 0 (ix ((3 : Int32)))) (Q k1 0 (ix ((4 : Int32)))) r71 r80) ∧ (¬ r71 = 3 → (r71 = 4 → F_X8_steps_b216 k1 Q post  (Q k1 0 (ix ((3 : Int32)))) (Q k1 0 (ix ((4 : Int32)))) r71 r80) ∧ (¬ r71 = 4 → (r71 = 5 → F_X8_calls k1 (Q k1 0 (ix ((3 : Int32)))) (Q k1 0 (ix ((4 : Int32)))) r80 r89 Q (fun r162 Q162 => post r162 Q162)) ∧ (¬ r71 = 5 → (r71 = 6 → F_X8_backs k1 Q (fun r168 Q168 => post r168 Q168)) ∧ (¬ r71 = 6 → (r71 = 7 → F_X8_steps_b172 k1 Q post  (Q k1 0 (ix ((4 : Int32)))) r71 r80) ∧ (¬ r71 = 7 → (r71 = 8 → F_X8_steps_b172 k1 Q post  (Q k1 0 (ix ((4 : Int32)))) r71 r80) ∧ (¬ r71 = 8 → (r71 = 9 → (0 ≤ (6 : Int32) ∧ (6 : Int32) < vlI k1) ∧ ((Q k1 0 (ix ((6 : Int32))) = 0 → (0 ≤ (4 : Int32) ∧ (4 : Int32) < vlI k1) ∧ (∀ Q213 : VP, Q213 = vup Q k1 0 (ix ((4 : Int32))) r80 → (post ((0 : Int32)) Q213))) ∧ (¬ Q k1 0 (ix ((6 : Int32))) = 0 → (0 ≤ (4 : Int32) ∧ (4 : Int32) < vlI k1) ∧ (∀ Q213 : VP, Q213 = vup Q k1 0 (ix ((4 : Int32))) ((Q k1 0 (ix ((4 : Int32)))) + 1) → (post ((0 : Int32)) Q213))))) ∧ (¬ r71 = 9 → F_X8_steps_b216 k1 Q post  (Q k1 0 (ix ((3 : Int32)))) (Q k1 0 (ix ((4 : Int32)))) r71 r80)))))))))))))) ∧ (¬ r42 = 6 → (r42 = 0 → post (((-23) : Int32)) Q) ∧ (¬ r42 = 0 → post (((-24) : Int32)) Q))))))) ∧ (¬ r11 = 0 → post r11 Q))))
set_option maxRecDepth 4000 in
theorem s_X8_steps {l : Launch} {g : vG} {k1 : Nat} {P Q : VP} {post : Int32 → VP → Prop} (hk1 : vQA k1 0) (h : F_X8_steps k1 Q post) : VC l g yX8_steps cX8_steps 9 (some .int) 5 [vR 22 0, vR k1 0] (vjn P Q) (vmI P post) := by
  refine VC.of (by decide +kernel) (Nat.le_of_ble_eq_true rfl) (show VM l g RX8 cX8_steps 9 (some .int) 5 (vmI P post) 0 [(0, vR 22 0), (1, vR k1 0)] [] (vjn P Q) from ?_)
  unfold F_X8_steps at h
  refine vr_aload_n 1 1 dX8_steps_0 rfl rfl ?_
  refine vr_iconst 3 dX8_steps_1 (by decide) ?_
  have hi := h.1
  have h := h.2
  refine vr_ialdQ (vlI k1) hk1 rfl hi dX8_steps_2 ?_
  refine vr_istore_n 2 [(2, vI (Q k1 0 (ix ((3 : Int32))))), (0, vR 22 0), (1, vR k1 0)] dX8_steps_3 rfl (by decide) rfl ?_
  refine vr_aload_n 1 2 dX8_steps_4 rfl rfl ?_
  refine vr_iconst 4 dX8_steps_5 (by decide) ?_
  have hi := h.1
  have h := h.2
  refine vr_ialdQ (vlI k1) hk1 rfl hi dX8_steps_6 ?_
  refine vr_istore_n 3 [(3, vI (Q k1 0 (ix ((4 : Int32))))), (2, vI (Q k1 0 (ix ((3 : Int32))))), (0, vR 22 0), (1, vR k1 0)] dX8_steps_7 rfl (by decide) rfl ?_
  refine vr_aload_n 1 3 dX8_steps_8 rfl rfl ?_
  refine vr_iload_n 2 1 dX8_steps_9 rfl rfl ?_
  refine vr_iload_n 3 0 dX8_steps_10 rfl rfl ?_
  refine vr_callS RX8 (s_X8_there hk1 h) rfl rfl ml_8_226 rfl yh_X8_there rfl ⟨Nat.le_of_ble_eq_true rfl, Nat.le_of_ble_eq_true rfl⟩ (Nat.le_of_ble_eq_true rfl) ⟨Nat.zero_le _, Nat.zero_le _⟩ dX8_steps_11 (ki fun r11 h => ?_)
  refine vr_istore [(4, vI r11), (3, vI (Q k1 0 (ix ((4 : Int32))))), (2, vI (Q k1 0 (ix ((3 : Int32))))), (0, vR 22 0), (1, vR k1 0)] dX8_steps_14 (by decide) rfl ?_
  refine vr_iload 0 dX8_steps_16 rfl ?_
  refine vr_ifeq 24 dX8_steps_18 (by decide) (fun c18 => ?_) (fun c18 => ?_)
  · have h := h.1 c18
    refine vr_aload_n 1 4 dX8_steps_24 rfl rfl ?_
    refine vr_iload_n 2 2 dX8_steps_25 rfl rfl ?_
    refine vr_aload_n 1 4 dX8_steps_26 rfl rfl ?_
    refine vr_iconst 5 dX8_steps_27 (by decide) ?_
    have hi := h.1
    have h := h.2
    refine vr_ialdQ (vlI k1) hk1 rfl hi dX8_steps_28 ?_
    refine vr_callS RX8 (s_X8_mayGo hk1 h) rfl rfl ml_8_259 rfl yh_X8_mayGo rfl ⟨Nat.le_of_ble_eq_true rfl, Nat.le_of_ble_eq_true rfl⟩ (Nat.le_of_ble_eq_true rfl) ⟨Nat.zero_le _, Nat.zero_le _⟩ dX8_steps_29 (ki fun r29 h => ?_)
    refine vr_ifne 38 dX8_steps_32 (by decide) (fun c32 => ?_) (fun c32 => ?_)
    · have h := h.1 c32
      refine vr_bipush (-22) dX8_steps_35 (by decide) ?_
      exact vr_iret rfl ⟨_, _, rfl, rfl, h⟩ dX8_steps_37
    · have h := h.2 c32
      refine vr_aload_n 1 4 dX8_steps_38 rfl rfl ?_
      refine vr_iload_n 2 2 dX8_steps_39 rfl rfl ?_
      refine vr_iload_n 3 1 dX8_steps_40 rfl rfl ?_
      refine vr_iconst 0 dX8_steps_41 (by decide) ?_
      refine vr_callS RX8 (s_X8_told hk1 h) rfl rfl ml_8_136 rfl yh_X8_told rfl ⟨Nat.le_of_ble_eq_true rfl, Nat.le_of_ble_eq_true rfl⟩ (Nat.le_of_ble_eq_true rfl) ⟨Nat.zero_le _, Nat.zero_le _⟩ dX8_steps_42 (ki fun r42 h => ?_)
      refine vr_istore [(5, vI r42), (4, vI r11), (3, vI (Q k1 0 (ix ((4 : Int32))))), (2, vI (Q k1 0 (ix ((3 : Int32))))), (0, vR 22 0), (1, vR k1 0)] dX8_steps_45 (by decide) rfl ?_
      refine vr_iload 0 dX8_steps_47 rfl ?_
      refine vr_bipush 6 dX8_steps_49 (by decide) ?_
      refine vr_icmpeq 67 dX8_steps_51 (by decide) (fun c51 => ?_) (fun c51 => ?_)
      · have h := h.1 c51
        refine vr_aload_n 1 5 dX8_steps_67 rfl rfl ?_
        refine vr_iload_n 2 3 dX8_steps_68 rfl rfl ?_
        refine vr_iload_n 3 2 dX8_steps_69 rfl rfl ?_
        refine vr_iconst 1 dX8_steps_70 (by decide) ?_
        refine vr_callS RX8 (s_X8_told hk1 h) rfl rfl ml_8_136 rfl yh_X8_told rfl ⟨Nat.le_of_ble_eq_true rfl, Nat.le_of_ble_eq_true rfl⟩ (Nat.le_of_ble_eq_true rfl) ⟨Nat.zero_le _, Nat.zero_le _⟩ dX8_steps_71 (ki fun r71 h => ?_)
        refine vr_istore [(6, vI r71), (5, vI r42), (4, vI r11), (3, vI (Q k1 0 (ix ((4 : Int32))))), (2, vI (Q k1 0 (ix ((3 : Int32))))), (0, vR 22 0), (1, vR k1 0)] dX8_steps_74 (by decide) rfl ?_
        refine vr_aload_n 1 6 dX8_steps_76 rfl rfl ?_
        refine vr_iload_n 2 4 dX8_steps_77 rfl rfl ?_
        refine vr_iload_n 3 3 dX8_steps_78 rfl rfl ?_
        refine vr_iconst 2 dX8_steps_79 (by decide) ?_
        refine vr_callS RX8 (s_X8_told hk1 h) rfl rfl ml_8_136 rfl yh_X8_told rfl ⟨Nat.le_of_ble_eq_true rfl, Nat.le_of_ble_eq_true rfl⟩ (Nat.le_of_ble_eq_true rfl) ⟨Nat.zero_le _, Nat.zero_le _⟩ dX8_steps_80 (ki fun r80 h => ?_)
        refine vr_istore [(7, vI r80), (6, vI r71), (5, vI r42), (4, vI r11), (3, vI (Q k1 0 (ix ((4 : Int32))))), (2, vI (Q k1 0 (ix ((3 : Int32))))), (0, vR 22 0), (1, vR k1 0)] dX8_steps_83 (by decide) rfl ?_
        refine vr_aload_n 1 7 dX8_steps_85 rfl rfl ?_
        refine vr_iload_n 2 5 dX8_steps_86 rfl rfl ?_
        refine vr_iload_n 3 4 dX8_steps_87 rfl rfl ?_
        refine vr_iconst 3 dX8_steps_88 (by decide) ?_
        refine vr_callS RX8 (s_X8_told hk1 h) rfl rfl ml_8_136 rfl yh_X8_told rfl ⟨Nat.le_of_ble_eq_true rfl, Nat.le_of_ble_eq_true rfl⟩ (Nat.le_of_ble_eq_true rfl) ⟨Nat.zero_le _, Nat.zero_le _⟩ dX8_steps_89 (ki fun r89 h => ?_)
        refine vr_istore [(8, vI r89), (7, vI r80), (6, vI r71), (5, vI r42), (4, vI r11), (3, vI (Q k1 0 (ix ((4 : Int32))))), (2, vI (Q k1 0 (ix ((3 : Int32))))), (0, vR 22 0), (1, vR k1 0)] dX8_steps_92 (by decide) rfl ?_
        refine vr_iload 2 dX8_steps_94 rfl ?_
        by_cases c96_0 : r71 = 0
        · have h := h.1 c96_0
          refine vr_tswIn 0 152 dX8_steps_96 c96_0 (by decide) rfl (by decide) ?_
          refine vr_iconst 1 dX8_steps_152 (by decide) ?_
          exact vr_iret rfl ⟨_, _, rfl, rfl, h⟩ dX8_steps_153
        · have h := h.2 c96_0
          by_cases c96_1 : r71 = 1
          · have h := h.1 c96_1
            refine vr_tswIn 1 216 dX8_steps_96 c96_1 (by decide) rfl (by decide) ?_
            refine vr_sub [7, 8, 6, 5, 2, 1] [(0, vR 22 0), (1, vR k1 0), (2, vI (Q k1 0 (ix ((3 : Int32))))), (3, vI (Q k1 0 (ix ((4 : Int32))))), (6, vI r71), (7, vI r80)] rfl ?_
            exact s_X8_steps_b216 hk1  h
          · have h := h.2 c96_1
            by_cases c96_2 : r71 = 2
            · have h := h.1 c96_2
              refine vr_tswIn 2 216 dX8_steps_96 c96_2 (by decide) rfl (by decide) ?_
              refine vr_sub [7, 8, 6, 5, 2, 1] [(0, vR 22 0), (1, vR k1 0), (2, vI (Q k1 0 (ix ((3 : Int32))))), (3, vI (Q k1 0 (ix ((4 : Int32))))), (6, vI r71), (7, vI r80)] rfl ?_
              exact s_X8_steps_b216 hk1  h
            · have h := h.2 c96_2
              by_cases c96_3 : r71 = 3
              · have h := h.1 c96_3
                refine vr_tswIn 3 216 dX8_steps_96 c96_3 (by decide) rfl (by decide) ?_
                refine vr_sub [7, 8, 6, 5, 2, 1] [(0, vR 22 0), (1, vR k1 0), (2, vI (Q k1 0 (ix ((3 : Int32))))), (3, vI (Q k1 0 (ix ((4 : Int32))))), (6, vI r71), (7, vI r80)] rfl ?_
                exact s_X8_steps_b216 hk1  h
              · have h := h.2 c96_3
                by_cases c96_4 : r71 = 4
                · have h := h.1 c96_4
                  refine vr_tswIn 4 216 dX8_steps_96 c96_4 (by decide) rfl (by decide) ?_
                  refine vr_sub [7, 8, 6, 5, 2, 1] [(0, vR 22 0), (1, vR k1 0), (2, vI (Q k1 0 (ix ((3 : Int32))))), (3, vI (Q k1 0 (ix ((4 : Int32))))), (6, vI r71), (7, vI r80)] rfl ?_
                  exact s_X8_steps_b216 hk1  h
                · have h := h.2 c96_4
                  by_cases c96_5 : r71 = 5
                  · have h := h.1 c96_5
                    refine vr_tswIn 5 154 dX8_steps_96 c96_5 (by decide) rfl (by decide) ?_
                    refine vr_aload_n 0 7 dX8_steps_154 rfl rfl ?_
                    refine vr_aload_n 1 8 dX8_steps_155 rfl rfl ?_
                    refine vr_iload_n 2 6 dX8_steps_156 rfl rfl ?_
                    refine vr_iload_n 3 5 dX8_steps_157 rfl rfl ?_
                    refine vr_iload 1 dX8_steps_158 rfl ?_
                    refine vr_iload 0 dX8_steps_160 rfl ?_
                    refine vr_callV RX8 (s_X8_calls hk1 h) rfl (by decide) rfl rfl rfl ml_8_262 rfl yh_X8_calls rfl ⟨Nat.le_of_ble_eq_true rfl, Nat.le_of_ble_eq_true rfl⟩ (Nat.le_of_ble_eq_true rfl) ⟨Nat.zero_le _, Nat.zero_le _⟩ dX8_steps_162 (kmi fun r162 Q162 h => ?_)
                    exact vr_iret rfl ⟨_, _, rfl, rfl, h⟩ dX8_steps_165
                  · have h := h.2 c96_5
                    by_cases c96_6 : r71 = 6
                    · have h := h.1 c96_6
                      refine vr_tswIn 6 166 dX8_steps_96 c96_6 (by decide) rfl (by decide) ?_
                      refine vr_aload_n 0 7 dX8_steps_166 rfl rfl ?_
                      refine vr_aload_n 1 8 dX8_steps_167 rfl rfl ?_
                      refine vr_callV RX8 (s_X8_backs hk1 h) rfl (by decide) rfl rfl rfl ml_8_266 rfl yh_X8_backs rfl ⟨Nat.le_of_ble_eq_true rfl, Nat.le_of_ble_eq_true rfl⟩ (Nat.le_of_ble_eq_true rfl) ⟨Nat.zero_le _, Nat.zero_le _⟩ dX8_steps_168 (kmi fun r168 Q168 h => ?_)
                      exact vr_iret rfl ⟨_, _, rfl, rfl, h⟩ dX8_steps_171
                    · have h := h.2 c96_6
                      by_cases c96_7 : r71 = 7
                      · have h := h.1 c96_7
                        refine vr_tswIn 7 172 dX8_steps_96 c96_7 (by decide) rfl (by decide) ?_
                        refine vr_sub [7, 8, 5, 2, 1] [(0, vR 22 0), (1, vR k1 0), (3, vI (Q k1 0 (ix ((4 : Int32))))), (6, vI r71), (7, vI r80)] rfl ?_
                        exact s_X8_steps_b172 hk1  h
                      · have h := h.2 c96_7
                        by_cases c96_8 : r71 = 8
                        · have h := h.1 c96_8
                          refine vr_tswIn 8 172 dX8_steps_96 c96_8 (by decide) rfl (by decide) ?_
                          refine vr_sub [7, 8, 5, 2, 1] [(0, vR 22 0), (1, vR k1 0), (3, vI (Q k1 0 (ix ((4 : Int32))))), (6, vI r71), (7, vI r80)] rfl ?_
                          exact s_X8_steps_b172 hk1  h
                        · have h := h.2 c96_8
                          by_cases c96_9 : r71 = 9
                          · have h := h.1 c96_9
                            refine vr_tswIn 9 196 dX8_steps_96 c96_9 (by decide) rfl (by decide) ?_
                            refine vr_aload_n 1 8 dX8_steps_196 rfl rfl ?_
                            refine vr_iconst 4 dX8_steps_197 (by decide) ?_
                            refine vr_aload_n 1 8 dX8_steps_198 rfl rfl ?_
                            refine vr_bipush 6 dX8_steps_199 (by decide) ?_
                            have hi := h.1
                            have h := h.2
                            refine vr_ialdQ (vlI k1) hk1 rfl hi dX8_steps_201 ?_
                            refine vr_ifne 210 dX8_steps_202 (by decide) (fun c202 => ?_) (fun c202 => ?_)
                            · have h := h.1 c202
                              refine vr_iload 1 dX8_steps_205 rfl ?_
                              refine vr_goto 213 dX8_steps_207 (by decide) ?_
                              have hi := h.1
                              have h := h.2
                              obtain ⟨Q213, eQ213⟩ : ∃ y : VP, y = vup Q k1 0 (ix ((4 : Int32))) r80 := ⟨_, rfl⟩
                              have h := h Q213 eQ213
                              refine vr_iastQ (vlI k1) hk1 rfl hi eQ213 dX8_steps_213 ?_
                              refine vr_iconst 0 dX8_steps_214 (by decide) ?_
                              exact vr_iret rfl ⟨_, _, rfl, rfl, h⟩ dX8_steps_215
                            · have h := h.2 c202
                              refine vr_iload_n 3 5 dX8_steps_210 rfl rfl ?_
                              refine vr_iconst 1 dX8_steps_211 (by decide) ?_
                              refine vr_iadd dX8_steps_212 ?_
                              have hi := h.1
                              have h := h.2
                              obtain ⟨Q213, eQ213⟩ : ∃ y : VP, y = vup Q k1 0 (ix ((4 : Int32))) ((Q k1 0 (ix ((4 : Int32)))) + 1) := ⟨_, rfl⟩
                              have h := h Q213 eQ213
                              refine vr_iastQ (vlI k1) hk1 rfl hi eQ213 dX8_steps_213 ?_
                              refine vr_iconst 0 dX8_steps_214 (by decide) ?_
                              exact vr_iret rfl ⟨_, _, rfl, rfl, h⟩ dX8_steps_215
                          · have h := h.2 c96_9
                            refine vr_tswOut 216 dX8_steps_96 (by have q0 := lv_neT c96_0 (a := 0) (by decide); have q1 := lv_neT c96_1 (a := 1) (by decide); have q2 := lv_neT c96_2 (a := 2) (by decide); have q3 := lv_neT c96_3 (a := 3) (by decide); have q4 := lv_neT c96_4 (a := 4) (by decide); have q5 := lv_neT c96_5 (a := 5) (by decide); have q6 := lv_neT c96_6 (a := 6) (by decide); have q7 := lv_neT c96_7 (a := 7) (by decide); have q8 := lv_neT c96_8 (a := 8) (by decide); have q9 := lv_neT c96_9 (a := 9) (by decide); omega) (by decide) ?_
                            refine vr_sub [7, 8, 6, 5, 2, 1] [(0, vR 22 0), (1, vR k1 0), (2, vI (Q k1 0 (ix ((3 : Int32))))), (3, vI (Q k1 0 (ix ((4 : Int32))))), (6, vI r71), (7, vI r80)] rfl ?_
                            exact s_X8_steps_b216 hk1  h
      · have h := h.2 c51
        refine vr_iload 0 dX8_steps_54 rfl ?_
        refine vr_ifne 64 dX8_steps_56 (by decide) (fun c56 => ?_) (fun c56 => ?_)
        · have h := h.1 c56
          refine vr_bipush (-23) dX8_steps_59 (by decide) ?_
          refine vr_goto 66 dX8_steps_61 (by decide) ?_
          exact vr_iret rfl ⟨_, _, rfl, rfl, h⟩ dX8_steps_66
        · have h := h.2 c56
          refine vr_bipush (-24) dX8_steps_64 (by decide) ?_
          exact vr_iret rfl ⟨_, _, rfl, rfl, h⟩ dX8_steps_66
  · have h := h.2 c18
    refine vr_iload 0 dX8_steps_21 rfl ?_
    exact vr_iret rfl ⟨_, _, rfl, rfl, h⟩ dX8_steps_23
theorem dX8_runs_0 : decode cX8_runs 0 = .ok (.aload_n 0, 1) := by decide +kernel
theorem dX8_runs_1 : decode cX8_runs 1 = .ok (.iconst 0, 1) := by decide +kernel
theorem dX8_runs_2 : decode cX8_runs 2 = .ok (.putfield 277, 3) := by decide +kernel
theorem dX8_runs_5 : decode cX8_runs 5 = .ok (.iconst 0, 1) := by decide +kernel
theorem dX8_runs_6 : decode cX8_runs 6 = .ok (.istore_n 3, 1) := by decide +kernel
theorem dX8_runs_7 : decode cX8_runs 7 = .ok (.iload_n 3, 1) := by decide +kernel
theorem dX8_runs_8 : decode cX8_runs 8 = .ok (.iload_n 2, 1) := by decide +kernel
theorem dX8_runs_9 : decode cX8_runs 9 = .ok (.if_icmp .ge 41, 3) := by decide +kernel
theorem dX8_runs_12 : decode cX8_runs 12 = .ok (.aload_n 0, 1) := by decide +kernel
theorem dX8_runs_13 : decode cX8_runs 13 = .ok (.aload_n 1, 1) := by decide +kernel
theorem dX8_runs_14 : decode cX8_runs 14 = .ok (.invokevirtual 280, 3) := by decide +kernel
theorem dX8_runs_17 : decode cX8_runs 17 = .ok (.istore 4, 2) := by decide +kernel
theorem dX8_runs_19 : decode cX8_runs 19 = .ok (.iload 4, 2) := by decide +kernel
theorem dX8_runs_21 : decode cX8_runs 21 = .ok (.ifCond .eq 23, 3) := by decide +kernel
theorem dX8_runs_24 : decode cX8_runs 24 = .ok (.aload_n 0, 1) := by decide +kernel
theorem dX8_runs_25 : decode cX8_runs 25 = .ok (.iload 4, 2) := by decide +kernel
theorem dX8_runs_27 : decode cX8_runs 27 = .ok (.putfield 277, 3) := by decide +kernel
theorem dX8_runs_30 : decode cX8_runs 30 = .ok (.iload 4, 2) := by decide +kernel
theorem dX8_runs_32 : decode cX8_runs 32 = .ok (.iconst 1, 1) := by decide +kernel
theorem dX8_runs_33 : decode cX8_runs 33 = .ok (.if_icmp .ne 9, 3) := by decide +kernel
theorem dX8_runs_36 : decode cX8_runs 36 = .ok (.iload_n 3, 1) := by decide +kernel
theorem dX8_runs_37 : decode cX8_runs 37 = .ok (.iconst 1, 1) := by decide +kernel
theorem dX8_runs_38 : decode cX8_runs 38 = .ok (.iadd, 1) := by decide +kernel
theorem dX8_runs_39 : decode cX8_runs 39 = .ok (.goto 4, 3) := by decide +kernel
theorem dX8_runs_42 : decode cX8_runs 42 = .ok (.iload_n 3, 1) := by decide +kernel
theorem dX8_runs_43 : decode cX8_runs 43 = .ok (.ireturn, 1) := by decide +kernel
theorem dX8_runs_44 : decode cX8_runs 44 = .ok (.iinc 3 1, 3) := by decide +kernel
theorem dX8_runs_47 : decode cX8_runs 47 = .ok (.goto (-40), 3) := by decide +kernel
theorem dX8_runs_50 : decode cX8_runs 50 = .ok (.iload_n 2, 1) := by decide +kernel
theorem dX8_runs_51 : decode cX8_runs 51 = .ok (.ireturn, 1) := by decide +kernel
def F_X8_runs_l7 (k1 : Nat) (x2 : Int32)  (post : Int32 → VP → Prop)   (X : Int32 → VP → Prop) (v3 : Int32) (Q : VP) : Prop :=
  (v3 < x2 → F_X8_steps k1 Q (fun r14 Q14 => (r14 = 0 → X (v3 + 1) Q14) ∧ (¬ r14 = 0 → ∀ Q27 : VP, Q27 = vup Q14 22 0 17 r14 → ((r14 = 1 → post (v3 + 1) Q27) ∧ (¬ r14 = 1 → post v3 Q27))))) ∧ (¬ v3 < x2 → post x2 Q)
set_option maxRecDepth 4000 in
theorem s_X8_runs_l7 {l : Launch} {g : vG} {k1 : Nat} {x2 : Int32} {P : VP} {post : Int32 → VP → Prop}    {v3 : Int32} {Q : VP} (hk1 : vQA k1 0)  (h : vL2 (F_X8_runs_l7 k1 x2  post  ) v3 Q) : VM l g RX8 cX8_runs 5 (some .int) 6 (vmI P post) 7 [(0, vR 22 0), (1, vR k1 0), (2, vI x2), (3, vI v3)] [] (vjn P Q) := by
  refine vL2_s (T := fun v3 Q => VM l g RX8 cX8_runs 5 (some .int) 6 (vmI P post) 7 [(0, vR 22 0), (1, vR k1 0), (2, vI x2), (3, vI v3)] [] (vjn P Q)) ?_ h
  clear h
  intro X hX v3 Q h
  unfold F_X8_runs_l7 at h
  refine vr_iload_n 3 3 dX8_runs_7 rfl rfl ?_
  refine vr_iload_n 2 2 dX8_runs_8 rfl rfl ?_
  refine vr_icmpge 50 dX8_runs_9 (by decide) (fun c9 => ?_) (fun c9 => ?_)
  · have h := h.1 c9
    refine vr_aload_n 0 0 dX8_runs_12 rfl rfl ?_
    refine vr_aload_n 1 1 dX8_runs_13 rfl rfl ?_
    refine vr_callV RX8 (s_X8_steps hk1 h) rfl (by decide) rfl rfl rfl ml_8_280 rfl yh_X8_steps rfl ⟨Nat.le_of_ble_eq_true rfl, Nat.le_of_ble_eq_true rfl⟩ (Nat.le_of_ble_eq_true rfl) ⟨Nat.zero_le _, Nat.zero_le _⟩ dX8_runs_14 (kmi fun r14 Q14 h => ?_)
    refine vr_istore [(4, vI r14), (0, vR 22 0), (1, vR k1 0), (2, vI x2), (3, vI v3)] dX8_runs_17 (by decide) rfl ?_
    refine vr_iload 0 dX8_runs_19 rfl ?_
    refine vr_ifeq 44 dX8_runs_21 (by decide) (fun c21 => ?_) (fun c21 => ?_)
    · have h := h.1 c21
      refine vr_iinc (v3 + 1) 4 [(3, vI (v3 + 1)), (4, vI r14), (0, vR 22 0), (1, vR k1 0), (2, vI x2)] dX8_runs_44 rfl rfl (by decide) rfl ?_
      refine vr_goto 7 dX8_runs_47 (by decide) ?_
      refine vr_sub [2, 3, 4, 0] [(0, vR 22 0), (1, vR k1 0), (2, vI x2), (3, vI (v3 + 1))] rfl ?_
      exact hX _ _ h
    · have h := h.2 c21
      refine vr_aload_n 0 1 dX8_runs_24 rfl rfl ?_
      refine vr_iload 0 dX8_runs_25 rfl ?_
      obtain ⟨Q27, eQ27⟩ : ∃ y : VP, y = vup Q14 22 0 17 r14 := ⟨_, rfl⟩
      have h := h Q27 eQ27
      refine vp_22_17 RX8 rfl (by decide) fl_8_277 eQ27 dX8_runs_27 ?_
      refine vr_iload 0 dX8_runs_30 rfl ?_
      refine vr_iconst 1 dX8_runs_32 (by decide) ?_
      refine vr_icmpne 42 dX8_runs_33 (by decide) (fun c33 => ?_) (fun c33 => ?_)
      · have h := h.1 c33
        refine vr_iload_n 3 4 dX8_runs_36 rfl rfl ?_
        refine vr_iconst 1 dX8_runs_37 (by decide) ?_
        refine vr_iadd dX8_runs_38 ?_
        refine vr_goto 43 dX8_runs_39 (by decide) ?_
        exact vr_iret rfl ⟨_, _, rfl, rfl, h⟩ dX8_runs_43
      · have h := h.2 c33
        refine vr_iload_n 3 4 dX8_runs_42 rfl rfl ?_
        exact vr_iret rfl ⟨_, _, rfl, rfl, h⟩ dX8_runs_43
  · have h := h.2 c9
    refine vr_iload_n 2 2 dX8_runs_50 rfl rfl ?_
    exact vr_iret rfl ⟨_, _, rfl, rfl, h⟩ dX8_runs_51
def F_X8_runs (k1 : Nat) (x2 : Int32) (Q : VP) (post : Int32 → VP → Prop) : Prop :=
  ∀ Q2 : VP, Q2 = vup Q 22 0 17 0 → (vL2 (F_X8_runs_l7 k1 x2  post  ) ((0 : Int32)) Q2)
set_option maxRecDepth 4000 in
theorem s_X8_runs {l : Launch} {g : vG} {k1 : Nat} {x2 : Int32} {P Q : VP} {post : Int32 → VP → Prop} (hk1 : vQA k1 0) (h : F_X8_runs k1 x2 Q post) : VC l g yX8_runs cX8_runs 5 (some .int) 6 [vR 22 0, vR k1 0, vI x2] (vjn P Q) (vmI P post) := by
  refine VC.of (by decide +kernel) (Nat.le_of_ble_eq_true rfl) (show VM l g RX8 cX8_runs 5 (some .int) 6 (vmI P post) 0 [(0, vR 22 0), (1, vR k1 0), (2, vI x2)] [] (vjn P Q) from ?_)
  unfold F_X8_runs at h
  refine vr_aload_n 0 0 dX8_runs_0 rfl rfl ?_
  refine vr_iconst 0 dX8_runs_1 (by decide) ?_
  obtain ⟨Q2, eQ2⟩ : ∃ y : VP, y = vup Q 22 0 17 0 := ⟨_, rfl⟩
  have h := h Q2 eQ2
  refine vp_22_17 RX8 rfl (by decide) fl_8_277 eQ2 dX8_runs_2 ?_
  refine vr_iconst 0 dX8_runs_5 (by decide) ?_
  refine vr_istore_n 3 [(3, vI 0), (0, vR 22 0), (1, vR k1 0), (2, vI x2)] dX8_runs_6 rfl (by decide) rfl ?_
  refine vr_sub [1, 2, 3, 0] [(0, vR 22 0), (1, vR k1 0), (2, vI x2), (3, vI 0)] rfl ?_
  exact s_X8_runs_l7 hk1  h
theorem dX8_start_0 : decode cX8_start 0 = .ok (.iload_n 1, 1) := by decide +kernel
theorem dX8_start_1 : decode cX8_start 1 = .ok (.i2l, 1) := by decide +kernel
theorem dX8_start_2 : decode cX8_start 2 = .ok (.lconst 0, 1) := by decide +kernel
theorem dX8_start_3 : decode cX8_start 3 = .ok (.ldc2_w 58, 3) := by decide +kernel
theorem dX8_start_6 : decode cX8_start 6 = .ok (.invokestatic 54, 3) := by decide +kernel
theorem dX8_start_9 : decode cX8_start 9 = .ok (.ifCond .eq 27, 3) := by decide +kernel
theorem dX8_start_12 : decode cX8_start 12 = .ok (.iload_n 2, 1) := by decide +kernel
theorem dX8_start_13 : decode cX8_start 13 = .ok (.i2l, 1) := by decide +kernel
theorem dX8_start_14 : decode cX8_start 14 = .ok (.lconst 0, 1) := by decide +kernel
theorem dX8_start_15 : decode cX8_start 15 = .ok (.ldc2_w 130, 3) := by decide +kernel
theorem dX8_start_18 : decode cX8_start 18 = .ok (.invokestatic 54, 3) := by decide +kernel
theorem dX8_start_21 : decode cX8_start 21 = .ok (.ifCond .eq 15, 3) := by decide +kernel
theorem dX8_start_24 : decode cX8_start 24 = .ok (.iload_n 3, 1) := by decide +kernel
theorem dX8_start_25 : decode cX8_start 25 = .ok (.i2l, 1) := by decide +kernel
theorem dX8_start_26 : decode cX8_start 26 = .ok (.lconst 0, 1) := by decide +kernel
theorem dX8_start_27 : decode cX8_start 27 = .ok (.ldc2_w 103, 3) := by decide +kernel
theorem dX8_start_30 : decode cX8_start 30 = .ok (.invokestatic 54, 3) := by decide +kernel
theorem dX8_start_33 : decode cX8_start 33 = .ok (.ifCond .ne 5, 3) := by decide +kernel
theorem dX8_start_36 : decode cX8_start 36 = .ok (.iconst (-1), 1) := by decide +kernel
theorem dX8_start_37 : decode cX8_start 37 = .ok (.ireturn, 1) := by decide +kernel
theorem dX8_start_38 : decode cX8_start 38 = .ok (.aload_n 0, 1) := by decide +kernel
theorem dX8_start_39 : decode cX8_start 39 = .ok (.getfield 9, 3) := by decide +kernel
theorem dX8_start_42 : decode cX8_start 42 = .ok (.iconst 3, 1) := by decide +kernel
theorem dX8_start_43 : decode cX8_start 43 = .ok (.iload_n 1, 1) := by decide +kernel
theorem dX8_start_44 : decode cX8_start 44 = .ok (.iastore, 1) := by decide +kernel
theorem dX8_start_45 : decode cX8_start 45 = .ok (.aload_n 0, 1) := by decide +kernel
theorem dX8_start_46 : decode cX8_start 46 = .ok (.getfield 9, 3) := by decide +kernel
theorem dX8_start_49 : decode cX8_start 49 = .ok (.iconst 4, 1) := by decide +kernel
theorem dX8_start_50 : decode cX8_start 50 = .ok (.iload_n 2, 1) := by decide +kernel
theorem dX8_start_51 : decode cX8_start 51 = .ok (.iastore, 1) := by decide +kernel
theorem dX8_start_52 : decode cX8_start 52 = .ok (.aload_n 0, 1) := by decide +kernel
theorem dX8_start_53 : decode cX8_start 53 = .ok (.getfield 9, 3) := by decide +kernel
theorem dX8_start_56 : decode cX8_start 56 = .ok (.iconst 5, 1) := by decide +kernel
theorem dX8_start_57 : decode cX8_start 57 = .ok (.iload_n 3, 1) := by decide +kernel
theorem dX8_start_58 : decode cX8_start 58 = .ok (.iastore, 1) := by decide +kernel
theorem dX8_start_59 : decode cX8_start 59 = .ok (.aload_n 0, 1) := by decide +kernel
theorem dX8_start_60 : decode cX8_start 60 = .ok (.getfield 9, 3) := by decide +kernel
theorem dX8_start_63 : decode cX8_start 63 = .ok (.bipush 6, 2) := by decide +kernel
theorem dX8_start_65 : decode cX8_start 65 = .ok (.iconst 0, 1) := by decide +kernel
theorem dX8_start_66 : decode cX8_start 66 = .ok (.iastore, 1) := by decide +kernel
theorem dX8_start_67 : decode cX8_start 67 = .ok (.iconst 0, 1) := by decide +kernel
theorem dX8_start_68 : decode cX8_start 68 = .ok (.istore 4, 2) := by decide +kernel
theorem dX8_start_70 : decode cX8_start 70 = .ok (.iload 4, 2) := by decide +kernel
theorem dX8_start_72 : decode cX8_start 72 = .ok (.bipush 8, 2) := by decide +kernel
theorem dX8_start_74 : decode cX8_start 74 = .ok (.if_icmp .ge 21, 3) := by decide +kernel
theorem dX8_start_77 : decode cX8_start 77 = .ok (.aload_n 0, 1) := by decide +kernel
theorem dX8_start_78 : decode cX8_start 78 = .ok (.getfield 9, 3) := by decide +kernel
theorem dX8_start_81 : decode cX8_start 81 = .ok (.sipush 192, 3) := by decide +kernel
theorem dX8_start_84 : decode cX8_start 84 = .ok (.iload 4, 2) := by decide +kernel
theorem dX8_start_86 : decode cX8_start 86 = .ok (.iadd, 1) := by decide +kernel
theorem dX8_start_87 : decode cX8_start 87 = .ok (.iconst 0, 1) := by decide +kernel
theorem dX8_start_88 : decode cX8_start 88 = .ok (.iastore, 1) := by decide +kernel
theorem dX8_start_89 : decode cX8_start 89 = .ok (.iinc 4 1, 3) := by decide +kernel
theorem dX8_start_92 : decode cX8_start 92 = .ok (.goto (-22), 3) := by decide +kernel
theorem dX8_start_95 : decode cX8_start 95 = .ok (.iconst 1, 1) := by decide +kernel
theorem dX8_start_96 : decode cX8_start 96 = .ok (.ireturn, 1) := by decide +kernel
def F_X8_start_l70 (x1 : Int32) (x2 : Int32) (x3 : Int32)  (post : Int32 → VP → Prop)   (X : Int32 → VP → Prop) (v4 : Int32) (Q : VP) : Prop :=
  (v4 < 8 → (0 ≤ 192 + v4 ∧ 192 + v4 < 3464) ∧ (∀ Q88 : VP, Q88 = vup Q 23 0 (ix (192 + v4)) 0 → (X (v4 + 1) Q88))) ∧ (¬ v4 < 8 → post ((1 : Int32)) Q)
set_option maxRecDepth 4000 in
theorem s_X8_start_l70 {l : Launch} {g : vG} {x1 : Int32} {x2 : Int32} {x3 : Int32} {P : VP} {post : Int32 → VP → Prop}    {v4 : Int32} {Q : VP}   (h : vL2 (F_X8_start_l70 x1 x2 x3  post  ) v4 Q) : VM l g RX8 cX8_start 5 (some .int) 1 (vmI P post) 70 [(0, vR 22 0), (4, vI v4)] [] (vjn P Q) := by
  refine vL2_s (T := fun v4 Q => VM l g RX8 cX8_start 5 (some .int) 1 (vmI P post) 70 [(0, vR 22 0), (4, vI v4)] [] (vjn P Q)) ?_ h
  clear h
  intro X hX v4 Q h
  unfold F_X8_start_l70 at h
  refine vr_iload 1 dX8_start_70 rfl ?_
  refine vr_bipush 8 dX8_start_72 (by decide) ?_
  refine vr_icmpge 95 dX8_start_74 (by decide) (fun c74 => ?_) (fun c74 => ?_)
  · have h := h.1 c74
    refine vr_aload_n 0 0 dX8_start_77 rfl rfl ?_
    refine vg_22_0 RX8 rfl (by decide) fl_8_9 dX8_start_78 ?_
    refine vr_sipush 192 dX8_start_81 (by decide) ?_
    refine vr_iload 1 dX8_start_84 rfl ?_
    refine vr_iadd dX8_start_86 ?_
    refine vr_iconst 0 dX8_start_87 (by decide) ?_
    have hi := h.1
    have h := h.2
    obtain ⟨Q88, eQ88⟩ : ∃ y : VP, y = vup Q 23 0 (ix (192 + v4)) 0 := ⟨_, rfl⟩
    have h := h Q88 eQ88
    refine vr_iastQ 3464 ia_23 rfl hi eQ88 dX8_start_88 ?_
    refine vr_iinc (v4 + 1) 1 [(4, vI (v4 + 1)), (0, vR 22 0)] dX8_start_89 rfl rfl (by decide) rfl ?_
    refine vr_goto 70 dX8_start_92 (by decide) ?_
    refine vr_sub [1, 0] [(0, vR 22 0), (4, vI (v4 + 1))] rfl ?_
    exact hX _ _ h
  · have h := h.2 c74
    refine vr_iconst 1 dX8_start_95 (by decide) ?_
    exact vr_iret rfl ⟨_, _, rfl, rfl, h⟩ dX8_start_96
def F_X8_start (x1 : Int32) (x2 : Int32) (x3 : Int32) (Q : VP) (post : Int32 → VP → Prop) : Prop :=
  F_X8_in (Int32.toInt64 x1) 0 15 Q (fun r6 => (r6 = 0 → post (((-1) : Int32)) Q) ∧ (¬ r6 = 0 → F_X8_in (Int32.toInt64 x2) 0 23 Q (fun r18 => (r18 = 0 → post (((-1) : Int32)) Q) ∧ (¬ r18 = 0 → F_X8_in (Int32.toInt64 x3) 0 7 Q (fun r30 => (r30 = 0 → post (((-1) : Int32)) Q) ∧ (¬ r30 = 0 → (0 ≤ (3 : Int32) ∧ (3 : Int32) < 3464) ∧ (∀ Q44 : VP, Q44 = vup Q 23 0 (ix ((3 : Int32))) x1 → ((0 ≤ (4 : Int32) ∧ (4 : Int32) < 3464) ∧ (∀ Q51 : VP, Q51 = vup Q44 23 0 (ix ((4 : Int32))) x2 → ((0 ≤ (5 : Int32) ∧ (5 : Int32) < 3464) ∧ (∀ Q58 : VP, Q58 = vup Q51 23 0 (ix ((5 : Int32))) x3 → ((0 ≤ (6 : Int32) ∧ (6 : Int32) < 3464) ∧ (∀ Q66 : VP, Q66 = vup Q58 23 0 (ix ((6 : Int32))) 0 → (vL2 (F_X8_start_l70 x1 x2 x3  post  ) ((0 : Int32)) Q66))))))))))))))
set_option maxRecDepth 4000 in
theorem s_X8_start {l : Launch} {g : vG} {x1 : Int32} {x2 : Int32} {x3 : Int32} {P Q : VP} {post : Int32 → VP → Prop}  (h : F_X8_start x1 x2 x3 Q post) : VC l g yX8_start cX8_start 5 (some .int) 1 [vR 22 0, vI x1, vI x2, vI x3] (vjn P Q) (vmI P post) := by
  refine VC.of (by decide +kernel) (Nat.le_of_ble_eq_true rfl) (show VM l g RX8 cX8_start 5 (some .int) 1 (vmI P post) 0 [(0, vR 22 0), (1, vI x1), (2, vI x2), (3, vI x3)] [] (vjn P Q) from ?_)
  unfold F_X8_start at h
  refine vr_iload_n 1 1 dX8_start_0 rfl rfl ?_
  refine vr_i2l dX8_start_1 ?_
  refine vr_lconst 0 dX8_start_2 (by decide) ?_
  refine vr_ldc2 15 ct_8_58 dX8_start_3 ?_
  refine vr_callS RX8 (s_X8_in h) rfl rfl ml_8_54 rfl yh_X8_in rfl ⟨Nat.le_of_ble_eq_true rfl, Nat.le_of_ble_eq_true rfl⟩ (Nat.le_of_ble_eq_true rfl) ⟨Nat.zero_le _, Nat.zero_le _⟩ dX8_start_6 (ki fun r6 h => ?_)
  refine vr_ifeq 36 dX8_start_9 (by decide) (fun c9 => ?_) (fun c9 => ?_)
  · have h := h.1 c9
    refine vr_iconst (-1) dX8_start_36 (by decide) ?_
    exact vr_iret rfl ⟨_, _, rfl, rfl, h⟩ dX8_start_37
  · have h := h.2 c9
    refine vr_iload_n 2 2 dX8_start_12 rfl rfl ?_
    refine vr_i2l dX8_start_13 ?_
    refine vr_lconst 0 dX8_start_14 (by decide) ?_
    refine vr_ldc2 23 ct_8_130 dX8_start_15 ?_
    refine vr_callS RX8 (s_X8_in h) rfl rfl ml_8_54 rfl yh_X8_in rfl ⟨Nat.le_of_ble_eq_true rfl, Nat.le_of_ble_eq_true rfl⟩ (Nat.le_of_ble_eq_true rfl) ⟨Nat.zero_le _, Nat.zero_le _⟩ dX8_start_18 (ki fun r18 h => ?_)
    refine vr_ifeq 36 dX8_start_21 (by decide) (fun c21 => ?_) (fun c21 => ?_)
    · have h := h.1 c21
      refine vr_iconst (-1) dX8_start_36 (by decide) ?_
      exact vr_iret rfl ⟨_, _, rfl, rfl, h⟩ dX8_start_37
    · have h := h.2 c21
      refine vr_iload_n 3 3 dX8_start_24 rfl rfl ?_
      refine vr_i2l dX8_start_25 ?_
      refine vr_lconst 0 dX8_start_26 (by decide) ?_
      refine vr_ldc2 7 ct_8_103 dX8_start_27 ?_
      refine vr_callS RX8 (s_X8_in h) rfl rfl ml_8_54 rfl yh_X8_in rfl ⟨Nat.le_of_ble_eq_true rfl, Nat.le_of_ble_eq_true rfl⟩ (Nat.le_of_ble_eq_true rfl) ⟨Nat.zero_le _, Nat.zero_le _⟩ dX8_start_30 (ki fun r30 h => ?_)
      refine vr_ifne 38 dX8_start_33 (by decide) (fun c33 => ?_) (fun c33 => ?_)
      · have h := h.1 c33
        refine vr_iconst (-1) dX8_start_36 (by decide) ?_
        exact vr_iret rfl ⟨_, _, rfl, rfl, h⟩ dX8_start_37
      · have h := h.2 c33
        refine vr_aload_n 0 0 dX8_start_38 rfl rfl ?_
        refine vg_22_0 RX8 rfl (by decide) fl_8_9 dX8_start_39 ?_
        refine vr_iconst 3 dX8_start_42 (by decide) ?_
        refine vr_iload_n 1 1 dX8_start_43 rfl rfl ?_
        have hi := h.1
        have h := h.2
        obtain ⟨Q44, eQ44⟩ : ∃ y : VP, y = vup Q 23 0 (ix ((3 : Int32))) x1 := ⟨_, rfl⟩
        have h := h Q44 eQ44
        refine vr_iastQ 3464 ia_23 rfl hi eQ44 dX8_start_44 ?_
        refine vr_aload_n 0 0 dX8_start_45 rfl rfl ?_
        refine vg_22_0 RX8 rfl (by decide) fl_8_9 dX8_start_46 ?_
        refine vr_iconst 4 dX8_start_49 (by decide) ?_
        refine vr_iload_n 2 2 dX8_start_50 rfl rfl ?_
        have hi := h.1
        have h := h.2
        obtain ⟨Q51, eQ51⟩ : ∃ y : VP, y = vup Q44 23 0 (ix ((4 : Int32))) x2 := ⟨_, rfl⟩
        have h := h Q51 eQ51
        refine vr_iastQ 3464 ia_23 rfl hi eQ51 dX8_start_51 ?_
        refine vr_aload_n 0 0 dX8_start_52 rfl rfl ?_
        refine vg_22_0 RX8 rfl (by decide) fl_8_9 dX8_start_53 ?_
        refine vr_iconst 5 dX8_start_56 (by decide) ?_
        refine vr_iload_n 3 3 dX8_start_57 rfl rfl ?_
        have hi := h.1
        have h := h.2
        obtain ⟨Q58, eQ58⟩ : ∃ y : VP, y = vup Q51 23 0 (ix ((5 : Int32))) x3 := ⟨_, rfl⟩
        have h := h Q58 eQ58
        refine vr_iastQ 3464 ia_23 rfl hi eQ58 dX8_start_58 ?_
        refine vr_aload_n 0 0 dX8_start_59 rfl rfl ?_
        refine vg_22_0 RX8 rfl (by decide) fl_8_9 dX8_start_60 ?_
        refine vr_bipush 6 dX8_start_63 (by decide) ?_
        refine vr_iconst 0 dX8_start_65 (by decide) ?_
        have hi := h.1
        have h := h.2
        obtain ⟨Q66, eQ66⟩ : ∃ y : VP, y = vup Q58 23 0 (ix ((6 : Int32))) 0 := ⟨_, rfl⟩
        have h := h Q66 eQ66
        refine vr_iastQ 3464 ia_23 rfl hi eQ66 dX8_start_66 ?_
        refine vr_iconst 0 dX8_start_67 (by decide) ?_
        refine vr_istore [(4, vI 0), (0, vR 22 0), (1, vI x1), (2, vI x2), (3, vI x3)] dX8_start_68 (by decide) rfl ?_
        refine vr_sub [1, 0] [(0, vR 22 0), (4, vI 0)] rfl ?_
        exact s_X8_start_l70   h
theorem dX8_run_0 : decode cX8_run 0 = .ok (.iload_n 1, 1) := by decide +kernel
theorem dX8_run_1 : decode cX8_run 1 = .ok (.i2l, 1) := by decide +kernel
theorem dX8_run_2 : decode cX8_run 2 = .ok (.lconst 1, 1) := by decide +kernel
theorem dX8_run_3 : decode cX8_run 3 = .ok (.ldc2_w 283, 3) := by decide +kernel
theorem dX8_run_6 : decode cX8_run 6 = .ok (.invokestatic 54, 3) := by decide +kernel
theorem dX8_run_9 : decode cX8_run 9 = .ok (.ifCond .ne 5, 3) := by decide +kernel
theorem dX8_run_12 : decode cX8_run 12 = .ok (.iconst (-1), 1) := by decide +kernel
theorem dX8_run_13 : decode cX8_run 13 = .ok (.ireturn, 1) := by decide +kernel
theorem dX8_run_14 : decode cX8_run 14 = .ok (.aload_n 0, 1) := by decide +kernel
theorem dX8_run_15 : decode cX8_run 15 = .ok (.aload_n 0, 1) := by decide +kernel
theorem dX8_run_16 : decode cX8_run 16 = .ok (.getfield 9, 3) := by decide +kernel
theorem dX8_run_19 : decode cX8_run 19 = .ok (.iload_n 1, 1) := by decide +kernel
theorem dX8_run_20 : decode cX8_run 20 = .ok (.invokevirtual 285, 3) := by decide +kernel
theorem dX8_run_23 : decode cX8_run 23 = .ok (.istore_n 2, 1) := by decide +kernel
theorem dX8_run_24 : decode cX8_run 24 = .ok (.aload_n 0, 1) := by decide +kernel
theorem dX8_run_25 : decode cX8_run 25 = .ok (.aload_n 0, 1) := by decide +kernel
theorem dX8_run_26 : decode cX8_run 26 = .ok (.getfield 277, 3) := by decide +kernel
theorem dX8_run_29 : decode cX8_run 29 = .ok (.putfield 288, 3) := by decide +kernel
theorem dX8_run_32 : decode cX8_run 32 = .ok (.iload_n 2, 1) := by decide +kernel
theorem dX8_run_33 : decode cX8_run 33 = .ok (.ireturn, 1) := by decide +kernel
def F_X8_run (x1 : Int32) (Q : VP) (post : Int32 → VP → Prop) : Prop :=
  F_X8_in (Int32.toInt64 x1) 1 200 Q (fun r6 => (r6 = 0 → post (((-1) : Int32)) Q) ∧ (¬ r6 = 0 → F_X8_runs 23 x1 Q (fun r20 Q20 => ∀ Q29 : VP, Q29 = vup Q20 22 0 4 (Q20 22 0 17) → (post r20 Q29))))
set_option maxRecDepth 4000 in
theorem s_X8_run {l : Launch} {g : vG} {x1 : Int32} {P Q : VP} {post : Int32 → VP → Prop}  (h : F_X8_run x1 Q post) : VC l g yX8_run cX8_run 3 (some .int) 7 [vR 22 0, vI x1] (vjn P Q) (vmI P post) := by
  refine VC.of (by decide +kernel) (Nat.le_of_ble_eq_true rfl) (show VM l g RX8 cX8_run 3 (some .int) 7 (vmI P post) 0 [(0, vR 22 0), (1, vI x1)] [] (vjn P Q) from ?_)
  unfold F_X8_run at h
  refine vr_iload_n 1 1 dX8_run_0 rfl rfl ?_
  refine vr_i2l dX8_run_1 ?_
  refine vr_lconst 1 dX8_run_2 (by decide) ?_
  refine vr_ldc2 200 ct_8_283 dX8_run_3 ?_
  refine vr_callS RX8 (s_X8_in h) rfl rfl ml_8_54 rfl yh_X8_in rfl ⟨Nat.le_of_ble_eq_true rfl, Nat.le_of_ble_eq_true rfl⟩ (Nat.le_of_ble_eq_true rfl) ⟨Nat.zero_le _, Nat.zero_le _⟩ dX8_run_6 (ki fun r6 h => ?_)
  refine vr_ifne 14 dX8_run_9 (by decide) (fun c9 => ?_) (fun c9 => ?_)
  · have h := h.1 c9
    refine vr_iconst (-1) dX8_run_12 (by decide) ?_
    exact vr_iret rfl ⟨_, _, rfl, rfl, h⟩ dX8_run_13
  · have h := h.2 c9
    refine vr_aload_n 0 0 dX8_run_14 rfl rfl ?_
    refine vr_aload_n 0 0 dX8_run_15 rfl rfl ?_
    refine vg_22_0 RX8 rfl (by decide) fl_8_9 dX8_run_16 ?_
    refine vr_iload_n 1 1 dX8_run_19 rfl rfl ?_
    refine vr_callV RX8 (s_X8_runs ia_23 h) rfl (by decide) rfl rfl rfl ml_8_285 rfl yh_X8_runs rfl ⟨Nat.le_of_ble_eq_true rfl, Nat.le_of_ble_eq_true rfl⟩ (Nat.le_of_ble_eq_true rfl) ⟨Nat.zero_le _, Nat.zero_le _⟩ dX8_run_20 (kmi fun r20 Q20 h => ?_)
    refine vr_istore_n 2 [(2, vI r20), (0, vR 22 0), (1, vI x1)] dX8_run_23 rfl (by decide) rfl ?_
    refine vr_aload_n 0 1 dX8_run_24 rfl rfl ?_
    refine vr_aload_n 0 1 dX8_run_25 rfl rfl ?_
    refine vg_22_17 RX8 rfl (by decide) fl_8_277 dX8_run_26 ?_
    obtain ⟨Q29, eQ29⟩ : ∃ y : VP, y = vup Q20 22 0 4 (Q20 22 0 17) := ⟨_, rfl⟩
    have h := h Q29 eQ29
    refine vp_22_4 RX8 rfl (by decide) fl_8_288 eQ29 dX8_run_29 ?_
    refine vr_iload_n 2 0 dX8_run_32 rfl rfl ?_
    exact vr_iret rfl ⟨_, _, rfl, rfl, h⟩ dX8_run_33
theorem dX8_why_0 : decode cX8_why 0 = .ok (.aload_n 0, 1) := by decide +kernel
theorem dX8_why_1 : decode cX8_why 1 = .ok (.getfield 288, 3) := by decide +kernel
theorem dX8_why_4 : decode cX8_why 4 = .ok (.ireturn, 1) := by decide +kernel
def F_X8_why  (Q : VP) (post : Int32 → Prop) : Prop :=
  post (Q 22 0 4)
set_option maxRecDepth 4000 in
theorem s_X8_why {l : Launch} {g : vG}  {P Q : VP} {post : Int32 → Prop}  (h : F_X8_why  Q post) : VC l g yX8_why cX8_why 1 (some .int) 0 [vR 22 0] (vjn P Q) (vpI (vjn P Q) post) := by
  refine VC.of (by decide +kernel) (Nat.le_of_ble_eq_true rfl) (show VM l g RX8 cX8_why 1 (some .int) 0 (vpI (vjn P Q) post) 0 [(0, vR 22 0)] [] (vjn P Q) from ?_)
  unfold F_X8_why at h
  refine vr_aload_n 0 0 dX8_why_0 rfl rfl ?_
  refine vg_22_4 RX8 rfl (by decide) fl_8_288 dX8_why_1 ?_
  exact vr_iret rfl ⟨rfl, _, rfl, h⟩ dX8_why_4
theorem dX8_machine_0 : decode cX8_machine 0 = .ok (.iload_n 1, 1) := by decide +kernel
theorem dX8_machine_1 : decode cX8_machine 1 = .ok (.i2l, 1) := by decide +kernel
theorem dX8_machine_2 : decode cX8_machine 2 = .ok (.lconst 0, 1) := by decide +kernel
theorem dX8_machine_3 : decode cX8_machine 3 = .ok (.ldc2_w 134, 3) := by decide +kernel
theorem dX8_machine_6 : decode cX8_machine 6 = .ok (.invokestatic 54, 3) := by decide +kernel
theorem dX8_machine_9 : decode cX8_machine 9 = .ok (.ifCond .eq 12, 3) := by decide +kernel
theorem dX8_machine_12 : decode cX8_machine 12 = .ok (.aload_n 0, 1) := by decide +kernel
theorem dX8_machine_13 : decode cX8_machine 13 = .ok (.getfield 9, 3) := by decide +kernel
theorem dX8_machine_16 : decode cX8_machine 16 = .ok (.iconst 3, 1) := by decide +kernel
theorem dX8_machine_17 : decode cX8_machine 17 = .ok (.iload_n 1, 1) := by decide +kernel
theorem dX8_machine_18 : decode cX8_machine 18 = .ok (.iadd, 1) := by decide +kernel
theorem dX8_machine_19 : decode cX8_machine 19 = .ok (.iaload, 1) := by decide +kernel
theorem dX8_machine_20 : decode cX8_machine 20 = .ok (.ireturn, 1) := by decide +kernel
theorem dX8_machine_21 : decode cX8_machine 21 = .ok (.iload_n 1, 1) := by decide +kernel
theorem dX8_machine_22 : decode cX8_machine 22 = .ok (.i2l, 1) := by decide +kernel
theorem dX8_machine_23 : decode cX8_machine 23 = .ok (.ldc2_w 291, 3) := by decide +kernel
theorem dX8_machine_26 : decode cX8_machine 26 = .ok (.ldc2_w 293, 3) := by decide +kernel
theorem dX8_machine_29 : decode cX8_machine 29 = .ok (.invokestatic 54, 3) := by decide +kernel
theorem dX8_machine_32 : decode cX8_machine 32 = .ok (.ifCond .eq 19, 3) := by decide +kernel
theorem dX8_machine_35 : decode cX8_machine 35 = .ok (.aload_n 0, 1) := by decide +kernel
theorem dX8_machine_36 : decode cX8_machine 36 = .ok (.getfield 9, 3) := by decide +kernel
theorem dX8_machine_39 : decode cX8_machine 39 = .ok (.sipush 192, 3) := by decide +kernel
theorem dX8_machine_42 : decode cX8_machine 42 = .ok (.iload_n 1, 1) := by decide +kernel
theorem dX8_machine_43 : decode cX8_machine 43 = .ok (.iadd, 1) := by decide +kernel
theorem dX8_machine_44 : decode cX8_machine 44 = .ok (.bipush 10, 2) := by decide +kernel
theorem dX8_machine_46 : decode cX8_machine 46 = .ok (.isub, 1) := by decide +kernel
theorem dX8_machine_47 : decode cX8_machine 47 = .ok (.iaload, 1) := by decide +kernel
theorem dX8_machine_48 : decode cX8_machine 48 = .ok (.goto 5, 3) := by decide +kernel
theorem dX8_machine_51 : decode cX8_machine 51 = .ok (.ldc 142, 2) := by decide +kernel
theorem dX8_machine_53 : decode cX8_machine 53 = .ok (.ireturn, 1) := by decide +kernel
def F_X8_machine (x1 : Int32) (Q : VP) (post : Int32 → Prop) : Prop :=
  F_X8_in (Int32.toInt64 x1) 0 3 Q (fun r6 => (r6 = 0 → F_X8_in (Int32.toInt64 x1) 10 17 Q (fun r29 => (r29 = 0 → post (((-2000000000) : Int32))) ∧ (¬ r29 = 0 → (0 ≤ (192 + x1) - 10 ∧ (192 + x1) - 10 < 3464) ∧ (post (Q 23 0 (ix ((192 + x1) - 10))))))) ∧ (¬ r6 = 0 → (0 ≤ 3 + x1 ∧ 3 + x1 < 3464) ∧ (post (Q 23 0 (ix (3 + x1))))))
set_option maxRecDepth 4000 in
theorem s_X8_machine {l : Launch} {g : vG} {x1 : Int32} {P Q : VP} {post : Int32 → Prop}  (h : F_X8_machine x1 Q post) : VC l g yX8_machine cX8_machine 2 (some .int) 1 [vR 22 0, vI x1] (vjn P Q) (vpI (vjn P Q) post) := by
  refine VC.of (by decide +kernel) (Nat.le_of_ble_eq_true rfl) (show VM l g RX8 cX8_machine 2 (some .int) 1 (vpI (vjn P Q) post) 0 [(0, vR 22 0), (1, vI x1)] [] (vjn P Q) from ?_)
  unfold F_X8_machine at h
  refine vr_iload_n 1 1 dX8_machine_0 rfl rfl ?_
  refine vr_i2l dX8_machine_1 ?_
  refine vr_lconst 0 dX8_machine_2 (by decide) ?_
  refine vr_ldc2 3 ct_8_134 dX8_machine_3 ?_
  refine vr_callS RX8 (s_X8_in h) rfl rfl ml_8_54 rfl yh_X8_in rfl ⟨Nat.le_of_ble_eq_true rfl, Nat.le_of_ble_eq_true rfl⟩ (Nat.le_of_ble_eq_true rfl) ⟨Nat.zero_le _, Nat.zero_le _⟩ dX8_machine_6 (ki fun r6 h => ?_)
  refine vr_ifeq 21 dX8_machine_9 (by decide) (fun c9 => ?_) (fun c9 => ?_)
  · have h := h.1 c9
    refine vr_iload_n 1 1 dX8_machine_21 rfl rfl ?_
    refine vr_i2l dX8_machine_22 ?_
    refine vr_ldc2 10 ct_8_291 dX8_machine_23 ?_
    refine vr_ldc2 17 ct_8_293 dX8_machine_26 ?_
    refine vr_callS RX8 (s_X8_in h) rfl rfl ml_8_54 rfl yh_X8_in rfl ⟨Nat.le_of_ble_eq_true rfl, Nat.le_of_ble_eq_true rfl⟩ (Nat.le_of_ble_eq_true rfl) ⟨Nat.zero_le _, Nat.zero_le _⟩ dX8_machine_29 (ki fun r29 h => ?_)
    refine vr_ifeq 51 dX8_machine_32 (by decide) (fun c32 => ?_) (fun c32 => ?_)
    · have h := h.1 c32
      refine vr_ldc (-2000000000) ct_8_142 dX8_machine_51 ?_
      exact vr_iret rfl ⟨rfl, _, rfl, h⟩ dX8_machine_53
    · have h := h.2 c32
      refine vr_aload_n 0 0 dX8_machine_35 rfl rfl ?_
      refine vg_22_0 RX8 rfl (by decide) fl_8_9 dX8_machine_36 ?_
      refine vr_sipush 192 dX8_machine_39 (by decide) ?_
      refine vr_iload_n 1 1 dX8_machine_42 rfl rfl ?_
      refine vr_iadd dX8_machine_43 ?_
      refine vr_bipush 10 dX8_machine_44 (by decide) ?_
      refine vr_isub dX8_machine_46 ?_
      have hi := h.1
      have h := h.2
      refine vr_ialdQ 3464 ia_23 rfl hi dX8_machine_47 ?_
      refine vr_goto 53 dX8_machine_48 (by decide) ?_
      exact vr_iret rfl ⟨rfl, _, rfl, h⟩ dX8_machine_53
  · have h := h.2 c9
    refine vr_aload_n 0 0 dX8_machine_12 rfl rfl ?_
    refine vg_22_0 RX8 rfl (by decide) fl_8_9 dX8_machine_13 ?_
    refine vr_iconst 3 dX8_machine_16 (by decide) ?_
    refine vr_iload_n 1 1 dX8_machine_17 rfl rfl ?_
    refine vr_iadd dX8_machine_18 ?_
    have hi := h.1
    have h := h.2
    refine vr_ialdQ 3464 ia_23 rfl hi dX8_machine_19 ?_
    exact vr_iret rfl ⟨rfl, _, rfl, h⟩ dX8_machine_20
theorem dX8_frame_0 : decode cX8_frame 0 = .ok (.iload_n 1, 1) := by decide +kernel
theorem dX8_frame_1 : decode cX8_frame 1 = .ok (.i2l, 1) := by decide +kernel
theorem dX8_frame_2 : decode cX8_frame 2 = .ok (.lconst 0, 1) := by decide +kernel
theorem dX8_frame_3 : decode cX8_frame 3 = .ok (.ldc2_w 103, 3) := by decide +kernel
theorem dX8_frame_6 : decode cX8_frame 6 = .ok (.invokestatic 54, 3) := by decide +kernel
theorem dX8_frame_9 : decode cX8_frame 9 = .ok (.ifCond .eq 19, 3) := by decide +kernel
theorem dX8_frame_12 : decode cX8_frame 12 = .ok (.iload_n 2, 1) := by decide +kernel
theorem dX8_frame_13 : decode cX8_frame 13 = .ok (.ifCond .lt 15, 3) := by decide +kernel
theorem dX8_frame_16 : decode cX8_frame 16 = .ok (.iload_n 3, 1) := by decide +kernel
theorem dX8_frame_17 : decode cX8_frame 17 = .ok (.i2l, 1) := by decide +kernel
theorem dX8_frame_18 : decode cX8_frame 18 = .ok (.lconst 0, 1) := by decide +kernel
theorem dX8_frame_19 : decode cX8_frame 19 = .ok (.ldc2_w 295, 3) := by decide +kernel
theorem dX8_frame_22 : decode cX8_frame 22 = .ok (.invokestatic 54, 3) := by decide +kernel
theorem dX8_frame_25 : decode cX8_frame 25 = .ok (.ifCond .ne 5, 3) := by decide +kernel
theorem dX8_frame_28 : decode cX8_frame 28 = .ok (.iconst (-1), 1) := by decide +kernel
theorem dX8_frame_29 : decode cX8_frame 29 = .ok (.ireturn, 1) := by decide +kernel
theorem dX8_frame_30 : decode cX8_frame 30 = .ok (.iload_n 2, 1) := by decide +kernel
theorem dX8_frame_31 : decode cX8_frame 31 = .ok (.aload_n 0, 1) := by decide +kernel
theorem dX8_frame_32 : decode cX8_frame 32 = .ok (.getfield 9, 3) := by decide +kernel
theorem dX8_frame_35 : decode cX8_frame 35 = .ok (.sipush 192, 3) := by decide +kernel
theorem dX8_frame_38 : decode cX8_frame 38 = .ok (.iload_n 1, 1) := by decide +kernel
theorem dX8_frame_39 : decode cX8_frame 39 = .ok (.iadd, 1) := by decide +kernel
theorem dX8_frame_40 : decode cX8_frame 40 = .ok (.iaload, 1) := by decide +kernel
theorem dX8_frame_41 : decode cX8_frame 41 = .ok (.if_icmp .ge 18, 3) := by decide +kernel
theorem dX8_frame_44 : decode cX8_frame 44 = .ok (.aload_n 0, 1) := by decide +kernel
theorem dX8_frame_45 : decode cX8_frame 45 = .ok (.getfield 9, 3) := by decide +kernel
theorem dX8_frame_48 : decode cX8_frame 48 = .ok (.iload_n 1, 1) := by decide +kernel
theorem dX8_frame_49 : decode cX8_frame 49 = .ok (.iload_n 2, 1) := by decide +kernel
theorem dX8_frame_50 : decode cX8_frame 50 = .ok (.invokestatic 253, 3) := by decide +kernel
theorem dX8_frame_53 : decode cX8_frame 53 = .ok (.iload_n 3, 1) := by decide +kernel
theorem dX8_frame_54 : decode cX8_frame 54 = .ok (.iadd, 1) := by decide +kernel
theorem dX8_frame_55 : decode cX8_frame 55 = .ok (.iaload, 1) := by decide +kernel
theorem dX8_frame_56 : decode cX8_frame 56 = .ok (.goto 5, 3) := by decide +kernel
theorem dX8_frame_59 : decode cX8_frame 59 = .ok (.bipush (-2), 2) := by decide +kernel
theorem dX8_frame_61 : decode cX8_frame 61 = .ok (.ireturn, 1) := by decide +kernel
def F_X8_frame (x1 : Int32) (x2 : Int32) (x3 : Int32) (Q : VP) (post : Int32 → Prop) : Prop :=
  F_X8_in (Int32.toInt64 x1) 0 7 Q (fun r6 => (r6 = 0 → post (((-1) : Int32))) ∧ (¬ r6 = 0 → (x2 < 0 → post (((-1) : Int32))) ∧ (¬ x2 < 0 → F_X8_in (Int32.toInt64 x3) 0 4 Q (fun r22 => (r22 = 0 → post (((-1) : Int32))) ∧ (¬ r22 = 0 → (0 ≤ 192 + x1 ∧ 192 + x1 < 3464) ∧ ((x2 < Q 23 0 (ix (192 + x1)) → F_X8_frameAt x1 x2 Q (fun r50 => (0 ≤ r50 + x3 ∧ r50 + x3 < 3464) ∧ (post (Q 23 0 (ix (r50 + x3)))))) ∧ (¬ x2 < Q 23 0 (ix (192 + x1)) → post (((-2) : Int32)))))))))
set_option maxRecDepth 4000 in
theorem s_X8_frame {l : Launch} {g : vG} {x1 : Int32} {x2 : Int32} {x3 : Int32} {P Q : VP} {post : Int32 → Prop}  (h : F_X8_frame x1 x2 x3 Q post) : VC l g yX8_frame cX8_frame 4 (some .int) 1 [vR 22 0, vI x1, vI x2, vI x3] (vjn P Q) (vpI (vjn P Q) post) := by
  refine VC.of (by decide +kernel) (Nat.le_of_ble_eq_true rfl) (show VM l g RX8 cX8_frame 4 (some .int) 1 (vpI (vjn P Q) post) 0 [(0, vR 22 0), (1, vI x1), (2, vI x2), (3, vI x3)] [] (vjn P Q) from ?_)
  unfold F_X8_frame at h
  refine vr_iload_n 1 1 dX8_frame_0 rfl rfl ?_
  refine vr_i2l dX8_frame_1 ?_
  refine vr_lconst 0 dX8_frame_2 (by decide) ?_
  refine vr_ldc2 7 ct_8_103 dX8_frame_3 ?_
  refine vr_callS RX8 (s_X8_in h) rfl rfl ml_8_54 rfl yh_X8_in rfl ⟨Nat.le_of_ble_eq_true rfl, Nat.le_of_ble_eq_true rfl⟩ (Nat.le_of_ble_eq_true rfl) ⟨Nat.zero_le _, Nat.zero_le _⟩ dX8_frame_6 (ki fun r6 h => ?_)
  refine vr_ifeq 28 dX8_frame_9 (by decide) (fun c9 => ?_) (fun c9 => ?_)
  · have h := h.1 c9
    refine vr_iconst (-1) dX8_frame_28 (by decide) ?_
    exact vr_iret rfl ⟨rfl, _, rfl, h⟩ dX8_frame_29
  · have h := h.2 c9
    refine vr_iload_n 2 2 dX8_frame_12 rfl rfl ?_
    refine vr_iflt 28 dX8_frame_13 (by decide) (fun c13 => ?_) (fun c13 => ?_)
    · have h := h.1 c13
      refine vr_iconst (-1) dX8_frame_28 (by decide) ?_
      exact vr_iret rfl ⟨rfl, _, rfl, h⟩ dX8_frame_29
    · have h := h.2 c13
      refine vr_iload_n 3 3 dX8_frame_16 rfl rfl ?_
      refine vr_i2l dX8_frame_17 ?_
      refine vr_lconst 0 dX8_frame_18 (by decide) ?_
      refine vr_ldc2 4 ct_8_295 dX8_frame_19 ?_
      refine vr_callS RX8 (s_X8_in h) rfl rfl ml_8_54 rfl yh_X8_in rfl ⟨Nat.le_of_ble_eq_true rfl, Nat.le_of_ble_eq_true rfl⟩ (Nat.le_of_ble_eq_true rfl) ⟨Nat.zero_le _, Nat.zero_le _⟩ dX8_frame_22 (ki fun r22 h => ?_)
      refine vr_ifne 30 dX8_frame_25 (by decide) (fun c25 => ?_) (fun c25 => ?_)
      · have h := h.1 c25
        refine vr_iconst (-1) dX8_frame_28 (by decide) ?_
        exact vr_iret rfl ⟨rfl, _, rfl, h⟩ dX8_frame_29
      · have h := h.2 c25
        refine vr_iload_n 2 2 dX8_frame_30 rfl rfl ?_
        refine vr_aload_n 0 0 dX8_frame_31 rfl rfl ?_
        refine vg_22_0 RX8 rfl (by decide) fl_8_9 dX8_frame_32 ?_
        refine vr_sipush 192 dX8_frame_35 (by decide) ?_
        refine vr_iload_n 1 1 dX8_frame_38 rfl rfl ?_
        refine vr_iadd dX8_frame_39 ?_
        have hi := h.1
        have h := h.2
        refine vr_ialdQ 3464 ia_23 rfl hi dX8_frame_40 ?_
        refine vr_icmpge 59 dX8_frame_41 (by decide) (fun c41 => ?_) (fun c41 => ?_)
        · have h := h.1 c41
          refine vr_aload_n 0 0 dX8_frame_44 rfl rfl ?_
          refine vg_22_0 RX8 rfl (by decide) fl_8_9 dX8_frame_45 ?_
          refine vr_iload_n 1 1 dX8_frame_48 rfl rfl ?_
          refine vr_iload_n 2 2 dX8_frame_49 rfl rfl ?_
          refine vr_callS RX8 (s_X8_frameAt h) rfl rfl ml_8_253 rfl yh_X8_frameAt rfl ⟨Nat.le_of_ble_eq_true rfl, Nat.le_of_ble_eq_true rfl⟩ (Nat.le_of_ble_eq_true rfl) ⟨Nat.zero_le _, Nat.zero_le _⟩ dX8_frame_50 (ki fun r50 h => ?_)
          refine vr_iload_n 3 3 dX8_frame_53 rfl rfl ?_
          refine vr_iadd dX8_frame_54 ?_
          have hi := h.1
          have h := h.2
          refine vr_ialdQ 3464 ia_23 rfl hi dX8_frame_55 ?_
          refine vr_goto 61 dX8_frame_56 (by decide) ?_
          exact vr_iret rfl ⟨rfl, _, rfl, h⟩ dX8_frame_61
        · have h := h.2 c41
          refine vr_bipush (-2) dX8_frame_59 (by decide) ?_
          exact vr_iret rfl ⟨rfl, _, rfl, h⟩ dX8_frame_61
theorem dX8_dry_0 : decode cX8_dry 0 = .ok (.iload_n 1, 1) := by decide +kernel
theorem dX8_dry_1 : decode cX8_dry 1 = .ok (.i2l, 1) := by decide +kernel
theorem dX8_dry_2 : decode cX8_dry 2 = .ok (.lconst 1, 1) := by decide +kernel
theorem dX8_dry_3 : decode cX8_dry 3 = .ok (.ldc2_w 283, 3) := by decide +kernel
theorem dX8_dry_6 : decode cX8_dry 6 = .ok (.invokestatic 54, 3) := by decide +kernel
theorem dX8_dry_9 : decode cX8_dry 9 = .ok (.ifCond .eq 15, 3) := by decide +kernel
theorem dX8_dry_12 : decode cX8_dry 12 = .ok (.iload_n 2, 1) := by decide +kernel
theorem dX8_dry_13 : decode cX8_dry 13 = .ok (.i2l, 1) := by decide +kernel
theorem dX8_dry_14 : decode cX8_dry 14 = .ok (.lconst 0, 1) := by decide +kernel
theorem dX8_dry_15 : decode cX8_dry 15 = .ok (.ldc2_w 295, 3) := by decide +kernel
theorem dX8_dry_18 : decode cX8_dry 18 = .ok (.invokestatic 54, 3) := by decide +kernel
theorem dX8_dry_21 : decode cX8_dry 21 = .ok (.ifCond .ne 6, 3) := by decide +kernel
theorem dX8_dry_24 : decode cX8_dry 24 = .ok (.ldc 142, 2) := by decide +kernel
theorem dX8_dry_26 : decode cX8_dry 26 = .ok (.ireturn, 1) := by decide +kernel
theorem dX8_dry_27 : decode cX8_dry 27 = .ok (.aload_n 0, 1) := by decide +kernel
theorem dX8_dry_28 : decode cX8_dry 28 = .ok (.getfield 9, 3) := by decide +kernel
theorem dX8_dry_31 : decode cX8_dry 31 = .ok (.aload_n 0, 1) := by decide +kernel
theorem dX8_dry_32 : decode cX8_dry 32 = .ok (.getfield 13, 3) := by decide +kernel
theorem dX8_dry_35 : decode cX8_dry 35 = .ok (.invokestatic 105, 3) := by decide +kernel
theorem dX8_dry_38 : decode cX8_dry 38 = .ok (.aload_n 0, 1) := by decide +kernel
theorem dX8_dry_39 : decode cX8_dry 39 = .ok (.aload_n 0, 1) := by decide +kernel
theorem dX8_dry_40 : decode cX8_dry 40 = .ok (.getfield 13, 3) := by decide +kernel
theorem dX8_dry_43 : decode cX8_dry 43 = .ok (.iload_n 1, 1) := by decide +kernel
theorem dX8_dry_44 : decode cX8_dry 44 = .ok (.invokevirtual 285, 3) := by decide +kernel
theorem dX8_dry_47 : decode cX8_dry 47 = .ok (.istore_n 3, 1) := by decide +kernel
theorem dX8_dry_48 : decode cX8_dry 48 = .ok (.iconst 0, 1) := by decide +kernel
theorem dX8_dry_49 : decode cX8_dry 49 = .ok (.istore 4, 2) := by decide +kernel
theorem dX8_dry_51 : decode cX8_dry 51 = .ok (.iconst 0, 1) := by decide +kernel
theorem dX8_dry_52 : decode cX8_dry 52 = .ok (.istore 5, 2) := by decide +kernel
theorem dX8_dry_54 : decode cX8_dry 54 = .ok (.iload 5, 2) := by decide +kernel
theorem dX8_dry_56 : decode cX8_dry 56 = .ok (.bipush 8, 2) := by decide +kernel
theorem dX8_dry_58 : decode cX8_dry 58 = .ok (.if_icmp .ge 25, 3) := by decide +kernel
theorem dX8_dry_61 : decode cX8_dry 61 = .ok (.iload 4, 2) := by decide +kernel
theorem dX8_dry_63 : decode cX8_dry 63 = .ok (.aload_n 0, 1) := by decide +kernel
theorem dX8_dry_64 : decode cX8_dry 64 = .ok (.getfield 13, 3) := by decide +kernel
theorem dX8_dry_67 : decode cX8_dry 67 = .ok (.sipush 192, 3) := by decide +kernel
theorem dX8_dry_70 : decode cX8_dry 70 = .ok (.iload 5, 2) := by decide +kernel
theorem dX8_dry_72 : decode cX8_dry 72 = .ok (.iadd, 1) := by decide +kernel
theorem dX8_dry_73 : decode cX8_dry 73 = .ok (.iaload, 1) := by decide +kernel
theorem dX8_dry_74 : decode cX8_dry 74 = .ok (.iadd, 1) := by decide +kernel
theorem dX8_dry_75 : decode cX8_dry 75 = .ok (.istore 4, 2) := by decide +kernel
theorem dX8_dry_77 : decode cX8_dry 77 = .ok (.iinc 5 1, 3) := by decide +kernel
theorem dX8_dry_80 : decode cX8_dry 80 = .ok (.goto (-26), 3) := by decide +kernel
theorem dX8_dry_83 : decode cX8_dry 83 = .ok (.iload_n 2, 1) := by decide +kernel
theorem dX8_dry_84 : decode cX8_dry 84 = .ok (.ifCond .ne 7, 3) := by decide +kernel
theorem dX8_dry_87 : decode cX8_dry 87 = .ok (.iload_n 3, 1) := by decide +kernel
theorem dX8_dry_88 : decode cX8_dry 88 = .ok (.goto 46, 3) := by decide +kernel
theorem dX8_dry_91 : decode cX8_dry 91 = .ok (.iload_n 2, 1) := by decide +kernel
theorem dX8_dry_92 : decode cX8_dry 92 = .ok (.iconst 1, 1) := by decide +kernel
theorem dX8_dry_93 : decode cX8_dry 93 = .ok (.if_icmp .ne 10, 3) := by decide +kernel
theorem dX8_dry_96 : decode cX8_dry 96 = .ok (.aload_n 0, 1) := by decide +kernel
theorem dX8_dry_97 : decode cX8_dry 97 = .ok (.getfield 277, 3) := by decide +kernel
theorem dX8_dry_100 : decode cX8_dry 100 = .ok (.goto 34, 3) := by decide +kernel
theorem dX8_dry_103 : decode cX8_dry 103 = .ok (.iload_n 2, 1) := by decide +kernel
theorem dX8_dry_104 : decode cX8_dry 104 = .ok (.iconst 2, 1) := by decide +kernel
theorem dX8_dry_105 : decode cX8_dry 105 = .ok (.if_icmp .ne 13, 3) := by decide +kernel
theorem dX8_dry_108 : decode cX8_dry 108 = .ok (.aload_n 0, 1) := by decide +kernel
theorem dX8_dry_109 : decode cX8_dry 109 = .ok (.getfield 13, 3) := by decide +kernel
theorem dX8_dry_112 : decode cX8_dry 112 = .ok (.bipush 6, 2) := by decide +kernel
theorem dX8_dry_114 : decode cX8_dry 114 = .ok (.iaload, 1) := by decide +kernel
theorem dX8_dry_115 : decode cX8_dry 115 = .ok (.goto 19, 3) := by decide +kernel
theorem dX8_dry_118 : decode cX8_dry 118 = .ok (.iload_n 2, 1) := by decide +kernel
theorem dX8_dry_119 : decode cX8_dry 119 = .ok (.iconst 3, 1) := by decide +kernel
theorem dX8_dry_120 : decode cX8_dry 120 = .ok (.if_icmp .ne 12, 3) := by decide +kernel
theorem dX8_dry_123 : decode cX8_dry 123 = .ok (.aload_n 0, 1) := by decide +kernel
theorem dX8_dry_124 : decode cX8_dry 124 = .ok (.getfield 13, 3) := by decide +kernel
theorem dX8_dry_127 : decode cX8_dry 127 = .ok (.iconst 5, 1) := by decide +kernel
theorem dX8_dry_128 : decode cX8_dry 128 = .ok (.iaload, 1) := by decide +kernel
theorem dX8_dry_129 : decode cX8_dry 129 = .ok (.goto 5, 3) := by decide +kernel
theorem dX8_dry_132 : decode cX8_dry 132 = .ok (.iload 4, 2) := by decide +kernel
theorem dX8_dry_134 : decode cX8_dry 134 = .ok (.ireturn, 1) := by decide +kernel
def F_X8_dry_l54 (x1 : Int32) (x2 : Int32) (Q : VP) (post : Int32 → VP → Prop)  (v3 : Int32) (X : Int32 → Int32 → Prop) (v4 : Int32) (v5 : Int32) : Prop :=
  (v5 < 8 → (0 ≤ 192 + v5 ∧ 192 + v5 < 3464) ∧ (X (v4 + (Q 24 0 (ix (192 + v5)))) (v5 + 1))) ∧ (¬ v5 < 8 → (x2 = 0 → post v3 Q) ∧ (¬ x2 = 0 → (x2 = 1 → post (Q 22 0 17) Q) ∧ (¬ x2 = 1 → (x2 = 2 → (0 ≤ (6 : Int32) ∧ (6 : Int32) < 3464) ∧ (post (Q 24 0 (ix ((6 : Int32)))) Q)) ∧ (¬ x2 = 2 → (x2 = 3 → (0 ≤ (5 : Int32) ∧ (5 : Int32) < 3464) ∧ (post (Q 24 0 (ix ((5 : Int32)))) Q)) ∧ (¬ x2 = 3 → post v4 Q)))))
set_option maxRecDepth 4000 in
theorem s_X8_dry_l54 {l : Launch} {g : vG} {x1 : Int32} {x2 : Int32} {P Q : VP} {post : Int32 → VP → Prop}  {v3 : Int32}  {v4 : Int32} {v5 : Int32}   (h : vL2 (F_X8_dry_l54 x1 x2 Q post  v3) v4 v5) : VM l g RX8 cX8_dry 6 (some .int) 7 (vmI P post) 54 [(0, vR 22 0), (2, vI x2), (3, vI v3), (4, vI v4), (5, vI v5)] [] (vjn P Q) := by
  refine vL2_s (T := fun v4 v5 => VM l g RX8 cX8_dry 6 (some .int) 7 (vmI P post) 54 [(0, vR 22 0), (2, vI x2), (3, vI v3), (4, vI v4), (5, vI v5)] [] (vjn P Q)) ?_ h
  clear h
  intro X hX v4 v5 h
  unfold F_X8_dry_l54 at h
  refine vr_iload 4 dX8_dry_54 rfl ?_
  refine vr_bipush 8 dX8_dry_56 (by decide) ?_
  refine vr_icmpge 83 dX8_dry_58 (by decide) (fun c58 => ?_) (fun c58 => ?_)
  · have h := h.1 c58
    refine vr_iload 3 dX8_dry_61 rfl ?_
    refine vr_aload_n 0 0 dX8_dry_63 rfl rfl ?_
    refine vg_22_1 RX8 rfl (by decide) fl_8_13 dX8_dry_64 ?_
    refine vr_sipush 192 dX8_dry_67 (by decide) ?_
    refine vr_iload 4 dX8_dry_70 rfl ?_
    refine vr_iadd dX8_dry_72 ?_
    have hi := h.1
    have h := h.2
    refine vr_ialdQ 3464 ia_24 rfl hi dX8_dry_73 ?_
    refine vr_iadd dX8_dry_74 ?_
    refine vr_istore [(4, vI (v4 + (Q 24 0 (ix (192 + v5))))), (0, vR 22 0), (2, vI x2), (3, vI v3), (5, vI v5)] dX8_dry_75 (by decide) rfl ?_
    refine vr_iinc (v5 + 1) 4 [(5, vI (v5 + 1)), (4, vI (v4 + (Q 24 0 (ix (192 + v5))))), (0, vR 22 0), (2, vI x2), (3, vI v3)] dX8_dry_77 rfl rfl (by decide) rfl ?_
    refine vr_goto 54 dX8_dry_80 (by decide) ?_
    refine vr_sub [2, 3, 4, 1, 0] [(0, vR 22 0), (2, vI x2), (3, vI v3), (4, vI (v4 + (Q 24 0 (ix (192 + v5))))), (5, vI (v5 + 1))] rfl ?_
    exact hX _ _ h
  · have h := h.2 c58
    refine vr_iload_n 2 1 dX8_dry_83 rfl rfl ?_
    refine vr_ifne 91 dX8_dry_84 (by decide) (fun c84 => ?_) (fun c84 => ?_)
    · have h := h.1 c84
      refine vr_iload_n 3 2 dX8_dry_87 rfl rfl ?_
      refine vr_goto 134 dX8_dry_88 (by decide) ?_
      exact vr_iret rfl ⟨_, _, rfl, rfl, h⟩ dX8_dry_134
    · have h := h.2 c84
      refine vr_iload_n 2 1 dX8_dry_91 rfl rfl ?_
      refine vr_iconst 1 dX8_dry_92 (by decide) ?_
      refine vr_icmpne 103 dX8_dry_93 (by decide) (fun c93 => ?_) (fun c93 => ?_)
      · have h := h.1 c93
        refine vr_aload_n 0 0 dX8_dry_96 rfl rfl ?_
        refine vg_22_17 RX8 rfl (by decide) fl_8_277 dX8_dry_97 ?_
        refine vr_goto 134 dX8_dry_100 (by decide) ?_
        exact vr_iret rfl ⟨_, _, rfl, rfl, h⟩ dX8_dry_134
      · have h := h.2 c93
        refine vr_iload_n 2 1 dX8_dry_103 rfl rfl ?_
        refine vr_iconst 2 dX8_dry_104 (by decide) ?_
        refine vr_icmpne 118 dX8_dry_105 (by decide) (fun c105 => ?_) (fun c105 => ?_)
        · have h := h.1 c105
          refine vr_aload_n 0 0 dX8_dry_108 rfl rfl ?_
          refine vg_22_1 RX8 rfl (by decide) fl_8_13 dX8_dry_109 ?_
          refine vr_bipush 6 dX8_dry_112 (by decide) ?_
          have hi := h.1
          have h := h.2
          refine vr_ialdQ 3464 ia_24 rfl hi dX8_dry_114 ?_
          refine vr_goto 134 dX8_dry_115 (by decide) ?_
          exact vr_iret rfl ⟨_, _, rfl, rfl, h⟩ dX8_dry_134
        · have h := h.2 c105
          refine vr_iload_n 2 1 dX8_dry_118 rfl rfl ?_
          refine vr_iconst 3 dX8_dry_119 (by decide) ?_
          refine vr_icmpne 132 dX8_dry_120 (by decide) (fun c120 => ?_) (fun c120 => ?_)
          · have h := h.1 c120
            refine vr_aload_n 0 0 dX8_dry_123 rfl rfl ?_
            refine vg_22_1 RX8 rfl (by decide) fl_8_13 dX8_dry_124 ?_
            refine vr_iconst 5 dX8_dry_127 (by decide) ?_
            have hi := h.1
            have h := h.2
            refine vr_ialdQ 3464 ia_24 rfl hi dX8_dry_128 ?_
            refine vr_goto 134 dX8_dry_129 (by decide) ?_
            exact vr_iret rfl ⟨_, _, rfl, rfl, h⟩ dX8_dry_134
          · have h := h.2 c120
            refine vr_iload 3 dX8_dry_132 rfl ?_
            exact vr_iret rfl ⟨_, _, rfl, rfl, h⟩ dX8_dry_134
def F_X8_dry (x1 : Int32) (x2 : Int32) (Q : VP) (post : Int32 → VP → Prop) : Prop :=
  F_X8_in (Int32.toInt64 x1) 1 200 Q (fun r6 => (r6 = 0 → post (((-2000000000) : Int32)) Q) ∧ (¬ r6 = 0 → F_X8_in (Int32.toInt64 x2) 0 4 Q (fun r18 => (r18 = 0 → post (((-2000000000) : Int32)) Q) ∧ (¬ r18 = 0 → F_X8_copies 23 24 Q (fun Q35 => F_X8_runs 24 x1 Q35 (fun r44 Q44 => vL2 (F_X8_dry_l54 x1 x2 Q44 post  r44) ((0 : Int32)) ((0 : Int32))))))))
set_option maxRecDepth 4000 in
theorem s_X8_dry {l : Launch} {g : vG} {x1 : Int32} {x2 : Int32} {P Q : VP} {post : Int32 → VP → Prop}  (h : F_X8_dry x1 x2 Q post) : VC l g yX8_dry cX8_dry 6 (some .int) 7 [vR 22 0, vI x1, vI x2] (vjn P Q) (vmI P post) := by
  refine VC.of (by decide +kernel) (Nat.le_of_ble_eq_true rfl) (show VM l g RX8 cX8_dry 6 (some .int) 7 (vmI P post) 0 [(0, vR 22 0), (1, vI x1), (2, vI x2)] [] (vjn P Q) from ?_)
  unfold F_X8_dry at h
  refine vr_iload_n 1 1 dX8_dry_0 rfl rfl ?_
  refine vr_i2l dX8_dry_1 ?_
  refine vr_lconst 1 dX8_dry_2 (by decide) ?_
  refine vr_ldc2 200 ct_8_283 dX8_dry_3 ?_
  refine vr_callS RX8 (s_X8_in h) rfl rfl ml_8_54 rfl yh_X8_in rfl ⟨Nat.le_of_ble_eq_true rfl, Nat.le_of_ble_eq_true rfl⟩ (Nat.le_of_ble_eq_true rfl) ⟨Nat.zero_le _, Nat.zero_le _⟩ dX8_dry_6 (ki fun r6 h => ?_)
  refine vr_ifeq 24 dX8_dry_9 (by decide) (fun c9 => ?_) (fun c9 => ?_)
  · have h := h.1 c9
    refine vr_ldc (-2000000000) ct_8_142 dX8_dry_24 ?_
    exact vr_iret rfl ⟨_, _, rfl, rfl, h⟩ dX8_dry_26
  · have h := h.2 c9
    refine vr_iload_n 2 2 dX8_dry_12 rfl rfl ?_
    refine vr_i2l dX8_dry_13 ?_
    refine vr_lconst 0 dX8_dry_14 (by decide) ?_
    refine vr_ldc2 4 ct_8_295 dX8_dry_15 ?_
    refine vr_callS RX8 (s_X8_in h) rfl rfl ml_8_54 rfl yh_X8_in rfl ⟨Nat.le_of_ble_eq_true rfl, Nat.le_of_ble_eq_true rfl⟩ (Nat.le_of_ble_eq_true rfl) ⟨Nat.zero_le _, Nat.zero_le _⟩ dX8_dry_18 (ki fun r18 h => ?_)
    refine vr_ifne 27 dX8_dry_21 (by decide) (fun c21 => ?_) (fun c21 => ?_)
    · have h := h.1 c21
      refine vr_ldc (-2000000000) ct_8_142 dX8_dry_24 ?_
      exact vr_iret rfl ⟨_, _, rfl, rfl, h⟩ dX8_dry_26
    · have h := h.2 c21
      refine vr_aload_n 0 0 dX8_dry_27 rfl rfl ?_
      refine vg_22_0 RX8 rfl (by decide) fl_8_9 dX8_dry_28 ?_
      refine vr_aload_n 0 0 dX8_dry_31 rfl rfl ?_
      refine vg_22_1 RX8 rfl (by decide) fl_8_13 dX8_dry_32 ?_
      refine vr_callS RX8 (s_X8_copies ia_23 ia_24 h) rfl rfl ml_8_105 rfl yh_X8_copies rfl ⟨Nat.le_of_ble_eq_true rfl, Nat.le_of_ble_eq_true rfl⟩ (Nat.le_of_ble_eq_true rfl) ⟨Nat.zero_le _, Nat.zero_le _⟩ dX8_dry_35 (kmv fun Q35 h => ?_)
      refine vr_aload_n 0 0 dX8_dry_38 rfl rfl ?_
      refine vr_aload_n 0 0 dX8_dry_39 rfl rfl ?_
      refine vg_22_1 RX8 rfl (by decide) fl_8_13 dX8_dry_40 ?_
      refine vr_iload_n 1 1 dX8_dry_43 rfl rfl ?_
      refine vr_callV RX8 (s_X8_runs ia_24 h) rfl (by decide) rfl rfl rfl ml_8_285 rfl yh_X8_runs rfl ⟨Nat.le_of_ble_eq_true rfl, Nat.le_of_ble_eq_true rfl⟩ (Nat.le_of_ble_eq_true rfl) ⟨Nat.zero_le _, Nat.zero_le _⟩ dX8_dry_44 (kmi fun r44 Q44 h => ?_)
      refine vr_istore_n 3 [(3, vI r44), (0, vR 22 0), (1, vI x1), (2, vI x2)] dX8_dry_47 rfl (by decide) rfl ?_
      refine vr_iconst 0 dX8_dry_48 (by decide) ?_
      refine vr_istore [(4, vI 0), (3, vI r44), (0, vR 22 0), (1, vI x1), (2, vI x2)] dX8_dry_49 (by decide) rfl ?_
      refine vr_iconst 0 dX8_dry_51 (by decide) ?_
      refine vr_istore [(5, vI 0), (4, vI 0), (3, vI r44), (0, vR 22 0), (1, vI x1), (2, vI x2)] dX8_dry_52 (by decide) rfl ?_
      refine vr_sub [3, 5, 2, 1, 0] [(0, vR 22 0), (2, vI x2), (3, vI r44), (4, vI 0), (5, vI 0)] rfl ?_
      exact s_X8_dry_l54   h
