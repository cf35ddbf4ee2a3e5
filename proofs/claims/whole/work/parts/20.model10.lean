/-! X8_line, X8_isText, X8_load, X8_mayRead, X8_mayWrite, X8_mayGo, X8_there, X8_through, X8_comes, X8_numberAt, X8_putAt, X8_frameAt -/
theorem dX8_line_0 : decode cX8_line 0 = .ok (.iconst 0, 1) := by decide +kernel
theorem dX8_line_1 : decode cX8_line 1 = .ok (.istore_n 1, 1) := by decide +kernel
theorem dX8_line_2 : decode cX8_line 2 = .ok (.iload_n 1, 1) := by decide +kernel
theorem dX8_line_3 : decode cX8_line 3 = .ok (.iconst 4, 1) := by decide +kernel
theorem dX8_line_4 : decode cX8_line 4 = .ok (.if_icmp .ge 23, 3) := by decide +kernel
theorem dX8_line_7 : decode cX8_line 7 = .ok (.aload_n 0, 1) := by decide +kernel
theorem dX8_line_8 : decode cX8_line 8 = .ok (.getfield 22, 3) := by decide +kernel
theorem dX8_line_11 : decode cX8_line 11 = .ok (.iconst 4, 1) := by decide +kernel
theorem dX8_line_12 : decode cX8_line 12 = .ok (.aload_n 0, 1) := by decide +kernel
theorem dX8_line_13 : decode cX8_line 13 = .ok (.getfield 182, 3) := by decide +kernel
theorem dX8_line_16 : decode cX8_line 16 = .ok (.imul, 1) := by decide +kernel
theorem dX8_line_17 : decode cX8_line 17 = .ok (.iload_n 1, 1) := by decide +kernel
theorem dX8_line_18 : decode cX8_line 18 = .ok (.iadd, 1) := by decide +kernel
theorem dX8_line_19 : decode cX8_line 19 = .ok (.iconst 0, 1) := by decide +kernel
theorem dX8_line_20 : decode cX8_line 20 = .ok (.iastore, 1) := by decide +kernel
theorem dX8_line_21 : decode cX8_line 21 = .ok (.iinc 1 1, 3) := by decide +kernel
theorem dX8_line_24 : decode cX8_line 24 = .ok (.goto (-22), 3) := by decide +kernel
theorem dX8_line_27 : decode cX8_line 27 = .ok (.aload_n 0, 1) := by decide +kernel
theorem dX8_line_28 : decode cX8_line 28 = .ok (.aload_n 0, 1) := by decide +kernel
theorem dX8_line_29 : decode cX8_line 29 = .ok (.getfield 168, 3) := by decide +kernel
theorem dX8_line_32 : decode cX8_line 32 = .ok (.bipush 97, 2) := by decide +kernel
theorem dX8_line_34 : decode cX8_line 34 = .ok (.bipush 122, 2) := by decide +kernel
theorem dX8_line_36 : decode cX8_line 36 = .ok (.invokevirtual 178, 3) := by decide +kernel
theorem dX8_line_39 : decode cX8_line 39 = .ok (.istore_n 1, 1) := by decide +kernel
theorem dX8_line_40 : decode cX8_line 40 = .ok (.aload_n 0, 1) := by decide +kernel
theorem dX8_line_41 : decode cX8_line 41 = .ok (.getfield 168, 3) := by decide +kernel
theorem dX8_line_44 : decode cX8_line 44 = .ok (.istore_n 2, 1) := by decide +kernel
theorem dX8_line_45 : decode cX8_line 45 = .ok (.aload_n 0, 1) := by decide +kernel
theorem dX8_line_46 : decode cX8_line 46 = .ok (.iload_n 2, 1) := by decide +kernel
theorem dX8_line_47 : decode cX8_line 47 = .ok (.iload_n 1, 1) := by decide +kernel
theorem dX8_line_48 : decode cX8_line 48 = .ok (.ldc 192, 2) := by decide +kernel
theorem dX8_line_50 : decode cX8_line 50 = .ok (.invokevirtual 185, 3) := by decide +kernel
theorem dX8_line_53 : decode cX8_line 53 = .ok (.ifCond .eq 15, 3) := by decide +kernel
theorem dX8_line_56 : decode cX8_line 56 = .ok (.aload_n 0, 1) := by decide +kernel
theorem dX8_line_57 : decode cX8_line 57 = .ok (.dup, 1) := by decide +kernel
theorem dX8_line_58 : decode cX8_line 58 = .ok (.getfield 168, 3) := by decide +kernel
theorem dX8_line_61 : decode cX8_line 61 = .ok (.iload_n 1, 1) := by decide +kernel
theorem dX8_line_62 : decode cX8_line 62 = .ok (.iadd, 1) := by decide +kernel
theorem dX8_line_63 : decode cX8_line 63 = .ok (.putfield 168, 3) := by decide +kernel
theorem dX8_line_66 : decode cX8_line 66 = .ok (.iconst 1, 1) := by decide +kernel
theorem dX8_line_67 : decode cX8_line 67 = .ok (.ireturn, 1) := by decide +kernel
theorem dX8_line_68 : decode cX8_line 68 = .ok (.aload_n 0, 1) := by decide +kernel
theorem dX8_line_69 : decode cX8_line 69 = .ok (.iload_n 2, 1) := by decide +kernel
theorem dX8_line_70 : decode cX8_line 70 = .ok (.iload_n 1, 1) := by decide +kernel
theorem dX8_line_71 : decode cX8_line 71 = .ok (.ldc 194, 2) := by decide +kernel
theorem dX8_line_73 : decode cX8_line 73 = .ok (.invokevirtual 185, 3) := by decide +kernel
theorem dX8_line_76 : decode cX8_line 76 = .ok (.ifCond .eq 30, 3) := by decide +kernel
theorem dX8_line_79 : decode cX8_line 79 = .ok (.aload_n 0, 1) := by decide +kernel
theorem dX8_line_80 : decode cX8_line 80 = .ok (.dup, 1) := by decide +kernel
theorem dX8_line_81 : decode cX8_line 81 = .ok (.getfield 168, 3) := by decide +kernel
theorem dX8_line_84 : decode cX8_line 84 = .ok (.iload_n 1, 1) := by decide +kernel
theorem dX8_line_85 : decode cX8_line 85 = .ok (.iadd, 1) := by decide +kernel
theorem dX8_line_86 : decode cX8_line 86 = .ok (.putfield 168, 3) := by decide +kernel
theorem dX8_line_89 : decode cX8_line 89 = .ok (.aload_n 0, 1) := by decide +kernel
theorem dX8_line_90 : decode cX8_line 90 = .ok (.getfield 22, 3) := by decide +kernel
theorem dX8_line_93 : decode cX8_line 93 = .ok (.iconst 4, 1) := by decide +kernel
theorem dX8_line_94 : decode cX8_line 94 = .ok (.aload_n 0, 1) := by decide +kernel
theorem dX8_line_95 : decode cX8_line 95 = .ok (.getfield 182, 3) := by decide +kernel
theorem dX8_line_98 : decode cX8_line 98 = .ok (.imul, 1) := by decide +kernel
theorem dX8_line_99 : decode cX8_line 99 = .ok (.iconst 1, 1) := by decide +kernel
theorem dX8_line_100 : decode cX8_line 100 = .ok (.iastore, 1) := by decide +kernel
theorem dX8_line_101 : decode cX8_line 101 = .ok (.aload_n 0, 1) := by decide +kernel
theorem dX8_line_102 : decode cX8_line 102 = .ok (.invokevirtual 196, 3) := by decide +kernel
theorem dX8_line_105 : decode cX8_line 105 = .ok (.ireturn, 1) := by decide +kernel
theorem dX8_line_106 : decode cX8_line 106 = .ok (.aload_n 0, 1) := by decide +kernel
theorem dX8_line_107 : decode cX8_line 107 = .ok (.iload_n 2, 1) := by decide +kernel
theorem dX8_line_108 : decode cX8_line 108 = .ok (.iload_n 1, 1) := by decide +kernel
theorem dX8_line_109 : decode cX8_line 109 = .ok (.ldc 199, 2) := by decide +kernel
theorem dX8_line_111 : decode cX8_line 111 = .ok (.invokevirtual 185, 3) := by decide +kernel
theorem dX8_line_114 : decode cX8_line 114 = .ok (.ifCond .ne 14, 3) := by decide +kernel
theorem dX8_line_117 : decode cX8_line 117 = .ok (.aload_n 0, 1) := by decide +kernel
theorem dX8_line_118 : decode cX8_line 118 = .ok (.iload_n 2, 1) := by decide +kernel
theorem dX8_line_119 : decode cX8_line 119 = .ok (.iload_n 1, 1) := by decide +kernel
theorem dX8_line_120 : decode cX8_line 120 = .ok (.ldc 201, 2) := by decide +kernel
theorem dX8_line_122 : decode cX8_line 122 = .ok (.invokevirtual 185, 3) := by decide +kernel
theorem dX8_line_125 : decode cX8_line 125 = .ok (.ifCond .eq 76, 3) := by decide +kernel
theorem dX8_line_128 : decode cX8_line 128 = .ok (.aload_n 0, 1) := by decide +kernel
theorem dX8_line_129 : decode cX8_line 129 = .ok (.dup, 1) := by decide +kernel
theorem dX8_line_130 : decode cX8_line 130 = .ok (.getfield 168, 3) := by decide +kernel
theorem dX8_line_133 : decode cX8_line 133 = .ok (.iload_n 1, 1) := by decide +kernel
theorem dX8_line_134 : decode cX8_line 134 = .ok (.iadd, 1) := by decide +kernel
theorem dX8_line_135 : decode cX8_line 135 = .ok (.putfield 168, 3) := by decide +kernel
theorem dX8_line_138 : decode cX8_line 138 = .ok (.aload_n 0, 1) := by decide +kernel
theorem dX8_line_139 : decode cX8_line 139 = .ok (.getfield 22, 3) := by decide +kernel
theorem dX8_line_142 : decode cX8_line 142 = .ok (.iconst 4, 1) := by decide +kernel
theorem dX8_line_143 : decode cX8_line 143 = .ok (.aload_n 0, 1) := by decide +kernel
theorem dX8_line_144 : decode cX8_line 144 = .ok (.getfield 182, 3) := by decide +kernel
theorem dX8_line_147 : decode cX8_line 147 = .ok (.imul, 1) := by decide +kernel
theorem dX8_line_148 : decode cX8_line 148 = .ok (.aload_n 0, 1) := by decide +kernel
theorem dX8_line_149 : decode cX8_line 149 = .ok (.iload_n 2, 1) := by decide +kernel
theorem dX8_line_150 : decode cX8_line 150 = .ok (.iload_n 1, 1) := by decide +kernel
theorem dX8_line_151 : decode cX8_line 151 = .ok (.ldc 199, 2) := by decide +kernel
theorem dX8_line_153 : decode cX8_line 153 = .ok (.invokevirtual 185, 3) := by decide +kernel
theorem dX8_line_156 : decode cX8_line 156 = .ok (.ifCond .eq 7, 3) := by decide +kernel
theorem dX8_line_159 : decode cX8_line 159 = .ok (.iconst 2, 1) := by decide +kernel
theorem dX8_line_160 : decode cX8_line 160 = .ok (.goto 4, 3) := by decide +kernel
theorem dX8_line_163 : decode cX8_line 163 = .ok (.iconst 3, 1) := by decide +kernel
theorem dX8_line_164 : decode cX8_line 164 = .ok (.iastore, 1) := by decide +kernel
theorem dX8_line_165 : decode cX8_line 165 = .ok (.aload_n 0, 1) := by decide +kernel
theorem dX8_line_166 : decode cX8_line 166 = .ok (.iconst 1, 1) := by decide +kernel
theorem dX8_line_167 : decode cX8_line 167 = .ok (.bipush 7, 2) := by decide +kernel
theorem dX8_line_169 : decode cX8_line 169 = .ok (.invokevirtual 189, 3) := by decide +kernel
theorem dX8_line_172 : decode cX8_line 172 = .ok (.ifCond .eq 27, 3) := by decide +kernel
theorem dX8_line_175 : decode cX8_line 175 = .ok (.aload_n 0, 1) := by decide +kernel
theorem dX8_line_176 : decode cX8_line 176 = .ok (.iconst 2, 1) := by decide +kernel
theorem dX8_line_177 : decode cX8_line 177 = .ok (.bipush 15, 2) := by decide +kernel
theorem dX8_line_179 : decode cX8_line 179 = .ok (.invokevirtual 189, 3) := by decide +kernel
theorem dX8_line_182 : decode cX8_line 182 = .ok (.ifCond .eq 17, 3) := by decide +kernel
theorem dX8_line_185 : decode cX8_line 185 = .ok (.aload_n 0, 1) := by decide +kernel
theorem dX8_line_186 : decode cX8_line 186 = .ok (.iconst 3, 1) := by decide +kernel
theorem dX8_line_187 : decode cX8_line 187 = .ok (.bipush 23, 2) := by decide +kernel
theorem dX8_line_189 : decode cX8_line 189 = .ok (.invokevirtual 189, 3) := by decide +kernel
theorem dX8_line_192 : decode cX8_line 192 = .ok (.ifCond .eq 7, 3) := by decide +kernel
theorem dX8_line_195 : decode cX8_line 195 = .ok (.iconst 1, 1) := by decide +kernel
theorem dX8_line_196 : decode cX8_line 196 = .ok (.goto 4, 3) := by decide +kernel
theorem dX8_line_199 : decode cX8_line 199 = .ok (.iconst 0, 1) := by decide +kernel
theorem dX8_line_200 : decode cX8_line 200 = .ok (.ireturn, 1) := by decide +kernel
theorem dX8_line_201 : decode cX8_line 201 = .ok (.aload_n 0, 1) := by decide +kernel
theorem dX8_line_202 : decode cX8_line 202 = .ok (.iload_n 2, 1) := by decide +kernel
theorem dX8_line_203 : decode cX8_line 203 = .ok (.iload_n 1, 1) := by decide +kernel
theorem dX8_line_204 : decode cX8_line 204 = .ok (.ldc 203, 2) := by decide +kernel
theorem dX8_line_206 : decode cX8_line 206 = .ok (.invokevirtual 185, 3) := by decide +kernel
theorem dX8_line_209 : decode cX8_line 209 = .ok (.ifCond .eq 48, 3) := by decide +kernel
theorem dX8_line_212 : decode cX8_line 212 = .ok (.aload_n 0, 1) := by decide +kernel
theorem dX8_line_213 : decode cX8_line 213 = .ok (.dup, 1) := by decide +kernel
theorem dX8_line_214 : decode cX8_line 214 = .ok (.getfield 168, 3) := by decide +kernel
theorem dX8_line_217 : decode cX8_line 217 = .ok (.iload_n 1, 1) := by decide +kernel
theorem dX8_line_218 : decode cX8_line 218 = .ok (.iadd, 1) := by decide +kernel
theorem dX8_line_219 : decode cX8_line 219 = .ok (.putfield 168, 3) := by decide +kernel
theorem dX8_line_222 : decode cX8_line 222 = .ok (.aload_n 0, 1) := by decide +kernel
theorem dX8_line_223 : decode cX8_line 223 = .ok (.getfield 22, 3) := by decide +kernel
theorem dX8_line_226 : decode cX8_line 226 = .ok (.iconst 4, 1) := by decide +kernel
theorem dX8_line_227 : decode cX8_line 227 = .ok (.aload_n 0, 1) := by decide +kernel
theorem dX8_line_228 : decode cX8_line 228 = .ok (.getfield 182, 3) := by decide +kernel
theorem dX8_line_231 : decode cX8_line 231 = .ok (.imul, 1) := by decide +kernel
theorem dX8_line_232 : decode cX8_line 232 = .ok (.iconst 4, 1) := by decide +kernel
theorem dX8_line_233 : decode cX8_line 233 = .ok (.iastore, 1) := by decide +kernel
theorem dX8_line_234 : decode cX8_line 234 = .ok (.aload_n 0, 1) := by decide +kernel
theorem dX8_line_235 : decode cX8_line 235 = .ok (.invokevirtual 205, 3) := by decide +kernel
theorem dX8_line_238 : decode cX8_line 238 = .ok (.ifCond .eq 17, 3) := by decide +kernel
theorem dX8_line_241 : decode cX8_line 241 = .ok (.aload_n 0, 1) := by decide +kernel
theorem dX8_line_242 : decode cX8_line 242 = .ok (.iconst 2, 1) := by decide +kernel
theorem dX8_line_243 : decode cX8_line 243 = .ok (.bipush 23, 2) := by decide +kernel
theorem dX8_line_245 : decode cX8_line 245 = .ok (.invokevirtual 189, 3) := by decide +kernel
theorem dX8_line_248 : decode cX8_line 248 = .ok (.ifCond .eq 7, 3) := by decide +kernel
theorem dX8_line_251 : decode cX8_line 251 = .ok (.iconst 1, 1) := by decide +kernel
theorem dX8_line_252 : decode cX8_line 252 = .ok (.goto 4, 3) := by decide +kernel
theorem dX8_line_255 : decode cX8_line 255 = .ok (.iconst 0, 1) := by decide +kernel
theorem dX8_line_256 : decode cX8_line 256 = .ok (.ireturn, 1) := by decide +kernel
theorem dX8_line_257 : decode cX8_line 257 = .ok (.aload_n 0, 1) := by decide +kernel
theorem dX8_line_258 : decode cX8_line 258 = .ok (.iload_n 2, 1) := by decide +kernel
theorem dX8_line_259 : decode cX8_line 259 = .ok (.iload_n 1, 1) := by decide +kernel
theorem dX8_line_260 : decode cX8_line 260 = .ok (.invokevirtual 208, 3) := by decide +kernel
theorem dX8_line_263 : decode cX8_line 263 = .ok (.ireturn, 1) := by decide +kernel
def F_X8_line_b164  (Q : VP) (post : Int32 → VP → Prop)  (t0 : Int32) (t1 : Int32) : Prop :=
  (0 ≤ t1 ∧ t1 < 480) ∧ (∀ Q164 : VP, Q164 = vup Q 27 0 (ix t1) t0 → (F_X8_digits ((1 : Int32)) ((7 : Int32)) Q164 (fun r169 Q169 => (r169 = 0 → post ((0 : Int32)) Q169) ∧ (¬ r169 = 0 → F_X8_digits ((2 : Int32)) ((15 : Int32)) Q169 (fun r179 Q179 => (r179 = 0 → post ((0 : Int32)) Q179) ∧ (¬ r179 = 0 → F_X8_digits ((3 : Int32)) ((23 : Int32)) Q179 (fun r189 Q189 => (r189 = 0 → post ((0 : Int32)) Q189) ∧ (¬ r189 = 0 → post ((1 : Int32)) Q189))))))))
set_option maxRecDepth 4000 in
theorem s_X8_line_b164 {l : Launch} {g : vG}  {P Q : VP} {post : Int32 → VP → Prop}  {t0 : Int32} {t1 : Int32}    (h : F_X8_line_b164  Q post  t0 t1) : VM l g RX8 cX8_line 3 (some .boolean) 6 (vmI P post) 164 [(0, vR 22 0)] [vI t0, vI t1, vR 27 0] (vjn P Q) := by
  unfold F_X8_line_b164 at h
  have hi := h.1
  have h := h.2
  obtain ⟨Q164, eQ164⟩ : ∃ y : VP, y = vup Q 27 0 (ix t1) t0 := ⟨_, rfl⟩
  have h := h Q164 eQ164
  refine vr_iastQ 480 ia_27 rfl hi eQ164 dX8_line_164 ?_
  refine vr_aload_n 0 0 dX8_line_165 rfl rfl ?_
  refine vr_iconst 1 dX8_line_166 (by decide) ?_
  refine vr_bipush 7 dX8_line_167 (by decide) ?_
  refine vr_callV RX8 (s_X8_digits h) rfl (by decide) rfl rfl rfl ml_8_189 rfl yh_X8_digits rfl ⟨Nat.le_of_ble_eq_true rfl, Nat.le_of_ble_eq_true rfl⟩ (Nat.le_of_ble_eq_true rfl) ⟨Nat.zero_le _, Nat.zero_le _⟩ dX8_line_169 (kmi fun r169 Q169 h => ?_)
  refine vr_ifeq 199 dX8_line_172 (by decide) (fun c172 => ?_) (fun c172 => ?_)
  · have h := h.1 c172
    refine vr_iconst 0 dX8_line_199 (by decide) ?_
    exact vr_zret rfl (Or.inl rfl) ⟨_, _, rfl, rfl, h⟩ dX8_line_200
  · have h := h.2 c172
    refine vr_aload_n 0 0 dX8_line_175 rfl rfl ?_
    refine vr_iconst 2 dX8_line_176 (by decide) ?_
    refine vr_bipush 15 dX8_line_177 (by decide) ?_
    refine vr_callV RX8 (s_X8_digits h) rfl (by decide) rfl rfl rfl ml_8_189 rfl yh_X8_digits rfl ⟨Nat.le_of_ble_eq_true rfl, Nat.le_of_ble_eq_true rfl⟩ (Nat.le_of_ble_eq_true rfl) ⟨Nat.zero_le _, Nat.zero_le _⟩ dX8_line_179 (kmi fun r179 Q179 h => ?_)
    refine vr_ifeq 199 dX8_line_182 (by decide) (fun c182 => ?_) (fun c182 => ?_)
    · have h := h.1 c182
      refine vr_iconst 0 dX8_line_199 (by decide) ?_
      exact vr_zret rfl (Or.inl rfl) ⟨_, _, rfl, rfl, h⟩ dX8_line_200
    · have h := h.2 c182
      refine vr_aload_n 0 0 dX8_line_185 rfl rfl ?_
      refine vr_iconst 3 dX8_line_186 (by decide) ?_
      refine vr_bipush 23 dX8_line_187 (by decide) ?_
      refine vr_callV RX8 (s_X8_digits h) rfl (by decide) rfl rfl rfl ml_8_189 rfl yh_X8_digits rfl ⟨Nat.le_of_ble_eq_true rfl, Nat.le_of_ble_eq_true rfl⟩ (Nat.le_of_ble_eq_true rfl) ⟨Nat.zero_le _, Nat.zero_le _⟩ dX8_line_189 (kmi fun r189 Q189 h => ?_)
      refine vr_ifeq 199 dX8_line_192 (by decide) (fun c192 => ?_) (fun c192 => ?_)
      · have h := h.1 c192
        refine vr_iconst 0 dX8_line_199 (by decide) ?_
        exact vr_zret rfl (Or.inl rfl) ⟨_, _, rfl, rfl, h⟩ dX8_line_200
      · have h := h.2 c192
        refine vr_iconst 1 dX8_line_195 (by decide) ?_
        refine vr_goto 200 dX8_line_196 (by decide) ?_
        exact vr_zret rfl (Or.inr rfl) ⟨_, _, rfl, rfl, h⟩ dX8_line_200
def F_X8_line_b128  (Q : VP) (post : Int32 → VP → Prop)  (v1 : Int32) (v2 : Int32) : Prop :=
  ∀ Q135 : VP, Q135 = vup Q 22 0 8 ((Q 22 0 8) + v1) → (F_X8_is v2 v1 11 Q135 (fun r153 => (r153 = 0 → F_X8_line_b164  Q135 post  ((3 : Int32)) (4 * (Q135 22 0 11))) ∧ (¬ r153 = 0 → F_X8_line_b164  Q135 post  ((2 : Int32)) (4 * (Q135 22 0 11)))))
set_option maxRecDepth 4000 in
theorem s_X8_line_b128 {l : Launch} {g : vG}  {P Q : VP} {post : Int32 → VP → Prop}  {v1 : Int32} {v2 : Int32}    (h : F_X8_line_b128  Q post  v1 v2) : VM l g RX8 cX8_line 3 (some .boolean) 6 (vmI P post) 128 [(0, vR 22 0), (1, vI v1), (2, vI v2)] [] (vjn P Q) := by
  unfold F_X8_line_b128 at h
  refine vr_aload_n 0 0 dX8_line_128 rfl rfl ?_
  refine vr_dup dX8_line_129 rfl ?_
  refine vg_22_8 RX8 rfl (by decide) fl_8_168 dX8_line_130 ?_
  refine vr_iload_n 1 1 dX8_line_133 rfl rfl ?_
  refine vr_iadd dX8_line_134 ?_
  obtain ⟨Q135, eQ135⟩ : ∃ y : VP, y = vup Q 22 0 8 ((Q 22 0 8) + v1) := ⟨_, rfl⟩
  have h := h Q135 eQ135
  refine vp_22_8 RX8 rfl (by decide) fl_8_168 eQ135 dX8_line_135 ?_
  refine vr_aload_n 0 0 dX8_line_138 rfl rfl ?_
  refine vg_22_10 RX8 rfl (by decide) fl_8_22 dX8_line_139 ?_
  refine vr_iconst 4 dX8_line_142 (by decide) ?_
  refine vr_aload_n 0 0 dX8_line_143 rfl rfl ?_
  refine vg_22_11 RX8 rfl (by decide) fl_8_182 dX8_line_144 ?_
  refine vr_imul dX8_line_147 ?_
  refine vr_aload_n 0 0 dX8_line_148 rfl rfl ?_
  refine vr_iload_n 2 2 dX8_line_149 rfl rfl ?_
  refine vr_iload_n 1 1 dX8_line_150 rfl rfl ?_
  refine vr_ldcS (tx := "ptr") 11 (List.mem_of_getElem? (i := 34) rfl) dX8_line_151 ?_
  refine vr_callV RX8 (s_X8_is (by decide) h) rfl (by decide) rfl rfl rfl ml_8_185 rfl yh_X8_is rfl ⟨Nat.le_of_ble_eq_true rfl, Nat.le_of_ble_eq_true rfl⟩ (Nat.le_of_ble_eq_true rfl) ⟨Nat.zero_le _, Nat.zero_le _⟩ dX8_line_153 (ki fun r153 h => ?_)
  refine vr_ifeq 163 dX8_line_156 (by decide) (fun c156 => ?_) (fun c156 => ?_)
  · have h := h.1 c156
    refine vr_iconst 3 dX8_line_163 (by decide) ?_
    refine vr_sub [0] [(0, vR 22 0)] rfl ?_
    exact s_X8_line_b164   h
  · have h := h.2 c156
    refine vr_iconst 2 dX8_line_159 (by decide) ?_
    refine vr_goto 164 dX8_line_160 (by decide) ?_
    refine vr_sub [0] [(0, vR 22 0)] rfl ?_
    exact s_X8_line_b164   h
def F_X8_line_l2   (post : Int32 → VP → Prop)   (X : Int32 → VP → Prop) (v1 : Int32) (Q : VP) : Prop :=
  (v1 < 4 → (0 ≤ (4 * (Q 22 0 11)) + v1 ∧ (4 * (Q 22 0 11)) + v1 < 480) ∧ (∀ Q20 : VP, Q20 = vup Q 27 0 (ix ((4 * (Q 22 0 11)) + v1)) 0 → (X (v1 + 1) Q20))) ∧ (¬ v1 < 4 → F_X8_many (Q 22 0 8) ((97 : Int32)) ((122 : Int32)) Q (fun r36 => F_X8_is (Q 22 0 8) r36 13 Q (fun r50 => (r50 = 0 → F_X8_is (Q 22 0 8) r36 10 Q (fun r73 => (r73 = 0 → F_X8_is (Q 22 0 8) r36 11 Q (fun r111 => (r111 = 0 → F_X8_is (Q 22 0 8) r36 12 Q (fun r122 => (r122 = 0 → F_X8_is (Q 22 0 8) r36 14 Q (fun r206 => (r206 = 0 → F_X8_actLine (Q 22 0 8) r36 Q (fun r260 Q260 => (r260 = 0 ∨ r260 = 1) ∧ (post r260 Q260))) ∧ (¬ r206 = 0 → ∀ Q219 : VP, Q219 = vup Q 22 0 8 ((Q 22 0 8) + r36) → ((0 ≤ 4 * (Q219 22 0 11) ∧ 4 * (Q219 22 0 11) < 480) ∧ (∀ Q233 : VP, Q233 = vup Q219 27 0 (ix (4 * (Q219 22 0 11))) 4 → (F_X8_letter  Q233 (fun r235 Q235 => (r235 = 0 → post ((0 : Int32)) Q235) ∧ (¬ r235 = 0 → F_X8_digits ((2 : Int32)) ((23 : Int32)) Q235 (fun r245 Q245 => (r245 = 0 → post ((0 : Int32)) Q245) ∧ (¬ r245 = 0 → post ((1 : Int32)) Q245)))))))))) ∧ (¬ r122 = 0 → F_X8_line_b128  Q post  r36 (Q 22 0 8)))) ∧ (¬ r111 = 0 → F_X8_line_b128  Q post  r36 (Q 22 0 8)))) ∧ (¬ r73 = 0 → ∀ Q86 : VP, Q86 = vup Q 22 0 8 ((Q 22 0 8) + r36) → ((0 ≤ 4 * (Q86 22 0 11) ∧ 4 * (Q86 22 0 11) < 480) ∧ (∀ Q100 : VP, Q100 = vup Q86 27 0 (ix (4 * (Q86 22 0 11))) 1 → (F_X8_value  Q100 (fun r102 Q102 => (r102 = 0 ∨ r102 = 1) ∧ (post r102 Q102)))))))) ∧ (¬ r50 = 0 → ∀ Q63 : VP, Q63 = vup Q 22 0 8 ((Q 22 0 8) + r36) → (post ((1 : Int32)) Q63)))))
set_option maxRecDepth 4000 in
theorem s_X8_line_l2 {l : Launch} {g : vG}  {P : VP} {post : Int32 → VP → Prop}    {v1 : Int32} {Q : VP}   (h : vL2 (F_X8_line_l2   post  ) v1 Q) : VM l g RX8 cX8_line 3 (some .boolean) 6 (vmI P post) 2 [(0, vR 22 0), (1, vI v1)] [] (vjn P Q) := by
  refine vL2_s (T := fun v1 Q => VM l g RX8 cX8_line 3 (some .boolean) 6 (vmI P post) 2 [(0, vR 22 0), (1, vI v1)] [] (vjn P Q)) ?_ h
  clear h
  intro X hX v1 Q h
  unfold F_X8_line_l2 at h
  refine vr_iload_n 1 1 dX8_line_2 rfl rfl ?_
  refine vr_iconst 4 dX8_line_3 (by decide) ?_
  refine vr_icmpge 27 dX8_line_4 (by decide) (fun c4 => ?_) (fun c4 => ?_)
  · have h := h.1 c4
    refine vr_aload_n 0 0 dX8_line_7 rfl rfl ?_
    refine vg_22_10 RX8 rfl (by decide) fl_8_22 dX8_line_8 ?_
    refine vr_iconst 4 dX8_line_11 (by decide) ?_
    refine vr_aload_n 0 0 dX8_line_12 rfl rfl ?_
    refine vg_22_11 RX8 rfl (by decide) fl_8_182 dX8_line_13 ?_
    refine vr_imul dX8_line_16 ?_
    refine vr_iload_n 1 1 dX8_line_17 rfl rfl ?_
    refine vr_iadd dX8_line_18 ?_
    refine vr_iconst 0 dX8_line_19 (by decide) ?_
    have hi := h.1
    have h := h.2
    obtain ⟨Q20, eQ20⟩ : ∃ y : VP, y = vup Q 27 0 (ix ((4 * (Q 22 0 11)) + v1)) 0 := ⟨_, rfl⟩
    have h := h Q20 eQ20
    refine vr_iastQ 480 ia_27 rfl hi eQ20 dX8_line_20 ?_
    refine vr_iinc (v1 + 1) 1 [(1, vI (v1 + 1)), (0, vR 22 0)] dX8_line_21 rfl rfl (by decide) rfl ?_
    refine vr_goto 2 dX8_line_24 (by decide) ?_
    refine vr_sub [1, 0] [(0, vR 22 0), (1, vI (v1 + 1))] rfl ?_
    exact hX _ _ h
  · have h := h.2 c4
    refine vr_aload_n 0 0 dX8_line_27 rfl rfl ?_
    refine vr_aload_n 0 0 dX8_line_28 rfl rfl ?_
    refine vg_22_8 RX8 rfl (by decide) fl_8_168 dX8_line_29 ?_
    refine vr_bipush 97 dX8_line_32 (by decide) ?_
    refine vr_bipush 122 dX8_line_34 (by decide) ?_
    refine vr_callV RX8 (s_X8_many h) rfl (by decide) rfl rfl rfl ml_8_178 rfl yh_X8_many rfl ⟨Nat.le_of_ble_eq_true rfl, Nat.le_of_ble_eq_true rfl⟩ (Nat.le_of_ble_eq_true rfl) ⟨Nat.zero_le _, Nat.zero_le _⟩ dX8_line_36 (ki fun r36 h => ?_)
    refine vr_istore_n 1 [(1, vI r36), (0, vR 22 0)] dX8_line_39 rfl (by decide) rfl ?_
    refine vr_aload_n 0 1 dX8_line_40 rfl rfl ?_
    refine vg_22_8 RX8 rfl (by decide) fl_8_168 dX8_line_41 ?_
    refine vr_istore_n 2 [(2, vI (Q 22 0 8)), (1, vI r36), (0, vR 22 0)] dX8_line_44 rfl (by decide) rfl ?_
    refine vr_aload_n 0 2 dX8_line_45 rfl rfl ?_
    refine vr_iload_n 2 0 dX8_line_46 rfl rfl ?_
    refine vr_iload_n 1 1 dX8_line_47 rfl rfl ?_
    refine vr_ldcS (tx := "none") 13 (List.mem_of_getElem? (i := 32) rfl) dX8_line_48 ?_
    refine vr_callV RX8 (s_X8_is (by decide) h) rfl (by decide) rfl rfl rfl ml_8_185 rfl yh_X8_is rfl ⟨Nat.le_of_ble_eq_true rfl, Nat.le_of_ble_eq_true rfl⟩ (Nat.le_of_ble_eq_true rfl) ⟨Nat.zero_le _, Nat.zero_le _⟩ dX8_line_50 (ki fun r50 h => ?_)
    refine vr_ifeq 68 dX8_line_53 (by decide) (fun c53 => ?_) (fun c53 => ?_)
    · have h := h.1 c53
      refine vr_aload_n 0 2 dX8_line_68 rfl rfl ?_
      refine vr_iload_n 2 0 dX8_line_69 rfl rfl ?_
      refine vr_iload_n 1 1 dX8_line_70 rfl rfl ?_
      refine vr_ldcS (tx := "num") 10 (List.mem_of_getElem? (i := 33) rfl) dX8_line_71 ?_
      refine vr_callV RX8 (s_X8_is (by decide) h) rfl (by decide) rfl rfl rfl ml_8_185 rfl yh_X8_is rfl ⟨Nat.le_of_ble_eq_true rfl, Nat.le_of_ble_eq_true rfl⟩ (Nat.le_of_ble_eq_true rfl) ⟨Nat.zero_le _, Nat.zero_le _⟩ dX8_line_73 (ki fun r73 h => ?_)
      refine vr_ifeq 106 dX8_line_76 (by decide) (fun c76 => ?_) (fun c76 => ?_)
      · have h := h.1 c76
        refine vr_aload_n 0 2 dX8_line_106 rfl rfl ?_
        refine vr_iload_n 2 0 dX8_line_107 rfl rfl ?_
        refine vr_iload_n 1 1 dX8_line_108 rfl rfl ?_
        refine vr_ldcS (tx := "ptr") 11 (List.mem_of_getElem? (i := 34) rfl) dX8_line_109 ?_
        refine vr_callV RX8 (s_X8_is (by decide) h) rfl (by decide) rfl rfl rfl ml_8_185 rfl yh_X8_is rfl ⟨Nat.le_of_ble_eq_true rfl, Nat.le_of_ble_eq_true rfl⟩ (Nat.le_of_ble_eq_true rfl) ⟨Nat.zero_le _, Nat.zero_le _⟩ dX8_line_111 (ki fun r111 h => ?_)
        refine vr_ifne 128 dX8_line_114 (by decide) (fun c114 => ?_) (fun c114 => ?_)
        · have h := h.1 c114
          refine vr_aload_n 0 2 dX8_line_117 rfl rfl ?_
          refine vr_iload_n 2 0 dX8_line_118 rfl rfl ?_
          refine vr_iload_n 1 1 dX8_line_119 rfl rfl ?_
          refine vr_ldcS (tx := "ind") 12 (List.mem_of_getElem? (i := 35) rfl) dX8_line_120 ?_
          refine vr_callV RX8 (s_X8_is (by decide) h) rfl (by decide) rfl rfl rfl ml_8_185 rfl yh_X8_is rfl ⟨Nat.le_of_ble_eq_true rfl, Nat.le_of_ble_eq_true rfl⟩ (Nat.le_of_ble_eq_true rfl) ⟨Nat.zero_le _, Nat.zero_le _⟩ dX8_line_122 (ki fun r122 h => ?_)
          refine vr_ifeq 201 dX8_line_125 (by decide) (fun c125 => ?_) (fun c125 => ?_)
          · have h := h.1 c125
            refine vr_aload_n 0 2 dX8_line_201 rfl rfl ?_
            refine vr_iload_n 2 0 dX8_line_202 rfl rfl ?_
            refine vr_iload_n 1 1 dX8_line_203 rfl rfl ?_
            refine vr_ldcS (tx := "link") 14 (List.mem_of_getElem? (i := 36) rfl) dX8_line_204 ?_
            refine vr_callV RX8 (s_X8_is (by decide) h) rfl (by decide) rfl rfl rfl ml_8_185 rfl yh_X8_is rfl ⟨Nat.le_of_ble_eq_true rfl, Nat.le_of_ble_eq_true rfl⟩ (Nat.le_of_ble_eq_true rfl) ⟨Nat.zero_le _, Nat.zero_le _⟩ dX8_line_206 (ki fun r206 h => ?_)
            refine vr_ifeq 257 dX8_line_209 (by decide) (fun c209 => ?_) (fun c209 => ?_)
            · have h := h.1 c209
              refine vr_aload_n 0 2 dX8_line_257 rfl rfl ?_
              refine vr_iload_n 2 0 dX8_line_258 rfl rfl ?_
              refine vr_iload_n 1 1 dX8_line_259 rfl rfl ?_
              refine vr_callV RX8 (s_X8_actLine h) rfl (by decide) rfl rfl rfl ml_8_208 rfl yh_X8_actLine rfl ⟨Nat.le_of_ble_eq_true rfl, Nat.le_of_ble_eq_true rfl⟩ (Nat.le_of_ble_eq_true rfl) ⟨Nat.zero_le _, Nat.zero_le _⟩ dX8_line_260 (kmi fun r260 Q260 h => ?_)
              have hb := h.1
              have h := h.2
              exact vr_zret rfl hb ⟨_, _, rfl, rfl, h⟩ dX8_line_263
            · have h := h.2 c209
              refine vr_aload_n 0 2 dX8_line_212 rfl rfl ?_
              refine vr_dup dX8_line_213 rfl ?_
              refine vg_22_8 RX8 rfl (by decide) fl_8_168 dX8_line_214 ?_
              refine vr_iload_n 1 1 dX8_line_217 rfl rfl ?_
              refine vr_iadd dX8_line_218 ?_
              obtain ⟨Q219, eQ219⟩ : ∃ y : VP, y = vup Q 22 0 8 ((Q 22 0 8) + r36) := ⟨_, rfl⟩
              have h := h Q219 eQ219
              refine vp_22_8 RX8 rfl (by decide) fl_8_168 eQ219 dX8_line_219 ?_
              refine vr_aload_n 0 2 dX8_line_222 rfl rfl ?_
              refine vg_22_10 RX8 rfl (by decide) fl_8_22 dX8_line_223 ?_
              refine vr_iconst 4 dX8_line_226 (by decide) ?_
              refine vr_aload_n 0 2 dX8_line_227 rfl rfl ?_
              refine vg_22_11 RX8 rfl (by decide) fl_8_182 dX8_line_228 ?_
              refine vr_imul dX8_line_231 ?_
              refine vr_iconst 4 dX8_line_232 (by decide) ?_
              have hi := h.1
              have h := h.2
              obtain ⟨Q233, eQ233⟩ : ∃ y : VP, y = vup Q219 27 0 (ix (4 * (Q219 22 0 11))) 4 := ⟨_, rfl⟩
              have h := h Q233 eQ233
              refine vr_iastQ 480 ia_27 rfl hi eQ233 dX8_line_233 ?_
              refine vr_aload_n 0 2 dX8_line_234 rfl rfl ?_
              refine vr_callV RX8 (s_X8_letter h) rfl (by decide) rfl rfl rfl ml_8_205 rfl yh_X8_letter rfl ⟨Nat.le_of_ble_eq_true rfl, Nat.le_of_ble_eq_true rfl⟩ (Nat.le_of_ble_eq_true rfl) ⟨Nat.zero_le _, Nat.zero_le _⟩ dX8_line_235 (kmi fun r235 Q235 h => ?_)
              refine vr_ifeq 255 dX8_line_238 (by decide) (fun c238 => ?_) (fun c238 => ?_)
              · have h := h.1 c238
                refine vr_iconst 0 dX8_line_255 (by decide) ?_
                exact vr_zret rfl (Or.inl rfl) ⟨_, _, rfl, rfl, h⟩ dX8_line_256
              · have h := h.2 c238
                refine vr_aload_n 0 2 dX8_line_241 rfl rfl ?_
                refine vr_iconst 2 dX8_line_242 (by decide) ?_
                refine vr_bipush 23 dX8_line_243 (by decide) ?_
                refine vr_callV RX8 (s_X8_digits h) rfl (by decide) rfl rfl rfl ml_8_189 rfl yh_X8_digits rfl ⟨Nat.le_of_ble_eq_true rfl, Nat.le_of_ble_eq_true rfl⟩ (Nat.le_of_ble_eq_true rfl) ⟨Nat.zero_le _, Nat.zero_le _⟩ dX8_line_245 (kmi fun r245 Q245 h => ?_)
                refine vr_ifeq 255 dX8_line_248 (by decide) (fun c248 => ?_) (fun c248 => ?_)
                · have h := h.1 c248
                  refine vr_iconst 0 dX8_line_255 (by decide) ?_
                  exact vr_zret rfl (Or.inl rfl) ⟨_, _, rfl, rfl, h⟩ dX8_line_256
                · have h := h.2 c248
                  refine vr_iconst 1 dX8_line_251 (by decide) ?_
                  refine vr_goto 256 dX8_line_252 (by decide) ?_
                  exact vr_zret rfl (Or.inr rfl) ⟨_, _, rfl, rfl, h⟩ dX8_line_256
          · have h := h.2 c125
            refine vr_sub [2, 1, 0] [(0, vR 22 0), (1, vI r36), (2, vI (Q 22 0 8))] rfl ?_
            exact s_X8_line_b128   h
        · have h := h.2 c114
          refine vr_sub [2, 1, 0] [(0, vR 22 0), (1, vI r36), (2, vI (Q 22 0 8))] rfl ?_
          exact s_X8_line_b128   h
      · have h := h.2 c76
        refine vr_aload_n 0 2 dX8_line_79 rfl rfl ?_
        refine vr_dup dX8_line_80 rfl ?_
        refine vg_22_8 RX8 rfl (by decide) fl_8_168 dX8_line_81 ?_
        refine vr_iload_n 1 1 dX8_line_84 rfl rfl ?_
        refine vr_iadd dX8_line_85 ?_
        obtain ⟨Q86, eQ86⟩ : ∃ y : VP, y = vup Q 22 0 8 ((Q 22 0 8) + r36) := ⟨_, rfl⟩
        have h := h Q86 eQ86
        refine vp_22_8 RX8 rfl (by decide) fl_8_168 eQ86 dX8_line_86 ?_
        refine vr_aload_n 0 2 dX8_line_89 rfl rfl ?_
        refine vg_22_10 RX8 rfl (by decide) fl_8_22 dX8_line_90 ?_
        refine vr_iconst 4 dX8_line_93 (by decide) ?_
        refine vr_aload_n 0 2 dX8_line_94 rfl rfl ?_
        refine vg_22_11 RX8 rfl (by decide) fl_8_182 dX8_line_95 ?_
        refine vr_imul dX8_line_98 ?_
        refine vr_iconst 1 dX8_line_99 (by decide) ?_
        have hi := h.1
        have h := h.2
        obtain ⟨Q100, eQ100⟩ : ∃ y : VP, y = vup Q86 27 0 (ix (4 * (Q86 22 0 11))) 1 := ⟨_, rfl⟩
        have h := h Q100 eQ100
        refine vr_iastQ 480 ia_27 rfl hi eQ100 dX8_line_100 ?_
        refine vr_aload_n 0 2 dX8_line_101 rfl rfl ?_
        refine vr_callV RX8 (s_X8_value h) rfl (by decide) rfl rfl rfl ml_8_196 rfl yh_X8_value rfl ⟨Nat.le_of_ble_eq_true rfl, Nat.le_of_ble_eq_true rfl⟩ (Nat.le_of_ble_eq_true rfl) ⟨Nat.zero_le _, Nat.zero_le _⟩ dX8_line_102 (kmi fun r102 Q102 h => ?_)
        have hb := h.1
        have h := h.2
        exact vr_zret rfl hb ⟨_, _, rfl, rfl, h⟩ dX8_line_105
    · have h := h.2 c53
      refine vr_aload_n 0 2 dX8_line_56 rfl rfl ?_
      refine vr_dup dX8_line_57 rfl ?_
      refine vg_22_8 RX8 rfl (by decide) fl_8_168 dX8_line_58 ?_
      refine vr_iload_n 1 1 dX8_line_61 rfl rfl ?_
      refine vr_iadd dX8_line_62 ?_
      obtain ⟨Q63, eQ63⟩ : ∃ y : VP, y = vup Q 22 0 8 ((Q 22 0 8) + r36) := ⟨_, rfl⟩
      have h := h Q63 eQ63
      refine vp_22_8 RX8 rfl (by decide) fl_8_168 eQ63 dX8_line_63 ?_
      refine vr_iconst 1 dX8_line_66 (by decide) ?_
      exact vr_zret rfl (Or.inr rfl) ⟨_, _, rfl, rfl, h⟩ dX8_line_67
def F_X8_line  (Q : VP) (post : Int32 → VP → Prop) : Prop :=
  vL2 (F_X8_line_l2   post  ) ((0 : Int32)) Q
set_option maxRecDepth 4000 in
theorem s_X8_line {l : Launch} {g : vG}  {P Q : VP} {post : Int32 → VP → Prop}  (h : F_X8_line  Q post) : VC l g yX8_line cX8_line 3 (some .boolean) 6 [vR 22 0] (vjn P Q) (vmI P post) := by
  refine VC.of (by decide +kernel) (Nat.le_of_ble_eq_true rfl) (show VM l g RX8 cX8_line 3 (some .boolean) 6 (vmI P post) 0 [(0, vR 22 0)] [] (vjn P Q) from ?_)
  unfold F_X8_line at h
  refine vr_iconst 0 dX8_line_0 (by decide) ?_
  refine vr_istore_n 1 [(1, vI 0), (0, vR 22 0)] dX8_line_1 rfl (by decide) rfl ?_
  refine vr_sub [1, 0] [(0, vR 22 0), (1, vI 0)] rfl ?_
  exact s_X8_line_l2   h
theorem dX8_isText_0 : decode cX8_isText 0 = .ok (.aload_n 0, 1) := by decide +kernel
theorem dX8_isText_1 : decode cX8_isText 1 = .ok (.iconst 0, 1) := by decide +kernel
theorem dX8_isText_2 : decode cX8_isText 2 = .ok (.putfield 168, 3) := by decide +kernel
theorem dX8_isText_5 : decode cX8_isText 5 = .ok (.aload_n 0, 1) := by decide +kernel
theorem dX8_isText_6 : decode cX8_isText 6 = .ok (.iconst (-1), 1) := by decide +kernel
theorem dX8_isText_7 : decode cX8_isText 7 = .ok (.putfield 165, 3) := by decide +kernel
theorem dX8_isText_10 : decode cX8_isText 10 = .ok (.aload_n 0, 1) := by decide +kernel
theorem dX8_isText_11 : decode cX8_isText 11 = .ok (.iconst 0, 1) := by decide +kernel
theorem dX8_isText_12 : decode cX8_isText 12 = .ok (.putfield 182, 3) := by decide +kernel
theorem dX8_isText_15 : decode cX8_isText 15 = .ok (.aload_n 0, 1) := by decide +kernel
theorem dX8_isText_16 : decode cX8_isText 16 = .ok (.invokevirtual 211, 3) := by decide +kernel
theorem dX8_isText_19 : decode cX8_isText 19 = .ok (.ifCond .eq 37, 3) := by decide +kernel
theorem dX8_isText_22 : decode cX8_isText 22 = .ok (.aload_n 0, 1) := by decide +kernel
theorem dX8_isText_23 : decode cX8_isText 23 = .ok (.dup, 1) := by decide +kernel
theorem dX8_isText_24 : decode cX8_isText 24 = .ok (.getfield 182, 3) := by decide +kernel
theorem dX8_isText_27 : decode cX8_isText 27 = .ok (.iconst 1, 1) := by decide +kernel
theorem dX8_isText_28 : decode cX8_isText 28 = .ok (.iadd, 1) := by decide +kernel
theorem dX8_isText_29 : decode cX8_isText 29 = .ok (.putfield 182, 3) := by decide +kernel
theorem dX8_isText_32 : decode cX8_isText 32 = .ok (.aload_n 0, 1) := by decide +kernel
theorem dX8_isText_33 : decode cX8_isText 33 = .ok (.getfield 168, 3) := by decide +kernel
theorem dX8_isText_36 : decode cX8_isText 36 = .ok (.aload_n 0, 1) := by decide +kernel
theorem dX8_isText_37 : decode cX8_isText 37 = .ok (.getfield 152, 3) := by decide +kernel
theorem dX8_isText_40 : decode cX8_isText 40 = .ok (.if_icmp .ne 5, 3) := by decide +kernel
theorem dX8_isText_43 : decode cX8_isText 43 = .ok (.iconst 1, 1) := by decide +kernel
theorem dX8_isText_44 : decode cX8_isText 44 = .ok (.ireturn, 1) := by decide +kernel
theorem dX8_isText_45 : decode cX8_isText 45 = .ok (.aload_n 0, 1) := by decide +kernel
theorem dX8_isText_46 : decode cX8_isText 46 = .ok (.bipush 59, 2) := by decide +kernel
theorem dX8_isText_48 : decode cX8_isText 48 = .ok (.invokevirtual 175, 3) := by decide +kernel
theorem dX8_isText_51 : decode cX8_isText 51 = .ok (.ifCond .ne (-36), 3) := by decide +kernel
theorem dX8_isText_54 : decode cX8_isText 54 = .ok (.iconst 0, 1) := by decide +kernel
theorem dX8_isText_55 : decode cX8_isText 55 = .ok (.ireturn, 1) := by decide +kernel
theorem dX8_isText_56 : decode cX8_isText 56 = .ok (.iconst 0, 1) := by decide +kernel
theorem dX8_isText_57 : decode cX8_isText 57 = .ok (.ireturn, 1) := by decide +kernel
def F_X8_isText_l15   (post : Int32 → VP → Prop)   (X : VP → Prop)  (Q : VP) : Prop :=
  F_X8_line  Q (fun r16 Q16 => (r16 = 0 → post ((0 : Int32)) Q16) ∧ (¬ r16 = 0 → ∀ Q29 : VP, Q29 = vup Q16 22 0 11 ((Q16 22 0 11) + 1) → ((Q29 22 0 8 = Q29 22 0 7 → post ((1 : Int32)) Q29) ∧ (¬ Q29 22 0 8 = Q29 22 0 7 → F_X8_sign ((59 : Int32)) Q29 (fun r48 Q48 => (r48 = 0 → post ((0 : Int32)) Q48) ∧ (¬ r48 = 0 → X  Q48))))))
set_option maxRecDepth 4000 in
theorem s_X8_isText_l15 {l : Launch} {g : vG}  {P : VP} {post : Int32 → VP → Prop}     {Q : VP}   (h : vL1 (F_X8_isText_l15   post  )  Q) : VM l g RX8 cX8_isText 1 (some .boolean) 7 (vmI P post) 15 [(0, vR 22 0)] [] (vjn P Q) := by
  refine vL1_s (T := fun  Q => VM l g RX8 cX8_isText 1 (some .boolean) 7 (vmI P post) 15 [(0, vR 22 0)] [] (vjn P Q)) ?_ h
  clear h
  intro X hX  Q h
  unfold F_X8_isText_l15 at h
  refine vr_aload_n 0 0 dX8_isText_15 rfl rfl ?_
  refine vr_callV RX8 (s_X8_line h) rfl (by decide) rfl rfl rfl ml_8_211 rfl yh_X8_line rfl ⟨Nat.le_of_ble_eq_true rfl, Nat.le_of_ble_eq_true rfl⟩ (Nat.le_of_ble_eq_true rfl) ⟨Nat.zero_le _, Nat.zero_le _⟩ dX8_isText_16 (kmi fun r16 Q16 h => ?_)
  refine vr_ifeq 56 dX8_isText_19 (by decide) (fun c19 => ?_) (fun c19 => ?_)
  · have h := h.1 c19
    refine vr_iconst 0 dX8_isText_56 (by decide) ?_
    exact vr_zret rfl (Or.inl rfl) ⟨_, _, rfl, rfl, h⟩ dX8_isText_57
  · have h := h.2 c19
    refine vr_aload_n 0 0 dX8_isText_22 rfl rfl ?_
    refine vr_dup dX8_isText_23 rfl ?_
    refine vg_22_11 RX8 rfl (by decide) fl_8_182 dX8_isText_24 ?_
    refine vr_iconst 1 dX8_isText_27 (by decide) ?_
    refine vr_iadd dX8_isText_28 ?_
    obtain ⟨Q29, eQ29⟩ : ∃ y : VP, y = vup Q16 22 0 11 ((Q16 22 0 11) + 1) := ⟨_, rfl⟩
    have h := h Q29 eQ29
    refine vp_22_11 RX8 rfl (by decide) fl_8_182 eQ29 dX8_isText_29 ?_
    refine vr_aload_n 0 0 dX8_isText_32 rfl rfl ?_
    refine vg_22_8 RX8 rfl (by decide) fl_8_168 dX8_isText_33 ?_
    refine vr_aload_n 0 0 dX8_isText_36 rfl rfl ?_
    refine vg_22_7 RX8 rfl (by decide) fl_8_152 dX8_isText_37 ?_
    refine vr_icmpne 45 dX8_isText_40 (by decide) (fun c40 => ?_) (fun c40 => ?_)
    · have h := h.1 c40
      refine vr_iconst 1 dX8_isText_43 (by decide) ?_
      exact vr_zret rfl (Or.inr rfl) ⟨_, _, rfl, rfl, h⟩ dX8_isText_44
    · have h := h.2 c40
      refine vr_aload_n 0 0 dX8_isText_45 rfl rfl ?_
      refine vr_bipush 59 dX8_isText_46 (by decide) ?_
      refine vr_callV RX8 (s_X8_sign h) rfl (by decide) rfl rfl rfl ml_8_175 rfl yh_X8_sign rfl ⟨Nat.le_of_ble_eq_true rfl, Nat.le_of_ble_eq_true rfl⟩ (Nat.le_of_ble_eq_true rfl) ⟨Nat.zero_le _, Nat.zero_le _⟩ dX8_isText_48 (kmi fun r48 Q48 h => ?_)
      refine vr_ifne 15 dX8_isText_51 (by decide) (fun c51 => ?_) (fun c51 => ?_)
      · have h := h.1 c51
        refine vr_iconst 0 dX8_isText_54 (by decide) ?_
        exact vr_zret rfl (Or.inl rfl) ⟨_, _, rfl, rfl, h⟩ dX8_isText_55
      · have h := h.2 c51
        exact hX _ h
def F_X8_isText  (Q : VP) (post : Int32 → VP → Prop) : Prop :=
  ∀ Q2 : VP, Q2 = vup Q 22 0 8 0 → (∀ Q7 : VP, Q7 = vup Q2 22 0 9 ((-1)) → (∀ Q12 : VP, Q12 = vup Q7 22 0 11 0 → (vL1 (F_X8_isText_l15   post  )  Q12)))
set_option maxRecDepth 4000 in
theorem s_X8_isText {l : Launch} {g : vG}  {P Q : VP} {post : Int32 → VP → Prop}  (h : F_X8_isText  Q post) : VC l g yX8_isText cX8_isText 1 (some .boolean) 7 [vR 22 0] (vjn P Q) (vmI P post) := by
  refine VC.of (by decide +kernel) (Nat.le_of_ble_eq_true rfl) (show VM l g RX8 cX8_isText 1 (some .boolean) 7 (vmI P post) 0 [(0, vR 22 0)] [] (vjn P Q) from ?_)
  unfold F_X8_isText at h
  refine vr_aload_n 0 0 dX8_isText_0 rfl rfl ?_
  refine vr_iconst 0 dX8_isText_1 (by decide) ?_
  obtain ⟨Q2, eQ2⟩ : ∃ y : VP, y = vup Q 22 0 8 0 := ⟨_, rfl⟩
  have h := h Q2 eQ2
  refine vp_22_8 RX8 rfl (by decide) fl_8_168 eQ2 dX8_isText_2 ?_
  refine vr_aload_n 0 0 dX8_isText_5 rfl rfl ?_
  refine vr_iconst (-1) dX8_isText_6 (by decide) ?_
  obtain ⟨Q7, eQ7⟩ : ∃ y : VP, y = vup Q2 22 0 9 ((-1)) := ⟨_, rfl⟩
  have h := h Q7 eQ7
  refine vp_22_9 RX8 rfl (by decide) fl_8_165 eQ7 dX8_isText_7 ?_
  refine vr_aload_n 0 0 dX8_isText_10 rfl rfl ?_
  refine vr_iconst 0 dX8_isText_11 (by decide) ?_
  obtain ⟨Q12, eQ12⟩ : ∃ y : VP, y = vup Q7 22 0 11 0 := ⟨_, rfl⟩
  have h := h Q12 eQ12
  refine vp_22_11 RX8 rfl (by decide) fl_8_182 eQ12 dX8_isText_12 ?_
  exact s_X8_isText_l15   h
theorem dX8_load_0 : decode cX8_load 0 = .ok (.aload_n 0, 1) := by decide +kernel
theorem dX8_load_1 : decode cX8_load 1 = .ok (.iload_n 1, 1) := by decide +kernel
theorem dX8_load_2 : decode cX8_load 2 = .ok (.invokevirtual 95, 3) := by decide +kernel
theorem dX8_load_5 : decode cX8_load 5 = .ok (.ifCond .eq 7, 3) := by decide +kernel
theorem dX8_load_8 : decode cX8_load 8 = .ok (.iload_n 2, 1) := by decide +kernel
theorem dX8_load_9 : decode cX8_load 9 = .ok (.ifCond .ge 5, 3) := by decide +kernel
theorem dX8_load_12 : decode cX8_load 12 = .ok (.iconst (-1), 1) := by decide +kernel
theorem dX8_load_13 : decode cX8_load 13 = .ok (.ireturn, 1) := by decide +kernel
theorem dX8_load_14 : decode cX8_load 14 = .ok (.aload_n 0, 1) := by decide +kernel
theorem dX8_load_15 : decode cX8_load 15 = .ok (.aload_n 0, 1) := by decide +kernel
theorem dX8_load_16 : decode cX8_load 16 = .ok (.getfield 148, 3) := by decide +kernel
theorem dX8_load_19 : decode cX8_load 19 = .ok (.putfield 152, 3) := by decide +kernel
theorem dX8_load_22 : decode cX8_load 22 = .ok (.aload_n 0, 1) := by decide +kernel
theorem dX8_load_23 : decode cX8_load 23 = .ok (.iconst 0, 1) := by decide +kernel
theorem dX8_load_24 : decode cX8_load 24 = .ok (.putfield 148, 3) := by decide +kernel
theorem dX8_load_27 : decode cX8_load 27 = .ok (.aload_n 0, 1) := by decide +kernel
theorem dX8_load_28 : decode cX8_load 28 = .ok (.invokevirtual 214, 3) := by decide +kernel
theorem dX8_load_31 : decode cX8_load 31 = .ok (.ifCond .ne 11, 3) := by decide +kernel
theorem dX8_load_34 : decode cX8_load 34 = .ok (.bipush (-100), 2) := by decide +kernel
theorem dX8_load_36 : decode cX8_load 36 = .ok (.aload_n 0, 1) := by decide +kernel
theorem dX8_load_37 : decode cX8_load 37 = .ok (.getfield 165, 3) := by decide +kernel
theorem dX8_load_40 : decode cX8_load 40 = .ok (.isub, 1) := by decide +kernel
theorem dX8_load_41 : decode cX8_load 41 = .ok (.ireturn, 1) := by decide +kernel
theorem dX8_load_42 : decode cX8_load 42 = .ok (.iload_n 2, 1) := by decide +kernel
theorem dX8_load_43 : decode cX8_load 43 = .ok (.aload_n 0, 1) := by decide +kernel
theorem dX8_load_44 : decode cX8_load 44 = .ok (.getfield 9, 3) := by decide +kernel
theorem dX8_load_47 : decode cX8_load 47 = .ok (.bipush 96, 2) := by decide +kernel
theorem dX8_load_49 : decode cX8_load 49 = .ok (.iload_n 1, 1) := by decide +kernel
theorem dX8_load_50 : decode cX8_load 50 = .ok (.iadd, 1) := by decide +kernel
theorem dX8_load_51 : decode cX8_load 51 = .ok (.iaload, 1) := by decide +kernel
theorem dX8_load_52 : decode cX8_load 52 = .ok (.if_icmp .gt 21, 3) := by decide +kernel
theorem dX8_load_55 : decode cX8_load 55 = .ok (.aload_n 0, 1) := by decide +kernel
theorem dX8_load_56 : decode cX8_load 56 = .ok (.getfield 182, 3) := by decide +kernel
theorem dX8_load_59 : decode cX8_load 59 = .ok (.aload_n 0, 1) := by decide +kernel
theorem dX8_load_60 : decode cX8_load 60 = .ok (.getfield 9, 3) := by decide +kernel
theorem dX8_load_63 : decode cX8_load 63 = .ok (.bipush 96, 2) := by decide +kernel
theorem dX8_load_65 : decode cX8_load 65 = .ok (.iload_n 1, 1) := by decide +kernel
theorem dX8_load_66 : decode cX8_load 66 = .ok (.iadd, 1) := by decide +kernel
theorem dX8_load_67 : decode cX8_load 67 = .ok (.iaload, 1) := by decide +kernel
theorem dX8_load_68 : decode cX8_load 68 = .ok (.iload_n 2, 1) := by decide +kernel
theorem dX8_load_69 : decode cX8_load 69 = .ok (.isub, 1) := by decide +kernel
theorem dX8_load_70 : decode cX8_load 70 = .ok (.if_icmp .le 6, 3) := by decide +kernel
theorem dX8_load_73 : decode cX8_load 73 = .ok (.bipush (-13), 2) := by decide +kernel
theorem dX8_load_75 : decode cX8_load 75 = .ok (.ireturn, 1) := by decide +kernel
theorem dX8_load_76 : decode cX8_load 76 = .ok (.iconst 0, 1) := by decide +kernel
theorem dX8_load_77 : decode cX8_load 77 = .ok (.istore_n 3, 1) := by decide +kernel
theorem dX8_load_78 : decode cX8_load 78 = .ok (.iload_n 3, 1) := by decide +kernel
theorem dX8_load_79 : decode cX8_load 79 = .ok (.aload_n 0, 1) := by decide +kernel
theorem dX8_load_80 : decode cX8_load 80 = .ok (.getfield 182, 3) := by decide +kernel
theorem dX8_load_83 : decode cX8_load 83 = .ok (.if_icmp .ge 60, 3) := by decide +kernel
theorem dX8_load_86 : decode cX8_load 86 = .ok (.aload_n 0, 1) := by decide +kernel
theorem dX8_load_87 : decode cX8_load 87 = .ok (.getfield 9, 3) := by decide +kernel
theorem dX8_load_90 : decode cX8_load 90 = .ok (.iload_n 1, 1) := by decide +kernel
theorem dX8_load_91 : decode cX8_load 91 = .ok (.iload_n 2, 1) := by decide +kernel
theorem dX8_load_92 : decode cX8_load 92 = .ok (.iload_n 3, 1) := by decide +kernel
theorem dX8_load_93 : decode cX8_load 93 = .ok (.iadd, 1) := by decide +kernel
theorem dX8_load_94 : decode cX8_load 94 = .ok (.aload_n 0, 1) := by decide +kernel
theorem dX8_load_95 : decode cX8_load 95 = .ok (.getfield 22, 3) := by decide +kernel
theorem dX8_load_98 : decode cX8_load 98 = .ok (.iconst 4, 1) := by decide +kernel
theorem dX8_load_99 : decode cX8_load 99 = .ok (.iload_n 3, 1) := by decide +kernel
theorem dX8_load_100 : decode cX8_load 100 = .ok (.imul, 1) := by decide +kernel
theorem dX8_load_101 : decode cX8_load 101 = .ok (.iaload, 1) := by decide +kernel
theorem dX8_load_102 : decode cX8_load 102 = .ok (.aload_n 0, 1) := by decide +kernel
theorem dX8_load_103 : decode cX8_load 103 = .ok (.getfield 22, 3) := by decide +kernel
theorem dX8_load_106 : decode cX8_load 106 = .ok (.iconst 4, 1) := by decide +kernel
theorem dX8_load_107 : decode cX8_load 107 = .ok (.iload_n 3, 1) := by decide +kernel
theorem dX8_load_108 : decode cX8_load 108 = .ok (.imul, 1) := by decide +kernel
theorem dX8_load_109 : decode cX8_load 109 = .ok (.iconst 1, 1) := by decide +kernel
theorem dX8_load_110 : decode cX8_load 110 = .ok (.iadd, 1) := by decide +kernel
theorem dX8_load_111 : decode cX8_load 111 = .ok (.iaload, 1) := by decide +kernel
theorem dX8_load_112 : decode cX8_load 112 = .ok (.aload_n 0, 1) := by decide +kernel
theorem dX8_load_113 : decode cX8_load 113 = .ok (.getfield 22, 3) := by decide +kernel
theorem dX8_load_116 : decode cX8_load 116 = .ok (.iconst 4, 1) := by decide +kernel
theorem dX8_load_117 : decode cX8_load 117 = .ok (.iload_n 3, 1) := by decide +kernel
theorem dX8_load_118 : decode cX8_load 118 = .ok (.imul, 1) := by decide +kernel
theorem dX8_load_119 : decode cX8_load 119 = .ok (.iconst 2, 1) := by decide +kernel
theorem dX8_load_120 : decode cX8_load 120 = .ok (.iadd, 1) := by decide +kernel
theorem dX8_load_121 : decode cX8_load 121 = .ok (.iaload, 1) := by decide +kernel
theorem dX8_load_122 : decode cX8_load 122 = .ok (.aload_n 0, 1) := by decide +kernel
theorem dX8_load_123 : decode cX8_load 123 = .ok (.getfield 22, 3) := by decide +kernel
theorem dX8_load_126 : decode cX8_load 126 = .ok (.iconst 4, 1) := by decide +kernel
theorem dX8_load_127 : decode cX8_load 127 = .ok (.iload_n 3, 1) := by decide +kernel
theorem dX8_load_128 : decode cX8_load 128 = .ok (.imul, 1) := by decide +kernel
theorem dX8_load_129 : decode cX8_load 129 = .ok (.iconst 3, 1) := by decide +kernel
theorem dX8_load_130 : decode cX8_load 130 = .ok (.iadd, 1) := by decide +kernel
theorem dX8_load_131 : decode cX8_load 131 = .ok (.iaload, 1) := by decide +kernel
theorem dX8_load_132 : decode cX8_load 132 = .ok (.iconst 0, 1) := by decide +kernel
theorem dX8_load_133 : decode cX8_load 133 = .ok (.iconst 0, 1) := by decide +kernel
theorem dX8_load_134 : decode cX8_load 134 = .ok (.invokestatic 91, 3) := by decide +kernel
theorem dX8_load_137 : decode cX8_load 137 = .ok (.iinc 3 1, 3) := by decide +kernel
theorem dX8_load_140 : decode cX8_load 140 = .ok (.goto (-62), 3) := by decide +kernel
theorem dX8_load_143 : decode cX8_load 143 = .ok (.aload_n 0, 1) := by decide +kernel
theorem dX8_load_144 : decode cX8_load 144 = .ok (.getfield 182, 3) := by decide +kernel
theorem dX8_load_147 : decode cX8_load 147 = .ok (.ireturn, 1) := by decide +kernel
def F_X8_load_l78 (x1 : Int32) (x2 : Int32)  (post : Int32 → VP → Prop)   (X : Int32 → VP → Prop) (v3 : Int32) (Q : VP) : Prop :=
  (v3 < Q 22 0 11 → (0 ≤ 4 * v3 ∧ 4 * v3 < 480) ∧ ((0 ≤ (4 * v3) + 1 ∧ (4 * v3) + 1 < 480) ∧ ((0 ≤ (4 * v3) + 2 ∧ (4 * v3) + 2 < 480) ∧ ((0 ≤ (4 * v3) + 3 ∧ (4 * v3) + 3 < 480) ∧ (F_X8_writes 23 x1 (x2 + v3) (Q 27 0 (ix (4 * v3))) (Q 27 0 (ix ((4 * v3) + 1))) (Q 27 0 (ix ((4 * v3) + 2))) (Q 27 0 (ix ((4 * v3) + 3))) ((0 : Int32)) ((0 : Int32)) Q (fun Q134 => X (v3 + 1) Q134)))))) ∧ (¬ v3 < Q 22 0 11 → post (Q 22 0 11) Q)
set_option maxRecDepth 4000 in
theorem s_X8_load_l78 {l : Launch} {g : vG} {x1 : Int32} {x2 : Int32} {P : VP} {post : Int32 → VP → Prop}    {v3 : Int32} {Q : VP}   (h : vL2 (F_X8_load_l78 x1 x2  post  ) v3 Q) : VM l g RX8 cX8_load 4 (some .int) 8 (vmI P post) 78 [(0, vR 22 0), (1, vI x1), (2, vI x2), (3, vI v3)] [] (vjn P Q) := by
  refine vL2_s (T := fun v3 Q => VM l g RX8 cX8_load 4 (some .int) 8 (vmI P post) 78 [(0, vR 22 0), (1, vI x1), (2, vI x2), (3, vI v3)] [] (vjn P Q)) ?_ h
  clear h
  intro X hX v3 Q h
  unfold F_X8_load_l78 at h
  refine vr_iload_n 3 3 dX8_load_78 rfl rfl ?_
  refine vr_aload_n 0 0 dX8_load_79 rfl rfl ?_
  refine vg_22_11 RX8 rfl (by decide) fl_8_182 dX8_load_80 ?_
  refine vr_icmpge 143 dX8_load_83 (by decide) (fun c83 => ?_) (fun c83 => ?_)
  · have h := h.1 c83
    refine vr_aload_n 0 0 dX8_load_86 rfl rfl ?_
    refine vg_22_0 RX8 rfl (by decide) fl_8_9 dX8_load_87 ?_
    refine vr_iload_n 1 1 dX8_load_90 rfl rfl ?_
    refine vr_iload_n 2 2 dX8_load_91 rfl rfl ?_
    refine vr_iload_n 3 3 dX8_load_92 rfl rfl ?_
    refine vr_iadd dX8_load_93 ?_
    refine vr_aload_n 0 0 dX8_load_94 rfl rfl ?_
    refine vg_22_10 RX8 rfl (by decide) fl_8_22 dX8_load_95 ?_
    refine vr_iconst 4 dX8_load_98 (by decide) ?_
    refine vr_iload_n 3 3 dX8_load_99 rfl rfl ?_
    refine vr_imul dX8_load_100 ?_
    have hi := h.1
    have h := h.2
    refine vr_ialdQ 480 ia_27 rfl hi dX8_load_101 ?_
    refine vr_aload_n 0 0 dX8_load_102 rfl rfl ?_
    refine vg_22_10 RX8 rfl (by decide) fl_8_22 dX8_load_103 ?_
    refine vr_iconst 4 dX8_load_106 (by decide) ?_
    refine vr_iload_n 3 3 dX8_load_107 rfl rfl ?_
    refine vr_imul dX8_load_108 ?_
    refine vr_iconst 1 dX8_load_109 (by decide) ?_
    refine vr_iadd dX8_load_110 ?_
    have hi := h.1
    have h := h.2
    refine vr_ialdQ 480 ia_27 rfl hi dX8_load_111 ?_
    refine vr_aload_n 0 0 dX8_load_112 rfl rfl ?_
    refine vg_22_10 RX8 rfl (by decide) fl_8_22 dX8_load_113 ?_
    refine vr_iconst 4 dX8_load_116 (by decide) ?_
    refine vr_iload_n 3 3 dX8_load_117 rfl rfl ?_
    refine vr_imul dX8_load_118 ?_
    refine vr_iconst 2 dX8_load_119 (by decide) ?_
    refine vr_iadd dX8_load_120 ?_
    have hi := h.1
    have h := h.2
    refine vr_ialdQ 480 ia_27 rfl hi dX8_load_121 ?_
    refine vr_aload_n 0 0 dX8_load_122 rfl rfl ?_
    refine vg_22_10 RX8 rfl (by decide) fl_8_22 dX8_load_123 ?_
    refine vr_iconst 4 dX8_load_126 (by decide) ?_
    refine vr_iload_n 3 3 dX8_load_127 rfl rfl ?_
    refine vr_imul dX8_load_128 ?_
    refine vr_iconst 3 dX8_load_129 (by decide) ?_
    refine vr_iadd dX8_load_130 ?_
    have hi := h.1
    have h := h.2
    refine vr_ialdQ 480 ia_27 rfl hi dX8_load_131 ?_
    refine vr_iconst 0 dX8_load_132 (by decide) ?_
    refine vr_iconst 0 dX8_load_133 (by decide) ?_
    refine vr_callS RX8 (s_X8_writes ia_23 h) rfl rfl ml_8_91 rfl yh_X8_writes rfl ⟨Nat.le_of_ble_eq_true rfl, Nat.le_of_ble_eq_true rfl⟩ (Nat.le_of_ble_eq_true rfl) ⟨Nat.zero_le _, Nat.zero_le _⟩ dX8_load_134 (kmv fun Q134 h => ?_)
    refine vr_iinc (v3 + 1) 3 [(3, vI (v3 + 1)), (0, vR 22 0), (1, vI x1), (2, vI x2)] dX8_load_137 rfl rfl (by decide) rfl ?_
    refine vr_goto 78 dX8_load_140 (by decide) ?_
    refine vr_sub [1, 2, 3, 0] [(0, vR 22 0), (1, vI x1), (2, vI x2), (3, vI (v3 + 1))] rfl ?_
    exact hX _ _ h
  · have h := h.2 c83
    refine vr_aload_n 0 0 dX8_load_143 rfl rfl ?_
    refine vg_22_11 RX8 rfl (by decide) fl_8_182 dX8_load_144 ?_
    exact vr_iret rfl ⟨_, _, rfl, rfl, h⟩ dX8_load_147
def F_X8_load (x1 : Int32) (x2 : Int32) (Q : VP) (post : Int32 → VP → Prop) : Prop :=
  F_X8_isSegment x1 Q (fun r2 => (r2 = 0 → post (((-1) : Int32)) Q) ∧ (¬ r2 = 0 → (x2 < 0 → post (((-1) : Int32)) Q) ∧ (¬ x2 < 0 → ∀ Q19 : VP, Q19 = vup Q 22 0 7 (Q 22 0 6) → (∀ Q24 : VP, Q24 = vup Q19 22 0 6 0 → (F_X8_isText  Q24 (fun r28 Q28 => (r28 = 0 → post (((-100)) - (Q28 22 0 9)) Q28) ∧ (¬ r28 = 0 → (0 ≤ 96 + x1 ∧ 96 + x1 < 3464) ∧ ((Q28 23 0 (ix (96 + x1)) < x2 → post (((-13) : Int32)) Q28) ∧ (¬ Q28 23 0 (ix (96 + x1)) < x2 → (0 ≤ 96 + x1 ∧ 96 + x1 < 3464) ∧ (((Q28 23 0 (ix (96 + x1))) - x2 < Q28 22 0 11 → post (((-13) : Int32)) Q28) ∧ (¬ (Q28 23 0 (ix (96 + x1))) - x2 < Q28 22 0 11 → vL2 (F_X8_load_l78 x1 x2  post  ) ((0 : Int32)) Q28)))))))))))
set_option maxRecDepth 4000 in
theorem s_X8_load {l : Launch} {g : vG} {x1 : Int32} {x2 : Int32} {P Q : VP} {post : Int32 → VP → Prop}  (h : F_X8_load x1 x2 Q post) : VC l g yX8_load cX8_load 4 (some .int) 8 [vR 22 0, vI x1, vI x2] (vjn P Q) (vmI P post) := by
  refine VC.of (by decide +kernel) (Nat.le_of_ble_eq_true rfl) (show VM l g RX8 cX8_load 4 (some .int) 8 (vmI P post) 0 [(0, vR 22 0), (1, vI x1), (2, vI x2)] [] (vjn P Q) from ?_)
  unfold F_X8_load at h
  refine vr_aload_n 0 0 dX8_load_0 rfl rfl ?_
  refine vr_iload_n 1 1 dX8_load_1 rfl rfl ?_
  refine vr_callV RX8 (s_X8_isSegment h) rfl (by decide) rfl rfl rfl ml_8_95 rfl yh_X8_isSegment rfl ⟨Nat.le_of_ble_eq_true rfl, Nat.le_of_ble_eq_true rfl⟩ (Nat.le_of_ble_eq_true rfl) ⟨Nat.zero_le _, Nat.zero_le _⟩ dX8_load_2 (ki fun r2 h => ?_)
  refine vr_ifeq 12 dX8_load_5 (by decide) (fun c5 => ?_) (fun c5 => ?_)
  · have h := h.1 c5
    refine vr_iconst (-1) dX8_load_12 (by decide) ?_
    exact vr_iret rfl ⟨_, _, rfl, rfl, h⟩ dX8_load_13
  · have h := h.2 c5
    refine vr_iload_n 2 2 dX8_load_8 rfl rfl ?_
    refine vr_ifge 14 dX8_load_9 (by decide) (fun c9 => ?_) (fun c9 => ?_)
    · have h := h.1 c9
      refine vr_iconst (-1) dX8_load_12 (by decide) ?_
      exact vr_iret rfl ⟨_, _, rfl, rfl, h⟩ dX8_load_13
    · have h := h.2 c9
      refine vr_aload_n 0 0 dX8_load_14 rfl rfl ?_
      refine vr_aload_n 0 0 dX8_load_15 rfl rfl ?_
      refine vg_22_6 RX8 rfl (by decide) fl_8_148 dX8_load_16 ?_
      obtain ⟨Q19, eQ19⟩ : ∃ y : VP, y = vup Q 22 0 7 (Q 22 0 6) := ⟨_, rfl⟩
      have h := h Q19 eQ19
      refine vp_22_7 RX8 rfl (by decide) fl_8_152 eQ19 dX8_load_19 ?_
      refine vr_aload_n 0 0 dX8_load_22 rfl rfl ?_
      refine vr_iconst 0 dX8_load_23 (by decide) ?_
      obtain ⟨Q24, eQ24⟩ : ∃ y : VP, y = vup Q19 22 0 6 0 := ⟨_, rfl⟩
      have h := h Q24 eQ24
      refine vp_22_6 RX8 rfl (by decide) fl_8_148 eQ24 dX8_load_24 ?_
      refine vr_aload_n 0 0 dX8_load_27 rfl rfl ?_
      refine vr_callV RX8 (s_X8_isText h) rfl (by decide) rfl rfl rfl ml_8_214 rfl yh_X8_isText rfl ⟨Nat.le_of_ble_eq_true rfl, Nat.le_of_ble_eq_true rfl⟩ (Nat.le_of_ble_eq_true rfl) ⟨Nat.zero_le _, Nat.zero_le _⟩ dX8_load_28 (kmi fun r28 Q28 h => ?_)
      refine vr_ifne 42 dX8_load_31 (by decide) (fun c31 => ?_) (fun c31 => ?_)
      · have h := h.1 c31
        refine vr_bipush (-100) dX8_load_34 (by decide) ?_
        refine vr_aload_n 0 0 dX8_load_36 rfl rfl ?_
        refine vg_22_9 RX8 rfl (by decide) fl_8_165 dX8_load_37 ?_
        refine vr_isub dX8_load_40 ?_
        exact vr_iret rfl ⟨_, _, rfl, rfl, h⟩ dX8_load_41
      · have h := h.2 c31
        refine vr_iload_n 2 2 dX8_load_42 rfl rfl ?_
        refine vr_aload_n 0 0 dX8_load_43 rfl rfl ?_
        refine vg_22_0 RX8 rfl (by decide) fl_8_9 dX8_load_44 ?_
        refine vr_bipush 96 dX8_load_47 (by decide) ?_
        refine vr_iload_n 1 1 dX8_load_49 rfl rfl ?_
        refine vr_iadd dX8_load_50 ?_
        have hi := h.1
        have h := h.2
        refine vr_ialdQ 3464 ia_23 rfl hi dX8_load_51 ?_
        refine vr_icmpgt 73 dX8_load_52 (by decide) (fun c52 => ?_) (fun c52 => ?_)
        · have h := h.1 c52
          refine vr_bipush (-13) dX8_load_73 (by decide) ?_
          exact vr_iret rfl ⟨_, _, rfl, rfl, h⟩ dX8_load_75
        · have h := h.2 c52
          refine vr_aload_n 0 0 dX8_load_55 rfl rfl ?_
          refine vg_22_11 RX8 rfl (by decide) fl_8_182 dX8_load_56 ?_
          refine vr_aload_n 0 0 dX8_load_59 rfl rfl ?_
          refine vg_22_0 RX8 rfl (by decide) fl_8_9 dX8_load_60 ?_
          refine vr_bipush 96 dX8_load_63 (by decide) ?_
          refine vr_iload_n 1 1 dX8_load_65 rfl rfl ?_
          refine vr_iadd dX8_load_66 ?_
          have hi := h.1
          have h := h.2
          refine vr_ialdQ 3464 ia_23 rfl hi dX8_load_67 ?_
          refine vr_iload_n 2 2 dX8_load_68 rfl rfl ?_
          refine vr_isub dX8_load_69 ?_
          refine vr_icmple 76 dX8_load_70 (by decide) (fun c70 => ?_) (fun c70 => ?_)
          · have h := h.1 c70
            refine vr_bipush (-13) dX8_load_73 (by decide) ?_
            exact vr_iret rfl ⟨_, _, rfl, rfl, h⟩ dX8_load_75
          · have h := h.2 c70
            refine vr_iconst 0 dX8_load_76 (by decide) ?_
            refine vr_istore_n 3 [(3, vI 0), (0, vR 22 0), (1, vI x1), (2, vI x2)] dX8_load_77 rfl (by decide) rfl ?_
            refine vr_sub [1, 2, 3, 0] [(0, vR 22 0), (1, vI x1), (2, vI x2), (3, vI 0)] rfl ?_
            exact s_X8_load_l78   h
theorem dX8_mayRead_0 : decode cX8_mayRead 0 = .ok (.aload_n 0, 1) := by decide +kernel
theorem dX8_mayRead_1 : decode cX8_mayRead 1 = .ok (.sipush 160, 3) := by decide +kernel
theorem dX8_mayRead_4 : decode cX8_mayRead 4 = .ok (.iload_n 1, 1) := by decide +kernel
theorem dX8_mayRead_5 : decode cX8_mayRead 5 = .ok (.iadd, 1) := by decide +kernel
theorem dX8_mayRead_6 : decode cX8_mayRead 6 = .ok (.iaload, 1) := by decide +kernel
theorem dX8_mayRead_7 : decode cX8_mayRead 7 = .ok (.iconst 1, 1) := by decide +kernel
theorem dX8_mayRead_8 : decode cX8_mayRead 8 = .ok (.iand, 1) := by decide +kernel
theorem dX8_mayRead_9 : decode cX8_mayRead 9 = .ok (.ifCond .eq 18, 3) := by decide +kernel
theorem dX8_mayRead_12 : decode cX8_mayRead 12 = .ok (.iload_n 2, 1) := by decide +kernel
theorem dX8_mayRead_13 : decode cX8_mayRead 13 = .ok (.aload_n 0, 1) := by decide +kernel
theorem dX8_mayRead_14 : decode cX8_mayRead 14 = .ok (.sipush 128, 3) := by decide +kernel
theorem dX8_mayRead_17 : decode cX8_mayRead 17 = .ok (.iload_n 1, 1) := by decide +kernel
theorem dX8_mayRead_18 : decode cX8_mayRead 18 = .ok (.iadd, 1) := by decide +kernel
theorem dX8_mayRead_19 : decode cX8_mayRead 19 = .ok (.iaload, 1) := by decide +kernel
theorem dX8_mayRead_20 : decode cX8_mayRead 20 = .ok (.if_icmp .gt 7, 3) := by decide +kernel
theorem dX8_mayRead_23 : decode cX8_mayRead 23 = .ok (.iconst 1, 1) := by decide +kernel
theorem dX8_mayRead_24 : decode cX8_mayRead 24 = .ok (.goto 4, 3) := by decide +kernel
theorem dX8_mayRead_27 : decode cX8_mayRead 27 = .ok (.iconst 0, 1) := by decide +kernel
theorem dX8_mayRead_28 : decode cX8_mayRead 28 = .ok (.ireturn, 1) := by decide +kernel
def F_X8_mayRead (k0 : Nat) (x1 : Int32) (x2 : Int32) (Q : VP) (post : Int32 → Prop) : Prop :=
  (0 ≤ 160 + x1 ∧ 160 + x1 < vlI k0) ∧ (((Q k0 0 (ix (160 + x1))) &&& 1 = 0 → post ((0 : Int32))) ∧ (¬ (Q k0 0 (ix (160 + x1))) &&& 1 = 0 → (0 ≤ 128 + x1 ∧ 128 + x1 < vlI k0) ∧ ((Q k0 0 (ix (128 + x1)) < x2 → post ((0 : Int32))) ∧ (¬ Q k0 0 (ix (128 + x1)) < x2 → post ((1 : Int32))))))
set_option maxRecDepth 4000 in
theorem s_X8_mayRead {l : Launch} {g : vG} {k0 : Nat} {x1 : Int32} {x2 : Int32} {P Q : VP} {post : Int32 → Prop} (hk0 : vQA k0 0) (h : F_X8_mayRead k0 x1 x2 Q post) : VC l g yX8_mayRead cX8_mayRead 3 (some .boolean) 0 [vR k0 0, vI x1, vI x2] (vjn P Q) (vpI (vjn P Q) post) := by
  refine VC.of (by decide +kernel) (Nat.le_of_ble_eq_true rfl) (show VM l g RX8 cX8_mayRead 3 (some .boolean) 0 (vpI (vjn P Q) post) 0 [(0, vR k0 0), (1, vI x1), (2, vI x2)] [] (vjn P Q) from ?_)
  unfold F_X8_mayRead at h
  refine vr_aload_n 0 0 dX8_mayRead_0 rfl rfl ?_
  refine vr_sipush 160 dX8_mayRead_1 (by decide) ?_
  refine vr_iload_n 1 1 dX8_mayRead_4 rfl rfl ?_
  refine vr_iadd dX8_mayRead_5 ?_
  have hi := h.1
  have h := h.2
  refine vr_ialdQ (vlI k0) hk0 rfl hi dX8_mayRead_6 ?_
  refine vr_iconst 1 dX8_mayRead_7 (by decide) ?_
  refine vr_iand dX8_mayRead_8 ?_
  refine vr_ifeq 27 dX8_mayRead_9 (by decide) (fun c9 => ?_) (fun c9 => ?_)
  · have h := h.1 c9
    refine vr_iconst 0 dX8_mayRead_27 (by decide) ?_
    exact vr_zret rfl (Or.inl rfl) ⟨rfl, _, rfl, h⟩ dX8_mayRead_28
  · have h := h.2 c9
    refine vr_iload_n 2 2 dX8_mayRead_12 rfl rfl ?_
    refine vr_aload_n 0 0 dX8_mayRead_13 rfl rfl ?_
    refine vr_sipush 128 dX8_mayRead_14 (by decide) ?_
    refine vr_iload_n 1 1 dX8_mayRead_17 rfl rfl ?_
    refine vr_iadd dX8_mayRead_18 ?_
    have hi := h.1
    have h := h.2
    refine vr_ialdQ (vlI k0) hk0 rfl hi dX8_mayRead_19 ?_
    refine vr_icmpgt 27 dX8_mayRead_20 (by decide) (fun c20 => ?_) (fun c20 => ?_)
    · have h := h.1 c20
      refine vr_iconst 0 dX8_mayRead_27 (by decide) ?_
      exact vr_zret rfl (Or.inl rfl) ⟨rfl, _, rfl, h⟩ dX8_mayRead_28
    · have h := h.2 c20
      refine vr_iconst 1 dX8_mayRead_23 (by decide) ?_
      refine vr_goto 28 dX8_mayRead_24 (by decide) ?_
      exact vr_zret rfl (Or.inr rfl) ⟨rfl, _, rfl, h⟩ dX8_mayRead_28
theorem dX8_mayWrite_0 : decode cX8_mayWrite 0 = .ok (.aload_n 0, 1) := by decide +kernel
theorem dX8_mayWrite_1 : decode cX8_mayWrite 1 = .ok (.sipush 160, 3) := by decide +kernel
theorem dX8_mayWrite_4 : decode cX8_mayWrite 4 = .ok (.iload_n 1, 1) := by decide +kernel
theorem dX8_mayWrite_5 : decode cX8_mayWrite 5 = .ok (.iadd, 1) := by decide +kernel
theorem dX8_mayWrite_6 : decode cX8_mayWrite 6 = .ok (.iaload, 1) := by decide +kernel
theorem dX8_mayWrite_7 : decode cX8_mayWrite 7 = .ok (.iconst 2, 1) := by decide +kernel
theorem dX8_mayWrite_8 : decode cX8_mayWrite 8 = .ok (.iand, 1) := by decide +kernel
theorem dX8_mayWrite_9 : decode cX8_mayWrite 9 = .ok (.ifCond .eq 17, 3) := by decide +kernel
theorem dX8_mayWrite_12 : decode cX8_mayWrite 12 = .ok (.iload_n 2, 1) := by decide +kernel
theorem dX8_mayWrite_13 : decode cX8_mayWrite 13 = .ok (.aload_n 0, 1) := by decide +kernel
theorem dX8_mayWrite_14 : decode cX8_mayWrite 14 = .ok (.bipush 112, 2) := by decide +kernel
theorem dX8_mayWrite_16 : decode cX8_mayWrite 16 = .ok (.iload_n 1, 1) := by decide +kernel
theorem dX8_mayWrite_17 : decode cX8_mayWrite 17 = .ok (.iadd, 1) := by decide +kernel
theorem dX8_mayWrite_18 : decode cX8_mayWrite 18 = .ok (.iaload, 1) := by decide +kernel
theorem dX8_mayWrite_19 : decode cX8_mayWrite 19 = .ok (.if_icmp .gt 7, 3) := by decide +kernel
theorem dX8_mayWrite_22 : decode cX8_mayWrite 22 = .ok (.iconst 1, 1) := by decide +kernel
theorem dX8_mayWrite_23 : decode cX8_mayWrite 23 = .ok (.goto 4, 3) := by decide +kernel
theorem dX8_mayWrite_26 : decode cX8_mayWrite 26 = .ok (.iconst 0, 1) := by decide +kernel
theorem dX8_mayWrite_27 : decode cX8_mayWrite 27 = .ok (.ireturn, 1) := by decide +kernel
def F_X8_mayWrite (k0 : Nat) (x1 : Int32) (x2 : Int32) (Q : VP) (post : Int32 → Prop) : Prop :=
  (0 ≤ 160 + x1 ∧ 160 + x1 < vlI k0) ∧ (((Q k0 0 (ix (160 + x1))) &&& 2 = 0 → post ((0 : Int32))) ∧ (¬ (Q k0 0 (ix (160 + x1))) &&& 2 = 0 → (0 ≤ 112 + x1 ∧ 112 + x1 < vlI k0) ∧ ((Q k0 0 (ix (112 + x1)) < x2 → post ((0 : Int32))) ∧ (¬ Q k0 0 (ix (112 + x1)) < x2 → post ((1 : Int32))))))
set_option maxRecDepth 4000 in
theorem s_X8_mayWrite {l : Launch} {g : vG} {k0 : Nat} {x1 : Int32} {x2 : Int32} {P Q : VP} {post : Int32 → Prop} (hk0 : vQA k0 0) (h : F_X8_mayWrite k0 x1 x2 Q post) : VC l g yX8_mayWrite cX8_mayWrite 3 (some .boolean) 0 [vR k0 0, vI x1, vI x2] (vjn P Q) (vpI (vjn P Q) post) := by
  refine VC.of (by decide +kernel) (Nat.le_of_ble_eq_true rfl) (show VM l g RX8 cX8_mayWrite 3 (some .boolean) 0 (vpI (vjn P Q) post) 0 [(0, vR k0 0), (1, vI x1), (2, vI x2)] [] (vjn P Q) from ?_)
  unfold F_X8_mayWrite at h
  refine vr_aload_n 0 0 dX8_mayWrite_0 rfl rfl ?_
  refine vr_sipush 160 dX8_mayWrite_1 (by decide) ?_
  refine vr_iload_n 1 1 dX8_mayWrite_4 rfl rfl ?_
  refine vr_iadd dX8_mayWrite_5 ?_
  have hi := h.1
  have h := h.2
  refine vr_ialdQ (vlI k0) hk0 rfl hi dX8_mayWrite_6 ?_
  refine vr_iconst 2 dX8_mayWrite_7 (by decide) ?_
  refine vr_iand dX8_mayWrite_8 ?_
  refine vr_ifeq 26 dX8_mayWrite_9 (by decide) (fun c9 => ?_) (fun c9 => ?_)
  · have h := h.1 c9
    refine vr_iconst 0 dX8_mayWrite_26 (by decide) ?_
    exact vr_zret rfl (Or.inl rfl) ⟨rfl, _, rfl, h⟩ dX8_mayWrite_27
  · have h := h.2 c9
    refine vr_iload_n 2 2 dX8_mayWrite_12 rfl rfl ?_
    refine vr_aload_n 0 0 dX8_mayWrite_13 rfl rfl ?_
    refine vr_bipush 112 dX8_mayWrite_14 (by decide) ?_
    refine vr_iload_n 1 1 dX8_mayWrite_16 rfl rfl ?_
    refine vr_iadd dX8_mayWrite_17 ?_
    have hi := h.1
    have h := h.2
    refine vr_ialdQ (vlI k0) hk0 rfl hi dX8_mayWrite_18 ?_
    refine vr_icmpgt 26 dX8_mayWrite_19 (by decide) (fun c19 => ?_) (fun c19 => ?_)
    · have h := h.1 c19
      refine vr_iconst 0 dX8_mayWrite_26 (by decide) ?_
      exact vr_zret rfl (Or.inl rfl) ⟨rfl, _, rfl, h⟩ dX8_mayWrite_27
    · have h := h.2 c19
      refine vr_iconst 1 dX8_mayWrite_22 (by decide) ?_
      refine vr_goto 27 dX8_mayWrite_23 (by decide) ?_
      exact vr_zret rfl (Or.inr rfl) ⟨rfl, _, rfl, h⟩ dX8_mayWrite_27
theorem dX8_mayGo_0 : decode cX8_mayGo 0 = .ok (.aload_n 0, 1) := by decide +kernel
theorem dX8_mayGo_1 : decode cX8_mayGo 1 = .ok (.sipush 160, 3) := by decide +kernel
theorem dX8_mayGo_4 : decode cX8_mayGo 4 = .ok (.iload_n 1, 1) := by decide +kernel
theorem dX8_mayGo_5 : decode cX8_mayGo 5 = .ok (.iadd, 1) := by decide +kernel
theorem dX8_mayGo_6 : decode cX8_mayGo 6 = .ok (.iaload, 1) := by decide +kernel
theorem dX8_mayGo_7 : decode cX8_mayGo 7 = .ok (.iconst 4, 1) := by decide +kernel
theorem dX8_mayGo_8 : decode cX8_mayGo 8 = .ok (.iand, 1) := by decide +kernel
theorem dX8_mayGo_9 : decode cX8_mayGo 9 = .ok (.ifCond .eq 30, 3) := by decide +kernel
theorem dX8_mayGo_12 : decode cX8_mayGo 12 = .ok (.iload_n 2, 1) := by decide +kernel
theorem dX8_mayGo_13 : decode cX8_mayGo 13 = .ok (.i2l, 1) := by decide +kernel
theorem dX8_mayGo_14 : decode cX8_mayGo 14 = .ok (.aload_n 0, 1) := by decide +kernel
theorem dX8_mayGo_15 : decode cX8_mayGo 15 = .ok (.bipush 112, 2) := by decide +kernel
theorem dX8_mayGo_17 : decode cX8_mayGo 17 = .ok (.iload_n 1, 1) := by decide +kernel
theorem dX8_mayGo_18 : decode cX8_mayGo 18 = .ok (.iadd, 1) := by decide +kernel
theorem dX8_mayGo_19 : decode cX8_mayGo 19 = .ok (.iaload, 1) := by decide +kernel
theorem dX8_mayGo_20 : decode cX8_mayGo 20 = .ok (.i2l, 1) := by decide +kernel
theorem dX8_mayGo_21 : decode cX8_mayGo 21 = .ok (.aload_n 0, 1) := by decide +kernel
theorem dX8_mayGo_22 : decode cX8_mayGo 22 = .ok (.sipush 128, 3) := by decide +kernel
theorem dX8_mayGo_25 : decode cX8_mayGo 25 = .ok (.iload_n 1, 1) := by decide +kernel
theorem dX8_mayGo_26 : decode cX8_mayGo 26 = .ok (.iadd, 1) := by decide +kernel
theorem dX8_mayGo_27 : decode cX8_mayGo 27 = .ok (.iaload, 1) := by decide +kernel
theorem dX8_mayGo_28 : decode cX8_mayGo 28 = .ok (.i2l, 1) := by decide +kernel
theorem dX8_mayGo_29 : decode cX8_mayGo 29 = .ok (.invokestatic 54, 3) := by decide +kernel
theorem dX8_mayGo_32 : decode cX8_mayGo 32 = .ok (.ifCond .eq 7, 3) := by decide +kernel
theorem dX8_mayGo_35 : decode cX8_mayGo 35 = .ok (.iconst 1, 1) := by decide +kernel
theorem dX8_mayGo_36 : decode cX8_mayGo 36 = .ok (.goto 4, 3) := by decide +kernel
theorem dX8_mayGo_39 : decode cX8_mayGo 39 = .ok (.iconst 0, 1) := by decide +kernel
theorem dX8_mayGo_40 : decode cX8_mayGo 40 = .ok (.ireturn, 1) := by decide +kernel
def F_X8_mayGo (k0 : Nat) (x1 : Int32) (x2 : Int32) (Q : VP) (post : Int32 → Prop) : Prop :=
  (0 ≤ 160 + x1 ∧ 160 + x1 < vlI k0) ∧ (((Q k0 0 (ix (160 + x1))) &&& 4 = 0 → post ((0 : Int32))) ∧ (¬ (Q k0 0 (ix (160 + x1))) &&& 4 = 0 → (0 ≤ 112 + x1 ∧ 112 + x1 < vlI k0) ∧ ((0 ≤ 128 + x1 ∧ 128 + x1 < vlI k0) ∧ (F_X8_in (Int32.toInt64 x2) (Int32.toInt64 (Q k0 0 (ix (112 + x1)))) (Int32.toInt64 (Q k0 0 (ix (128 + x1)))) Q (fun r29 => (r29 = 0 → post ((0 : Int32))) ∧ (¬ r29 = 0 → post ((1 : Int32))))))))
set_option maxRecDepth 4000 in
theorem s_X8_mayGo {l : Launch} {g : vG} {k0 : Nat} {x1 : Int32} {x2 : Int32} {P Q : VP} {post : Int32 → Prop} (hk0 : vQA k0 0) (h : F_X8_mayGo k0 x1 x2 Q post) : VC l g yX8_mayGo cX8_mayGo 3 (some .boolean) 1 [vR k0 0, vI x1, vI x2] (vjn P Q) (vpI (vjn P Q) post) := by
  refine VC.of (by decide +kernel) (Nat.le_of_ble_eq_true rfl) (show VM l g RX8 cX8_mayGo 3 (some .boolean) 1 (vpI (vjn P Q) post) 0 [(0, vR k0 0), (1, vI x1), (2, vI x2)] [] (vjn P Q) from ?_)
  unfold F_X8_mayGo at h
  refine vr_aload_n 0 0 dX8_mayGo_0 rfl rfl ?_
  refine vr_sipush 160 dX8_mayGo_1 (by decide) ?_
  refine vr_iload_n 1 1 dX8_mayGo_4 rfl rfl ?_
  refine vr_iadd dX8_mayGo_5 ?_
  have hi := h.1
  have h := h.2
  refine vr_ialdQ (vlI k0) hk0 rfl hi dX8_mayGo_6 ?_
  refine vr_iconst 4 dX8_mayGo_7 (by decide) ?_
  refine vr_iand dX8_mayGo_8 ?_
  refine vr_ifeq 39 dX8_mayGo_9 (by decide) (fun c9 => ?_) (fun c9 => ?_)
  · have h := h.1 c9
    refine vr_iconst 0 dX8_mayGo_39 (by decide) ?_
    exact vr_zret rfl (Or.inl rfl) ⟨rfl, _, rfl, h⟩ dX8_mayGo_40
  · have h := h.2 c9
    refine vr_iload_n 2 2 dX8_mayGo_12 rfl rfl ?_
    refine vr_i2l dX8_mayGo_13 ?_
    refine vr_aload_n 0 0 dX8_mayGo_14 rfl rfl ?_
    refine vr_bipush 112 dX8_mayGo_15 (by decide) ?_
    refine vr_iload_n 1 1 dX8_mayGo_17 rfl rfl ?_
    refine vr_iadd dX8_mayGo_18 ?_
    have hi := h.1
    have h := h.2
    refine vr_ialdQ (vlI k0) hk0 rfl hi dX8_mayGo_19 ?_
    refine vr_i2l dX8_mayGo_20 ?_
    refine vr_aload_n 0 0 dX8_mayGo_21 rfl rfl ?_
    refine vr_sipush 128 dX8_mayGo_22 (by decide) ?_
    refine vr_iload_n 1 1 dX8_mayGo_25 rfl rfl ?_
    refine vr_iadd dX8_mayGo_26 ?_
    have hi := h.1
    have h := h.2
    refine vr_ialdQ (vlI k0) hk0 rfl hi dX8_mayGo_27 ?_
    refine vr_i2l dX8_mayGo_28 ?_
    refine vr_callS RX8 (s_X8_in h) rfl rfl ml_8_54 rfl yh_X8_in rfl ⟨Nat.le_of_ble_eq_true rfl, Nat.le_of_ble_eq_true rfl⟩ (Nat.le_of_ble_eq_true rfl) ⟨Nat.zero_le _, Nat.zero_le _⟩ dX8_mayGo_29 (ki fun r29 h => ?_)
    refine vr_ifeq 39 dX8_mayGo_32 (by decide) (fun c32 => ?_) (fun c32 => ?_)
    · have h := h.1 c32
      refine vr_iconst 0 dX8_mayGo_39 (by decide) ?_
      exact vr_zret rfl (Or.inl rfl) ⟨rfl, _, rfl, h⟩ dX8_mayGo_40
    · have h := h.2 c32
      refine vr_iconst 1 dX8_mayGo_35 (by decide) ?_
      refine vr_goto 40 dX8_mayGo_36 (by decide) ?_
      exact vr_zret rfl (Or.inr rfl) ⟨rfl, _, rfl, h⟩ dX8_mayGo_40
theorem dX8_there_0 : decode cX8_there 0 = .ok (.aload_n 0, 1) := by decide +kernel
theorem dX8_there_1 : decode cX8_there 1 = .ok (.iload_n 1, 1) := by decide +kernel
theorem dX8_there_2 : decode cX8_there 2 = .ok (.invokestatic 60, 3) := by decide +kernel
theorem dX8_there_5 : decode cX8_there 5 = .ok (.ifCond .ne 8, 3) := by decide +kernel
theorem dX8_there_8 : decode cX8_there 8 = .ok (.bipush (-20), 2) := by decide +kernel
theorem dX8_there_10 : decode cX8_there 10 = .ok (.goto 27, 3) := by decide +kernel
theorem dX8_there_13 : decode cX8_there 13 = .ok (.iload_n 2, 1) := by decide +kernel
theorem dX8_there_14 : decode cX8_there 14 = .ok (.i2l, 1) := by decide +kernel
theorem dX8_there_15 : decode cX8_there 15 = .ok (.lconst 0, 1) := by decide +kernel
theorem dX8_there_16 : decode cX8_there 16 = .ok (.aload_n 0, 1) := by decide +kernel
theorem dX8_there_17 : decode cX8_there 17 = .ok (.bipush 96, 2) := by decide +kernel
theorem dX8_there_19 : decode cX8_there 19 = .ok (.iload_n 1, 1) := by decide +kernel
theorem dX8_there_20 : decode cX8_there 20 = .ok (.iadd, 1) := by decide +kernel
theorem dX8_there_21 : decode cX8_there 21 = .ok (.iaload, 1) := by decide +kernel
theorem dX8_there_22 : decode cX8_there 22 = .ok (.iconst 1, 1) := by decide +kernel
theorem dX8_there_23 : decode cX8_there 23 = .ok (.isub, 1) := by decide +kernel
theorem dX8_there_24 : decode cX8_there 24 = .ok (.i2l, 1) := by decide +kernel
theorem dX8_there_25 : decode cX8_there 25 = .ok (.invokestatic 54, 3) := by decide +kernel
theorem dX8_there_28 : decode cX8_there 28 = .ok (.ifCond .ne 8, 3) := by decide +kernel
theorem dX8_there_31 : decode cX8_there 31 = .ok (.bipush (-21), 2) := by decide +kernel
theorem dX8_there_33 : decode cX8_there 33 = .ok (.goto 4, 3) := by decide +kernel
theorem dX8_there_36 : decode cX8_there 36 = .ok (.iconst 0, 1) := by decide +kernel
theorem dX8_there_37 : decode cX8_there 37 = .ok (.ireturn, 1) := by decide +kernel
def F_X8_there (k0 : Nat) (x1 : Int32) (x2 : Int32) (Q : VP) (post : Int32 → Prop) : Prop :=
  F_X8_isThere k0 x1 Q (fun r2 => (r2 = 0 → post (((-20) : Int32))) ∧ (¬ r2 = 0 → (0 ≤ 96 + x1 ∧ 96 + x1 < vlI k0) ∧ (F_X8_in (Int32.toInt64 x2) 0 (Int32.toInt64 ((Q k0 0 (ix (96 + x1))) - 1)) Q (fun r25 => (r25 = 0 → post (((-21) : Int32))) ∧ (¬ r25 = 0 → post ((0 : Int32)))))))
set_option maxRecDepth 4000 in
theorem s_X8_there {l : Launch} {g : vG} {k0 : Nat} {x1 : Int32} {x2 : Int32} {P Q : VP} {post : Int32 → Prop} (hk0 : vQA k0 0) (h : F_X8_there k0 x1 x2 Q post) : VC l g yX8_there cX8_there 3 (some .int) 2 [vR k0 0, vI x1, vI x2] (vjn P Q) (vpI (vjn P Q) post) := by
  refine VC.of (by decide +kernel) (Nat.le_of_ble_eq_true rfl) (show VM l g RX8 cX8_there 3 (some .int) 2 (vpI (vjn P Q) post) 0 [(0, vR k0 0), (1, vI x1), (2, vI x2)] [] (vjn P Q) from ?_)
  unfold F_X8_there at h
  refine vr_aload_n 0 0 dX8_there_0 rfl rfl ?_
  refine vr_iload_n 1 1 dX8_there_1 rfl rfl ?_
  refine vr_callS RX8 (s_X8_isThere hk0 h) rfl rfl ml_8_60 rfl yh_X8_isThere rfl ⟨Nat.le_of_ble_eq_true rfl, Nat.le_of_ble_eq_true rfl⟩ (Nat.le_of_ble_eq_true rfl) ⟨Nat.zero_le _, Nat.zero_le _⟩ dX8_there_2 (ki fun r2 h => ?_)
  refine vr_ifne 13 dX8_there_5 (by decide) (fun c5 => ?_) (fun c5 => ?_)
  · have h := h.1 c5
    refine vr_bipush (-20) dX8_there_8 (by decide) ?_
    refine vr_goto 37 dX8_there_10 (by decide) ?_
    exact vr_iret rfl ⟨rfl, _, rfl, h⟩ dX8_there_37
  · have h := h.2 c5
    refine vr_iload_n 2 2 dX8_there_13 rfl rfl ?_
    refine vr_i2l dX8_there_14 ?_
    refine vr_lconst 0 dX8_there_15 (by decide) ?_
    refine vr_aload_n 0 0 dX8_there_16 rfl rfl ?_
    refine vr_bipush 96 dX8_there_17 (by decide) ?_
    refine vr_iload_n 1 1 dX8_there_19 rfl rfl ?_
    refine vr_iadd dX8_there_20 ?_
    have hi := h.1
    have h := h.2
    refine vr_ialdQ (vlI k0) hk0 rfl hi dX8_there_21 ?_
    refine vr_iconst 1 dX8_there_22 (by decide) ?_
    refine vr_isub dX8_there_23 ?_
    refine vr_i2l dX8_there_24 ?_
    refine vr_callS RX8 (s_X8_in h) rfl rfl ml_8_54 rfl yh_X8_in rfl ⟨Nat.le_of_ble_eq_true rfl, Nat.le_of_ble_eq_true rfl⟩ (Nat.le_of_ble_eq_true rfl) ⟨Nat.zero_le _, Nat.zero_le _⟩ dX8_there_25 (ki fun r25 h => ?_)
    refine vr_ifne 36 dX8_there_28 (by decide) (fun c28 => ?_) (fun c28 => ?_)
    · have h := h.1 c28
      refine vr_bipush (-21) dX8_there_31 (by decide) ?_
      refine vr_goto 37 dX8_there_33 (by decide) ?_
      exact vr_iret rfl ⟨rfl, _, rfl, h⟩ dX8_there_37
    · have h := h.2 c28
      refine vr_iconst 0 dX8_there_36 (by decide) ?_
      exact vr_iret rfl ⟨rfl, _, rfl, h⟩ dX8_there_37
theorem dX8_through_0 : decode cX8_through 0 = .ok (.aload_n 0, 1) := by decide +kernel
theorem dX8_through_1 : decode cX8_through 1 = .ok (.getfield 220, 3) := by decide +kernel
theorem dX8_through_4 : decode cX8_through 4 = .ok (.istore_n 3, 1) := by decide +kernel
theorem dX8_through_5 : decode cX8_through 5 = .ok (.aload_n 0, 1) := by decide +kernel
theorem dX8_through_6 : decode cX8_through 6 = .ok (.getfield 223, 3) := by decide +kernel
theorem dX8_through_9 : decode cX8_through 9 = .ok (.istore 4, 2) := by decide +kernel
theorem dX8_through_11 : decode cX8_through 11 = .ok (.iload_n 2, 1) := by decide +kernel
theorem dX8_through_12 : decode cX8_through 12 = .ok (.iconst 4, 1) := by decide +kernel
theorem dX8_through_13 : decode cX8_through 13 = .ok (.if_icmp .ne 60, 3) := by decide +kernel
theorem dX8_through_16 : decode cX8_through 16 = .ok (.aload_n 1, 1) := by decide +kernel
theorem dX8_through_17 : decode cX8_through 17 = .ok (.iload_n 3, 1) := by decide +kernel
theorem dX8_through_18 : decode cX8_through 18 = .ok (.iload 4, 2) := by decide +kernel
theorem dX8_through_20 : decode cX8_through 20 = .ok (.iconst 1, 1) := by decide +kernel
theorem dX8_through_21 : decode cX8_through 21 = .ok (.invokestatic 136, 3) := by decide +kernel
theorem dX8_through_24 : decode cX8_through 24 = .ok (.istore 5, 2) := by decide +kernel
theorem dX8_through_26 : decode cX8_through 26 = .ok (.aload_n 1, 1) := by decide +kernel
theorem dX8_through_27 : decode cX8_through 27 = .ok (.iload_n 3, 1) := by decide +kernel
theorem dX8_through_28 : decode cX8_through 28 = .ok (.iload 4, 2) := by decide +kernel
theorem dX8_through_30 : decode cX8_through 30 = .ok (.iconst 2, 1) := by decide +kernel
theorem dX8_through_31 : decode cX8_through 31 = .ok (.invokestatic 136, 3) := by decide +kernel
theorem dX8_through_34 : decode cX8_through 34 = .ok (.istore 6, 2) := by decide +kernel
theorem dX8_through_36 : decode cX8_through 36 = .ok (.aload_n 1, 1) := by decide +kernel
theorem dX8_through_37 : decode cX8_through 37 = .ok (.iload_n 3, 1) := by decide +kernel
theorem dX8_through_38 : decode cX8_through 38 = .ok (.iload 5, 2) := by decide +kernel
theorem dX8_through_40 : decode cX8_through 40 = .ok (.invokestatic 116, 3) := by decide +kernel
theorem dX8_through_43 : decode cX8_through 43 = .ok (.istore 7, 2) := by decide +kernel
theorem dX8_through_45 : decode cX8_through 45 = .ok (.iload 7, 2) := by decide +kernel
theorem dX8_through_47 : decode cX8_through 47 = .ok (.ifCond .ge 6, 3) := by decide +kernel
theorem dX8_through_50 : decode cX8_through 50 = .ok (.bipush (-26), 2) := by decide +kernel
theorem dX8_through_52 : decode cX8_through 52 = .ok (.ireturn, 1) := by decide +kernel
theorem dX8_through_53 : decode cX8_through 53 = .ok (.aload_n 1, 1) := by decide +kernel
theorem dX8_through_54 : decode cX8_through 54 = .ok (.iload_n 3, 1) := by decide +kernel
theorem dX8_through_55 : decode cX8_through 55 = .ok (.iload 4, 2) := by decide +kernel
theorem dX8_through_57 : decode cX8_through 57 = .ok (.iconst 5, 1) := by decide +kernel
theorem dX8_through_58 : decode cX8_through 58 = .ok (.aload_n 0, 1) := by decide +kernel
theorem dX8_through_59 : decode cX8_through 59 = .ok (.getfield 217, 3) := by decide +kernel
theorem dX8_through_62 : decode cX8_through 62 = .ok (.iload 7, 2) := by decide +kernel
theorem dX8_through_64 : decode cX8_through 64 = .ok (.iload 6, 2) := by decide +kernel
theorem dX8_through_66 : decode cX8_through 66 = .ok (.iload 5, 2) := by decide +kernel
theorem dX8_through_68 : decode cX8_through 68 = .ok (.iload 6, 2) := by decide +kernel
theorem dX8_through_70 : decode cX8_through 70 = .ok (.invokestatic 91, 3) := by decide +kernel
theorem dX8_through_73 : decode cX8_through 73 = .ok (.aload_n 0, 1) := by decide +kernel
theorem dX8_through_74 : decode cX8_through 74 = .ok (.aload_n 0, 1) := by decide +kernel
theorem dX8_through_75 : decode cX8_through 75 = .ok (.getfield 217, 3) := by decide +kernel
theorem dX8_through_78 : decode cX8_through 78 = .ok (.aload_n 1, 1) := by decide +kernel
theorem dX8_through_79 : decode cX8_through 79 = .ok (.iload_n 3, 1) := by decide +kernel
theorem dX8_through_80 : decode cX8_through 80 = .ok (.iload 4, 2) := by decide +kernel
theorem dX8_through_82 : decode cX8_through 82 = .ok (.iconst 1, 1) := by decide +kernel
theorem dX8_through_83 : decode cX8_through 83 = .ok (.invokestatic 136, 3) := by decide +kernel
theorem dX8_through_86 : decode cX8_through 86 = .ok (.aload_n 1, 1) := by decide +kernel
theorem dX8_through_87 : decode cX8_through 87 = .ok (.bipush 112, 2) := by decide +kernel
theorem dX8_through_89 : decode cX8_through 89 = .ok (.iload_n 3, 1) := by decide +kernel
theorem dX8_through_90 : decode cX8_through 90 = .ok (.iadd, 1) := by decide +kernel
theorem dX8_through_91 : decode cX8_through 91 = .ok (.iaload, 1) := by decide +kernel
theorem dX8_through_92 : decode cX8_through 92 = .ok (.invokestatic 238, 3) := by decide +kernel
theorem dX8_through_95 : decode cX8_through 95 = .ok (.invokestatic 238, 3) := by decide +kernel
theorem dX8_through_98 : decode cX8_through 98 = .ok (.putfield 217, 3) := by decide +kernel
theorem dX8_through_101 : decode cX8_through 101 = .ok (.aload_n 0, 1) := by decide +kernel
theorem dX8_through_102 : decode cX8_through 102 = .ok (.aload_n 1, 1) := by decide +kernel
theorem dX8_through_103 : decode cX8_through 103 = .ok (.iload_n 3, 1) := by decide +kernel
theorem dX8_through_104 : decode cX8_through 104 = .ok (.iload 4, 2) := by decide +kernel
theorem dX8_through_106 : decode cX8_through 106 = .ok (.iconst 2, 1) := by decide +kernel
theorem dX8_through_107 : decode cX8_through 107 = .ok (.invokestatic 136, 3) := by decide +kernel
theorem dX8_through_110 : decode cX8_through 110 = .ok (.putfield 220, 3) := by decide +kernel
theorem dX8_through_113 : decode cX8_through 113 = .ok (.aload_n 0, 1) := by decide +kernel
theorem dX8_through_114 : decode cX8_through 114 = .ok (.aload_n 1, 1) := by decide +kernel
theorem dX8_through_115 : decode cX8_through 115 = .ok (.iload_n 3, 1) := by decide +kernel
theorem dX8_through_116 : decode cX8_through 116 = .ok (.iload 4, 2) := by decide +kernel
theorem dX8_through_118 : decode cX8_through 118 = .ok (.iconst 3, 1) := by decide +kernel
theorem dX8_through_119 : decode cX8_through 119 = .ok (.invokestatic 136, 3) := by decide +kernel
theorem dX8_through_122 : decode cX8_through 122 = .ok (.putfield 223, 3) := by decide +kernel
theorem dX8_through_125 : decode cX8_through 125 = .ok (.iconst 0, 1) := by decide +kernel
theorem dX8_through_126 : decode cX8_through 126 = .ok (.ireturn, 1) := by decide +kernel
def F_X8_through_b73 (k1 : Nat) (x2 : Int32) (Q : VP) (post : Int32 → VP → Prop)  (v3 : Int32) (v4 : Int32) : Prop :=
  F_X8_told k1 v3 v4 ((1 : Int32)) Q (fun r83 => (0 ≤ 112 + v3 ∧ 112 + v3 < vlI k1) ∧ (∀ Q98 : VP, Q98 = vup Q 22 0 13 (imax (Q 22 0 13) (imax r83 (Q k1 0 (ix (112 + v3))))) → (F_X8_told k1 v3 v4 ((2 : Int32)) Q98 (fun r107 => ∀ Q110 : VP, Q110 = vup Q98 22 0 14 r107 → (F_X8_told k1 v3 v4 ((3 : Int32)) Q110 (fun r119 => ∀ Q122 : VP, Q122 = vup Q110 22 0 15 r119 → (post ((0 : Int32)) Q122)))))))
set_option maxRecDepth 4000 in
theorem s_X8_through_b73 {l : Launch} {g : vG} {k1 : Nat} {x2 : Int32} {P Q : VP} {post : Int32 → VP → Prop}  {v3 : Int32} {v4 : Int32}  (hk1 : vQA k1 0)  (h : F_X8_through_b73 k1 x2 Q post  v3 v4) : VM l g RX8 cX8_through 8 (some .int) 1 (vmI P post) 73 [(0, vR 22 0), (1, vR k1 0), (3, vI v3), (4, vI v4)] [] (vjn P Q) := by
  unfold F_X8_through_b73 at h
  refine vr_aload_n 0 0 dX8_through_73 rfl rfl ?_
  refine vr_aload_n 0 0 dX8_through_74 rfl rfl ?_
  refine vg_22_13 RX8 rfl (by decide) fl_8_217 dX8_through_75 ?_
  refine vr_aload_n 1 1 dX8_through_78 rfl rfl ?_
  refine vr_iload_n 3 2 dX8_through_79 rfl rfl ?_
  refine vr_iload 3 dX8_through_80 rfl ?_
  refine vr_iconst 1 dX8_through_82 (by decide) ?_
  refine vr_callS RX8 (s_X8_told hk1 h) rfl rfl ml_8_136 rfl yh_X8_told rfl ⟨Nat.le_of_ble_eq_true rfl, Nat.le_of_ble_eq_true rfl⟩ (Nat.le_of_ble_eq_true rfl) ⟨Nat.zero_le _, Nat.zero_le _⟩ dX8_through_83 (ki fun r83 h => ?_)
  refine vr_aload_n 1 1 dX8_through_86 rfl rfl ?_
  refine vr_bipush 112 dX8_through_87 (by decide) ?_
  refine vr_iload_n 3 2 dX8_through_89 rfl rfl ?_
  refine vr_iadd dX8_through_90 ?_
  have hi := h.1
  have h := h.2
  refine vr_ialdQ (vlI k1) hk1 rfl hi dX8_through_91 ?_
  refine vr_max mk_8_238 mm_max ⟨Nat.le_of_ble_eq_true rfl, Nat.le_of_ble_eq_true rfl⟩ ⟨Nat.zero_le _, Nat.zero_le _⟩ dX8_through_92 ?_
  refine vr_max mk_8_238 mm_max ⟨Nat.le_of_ble_eq_true rfl, Nat.le_of_ble_eq_true rfl⟩ ⟨Nat.zero_le _, Nat.zero_le _⟩ dX8_through_95 ?_
  obtain ⟨Q98, eQ98⟩ : ∃ y : VP, y = vup Q 22 0 13 (imax (Q 22 0 13) (imax r83 (Q k1 0 (ix (112 + v3))))) := ⟨_, rfl⟩
  have h := h Q98 eQ98
  refine vp_22_13 RX8 rfl (by decide) fl_8_217 eQ98 dX8_through_98 ?_
  refine vr_aload_n 0 0 dX8_through_101 rfl rfl ?_
  refine vr_aload_n 1 1 dX8_through_102 rfl rfl ?_
  refine vr_iload_n 3 2 dX8_through_103 rfl rfl ?_
  refine vr_iload 3 dX8_through_104 rfl ?_
  refine vr_iconst 2 dX8_through_106 (by decide) ?_
  refine vr_callS RX8 (s_X8_told hk1 h) rfl rfl ml_8_136 rfl yh_X8_told rfl ⟨Nat.le_of_ble_eq_true rfl, Nat.le_of_ble_eq_true rfl⟩ (Nat.le_of_ble_eq_true rfl) ⟨Nat.zero_le _, Nat.zero_le _⟩ dX8_through_107 (ki fun r107 h => ?_)
  obtain ⟨Q110, eQ110⟩ : ∃ y : VP, y = vup Q98 22 0 14 r107 := ⟨_, rfl⟩
  have h := h Q110 eQ110
  refine vp_22_14 RX8 rfl (by decide) fl_8_220 eQ110 dX8_through_110 ?_
  refine vr_aload_n 0 0 dX8_through_113 rfl rfl ?_
  refine vr_aload_n 1 1 dX8_through_114 rfl rfl ?_
  refine vr_iload_n 3 2 dX8_through_115 rfl rfl ?_
  refine vr_iload 3 dX8_through_116 rfl ?_
  refine vr_iconst 3 dX8_through_118 (by decide) ?_
  refine vr_callS RX8 (s_X8_told hk1 h) rfl rfl ml_8_136 rfl yh_X8_told rfl ⟨Nat.le_of_ble_eq_true rfl, Nat.le_of_ble_eq_true rfl⟩ (Nat.le_of_ble_eq_true rfl) ⟨Nat.zero_le _, Nat.zero_le _⟩ dX8_through_119 (ki fun r119 h => ?_)
  obtain ⟨Q122, eQ122⟩ : ∃ y : VP, y = vup Q110 22 0 15 r119 := ⟨_, rfl⟩
  have h := h Q122 eQ122
  refine vp_22_15 RX8 rfl (by decide) fl_8_223 eQ122 dX8_through_122 ?_
  refine vr_iconst 0 dX8_through_125 (by decide) ?_
  exact vr_iret rfl ⟨_, _, rfl, rfl, h⟩ dX8_through_126
def F_X8_through (k1 : Nat) (x2 : Int32) (Q : VP) (post : Int32 → VP → Prop) : Prop :=
  (x2 = 4 → F_X8_told k1 (Q 22 0 14) (Q 22 0 15) ((1 : Int32)) Q (fun r21 => F_X8_told k1 (Q 22 0 14) (Q 22 0 15) ((2 : Int32)) Q (fun r31 => F_X8_found k1 (Q 22 0 14) r21 Q (fun r40 => (r40 < 0 → post (((-26) : Int32)) Q) ∧ (¬ r40 < 0 → F_X8_writes k1 (Q 22 0 14) (Q 22 0 15) ((5 : Int32)) (Q 22 0 13) r40 r31 r21 r31 Q (fun Q70 => F_X8_through_b73 k1 x2 Q70 post  (Q 22 0 14) (Q 22 0 15))))))) ∧ (¬ x2 = 4 → F_X8_through_b73 k1 x2 Q post  (Q 22 0 14) (Q 22 0 15))
set_option maxRecDepth 4000 in
theorem s_X8_through {l : Launch} {g : vG} {k1 : Nat} {x2 : Int32} {P Q : VP} {post : Int32 → VP → Prop} (hk1 : vQA k1 0) (h : F_X8_through k1 x2 Q post) : VC l g yX8_through cX8_through 8 (some .int) 1 [vR 22 0, vR k1 0, vI x2] (vjn P Q) (vmI P post) := by
  refine VC.of (by decide +kernel) (Nat.le_of_ble_eq_true rfl) (show VM l g RX8 cX8_through 8 (some .int) 1 (vmI P post) 0 [(0, vR 22 0), (1, vR k1 0), (2, vI x2)] [] (vjn P Q) from ?_)
  unfold F_X8_through at h
  refine vr_aload_n 0 0 dX8_through_0 rfl rfl ?_
  refine vg_22_14 RX8 rfl (by decide) fl_8_220 dX8_through_1 ?_
  refine vr_istore_n 3 [(3, vI (Q 22 0 14)), (0, vR 22 0), (1, vR k1 0), (2, vI x2)] dX8_through_4 rfl (by decide) rfl ?_
  refine vr_aload_n 0 1 dX8_through_5 rfl rfl ?_
  refine vg_22_15 RX8 rfl (by decide) fl_8_223 dX8_through_6 ?_
  refine vr_istore [(4, vI (Q 22 0 15)), (3, vI (Q 22 0 14)), (0, vR 22 0), (1, vR k1 0), (2, vI x2)] dX8_through_9 (by decide) rfl ?_
  refine vr_iload_n 2 4 dX8_through_11 rfl rfl ?_
  refine vr_iconst 4 dX8_through_12 (by decide) ?_
  refine vr_icmpne 73 dX8_through_13 (by decide) (fun c13 => ?_) (fun c13 => ?_)
  · have h := h.1 c13
    refine vr_aload_n 1 3 dX8_through_16 rfl rfl ?_
    refine vr_iload_n 3 1 dX8_through_17 rfl rfl ?_
    refine vr_iload 0 dX8_through_18 rfl ?_
    refine vr_iconst 1 dX8_through_20 (by decide) ?_
    refine vr_callS RX8 (s_X8_told hk1 h) rfl rfl ml_8_136 rfl yh_X8_told rfl ⟨Nat.le_of_ble_eq_true rfl, Nat.le_of_ble_eq_true rfl⟩ (Nat.le_of_ble_eq_true rfl) ⟨Nat.zero_le _, Nat.zero_le _⟩ dX8_through_21 (ki fun r21 h => ?_)
    refine vr_istore [(5, vI r21), (4, vI (Q 22 0 15)), (3, vI (Q 22 0 14)), (0, vR 22 0), (1, vR k1 0), (2, vI x2)] dX8_through_24 (by decide) rfl ?_
    refine vr_aload_n 1 4 dX8_through_26 rfl rfl ?_
    refine vr_iload_n 3 2 dX8_through_27 rfl rfl ?_
    refine vr_iload 1 dX8_through_28 rfl ?_
    refine vr_iconst 2 dX8_through_30 (by decide) ?_
    refine vr_callS RX8 (s_X8_told hk1 h) rfl rfl ml_8_136 rfl yh_X8_told rfl ⟨Nat.le_of_ble_eq_true rfl, Nat.le_of_ble_eq_true rfl⟩ (Nat.le_of_ble_eq_true rfl) ⟨Nat.zero_le _, Nat.zero_le _⟩ dX8_through_31 (ki fun r31 h => ?_)
    refine vr_istore [(6, vI r31), (5, vI r21), (4, vI (Q 22 0 15)), (3, vI (Q 22 0 14)), (0, vR 22 0), (1, vR k1 0), (2, vI x2)] dX8_through_34 (by decide) rfl ?_
    refine vr_aload_n 1 5 dX8_through_36 rfl rfl ?_
    refine vr_iload_n 3 3 dX8_through_37 rfl rfl ?_
    refine vr_iload 1 dX8_through_38 rfl ?_
    refine vr_callS RX8 (s_X8_found hk1 h) rfl rfl ml_8_116 rfl yh_X8_found rfl ⟨Nat.le_of_ble_eq_true rfl, Nat.le_of_ble_eq_true rfl⟩ (Nat.le_of_ble_eq_true rfl) ⟨Nat.zero_le _, Nat.zero_le _⟩ dX8_through_40 (ki fun r40 h => ?_)
    refine vr_istore [(7, vI r40), (6, vI r31), (5, vI r21), (4, vI (Q 22 0 15)), (3, vI (Q 22 0 14)), (0, vR 22 0), (1, vR k1 0), (2, vI x2)] dX8_through_43 (by decide) rfl ?_
    refine vr_iload 0 dX8_through_45 rfl ?_
    refine vr_ifge 53 dX8_through_47 (by decide) (fun c47 => ?_) (fun c47 => ?_)
    · have h := h.1 c47
      refine vr_bipush (-26) dX8_through_50 (by decide) ?_
      exact vr_iret rfl ⟨_, _, rfl, rfl, h⟩ dX8_through_52
    · have h := h.2 c47
      refine vr_aload_n 1 6 dX8_through_53 rfl rfl ?_
      refine vr_iload_n 3 4 dX8_through_54 rfl rfl ?_
      refine vr_iload 3 dX8_through_55 rfl ?_
      refine vr_iconst 5 dX8_through_57 (by decide) ?_
      refine vr_aload_n 0 5 dX8_through_58 rfl rfl ?_
      refine vg_22_13 RX8 rfl (by decide) fl_8_217 dX8_through_59 ?_
      refine vr_iload 0 dX8_through_62 rfl ?_
      refine vr_iload 1 dX8_through_64 rfl ?_
      refine vr_iload 2 dX8_through_66 rfl ?_
      refine vr_iload 1 dX8_through_68 rfl ?_
      refine vr_callS RX8 (s_X8_writes hk1 h) rfl rfl ml_8_91 rfl yh_X8_writes rfl ⟨Nat.le_of_ble_eq_true rfl, Nat.le_of_ble_eq_true rfl⟩ (Nat.le_of_ble_eq_true rfl) ⟨Nat.zero_le _, Nat.zero_le _⟩ dX8_through_70 (kmv fun Q70 h => ?_)
      refine vr_sub [5, 6, 4, 3] [(0, vR 22 0), (1, vR k1 0), (3, vI (Q 22 0 14)), (4, vI (Q 22 0 15))] rfl ?_
      exact s_X8_through_b73 hk1  h
  · have h := h.2 c13
    refine vr_sub [2, 3, 1, 0] [(0, vR 22 0), (1, vR k1 0), (3, vI (Q 22 0 14)), (4, vI (Q 22 0 15))] rfl ?_
    exact s_X8_through_b73 hk1  h
theorem dX8_comes_0 : decode cX8_comes 0 = .ok (.aload_n 0, 1) := by decide +kernel
theorem dX8_comes_1 : decode cX8_comes 1 = .ok (.iload 4, 2) := by decide +kernel
theorem dX8_comes_3 : decode cX8_comes 3 = .ok (.putfield 217, 3) := by decide +kernel
theorem dX8_comes_6 : decode cX8_comes 6 = .ok (.aload_n 0, 1) := by decide +kernel
theorem dX8_comes_7 : decode cX8_comes 7 = .ok (.iload_n 2, 1) := by decide +kernel
theorem dX8_comes_8 : decode cX8_comes 8 = .ok (.putfield 220, 3) := by decide +kernel
theorem dX8_comes_11 : decode cX8_comes 11 = .ok (.aload_n 0, 1) := by decide +kernel
theorem dX8_comes_12 : decode cX8_comes 12 = .ok (.iload_n 3, 1) := by decide +kernel
theorem dX8_comes_13 : decode cX8_comes 13 = .ok (.putfield 223, 3) := by decide +kernel
theorem dX8_comes_16 : decode cX8_comes 16 = .ok (.aload_n 1, 1) := by decide +kernel
theorem dX8_comes_17 : decode cX8_comes 17 = .ok (.iload_n 2, 1) := by decide +kernel
theorem dX8_comes_18 : decode cX8_comes 18 = .ok (.iload_n 3, 1) := by decide +kernel
theorem dX8_comes_19 : decode cX8_comes 19 = .ok (.invokestatic 226, 3) := by decide +kernel
theorem dX8_comes_22 : decode cX8_comes 22 = .ok (.istore 5, 2) := by decide +kernel
theorem dX8_comes_24 : decode cX8_comes 24 = .ok (.iconst 0, 1) := by decide +kernel
theorem dX8_comes_25 : decode cX8_comes 25 = .ok (.istore 6, 2) := by decide +kernel
theorem dX8_comes_27 : decode cX8_comes 27 = .ok (.iconst 0, 1) := by decide +kernel
theorem dX8_comes_28 : decode cX8_comes 28 = .ok (.istore 7, 2) := by decide +kernel
theorem dX8_comes_30 : decode cX8_comes 30 = .ok (.iload 5, 2) := by decide +kernel
theorem dX8_comes_32 : decode cX8_comes 32 = .ok (.ifCond .ne 135, 3) := by decide +kernel
theorem dX8_comes_35 : decode cX8_comes 35 = .ok (.aload_n 1, 1) := by decide +kernel
theorem dX8_comes_36 : decode cX8_comes 36 = .ok (.aload_n 0, 1) := by decide +kernel
theorem dX8_comes_37 : decode cX8_comes 37 = .ok (.getfield 220, 3) := by decide +kernel
theorem dX8_comes_40 : decode cX8_comes 40 = .ok (.aload_n 0, 1) := by decide +kernel
theorem dX8_comes_41 : decode cX8_comes 41 = .ok (.getfield 223, 3) := by decide +kernel
theorem dX8_comes_44 : decode cX8_comes 44 = .ok (.iconst 0, 1) := by decide +kernel
theorem dX8_comes_45 : decode cX8_comes 45 = .ok (.invokestatic 136, 3) := by decide +kernel
theorem dX8_comes_48 : decode cX8_comes 48 = .ok (.istore 8, 2) := by decide +kernel
theorem dX8_comes_50 : decode cX8_comes 50 = .ok (.iload 8, 2) := by decide +kernel
theorem dX8_comes_52 : decode cX8_comes 52 = .ok (.i2l, 1) := by decide +kernel
theorem dX8_comes_53 : decode cX8_comes 53 = .ok (.ldc2_w 140, 3) := by decide +kernel
theorem dX8_comes_56 : decode cX8_comes 56 = .ok (.ldc2_w 229, 3) := by decide +kernel
theorem dX8_comes_59 : decode cX8_comes 59 = .ok (.invokestatic 54, 3) := by decide +kernel
theorem dX8_comes_62 : decode cX8_comes 62 = .ok (.istore 9, 2) := by decide +kernel
theorem dX8_comes_64 : decode cX8_comes 64 = .ok (.iload 9, 2) := by decide +kernel
theorem dX8_comes_66 : decode cX8_comes 66 = .ok (.ifCond .ne 10, 3) := by decide +kernel
theorem dX8_comes_69 : decode cX8_comes 69 = .ok (.iload 6, 2) := by decide +kernel
theorem dX8_comes_71 : decode cX8_comes 71 = .ok (.ifCond .ne 5, 3) := by decide +kernel
theorem dX8_comes_74 : decode cX8_comes 74 = .ok (.iconst 0, 1) := by decide +kernel
theorem dX8_comes_75 : decode cX8_comes 75 = .ok (.ireturn, 1) := by decide +kernel
theorem dX8_comes_76 : decode cX8_comes 76 = .ok (.aload_n 1, 1) := by decide +kernel
theorem dX8_comes_77 : decode cX8_comes 77 = .ok (.aload_n 0, 1) := by decide +kernel
theorem dX8_comes_78 : decode cX8_comes 78 = .ok (.getfield 220, 3) := by decide +kernel
theorem dX8_comes_81 : decode cX8_comes 81 = .ok (.aload_n 0, 1) := by decide +kernel
theorem dX8_comes_82 : decode cX8_comes 82 = .ok (.getfield 217, 3) := by decide +kernel
theorem dX8_comes_85 : decode cX8_comes 85 = .ok (.invokestatic 231, 3) := by decide +kernel
theorem dX8_comes_88 : decode cX8_comes 88 = .ok (.ifCond .ne 6, 3) := by decide +kernel
theorem dX8_comes_91 : decode cX8_comes 91 = .ok (.bipush (-22), 2) := by decide +kernel
theorem dX8_comes_93 : decode cX8_comes 93 = .ok (.ireturn, 1) := by decide +kernel
theorem dX8_comes_94 : decode cX8_comes 94 = .ok (.iload 9, 2) := by decide +kernel
theorem dX8_comes_96 : decode cX8_comes 96 = .ok (.ifCond .ne 16, 3) := by decide +kernel
theorem dX8_comes_99 : decode cX8_comes 99 = .ok (.iload 8, 2) := by decide +kernel
theorem dX8_comes_101 : decode cX8_comes 101 = .ok (.ifCond .ne 8, 3) := by decide +kernel
theorem dX8_comes_104 : decode cX8_comes 104 = .ok (.bipush (-23), 2) := by decide +kernel
theorem dX8_comes_106 : decode cX8_comes 106 = .ok (.goto 5, 3) := by decide +kernel
theorem dX8_comes_109 : decode cX8_comes 109 = .ok (.bipush (-24), 2) := by decide +kernel
theorem dX8_comes_111 : decode cX8_comes 111 = .ok (.ireturn, 1) := by decide +kernel
theorem dX8_comes_112 : decode cX8_comes 112 = .ok (.aload_n 0, 1) := by decide +kernel
theorem dX8_comes_113 : decode cX8_comes 113 = .ok (.aload_n 1, 1) := by decide +kernel
theorem dX8_comes_114 : decode cX8_comes 114 = .ok (.iload 8, 2) := by decide +kernel
theorem dX8_comes_116 : decode cX8_comes 116 = .ok (.invokevirtual 235, 3) := by decide +kernel
theorem dX8_comes_119 : decode cX8_comes 119 = .ok (.istore 5, 2) := by decide +kernel
theorem dX8_comes_121 : decode cX8_comes 121 = .ok (.iload 5, 2) := by decide +kernel
theorem dX8_comes_123 : decode cX8_comes 123 = .ok (.ifCond .ne 9, 3) := by decide +kernel
theorem dX8_comes_126 : decode cX8_comes 126 = .ok (.iload 8, 2) := by decide +kernel
theorem dX8_comes_128 : decode cX8_comes 128 = .ok (.iconst 3, 1) := by decide +kernel
theorem dX8_comes_129 : decode cX8_comes 129 = .ok (.if_icmp .eq 6, 3) := by decide +kernel
theorem dX8_comes_132 : decode cX8_comes 132 = .ok (.iload 5, 2) := by decide +kernel
theorem dX8_comes_134 : decode cX8_comes 134 = .ok (.ireturn, 1) := by decide +kernel
theorem dX8_comes_135 : decode cX8_comes 135 = .ok (.iload 7, 2) := by decide +kernel
theorem dX8_comes_137 : decode cX8_comes 137 = .ok (.iconst 5, 1) := by decide +kernel
theorem dX8_comes_138 : decode cX8_comes 138 = .ok (.if_icmp .ne 6, 3) := by decide +kernel
theorem dX8_comes_141 : decode cX8_comes 141 = .ok (.bipush (-25), 2) := by decide +kernel
theorem dX8_comes_143 : decode cX8_comes 143 = .ok (.ireturn, 1) := by decide +kernel
theorem dX8_comes_144 : decode cX8_comes 144 = .ok (.iconst 1, 1) := by decide +kernel
theorem dX8_comes_145 : decode cX8_comes 145 = .ok (.istore 6, 2) := by decide +kernel
theorem dX8_comes_147 : decode cX8_comes 147 = .ok (.aload_n 1, 1) := by decide +kernel
theorem dX8_comes_148 : decode cX8_comes 148 = .ok (.aload_n 0, 1) := by decide +kernel
theorem dX8_comes_149 : decode cX8_comes 149 = .ok (.getfield 220, 3) := by decide +kernel
theorem dX8_comes_152 : decode cX8_comes 152 = .ok (.aload_n 0, 1) := by decide +kernel
theorem dX8_comes_153 : decode cX8_comes 153 = .ok (.getfield 223, 3) := by decide +kernel
theorem dX8_comes_156 : decode cX8_comes 156 = .ok (.invokestatic 226, 3) := by decide +kernel
theorem dX8_comes_159 : decode cX8_comes 159 = .ok (.istore 5, 2) := by decide +kernel
theorem dX8_comes_161 : decode cX8_comes 161 = .ok (.iinc 7 1, 3) := by decide +kernel
theorem dX8_comes_164 : decode cX8_comes 164 = .ok (.goto (-134), 3) := by decide +kernel
theorem dX8_comes_167 : decode cX8_comes 167 = .ok (.iload 5, 2) := by decide +kernel
theorem dX8_comes_169 : decode cX8_comes 169 = .ok (.ireturn, 1) := by decide +kernel
def F_X8_comes_b76 (k1 : Nat) (x2 : Int32) (x3 : Int32) (x4 : Int32) (Q : VP) (post : Int32 → VP → Prop) (X30 : Int32 → Int32 → Int32 → VP → Prop) (v7 : Int32) (v8 : Int32) (v9 : Int32) : Prop :=
  F_X8_mayRead k1 (Q 22 0 14) (Q 22 0 13) Q (fun r85 => (r85 = 0 → post (((-22) : Int32)) Q) ∧ (¬ r85 = 0 → (v9 = 0 → (v8 = 0 → post (((-23) : Int32)) Q) ∧ (¬ v8 = 0 → post (((-24) : Int32)) Q)) ∧ (¬ v9 = 0 → F_X8_through k1 v8 Q (fun r116 Q116 => (r116 = 0 → (v8 = 3 → (v7 = 5 → post (((-25) : Int32)) Q116) ∧ (¬ v7 = 5 → F_X8_there k1 (Q116 22 0 14) (Q116 22 0 15) Q116 (fun r156 => X30 r156 ((1 : Int32)) (v7 + 1) Q116))) ∧ (¬ v8 = 3 → post r116 Q116)) ∧ (¬ r116 = 0 → post r116 Q116)))))
set_option maxRecDepth 4000 in
theorem s_X8_comes_b76 {l : Launch} {g : vG} {k1 : Nat} {x2 : Int32} {x3 : Int32} {x4 : Int32} {P Q : VP} {post : Int32 → VP → Prop} {X30 : Int32 → Int32 → Int32 → VP → Prop} {v7 : Int32} {v8 : Int32} {v9 : Int32}  (hk1 : vQA k1 0) (hX30 : ∀ v5_ v6_ v7_ Q_, X30 v5_ v6_ v7_ Q_ → VM l g RX8 cX8_comes 10 (some .int) 3 (vmI P post) 30 [(0, vR 22 0), (1, vR k1 0), (5, vI v5_), (6, vI v6_), (7, vI v7_)] [] (vjn P Q_)) (h : F_X8_comes_b76 k1 x2 x3 x4 Q post X30 v7 v8 v9) : VM l g RX8 cX8_comes 10 (some .int) 3 (vmI P post) 76 [(0, vR 22 0), (1, vR k1 0), (7, vI v7), (8, vI v8), (9, vI v9)] [] (vjn P Q) := by
  unfold F_X8_comes_b76 at h
  refine vr_aload_n 1 1 dX8_comes_76 rfl rfl ?_
  refine vr_aload_n 0 0 dX8_comes_77 rfl rfl ?_
  refine vg_22_14 RX8 rfl (by decide) fl_8_220 dX8_comes_78 ?_
  refine vr_aload_n 0 0 dX8_comes_81 rfl rfl ?_
  refine vg_22_13 RX8 rfl (by decide) fl_8_217 dX8_comes_82 ?_
  refine vr_callS RX8 (s_X8_mayRead hk1 h) rfl rfl ml_8_231 rfl yh_X8_mayRead rfl ⟨Nat.le_of_ble_eq_true rfl, Nat.le_of_ble_eq_true rfl⟩ (Nat.le_of_ble_eq_true rfl) ⟨Nat.zero_le _, Nat.zero_le _⟩ dX8_comes_85 (ki fun r85 h => ?_)
  refine vr_ifne 94 dX8_comes_88 (by decide) (fun c88 => ?_) (fun c88 => ?_)
  · have h := h.1 c88
    refine vr_bipush (-22) dX8_comes_91 (by decide) ?_
    exact vr_iret rfl ⟨_, _, rfl, rfl, h⟩ dX8_comes_93
  · have h := h.2 c88
    refine vr_iload 4 dX8_comes_94 rfl ?_
    refine vr_ifne 112 dX8_comes_96 (by decide) (fun c96 => ?_) (fun c96 => ?_)
    · have h := h.1 c96
      refine vr_iload 3 dX8_comes_99 rfl ?_
      refine vr_ifne 109 dX8_comes_101 (by decide) (fun c101 => ?_) (fun c101 => ?_)
      · have h := h.1 c101
        refine vr_bipush (-23) dX8_comes_104 (by decide) ?_
        refine vr_goto 111 dX8_comes_106 (by decide) ?_
        exact vr_iret rfl ⟨_, _, rfl, rfl, h⟩ dX8_comes_111
      · have h := h.2 c101
        refine vr_bipush (-24) dX8_comes_109 (by decide) ?_
        exact vr_iret rfl ⟨_, _, rfl, rfl, h⟩ dX8_comes_111
    · have h := h.2 c96
      refine vr_aload_n 0 0 dX8_comes_112 rfl rfl ?_
      refine vr_aload_n 1 1 dX8_comes_113 rfl rfl ?_
      refine vr_iload 3 dX8_comes_114 rfl ?_
      refine vr_callV RX8 (s_X8_through hk1 h) rfl (by decide) rfl rfl rfl ml_8_235 rfl yh_X8_through rfl ⟨Nat.le_of_ble_eq_true rfl, Nat.le_of_ble_eq_true rfl⟩ (Nat.le_of_ble_eq_true rfl) ⟨Nat.zero_le _, Nat.zero_le _⟩ dX8_comes_116 (kmi fun r116 Q116 h => ?_)
      refine vr_istore [(5, vI r116), (0, vR 22 0), (1, vR k1 0), (7, vI v7), (8, vI v8), (9, vI v9)] dX8_comes_119 (by decide) rfl ?_
      refine vr_iload 0 dX8_comes_121 rfl ?_
      refine vr_ifne 132 dX8_comes_123 (by decide) (fun c123 => ?_) (fun c123 => ?_)
      · have h := h.1 c123
        refine vr_iload 4 dX8_comes_126 rfl ?_
        refine vr_iconst 3 dX8_comes_128 (by decide) ?_
        refine vr_icmpeq 135 dX8_comes_129 (by decide) (fun c129 => ?_) (fun c129 => ?_)
        · have h := h.1 c129
          refine vr_iload 3 dX8_comes_135 rfl ?_
          refine vr_iconst 5 dX8_comes_137 (by decide) ?_
          refine vr_icmpne 144 dX8_comes_138 (by decide) (fun c138 => ?_) (fun c138 => ?_)
          · have h := h.1 c138
            refine vr_bipush (-25) dX8_comes_141 (by decide) ?_
            exact vr_iret rfl ⟨_, _, rfl, rfl, h⟩ dX8_comes_143
          · have h := h.2 c138
            refine vr_iconst 1 dX8_comes_144 (by decide) ?_
            refine vr_istore [(6, vI 1), (5, vI r116), (0, vR 22 0), (1, vR k1 0), (7, vI v7), (8, vI v8), (9, vI v9)] dX8_comes_145 (by decide) rfl ?_
            refine vr_aload_n 1 3 dX8_comes_147 rfl rfl ?_
            refine vr_aload_n 0 2 dX8_comes_148 rfl rfl ?_
            refine vg_22_14 RX8 rfl (by decide) fl_8_220 dX8_comes_149 ?_
            refine vr_aload_n 0 2 dX8_comes_152 rfl rfl ?_
            refine vg_22_15 RX8 rfl (by decide) fl_8_223 dX8_comes_153 ?_
            refine vr_callS RX8 (s_X8_there hk1 h) rfl rfl ml_8_226 rfl yh_X8_there rfl ⟨Nat.le_of_ble_eq_true rfl, Nat.le_of_ble_eq_true rfl⟩ (Nat.le_of_ble_eq_true rfl) ⟨Nat.zero_le _, Nat.zero_le _⟩ dX8_comes_156 (ki fun r156 h => ?_)
            refine vr_istore [(5, vI r156), (6, vI 1), (0, vR 22 0), (1, vR k1 0), (7, vI v7), (8, vI v8), (9, vI v9)] dX8_comes_159 (by decide) rfl ?_
            refine vr_iinc (v7 + 1) 4 [(7, vI (v7 + 1)), (5, vI r156), (6, vI 1), (0, vR 22 0), (1, vR k1 0), (8, vI v8), (9, vI v9)] dX8_comes_161 rfl rfl (by decide) rfl ?_
            refine vr_goto 30 dX8_comes_164 (by decide) ?_
            refine vr_sub [3, 4, 1, 2, 0] [(0, vR 22 0), (1, vR k1 0), (5, vI r156), (6, vI 1), (7, vI (v7 + 1))] rfl ?_
            exact hX30 _ _ _ _ h
        · have h := h.2 c129
          refine vr_iload 0 dX8_comes_132 rfl ?_
          exact vr_iret rfl ⟨_, _, rfl, rfl, h⟩ dX8_comes_134
      · have h := h.2 c123
        refine vr_iload 0 dX8_comes_132 rfl ?_
        exact vr_iret rfl ⟨_, _, rfl, rfl, h⟩ dX8_comes_134
def F_X8_comes_l30 (k1 : Nat) (x2 : Int32) (x3 : Int32) (x4 : Int32)  (post : Int32 → VP → Prop)   (X : Int32 → Int32 → Int32 → VP → Prop) (v5 : Int32) (v6 : Int32) (v7 : Int32) (Q : VP) : Prop :=
  (v5 = 0 → F_X8_told k1 (Q 22 0 14) (Q 22 0 15) ((0 : Int32)) Q (fun r45 => F_X8_in (Int32.toInt64 r45) 2 5 Q (fun r59 => (r59 = 0 → (v6 = 0 → post ((0 : Int32)) Q) ∧ (¬ v6 = 0 → F_X8_comes_b76 k1 x2 x3 x4 Q post X  v7 r45 r59)) ∧ (¬ r59 = 0 → F_X8_comes_b76 k1 x2 x3 x4 Q post X  v7 r45 r59)))) ∧ (¬ v5 = 0 → post v5 Q)
set_option maxRecDepth 4000 in
theorem s_X8_comes_l30 {l : Launch} {g : vG} {k1 : Nat} {x2 : Int32} {x3 : Int32} {x4 : Int32} {P : VP} {post : Int32 → VP → Prop}    {v5 : Int32} {v6 : Int32} {v7 : Int32} {Q : VP} (hk1 : vQA k1 0)  (h : vL4 (F_X8_comes_l30 k1 x2 x3 x4  post  ) v5 v6 v7 Q) : VM l g RX8 cX8_comes 10 (some .int) 3 (vmI P post) 30 [(0, vR 22 0), (1, vR k1 0), (5, vI v5), (6, vI v6), (7, vI v7)] [] (vjn P Q) := by
  refine vL4_s (T := fun v5 v6 v7 Q => VM l g RX8 cX8_comes 10 (some .int) 3 (vmI P post) 30 [(0, vR 22 0), (1, vR k1 0), (5, vI v5), (6, vI v6), (7, vI v7)] [] (vjn P Q)) ?_ h
  clear h
  intro X hX v5 v6 v7 Q h
  unfold F_X8_comes_l30 at h
  refine vr_iload 2 dX8_comes_30 rfl ?_
  refine vr_ifne 167 dX8_comes_32 (by decide) (fun c32 => ?_) (fun c32 => ?_)
  · have h := h.1 c32
    refine vr_aload_n 1 1 dX8_comes_35 rfl rfl ?_
    refine vr_aload_n 0 0 dX8_comes_36 rfl rfl ?_
    refine vg_22_14 RX8 rfl (by decide) fl_8_220 dX8_comes_37 ?_
    refine vr_aload_n 0 0 dX8_comes_40 rfl rfl ?_
    refine vg_22_15 RX8 rfl (by decide) fl_8_223 dX8_comes_41 ?_
    refine vr_iconst 0 dX8_comes_44 (by decide) ?_
    refine vr_callS RX8 (s_X8_told hk1 h) rfl rfl ml_8_136 rfl yh_X8_told rfl ⟨Nat.le_of_ble_eq_true rfl, Nat.le_of_ble_eq_true rfl⟩ (Nat.le_of_ble_eq_true rfl) ⟨Nat.zero_le _, Nat.zero_le _⟩ dX8_comes_45 (ki fun r45 h => ?_)
    refine vr_istore [(8, vI r45), (0, vR 22 0), (1, vR k1 0), (5, vI v5), (6, vI v6), (7, vI v7)] dX8_comes_48 (by decide) rfl ?_
    refine vr_iload 0 dX8_comes_50 rfl ?_
    refine vr_i2l dX8_comes_52 ?_
    refine vr_ldc2 2 ct_8_140 dX8_comes_53 ?_
    refine vr_ldc2 5 ct_8_229 dX8_comes_56 ?_
    refine vr_callS RX8 (s_X8_in h) rfl rfl ml_8_54 rfl yh_X8_in rfl ⟨Nat.le_of_ble_eq_true rfl, Nat.le_of_ble_eq_true rfl⟩ (Nat.le_of_ble_eq_true rfl) ⟨Nat.zero_le _, Nat.zero_le _⟩ dX8_comes_59 (ki fun r59 h => ?_)
    refine vr_istore [(9, vI r59), (8, vI r45), (0, vR 22 0), (1, vR k1 0), (5, vI v5), (6, vI v6), (7, vI v7)] dX8_comes_62 (by decide) rfl ?_
    refine vr_iload 0 dX8_comes_64 rfl ?_
    refine vr_ifne 76 dX8_comes_66 (by decide) (fun c66 => ?_) (fun c66 => ?_)
    · have h := h.1 c66
      refine vr_iload 5 dX8_comes_69 rfl ?_
      refine vr_ifne 76 dX8_comes_71 (by decide) (fun c71 => ?_) (fun c71 => ?_)
      · have h := h.1 c71
        refine vr_iconst 0 dX8_comes_74 (by decide) ?_
        exact vr_iret rfl ⟨_, _, rfl, rfl, h⟩ dX8_comes_75
      · have h := h.2 c71
        refine vr_sub [2, 3, 6, 1, 0] [(0, vR 22 0), (1, vR k1 0), (7, vI v7), (8, vI r45), (9, vI r59)] rfl ?_
        exact s_X8_comes_b76 hk1 hX  h
    · have h := h.2 c66
      refine vr_sub [2, 3, 6, 1, 0] [(0, vR 22 0), (1, vR k1 0), (7, vI v7), (8, vI r45), (9, vI r59)] rfl ?_
      exact s_X8_comes_b76 hk1 hX  h
  · have h := h.2 c32
    refine vr_iload 2 dX8_comes_167 rfl ?_
    exact vr_iret rfl ⟨_, _, rfl, rfl, h⟩ dX8_comes_169
def F_X8_comes (k1 : Nat) (x2 : Int32) (x3 : Int32) (x4 : Int32) (Q : VP) (post : Int32 → VP → Prop) : Prop :=
  ∀ Q3 : VP, Q3 = vup Q 22 0 13 x4 → (∀ Q8 : VP, Q8 = vup Q3 22 0 14 x2 → (∀ Q13 : VP, Q13 = vup Q8 22 0 15 x3 → (F_X8_there k1 x2 x3 Q13 (fun r19 => vL4 (F_X8_comes_l30 k1 x2 x3 x4  post  ) r19 ((0 : Int32)) ((0 : Int32)) Q13))))
set_option maxRecDepth 4000 in
theorem s_X8_comes {l : Launch} {g : vG} {k1 : Nat} {x2 : Int32} {x3 : Int32} {x4 : Int32} {P Q : VP} {post : Int32 → VP → Prop} (hk1 : vQA k1 0) (h : F_X8_comes k1 x2 x3 x4 Q post) : VC l g yX8_comes cX8_comes 10 (some .int) 3 [vR 22 0, vR k1 0, vI x2, vI x3, vI x4] (vjn P Q) (vmI P post) := by
  refine VC.of (by decide +kernel) (Nat.le_of_ble_eq_true rfl) (show VM l g RX8 cX8_comes 10 (some .int) 3 (vmI P post) 0 [(0, vR 22 0), (1, vR k1 0), (2, vI x2), (3, vI x3), (4, vI x4)] [] (vjn P Q) from ?_)
  unfold F_X8_comes at h
  refine vr_aload_n 0 0 dX8_comes_0 rfl rfl ?_
  refine vr_iload 4 dX8_comes_1 rfl ?_
  obtain ⟨Q3, eQ3⟩ : ∃ y : VP, y = vup Q 22 0 13 x4 := ⟨_, rfl⟩
  have h := h Q3 eQ3
  refine vp_22_13 RX8 rfl (by decide) fl_8_217 eQ3 dX8_comes_3 ?_
  refine vr_aload_n 0 0 dX8_comes_6 rfl rfl ?_
  refine vr_iload_n 2 2 dX8_comes_7 rfl rfl ?_
  obtain ⟨Q8, eQ8⟩ : ∃ y : VP, y = vup Q3 22 0 14 x2 := ⟨_, rfl⟩
  have h := h Q8 eQ8
  refine vp_22_14 RX8 rfl (by decide) fl_8_220 eQ8 dX8_comes_8 ?_
  refine vr_aload_n 0 0 dX8_comes_11 rfl rfl ?_
  refine vr_iload_n 3 3 dX8_comes_12 rfl rfl ?_
  obtain ⟨Q13, eQ13⟩ : ∃ y : VP, y = vup Q8 22 0 15 x3 := ⟨_, rfl⟩
  have h := h Q13 eQ13
  refine vp_22_15 RX8 rfl (by decide) fl_8_223 eQ13 dX8_comes_13 ?_
  refine vr_aload_n 1 1 dX8_comes_16 rfl rfl ?_
  refine vr_iload_n 2 2 dX8_comes_17 rfl rfl ?_
  refine vr_iload_n 3 3 dX8_comes_18 rfl rfl ?_
  refine vr_callS RX8 (s_X8_there hk1 h) rfl rfl ml_8_226 rfl yh_X8_there rfl ⟨Nat.le_of_ble_eq_true rfl, Nat.le_of_ble_eq_true rfl⟩ (Nat.le_of_ble_eq_true rfl) ⟨Nat.zero_le _, Nat.zero_le _⟩ dX8_comes_19 (ki fun r19 h => ?_)
  refine vr_istore [(5, vI r19), (0, vR 22 0), (1, vR k1 0), (2, vI x2), (3, vI x3), (4, vI x4)] dX8_comes_22 (by decide) rfl ?_
  refine vr_iconst 0 dX8_comes_24 (by decide) ?_
  refine vr_istore [(6, vI 0), (5, vI r19), (0, vR 22 0), (1, vR k1 0), (2, vI x2), (3, vI x3), (4, vI x4)] dX8_comes_25 (by decide) rfl ?_
  refine vr_iconst 0 dX8_comes_27 (by decide) ?_
  refine vr_istore [(7, vI 0), (6, vI 0), (5, vI r19), (0, vR 22 0), (1, vR k1 0), (2, vI x2), (3, vI x3), (4, vI x4)] dX8_comes_28 (by decide) rfl ?_
  refine vr_sub [3, 4, 2, 1, 0] [(0, vR 22 0), (1, vR k1 0), (5, vI r19), (6, vI 0), (7, vI 0)] rfl ?_
  exact s_X8_comes_l30 hk1  h
theorem dX8_numberAt_0 : decode cX8_numberAt 0 = .ok (.aload_n 1, 1) := by decide +kernel
theorem dX8_numberAt_1 : decode cX8_numberAt 1 = .ok (.iload_n 2, 1) := by decide +kernel
theorem dX8_numberAt_2 : decode cX8_numberAt 2 = .ok (.iload_n 3, 1) := by decide +kernel
theorem dX8_numberAt_3 : decode cX8_numberAt 3 = .ok (.invokestatic 226, 3) := by decide +kernel
theorem dX8_numberAt_6 : decode cX8_numberAt 6 = .ok (.istore 5, 2) := by decide +kernel
theorem dX8_numberAt_8 : decode cX8_numberAt 8 = .ok (.iload 5, 2) := by decide +kernel
theorem dX8_numberAt_10 : decode cX8_numberAt 10 = .ok (.ifCond .eq 6, 3) := by decide +kernel
theorem dX8_numberAt_13 : decode cX8_numberAt 13 = .ok (.iload 5, 2) := by decide +kernel
theorem dX8_numberAt_15 : decode cX8_numberAt 15 = .ok (.ireturn, 1) := by decide +kernel
theorem dX8_numberAt_16 : decode cX8_numberAt 16 = .ok (.aload_n 1, 1) := by decide +kernel
theorem dX8_numberAt_17 : decode cX8_numberAt 17 = .ok (.iload_n 2, 1) := by decide +kernel
theorem dX8_numberAt_18 : decode cX8_numberAt 18 = .ok (.iload 4, 2) := by decide +kernel
theorem dX8_numberAt_20 : decode cX8_numberAt 20 = .ok (.invokestatic 231, 3) := by decide +kernel
theorem dX8_numberAt_23 : decode cX8_numberAt 23 = .ok (.ifCond .ne 6, 3) := by decide +kernel
theorem dX8_numberAt_26 : decode cX8_numberAt 26 = .ok (.bipush (-22), 2) := by decide +kernel
theorem dX8_numberAt_28 : decode cX8_numberAt 28 = .ok (.ireturn, 1) := by decide +kernel
theorem dX8_numberAt_29 : decode cX8_numberAt 29 = .ok (.aload_n 1, 1) := by decide +kernel
theorem dX8_numberAt_30 : decode cX8_numberAt 30 = .ok (.iload_n 2, 1) := by decide +kernel
theorem dX8_numberAt_31 : decode cX8_numberAt 31 = .ok (.iload_n 3, 1) := by decide +kernel
theorem dX8_numberAt_32 : decode cX8_numberAt 32 = .ok (.iconst 0, 1) := by decide +kernel
theorem dX8_numberAt_33 : decode cX8_numberAt 33 = .ok (.invokestatic 136, 3) := by decide +kernel
theorem dX8_numberAt_36 : decode cX8_numberAt 36 = .ok (.istore 6, 2) := by decide +kernel
theorem dX8_numberAt_38 : decode cX8_numberAt 38 = .ok (.iload 6, 2) := by decide +kernel
theorem dX8_numberAt_40 : decode cX8_numberAt 40 = .ok (.ifCond .ne 8, 3) := by decide +kernel
theorem dX8_numberAt_43 : decode cX8_numberAt 43 = .ok (.bipush (-23), 2) := by decide +kernel
theorem dX8_numberAt_45 : decode cX8_numberAt 45 = .ok (.goto 15, 3) := by decide +kernel
theorem dX8_numberAt_48 : decode cX8_numberAt 48 = .ok (.iload 6, 2) := by decide +kernel
theorem dX8_numberAt_50 : decode cX8_numberAt 50 = .ok (.iconst 1, 1) := by decide +kernel
theorem dX8_numberAt_51 : decode cX8_numberAt 51 = .ok (.if_icmp .eq 8, 3) := by decide +kernel
theorem dX8_numberAt_54 : decode cX8_numberAt 54 = .ok (.bipush (-24), 2) := by decide +kernel
theorem dX8_numberAt_56 : decode cX8_numberAt 56 = .ok (.goto 4, 3) := by decide +kernel
theorem dX8_numberAt_59 : decode cX8_numberAt 59 = .ok (.iconst 0, 1) := by decide +kernel
theorem dX8_numberAt_60 : decode cX8_numberAt 60 = .ok (.ireturn, 1) := by decide +kernel
def F_X8_numberAt (k1 : Nat) (x2 : Int32) (x3 : Int32) (x4 : Int32) (Q : VP) (post : Int32 → Prop) : Prop :=
  F_X8_there k1 x2 x3 Q (fun r3 => (r3 = 0 → F_X8_mayRead k1 x2 x4 Q (fun r20 => (r20 = 0 → post (((-22) : Int32))) ∧ (¬ r20 = 0 → F_X8_told k1 x2 x3 ((0 : Int32)) Q (fun r33 => (r33 = 0 → post (((-23) : Int32))) ∧ (¬ r33 = 0 → (r33 = 1 → post ((0 : Int32))) ∧ (¬ r33 = 1 → post (((-24) : Int32)))))))) ∧ (¬ r3 = 0 → post r3))
set_option maxRecDepth 4000 in
theorem s_X8_numberAt {l : Launch} {g : vG} {k1 : Nat} {x2 : Int32} {x3 : Int32} {x4 : Int32} {P Q : VP} {post : Int32 → Prop} (hk1 : vQA k1 0) (h : F_X8_numberAt k1 x2 x3 x4 Q post) : VC l g yX8_numberAt cX8_numberAt 7 (some .int) 3 [vR 22 0, vR k1 0, vI x2, vI x3, vI x4] (vjn P Q) (vpI (vjn P Q) post) := by
  refine VC.of (by decide +kernel) (Nat.le_of_ble_eq_true rfl) (show VM l g RX8 cX8_numberAt 7 (some .int) 3 (vpI (vjn P Q) post) 0 [(0, vR 22 0), (1, vR k1 0), (2, vI x2), (3, vI x3), (4, vI x4)] [] (vjn P Q) from ?_)
  unfold F_X8_numberAt at h
  refine vr_aload_n 1 1 dX8_numberAt_0 rfl rfl ?_
  refine vr_iload_n 2 2 dX8_numberAt_1 rfl rfl ?_
  refine vr_iload_n 3 3 dX8_numberAt_2 rfl rfl ?_
  refine vr_callS RX8 (s_X8_there hk1 h) rfl rfl ml_8_226 rfl yh_X8_there rfl ⟨Nat.le_of_ble_eq_true rfl, Nat.le_of_ble_eq_true rfl⟩ (Nat.le_of_ble_eq_true rfl) ⟨Nat.zero_le _, Nat.zero_le _⟩ dX8_numberAt_3 (ki fun r3 h => ?_)
  refine vr_istore [(5, vI r3), (0, vR 22 0), (1, vR k1 0), (2, vI x2), (3, vI x3), (4, vI x4)] dX8_numberAt_6 (by decide) rfl ?_
  refine vr_iload 0 dX8_numberAt_8 rfl ?_
  refine vr_ifeq 16 dX8_numberAt_10 (by decide) (fun c10 => ?_) (fun c10 => ?_)
  · have h := h.1 c10
    refine vr_aload_n 1 2 dX8_numberAt_16 rfl rfl ?_
    refine vr_iload_n 2 3 dX8_numberAt_17 rfl rfl ?_
    refine vr_iload 5 dX8_numberAt_18 rfl ?_
    refine vr_callS RX8 (s_X8_mayRead hk1 h) rfl rfl ml_8_231 rfl yh_X8_mayRead rfl ⟨Nat.le_of_ble_eq_true rfl, Nat.le_of_ble_eq_true rfl⟩ (Nat.le_of_ble_eq_true rfl) ⟨Nat.zero_le _, Nat.zero_le _⟩ dX8_numberAt_20 (ki fun r20 h => ?_)
    refine vr_ifne 29 dX8_numberAt_23 (by decide) (fun c23 => ?_) (fun c23 => ?_)
    · have h := h.1 c23
      refine vr_bipush (-22) dX8_numberAt_26 (by decide) ?_
      exact vr_iret rfl ⟨rfl, _, rfl, h⟩ dX8_numberAt_28
    · have h := h.2 c23
      refine vr_aload_n 1 2 dX8_numberAt_29 rfl rfl ?_
      refine vr_iload_n 2 3 dX8_numberAt_30 rfl rfl ?_
      refine vr_iload_n 3 4 dX8_numberAt_31 rfl rfl ?_
      refine vr_iconst 0 dX8_numberAt_32 (by decide) ?_
      refine vr_callS RX8 (s_X8_told hk1 h) rfl rfl ml_8_136 rfl yh_X8_told rfl ⟨Nat.le_of_ble_eq_true rfl, Nat.le_of_ble_eq_true rfl⟩ (Nat.le_of_ble_eq_true rfl) ⟨Nat.zero_le _, Nat.zero_le _⟩ dX8_numberAt_33 (ki fun r33 h => ?_)
      refine vr_istore [(6, vI r33), (5, vI r3), (0, vR 22 0), (1, vR k1 0), (2, vI x2), (3, vI x3), (4, vI x4)] dX8_numberAt_36 (by decide) rfl ?_
      refine vr_iload 0 dX8_numberAt_38 rfl ?_
      refine vr_ifne 48 dX8_numberAt_40 (by decide) (fun c40 => ?_) (fun c40 => ?_)
      · have h := h.1 c40
        refine vr_bipush (-23) dX8_numberAt_43 (by decide) ?_
        refine vr_goto 60 dX8_numberAt_45 (by decide) ?_
        exact vr_iret rfl ⟨rfl, _, rfl, h⟩ dX8_numberAt_60
      · have h := h.2 c40
        refine vr_iload 0 dX8_numberAt_48 rfl ?_
        refine vr_iconst 1 dX8_numberAt_50 (by decide) ?_
        refine vr_icmpeq 59 dX8_numberAt_51 (by decide) (fun c51 => ?_) (fun c51 => ?_)
        · have h := h.1 c51
          refine vr_iconst 0 dX8_numberAt_59 (by decide) ?_
          exact vr_iret rfl ⟨rfl, _, rfl, h⟩ dX8_numberAt_60
        · have h := h.2 c51
          refine vr_bipush (-24) dX8_numberAt_54 (by decide) ?_
          refine vr_goto 60 dX8_numberAt_56 (by decide) ?_
          exact vr_iret rfl ⟨rfl, _, rfl, h⟩ dX8_numberAt_60
  · have h := h.2 c10
    refine vr_iload 0 dX8_numberAt_13 rfl ?_
    exact vr_iret rfl ⟨rfl, _, rfl, h⟩ dX8_numberAt_15
theorem dX8_putAt_0 : decode cX8_putAt 0 = .ok (.aload_n 0, 1) := by decide +kernel
theorem dX8_putAt_1 : decode cX8_putAt 1 = .ok (.iload_n 1, 1) := by decide +kernel
theorem dX8_putAt_2 : decode cX8_putAt 2 = .ok (.iload_n 2, 1) := by decide +kernel
theorem dX8_putAt_3 : decode cX8_putAt 3 = .ok (.invokestatic 226, 3) := by decide +kernel
theorem dX8_putAt_6 : decode cX8_putAt 6 = .ok (.istore 4, 2) := by decide +kernel
theorem dX8_putAt_8 : decode cX8_putAt 8 = .ok (.iload 4, 2) := by decide +kernel
theorem dX8_putAt_10 : decode cX8_putAt 10 = .ok (.ifCond .eq 8, 3) := by decide +kernel
theorem dX8_putAt_13 : decode cX8_putAt 13 = .ok (.iload 4, 2) := by decide +kernel
theorem dX8_putAt_15 : decode cX8_putAt 15 = .ok (.goto 18, 3) := by decide +kernel
theorem dX8_putAt_18 : decode cX8_putAt 18 = .ok (.aload_n 0, 1) := by decide +kernel
theorem dX8_putAt_19 : decode cX8_putAt 19 = .ok (.iload_n 1, 1) := by decide +kernel
theorem dX8_putAt_20 : decode cX8_putAt 20 = .ok (.iload_n 3, 1) := by decide +kernel
theorem dX8_putAt_21 : decode cX8_putAt 21 = .ok (.invokestatic 241, 3) := by decide +kernel
theorem dX8_putAt_24 : decode cX8_putAt 24 = .ok (.ifCond .eq 7, 3) := by decide +kernel
theorem dX8_putAt_27 : decode cX8_putAt 27 = .ok (.iconst 0, 1) := by decide +kernel
theorem dX8_putAt_28 : decode cX8_putAt 28 = .ok (.goto 5, 3) := by decide +kernel
theorem dX8_putAt_31 : decode cX8_putAt 31 = .ok (.bipush (-22), 2) := by decide +kernel
theorem dX8_putAt_33 : decode cX8_putAt 33 = .ok (.ireturn, 1) := by decide +kernel
def F_X8_putAt (k0 : Nat) (x1 : Int32) (x2 : Int32) (x3 : Int32) (Q : VP) (post : Int32 → Prop) : Prop :=
  F_X8_there k0 x1 x2 Q (fun r3 => (r3 = 0 → F_X8_mayWrite k0 x1 x3 Q (fun r21 => (r21 = 0 → post (((-22) : Int32))) ∧ (¬ r21 = 0 → post ((0 : Int32))))) ∧ (¬ r3 = 0 → post r3))
set_option maxRecDepth 4000 in
theorem s_X8_putAt {l : Launch} {g : vG} {k0 : Nat} {x1 : Int32} {x2 : Int32} {x3 : Int32} {P Q : VP} {post : Int32 → Prop} (hk0 : vQA k0 0) (h : F_X8_putAt k0 x1 x2 x3 Q post) : VC l g yX8_putAt cX8_putAt 5 (some .int) 3 [vR k0 0, vI x1, vI x2, vI x3] (vjn P Q) (vpI (vjn P Q) post) := by
  refine VC.of (by decide +kernel) (Nat.le_of_ble_eq_true rfl) (show VM l g RX8 cX8_putAt 5 (some .int) 3 (vpI (vjn P Q) post) 0 [(0, vR k0 0), (1, vI x1), (2, vI x2), (3, vI x3)] [] (vjn P Q) from ?_)
  unfold F_X8_putAt at h
  refine vr_aload_n 0 0 dX8_putAt_0 rfl rfl ?_
  refine vr_iload_n 1 1 dX8_putAt_1 rfl rfl ?_
  refine vr_iload_n 2 2 dX8_putAt_2 rfl rfl ?_
  refine vr_callS RX8 (s_X8_there hk0 h) rfl rfl ml_8_226 rfl yh_X8_there rfl ⟨Nat.le_of_ble_eq_true rfl, Nat.le_of_ble_eq_true rfl⟩ (Nat.le_of_ble_eq_true rfl) ⟨Nat.zero_le _, Nat.zero_le _⟩ dX8_putAt_3 (ki fun r3 h => ?_)
  refine vr_istore [(4, vI r3), (0, vR k0 0), (1, vI x1), (2, vI x2), (3, vI x3)] dX8_putAt_6 (by decide) rfl ?_
  refine vr_iload 0 dX8_putAt_8 rfl ?_
  refine vr_ifeq 18 dX8_putAt_10 (by decide) (fun c10 => ?_) (fun c10 => ?_)
  · have h := h.1 c10
    refine vr_aload_n 0 1 dX8_putAt_18 rfl rfl ?_
    refine vr_iload_n 1 2 dX8_putAt_19 rfl rfl ?_
    refine vr_iload_n 3 4 dX8_putAt_20 rfl rfl ?_
    refine vr_callS RX8 (s_X8_mayWrite hk0 h) rfl rfl ml_8_241 rfl yh_X8_mayWrite rfl ⟨Nat.le_of_ble_eq_true rfl, Nat.le_of_ble_eq_true rfl⟩ (Nat.le_of_ble_eq_true rfl) ⟨Nat.zero_le _, Nat.zero_le _⟩ dX8_putAt_21 (ki fun r21 h => ?_)
    refine vr_ifeq 31 dX8_putAt_24 (by decide) (fun c24 => ?_) (fun c24 => ?_)
    · have h := h.1 c24
      refine vr_bipush (-22) dX8_putAt_31 (by decide) ?_
      exact vr_iret rfl ⟨rfl, _, rfl, h⟩ dX8_putAt_33
    · have h := h.2 c24
      refine vr_iconst 0 dX8_putAt_27 (by decide) ?_
      refine vr_goto 33 dX8_putAt_28 (by decide) ?_
      exact vr_iret rfl ⟨rfl, _, rfl, h⟩ dX8_putAt_33
  · have h := h.2 c10
    refine vr_iload 0 dX8_putAt_13 rfl ?_
    refine vr_goto 33 dX8_putAt_15 (by decide) ?_
    exact vr_iret rfl ⟨rfl, _, rfl, h⟩ dX8_putAt_33
theorem dX8_frameAt_0 : decode cX8_frameAt 0 = .ok (.sipush 2504, 3) := by decide +kernel
theorem dX8_frameAt_3 : decode cX8_frameAt 3 = .ok (.bipush 20, 2) := by decide +kernel
theorem dX8_frameAt_5 : decode cX8_frameAt 5 = .ok (.bipush 6, 2) := by decide +kernel
theorem dX8_frameAt_7 : decode cX8_frameAt 7 = .ok (.iload_n 0, 1) := by decide +kernel
theorem dX8_frameAt_8 : decode cX8_frameAt 8 = .ok (.imul, 1) := by decide +kernel
theorem dX8_frameAt_9 : decode cX8_frameAt 9 = .ok (.iload_n 1, 1) := by decide +kernel
theorem dX8_frameAt_10 : decode cX8_frameAt 10 = .ok (.iadd, 1) := by decide +kernel
theorem dX8_frameAt_11 : decode cX8_frameAt 11 = .ok (.imul, 1) := by decide +kernel
theorem dX8_frameAt_12 : decode cX8_frameAt 12 = .ok (.iadd, 1) := by decide +kernel
theorem dX8_frameAt_13 : decode cX8_frameAt 13 = .ok (.ireturn, 1) := by decide +kernel
def F_X8_frameAt (x0 : Int32) (x1 : Int32) (Q : VP) (post : Int32 → Prop) : Prop :=
  post (2504 + (20 * ((6 * x0) + x1)))
set_option maxRecDepth 4000 in
theorem s_X8_frameAt {l : Launch} {g : vG} {x0 : Int32} {x1 : Int32} {P Q : VP} {post : Int32 → Prop}  (h : F_X8_frameAt x0 x1 Q post) : VC l g yX8_frameAt cX8_frameAt 2 (some .int) 0 [vI x0, vI x1] (vjn P Q) (vpI (vjn P Q) post) := by
  refine VC.of (by decide +kernel) (Nat.le_of_ble_eq_true rfl) (show VM l g RX8 cX8_frameAt 2 (some .int) 0 (vpI (vjn P Q) post) 0 [(0, vI x0), (1, vI x1)] [] (vjn P Q) from ?_)
  unfold F_X8_frameAt at h
  refine vr_sipush 2504 dX8_frameAt_0 (by decide) ?_
  refine vr_bipush 20 dX8_frameAt_3 (by decide) ?_
  refine vr_bipush 6 dX8_frameAt_5 (by decide) ?_
  refine vr_iload_n 0 0 dX8_frameAt_7 rfl rfl ?_
  refine vr_imul dX8_frameAt_8 ?_
  refine vr_iload_n 1 1 dX8_frameAt_9 rfl rfl ?_
  refine vr_iadd dX8_frameAt_10 ?_
  refine vr_imul dX8_frameAt_11 ?_
  refine vr_iadd dX8_frameAt_12 ?_
  exact vr_iret rfl ⟨rfl, _, rfl, h⟩ dX8_frameAt_13
