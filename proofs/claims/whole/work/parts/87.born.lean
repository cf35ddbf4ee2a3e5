/-! the constructors -/
theorem oi_i : Cond.instanceMethod Lib.objectInit ∈ vtb := vtb_m 21 (by decide +kernel) (by decide +kernel)
theorem oi_c : Cond.code Lib.objectInit ⟨#[0xb1]⟩ 1 none ∈ vtb := vtb_m 22 (by decide +kernel) (by decide +kernel)
theorem ac_int : Cond.arrayClass .int ∈ vtb := vtb_m 103 (by decide +kernel) (by decide +kernel)
theorem in_0 : Cond.instantiable RX0 5 ∈ vtb := vtb_m 144 (by decide +kernel) (by decide +kernel)
theorem it_0 : Cond.initialized RX0 ∈ vtb := vtb_m 7 (by decide +kernel) (by decide +kernel)
theorem im_0 : Cond.instanceMethod yX0_init ∈ vtb := vtb_m 146 (by decide +kernel) (by decide +kernel)
theorem ck_0 : Cond.code yX0_init cX0_init 1 none ∈ vtb := vtb_m 147 (by decide +kernel) (by decide +kernel)
def eX0 : va_E := .inr (0, [.int 0, .int 0, .int 0, .int 0, .int 0])
theorem hf_0 : ∀ j, j < 5 → defaultValue (tyX0 j) = vp_V ([.int 0, .int 0, .int 0, .int 0, .int 0] : List Value) j := by
  intro j hj
  rcases j with _ | _ | _ | _ | _ | j <;> first | rfl | (exfalso; omega)
theorem in_1 : Cond.instantiable RX1 6 ∈ vtb := vtb_m 137 (by decide +kernel) (by decide +kernel)
theorem it_1 : Cond.initialized RX1 ∈ vtb := vtb_m 6 (by decide +kernel) (by decide +kernel)
theorem im_1 : Cond.instanceMethod yX1_init ∈ vtb := vtb_m 139 (by decide +kernel) (by decide +kernel)
theorem ck_1 : Cond.code yX1_init cX1_init 2 none ∈ vtb := vtb_m 140 (by decide +kernel) (by decide +kernel)
def eX1 : va_E := .inr (1, [.int 0, .int 0, .int 0, .int 0, .int 0, .null])
theorem hf_1 : ∀ j, j < 6 → defaultValue (tyX1 j) = vp_V ([.int 0, .int 0, .int 0, .int 0, .int 0, .null] : List Value) j := by
  intro j hj
  rcases j with _ | _ | _ | _ | _ | _ | j <;> first | rfl | (exfalso; omega)
theorem in_2 : Cond.instantiable RX2 12 ∈ vtb := vtb_m 24 (by decide +kernel) (by decide +kernel)
theorem it_2 : Cond.initialized RX2 ∈ vtb := vtb_m 2 (by decide +kernel) (by decide +kernel)
theorem im_2 : Cond.instanceMethod yX2_init ∈ vtb := vtb_m 26 (by decide +kernel) (by decide +kernel)
theorem ck_2 : Cond.code yX2_init cX2_init 1 none ∈ vtb := vtb_m 27 (by decide +kernel) (by decide +kernel)
def eX2 : va_E := .inr (2, [.null, .null, .int 0, .int 0, .int 0, .int 0, .null, .int 0, .int 0, .int 0, .int 0, .int 0])
theorem hf_2 : ∀ j, j < 12 → defaultValue (tyX2 j) = vp_V ([.null, .null, .int 0, .int 0, .int 0, .int 0, .null, .int 0, .int 0, .int 0, .int 0, .int 0] : List Value) j := by
  intro j hj
  rcases j with _ | _ | _ | _ | _ | _ | _ | _ | _ | _ | _ | _ | j <;> first | rfl | (exfalso; omega)
theorem in_3 : Cond.instantiable RX3 13 ∈ vtb := vtb_m 37 (by decide +kernel) (by decide +kernel)
theorem it_3 : Cond.initialized RX3 ∈ vtb := vtb_m 4 (by decide +kernel) (by decide +kernel)
theorem im_3 : Cond.instanceMethod yX3_init ∈ vtb := vtb_m 39 (by decide +kernel) (by decide +kernel)
theorem ck_3 : Cond.code yX3_init cX3_init 1 none ∈ vtb := vtb_m 40 (by decide +kernel) (by decide +kernel)
def eX3 : va_E := .inr (3, [.int 0, .int 0, .int 0, .int 0, .int 0, .int 0, .int 0, .int 0, .int 0, .int 0, .null, .null, .null])
theorem hf_3 : ∀ j, j < 13 → defaultValue (tyX3 j) = vp_V ([.int 0, .int 0, .int 0, .int 0, .int 0, .int 0, .int 0, .int 0, .int 0, .int 0, .null, .null, .null] : List Value) j := by
  intro j hj
  rcases j with _ | _ | _ | _ | _ | _ | _ | _ | _ | _ | _ | _ | _ | j <;> first | rfl | (exfalso; omega)
theorem in_4 : Cond.instantiable RX4 2 ∈ vtb := vtb_m 130 (by decide +kernel) (by decide +kernel)
theorem it_4 : Cond.initialized RX4 ∈ vtb := vtb_m 5 (by decide +kernel) (by decide +kernel)
theorem im_4 : Cond.instanceMethod yX4_init ∈ vtb := vtb_m 132 (by decide +kernel) (by decide +kernel)
theorem ck_4 : Cond.code yX4_init cX4_init 2 none ∈ vtb := vtb_m 133 (by decide +kernel) (by decide +kernel)
def eX4 : va_E := .inr (4, [.null, .null])
theorem hf_4 : ∀ j, j < 2 → defaultValue (tyX4 j) = vp_V ([.null, .null] : List Value) j := by
  intro j hj
  rcases j with _ | _ | j <;> first | rfl | (exfalso; omega)
theorem in_5 : Cond.instantiable RX5 8 ∈ vtb := vtb_m 256 (by decide +kernel) (by decide +kernel)
theorem it_5 : Cond.initialized RX5 ∈ vtb := vtb_m 8 (by decide +kernel) (by decide +kernel)
theorem im_5 : Cond.instanceMethod yX5_init ∈ vtb := vtb_m 258 (by decide +kernel) (by decide +kernel)
theorem ck_5 : Cond.code yX5_init cX5_init 1 none ∈ vtb := vtb_m 259 (by decide +kernel) (by decide +kernel)
def eX5 : va_E := .inr (5, [.null, .int 0, .int 0, .null, .null, .null, .int 0, .int 0])
theorem hf_5 : ∀ j, j < 8 → defaultValue (tyX5 j) = vp_V ([.null, .int 0, .int 0, .null, .null, .null, .int 0, .int 0] : List Value) j := by
  intro j hj
  rcases j with _ | _ | _ | _ | _ | _ | _ | _ | j <;> first | rfl | (exfalso; omega)
theorem in_6 : Cond.instantiable RX6 7 ∈ vtb := vtb_m 30 (by decide +kernel) (by decide +kernel)
theorem it_6 : Cond.initialized RX6 ∈ vtb := vtb_m 3 (by decide +kernel) (by decide +kernel)
theorem im_6 : Cond.instanceMethod yX6_init ∈ vtb := vtb_m 32 (by decide +kernel) (by decide +kernel)
theorem ck_6 : Cond.code yX6_init cX6_init 2 none ∈ vtb := vtb_m 33 (by decide +kernel) (by decide +kernel)
def eX6 : va_E := .inr (6, [.int 0, .null, .null, .int 0, .null, .int 0, .null])
theorem hf_6 : ∀ j, j < 7 → defaultValue (tyX6 j) = vp_V ([.int 0, .null, .null, .int 0, .null, .int 0, .null] : List Value) j := by
  intro j hj
  rcases j with _ | _ | _ | _ | _ | _ | _ | j <;> first | rfl | (exfalso; omega)
theorem in_7 : Cond.instantiable RX7 6 ∈ vtb := vtb_m 16 (by decide +kernel) (by decide +kernel)
theorem it_7 : Cond.initialized RX7 ∈ vtb := vtb_m 1 (by decide +kernel) (by decide +kernel)
theorem im_7 : Cond.instanceMethod yX7_init ∈ vtb := vtb_m 18 (by decide +kernel) (by decide +kernel)
theorem ck_7 : Cond.code yX7_init cX7_init 1 none ∈ vtb := vtb_m 19 (by decide +kernel) (by decide +kernel)
def eX7 : va_E := .inr (7, [.null, .null, .null, .null, .int 0, .int 0])
theorem hf_7 : ∀ j, j < 6 → defaultValue (tyX7 j) = vp_V ([.null, .null, .null, .null, .int 0, .int 0] : List Value) j := by
  intro j hj
  rcases j with _ | _ | _ | _ | _ | _ | j <;> first | rfl | (exfalso; omega)
theorem in_8 : Cond.instantiable RX8 18 ∈ vtb := vtb_m 955 (by decide +kernel) (by decide +kernel)
theorem it_8 : Cond.initialized RX8 ∈ vtb := vtb_m 9 (by decide +kernel) (by decide +kernel)
theorem im_8 : Cond.instanceMethod yX8_init ∈ vtb := vtb_m 957 (by decide +kernel) (by decide +kernel)
theorem ck_8 : Cond.code yX8_init cX8_init 1 none ∈ vtb := vtb_m 958 (by decide +kernel) (by decide +kernel)
def eX8 : va_E := .inr (8, [.null, .null, .null, .int 0, .int 0, .null, .int 0, .int 0, .int 0, .int 0, .null, .int 0, .null, .int 0, .int 0, .int 0, .null, .int 0])
theorem hf_8 : ∀ j, j < 18 → defaultValue (tyX8 j) = vp_V ([.null, .null, .null, .int 0, .int 0, .null, .int 0, .int 0, .int 0, .int 0, .null, .int 0, .null, .int 0, .int 0, .int 0, .null, .int 0] : List Value) j := by
  intro j hj
  rcases j with _ | _ | _ | _ | _ | _ | _ | _ | _ | _ | _ | _ | _ | _ | _ | _ | _ | _ | j <;> first | rfl | (exfalso; omega)
theorem cl_L_7 : Cond.classLink RL 7 RX7 ∈ vtb := vtb_m 15 (by decide +kernel) (by decide +kernel)
theorem mi_L_9 : Cond.methodLink RL 9 yX7_init ∈ vtb := vtb_m 17 (by decide +kernel) (by decide +kernel)
theorem oi_7 : Cond.methodLink RX7 1 Lib.objectInit ∈ vtb := vtb_m 20 (by decide +kernel) (by decide +kernel)
theorem cl_7_7 : Cond.classLink RX7 7 RX2 ∈ vtb := vtb_m 23 (by decide +kernel) (by decide +kernel)
theorem oi_2 : Cond.methodLink RX2 3 Lib.objectInit ∈ vtb := vtb_m 28 (by decide +kernel) (by decide +kernel)
theorem cl_2_9 : Cond.classLink RX2 9 RX6 ∈ vtb := vtb_m 29 (by decide +kernel) (by decide +kernel)
theorem mi_2_11 : Cond.methodLink RX2 11 yX6_init ∈ vtb := vtb_m 31 (by decide +kernel) (by decide +kernel)
theorem oi_6 : Cond.methodLink RX6 3 Lib.objectInit ∈ vtb := vtb_m 34 (by decide +kernel) (by decide +kernel)
theorem cl_6_25 : Cond.classLink RX6 25 RX3 ∈ vtb := vtb_m 35 (by decide +kernel) (by decide +kernel)
theorem oi_3 : Cond.methodLink RX3 3 Lib.objectInit ∈ vtb := vtb_m 41 (by decide +kernel) (by decide +kernel)
theorem cl_2_18 : Cond.classLink RX2 18 RX4 ∈ vtb := vtb_m 129 (by decide +kernel) (by decide +kernel)
theorem mi_2_20 : Cond.methodLink RX2 20 yX4_init ∈ vtb := vtb_m 131 (by decide +kernel) (by decide +kernel)
theorem oi_4 : Cond.methodLink RX4 3 Lib.objectInit ∈ vtb := vtb_m 134 (by decide +kernel) (by decide +kernel)
theorem cl_4_15 : Cond.classLink RX4 15 RX1 ∈ vtb := vtb_m 135 (by decide +kernel) (by decide +kernel)
theorem mi_4_21 : Cond.methodLink RX4 21 yX1_init ∈ vtb := vtb_m 138 (by decide +kernel) (by decide +kernel)
theorem oi_1 : Cond.methodLink RX1 3 Lib.objectInit ∈ vtb := vtb_m 141 (by decide +kernel) (by decide +kernel)
theorem cl_1_9 : Cond.classLink RX1 9 RX0 ∈ vtb := vtb_m 142 (by decide +kernel) (by decide +kernel)
theorem oi_0 : Cond.methodLink RX0 1 Lib.objectInit ∈ vtb := vtb_m 148 (by decide +kernel) (by decide +kernel)
theorem cl_2_29 : Cond.classLink RX2 29 RX1 ∈ vtb := vtb_m 206 (by decide +kernel) (by decide +kernel)
theorem mi_2_31 : Cond.methodLink RX2 31 yX1_init ∈ vtb := vtb_m 207 (by decide +kernel) (by decide +kernel)
theorem cl_7_22 : Cond.classLink RX7 22 RX5 ∈ vtb := vtb_m 255 (by decide +kernel) (by decide +kernel)
theorem oi_5 : Cond.methodLink RX5 3 Lib.objectInit ∈ vtb := vtb_m 260 (by decide +kernel) (by decide +kernel)
theorem cl_L_10 : Cond.classLink RL 10 RX8 ∈ vtb := vtb_m 954 (by decide +kernel) (by decide +kernel)
theorem mi_L_12 : Cond.methodLink RL 12 yX8_init ∈ vtb := vtb_m 956 (by decide +kernel) (by decide +kernel)
theorem oi_8 : Cond.methodLink RX8 1 Lib.objectInit ∈ vtb := vtb_m 959 (by decide +kernel) (by decide +kernel)
theorem cl_8_25 : Cond.classLink RX8 25 "java/lang/String" ∈ vtb := vtb_m 960 (by decide +kernel) (by decide +kernel)
theorem mi_7_9 : Cond.methodLinkNest RX7 9 yX2_init "RingGates" ∈ vnest := List.mem_of_getElem? (i := 0) rfl
theorem mi_6_31 : Cond.methodLinkNest RX6 31 yX3_init "RingGates" ∈ vnest := List.mem_of_getElem? (i := 1) rfl
theorem mi_1_17 : Cond.methodLinkNest RX1 17 yX0_init "RingGates" ∈ vnest := List.mem_of_getElem? (i := 2) rfl
theorem mi_7_24 : Cond.methodLinkNest RX7 24 yX5_init "RingGates" ∈ vnest := List.mem_of_getElem? (i := 3) rfl
theorem dX0_init_0 : decode cX0_init 0 = .ok (.aload_n 0, 1) := by decide +kernel
theorem dX0_init_1 : decode cX0_init 1 = .ok (.invokespecial 1, 3) := by decide +kernel
theorem dX0_init_4 : decode cX0_init 4 = .ok (.return_, 1) := by decide +kernel
theorem dX1_init_0 : decode cX1_init 0 = .ok (.aload_n 0, 1) := by decide +kernel
theorem dX1_init_1 : decode cX1_init 1 = .ok (.invokespecial 3, 3) := by decide +kernel
theorem dX1_init_4 : decode cX1_init 4 = .ok (.aload_n 0, 1) := by decide +kernel
theorem dX1_init_5 : decode cX1_init 5 = .ok (.iconst 3, 1) := by decide +kernel
theorem dX1_init_6 : decode cX1_init 6 = .ok (.anewarray 9, 3) := by decide +kernel
theorem dX1_init_9 : decode cX1_init 9 = .ok (.putfield 11, 3) := by decide +kernel
theorem dX1_init_12 : decode cX1_init 12 = .ok (.iconst 0, 1) := by decide +kernel
theorem dX1_init_13 : decode cX1_init 13 = .ok (.istore_n 1, 1) := by decide +kernel
theorem dX1_init_14 : decode cX1_init 14 = .ok (.iload_n 1, 1) := by decide +kernel
theorem dX1_init_15 : decode cX1_init 15 = .ok (.aload_n 0, 1) := by decide +kernel
theorem dX1_init_16 : decode cX1_init 16 = .ok (.getfield 11, 3) := by decide +kernel
theorem dX1_init_19 : decode cX1_init 19 = .ok (.arraylength, 1) := by decide +kernel
theorem dX1_init_20 : decode cX1_init 20 = .ok (.if_icmp .ge 22, 3) := by decide +kernel
theorem dX1_init_23 : decode cX1_init 23 = .ok (.aload_n 0, 1) := by decide +kernel
theorem dX1_init_24 : decode cX1_init 24 = .ok (.getfield 11, 3) := by decide +kernel
theorem dX1_init_27 : decode cX1_init 27 = .ok (.iload_n 1, 1) := by decide +kernel
theorem dX1_init_28 : decode cX1_init 28 = .ok (.new 9, 3) := by decide +kernel
theorem dX1_init_31 : decode cX1_init 31 = .ok (.dup, 1) := by decide +kernel
theorem dX1_init_32 : decode cX1_init 32 = .ok (.invokespecial 17, 3) := by decide +kernel
theorem dX1_init_35 : decode cX1_init 35 = .ok (.aastore, 1) := by decide +kernel
theorem dX1_init_36 : decode cX1_init 36 = .ok (.iinc 1 1, 3) := by decide +kernel
theorem dX1_init_39 : decode cX1_init 39 = .ok (.goto (-25), 3) := by decide +kernel
theorem dX1_init_42 : decode cX1_init 42 = .ok (.return_, 1) := by decide +kernel
theorem dX2_init_0 : decode cX2_init 0 = .ok (.aload_n 0, 1) := by decide +kernel
theorem dX2_init_1 : decode cX2_init 1 = .ok (.invokespecial 3, 3) := by decide +kernel
theorem dX2_init_4 : decode cX2_init 4 = .ok (.aload_n 0, 1) := by decide +kernel
theorem dX2_init_5 : decode cX2_init 5 = .ok (.new 9, 3) := by decide +kernel
theorem dX2_init_8 : decode cX2_init 8 = .ok (.dup, 1) := by decide +kernel
theorem dX2_init_9 : decode cX2_init 9 = .ok (.invokespecial 11, 3) := by decide +kernel
theorem dX2_init_12 : decode cX2_init 12 = .ok (.putfield 12, 3) := by decide +kernel
theorem dX2_init_15 : decode cX2_init 15 = .ok (.aload_n 0, 1) := by decide +kernel
theorem dX2_init_16 : decode cX2_init 16 = .ok (.new 18, 3) := by decide +kernel
theorem dX2_init_19 : decode cX2_init 19 = .ok (.dup, 1) := by decide +kernel
theorem dX2_init_20 : decode cX2_init 20 = .ok (.invokespecial 20, 3) := by decide +kernel
theorem dX2_init_23 : decode cX2_init 23 = .ok (.putfield 21, 3) := by decide +kernel
theorem dX2_init_26 : decode cX2_init 26 = .ok (.aload_n 0, 1) := by decide +kernel
theorem dX2_init_27 : decode cX2_init 27 = .ok (.iconst 4, 1) := by decide +kernel
theorem dX2_init_28 : decode cX2_init 28 = .ok (.putfield 25, 3) := by decide +kernel
theorem dX2_init_31 : decode cX2_init 31 = .ok (.aload_n 0, 1) := by decide +kernel
theorem dX2_init_32 : decode cX2_init 32 = .ok (.new 29, 3) := by decide +kernel
theorem dX2_init_35 : decode cX2_init 35 = .ok (.dup, 1) := by decide +kernel
theorem dX2_init_36 : decode cX2_init 36 = .ok (.invokespecial 31, 3) := by decide +kernel
theorem dX2_init_39 : decode cX2_init 39 = .ok (.putfield 32, 3) := by decide +kernel
theorem dX2_init_42 : decode cX2_init 42 = .ok (.return_, 1) := by decide +kernel
theorem dX3_init_0 : decode cX3_init 0 = .ok (.aload_n 0, 1) := by decide +kernel
theorem dX3_init_1 : decode cX3_init 1 = .ok (.invokespecial 3, 3) := by decide +kernel
theorem dX3_init_4 : decode cX3_init 4 = .ok (.aload_n 0, 1) := by decide +kernel
theorem dX3_init_5 : decode cX3_init 5 = .ok (.bipush 24, 2) := by decide +kernel
theorem dX3_init_7 : decode cX3_init 7 = .ok (.newarray .int, 2) := by decide +kernel
theorem dX3_init_9 : decode cX3_init 9 = .ok (.putfield 9, 3) := by decide +kernel
theorem dX3_init_12 : decode cX3_init 12 = .ok (.aload_n 0, 1) := by decide +kernel
theorem dX3_init_13 : decode cX3_init 13 = .ok (.bipush 24, 2) := by decide +kernel
theorem dX3_init_15 : decode cX3_init 15 = .ok (.newarray .int, 2) := by decide +kernel
theorem dX3_init_17 : decode cX3_init 17 = .ok (.putfield 15, 3) := by decide +kernel
theorem dX3_init_20 : decode cX3_init 20 = .ok (.aload_n 0, 1) := by decide +kernel
theorem dX3_init_21 : decode cX3_init 21 = .ok (.bipush 24, 2) := by decide +kernel
theorem dX3_init_23 : decode cX3_init 23 = .ok (.newarray .int, 2) := by decide +kernel
theorem dX3_init_25 : decode cX3_init 25 = .ok (.putfield 18, 3) := by decide +kernel
theorem dX3_init_28 : decode cX3_init 28 = .ok (.return_, 1) := by decide +kernel
theorem dX4_init_0 : decode cX4_init 0 = .ok (.aload_n 0, 1) := by decide +kernel
theorem dX4_init_1 : decode cX4_init 1 = .ok (.invokespecial 3, 3) := by decide +kernel
theorem dX4_init_4 : decode cX4_init 4 = .ok (.aload_n 0, 1) := by decide +kernel
theorem dX4_init_5 : decode cX4_init 5 = .ok (.bipush 8, 2) := by decide +kernel
theorem dX4_init_7 : decode cX4_init 7 = .ok (.newarray .int, 2) := by decide +kernel
theorem dX4_init_9 : decode cX4_init 9 = .ok (.putfield 9, 3) := by decide +kernel
theorem dX4_init_12 : decode cX4_init 12 = .ok (.aload_n 0, 1) := by decide +kernel
theorem dX4_init_13 : decode cX4_init 13 = .ok (.bipush 48, 2) := by decide +kernel
theorem dX4_init_15 : decode cX4_init 15 = .ok (.anewarray 15, 3) := by decide +kernel
theorem dX4_init_18 : decode cX4_init 18 = .ok (.putfield 17, 3) := by decide +kernel
theorem dX4_init_21 : decode cX4_init 21 = .ok (.iconst 0, 1) := by decide +kernel
theorem dX4_init_22 : decode cX4_init 22 = .ok (.istore_n 1, 1) := by decide +kernel
theorem dX4_init_23 : decode cX4_init 23 = .ok (.iload_n 1, 1) := by decide +kernel
theorem dX4_init_24 : decode cX4_init 24 = .ok (.aload_n 0, 1) := by decide +kernel
theorem dX4_init_25 : decode cX4_init 25 = .ok (.getfield 17, 3) := by decide +kernel
theorem dX4_init_28 : decode cX4_init 28 = .ok (.arraylength, 1) := by decide +kernel
theorem dX4_init_29 : decode cX4_init 29 = .ok (.if_icmp .ge 22, 3) := by decide +kernel
theorem dX4_init_32 : decode cX4_init 32 = .ok (.aload_n 0, 1) := by decide +kernel
theorem dX4_init_33 : decode cX4_init 33 = .ok (.getfield 17, 3) := by decide +kernel
theorem dX4_init_36 : decode cX4_init 36 = .ok (.iload_n 1, 1) := by decide +kernel
theorem dX4_init_37 : decode cX4_init 37 = .ok (.new 15, 3) := by decide +kernel
theorem dX4_init_40 : decode cX4_init 40 = .ok (.dup, 1) := by decide +kernel
theorem dX4_init_41 : decode cX4_init 41 = .ok (.invokespecial 21, 3) := by decide +kernel
theorem dX4_init_44 : decode cX4_init 44 = .ok (.aastore, 1) := by decide +kernel
theorem dX4_init_45 : decode cX4_init 45 = .ok (.iinc 1 1, 3) := by decide +kernel
theorem dX4_init_48 : decode cX4_init 48 = .ok (.goto (-25), 3) := by decide +kernel
theorem dX4_init_51 : decode cX4_init 51 = .ok (.return_, 1) := by decide +kernel
theorem dX5_init_0 : decode cX5_init 0 = .ok (.aload_n 0, 1) := by decide +kernel
theorem dX5_init_1 : decode cX5_init 1 = .ok (.invokespecial 3, 3) := by decide +kernel
theorem dX5_init_4 : decode cX5_init 4 = .ok (.aload_n 0, 1) := by decide +kernel
theorem dX5_init_5 : decode cX5_init 5 = .ok (.bipush 120, 2) := by decide +kernel
theorem dX5_init_7 : decode cX5_init 7 = .ok (.newarray .int, 2) := by decide +kernel
theorem dX5_init_9 : decode cX5_init 9 = .ok (.putfield 9, 3) := by decide +kernel
theorem dX5_init_12 : decode cX5_init 12 = .ok (.aload_n 0, 1) := by decide +kernel
theorem dX5_init_13 : decode cX5_init 13 = .ok (.bipush 121, 2) := by decide +kernel
theorem dX5_init_15 : decode cX5_init 15 = .ok (.newarray .int, 2) := by decide +kernel
theorem dX5_init_17 : decode cX5_init 17 = .ok (.putfield 15, 3) := by decide +kernel
theorem dX5_init_20 : decode cX5_init 20 = .ok (.aload_n 0, 1) := by decide +kernel
theorem dX5_init_21 : decode cX5_init 21 = .ok (.bipush 121, 2) := by decide +kernel
theorem dX5_init_23 : decode cX5_init 23 = .ok (.newarray .int, 2) := by decide +kernel
theorem dX5_init_25 : decode cX5_init 25 = .ok (.putfield 18, 3) := by decide +kernel
theorem dX5_init_28 : decode cX5_init 28 = .ok (.aload_n 0, 1) := by decide +kernel
theorem dX5_init_29 : decode cX5_init 29 = .ok (.iconst 3, 1) := by decide +kernel
theorem dX5_init_30 : decode cX5_init 30 = .ok (.newarray .int, 2) := by decide +kernel
theorem dX5_init_32 : decode cX5_init 32 = .ok (.putfield 21, 3) := by decide +kernel
theorem dX5_init_35 : decode cX5_init 35 = .ok (.return_, 1) := by decide +kernel
theorem dX6_init_0 : decode cX6_init 0 = .ok (.aload_n 0, 1) := by decide +kernel
theorem dX6_init_1 : decode cX6_init 1 = .ok (.invokespecial 3, 3) := by decide +kernel
theorem dX6_init_4 : decode cX6_init 4 = .ok (.aload_n 0, 1) := by decide +kernel
theorem dX6_init_5 : decode cX6_init 5 = .ok (.iconst 1, 1) := by decide +kernel
theorem dX6_init_6 : decode cX6_init 6 = .ok (.putfield 9, 3) := by decide +kernel
theorem dX6_init_9 : decode cX6_init 9 = .ok (.aload_n 0, 1) := by decide +kernel
theorem dX6_init_10 : decode cX6_init 10 = .ok (.bipush 8, 2) := by decide +kernel
theorem dX6_init_12 : decode cX6_init 12 = .ok (.newarray .int, 2) := by decide +kernel
theorem dX6_init_14 : decode cX6_init 14 = .ok (.putfield 15, 3) := by decide +kernel
theorem dX6_init_17 : decode cX6_init 17 = .ok (.aload_n 0, 1) := by decide +kernel
theorem dX6_init_18 : decode cX6_init 18 = .ok (.bipush 8, 2) := by decide +kernel
theorem dX6_init_20 : decode cX6_init 20 = .ok (.newarray .int, 2) := by decide +kernel
theorem dX6_init_22 : decode cX6_init 22 = .ok (.putfield 19, 3) := by decide +kernel
theorem dX6_init_25 : decode cX6_init 25 = .ok (.aload_n 0, 1) := by decide +kernel
theorem dX6_init_26 : decode cX6_init 26 = .ok (.iconst 4, 1) := by decide +kernel
theorem dX6_init_27 : decode cX6_init 27 = .ok (.newarray .int, 2) := by decide +kernel
theorem dX6_init_29 : decode cX6_init 29 = .ok (.putfield 22, 3) := by decide +kernel
theorem dX6_init_32 : decode cX6_init 32 = .ok (.aload_n 0, 1) := by decide +kernel
theorem dX6_init_33 : decode cX6_init 33 = .ok (.bipush 16, 2) := by decide +kernel
theorem dX6_init_35 : decode cX6_init 35 = .ok (.anewarray 25, 3) := by decide +kernel
theorem dX6_init_38 : decode cX6_init 38 = .ok (.putfield 27, 3) := by decide +kernel
theorem dX6_init_41 : decode cX6_init 41 = .ok (.aload_n 0, 1) := by decide +kernel
theorem dX6_init_42 : decode cX6_init 42 = .ok (.getfield 19, 3) := by decide +kernel
theorem dX6_init_45 : decode cX6_init 45 = .ok (.iconst 0, 1) := by decide +kernel
theorem dX6_init_46 : decode cX6_init 46 = .ok (.bipush 64, 2) := by decide +kernel
theorem dX6_init_48 : decode cX6_init 48 = .ok (.iastore, 1) := by decide +kernel
theorem dX6_init_49 : decode cX6_init 49 = .ok (.iconst 0, 1) := by decide +kernel
theorem dX6_init_50 : decode cX6_init 50 = .ok (.istore_n 1, 1) := by decide +kernel
theorem dX6_init_51 : decode cX6_init 51 = .ok (.iload_n 1, 1) := by decide +kernel
theorem dX6_init_52 : decode cX6_init 52 = .ok (.aload_n 0, 1) := by decide +kernel
theorem dX6_init_53 : decode cX6_init 53 = .ok (.getfield 27, 3) := by decide +kernel
theorem dX6_init_56 : decode cX6_init 56 = .ok (.arraylength, 1) := by decide +kernel
theorem dX6_init_57 : decode cX6_init 57 = .ok (.if_icmp .ge 22, 3) := by decide +kernel
theorem dX6_init_60 : decode cX6_init 60 = .ok (.aload_n 0, 1) := by decide +kernel
theorem dX6_init_61 : decode cX6_init 61 = .ok (.getfield 27, 3) := by decide +kernel
theorem dX6_init_64 : decode cX6_init 64 = .ok (.iload_n 1, 1) := by decide +kernel
theorem dX6_init_65 : decode cX6_init 65 = .ok (.new 25, 3) := by decide +kernel
theorem dX6_init_68 : decode cX6_init 68 = .ok (.dup, 1) := by decide +kernel
theorem dX6_init_69 : decode cX6_init 69 = .ok (.invokespecial 31, 3) := by decide +kernel
theorem dX6_init_72 : decode cX6_init 72 = .ok (.aastore, 1) := by decide +kernel
theorem dX6_init_73 : decode cX6_init 73 = .ok (.iinc 1 1, 3) := by decide +kernel
theorem dX6_init_76 : decode cX6_init 76 = .ok (.goto (-25), 3) := by decide +kernel
theorem dX6_init_79 : decode cX6_init 79 = .ok (.return_, 1) := by decide +kernel
theorem dX7_init_0 : decode cX7_init 0 = .ok (.aload_n 0, 1) := by decide +kernel
theorem dX7_init_1 : decode cX7_init 1 = .ok (.invokespecial 1, 3) := by decide +kernel
theorem dX7_init_4 : decode cX7_init 4 = .ok (.aload_n 0, 1) := by decide +kernel
theorem dX7_init_5 : decode cX7_init 5 = .ok (.new 7, 3) := by decide +kernel
theorem dX7_init_8 : decode cX7_init 8 = .ok (.dup, 1) := by decide +kernel
theorem dX7_init_9 : decode cX7_init 9 = .ok (.invokespecial 9, 3) := by decide +kernel
theorem dX7_init_12 : decode cX7_init 12 = .ok (.putfield 10, 3) := by decide +kernel
theorem dX7_init_15 : decode cX7_init 15 = .ok (.aload_n 0, 1) := by decide +kernel
theorem dX7_init_16 : decode cX7_init 16 = .ok (.new 7, 3) := by decide +kernel
theorem dX7_init_19 : decode cX7_init 19 = .ok (.dup, 1) := by decide +kernel
theorem dX7_init_20 : decode cX7_init 20 = .ok (.invokespecial 9, 3) := by decide +kernel
theorem dX7_init_23 : decode cX7_init 23 = .ok (.putfield 16, 3) := by decide +kernel
theorem dX7_init_26 : decode cX7_init 26 = .ok (.aload_n 0, 1) := by decide +kernel
theorem dX7_init_27 : decode cX7_init 27 = .ok (.new 7, 3) := by decide +kernel
theorem dX7_init_30 : decode cX7_init 30 = .ok (.dup, 1) := by decide +kernel
theorem dX7_init_31 : decode cX7_init 31 = .ok (.invokespecial 9, 3) := by decide +kernel
theorem dX7_init_34 : decode cX7_init 34 = .ok (.putfield 19, 3) := by decide +kernel
theorem dX7_init_37 : decode cX7_init 37 = .ok (.aload_n 0, 1) := by decide +kernel
theorem dX7_init_38 : decode cX7_init 38 = .ok (.new 22, 3) := by decide +kernel
theorem dX7_init_41 : decode cX7_init 41 = .ok (.dup, 1) := by decide +kernel
theorem dX7_init_42 : decode cX7_init 42 = .ok (.invokespecial 24, 3) := by decide +kernel
theorem dX7_init_45 : decode cX7_init 45 = .ok (.putfield 25, 3) := by decide +kernel
theorem dX7_init_48 : decode cX7_init 48 = .ok (.return_, 1) := by decide +kernel
theorem dX8_init_0 : decode cX8_init 0 = .ok (.aload_n 0, 1) := by decide +kernel
theorem dX8_init_1 : decode cX8_init 1 = .ok (.invokespecial 1, 3) := by decide +kernel
theorem dX8_init_4 : decode cX8_init 4 = .ok (.aload_n 0, 1) := by decide +kernel
theorem dX8_init_5 : decode cX8_init 5 = .ok (.sipush 3464, 3) := by decide +kernel
theorem dX8_init_8 : decode cX8_init 8 = .ok (.newarray .int, 2) := by decide +kernel
theorem dX8_init_10 : decode cX8_init 10 = .ok (.putfield 9, 3) := by decide +kernel
theorem dX8_init_13 : decode cX8_init 13 = .ok (.aload_n 0, 1) := by decide +kernel
theorem dX8_init_14 : decode cX8_init 14 = .ok (.sipush 3464, 3) := by decide +kernel
theorem dX8_init_17 : decode cX8_init 17 = .ok (.newarray .int, 2) := by decide +kernel
theorem dX8_init_19 : decode cX8_init 19 = .ok (.putfield 13, 3) := by decide +kernel
theorem dX8_init_22 : decode cX8_init 22 = .ok (.aload_n 0, 1) := by decide +kernel
theorem dX8_init_23 : decode cX8_init 23 = .ok (.sipush 3464, 3) := by decide +kernel
theorem dX8_init_26 : decode cX8_init 26 = .ok (.newarray .int, 2) := by decide +kernel
theorem dX8_init_28 : decode cX8_init 28 = .ok (.putfield 16, 3) := by decide +kernel
theorem dX8_init_31 : decode cX8_init 31 = .ok (.aload_n 0, 1) := by decide +kernel
theorem dX8_init_32 : decode cX8_init 32 = .ok (.bipush 120, 2) := by decide +kernel
theorem dX8_init_34 : decode cX8_init 34 = .ok (.newarray .int, 2) := by decide +kernel
theorem dX8_init_36 : decode cX8_init 36 = .ok (.putfield 19, 3) := by decide +kernel
theorem dX8_init_39 : decode cX8_init 39 = .ok (.aload_n 0, 1) := by decide +kernel
theorem dX8_init_40 : decode cX8_init 40 = .ok (.sipush 480, 3) := by decide +kernel
theorem dX8_init_43 : decode cX8_init 43 = .ok (.newarray .int, 2) := by decide +kernel
theorem dX8_init_45 : decode cX8_init 45 = .ok (.putfield 22, 3) := by decide +kernel
theorem dX8_init_48 : decode cX8_init 48 = .ok (.aload_n 0, 1) := by decide +kernel
theorem dX8_init_49 : decode cX8_init 49 = .ok (.bipush 10, 2) := by decide +kernel
theorem dX8_init_51 : decode cX8_init 51 = .ok (.anewarray 25, 3) := by decide +kernel
theorem dX8_init_54 : decode cX8_init 54 = .ok (.dup, 1) := by decide +kernel
theorem dX8_init_55 : decode cX8_init 55 = .ok (.iconst 0, 1) := by decide +kernel
theorem dX8_init_56 : decode cX8_init 56 = .ok (.ldc 27, 2) := by decide +kernel
theorem dX8_init_58 : decode cX8_init 58 = .ok (.aastore, 1) := by decide +kernel
theorem dX8_init_59 : decode cX8_init 59 = .ok (.dup, 1) := by decide +kernel
theorem dX8_init_60 : decode cX8_init 60 = .ok (.iconst 1, 1) := by decide +kernel
theorem dX8_init_61 : decode cX8_init 61 = .ok (.ldc 29, 2) := by decide +kernel
theorem dX8_init_63 : decode cX8_init 63 = .ok (.aastore, 1) := by decide +kernel
theorem dX8_init_64 : decode cX8_init 64 = .ok (.dup, 1) := by decide +kernel
theorem dX8_init_65 : decode cX8_init 65 = .ok (.iconst 2, 1) := by decide +kernel
theorem dX8_init_66 : decode cX8_init 66 = .ok (.ldc 31, 2) := by decide +kernel
theorem dX8_init_68 : decode cX8_init 68 = .ok (.aastore, 1) := by decide +kernel
theorem dX8_init_69 : decode cX8_init 69 = .ok (.dup, 1) := by decide +kernel
theorem dX8_init_70 : decode cX8_init 70 = .ok (.iconst 3, 1) := by decide +kernel
theorem dX8_init_71 : decode cX8_init 71 = .ok (.ldc 33, 2) := by decide +kernel
theorem dX8_init_73 : decode cX8_init 73 = .ok (.aastore, 1) := by decide +kernel
theorem dX8_init_74 : decode cX8_init 74 = .ok (.dup, 1) := by decide +kernel
theorem dX8_init_75 : decode cX8_init 75 = .ok (.iconst 4, 1) := by decide +kernel
theorem dX8_init_76 : decode cX8_init 76 = .ok (.ldc 35, 2) := by decide +kernel
theorem dX8_init_78 : decode cX8_init 78 = .ok (.aastore, 1) := by decide +kernel
theorem dX8_init_79 : decode cX8_init 79 = .ok (.dup, 1) := by decide +kernel
theorem dX8_init_80 : decode cX8_init 80 = .ok (.iconst 5, 1) := by decide +kernel
theorem dX8_init_81 : decode cX8_init 81 = .ok (.ldc 37, 2) := by decide +kernel
theorem dX8_init_83 : decode cX8_init 83 = .ok (.aastore, 1) := by decide +kernel
theorem dX8_init_84 : decode cX8_init 84 = .ok (.dup, 1) := by decide +kernel
theorem dX8_init_85 : decode cX8_init 85 = .ok (.bipush 6, 2) := by decide +kernel
theorem dX8_init_87 : decode cX8_init 87 = .ok (.ldc 39, 2) := by decide +kernel
theorem dX8_init_89 : decode cX8_init 89 = .ok (.aastore, 1) := by decide +kernel
theorem dX8_init_90 : decode cX8_init 90 = .ok (.dup, 1) := by decide +kernel
theorem dX8_init_91 : decode cX8_init 91 = .ok (.bipush 7, 2) := by decide +kernel
theorem dX8_init_93 : decode cX8_init 93 = .ok (.ldc 41, 2) := by decide +kernel
theorem dX8_init_95 : decode cX8_init 95 = .ok (.aastore, 1) := by decide +kernel
theorem dX8_init_96 : decode cX8_init 96 = .ok (.dup, 1) := by decide +kernel
theorem dX8_init_97 : decode cX8_init 97 = .ok (.bipush 8, 2) := by decide +kernel
theorem dX8_init_99 : decode cX8_init 99 = .ok (.ldc 43, 2) := by decide +kernel
theorem dX8_init_101 : decode cX8_init 101 = .ok (.aastore, 1) := by decide +kernel
theorem dX8_init_102 : decode cX8_init 102 = .ok (.dup, 1) := by decide +kernel
theorem dX8_init_103 : decode cX8_init 103 = .ok (.bipush 9, 2) := by decide +kernel
theorem dX8_init_105 : decode cX8_init 105 = .ok (.ldc 45, 2) := by decide +kernel
theorem dX8_init_107 : decode cX8_init 107 = .ok (.aastore, 1) := by decide +kernel
theorem dX8_init_108 : decode cX8_init 108 = .ok (.putfield 47, 3) := by decide +kernel
theorem dX8_init_111 : decode cX8_init 111 = .ok (.aload_n 0, 1) := by decide +kernel
theorem dX8_init_112 : decode cX8_init 112 = .ok (.bipush 12, 2) := by decide +kernel
theorem dX8_init_114 : decode cX8_init 114 = .ok (.newarray .int, 2) := by decide +kernel
theorem dX8_init_116 : decode cX8_init 116 = .ok (.putfield 51, 3) := by decide +kernel
theorem dX8_init_119 : decode cX8_init 119 = .ok (.aload_n 0, 1) := by decide +kernel
theorem dX8_init_120 : decode cX8_init 120 = .ok (.getfield 9, 3) := by decide +kernel
theorem dX8_init_123 : decode cX8_init 123 = .ok (.iconst 0, 1) := by decide +kernel
theorem dX8_init_124 : decode cX8_init 124 = .ok (.iconst 1, 1) := by decide +kernel
theorem dX8_init_125 : decode cX8_init 125 = .ok (.iastore, 1) := by decide +kernel
theorem dX8_init_126 : decode cX8_init 126 = .ok (.aload_n 0, 1) := by decide +kernel
theorem dX8_init_127 : decode cX8_init 127 = .ok (.getfield 9, 3) := by decide +kernel
theorem dX8_init_130 : decode cX8_init 130 = .ok (.bipush 24, 2) := by decide +kernel
theorem dX8_init_132 : decode cX8_init 132 = .ok (.bipush 64, 2) := by decide +kernel
theorem dX8_init_134 : decode cX8_init 134 = .ok (.iastore, 1) := by decide +kernel
theorem dX8_init_135 : decode cX8_init 135 = .ok (.aload_n 0, 1) := by decide +kernel
theorem dX8_init_136 : decode cX8_init 136 = .ok (.getfield 9, 3) := by decide +kernel
theorem dX8_init_139 : decode cX8_init 139 = .ok (.iconst 5, 1) := by decide +kernel
theorem dX8_init_140 : decode cX8_init 140 = .ok (.iconst 4, 1) := by decide +kernel
theorem dX8_init_141 : decode cX8_init 141 = .ok (.iastore, 1) := by decide +kernel
theorem dX8_init_142 : decode cX8_init 142 = .ok (.return_, 1) := by decide +kernel
def nArr (g : vG) (n : Nat) : va_E := .inl (g.2.1 0, n, .inl (fun _ => 0))
def nRw (g : vG) (t N i : Nat) (f : Nat → Nat) : va_E := .inl (g.2.1 t, N, .inr (.inr (.inr (.inr (fun j => if j < i then some (f j) else none)))))
theorem nRw_0 (g : vG) (t N : Nat) (f : Nat → Nat) : (.inl (g.2.1 t, N, .inr (.inr (.inr (.inr (fun _ => none))))) : va_E) = nRw g t N 0 f := rfl
theorem nRw_s (g : vG) (t N i : Nat) (f : Nat → Nat) : (.inl (g.2.1 t, N, .inr (.inr (.inr (.inr (va_up (fun j => if j < i then some (f j) else none) i (some (f i))))))) : va_E) = nRw g t N (i + 1) f := by
  unfold nRw
  congr 7
  funext j
  unfold va_up
  by_cases h : j = i
  · subst h
    simp
  · rw [if_neg h]
    dsimp only
    by_cases h1 : j < i
    · rw [if_pos h1, if_pos (by omega)]
    · rw [if_neg h1, if_neg (by omega)]
def bX0 (_g : vG) (_a : Nat) : List va_E := [eX0]
def bX3 (g : vG) (a : Nat) : List va_E := [.inr (3, [.int 0, .int 0, .int 0, .int 0, .int 0, .int 0, .int 0, .int 0, .int 0, .int 0, .ref (a + 1), .ref (a + 2), .ref (a + 3)]), nArr g 24, nArr g 24, nArr g 24]
def bX5 (g : vG) (a : Nat) : List va_E := [.inr (5, [.ref (a + 1), .int 0, .int 0, .ref (a + 2), .ref (a + 3), .ref (a + 4), .int 0, .int 0]), nArr g 120, nArr g 121, nArr g 121, nArr g 3]
def lX1 (g : vG) (a i : Nat) : List va_E := [.inr (1, [.int 0, .int 0, .int 0, .int 0, .int 0, .ref (a + 1)]), nRw g 3 3 i (fun j => a + (2 + j))] ++ (List.range i).flatMap (fun j => bX0 g (a + (2 + j)))
def bX1 (g : vG) (a : Nat) : List va_E := lX1 g a 3
def lX4 (g : vG) (a i : Nat) : List va_E := [.inr (4, [.ref (a + 1), .ref (a + 2)]), nArr g 8, nRw g 2 48 i (fun j => a + (3 + 5 * j))] ++ (List.range i).flatMap (fun j => bX1 g (a + (3 + 5 * j)))
def bX4 (g : vG) (a : Nat) : List va_E := lX4 g a 48
def lX6 (g : vG) (a i : Nat) : List va_E := [.inr (6, [.int 1, .ref (a + 1), .ref (a + 2), .int 0, .ref (a + 3), .int 0, .ref (a + 4)]), nArr g 8, .inl (g.2.1 0, 8, .inl (va_up (fun _ => 0) (ix 0) 64)), nArr g 4, nRw g 1 16 i (fun j => a + (5 + 4 * j))] ++ (List.range i).flatMap (fun j => bX3 g (a + (5 + 4 * j)))
def bX6 (g : vG) (a : Nat) : List va_E := lX6 g a 16
theorem fm_len {α : Type} {f : Nat → List α} {c : Nat} (h : ∀ j, (f j).length = c) (n : Nat) : ((List.range n).flatMap f).length = c * n := by
  induction n with
  | zero => rfl
  | succ n ih => rw [List.range_succ, List.flatMap_append, List.length_append, ih, List.flatMap_singleton, h, Nat.mul_succ]
theorem le_X3 (g : vG) (a : Nat) : (bX3 g a).length = 4 := rfl
theorem le_X5 (g : vG) (a : Nat) : (bX5 g a).length = 5 := rfl
theorem le_l1 (g : vG) (a i : Nat) : (lX1 g a i).length = 2 + i := by
  unfold lX1
  rw [List.length_append, fm_len (c := 1) (fun j => rfl)]
  show 2 + 1 * i = _
  omega
theorem le_X1 (g : vG) (a : Nat) : (bX1 g a).length = 5 := le_l1 g a 3
theorem le_l4 (g : vG) (a i : Nat) : (lX4 g a i).length = 3 + 5 * i := by
  unfold lX4
  rw [List.length_append, fm_len (c := 5) (fun j => le_X1 g _)]
  rfl
theorem le_X4 (g : vG) (a : Nat) : (bX4 g a).length = 243 := le_l4 g a 48
theorem le_l6 (g : vG) (a i : Nat) : (lX6 g a i).length = 5 + 4 * i := by
  unfold lX6
  rw [List.length_append, fm_len (c := 4) (fun j => le_X3 g _)]
  rfl
theorem le_X6 (g : vG) (a : Nat) : (bX6 g a).length = 69 := le_l6 g a 16
def bX2 (g : vG) (a : Nat) : List va_E := (([.inr (2, [.ref (a + 1), .ref (a + 70), .int 0, .int 0, .int 4, .int 0, .ref (a + 313), .int 0, .int 0, .int 0, .int 0, .int 0])] ++ bX6 g (a + 1)) ++ bX4 g (a + 70)) ++ bX1 g (a + 313)
theorem le_X2 (g : vG) (a : Nat) : (bX2 g a).length = 318 := by
  unfold bX2
  rw [List.length_append, List.length_append, List.length_append, le_X1, le_X4, le_X6]
  rfl
def bX7 (g : vG) (a : Nat) : List va_E := ((([.inr (7, [.ref (a + 1), .ref (a + 319), .ref (a + 637), .ref (a + 955), .int 0, .int 0])] ++ bX2 g (a + 1)) ++ bX2 g (a + 319)) ++ bX2 g (a + 637)) ++ bX5 g (a + 955)
theorem le_X7 (g : vG) (a : Nat) : (bX7 g a).length = 960 := by
  unfold bX7
  rw [List.length_append, List.length_append, List.length_append, List.length_append, le_X2, le_X2, le_X2, le_X5]
  rfl
def bX8 (g : vG) (a : Nat) : List va_E := [.inr (8, [.ref (a + 1), .ref (a + 2), .ref (a + 3), .int 0, .int 0, .ref (a + 4), .int 0, .int 0, .int 0, .int 0, .ref (a + 5), .int 0, .ref (a + 6), .int 0, .int 0, .int 0, .ref (a + 7), .int 0]), .inl (g.2.1 0, 3464, .inl (va_up (va_up (va_up (fun _ => 0) (ix 0) 1) (ix 24) 64) (ix 5) 4)), nArr g 3464, nArr g 3464, nArr g 120, nArr g 480, .inl (g.2.1 4, 10, .inr (.inr (.inr (.inr (va_up (va_up (va_up (va_up (va_up (va_up (va_up (va_up (va_up (va_up (fun _ => none) (ix 0) (some (g.2.2.2.1 0))) (ix 1) (some (g.2.2.2.1 1))) (ix 2) (some (g.2.2.2.1 2))) (ix 3) (some (g.2.2.2.1 3))) (ix 4) (some (g.2.2.2.1 4))) (ix 5) (some (g.2.2.2.1 5))) (ix 6) (some (g.2.2.2.1 6))) (ix 7) (some (g.2.2.2.1 7))) (ix 8) (some (g.2.2.2.1 8))) (ix 9) (some (g.2.2.2.1 9))))))), nArr g 12]
theorem le_X8 (g : vG) (a : Nat) : (bX8 g a).length = 8 := rfl
theorem n_last {α : Type} {w blk : List α} {n : Nat} {e : α} (h : w.length = n) (he : blk[0]? = some e) : (w ++ blk)[n]? = some e := by
  subst h
  rw [List.getElem?_append_right (Nat.le_refl _), Nat.sub_self]
  exact he
theorem nr_ceq {l : Launch} {g : vG} {own : String} {bs : ByteArray} {nL : Nat} {rt : Option FieldType} {R : Room} {ini : Bool} {E : Array Value → State → Prop} {Qf : List Frame → Array Value → State → State → Prop} {a ce sl pc ce' sl' : Nat} {ll : List (Nat × Value)} {st : List Value} {w : List va_E} (h1 : ce = ce') (h2 : sl = sl') (h : NB l g own bs nL rt R ini E Qf a ce' sl' pc ll st w) : NB l g own bs nL rt R ini E Qf a ce sl pc ll st w := by
  subst h1
  subst h2
  exact h
set_option maxRecDepth 8000 in
theorem n_X0 (l : Launch) (g : vG) : NC l g yX0_init cX0_init 1 1 0 0 eX0 (bX0 g) := NC.of (by decide +kernel) rfl (by decide) (fun a => by
    show NJ l g RX0 cX0_init 1 1 0 0 (bX0 g a) a 0 0 0 [(0, .ref a)] [] [eX0]
    refine nr_aload_n 0 0 dX0_init_0 rfl rfl ?_
    refine nr_obj RX0 rfl oi_0 oi_i oi_c (by decide) dX0_init_1 ?_
    exact nr_vret rfl ⟨rfl, rfl⟩ dX0_init_4)
set_option maxRecDepth 8000 in
theorem n_X3 (l : Launch) (g : vG) : NC l g yX3_init cX3_init 1 1 3 72 eX3 (bX3 g) := NC.of (by decide +kernel) rfl (by decide) (fun a => by
    show NJ l g RX3 cX3_init 1 1 3 72 (bX3 g a) a 0 0 0 [(0, .ref a)] [] [eX3]
    refine nr_aload_n 0 0 dX3_init_0 rfl rfl ?_
    refine nr_obj RX3 rfl oi_3 oi_i oi_c (by decide) dX3_init_1 ?_
    refine nr_aload_n 0 0 dX3_init_4 rfl rfl ?_
    refine nr_bipush 24 dX3_init_5 rfl ?_
    refine nr_newa (N := 24) (b := a + 1) ac_int (by decide) rfl (by decide) (by decide) rfl dX3_init_7 ?_
    refine nr_ext (w' := [eX3, nArr g 24]) rfl ?_
    refine nr_putF RX3 (j := 0) (k := 10) (ci := 3) (fs := [.int 0, .int 0, .int 0, .int 0, .int 0, .int 0, .int 0, .int 0, .int 0, .int 0, .null, .null, .null]) (w' := [.inr (3, [.int 0, .int 0, .int 0, .int 0, .int 0, .int 0, .int 0, .int 0, .int 0, .int 0, .ref (a + 1), .null, .null]), nArr g 24]) rfl rfl rfl rfl rfl inv_X3 tyX3_ok nmX3 (by decide) ⟨rfl, rfl, rfl⟩ fl_3_9 rfl rfl rfl rfl rfl (Nat.le_of_ble_eq_true rfl) rfl dX3_init_9 ?_
    refine nr_aload_n 0 0 dX3_init_12 rfl rfl ?_
    refine nr_bipush 24 dX3_init_13 rfl ?_
    refine nr_newa (N := 24) (b := a + 2) ac_int (by decide) rfl (by decide) (by decide) rfl dX3_init_15 ?_
    refine nr_ext (w' := [.inr (3, [.int 0, .int 0, .int 0, .int 0, .int 0, .int 0, .int 0, .int 0, .int 0, .int 0, .ref (a + 1), .null, .null]), nArr g 24, nArr g 24]) rfl ?_
    refine nr_putF RX3 (j := 0) (k := 11) (ci := 3) (fs := [.int 0, .int 0, .int 0, .int 0, .int 0, .int 0, .int 0, .int 0, .int 0, .int 0, .ref (a + 1), .null, .null]) (w' := [.inr (3, [.int 0, .int 0, .int 0, .int 0, .int 0, .int 0, .int 0, .int 0, .int 0, .int 0, .ref (a + 1), .ref (a + 2), .null]), nArr g 24, nArr g 24]) rfl rfl rfl rfl rfl inv_X3 tyX3_ok nmX3 (by decide) ⟨rfl, rfl, rfl⟩ fl_3_15 rfl rfl rfl rfl rfl (Nat.le_of_ble_eq_true rfl) rfl dX3_init_17 ?_
    refine nr_aload_n 0 0 dX3_init_20 rfl rfl ?_
    refine nr_bipush 24 dX3_init_21 rfl ?_
    refine nr_newa (N := 24) (b := a + 3) ac_int (by decide) rfl (by decide) (by decide) rfl dX3_init_23 ?_
    refine nr_ext (w' := [.inr (3, [.int 0, .int 0, .int 0, .int 0, .int 0, .int 0, .int 0, .int 0, .int 0, .int 0, .ref (a + 1), .ref (a + 2), .null]), nArr g 24, nArr g 24, nArr g 24]) rfl ?_
    refine nr_putF RX3 (j := 0) (k := 12) (ci := 3) (fs := [.int 0, .int 0, .int 0, .int 0, .int 0, .int 0, .int 0, .int 0, .int 0, .int 0, .ref (a + 1), .ref (a + 2), .null]) (w' := [.inr (3, [.int 0, .int 0, .int 0, .int 0, .int 0, .int 0, .int 0, .int 0, .int 0, .int 0, .ref (a + 1), .ref (a + 2), .ref (a + 3)]), nArr g 24, nArr g 24, nArr g 24]) rfl rfl rfl rfl rfl inv_X3 tyX3_ok nmX3 (by decide) ⟨rfl, rfl, rfl⟩ fl_3_18 rfl rfl rfl rfl rfl (Nat.le_of_ble_eq_true rfl) rfl dX3_init_25 ?_
    exact nr_vret rfl ⟨rfl, rfl⟩ dX3_init_28)
set_option maxRecDepth 8000 in
theorem n_X5 (l : Launch) (g : vG) : NC l g yX5_init cX5_init 1 1 4 365 eX5 (bX5 g) := NC.of (by decide +kernel) rfl (by decide) (fun a => by
    show NJ l g RX5 cX5_init 1 1 4 365 (bX5 g a) a 0 0 0 [(0, .ref a)] [] [eX5]
    refine nr_aload_n 0 0 dX5_init_0 rfl rfl ?_
    refine nr_obj RX5 rfl oi_5 oi_i oi_c (by decide) dX5_init_1 ?_
    refine nr_aload_n 0 0 dX5_init_4 rfl rfl ?_
    refine nr_bipush 120 dX5_init_5 rfl ?_
    refine nr_newa (N := 120) (b := a + 1) ac_int (by decide) rfl (by decide) (by decide) rfl dX5_init_7 ?_
    refine nr_ext (w' := [eX5, nArr g 120]) rfl ?_
    refine nr_putF RX5 (j := 0) (k := 0) (ci := 5) (fs := [.null, .int 0, .int 0, .null, .null, .null, .int 0, .int 0]) (w' := [.inr (5, [.ref (a + 1), .int 0, .int 0, .null, .null, .null, .int 0, .int 0]), nArr g 120]) rfl rfl rfl rfl rfl inv_X5 tyX5_ok nmX5 (by decide) ⟨rfl, rfl, rfl⟩ fl_5_9 rfl rfl rfl rfl rfl (Nat.le_of_ble_eq_true rfl) rfl dX5_init_9 ?_
    refine nr_aload_n 0 0 dX5_init_12 rfl rfl ?_
    refine nr_bipush 121 dX5_init_13 rfl ?_
    refine nr_newa (N := 121) (b := a + 2) ac_int (by decide) rfl (by decide) (by decide) rfl dX5_init_15 ?_
    refine nr_ext (w' := [.inr (5, [.ref (a + 1), .int 0, .int 0, .null, .null, .null, .int 0, .int 0]), nArr g 120, nArr g 121]) rfl ?_
    refine nr_putF RX5 (j := 0) (k := 3) (ci := 5) (fs := [.ref (a + 1), .int 0, .int 0, .null, .null, .null, .int 0, .int 0]) (w' := [.inr (5, [.ref (a + 1), .int 0, .int 0, .ref (a + 2), .null, .null, .int 0, .int 0]), nArr g 120, nArr g 121]) rfl rfl rfl rfl rfl inv_X5 tyX5_ok nmX5 (by decide) ⟨rfl, rfl, rfl⟩ fl_5_15 rfl rfl rfl rfl rfl (Nat.le_of_ble_eq_true rfl) rfl dX5_init_17 ?_
    refine nr_aload_n 0 0 dX5_init_20 rfl rfl ?_
    refine nr_bipush 121 dX5_init_21 rfl ?_
    refine nr_newa (N := 121) (b := a + 3) ac_int (by decide) rfl (by decide) (by decide) rfl dX5_init_23 ?_
    refine nr_ext (w' := [.inr (5, [.ref (a + 1), .int 0, .int 0, .ref (a + 2), .null, .null, .int 0, .int 0]), nArr g 120, nArr g 121, nArr g 121]) rfl ?_
    refine nr_putF RX5 (j := 0) (k := 4) (ci := 5) (fs := [.ref (a + 1), .int 0, .int 0, .ref (a + 2), .null, .null, .int 0, .int 0]) (w' := [.inr (5, [.ref (a + 1), .int 0, .int 0, .ref (a + 2), .ref (a + 3), .null, .int 0, .int 0]), nArr g 120, nArr g 121, nArr g 121]) rfl rfl rfl rfl rfl inv_X5 tyX5_ok nmX5 (by decide) ⟨rfl, rfl, rfl⟩ fl_5_18 rfl rfl rfl rfl rfl (Nat.le_of_ble_eq_true rfl) rfl dX5_init_25 ?_
    refine nr_aload_n 0 0 dX5_init_28 rfl rfl ?_
    refine nr_iconst 3 dX5_init_29 rfl ?_
    refine nr_newa (N := 3) (b := a + 4) ac_int (by decide) rfl (by decide) (by decide) rfl dX5_init_30 ?_
    refine nr_ext (w' := [.inr (5, [.ref (a + 1), .int 0, .int 0, .ref (a + 2), .ref (a + 3), .null, .int 0, .int 0]), nArr g 120, nArr g 121, nArr g 121, nArr g 3]) rfl ?_
    refine nr_putF RX5 (j := 0) (k := 5) (ci := 5) (fs := [.ref (a + 1), .int 0, .int 0, .ref (a + 2), .ref (a + 3), .null, .int 0, .int 0]) (w' := [.inr (5, [.ref (a + 1), .int 0, .int 0, .ref (a + 2), .ref (a + 3), .ref (a + 4), .int 0, .int 0]), nArr g 120, nArr g 121, nArr g 121, nArr g 3]) rfl rfl rfl rfl rfl inv_X5 tyX5_ok nmX5 (by decide) ⟨rfl, rfl, rfl⟩ fl_5_21 rfl rfl rfl rfl rfl (Nat.le_of_ble_eq_true rfl) rfl dX5_init_32 ?_
    exact nr_vret rfl ⟨rfl, rfl⟩ dX5_init_35)
theorem ls_X1 (g : vG) (a i : Nat) : (lX1 g a i ++ bX0 g (a + (2 + i))).set 1 (.inl (g.2.1 3, 3, .inr (.inr (.inr (.inr (va_up (fun j => if j < i then some (a + (2 + j)) else none) i (some (a + (2 + i))))))))) = lX1 g a (i + 1) := by
  rw [nRw_s g 3 3 i (fun j => a + (2 + j))]
  unfold lX1
  rw [List.range_succ, List.flatMap_append, List.flatMap_singleton]
  rfl
set_option maxRecDepth 8000 in
theorem nl_X1 (l : Launch) (g : vG) (a : Nat) : ∀ k i : Nat, i + k = 3 → NJ l g RX1 cX1_init 2 2 4 18 (bX1 g a) a (1 + 1 * i) (3 + 5 * i) 14 [(1, .int (nI i)), (0, .ref a)] [] (lX1 g a i) := by
  intro k
  induction k with
  | zero =>
    intro i hi
    obtain rfl : i = 3 := hi
    refine nr_iload_n 1 0 dX1_init_14 rfl rfl ?_
    refine nr_aload_n 0 1 dX1_init_15 rfl rfl ?_
    refine nr_get RX1 (j := 0) (k := 5) (ci := 1) (fs := [.int 0, .int 0, .int 0, .int 0, .int 0, .ref (a + 1)]) (v := .ref (a + 1)) rfl rfl rfl rfl inv_X1 (by decide) ⟨rfl, rfl, rfl⟩ fl_1_11 rfl dX1_init_16 ?_
    refine nr_alen (j := 1) (t := 3) (N := 3) (nI 3) rfl rfl rfl rfl dX1_init_19 ?_
    refine nr_icmpge 42 dX1_init_20 rfl (fun hh => absurd (Int32.le_refl _) hh) (fun _ => ?_)
    exact nr_vret rfl ⟨rfl, rfl⟩ dX1_init_42
  | succ k ih =>
    intro i hi
    have hi3 : i < 3 := by omega
    refine nr_iload_n 1 0 dX1_init_14 rfl rfl ?_
    refine nr_aload_n 0 1 dX1_init_15 rfl rfl ?_
    refine nr_get RX1 (j := 0) (k := 5) (ci := 1) (fs := [.int 0, .int 0, .int 0, .int 0, .int 0, .ref (a + 1)]) (v := .ref (a + 1)) rfl rfl rfl rfl inv_X1 (by decide) ⟨rfl, rfl, rfl⟩ fl_1_11 rfl dX1_init_16 ?_
    refine nr_alen (j := 1) (t := 3) (N := 3) (nI 3) rfl rfl rfl rfl dX1_init_19 ?_
    refine nr_icmpge 42 dX1_init_20 rfl (fun _ => ?_) (fun hh => absurd hh (nI_ge hi3 (by decide)))
    refine nr_aload_n 0 1 dX1_init_23 rfl rfl ?_
    refine nr_get RX1 (j := 0) (k := 5) (ci := 1) (fs := [.int 0, .int 0, .int 0, .int 0, .int 0, .ref (a + 1)]) (v := .ref (a + 1)) rfl rfl rfl rfl inv_X1 (by decide) ⟨rfl, rfl, rfl⟩ fl_1_11 rfl dX1_init_24 ?_
    refine nr_iload_n 1 0 dX1_init_27 rfl rfl ?_
    refine nr_new RX1 (ci := 0) (b := a + (2 + i)) [.int 0, .int 0, .int 0, .int 0, .int 0] rfl inv_X0 tyX0_ok cl_1_9 in_0 it_0 rfl hf_0 (by show _ ≤ 4 ∧ _ ≤ 18; omega) (by rw [le_l1]) dX1_init_28 ?_
    refine nr_dup dX1_init_31 ?_
    refine nr_initN RX1 "RingGates" (w := lX1 g a i) (n_X0 l g) rfl rfl (by rw [le_l1]) ck_0 mi_1_17 im_0 it_0 (by decide +kernel) rfl (by decide) (Nat.le_of_ble_eq_true rfl) (by show _ ≤ 4 ∧ _ ≤ 18; omega) dX1_init_32 ?_
    refine nr_aast (j := 1) (t := 3) (N := 3) (jv := (2 + i)) (ci := 0) (r := (RX0, TX0, 5)) (f := fun j => if j < i then some (a + (2 + j)) else none) (w' := lX1 g a (i + 1)) rfl rfl rfl (by rw [vp_in_iff, nI_toInt (by omega)]; omega) (by rw [show ix (nI i) = i from nI_clamp (by omega)]; exact ls_X1 g a i) rfl (n_last (le_l1 g a i) rfl) rfl dX1_init_35 ?_
    refine nr_iinc (nI (i + 1)) 0 [(1, .int (nI (i + 1))), (0, .ref a)] dX1_init_36 rfl (nI_succ i).symm (by decide) rfl ?_
    refine nr_goto 14 dX1_init_39 rfl ?_
    refine nr_ceq (ce' := 1 + 1 * (i + 1)) (sl' := 3 + 5 * (i + 1)) (by omega) (by omega) ?_
    exact ih (i + 1) (by omega)
set_option maxRecDepth 8000 in
theorem n_X1 (l : Launch) (g : vG) : NC l g yX1_init cX1_init 2 2 4 18 eX1 (bX1 g) := NC.of (by decide +kernel) rfl (by decide) (fun a => by
    show NJ l g RX1 cX1_init 2 2 4 18 (bX1 g a) a 0 0 0 [(0, .ref a)] [] [eX1]
    refine nr_aload_n 0 0 dX1_init_0 rfl rfl ?_
    refine nr_obj RX1 rfl oi_1 oi_i oi_c (by decide) dX1_init_1 ?_
    refine nr_aload_n 0 0 dX1_init_4 rfl rfl ?_
    refine nr_iconst 3 dX1_init_5 rfl ?_
    refine nr_anew RX1 (C := RX0) (t := 3) (N := 3) (b := a + 1) rfl (List.mem_of_getElem? (i := 2) rfl) rfl cl_1_9 (by decide) rfl (by decide) (by decide) rfl dX1_init_6 ?_
    refine nr_ext (w' := [eX1, .inl (g.2.1 3, 3, .inr (.inr (.inr (.inr (fun _ => none)))))]) rfl ?_
    refine nr_putF RX1 (j := 0) (k := 5) (ci := 1) (fs := [.int 0, .int 0, .int 0, .int 0, .int 0, .null]) (w' := [.inr (1, [.int 0, .int 0, .int 0, .int 0, .int 0, .ref (a + 1)]), .inl (g.2.1 3, 3, .inr (.inr (.inr (.inr (fun _ => none)))))]) rfl rfl rfl rfl rfl inv_X1 tyX1_ok nmX1 (by decide) ⟨rfl, rfl, rfl⟩ fl_1_11 rfl rfl rfl rfl rfl (Nat.le_of_ble_eq_true rfl) rfl dX1_init_9 ?_
    refine nr_iconst 0 dX1_init_12 rfl ?_
    refine nr_istore_n 1 [(1, .int (nI 0)), (0, .ref a)] dX1_init_13 rfl (by decide) rfl ?_
    exact nl_X1 l g a 3 0 rfl)
theorem ls_X4 (g : vG) (a i : Nat) : (lX4 g a i ++ bX1 g (a + (3 + 5 * i))).set 2 (.inl (g.2.1 2, 48, .inr (.inr (.inr (.inr (va_up (fun j => if j < i then some (a + (3 + 5 * j)) else none) i (some (a + (3 + 5 * i))))))))) = lX4 g a (i + 1) := by
  rw [nRw_s g 2 48 i (fun j => a + (3 + 5 * j))]
  unfold lX4
  rw [List.range_succ, List.flatMap_append, List.flatMap_singleton]
  rfl
set_option maxRecDepth 8000 in
theorem nl_X4 (l : Launch) (g : vG) (a : Nat) : ∀ k i : Nat, i + k = 48 → NJ l g RX4 cX4_init 2 3 242 1208 (bX4 g a) a (2 + 5 * i) (56 + 24 * i) 23 [(1, .int (nI i)), (0, .ref a)] [] (lX4 g a i) := by
  intro k
  induction k with
  | zero =>
    intro i hi
    obtain rfl : i = 48 := hi
    refine nr_iload_n 1 0 dX4_init_23 rfl rfl ?_
    refine nr_aload_n 0 1 dX4_init_24 rfl rfl ?_
    refine nr_get RX4 (j := 0) (k := 1) (ci := 4) (fs := [.ref (a + 1), .ref (a + 2)]) (v := .ref (a + 2)) rfl rfl rfl rfl inv_X4 (by decide) ⟨rfl, rfl, rfl⟩ fl_4_17 rfl dX4_init_25 ?_
    refine nr_alen (j := 2) (t := 2) (N := 48) (nI 48) rfl rfl rfl rfl dX4_init_28 ?_
    refine nr_icmpge 51 dX4_init_29 rfl (fun hh => absurd (Int32.le_refl _) hh) (fun _ => ?_)
    exact nr_vret rfl ⟨rfl, rfl⟩ dX4_init_51
  | succ k ih =>
    intro i hi
    have hi3 : i < 48 := by omega
    refine nr_iload_n 1 0 dX4_init_23 rfl rfl ?_
    refine nr_aload_n 0 1 dX4_init_24 rfl rfl ?_
    refine nr_get RX4 (j := 0) (k := 1) (ci := 4) (fs := [.ref (a + 1), .ref (a + 2)]) (v := .ref (a + 2)) rfl rfl rfl rfl inv_X4 (by decide) ⟨rfl, rfl, rfl⟩ fl_4_17 rfl dX4_init_25 ?_
    refine nr_alen (j := 2) (t := 2) (N := 48) (nI 48) rfl rfl rfl rfl dX4_init_28 ?_
    refine nr_icmpge 51 dX4_init_29 rfl (fun _ => ?_) (fun hh => absurd hh (nI_ge hi3 (by decide)))
    refine nr_aload_n 0 1 dX4_init_32 rfl rfl ?_
    refine nr_get RX4 (j := 0) (k := 1) (ci := 4) (fs := [.ref (a + 1), .ref (a + 2)]) (v := .ref (a + 2)) rfl rfl rfl rfl inv_X4 (by decide) ⟨rfl, rfl, rfl⟩ fl_4_17 rfl dX4_init_33 ?_
    refine nr_iload_n 1 0 dX4_init_36 rfl rfl ?_
    refine nr_new RX4 (ci := 1) (b := a + (3 + 5 * i)) [.int 0, .int 0, .int 0, .int 0, .int 0, .null] rfl inv_X1 tyX1_ok cl_4_15 in_1 it_1 rfl hf_1 (by show _ ≤ 242 ∧ _ ≤ 1208; omega) (by rw [le_l4]) dX4_init_37 ?_
    refine nr_dup dX4_init_40 ?_
    refine nr_init RX4 (w := lX4 g a i) (n_X1 l g) rfl rfl (by rw [le_l4]) ck_1 mi_4_21 im_1 it_1 (by decide +kernel) rfl (by decide) (Nat.le_of_ble_eq_true rfl) (by show _ ≤ 242 ∧ _ ≤ 1208; omega) dX4_init_41 ?_
    refine nr_aast (j := 2) (t := 2) (N := 48) (jv := (3 + 5 * i)) (ci := 1) (r := (RX1, TX1, 6)) (f := fun j => if j < i then some (a + (3 + 5 * j)) else none) (w' := lX4 g a (i + 1)) rfl rfl rfl (by rw [vp_in_iff, nI_toInt (by omega)]; omega) (by rw [show ix (nI i) = i from nI_clamp (by omega)]; exact ls_X4 g a i) rfl (n_last (le_l4 g a i) rfl) rfl dX4_init_44 ?_
    refine nr_iinc (nI (i + 1)) 0 [(1, .int (nI (i + 1))), (0, .ref a)] dX4_init_45 rfl (nI_succ i).symm (by decide) rfl ?_
    refine nr_goto 23 dX4_init_48 rfl ?_
    refine nr_ceq (ce' := 2 + 5 * (i + 1)) (sl' := 56 + 24 * (i + 1)) (by omega) (by omega) ?_
    exact ih (i + 1) (by omega)
set_option maxRecDepth 8000 in
theorem n_X4 (l : Launch) (g : vG) : NC l g yX4_init cX4_init 2 3 242 1208 eX4 (bX4 g) := NC.of (by decide +kernel) rfl (by decide) (fun a => by
    show NJ l g RX4 cX4_init 2 3 242 1208 (bX4 g a) a 0 0 0 [(0, .ref a)] [] [eX4]
    refine nr_aload_n 0 0 dX4_init_0 rfl rfl ?_
    refine nr_obj RX4 rfl oi_4 oi_i oi_c (by decide) dX4_init_1 ?_
    refine nr_aload_n 0 0 dX4_init_4 rfl rfl ?_
    refine nr_bipush 8 dX4_init_5 rfl ?_
    refine nr_newa (N := 8) (b := a + 1) ac_int (by decide) rfl (by decide) (by decide) rfl dX4_init_7 ?_
    refine nr_ext (w' := [eX4, nArr g 8]) rfl ?_
    refine nr_putF RX4 (j := 0) (k := 0) (ci := 4) (fs := [.null, .null]) (w' := [.inr (4, [.ref (a + 1), .null]), nArr g 8]) rfl rfl rfl rfl rfl inv_X4 tyX4_ok nmX4 (by decide) ⟨rfl, rfl, rfl⟩ fl_4_9 rfl rfl rfl rfl rfl (Nat.le_of_ble_eq_true rfl) rfl dX4_init_9 ?_
    refine nr_aload_n 0 0 dX4_init_12 rfl rfl ?_
    refine nr_bipush 48 dX4_init_13 rfl ?_
    refine nr_anew RX4 (C := RX1) (t := 2) (N := 48) (b := a + 2) rfl (List.mem_of_getElem? (i := 1) rfl) rfl cl_4_15 (by decide) rfl (by decide) (by decide) rfl dX4_init_15 ?_
    refine nr_ext (w' := [.inr (4, [.ref (a + 1), .null]), nArr g 8, .inl (g.2.1 2, 48, .inr (.inr (.inr (.inr (fun _ => none)))))]) rfl ?_
    refine nr_putF RX4 (j := 0) (k := 1) (ci := 4) (fs := [.ref (a + 1), .null]) (w' := [.inr (4, [.ref (a + 1), .ref (a + 2)]), nArr g 8, .inl (g.2.1 2, 48, .inr (.inr (.inr (.inr (fun _ => none)))))]) rfl rfl rfl rfl rfl inv_X4 tyX4_ok nmX4 (by decide) ⟨rfl, rfl, rfl⟩ fl_4_17 rfl rfl rfl rfl rfl (Nat.le_of_ble_eq_true rfl) rfl dX4_init_18 ?_
    refine nr_iconst 0 dX4_init_21 rfl ?_
    refine nr_istore_n 1 [(1, .int (nI 0)), (0, .ref a)] dX4_init_22 rfl (by decide) rfl ?_
    exact nl_X4 l g a 48 0 rfl)
theorem ls_X6 (g : vG) (a i : Nat) : (lX6 g a i ++ bX3 g (a + (5 + 4 * i))).set 4 (.inl (g.2.1 1, 16, .inr (.inr (.inr (.inr (va_up (fun j => if j < i then some (a + (5 + 4 * j)) else none) i (some (a + (5 + 4 * i))))))))) = lX6 g a (i + 1) := by
  rw [nRw_s g 1 16 i (fun j => a + (5 + 4 * j))]
  unfold lX6
  rw [List.range_succ, List.flatMap_append, List.flatMap_singleton]
  rfl
set_option maxRecDepth 8000 in
theorem nl_X6 (l : Launch) (g : vG) (a : Nat) : ∀ k i : Nat, i + k = 16 → NJ l g RX6 cX6_init 2 2 68 1396 (bX6 g a) a (4 + 4 * i) (36 + 85 * i) 51 [(1, .int (nI i)), (0, .ref a)] [] (lX6 g a i) := by
  intro k
  induction k with
  | zero =>
    intro i hi
    obtain rfl : i = 16 := hi
    refine nr_iload_n 1 0 dX6_init_51 rfl rfl ?_
    refine nr_aload_n 0 1 dX6_init_52 rfl rfl ?_
    refine nr_get RX6 (j := 0) (k := 6) (ci := 6) (fs := [.int 1, .ref (a + 1), .ref (a + 2), .int 0, .ref (a + 3), .int 0, .ref (a + 4)]) (v := .ref (a + 4)) rfl rfl rfl rfl inv_X6 (by decide) ⟨rfl, rfl, rfl⟩ fl_6_27 rfl dX6_init_53 ?_
    refine nr_alen (j := 4) (t := 1) (N := 16) (nI 16) rfl rfl rfl rfl dX6_init_56 ?_
    refine nr_icmpge 79 dX6_init_57 rfl (fun hh => absurd (Int32.le_refl _) hh) (fun _ => ?_)
    exact nr_vret rfl ⟨rfl, rfl⟩ dX6_init_79
  | succ k ih =>
    intro i hi
    have hi3 : i < 16 := by omega
    refine nr_iload_n 1 0 dX6_init_51 rfl rfl ?_
    refine nr_aload_n 0 1 dX6_init_52 rfl rfl ?_
    refine nr_get RX6 (j := 0) (k := 6) (ci := 6) (fs := [.int 1, .ref (a + 1), .ref (a + 2), .int 0, .ref (a + 3), .int 0, .ref (a + 4)]) (v := .ref (a + 4)) rfl rfl rfl rfl inv_X6 (by decide) ⟨rfl, rfl, rfl⟩ fl_6_27 rfl dX6_init_53 ?_
    refine nr_alen (j := 4) (t := 1) (N := 16) (nI 16) rfl rfl rfl rfl dX6_init_56 ?_
    refine nr_icmpge 79 dX6_init_57 rfl (fun _ => ?_) (fun hh => absurd hh (nI_ge hi3 (by decide)))
    refine nr_aload_n 0 1 dX6_init_60 rfl rfl ?_
    refine nr_get RX6 (j := 0) (k := 6) (ci := 6) (fs := [.int 1, .ref (a + 1), .ref (a + 2), .int 0, .ref (a + 3), .int 0, .ref (a + 4)]) (v := .ref (a + 4)) rfl rfl rfl rfl inv_X6 (by decide) ⟨rfl, rfl, rfl⟩ fl_6_27 rfl dX6_init_61 ?_
    refine nr_iload_n 1 0 dX6_init_64 rfl rfl ?_
    refine nr_new RX6 (ci := 3) (b := a + (5 + 4 * i)) [.int 0, .int 0, .int 0, .int 0, .int 0, .int 0, .int 0, .int 0, .int 0, .int 0, .null, .null, .null] rfl inv_X3 tyX3_ok cl_6_25 in_3 it_3 rfl hf_3 (by show _ ≤ 68 ∧ _ ≤ 1396; omega) (by rw [le_l6]) dX6_init_65 ?_
    refine nr_dup dX6_init_68 ?_
    refine nr_initN RX6 "RingGates" (w := lX6 g a i) (n_X3 l g) rfl rfl (by rw [le_l6]) ck_3 mi_6_31 im_3 it_3 (by decide +kernel) rfl (by decide) (Nat.le_of_ble_eq_true rfl) (by show _ ≤ 68 ∧ _ ≤ 1396; omega) dX6_init_69 ?_
    refine nr_aast (j := 4) (t := 1) (N := 16) (jv := (5 + 4 * i)) (ci := 3) (r := (RX3, TX3, 13)) (f := fun j => if j < i then some (a + (5 + 4 * j)) else none) (w' := lX6 g a (i + 1)) rfl rfl rfl (by rw [vp_in_iff, nI_toInt (by omega)]; omega) (by rw [show ix (nI i) = i from nI_clamp (by omega)]; exact ls_X6 g a i) rfl (n_last (le_l6 g a i) rfl) rfl dX6_init_72 ?_
    refine nr_iinc (nI (i + 1)) 0 [(1, .int (nI (i + 1))), (0, .ref a)] dX6_init_73 rfl (nI_succ i).symm (by decide) rfl ?_
    refine nr_goto 51 dX6_init_76 rfl ?_
    refine nr_ceq (ce' := 4 + 4 * (i + 1)) (sl' := 36 + 85 * (i + 1)) (by omega) (by omega) ?_
    exact ih (i + 1) (by omega)
set_option maxRecDepth 8000 in
theorem n_X6 (l : Launch) (g : vG) : NC l g yX6_init cX6_init 2 2 68 1396 eX6 (bX6 g) := NC.of (by decide +kernel) rfl (by decide) (fun a => by
    show NJ l g RX6 cX6_init 2 2 68 1396 (bX6 g a) a 0 0 0 [(0, .ref a)] [] [eX6]
    refine nr_aload_n 0 0 dX6_init_0 rfl rfl ?_
    refine nr_obj RX6 rfl oi_6 oi_i oi_c (by decide) dX6_init_1 ?_
    refine nr_aload_n 0 0 dX6_init_4 rfl rfl ?_
    refine nr_iconst 1 dX6_init_5 rfl ?_
    refine nr_put RX6 (j := 0) (k := 0) (ci := 6) (fs := [.int 0, .null, .null, .int 0, .null, .int 0, .null]) (w' := [.inr (6, [.int 1, .null, .null, .int 0, .null, .int 0, .null])]) rfl rfl rfl rfl inv_X6 tyX6_ok nmX6 (by decide) ⟨rfl, rfl, rfl⟩ fl_6_9 rfl rfl rfl rfl (Nat.le_of_ble_eq_true rfl) rfl dX6_init_6 ?_
    refine nr_aload_n 0 0 dX6_init_9 rfl rfl ?_
    refine nr_bipush 8 dX6_init_10 rfl ?_
    refine nr_newa (N := 8) (b := a + 1) ac_int (by decide) rfl (by decide) (by decide) rfl dX6_init_12 ?_
    refine nr_ext (w' := [.inr (6, [.int 1, .null, .null, .int 0, .null, .int 0, .null]), nArr g 8]) rfl ?_
    refine nr_putF RX6 (j := 0) (k := 1) (ci := 6) (fs := [.int 1, .null, .null, .int 0, .null, .int 0, .null]) (w' := [.inr (6, [.int 1, .ref (a + 1), .null, .int 0, .null, .int 0, .null]), nArr g 8]) rfl rfl rfl rfl rfl inv_X6 tyX6_ok nmX6 (by decide) ⟨rfl, rfl, rfl⟩ fl_6_15 rfl rfl rfl rfl rfl (Nat.le_of_ble_eq_true rfl) rfl dX6_init_14 ?_
    refine nr_aload_n 0 0 dX6_init_17 rfl rfl ?_
    refine nr_bipush 8 dX6_init_18 rfl ?_
    refine nr_newa (N := 8) (b := a + 2) ac_int (by decide) rfl (by decide) (by decide) rfl dX6_init_20 ?_
    refine nr_ext (w' := [.inr (6, [.int 1, .ref (a + 1), .null, .int 0, .null, .int 0, .null]), nArr g 8, nArr g 8]) rfl ?_
    refine nr_putF RX6 (j := 0) (k := 2) (ci := 6) (fs := [.int 1, .ref (a + 1), .null, .int 0, .null, .int 0, .null]) (w' := [.inr (6, [.int 1, .ref (a + 1), .ref (a + 2), .int 0, .null, .int 0, .null]), nArr g 8, nArr g 8]) rfl rfl rfl rfl rfl inv_X6 tyX6_ok nmX6 (by decide) ⟨rfl, rfl, rfl⟩ fl_6_19 rfl rfl rfl rfl rfl (Nat.le_of_ble_eq_true rfl) rfl dX6_init_22 ?_
    refine nr_aload_n 0 0 dX6_init_25 rfl rfl ?_
    refine nr_iconst 4 dX6_init_26 rfl ?_
    refine nr_newa (N := 4) (b := a + 3) ac_int (by decide) rfl (by decide) (by decide) rfl dX6_init_27 ?_
    refine nr_ext (w' := [.inr (6, [.int 1, .ref (a + 1), .ref (a + 2), .int 0, .null, .int 0, .null]), nArr g 8, nArr g 8, nArr g 4]) rfl ?_
    refine nr_putF RX6 (j := 0) (k := 4) (ci := 6) (fs := [.int 1, .ref (a + 1), .ref (a + 2), .int 0, .null, .int 0, .null]) (w' := [.inr (6, [.int 1, .ref (a + 1), .ref (a + 2), .int 0, .ref (a + 3), .int 0, .null]), nArr g 8, nArr g 8, nArr g 4]) rfl rfl rfl rfl rfl inv_X6 tyX6_ok nmX6 (by decide) ⟨rfl, rfl, rfl⟩ fl_6_22 rfl rfl rfl rfl rfl (Nat.le_of_ble_eq_true rfl) rfl dX6_init_29 ?_
    refine nr_aload_n 0 0 dX6_init_32 rfl rfl ?_
    refine nr_bipush 16 dX6_init_33 rfl ?_
    refine nr_anew RX6 (C := RX3) (t := 1) (N := 16) (b := a + 4) rfl (List.mem_of_getElem? (i := 0) rfl) rfl cl_6_25 (by decide) rfl (by decide) (by decide) rfl dX6_init_35 ?_
    refine nr_ext (w' := [.inr (6, [.int 1, .ref (a + 1), .ref (a + 2), .int 0, .ref (a + 3), .int 0, .null]), nArr g 8, nArr g 8, nArr g 4, .inl (g.2.1 1, 16, .inr (.inr (.inr (.inr (fun _ => none)))))]) rfl ?_
    refine nr_putF RX6 (j := 0) (k := 6) (ci := 6) (fs := [.int 1, .ref (a + 1), .ref (a + 2), .int 0, .ref (a + 3), .int 0, .null]) (w' := [.inr (6, [.int 1, .ref (a + 1), .ref (a + 2), .int 0, .ref (a + 3), .int 0, .ref (a + 4)]), nArr g 8, nArr g 8, nArr g 4, .inl (g.2.1 1, 16, .inr (.inr (.inr (.inr (fun _ => none)))))]) rfl rfl rfl rfl rfl inv_X6 tyX6_ok nmX6 (by decide) ⟨rfl, rfl, rfl⟩ fl_6_27 rfl rfl rfl rfl rfl (Nat.le_of_ble_eq_true rfl) rfl dX6_init_38 ?_
    refine nr_aload_n 0 0 dX6_init_41 rfl rfl ?_
    refine nr_get RX6 (j := 0) (k := 2) (ci := 6) (fs := [.int 1, .ref (a + 1), .ref (a + 2), .int 0, .ref (a + 3), .int 0, .ref (a + 4)]) (v := .ref (a + 2)) rfl rfl rfl rfl inv_X6 (by decide) ⟨rfl, rfl, rfl⟩ fl_6_19 rfl dX6_init_42 ?_
    refine nr_iconst 0 dX6_init_45 rfl ?_
    refine nr_bipush 64 dX6_init_46 rfl ?_
    refine nr_iast (j := 2) (N := 8) (f := fun _ => 0) (w' := [.inr (6, [.int 1, .ref (a + 1), .ref (a + 2), .int 0, .ref (a + 3), .int 0, .ref (a + 4)]), nArr g 8, .inl (g.2.1 0, 8, .inl (va_up (fun _ => 0) (ix 0) 64)), nArr g 4, .inl (g.2.1 1, 16, .inr (.inr (.inr (.inr (fun _ => none)))))]) rfl rfl (by show ¬ (_ ∨ _); decide) rfl dX6_init_48 ?_
    refine nr_iconst 0 dX6_init_49 rfl ?_
    refine nr_istore_n 1 [(1, .int (nI 0)), (0, .ref a)] dX6_init_50 rfl (by decide) rfl ?_
    exact nl_X6 l g a 16 0 rfl)
set_option maxRecDepth 8000 in
theorem n_X2 (l : Launch) (g : vG) : NC l g yX2_init cX2_init 1 4 317 2637 eX2 (bX2 g) := NC.of (by decide +kernel) rfl (by decide) (fun a => by
    show NJ l g RX2 cX2_init 1 4 317 2637 (bX2 g a) a 0 0 0 [(0, .ref a)] [] [eX2]
    refine nr_aload_n 0 0 dX2_init_0 rfl rfl ?_
    refine nr_obj RX2 rfl oi_2 oi_i oi_c (by decide) dX2_init_1 ?_
    refine nr_aload_n 0 0 dX2_init_4 rfl rfl ?_
    refine nr_new RX2 (ci := 6) (b := a + 1) [.int 0, .null, .null, .int 0, .null, .int 0, .null] rfl inv_X6 tyX6_ok cl_2_9 in_6 it_6 rfl hf_6 (by decide) rfl dX2_init_5 ?_
    refine nr_dup dX2_init_8 ?_
    refine nr_init RX2 (w := [eX2]) (n_X6 l g) rfl rfl rfl ck_6 mi_2_11 im_6 it_6 (by decide +kernel) rfl (by decide) (Nat.le_of_ble_eq_true rfl) (by decide) dX2_init_9 ?_
    refine nr_putF RX2 (j := 0) (k := 0) (ci := 2) (fs := [.null, .null, .int 0, .int 0, .int 0, .int 0, .null, .int 0, .int 0, .int 0, .int 0, .int 0]) (w' := ([.inr (2, [.ref (a + 1), .null, .int 0, .int 0, .int 0, .int 0, .null, .int 0, .int 0, .int 0, .int 0, .int 0])] ++ bX6 g (a + 1))) rfl rfl rfl rfl rfl inv_X2 tyX2_ok nmX2 (by decide) ⟨rfl, rfl, rfl⟩ fl_2_12 rfl rfl rfl rfl rfl (Nat.le_of_ble_eq_true rfl) rfl dX2_init_12 ?_
    refine nr_aload_n 0 0 dX2_init_15 rfl rfl ?_
    refine nr_new RX2 (ci := 4) (b := a + 70) [.null, .null] rfl inv_X4 tyX4_ok cl_2_18 in_4 it_4 rfl hf_4 (by decide) (by simp only [List.length_append, List.length_cons, List.length_nil, le_X1, le_X2, le_X4, le_X6]) dX2_init_16 ?_
    refine nr_dup dX2_init_19 ?_
    refine nr_init RX2 (w := ([.inr (2, [.ref (a + 1), .null, .int 0, .int 0, .int 0, .int 0, .null, .int 0, .int 0, .int 0, .int 0, .int 0])] ++ bX6 g (a + 1))) (n_X4 l g) rfl rfl (by simp only [List.length_append, List.length_cons, List.length_nil, le_X1, le_X2, le_X4, le_X6]) ck_4 mi_2_20 im_4 it_4 (by decide +kernel) rfl (by decide) (Nat.le_of_ble_eq_true rfl) (by decide) dX2_init_20 ?_
    refine nr_putF RX2 (j := 0) (k := 1) (ci := 2) (fs := [.ref (a + 1), .null, .int 0, .int 0, .int 0, .int 0, .null, .int 0, .int 0, .int 0, .int 0, .int 0]) (w' := (([.inr (2, [.ref (a + 1), .ref (a + 70), .int 0, .int 0, .int 0, .int 0, .null, .int 0, .int 0, .int 0, .int 0, .int 0])] ++ bX6 g (a + 1)) ++ bX4 g (a + 70))) rfl rfl rfl rfl rfl inv_X2 tyX2_ok nmX2 (by decide) ⟨rfl, rfl, rfl⟩ fl_2_21 rfl rfl rfl rfl rfl (Nat.le_of_ble_eq_true rfl) rfl dX2_init_23 ?_
    refine nr_aload_n 0 0 dX2_init_26 rfl rfl ?_
    refine nr_iconst 4 dX2_init_27 rfl ?_
    refine nr_put RX2 (j := 0) (k := 4) (ci := 2) (fs := [.ref (a + 1), .ref (a + 70), .int 0, .int 0, .int 0, .int 0, .null, .int 0, .int 0, .int 0, .int 0, .int 0]) (w' := (([.inr (2, [.ref (a + 1), .ref (a + 70), .int 0, .int 0, .int 4, .int 0, .null, .int 0, .int 0, .int 0, .int 0, .int 0])] ++ bX6 g (a + 1)) ++ bX4 g (a + 70))) rfl rfl rfl rfl inv_X2 tyX2_ok nmX2 (by decide) ⟨rfl, rfl, rfl⟩ fl_2_25 rfl rfl rfl rfl (Nat.le_of_ble_eq_true rfl) rfl dX2_init_28 ?_
    refine nr_aload_n 0 0 dX2_init_31 rfl rfl ?_
    refine nr_new RX2 (ci := 1) (b := a + 313) [.int 0, .int 0, .int 0, .int 0, .int 0, .null] rfl inv_X1 tyX1_ok cl_2_29 in_1 it_1 rfl hf_1 (by decide) (by simp only [List.length_append, List.length_cons, List.length_nil, le_X1, le_X2, le_X4, le_X6]) dX2_init_32 ?_
    refine nr_dup dX2_init_35 ?_
    refine nr_init RX2 (w := (([.inr (2, [.ref (a + 1), .ref (a + 70), .int 0, .int 0, .int 4, .int 0, .null, .int 0, .int 0, .int 0, .int 0, .int 0])] ++ bX6 g (a + 1)) ++ bX4 g (a + 70))) (n_X1 l g) rfl rfl (by simp only [List.length_append, List.length_cons, List.length_nil, le_X1, le_X2, le_X4, le_X6]) ck_1 mi_2_31 im_1 it_1 (by decide +kernel) rfl (by decide) (Nat.le_of_ble_eq_true rfl) (by decide) dX2_init_36 ?_
    refine nr_putF RX2 (j := 0) (k := 6) (ci := 2) (fs := [.ref (a + 1), .ref (a + 70), .int 0, .int 0, .int 4, .int 0, .null, .int 0, .int 0, .int 0, .int 0, .int 0]) (w' := ((([.inr (2, [.ref (a + 1), .ref (a + 70), .int 0, .int 0, .int 4, .int 0, .ref (a + 313), .int 0, .int 0, .int 0, .int 0, .int 0])] ++ bX6 g (a + 1)) ++ bX4 g (a + 70)) ++ bX1 g (a + 313))) rfl rfl rfl rfl rfl inv_X2 tyX2_ok nmX2 (by decide) ⟨rfl, rfl, rfl⟩ fl_2_32 rfl rfl rfl rfl rfl (Nat.le_of_ble_eq_true rfl) rfl dX2_init_39 ?_
    exact nr_vret rfl ⟨rfl, rfl⟩ dX2_init_42)
set_option maxRecDepth 8000 in
theorem n_X7 (l : Launch) (g : vG) : NC l g yX7_init cX7_init 1 5 959 8320 eX7 (bX7 g) := NC.of (by decide +kernel) rfl (by decide) (fun a => by
    show NJ l g RX7 cX7_init 1 5 959 8320 (bX7 g a) a 0 0 0 [(0, .ref a)] [] [eX7]
    refine nr_aload_n 0 0 dX7_init_0 rfl rfl ?_
    refine nr_obj RX7 rfl oi_7 oi_i oi_c (by decide) dX7_init_1 ?_
    refine nr_aload_n 0 0 dX7_init_4 rfl rfl ?_
    refine nr_new RX7 (ci := 2) (b := a + 1) [.null, .null, .int 0, .int 0, .int 0, .int 0, .null, .int 0, .int 0, .int 0, .int 0, .int 0] rfl inv_X2 tyX2_ok cl_7_7 in_2 it_2 rfl hf_2 (by decide) rfl dX7_init_5 ?_
    refine nr_dup dX7_init_8 ?_
    refine nr_initN RX7 "RingGates" (w := [eX7]) (n_X2 l g) rfl rfl rfl ck_2 mi_7_9 im_2 it_2 (by decide +kernel) rfl (by decide) (Nat.le_of_ble_eq_true rfl) (by decide) dX7_init_9 ?_
    refine nr_putF RX7 (j := 0) (k := 0) (ci := 7) (fs := [.null, .null, .null, .null, .int 0, .int 0]) (w' := ([.inr (7, [.ref (a + 1), .null, .null, .null, .int 0, .int 0])] ++ bX2 g (a + 1))) rfl rfl rfl rfl rfl inv_X7 tyX7_ok nmX7 (by decide) ⟨rfl, rfl, rfl⟩ fl_7_10 rfl rfl rfl rfl rfl (Nat.le_of_ble_eq_true rfl) rfl dX7_init_12 ?_
    refine nr_aload_n 0 0 dX7_init_15 rfl rfl ?_
    refine nr_new RX7 (ci := 2) (b := a + 319) [.null, .null, .int 0, .int 0, .int 0, .int 0, .null, .int 0, .int 0, .int 0, .int 0, .int 0] rfl inv_X2 tyX2_ok cl_7_7 in_2 it_2 rfl hf_2 (by decide) (by simp only [List.length_append, List.length_cons, List.length_nil, le_X1, le_X2, le_X4, le_X6]) dX7_init_16 ?_
    refine nr_dup dX7_init_19 ?_
    refine nr_initN RX7 "RingGates" (w := ([.inr (7, [.ref (a + 1), .null, .null, .null, .int 0, .int 0])] ++ bX2 g (a + 1))) (n_X2 l g) rfl rfl (by simp only [List.length_append, List.length_cons, List.length_nil, le_X1, le_X2, le_X4, le_X6]) ck_2 mi_7_9 im_2 it_2 (by decide +kernel) rfl (by decide) (Nat.le_of_ble_eq_true rfl) (by decide) dX7_init_20 ?_
    refine nr_putF RX7 (j := 0) (k := 1) (ci := 7) (fs := [.ref (a + 1), .null, .null, .null, .int 0, .int 0]) (w' := (([.inr (7, [.ref (a + 1), .ref (a + 319), .null, .null, .int 0, .int 0])] ++ bX2 g (a + 1)) ++ bX2 g (a + 319))) rfl rfl rfl rfl rfl inv_X7 tyX7_ok nmX7 (by decide) ⟨rfl, rfl, rfl⟩ fl_7_16 rfl rfl rfl rfl rfl (Nat.le_of_ble_eq_true rfl) rfl dX7_init_23 ?_
    refine nr_aload_n 0 0 dX7_init_26 rfl rfl ?_
    refine nr_new RX7 (ci := 2) (b := a + 637) [.null, .null, .int 0, .int 0, .int 0, .int 0, .null, .int 0, .int 0, .int 0, .int 0, .int 0] rfl inv_X2 tyX2_ok cl_7_7 in_2 it_2 rfl hf_2 (by decide) (by simp only [List.length_append, List.length_cons, List.length_nil, le_X1, le_X2, le_X4, le_X6]) dX7_init_27 ?_
    refine nr_dup dX7_init_30 ?_
    refine nr_initN RX7 "RingGates" (w := (([.inr (7, [.ref (a + 1), .ref (a + 319), .null, .null, .int 0, .int 0])] ++ bX2 g (a + 1)) ++ bX2 g (a + 319))) (n_X2 l g) rfl rfl (by simp only [List.length_append, List.length_cons, List.length_nil, le_X1, le_X2, le_X4, le_X6]) ck_2 mi_7_9 im_2 it_2 (by decide +kernel) rfl (by decide) (Nat.le_of_ble_eq_true rfl) (by decide) dX7_init_31 ?_
    refine nr_putF RX7 (j := 0) (k := 2) (ci := 7) (fs := [.ref (a + 1), .ref (a + 319), .null, .null, .int 0, .int 0]) (w' := ((([.inr (7, [.ref (a + 1), .ref (a + 319), .ref (a + 637), .null, .int 0, .int 0])] ++ bX2 g (a + 1)) ++ bX2 g (a + 319)) ++ bX2 g (a + 637))) rfl rfl rfl rfl rfl inv_X7 tyX7_ok nmX7 (by decide) ⟨rfl, rfl, rfl⟩ fl_7_19 rfl rfl rfl rfl rfl (Nat.le_of_ble_eq_true rfl) rfl dX7_init_34 ?_
    refine nr_aload_n 0 0 dX7_init_37 rfl rfl ?_
    refine nr_new RX7 (ci := 5) (b := a + 955) [.null, .int 0, .int 0, .null, .null, .null, .int 0, .int 0] rfl inv_X5 tyX5_ok cl_7_22 in_5 it_5 rfl hf_5 (by decide) (by simp only [List.length_append, List.length_cons, List.length_nil, le_X1, le_X2, le_X4, le_X6]) dX7_init_38 ?_
    refine nr_dup dX7_init_41 ?_
    refine nr_initN RX7 "RingGates" (w := ((([.inr (7, [.ref (a + 1), .ref (a + 319), .ref (a + 637), .null, .int 0, .int 0])] ++ bX2 g (a + 1)) ++ bX2 g (a + 319)) ++ bX2 g (a + 637))) (n_X5 l g) rfl rfl (by simp only [List.length_append, List.length_cons, List.length_nil, le_X1, le_X2, le_X4, le_X6]) ck_5 mi_7_24 im_5 it_5 (by decide +kernel) rfl (by decide) (Nat.le_of_ble_eq_true rfl) (by decide) dX7_init_42 ?_
    refine nr_putF RX7 (j := 0) (k := 3) (ci := 7) (fs := [.ref (a + 1), .ref (a + 319), .ref (a + 637), .null, .int 0, .int 0]) (w' := (((([.inr (7, [.ref (a + 1), .ref (a + 319), .ref (a + 637), .ref (a + 955), .int 0, .int 0])] ++ bX2 g (a + 1)) ++ bX2 g (a + 319)) ++ bX2 g (a + 637)) ++ bX5 g (a + 955))) rfl rfl rfl rfl rfl inv_X7 tyX7_ok nmX7 (by decide) ⟨rfl, rfl, rfl⟩ fl_7_25 rfl rfl rfl rfl rfl (Nat.le_of_ble_eq_true rfl) rfl dX7_init_45 ?_
    exact nr_vret rfl ⟨rfl, rfl⟩ dX7_init_48)
set_option maxRecDepth 8000 in
theorem n_X8 (l : Launch) (g : vG) : NC l g yX8_init cX8_init 1 1 7 11014 eX8 (bX8 g) := NC.of (by decide +kernel) rfl (by decide) (fun a => by
    show NJ l g RX8 cX8_init 1 1 7 11014 (bX8 g a) a 0 0 0 [(0, .ref a)] [] [eX8]
    refine nr_aload_n 0 0 dX8_init_0 rfl rfl ?_
    refine nr_obj RX8 rfl oi_8 oi_i oi_c (by decide) dX8_init_1 ?_
    refine nr_aload_n 0 0 dX8_init_4 rfl rfl ?_
    refine nr_sipush 3464 dX8_init_5 rfl ?_
    refine nr_newa (N := 3464) (b := a + 1) ac_int (by decide) rfl (by decide) (by decide) rfl dX8_init_8 ?_
    refine nr_ext (w' := [eX8, nArr g 3464]) rfl ?_
    refine nr_putF RX8 (j := 0) (k := 0) (ci := 8) (fs := [.null, .null, .null, .int 0, .int 0, .null, .int 0, .int 0, .int 0, .int 0, .null, .int 0, .null, .int 0, .int 0, .int 0, .null, .int 0]) (w' := [.inr (8, [.ref (a + 1), .null, .null, .int 0, .int 0, .null, .int 0, .int 0, .int 0, .int 0, .null, .int 0, .null, .int 0, .int 0, .int 0, .null, .int 0]), nArr g 3464]) rfl rfl rfl rfl rfl inv_X8 tyX8_ok nmX8 (by decide) ⟨rfl, rfl, rfl⟩ fl_8_9 rfl rfl rfl rfl rfl (Nat.le_of_ble_eq_true rfl) rfl dX8_init_10 ?_
    refine nr_aload_n 0 0 dX8_init_13 rfl rfl ?_
    refine nr_sipush 3464 dX8_init_14 rfl ?_
    refine nr_newa (N := 3464) (b := a + 2) ac_int (by decide) rfl (by decide) (by decide) rfl dX8_init_17 ?_
    refine nr_ext (w' := [.inr (8, [.ref (a + 1), .null, .null, .int 0, .int 0, .null, .int 0, .int 0, .int 0, .int 0, .null, .int 0, .null, .int 0, .int 0, .int 0, .null, .int 0]), nArr g 3464, nArr g 3464]) rfl ?_
    refine nr_putF RX8 (j := 0) (k := 1) (ci := 8) (fs := [.ref (a + 1), .null, .null, .int 0, .int 0, .null, .int 0, .int 0, .int 0, .int 0, .null, .int 0, .null, .int 0, .int 0, .int 0, .null, .int 0]) (w' := [.inr (8, [.ref (a + 1), .ref (a + 2), .null, .int 0, .int 0, .null, .int 0, .int 0, .int 0, .int 0, .null, .int 0, .null, .int 0, .int 0, .int 0, .null, .int 0]), nArr g 3464, nArr g 3464]) rfl rfl rfl rfl rfl inv_X8 tyX8_ok nmX8 (by decide) ⟨rfl, rfl, rfl⟩ fl_8_13 rfl rfl rfl rfl rfl (Nat.le_of_ble_eq_true rfl) rfl dX8_init_19 ?_
    refine nr_aload_n 0 0 dX8_init_22 rfl rfl ?_
    refine nr_sipush 3464 dX8_init_23 rfl ?_
    refine nr_newa (N := 3464) (b := a + 3) ac_int (by decide) rfl (by decide) (by decide) rfl dX8_init_26 ?_
    refine nr_ext (w' := [.inr (8, [.ref (a + 1), .ref (a + 2), .null, .int 0, .int 0, .null, .int 0, .int 0, .int 0, .int 0, .null, .int 0, .null, .int 0, .int 0, .int 0, .null, .int 0]), nArr g 3464, nArr g 3464, nArr g 3464]) rfl ?_
    refine nr_putF RX8 (j := 0) (k := 2) (ci := 8) (fs := [.ref (a + 1), .ref (a + 2), .null, .int 0, .int 0, .null, .int 0, .int 0, .int 0, .int 0, .null, .int 0, .null, .int 0, .int 0, .int 0, .null, .int 0]) (w' := [.inr (8, [.ref (a + 1), .ref (a + 2), .ref (a + 3), .int 0, .int 0, .null, .int 0, .int 0, .int 0, .int 0, .null, .int 0, .null, .int 0, .int 0, .int 0, .null, .int 0]), nArr g 3464, nArr g 3464, nArr g 3464]) rfl rfl rfl rfl rfl inv_X8 tyX8_ok nmX8 (by decide) ⟨rfl, rfl, rfl⟩ fl_8_16 rfl rfl rfl rfl rfl (Nat.le_of_ble_eq_true rfl) rfl dX8_init_28 ?_
    refine nr_aload_n 0 0 dX8_init_31 rfl rfl ?_
    refine nr_bipush 120 dX8_init_32 rfl ?_
    refine nr_newa (N := 120) (b := a + 4) ac_int (by decide) rfl (by decide) (by decide) rfl dX8_init_34 ?_
    refine nr_ext (w' := [.inr (8, [.ref (a + 1), .ref (a + 2), .ref (a + 3), .int 0, .int 0, .null, .int 0, .int 0, .int 0, .int 0, .null, .int 0, .null, .int 0, .int 0, .int 0, .null, .int 0]), nArr g 3464, nArr g 3464, nArr g 3464, nArr g 120]) rfl ?_
    refine nr_putF RX8 (j := 0) (k := 5) (ci := 8) (fs := [.ref (a + 1), .ref (a + 2), .ref (a + 3), .int 0, .int 0, .null, .int 0, .int 0, .int 0, .int 0, .null, .int 0, .null, .int 0, .int 0, .int 0, .null, .int 0]) (w' := [.inr (8, [.ref (a + 1), .ref (a + 2), .ref (a + 3), .int 0, .int 0, .ref (a + 4), .int 0, .int 0, .int 0, .int 0, .null, .int 0, .null, .int 0, .int 0, .int 0, .null, .int 0]), nArr g 3464, nArr g 3464, nArr g 3464, nArr g 120]) rfl rfl rfl rfl rfl inv_X8 tyX8_ok nmX8 (by decide) ⟨rfl, rfl, rfl⟩ fl_8_19 rfl rfl rfl rfl rfl (Nat.le_of_ble_eq_true rfl) rfl dX8_init_36 ?_
    refine nr_aload_n 0 0 dX8_init_39 rfl rfl ?_
    refine nr_sipush 480 dX8_init_40 rfl ?_
    refine nr_newa (N := 480) (b := a + 5) ac_int (by decide) rfl (by decide) (by decide) rfl dX8_init_43 ?_
    refine nr_ext (w' := [.inr (8, [.ref (a + 1), .ref (a + 2), .ref (a + 3), .int 0, .int 0, .ref (a + 4), .int 0, .int 0, .int 0, .int 0, .null, .int 0, .null, .int 0, .int 0, .int 0, .null, .int 0]), nArr g 3464, nArr g 3464, nArr g 3464, nArr g 120, nArr g 480]) rfl ?_
    refine nr_putF RX8 (j := 0) (k := 10) (ci := 8) (fs := [.ref (a + 1), .ref (a + 2), .ref (a + 3), .int 0, .int 0, .ref (a + 4), .int 0, .int 0, .int 0, .int 0, .null, .int 0, .null, .int 0, .int 0, .int 0, .null, .int 0]) (w' := [.inr (8, [.ref (a + 1), .ref (a + 2), .ref (a + 3), .int 0, .int 0, .ref (a + 4), .int 0, .int 0, .int 0, .int 0, .ref (a + 5), .int 0, .null, .int 0, .int 0, .int 0, .null, .int 0]), nArr g 3464, nArr g 3464, nArr g 3464, nArr g 120, nArr g 480]) rfl rfl rfl rfl rfl inv_X8 tyX8_ok nmX8 (by decide) ⟨rfl, rfl, rfl⟩ fl_8_22 rfl rfl rfl rfl rfl (Nat.le_of_ble_eq_true rfl) rfl dX8_init_45 ?_
    refine nr_aload_n 0 0 dX8_init_48 rfl rfl ?_
    refine nr_bipush 10 dX8_init_49 rfl ?_
    refine nr_anew RX8 (C := "java/lang/String") (t := 4) (N := 10) (b := a + 6) rfl (List.mem_of_getElem? (i := 3) rfl) rfl cl_8_25 (by decide) rfl (by decide) (by decide) rfl dX8_init_51 ?_
    refine nr_ext (w' := [.inr (8, [.ref (a + 1), .ref (a + 2), .ref (a + 3), .int 0, .int 0, .ref (a + 4), .int 0, .int 0, .int 0, .int 0, .ref (a + 5), .int 0, .null, .int 0, .int 0, .int 0, .null, .int 0]), nArr g 3464, nArr g 3464, nArr g 3464, nArr g 120, nArr g 480, .inl (g.2.1 4, 10, .inr (.inr (.inr (.inr (fun _ => none)))))]) rfl ?_
    refine nr_dup dX8_init_54 ?_
    refine nr_iconst 0 dX8_init_55 rfl ?_
    refine nr_ldcS (tx := "halt") 0 (List.mem_of_getElem? (i := 22) rfl) dX8_init_56 ?_
    refine nr_aastS (j := 6) (N := 10) (f := fun _ => none) (w' := [.inr (8, [.ref (a + 1), .ref (a + 2), .ref (a + 3), .int 0, .int 0, .ref (a + 4), .int 0, .int 0, .int 0, .int 0, .ref (a + 5), .int 0, .null, .int 0, .int 0, .int 0, .null, .int 0]), nArr g 3464, nArr g 3464, nArr g 3464, nArr g 120, nArr g 480, .inl (g.2.1 4, 10, .inr (.inr (.inr (.inr (va_up (fun _ => none) (ix 0) (some (g.2.2.2.1 0)))))))]) rfl rfl (by show ¬ (_ ∨ _); decide) (by decide) rfl dX8_init_58 ?_
    refine nr_dup dX8_init_59 ?_
    refine nr_iconst 1 dX8_init_60 rfl ?_
    refine nr_ldcS (tx := "take") 1 (List.mem_of_getElem? (i := 23) rfl) dX8_init_61 ?_
    refine nr_aastS (j := 6) (N := 10) (f := va_up (fun _ => none) (ix 0) (some (g.2.2.2.1 0))) (w' := [.inr (8, [.ref (a + 1), .ref (a + 2), .ref (a + 3), .int 0, .int 0, .ref (a + 4), .int 0, .int 0, .int 0, .int 0, .ref (a + 5), .int 0, .null, .int 0, .int 0, .int 0, .null, .int 0]), nArr g 3464, nArr g 3464, nArr g 3464, nArr g 120, nArr g 480, .inl (g.2.1 4, 10, .inr (.inr (.inr (.inr (va_up (va_up (fun _ => none) (ix 0) (some (g.2.2.2.1 0))) (ix 1) (some (g.2.2.2.1 1)))))))]) rfl rfl (by show ¬ (_ ∨ _); decide) (by decide) rfl dX8_init_63 ?_
    refine nr_dup dX8_init_64 ?_
    refine nr_iconst 2 dX8_init_65 rfl ?_
    refine nr_ldcS (tx := "put") 2 (List.mem_of_getElem? (i := 24) rfl) dX8_init_66 ?_
    refine nr_aastS (j := 6) (N := 10) (f := va_up (va_up (fun _ => none) (ix 0) (some (g.2.2.2.1 0))) (ix 1) (some (g.2.2.2.1 1))) (w' := [.inr (8, [.ref (a + 1), .ref (a + 2), .ref (a + 3), .int 0, .int 0, .ref (a + 4), .int 0, .int 0, .int 0, .int 0, .ref (a + 5), .int 0, .null, .int 0, .int 0, .int 0, .null, .int 0]), nArr g 3464, nArr g 3464, nArr g 3464, nArr g 120, nArr g 480, .inl (g.2.1 4, 10, .inr (.inr (.inr (.inr (va_up (va_up (va_up (fun _ => none) (ix 0) (some (g.2.2.2.1 0))) (ix 1) (some (g.2.2.2.1 1))) (ix 2) (some (g.2.2.2.1 2)))))))]) rfl rfl (by show ¬ (_ ∨ _); decide) (by decide) rfl dX8_init_68 ?_
    refine nr_dup dX8_init_69 ?_
    refine nr_iconst 3 dX8_init_70 rfl ?_
    refine nr_ldcS (tx := "add") 3 (List.mem_of_getElem? (i := 25) rfl) dX8_init_71 ?_
    refine nr_aastS (j := 6) (N := 10) (f := va_up (va_up (va_up (fun _ => none) (ix 0) (some (g.2.2.2.1 0))) (ix 1) (some (g.2.2.2.1 1))) (ix 2) (some (g.2.2.2.1 2))) (w' := [.inr (8, [.ref (a + 1), .ref (a + 2), .ref (a + 3), .int 0, .int 0, .ref (a + 4), .int 0, .int 0, .int 0, .int 0, .ref (a + 5), .int 0, .null, .int 0, .int 0, .int 0, .null, .int 0]), nArr g 3464, nArr g 3464, nArr g 3464, nArr g 120, nArr g 480, .inl (g.2.1 4, 10, .inr (.inr (.inr (.inr (va_up (va_up (va_up (va_up (fun _ => none) (ix 0) (some (g.2.2.2.1 0))) (ix 1) (some (g.2.2.2.1 1))) (ix 2) (some (g.2.2.2.1 2))) (ix 3) (some (g.2.2.2.1 3)))))))]) rfl rfl (by show ¬ (_ ∨ _); decide) (by decide) rfl dX8_init_73 ?_
    refine nr_dup dX8_init_74 ?_
    refine nr_iconst 4 dX8_init_75 rfl ?_
    refine nr_ldcS (tx := "go") 4 (List.mem_of_getElem? (i := 26) rfl) dX8_init_76 ?_
    refine nr_aastS (j := 6) (N := 10) (f := va_up (va_up (va_up (va_up (fun _ => none) (ix 0) (some (g.2.2.2.1 0))) (ix 1) (some (g.2.2.2.1 1))) (ix 2) (some (g.2.2.2.1 2))) (ix 3) (some (g.2.2.2.1 3))) (w' := [.inr (8, [.ref (a + 1), .ref (a + 2), .ref (a + 3), .int 0, .int 0, .ref (a + 4), .int 0, .int 0, .int 0, .int 0, .ref (a + 5), .int 0, .null, .int 0, .int 0, .int 0, .null, .int 0]), nArr g 3464, nArr g 3464, nArr g 3464, nArr g 120, nArr g 480, .inl (g.2.1 4, 10, .inr (.inr (.inr (.inr (va_up (va_up (va_up (va_up (va_up (fun _ => none) (ix 0) (some (g.2.2.2.1 0))) (ix 1) (some (g.2.2.2.1 1))) (ix 2) (some (g.2.2.2.1 2))) (ix 3) (some (g.2.2.2.1 3))) (ix 4) (some (g.2.2.2.1 4)))))))]) rfl rfl (by show ¬ (_ ∨ _); decide) (by decide) rfl dX8_init_78 ?_
    refine nr_dup dX8_init_79 ?_
    refine nr_iconst 5 dX8_init_80 rfl ?_
    refine nr_ldcS (tx := "call") 5 (List.mem_of_getElem? (i := 27) rfl) dX8_init_81 ?_
    refine nr_aastS (j := 6) (N := 10) (f := va_up (va_up (va_up (va_up (va_up (fun _ => none) (ix 0) (some (g.2.2.2.1 0))) (ix 1) (some (g.2.2.2.1 1))) (ix 2) (some (g.2.2.2.1 2))) (ix 3) (some (g.2.2.2.1 3))) (ix 4) (some (g.2.2.2.1 4))) (w' := [.inr (8, [.ref (a + 1), .ref (a + 2), .ref (a + 3), .int 0, .int 0, .ref (a + 4), .int 0, .int 0, .int 0, .int 0, .ref (a + 5), .int 0, .null, .int 0, .int 0, .int 0, .null, .int 0]), nArr g 3464, nArr g 3464, nArr g 3464, nArr g 120, nArr g 480, .inl (g.2.1 4, 10, .inr (.inr (.inr (.inr (va_up (va_up (va_up (va_up (va_up (va_up (fun _ => none) (ix 0) (some (g.2.2.2.1 0))) (ix 1) (some (g.2.2.2.1 1))) (ix 2) (some (g.2.2.2.1 2))) (ix 3) (some (g.2.2.2.1 3))) (ix 4) (some (g.2.2.2.1 4))) (ix 5) (some (g.2.2.2.1 5)))))))]) rfl rfl (by show ¬ (_ ∨ _); decide) (by decide) rfl dX8_init_83 ?_
    refine nr_dup dX8_init_84 ?_
    refine nr_bipush 6 dX8_init_85 rfl ?_
    refine nr_ldcS (tx := "back") 6 (List.mem_of_getElem? (i := 28) rfl) dX8_init_87 ?_
    refine nr_aastS (j := 6) (N := 10) (f := va_up (va_up (va_up (va_up (va_up (va_up (fun _ => none) (ix 0) (some (g.2.2.2.1 0))) (ix 1) (some (g.2.2.2.1 1))) (ix 2) (some (g.2.2.2.1 2))) (ix 3) (some (g.2.2.2.1 3))) (ix 4) (some (g.2.2.2.1 4))) (ix 5) (some (g.2.2.2.1 5))) (w' := [.inr (8, [.ref (a + 1), .ref (a + 2), .ref (a + 3), .int 0, .int 0, .ref (a + 4), .int 0, .int 0, .int 0, .int 0, .ref (a + 5), .int 0, .null, .int 0, .int 0, .int 0, .null, .int 0]), nArr g 3464, nArr g 3464, nArr g 3464, nArr g 120, nArr g 480, .inl (g.2.1 4, 10, .inr (.inr (.inr (.inr (va_up (va_up (va_up (va_up (va_up (va_up (va_up (fun _ => none) (ix 0) (some (g.2.2.2.1 0))) (ix 1) (some (g.2.2.2.1 1))) (ix 2) (some (g.2.2.2.1 2))) (ix 3) (some (g.2.2.2.1 3))) (ix 4) (some (g.2.2.2.1 4))) (ix 5) (some (g.2.2.2.1 5))) (ix 6) (some (g.2.2.2.1 6)))))))]) rfl rfl (by show ¬ (_ ∨ _); decide) (by decide) rfl dX8_init_89 ?_
    refine nr_dup dX8_init_90 ?_
    refine nr_bipush 7 dX8_init_91 rfl ?_
    refine nr_ldcS (tx := "arg") 7 (List.mem_of_getElem? (i := 29) rfl) dX8_init_93 ?_
    refine nr_aastS (j := 6) (N := 10) (f := va_up (va_up (va_up (va_up (va_up (va_up (va_up (fun _ => none) (ix 0) (some (g.2.2.2.1 0))) (ix 1) (some (g.2.2.2.1 1))) (ix 2) (some (g.2.2.2.1 2))) (ix 3) (some (g.2.2.2.1 3))) (ix 4) (some (g.2.2.2.1 4))) (ix 5) (some (g.2.2.2.1 5))) (ix 6) (some (g.2.2.2.1 6))) (w' := [.inr (8, [.ref (a + 1), .ref (a + 2), .ref (a + 3), .int 0, .int 0, .ref (a + 4), .int 0, .int 0, .int 0, .int 0, .ref (a + 5), .int 0, .null, .int 0, .int 0, .int 0, .null, .int 0]), nArr g 3464, nArr g 3464, nArr g 3464, nArr g 120, nArr g 480, .inl (g.2.1 4, 10, .inr (.inr (.inr (.inr (va_up (va_up (va_up (va_up (va_up (va_up (va_up (va_up (fun _ => none) (ix 0) (some (g.2.2.2.1 0))) (ix 1) (some (g.2.2.2.1 1))) (ix 2) (some (g.2.2.2.1 2))) (ix 3) (some (g.2.2.2.1 3))) (ix 4) (some (g.2.2.2.1 4))) (ix 5) (some (g.2.2.2.1 5))) (ix 6) (some (g.2.2.2.1 6))) (ix 7) (some (g.2.2.2.1 7)))))))]) rfl rfl (by show ¬ (_ ∨ _); decide) (by decide) rfl dX8_init_95 ?_
    refine nr_dup dX8_init_96 ?_
    refine nr_bipush 8 dX8_init_97 rfl ?_
    refine nr_ldcS (tx := "set") 8 (List.mem_of_getElem? (i := 30) rfl) dX8_init_99 ?_
    refine nr_aastS (j := 6) (N := 10) (f := va_up (va_up (va_up (va_up (va_up (va_up (va_up (va_up (fun _ => none) (ix 0) (some (g.2.2.2.1 0))) (ix 1) (some (g.2.2.2.1 1))) (ix 2) (some (g.2.2.2.1 2))) (ix 3) (some (g.2.2.2.1 3))) (ix 4) (some (g.2.2.2.1 4))) (ix 5) (some (g.2.2.2.1 5))) (ix 6) (some (g.2.2.2.1 6))) (ix 7) (some (g.2.2.2.1 7))) (w' := [.inr (8, [.ref (a + 1), .ref (a + 2), .ref (a + 3), .int 0, .int 0, .ref (a + 4), .int 0, .int 0, .int 0, .int 0, .ref (a + 5), .int 0, .null, .int 0, .int 0, .int 0, .null, .int 0]), nArr g 3464, nArr g 3464, nArr g 3464, nArr g 120, nArr g 480, .inl (g.2.1 4, 10, .inr (.inr (.inr (.inr (va_up (va_up (va_up (va_up (va_up (va_up (va_up (va_up (va_up (fun _ => none) (ix 0) (some (g.2.2.2.1 0))) (ix 1) (some (g.2.2.2.1 1))) (ix 2) (some (g.2.2.2.1 2))) (ix 3) (some (g.2.2.2.1 3))) (ix 4) (some (g.2.2.2.1 4))) (ix 5) (some (g.2.2.2.1 5))) (ix 6) (some (g.2.2.2.1 6))) (ix 7) (some (g.2.2.2.1 7))) (ix 8) (some (g.2.2.2.1 8)))))))]) rfl rfl (by show ¬ (_ ∨ _); decide) (by decide) rfl dX8_init_101 ?_
    refine nr_dup dX8_init_102 ?_
    refine nr_bipush 9 dX8_init_103 rfl ?_
    refine nr_ldcS (tx := "test") 9 (List.mem_of_getElem? (i := 31) rfl) dX8_init_105 ?_
    refine nr_aastS (j := 6) (N := 10) (f := va_up (va_up (va_up (va_up (va_up (va_up (va_up (va_up (va_up (fun _ => none) (ix 0) (some (g.2.2.2.1 0))) (ix 1) (some (g.2.2.2.1 1))) (ix 2) (some (g.2.2.2.1 2))) (ix 3) (some (g.2.2.2.1 3))) (ix 4) (some (g.2.2.2.1 4))) (ix 5) (some (g.2.2.2.1 5))) (ix 6) (some (g.2.2.2.1 6))) (ix 7) (some (g.2.2.2.1 7))) (ix 8) (some (g.2.2.2.1 8))) (w' := [.inr (8, [.ref (a + 1), .ref (a + 2), .ref (a + 3), .int 0, .int 0, .ref (a + 4), .int 0, .int 0, .int 0, .int 0, .ref (a + 5), .int 0, .null, .int 0, .int 0, .int 0, .null, .int 0]), nArr g 3464, nArr g 3464, nArr g 3464, nArr g 120, nArr g 480, .inl (g.2.1 4, 10, .inr (.inr (.inr (.inr (va_up (va_up (va_up (va_up (va_up (va_up (va_up (va_up (va_up (va_up (fun _ => none) (ix 0) (some (g.2.2.2.1 0))) (ix 1) (some (g.2.2.2.1 1))) (ix 2) (some (g.2.2.2.1 2))) (ix 3) (some (g.2.2.2.1 3))) (ix 4) (some (g.2.2.2.1 4))) (ix 5) (some (g.2.2.2.1 5))) (ix 6) (some (g.2.2.2.1 6))) (ix 7) (some (g.2.2.2.1 7))) (ix 8) (some (g.2.2.2.1 8))) (ix 9) (some (g.2.2.2.1 9)))))))]) rfl rfl (by show ¬ (_ ∨ _); decide) (by decide) rfl dX8_init_107 ?_
    refine nr_putF RX8 (j := 0) (k := 12) (ci := 8) (fs := [.ref (a + 1), .ref (a + 2), .ref (a + 3), .int 0, .int 0, .ref (a + 4), .int 0, .int 0, .int 0, .int 0, .ref (a + 5), .int 0, .null, .int 0, .int 0, .int 0, .null, .int 0]) (w' := [.inr (8, [.ref (a + 1), .ref (a + 2), .ref (a + 3), .int 0, .int 0, .ref (a + 4), .int 0, .int 0, .int 0, .int 0, .ref (a + 5), .int 0, .ref (a + 6), .int 0, .int 0, .int 0, .null, .int 0]), nArr g 3464, nArr g 3464, nArr g 3464, nArr g 120, nArr g 480, .inl (g.2.1 4, 10, .inr (.inr (.inr (.inr (va_up (va_up (va_up (va_up (va_up (va_up (va_up (va_up (va_up (va_up (fun _ => none) (ix 0) (some (g.2.2.2.1 0))) (ix 1) (some (g.2.2.2.1 1))) (ix 2) (some (g.2.2.2.1 2))) (ix 3) (some (g.2.2.2.1 3))) (ix 4) (some (g.2.2.2.1 4))) (ix 5) (some (g.2.2.2.1 5))) (ix 6) (some (g.2.2.2.1 6))) (ix 7) (some (g.2.2.2.1 7))) (ix 8) (some (g.2.2.2.1 8))) (ix 9) (some (g.2.2.2.1 9)))))))]) rfl rfl rfl rfl rfl inv_X8 tyX8_ok nmX8 (by decide) ⟨rfl, rfl, rfl⟩ fl_8_47 rfl rfl rfl rfl rfl (Nat.le_of_ble_eq_true rfl) rfl dX8_init_108 ?_
    refine nr_aload_n 0 0 dX8_init_111 rfl rfl ?_
    refine nr_bipush 12 dX8_init_112 rfl ?_
    refine nr_newa (N := 12) (b := a + 7) ac_int (by decide) rfl (by decide) (by decide) rfl dX8_init_114 ?_
    refine nr_ext (w' := [.inr (8, [.ref (a + 1), .ref (a + 2), .ref (a + 3), .int 0, .int 0, .ref (a + 4), .int 0, .int 0, .int 0, .int 0, .ref (a + 5), .int 0, .ref (a + 6), .int 0, .int 0, .int 0, .null, .int 0]), nArr g 3464, nArr g 3464, nArr g 3464, nArr g 120, nArr g 480, .inl (g.2.1 4, 10, .inr (.inr (.inr (.inr (va_up (va_up (va_up (va_up (va_up (va_up (va_up (va_up (va_up (va_up (fun _ => none) (ix 0) (some (g.2.2.2.1 0))) (ix 1) (some (g.2.2.2.1 1))) (ix 2) (some (g.2.2.2.1 2))) (ix 3) (some (g.2.2.2.1 3))) (ix 4) (some (g.2.2.2.1 4))) (ix 5) (some (g.2.2.2.1 5))) (ix 6) (some (g.2.2.2.1 6))) (ix 7) (some (g.2.2.2.1 7))) (ix 8) (some (g.2.2.2.1 8))) (ix 9) (some (g.2.2.2.1 9))))))), nArr g 12]) rfl ?_
    refine nr_putF RX8 (j := 0) (k := 16) (ci := 8) (fs := [.ref (a + 1), .ref (a + 2), .ref (a + 3), .int 0, .int 0, .ref (a + 4), .int 0, .int 0, .int 0, .int 0, .ref (a + 5), .int 0, .ref (a + 6), .int 0, .int 0, .int 0, .null, .int 0]) (w' := [.inr (8, [.ref (a + 1), .ref (a + 2), .ref (a + 3), .int 0, .int 0, .ref (a + 4), .int 0, .int 0, .int 0, .int 0, .ref (a + 5), .int 0, .ref (a + 6), .int 0, .int 0, .int 0, .ref (a + 7), .int 0]), nArr g 3464, nArr g 3464, nArr g 3464, nArr g 120, nArr g 480, .inl (g.2.1 4, 10, .inr (.inr (.inr (.inr (va_up (va_up (va_up (va_up (va_up (va_up (va_up (va_up (va_up (va_up (fun _ => none) (ix 0) (some (g.2.2.2.1 0))) (ix 1) (some (g.2.2.2.1 1))) (ix 2) (some (g.2.2.2.1 2))) (ix 3) (some (g.2.2.2.1 3))) (ix 4) (some (g.2.2.2.1 4))) (ix 5) (some (g.2.2.2.1 5))) (ix 6) (some (g.2.2.2.1 6))) (ix 7) (some (g.2.2.2.1 7))) (ix 8) (some (g.2.2.2.1 8))) (ix 9) (some (g.2.2.2.1 9))))))), nArr g 12]) rfl rfl rfl rfl rfl inv_X8 tyX8_ok nmX8 (by decide) ⟨rfl, rfl, rfl⟩ fl_8_51 rfl rfl rfl rfl rfl (Nat.le_of_ble_eq_true rfl) rfl dX8_init_116 ?_
    refine nr_aload_n 0 0 dX8_init_119 rfl rfl ?_
    refine nr_get RX8 (j := 0) (k := 0) (ci := 8) (fs := [.ref (a + 1), .ref (a + 2), .ref (a + 3), .int 0, .int 0, .ref (a + 4), .int 0, .int 0, .int 0, .int 0, .ref (a + 5), .int 0, .ref (a + 6), .int 0, .int 0, .int 0, .ref (a + 7), .int 0]) (v := .ref (a + 1)) rfl rfl rfl rfl inv_X8 (by decide) ⟨rfl, rfl, rfl⟩ fl_8_9 rfl dX8_init_120 ?_
    refine nr_iconst 0 dX8_init_123 rfl ?_
    refine nr_iconst 1 dX8_init_124 rfl ?_
    refine nr_iast (j := 1) (N := 3464) (f := fun _ => 0) (w' := [.inr (8, [.ref (a + 1), .ref (a + 2), .ref (a + 3), .int 0, .int 0, .ref (a + 4), .int 0, .int 0, .int 0, .int 0, .ref (a + 5), .int 0, .ref (a + 6), .int 0, .int 0, .int 0, .ref (a + 7), .int 0]), .inl (g.2.1 0, 3464, .inl (va_up (fun _ => 0) (ix 0) 1)), nArr g 3464, nArr g 3464, nArr g 120, nArr g 480, .inl (g.2.1 4, 10, .inr (.inr (.inr (.inr (va_up (va_up (va_up (va_up (va_up (va_up (va_up (va_up (va_up (va_up (fun _ => none) (ix 0) (some (g.2.2.2.1 0))) (ix 1) (some (g.2.2.2.1 1))) (ix 2) (some (g.2.2.2.1 2))) (ix 3) (some (g.2.2.2.1 3))) (ix 4) (some (g.2.2.2.1 4))) (ix 5) (some (g.2.2.2.1 5))) (ix 6) (some (g.2.2.2.1 6))) (ix 7) (some (g.2.2.2.1 7))) (ix 8) (some (g.2.2.2.1 8))) (ix 9) (some (g.2.2.2.1 9))))))), nArr g 12]) rfl rfl (by show ¬ (_ ∨ _); decide) rfl dX8_init_125 ?_
    refine nr_aload_n 0 0 dX8_init_126 rfl rfl ?_
    refine nr_get RX8 (j := 0) (k := 0) (ci := 8) (fs := [.ref (a + 1), .ref (a + 2), .ref (a + 3), .int 0, .int 0, .ref (a + 4), .int 0, .int 0, .int 0, .int 0, .ref (a + 5), .int 0, .ref (a + 6), .int 0, .int 0, .int 0, .ref (a + 7), .int 0]) (v := .ref (a + 1)) rfl rfl rfl rfl inv_X8 (by decide) ⟨rfl, rfl, rfl⟩ fl_8_9 rfl dX8_init_127 ?_
    refine nr_bipush 24 dX8_init_130 rfl ?_
    refine nr_bipush 64 dX8_init_132 rfl ?_
    refine nr_iast (j := 1) (N := 3464) (f := va_up (fun _ => 0) (ix 0) 1) (w' := [.inr (8, [.ref (a + 1), .ref (a + 2), .ref (a + 3), .int 0, .int 0, .ref (a + 4), .int 0, .int 0, .int 0, .int 0, .ref (a + 5), .int 0, .ref (a + 6), .int 0, .int 0, .int 0, .ref (a + 7), .int 0]), .inl (g.2.1 0, 3464, .inl (va_up (va_up (fun _ => 0) (ix 0) 1) (ix 24) 64)), nArr g 3464, nArr g 3464, nArr g 120, nArr g 480, .inl (g.2.1 4, 10, .inr (.inr (.inr (.inr (va_up (va_up (va_up (va_up (va_up (va_up (va_up (va_up (va_up (va_up (fun _ => none) (ix 0) (some (g.2.2.2.1 0))) (ix 1) (some (g.2.2.2.1 1))) (ix 2) (some (g.2.2.2.1 2))) (ix 3) (some (g.2.2.2.1 3))) (ix 4) (some (g.2.2.2.1 4))) (ix 5) (some (g.2.2.2.1 5))) (ix 6) (some (g.2.2.2.1 6))) (ix 7) (some (g.2.2.2.1 7))) (ix 8) (some (g.2.2.2.1 8))) (ix 9) (some (g.2.2.2.1 9))))))), nArr g 12]) rfl rfl (by show ¬ (_ ∨ _); decide) rfl dX8_init_134 ?_
    refine nr_aload_n 0 0 dX8_init_135 rfl rfl ?_
    refine nr_get RX8 (j := 0) (k := 0) (ci := 8) (fs := [.ref (a + 1), .ref (a + 2), .ref (a + 3), .int 0, .int 0, .ref (a + 4), .int 0, .int 0, .int 0, .int 0, .ref (a + 5), .int 0, .ref (a + 6), .int 0, .int 0, .int 0, .ref (a + 7), .int 0]) (v := .ref (a + 1)) rfl rfl rfl rfl inv_X8 (by decide) ⟨rfl, rfl, rfl⟩ fl_8_9 rfl dX8_init_136 ?_
    refine nr_iconst 5 dX8_init_139 rfl ?_
    refine nr_iconst 4 dX8_init_140 rfl ?_
    refine nr_iast (j := 1) (N := 3464) (f := va_up (va_up (fun _ => 0) (ix 0) 1) (ix 24) 64) (w' := [.inr (8, [.ref (a + 1), .ref (a + 2), .ref (a + 3), .int 0, .int 0, .ref (a + 4), .int 0, .int 0, .int 0, .int 0, .ref (a + 5), .int 0, .ref (a + 6), .int 0, .int 0, .int 0, .ref (a + 7), .int 0]), .inl (g.2.1 0, 3464, .inl (va_up (va_up (va_up (fun _ => 0) (ix 0) 1) (ix 24) 64) (ix 5) 4)), nArr g 3464, nArr g 3464, nArr g 120, nArr g 480, .inl (g.2.1 4, 10, .inr (.inr (.inr (.inr (va_up (va_up (va_up (va_up (va_up (va_up (va_up (va_up (va_up (va_up (fun _ => none) (ix 0) (some (g.2.2.2.1 0))) (ix 1) (some (g.2.2.2.1 1))) (ix 2) (some (g.2.2.2.1 2))) (ix 3) (some (g.2.2.2.1 3))) (ix 4) (some (g.2.2.2.1 4))) (ix 5) (some (g.2.2.2.1 5))) (ix 6) (some (g.2.2.2.1 6))) (ix 7) (some (g.2.2.2.1 7))) (ix 8) (some (g.2.2.2.1 8))) (ix 9) (some (g.2.2.2.1 9))))))), nArr g 12]) rfl rfl (by show ¬ (_ ∨ _); decide) rfl dX8_init_141 ?_
    exact nr_vret rfl ⟨rfl, rfl⟩ dX8_init_142)
