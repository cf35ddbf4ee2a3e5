-- ===== PART A: goes FIRST, ahead of the names: the tables' words, and 'selects' of the private methods out of them =====
/-- a private method of a class that the tables say can be made, by its rows of tables_1 -/
def lw_okq (q : MethodName × Nat) : Prop := (q.1.cls ≠ "java/lang/invoke/MethodHandle" ∧ q.1.cls ≠ "java/lang/invoke/VarHandle") ∧ Cond.instantiable q.1.cls q.2 ∈ tables_1 ∧ Cond.privateMethod q.1 ∈ tables_1 ∧ Cond.instanceMethod q.1 ∈ tables_1
theorem lw_p0 : lw_okq (⟨"RingGates$Text", "readLine", "()V"⟩, 8) := ⟨⟨by decide +kernel, by decide +kernel⟩, List.mem_of_getElem? (i := 256) (by decide +kernel), List.mem_of_getElem? (i := 518) (by decide +kernel), List.mem_of_getElem? (i := 519) (by decide +kernel)⟩
theorem lw_p1 : lw_okq (⟨"RingGates$Text", "readWord", "()I"⟩, 8) := ⟨⟨by decide +kernel, by decide +kernel⟩, List.mem_of_getElem? (i := 256) (by decide +kernel), List.mem_of_getElem? (i := 522) (by decide +kernel), List.mem_of_getElem? (i := 523) (by decide +kernel)⟩
theorem lw_p2 : lw_okq (⟨"RingGates$Text", "byteAt", "(I)I"⟩, 8) := ⟨⟨by decide +kernel, by decide +kernel⟩, List.mem_of_getElem? (i := 256) (by decide +kernel), List.mem_of_getElem? (i := 526) (by decide +kernel), List.mem_of_getElem? (i := 527) (by decide +kernel)⟩
theorem lw_p3 : lw_okq (⟨"RingGates$Text", "isSpelled", "(Ljava/lang/String;I)Z"⟩, 8) := ⟨⟨by decide +kernel, by decide +kernel⟩, List.mem_of_getElem? (i := 256) (by decide +kernel), List.mem_of_getElem? (i := 551) (by decide +kernel), List.mem_of_getElem? (i := 552) (by decide +kernel)⟩
theorem lw_p4 : lw_okq (⟨"RingGates$Text", "readBlank", "()V"⟩, 8) := ⟨⟨by decide +kernel, by decide +kernel⟩, List.mem_of_getElem? (i := 256) (by decide +kernel), List.mem_of_getElem? (i := 613) (by decide +kernel), List.mem_of_getElem? (i := 614) (by decide +kernel)⟩
theorem lw_p5 : lw_okq (⟨"RingGates$Text", "readPart", "(C)I"⟩, 8) := ⟨⟨by decide +kernel, by decide +kernel⟩, List.mem_of_getElem? (i := 256) (by decide +kernel), List.mem_of_getElem? (i := 617) (by decide +kernel), List.mem_of_getElem? (i := 618) (by decide +kernel)⟩
theorem lw_p6 : lw_okq (⟨"RingGates$Text", "readSigned", "()I"⟩, 8) := ⟨⟨by decide +kernel, by decide +kernel⟩, List.mem_of_getElem? (i := 256) (by decide +kernel), List.mem_of_getElem? (i := 621) (by decide +kernel), List.mem_of_getElem? (i := 622) (by decide +kernel)⟩
theorem lw_p7 : lw_okq (⟨"RingGates$Text", "readNumber", "(II)I"⟩, 8) := ⟨⟨by decide +kernel, by decide +kernel⟩, List.mem_of_getElem? (i := 256) (by decide +kernel), List.mem_of_getElem? (i := 625) (by decide +kernel), List.mem_of_getElem? (i := 626) (by decide +kernel)⟩
theorem lw_p8 : lw_okq (⟨"RingGates$Text", "readName", "()I"⟩, 8) := ⟨⟨by decide +kernel, by decide +kernel⟩, List.mem_of_getElem? (i := 256) (by decide +kernel), List.mem_of_getElem? (i := 632) (by decide +kernel), List.mem_of_getElem? (i := 633) (by decide +kernel)⟩
theorem lw_p9 : lw_okq (⟨"RingGates$Text", "isLineEnd", "()Z"⟩, 8) := ⟨⟨by decide +kernel, by decide +kernel⟩, List.mem_of_getElem? (i := 256) (by decide +kernel), List.mem_of_getElem? (i := 636) (by decide +kernel), List.mem_of_getElem? (i := 637) (by decide +kernel)⟩
theorem lw_p10 : lw_okq (⟨"RingGates$Text", "tellWord", "(II)V"⟩, 8) := ⟨⟨by decide +kernel, by decide +kernel⟩, List.mem_of_getElem? (i := 256) (by decide +kernel), List.mem_of_getElem? (i := 640) (by decide +kernel), List.mem_of_getElem? (i := 641) (by decide +kernel)⟩
theorem lw_p11 : lw_okq (⟨"RingGates$Text", "tell", "(II)V"⟩, 8) := ⟨⟨by decide +kernel, by decide +kernel⟩, List.mem_of_getElem? (i := 256) (by decide +kernel), List.mem_of_getElem? (i := 644) (by decide +kernel), List.mem_of_getElem? (i := 645) (by decide +kernel)⟩
theorem lw_p12 : lw_okq (⟨"RingGates$Machine", "actHere", "()I"⟩, 12) := ⟨⟨by decide +kernel, by decide +kernel⟩, List.mem_of_getElem? (i := 24) (by decide +kernel), List.mem_of_getElem? (i := 687) (by decide +kernel), List.mem_of_getElem? (i := 688) (by decide +kernel)⟩
theorem lw_p13 : lw_okq (⟨"RingGates$Machine", "perform", "(III)I"⟩, 12) := ⟨⟨by decide +kernel, by decide +kernel⟩, List.mem_of_getElem? (i := 24) (by decide +kernel), List.mem_of_getElem? (i := 699) (by decide +kernel), List.mem_of_getElem? (i := 700) (by decide +kernel)⟩
theorem lw_p14 : lw_okq (⟨"RingGates$Machine", "takeNumber", "(II)I"⟩, 12) := ⟨⟨by decide +kernel, by decide +kernel⟩, List.mem_of_getElem? (i := 24) (by decide +kernel), List.mem_of_getElem? (i := 703) (by decide +kernel), List.mem_of_getElem? (i := 704) (by decide +kernel)⟩
theorem lw_p15 : lw_okq (⟨"RingGates$Machine", "goThrough", "(LRingGates$Segment;IZ)I"⟩, 12) := ⟨⟨by decide +kernel, by decide +kernel⟩, List.mem_of_getElem? (i := 24) (by decide +kernel), List.mem_of_getElem? (i := 711) (by decide +kernel), List.mem_of_getElem? (i := 712) (by decide +kernel)⟩
def lw_privs_1 : List (MethodName × Nat) := [(⟨"RingGates$Text", "readLine", "()V"⟩, 8), (⟨"RingGates$Text", "readWord", "()I"⟩, 8), (⟨"RingGates$Text", "byteAt", "(I)I"⟩, 8), (⟨"RingGates$Text", "isSpelled", "(Ljava/lang/String;I)Z"⟩, 8), (⟨"RingGates$Text", "readBlank", "()V"⟩, 8), (⟨"RingGates$Text", "readPart", "(C)I"⟩, 8), (⟨"RingGates$Text", "readSigned", "()I"⟩, 8), (⟨"RingGates$Text", "readNumber", "(II)I"⟩, 8), (⟨"RingGates$Text", "readName", "()I"⟩, 8), (⟨"RingGates$Text", "isLineEnd", "()Z"⟩, 8), (⟨"RingGates$Text", "tellWord", "(II)V"⟩, 8), (⟨"RingGates$Text", "tell", "(II)V"⟩, 8), (⟨"RingGates$Machine", "actHere", "()I"⟩, 12), (⟨"RingGates$Machine", "perform", "(III)I"⟩, 12), (⟨"RingGates$Machine", "takeNumber", "(II)I"⟩, 12), (⟨"RingGates$Machine", "goThrough", "(LRingGates$Segment;IZ)I"⟩, 12)]
theorem lw_r1 : ∀ q ∈ lw_privs_1, lw_okq q := List.forall_mem_cons.mpr ⟨lw_p0, List.forall_mem_cons.mpr ⟨lw_p1, List.forall_mem_cons.mpr ⟨lw_p2, List.forall_mem_cons.mpr ⟨lw_p3, List.forall_mem_cons.mpr ⟨lw_p4, List.forall_mem_cons.mpr ⟨lw_p5, List.forall_mem_cons.mpr ⟨lw_p6, List.forall_mem_cons.mpr ⟨lw_p7, List.forall_mem_cons.mpr ⟨lw_p8, List.forall_mem_cons.mpr ⟨lw_p9, List.forall_mem_cons.mpr ⟨lw_p10, List.forall_mem_cons.mpr ⟨lw_p11, List.forall_mem_cons.mpr ⟨lw_p12, List.forall_mem_cons.mpr ⟨lw_p13, List.forall_mem_cons.mpr ⟨lw_p14, List.forall_mem_cons.mpr ⟨lw_p15, fun _ h => absurd h List.not_mem_nil⟩⟩⟩⟩⟩⟩⟩⟩⟩⟩⟩⟩⟩⟩⟩⟩
theorem lw_p16 : lw_okq (⟨"RingGates$Machine", "fetch", "(III)I"⟩, 12) := ⟨⟨by decide +kernel, by decide +kernel⟩, List.mem_of_getElem? (i := 24) (by decide +kernel), List.mem_of_getElem? (i := 727) (by decide +kernel), List.mem_of_getElem? (i := 728) (by decide +kernel)⟩
theorem lw_p17 : lw_okq (⟨"RingGates$Machine", "putNumber", "(I)I"⟩, 12) := ⟨⟨by decide +kernel, by decide +kernel⟩, List.mem_of_getElem? (i := 24) (by decide +kernel), List.mem_of_getElem? (i := 731) (by decide +kernel), List.mem_of_getElem? (i := 732) (by decide +kernel)⟩
theorem lw_p18 : lw_okq (⟨"RingGates$Machine", "faultOfStore", "(III)I"⟩, 12) := ⟨⟨by decide +kernel, by decide +kernel⟩, List.mem_of_getElem? (i := 24) (by decide +kernel), List.mem_of_getElem? (i := 735) (by decide +kernel), List.mem_of_getElem? (i := 736) (by decide +kernel)⟩
theorem lw_p19 : lw_okq (⟨"RingGates$Machine", "store", "(III)V"⟩, 12) := ⟨⟨by decide +kernel, by decide +kernel⟩, List.mem_of_getElem? (i := 24) (by decide +kernel), List.mem_of_getElem? (i := 743) (by decide +kernel), List.mem_of_getElem? (i := 744) (by decide +kernel)⟩
theorem lw_p20 : lw_okq (⟨"RingGates$Machine", "goTo", "(I)I"⟩, 12) := ⟨⟨by decide +kernel, by decide +kernel⟩, List.mem_of_getElem? (i := 24) (by decide +kernel), List.mem_of_getElem? (i := 747) (by decide +kernel), List.mem_of_getElem? (i := 748) (by decide +kernel)⟩
theorem lw_p21 : lw_okq (⟨"RingGates$Machine", "callTo", "(II)I"⟩, 12) := ⟨⟨by decide +kernel, by decide +kernel⟩, List.mem_of_getElem? (i := 24) (by decide +kernel), List.mem_of_getElem? (i := 751) (by decide +kernel), List.mem_of_getElem? (i := 752) (by decide +kernel)⟩
theorem lw_p22 : lw_okq (⟨"RingGates$Machine", "keepPlace", "(LRingGates$Argument;)V"⟩, 12) := ⟨⟨by decide +kernel, by decide +kernel⟩, List.mem_of_getElem? (i := 24) (by decide +kernel), List.mem_of_getElem? (i := 764) (by decide +kernel), List.mem_of_getElem? (i := 765) (by decide +kernel)⟩
theorem lw_p23 : lw_okq (⟨"RingGates$Machine", "takeCopies", "()I"⟩, 12) := ⟨⟨by decide +kernel, by decide +kernel⟩, List.mem_of_getElem? (i := 24) (by decide +kernel), List.mem_of_getElem? (i := 768) (by decide +kernel), List.mem_of_getElem? (i := 769) (by decide +kernel)⟩
theorem lw_p24 : lw_okq (⟨"RingGates$Machine", "goBack", "()I"⟩, 12) := ⟨⟨by decide +kernel, by decide +kernel⟩, List.mem_of_getElem? (i := 24) (by decide +kernel), List.mem_of_getElem? (i := 796) (by decide +kernel), List.mem_of_getElem? (i := 797) (by decide +kernel)⟩
theorem lw_p25 : lw_okq (⟨"RingGates$Machine", "putCopiesBack", "(LRingGates$Frame;)I"⟩, 12) := ⟨⟨by decide +kernel, by decide +kernel⟩, List.mem_of_getElem? (i := 24) (by decide +kernel), List.mem_of_getElem? (i := 801) (by decide +kernel), List.mem_of_getElem? (i := 802) (by decide +kernel)⟩
theorem lw_p26 : lw_okq (⟨"RingGates$Machine", "readArgument", "(I)I"⟩, 12) := ⟨⟨by decide +kernel, by decide +kernel⟩, List.mem_of_getElem? (i := 24) (by decide +kernel), List.mem_of_getElem? (i := 809) (by decide +kernel), List.mem_of_getElem? (i := 810) (by decide +kernel)⟩
theorem lw_p27 : lw_okq (⟨"RingGates$Machine", "latestArgument", "(I)LRingGates$Argument;"⟩, 12) := ⟨⟨by decide +kernel, by decide +kernel⟩, List.mem_of_getElem? (i := 24) (by decide +kernel), List.mem_of_getElem? (i := 813) (by decide +kernel), List.mem_of_getElem? (i := 814) (by decide +kernel)⟩
theorem lw_p28 : lw_okq (⟨"RingGates$Machine", "isLatestOutward", "()Z"⟩, 12) := ⟨⟨by decide +kernel, by decide +kernel⟩, List.mem_of_getElem? (i := 24) (by decide +kernel), List.mem_of_getElem? (i := 817) (by decide +kernel), List.mem_of_getElem? (i := 818) (by decide +kernel)⟩
theorem lw_p29 : lw_okq (⟨"RingGates$Machine", "writeArgument", "(I)I"⟩, 12) := ⟨⟨by decide +kernel, by decide +kernel⟩, List.mem_of_getElem? (i := 24) (by decide +kernel), List.mem_of_getElem? (i := 821) (by decide +kernel), List.mem_of_getElem? (i := 822) (by decide +kernel)⟩
theorem lw_p30 : lw_okq (⟨"RingGatesModel", "isDirectory", "(I)Z"⟩, 18) := ⟨⟨by decide +kernel, by decide +kernel⟩, List.mem_of_getElem? (i := 955) (by decide +kernel), List.mem_of_getElem? (i := 1032) (by decide +kernel), List.mem_of_getElem? (i := 1033) (by decide +kernel)⟩
theorem lw_p31 : lw_okq (⟨"RingGatesModel", "named", "(II)I"⟩, 18) := ⟨⟨by decide +kernel, by decide +kernel⟩, List.mem_of_getElem? (i := 955) (by decide +kernel), List.mem_of_getElem? (i := 1045) (by decide +kernel), List.mem_of_getElem? (i := 1046) (by decide +kernel)⟩
def lw_privs_2 : List (MethodName × Nat) := [(⟨"RingGates$Machine", "fetch", "(III)I"⟩, 12), (⟨"RingGates$Machine", "putNumber", "(I)I"⟩, 12), (⟨"RingGates$Machine", "faultOfStore", "(III)I"⟩, 12), (⟨"RingGates$Machine", "store", "(III)V"⟩, 12), (⟨"RingGates$Machine", "goTo", "(I)I"⟩, 12), (⟨"RingGates$Machine", "callTo", "(II)I"⟩, 12), (⟨"RingGates$Machine", "keepPlace", "(LRingGates$Argument;)V"⟩, 12), (⟨"RingGates$Machine", "takeCopies", "()I"⟩, 12), (⟨"RingGates$Machine", "goBack", "()I"⟩, 12), (⟨"RingGates$Machine", "putCopiesBack", "(LRingGates$Frame;)I"⟩, 12), (⟨"RingGates$Machine", "readArgument", "(I)I"⟩, 12), (⟨"RingGates$Machine", "latestArgument", "(I)LRingGates$Argument;"⟩, 12), (⟨"RingGates$Machine", "isLatestOutward", "()Z"⟩, 12), (⟨"RingGates$Machine", "writeArgument", "(I)I"⟩, 12), (⟨"RingGatesModel", "isDirectory", "(I)Z"⟩, 18), (⟨"RingGatesModel", "named", "(II)I"⟩, 18)]
theorem lw_r2 : ∀ q ∈ lw_privs_2, lw_okq q := List.forall_mem_cons.mpr ⟨lw_p16, List.forall_mem_cons.mpr ⟨lw_p17, List.forall_mem_cons.mpr ⟨lw_p18, List.forall_mem_cons.mpr ⟨lw_p19, List.forall_mem_cons.mpr ⟨lw_p20, List.forall_mem_cons.mpr ⟨lw_p21, List.forall_mem_cons.mpr ⟨lw_p22, List.forall_mem_cons.mpr ⟨lw_p23, List.forall_mem_cons.mpr ⟨lw_p24, List.forall_mem_cons.mpr ⟨lw_p25, List.forall_mem_cons.mpr ⟨lw_p26, List.forall_mem_cons.mpr ⟨lw_p27, List.forall_mem_cons.mpr ⟨lw_p28, List.forall_mem_cons.mpr ⟨lw_p29, List.forall_mem_cons.mpr ⟨lw_p30, List.forall_mem_cons.mpr ⟨lw_p31, fun _ h => absurd h List.not_mem_nil⟩⟩⟩⟩⟩⟩⟩⟩⟩⟩⟩⟩⟩⟩⟩⟩
theorem lw_p32 : lw_okq (⟨"RingGatesModel", "hasRoom", "(II)Z"⟩, 18) := ⟨⟨by decide +kernel, by decide +kernel⟩, List.mem_of_getElem? (i := 955) (by decide +kernel), List.mem_of_getElem? (i := 1052) (by decide +kernel), List.mem_of_getElem? (i := 1053) (by decide +kernel)⟩
theorem lw_p33 : lw_okq (⟨"RingGatesModel", "isSegment", "(I)Z"⟩, 18) := ⟨⟨by decide +kernel, by decide +kernel⟩, List.mem_of_getElem? (i := 955) (by decide +kernel), List.mem_of_getElem? (i := 1069) (by decide +kernel), List.mem_of_getElem? (i := 1070) (by decide +kernel)⟩
theorem lw_p34 : lw_okq (⟨"RingGatesModel", "segmentsIn", "(I)I"⟩, 18) := ⟨⟨by decide +kernel, by decide +kernel⟩, List.mem_of_getElem? (i := 955) (by decide +kernel), List.mem_of_getElem? (i := 1109) (by decide +kernel), List.mem_of_getElem? (i := 1110) (by decide +kernel)⟩
theorem lw_p35 : lw_okq (⟨"RingGatesModel", "becomes", "(IIIIII)I"⟩, 18) := ⟨⟨by decide +kernel, by decide +kernel⟩, List.mem_of_getElem? (i := 955) (by decide +kernel), List.mem_of_getElem? (i := 1132) (by decide +kernel), List.mem_of_getElem? (i := 1133) (by decide +kernel)⟩
theorem lw_p36 : lw_okq (⟨"RingGatesModel", "isWord", "(II)Z"⟩, 18) := ⟨⟨by decide +kernel, by decide +kernel⟩, List.mem_of_getElem? (i := 955) (by decide +kernel), List.mem_of_getElem? (i := 1136) (by decide +kernel), List.mem_of_getElem? (i := 1137) (by decide +kernel)⟩
theorem lw_p37 : lw_okq (⟨"RingGatesModel", "toldOf", "(II)I"⟩, 18) := ⟨⟨by decide +kernel, by decide +kernel⟩, List.mem_of_getElem? (i := 955) (by decide +kernel), List.mem_of_getElem? (i := 1167) (by decide +kernel), List.mem_of_getElem? (i := 1168) (by decide +kernel)⟩
theorem lw_p38 : lw_okq (⟨"RingGatesModel", "isText", "()Z"⟩, 18) := ⟨⟨by decide +kernel, by decide +kernel⟩, List.mem_of_getElem? (i := 955) (by decide +kernel), List.mem_of_getElem? (i := 1184) (by decide +kernel), List.mem_of_getElem? (i := 1185) (by decide +kernel)⟩
theorem lw_p39 : lw_okq (⟨"RingGatesModel", "line", "()Z"⟩, 18) := ⟨⟨by decide +kernel, by decide +kernel⟩, List.mem_of_getElem? (i := 955) (by decide +kernel), List.mem_of_getElem? (i := 1188) (by decide +kernel), List.mem_of_getElem? (i := 1189) (by decide +kernel)⟩
theorem lw_p40 : lw_okq (⟨"RingGatesModel", "many", "(III)I"⟩, 18) := ⟨⟨by decide +kernel, by decide +kernel⟩, List.mem_of_getElem? (i := 955) (by decide +kernel), List.mem_of_getElem? (i := 1192) (by decide +kernel), List.mem_of_getElem? (i := 1193) (by decide +kernel)⟩
theorem lw_p41 : lw_okq (⟨"RingGatesModel", "byteAt", "(I)I"⟩, 18) := ⟨⟨by decide +kernel, by decide +kernel⟩, List.mem_of_getElem? (i := 955) (by decide +kernel), List.mem_of_getElem? (i := 1196) (by decide +kernel), List.mem_of_getElem? (i := 1197) (by decide +kernel)⟩
theorem lw_p42 : lw_okq (⟨"RingGatesModel", "is", "(IILjava/lang/String;)Z"⟩, 18) := ⟨⟨by decide +kernel, by decide +kernel⟩, List.mem_of_getElem? (i := 955) (by decide +kernel), List.mem_of_getElem? (i := 1201) (by decide +kernel), List.mem_of_getElem? (i := 1202) (by decide +kernel)⟩
theorem lw_p43 : lw_okq (⟨"RingGatesModel", "value", "()Z"⟩, 18) := ⟨⟨by decide +kernel, by decide +kernel⟩, List.mem_of_getElem? (i := 955) (by decide +kernel), List.mem_of_getElem? (i := 1208) (by decide +kernel), List.mem_of_getElem? (i := 1209) (by decide +kernel)⟩
theorem lw_p44 : lw_okq (⟨"RingGatesModel", "sign", "(I)Z"⟩, 18) := ⟨⟨by decide +kernel, by decide +kernel⟩, List.mem_of_getElem? (i := 955) (by decide +kernel), List.mem_of_getElem? (i := 1212) (by decide +kernel), List.mem_of_getElem? (i := 1213) (by decide +kernel)⟩
theorem lw_p45 : lw_okq (⟨"RingGatesModel", "stops", "()Z"⟩, 18) := ⟨⟨by decide +kernel, by decide +kernel⟩, List.mem_of_getElem? (i := 955) (by decide +kernel), List.mem_of_getElem? (i := 1216) (by decide +kernel), List.mem_of_getElem? (i := 1217) (by decide +kernel)⟩
theorem lw_p46 : lw_okq (⟨"RingGatesModel", "digits", "(II)Z"⟩, 18) := ⟨⟨by decide +kernel, by decide +kernel⟩, List.mem_of_getElem? (i := 955) (by decide +kernel), List.mem_of_getElem? (i := 1222) (by decide +kernel), List.mem_of_getElem? (i := 1223) (by decide +kernel)⟩
theorem lw_p47 : lw_okq (⟨"RingGatesModel", "letter", "()Z"⟩, 18) := ⟨⟨by decide +kernel, by decide +kernel⟩, List.mem_of_getElem? (i := 955) (by decide +kernel), List.mem_of_getElem? (i := 1227) (by decide +kernel), List.mem_of_getElem? (i := 1228) (by decide +kernel)⟩
def lw_privs_3 : List (MethodName × Nat) := [(⟨"RingGatesModel", "hasRoom", "(II)Z"⟩, 18), (⟨"RingGatesModel", "isSegment", "(I)Z"⟩, 18), (⟨"RingGatesModel", "segmentsIn", "(I)I"⟩, 18), (⟨"RingGatesModel", "becomes", "(IIIIII)I"⟩, 18), (⟨"RingGatesModel", "isWord", "(II)Z"⟩, 18), (⟨"RingGatesModel", "toldOf", "(II)I"⟩, 18), (⟨"RingGatesModel", "isText", "()Z"⟩, 18), (⟨"RingGatesModel", "line", "()Z"⟩, 18), (⟨"RingGatesModel", "many", "(III)I"⟩, 18), (⟨"RingGatesModel", "byteAt", "(I)I"⟩, 18), (⟨"RingGatesModel", "is", "(IILjava/lang/String;)Z"⟩, 18), (⟨"RingGatesModel", "value", "()Z"⟩, 18), (⟨"RingGatesModel", "sign", "(I)Z"⟩, 18), (⟨"RingGatesModel", "stops", "()Z"⟩, 18), (⟨"RingGatesModel", "digits", "(II)Z"⟩, 18), (⟨"RingGatesModel", "letter", "()Z"⟩, 18)]
theorem lw_r3 : ∀ q ∈ lw_privs_3, lw_okq q := List.forall_mem_cons.mpr ⟨lw_p32, List.forall_mem_cons.mpr ⟨lw_p33, List.forall_mem_cons.mpr ⟨lw_p34, List.forall_mem_cons.mpr ⟨lw_p35, List.forall_mem_cons.mpr ⟨lw_p36, List.forall_mem_cons.mpr ⟨lw_p37, List.forall_mem_cons.mpr ⟨lw_p38, List.forall_mem_cons.mpr ⟨lw_p39, List.forall_mem_cons.mpr ⟨lw_p40, List.forall_mem_cons.mpr ⟨lw_p41, List.forall_mem_cons.mpr ⟨lw_p42, List.forall_mem_cons.mpr ⟨lw_p43, List.forall_mem_cons.mpr ⟨lw_p44, List.forall_mem_cons.mpr ⟨lw_p45, List.forall_mem_cons.mpr ⟨lw_p46, List.forall_mem_cons.mpr ⟨lw_p47, fun _ h => absurd h List.not_mem_nil⟩⟩⟩⟩⟩⟩⟩⟩⟩⟩⟩⟩⟩⟩⟩⟩
theorem lw_p48 : lw_okq (⟨"RingGatesModel", "actLine", "(II)Z"⟩, 18) := ⟨⟨by decide +kernel, by decide +kernel⟩, List.mem_of_getElem? (i := 955) (by decide +kernel), List.mem_of_getElem? (i := 1231) (by decide +kernel), List.mem_of_getElem? (i := 1232) (by decide +kernel)⟩
theorem lw_p49 : lw_okq (⟨"RingGatesModel", "runs", "([II)I"⟩, 18) := ⟨⟨by decide +kernel, by decide +kernel⟩, List.mem_of_getElem? (i := 955) (by decide +kernel), List.mem_of_getElem? (i := 1244) (by decide +kernel), List.mem_of_getElem? (i := 1245) (by decide +kernel)⟩
theorem lw_p50 : lw_okq (⟨"RingGatesModel", "steps", "([I)I"⟩, 18) := ⟨⟨by decide +kernel, by decide +kernel⟩, List.mem_of_getElem? (i := 955) (by decide +kernel), List.mem_of_getElem? (i := 1248) (by decide +kernel), List.mem_of_getElem? (i := 1249) (by decide +kernel)⟩
theorem lw_p51 : lw_okq (⟨"RingGatesModel", "calls", "([IIIII)I"⟩, 18) := ⟨⟨by decide +kernel, by decide +kernel⟩, List.mem_of_getElem? (i := 955) (by decide +kernel), List.mem_of_getElem? (i := 1258) (by decide +kernel), List.mem_of_getElem? (i := 1259) (by decide +kernel)⟩
theorem lw_p52 : lw_okq (⟨"RingGatesModel", "comes", "([IIII)I"⟩, 18) := ⟨⟨by decide +kernel, by decide +kernel⟩, List.mem_of_getElem? (i := 955) (by decide +kernel), List.mem_of_getElem? (i := 1262) (by decide +kernel), List.mem_of_getElem? (i := 1263) (by decide +kernel)⟩
theorem lw_p53 : lw_okq (⟨"RingGatesModel", "through", "([II)I"⟩, 18) := ⟨⟨by decide +kernel, by decide +kernel⟩, List.mem_of_getElem? (i := 955) (by decide +kernel), List.mem_of_getElem? (i := 1270) (by decide +kernel), List.mem_of_getElem? (i := 1271) (by decide +kernel)⟩
theorem lw_p54 : lw_okq (⟨"RingGatesModel", "entered", "([IIII)I"⟩, 18) := ⟨⟨by decide +kernel, by decide +kernel⟩, List.mem_of_getElem? (i := 955) (by decide +kernel), List.mem_of_getElem? (i := 1275) (by decide +kernel), List.mem_of_getElem? (i := 1276) (by decide +kernel)⟩
theorem lw_p55 : lw_okq (⟨"RingGatesModel", "numberAt", "([IIII)I"⟩, 18) := ⟨⟨by decide +kernel, by decide +kernel⟩, List.mem_of_getElem? (i := 955) (by decide +kernel), List.mem_of_getElem? (i := 1279) (by decide +kernel), List.mem_of_getElem? (i := 1280) (by decide +kernel)⟩
theorem lw_p56 : lw_okq (⟨"RingGatesModel", "backs", "([I)I"⟩, 18) := ⟨⟨by decide +kernel, by decide +kernel⟩, List.mem_of_getElem? (i := 955) (by decide +kernel), List.mem_of_getElem? (i := 1286) (by decide +kernel), List.mem_of_getElem? (i := 1287) (by decide +kernel)⟩
theorem lw_p57 : lw_okq (⟨"RingGatesModel", "argument", "([IIZ)I"⟩, 18) := ⟨⟨by decide +kernel, by decide +kernel⟩, List.mem_of_getElem? (i := 955) (by decide +kernel), List.mem_of_getElem? (i := 1296) (by decide +kernel), List.mem_of_getElem? (i := 1297) (by decide +kernel)⟩
theorem lw_p58 : lw_okq (⟨"RingGatesModel", "moves", "([IIII)I"⟩, 18) := ⟨⟨by decide +kernel, by decide +kernel⟩, List.mem_of_getElem? (i := 955) (by decide +kernel), List.mem_of_getElem? (i := 1300) (by decide +kernel), List.mem_of_getElem? (i := 1301) (by decide +kernel)⟩
theorem lw_p59 : lw_okq (⟨"RingGatesModel", "further", "(I)I"⟩, 18) := ⟨⟨by decide +kernel, by decide +kernel⟩, List.mem_of_getElem? (i := 955) (by decide +kernel), List.mem_of_getElem? (i := 1340) (by decide +kernel), List.mem_of_getElem? (i := 1341) (by decide +kernel)⟩
theorem lw_p60 : lw_okq (⟨"RingGatesModel", "snapped", "(Z)I"⟩, 18) := ⟨⟨by decide +kernel, by decide +kernel⟩, List.mem_of_getElem? (i := 955) (by decide +kernel), List.mem_of_getElem? (i := 1348) (by decide +kernel), List.mem_of_getElem? (i := 1349) (by decide +kernel)⟩
theorem lw_p61 : lw_okq (⟨"RingGatesModel", "segments", "()I"⟩, 18) := ⟨⟨by decide +kernel, by decide +kernel⟩, List.mem_of_getElem? (i := 955) (by decide +kernel), List.mem_of_getElem? (i := 1361) (by decide +kernel), List.mem_of_getElem? (i := 1362) (by decide +kernel)⟩
theorem lw_p62 : lw_okq (⟨"RingGatesModel", "cells", "(Z)I"⟩, 18) := ⟨⟨by decide +kernel, by decide +kernel⟩, List.mem_of_getElem? (i := 955) (by decide +kernel), List.mem_of_getElem? (i := 1373) (by decide +kernel), List.mem_of_getElem? (i := 1374) (by decide +kernel)⟩
theorem lw_p63 : lw_okq (⟨"RingGatesModel", "recordsAll", "()I"⟩, 18) := ⟨⟨by decide +kernel, by decide +kernel⟩, List.mem_of_getElem? (i := 955) (by decide +kernel), List.mem_of_getElem? (i := 1377) (by decide +kernel), List.mem_of_getElem? (i := 1378) (by decide +kernel)⟩
def lw_privs_4 : List (MethodName × Nat) := [(⟨"RingGatesModel", "actLine", "(II)Z"⟩, 18), (⟨"RingGatesModel", "runs", "([II)I"⟩, 18), (⟨"RingGatesModel", "steps", "([I)I"⟩, 18), (⟨"RingGatesModel", "calls", "([IIIII)I"⟩, 18), (⟨"RingGatesModel", "comes", "([IIII)I"⟩, 18), (⟨"RingGatesModel", "through", "([II)I"⟩, 18), (⟨"RingGatesModel", "entered", "([IIII)I"⟩, 18), (⟨"RingGatesModel", "numberAt", "([IIII)I"⟩, 18), (⟨"RingGatesModel", "backs", "([I)I"⟩, 18), (⟨"RingGatesModel", "argument", "([IIZ)I"⟩, 18), (⟨"RingGatesModel", "moves", "([IIII)I"⟩, 18), (⟨"RingGatesModel", "further", "(I)I"⟩, 18), (⟨"RingGatesModel", "snapped", "(Z)I"⟩, 18), (⟨"RingGatesModel", "segments", "()I"⟩, 18), (⟨"RingGatesModel", "cells", "(Z)I"⟩, 18), (⟨"RingGatesModel", "recordsAll", "()I"⟩, 18)]
theorem lw_r4 : ∀ q ∈ lw_privs_4, lw_okq q := List.forall_mem_cons.mpr ⟨lw_p48, List.forall_mem_cons.mpr ⟨lw_p49, List.forall_mem_cons.mpr ⟨lw_p50, List.forall_mem_cons.mpr ⟨lw_p51, List.forall_mem_cons.mpr ⟨lw_p52, List.forall_mem_cons.mpr ⟨lw_p53, List.forall_mem_cons.mpr ⟨lw_p54, List.forall_mem_cons.mpr ⟨lw_p55, List.forall_mem_cons.mpr ⟨lw_p56, List.forall_mem_cons.mpr ⟨lw_p57, List.forall_mem_cons.mpr ⟨lw_p58, List.forall_mem_cons.mpr ⟨lw_p59, List.forall_mem_cons.mpr ⟨lw_p60, List.forall_mem_cons.mpr ⟨lw_p61, List.forall_mem_cons.mpr ⟨lw_p62, List.forall_mem_cons.mpr ⟨lw_p63, fun _ h => absurd h List.not_mem_nil⟩⟩⟩⟩⟩⟩⟩⟩⟩⟩⟩⟩⟩⟩⟩⟩
def lw_privs : List (MethodName × Nat) := lw_privs_1 ++ (lw_privs_2 ++ (lw_privs_3 ++ (lw_privs_4)))
def lw_tbl : List Cond := k2_sels lw_privs ++ tables_1
theorem lw_privs_ok : ∀ q ∈ lw_privs, lw_okq q := by
  show ∀ q ∈ lw_privs_1 ++ (lw_privs_2 ++ (lw_privs_3 ++ (lw_privs_4))), lw_okq q
  exact List.forall_mem_append.mpr ⟨lw_r1, List.forall_mem_append.mpr ⟨lw_r2, List.forall_mem_append.mpr ⟨lw_r3, lw_r4⟩⟩⟩

def RX0 : String := "RingGates$Argument"
def TX0 : u_T := fun k => match k with
  | 0 => ("RingGates$Argument", "segment", "I", false)
  | 1 => ("RingGates$Argument", "word", "I", false)
  | 2 => ("RingGates$Argument", "ring", "I", false)
  | 3 => ("RingGates$Argument", "copy", "I", false)
  | _ => ("RingGates$Argument", "isSet", "Z", false)
def tyX0 : Nat → FieldType := fun k => match k with
  | 0 => .int
  | 1 => .int
  | 2 => .int
  | 3 => .int
  | _ => .boolean
abbrev wsX00 : List Cond := u_ws RX0 TX0 5
theorem nmX0 : ∀ a, a < 5 → ∀ b, b < 5 → a ≠ b → (TX0 a).2.1 ≠ (TX0 b).2.1 := by decide +kernel
theorem tyX0_ok : ∀ k, k < 5 → parseFieldDescriptor (TX0 k).2.2.1 = some (tyX0 k) := by decide +kernel
abbrev cX0_init : ByteArray := prog_2_method_1_code
def yX0_init : MethodName := ⟨RX0, "<init>", "()V"⟩
abbrev cX0_copyFrom : ByteArray := prog_2_method_2_code
def yX0_copyFrom : MethodName := ⟨RX0, "copyFrom", "(LRingGates$Argument;)V"⟩
def RX1 : String := "RingGates$Frame"
def TX1 : u_T := fun k => match k with
  | 0 => ("RingGates$Frame", "segment", "I", false)
  | 1 => ("RingGates$Frame", "word", "I", false)
  | 2 => ("RingGates$Frame", "ring", "I", false)
  | 3 => ("RingGates$Frame", "outward", "Z", false)
  | 4 => ("RingGates$Frame", "size", "I", false)
  | _ => ("RingGates$Frame", "arguments", "[LRingGates$Argument;", true)
def tyX1 : Nat → FieldType := fun k => match k with
  | 0 => .int
  | 1 => .int
  | 2 => .int
  | 3 => .boolean
  | 4 => .int
  | _ => .array (.object "RingGates$Argument")
abbrev wsX10 : List Cond := u_ws RX1 TX1 6
theorem nmX1 : ∀ a, a < 6 → ∀ b, b < 6 → a ≠ b → (TX1 a).2.1 ≠ (TX1 b).2.1 := by decide +kernel
theorem tyX1_ok : ∀ k, k < 6 → parseFieldDescriptor (TX1 k).2.2.1 = some (tyX1 k) := by decide +kernel
abbrev cX1_init : ByteArray := prog_3_method_1_code
def yX1_init : MethodName := ⟨RX1, "<init>", "()V"⟩
abbrev cX1_argumentAt : ByteArray := prog_3_method_2_code
def yX1_argumentAt : MethodName := ⟨RX1, "argumentAt", "(I)LRingGates$Argument;"⟩
abbrev cX1_copyFrom : ByteArray := prog_3_method_3_code
def yX1_copyFrom : MethodName := ⟨RX1, "copyFrom", "(LRingGates$Frame;)V"⟩
def RX2 : String := "RingGates$Machine"
def TX2 : u_T := fun k => match k with
  | 0 => ("RingGates$Machine", "world", "LRingGates$World;", true)
  | 1 => ("RingGates$Machine", "stacks", "LRingGates$Stacks;", true)
  | 2 => ("RingGates$Machine", "segment", "I", false)
  | 3 => ("RingGates$Machine", "word", "I", false)
  | 4 => ("RingGates$Machine", "ring", "I", false)
  | 5 => ("RingGates$Machine", "a", "I", false)
  | 6 => ("RingGates$Machine", "building", "LRingGates$Frame;", true)
  | 7 => ("RingGates$Machine", "operandSegment", "I", false)
  | 8 => ("RingGates$Machine", "operandWord", "I", false)
  | 9 => ("RingGates$Machine", "operandRing", "I", false)
  | 10 => ("RingGates$Machine", "fetched", "I", false)
  | _ => ("RingGates$Machine", "outcome", "I", false)
def tyX2 : Nat → FieldType := fun k => match k with
  | 0 => .object "RingGates$World"
  | 1 => .object "RingGates$Stacks"
  | 2 => .int
  | 3 => .int
  | 4 => .int
  | 5 => .int
  | 6 => .object "RingGates$Frame"
  | 7 => .int
  | 8 => .int
  | 9 => .int
  | 10 => .int
  | _ => .int
abbrev wsX20 : List Cond := u_ws RX2 TX2 12
theorem nmX2 : ∀ a, a < 12 → ∀ b, b < 12 → a ≠ b → (TX2 a).2.1 ≠ (TX2 b).2.1 := by decide +kernel
theorem tyX2_ok : ∀ k, k < 12 → parseFieldDescriptor (TX2 k).2.2.1 = some (tyX2 k) := by decide +kernel
abbrev cX2_init : ByteArray := prog_4_method_1_code
def yX2_init : MethodName := ⟨RX2, "<init>", "()V"⟩
abbrev cX2_begin : ByteArray := prog_4_method_2_code
def yX2_begin : MethodName := ⟨RX2, "begin", "(III)V"⟩
abbrev cX2_drive : ByteArray := prog_4_method_3_code
def yX2_drive : MethodName := ⟨RX2, "drive", "(I)I"⟩
abbrev cX2_actHere : ByteArray := prog_4_method_4_code
def yX2_actHere : MethodName := ⟨RX2, "actHere", "()I"⟩
abbrev cX2_perform : ByteArray := prog_4_method_5_code
def yX2_perform : MethodName := ⟨RX2, "perform", "(III)I"⟩
abbrev cX2_takeNumber : ByteArray := prog_4_method_6_code
def yX2_takeNumber : MethodName := ⟨RX2, "takeNumber", "(II)I"⟩
abbrev cX2_putNumber : ByteArray := prog_4_method_7_code
def yX2_putNumber : MethodName := ⟨RX2, "putNumber", "(I)I"⟩
abbrev cX2_goTo : ByteArray := prog_4_method_8_code
def yX2_goTo : MethodName := ⟨RX2, "goTo", "(I)I"⟩
abbrev cX2_callTo : ByteArray := prog_4_method_9_code
def yX2_callTo : MethodName := ⟨RX2, "callTo", "(II)I"⟩
abbrev cX2_keepPlace : ByteArray := prog_4_method_10_code
def yX2_keepPlace : MethodName := ⟨RX2, "keepPlace", "(LRingGates$Argument;)V"⟩
abbrev cX2_takeCopies : ByteArray := prog_4_method_11_code
def yX2_takeCopies : MethodName := ⟨RX2, "takeCopies", "()I"⟩
abbrev cX2_goBack : ByteArray := prog_4_method_12_code
def yX2_goBack : MethodName := ⟨RX2, "goBack", "()I"⟩
abbrev cX2_putCopiesBack : ByteArray := prog_4_method_13_code
def yX2_putCopiesBack : MethodName := ⟨RX2, "putCopiesBack", "(LRingGates$Frame;)I"⟩
abbrev cX2_latestArgument : ByteArray := prog_4_method_14_code
def yX2_latestArgument : MethodName := ⟨RX2, "latestArgument", "(I)LRingGates$Argument;"⟩
abbrev cX2_isLatestOutward : ByteArray := prog_4_method_15_code
def yX2_isLatestOutward : MethodName := ⟨RX2, "isLatestOutward", "()Z"⟩
abbrev cX2_readArgument : ByteArray := prog_4_method_16_code
def yX2_readArgument : MethodName := ⟨RX2, "readArgument", "(I)I"⟩
abbrev cX2_writeArgument : ByteArray := prog_4_method_17_code
def yX2_writeArgument : MethodName := ⟨RX2, "writeArgument", "(I)I"⟩
abbrev cX2_seekOperand : ByteArray := prog_4_method_18_code
def yX2_seekOperand : MethodName := ⟨RX2, "seekOperand", "(IIIZ)I"⟩
abbrev cX2_goThrough : ByteArray := prog_4_method_19_code
def yX2_goThrough : MethodName := ⟨RX2, "goThrough", "(LRingGates$Segment;IZ)I"⟩
abbrev cX2_fetch : ByteArray := prog_4_method_20_code
def yX2_fetch : MethodName := ⟨RX2, "fetch", "(III)I"⟩
abbrev cX2_faultOfStore : ByteArray := prog_4_method_21_code
def yX2_faultOfStore : MethodName := ⟨RX2, "faultOfStore", "(III)I"⟩
abbrev cX2_store : ByteArray := prog_4_method_22_code
def yX2_store : MethodName := ⟨RX2, "store", "(III)V"⟩
abbrev cX2_copyFrom : ByteArray := prog_4_method_23_code
def yX2_copyFrom : MethodName := ⟨RX2, "copyFrom", "(LRingGates$Machine;)V"⟩
def RX3 : String := "RingGates$Segment"
def TX3 : u_T := fun k => match k with
  | 0 => ("RingGates$Segment", "there", "Z", false)
  | 1 => ("RingGates$Segment", "directory", "I", false)
  | 2 => ("RingGates$Segment", "name", "I", false)
  | 3 => ("RingGates$Segment", "serial", "I", false)
  | 4 => ("RingGates$Segment", "length", "I", false)
  | 5 => ("RingGates$Segment", "r1", "I", false)
  | 6 => ("RingGates$Segment", "r2", "I", false)
  | 7 => ("RingGates$Segment", "r3", "I", false)
  | 8 => ("RingGates$Segment", "may", "I", false)
  | 9 => ("RingGates$Segment", "gates", "I", false)
  | 10 => ("RingGates$Segment", "kinds", "[I", true)
  | 11 => ("RingGates$Segment", "values", "[I", true)
  | _ => ("RingGates$Segment", "knowns", "[I", true)
def tyX3 : Nat → FieldType := fun k => match k with
  | 0 => .boolean
  | 1 => .int
  | 2 => .int
  | 3 => .int
  | 4 => .int
  | 5 => .int
  | 6 => .int
  | 7 => .int
  | 8 => .int
  | 9 => .int
  | 10 => .array .int
  | 11 => .array .int
  | _ => .array .int
abbrev wsX30 : List Cond := u_ws RX3 TX3 13
theorem nmX3 : ∀ a, a < 13 → ∀ b, b < 13 → a ≠ b → (TX3 a).2.1 ≠ (TX3 b).2.1 := by decide +kernel
theorem tyX3_ok : ∀ k, k < 13 → parseFieldDescriptor (TX3 k).2.2.1 = some (tyX3 k) := by decide +kernel
abbrev cX3_init : ByteArray := prog_5_method_1_code
def yX3_init : MethodName := ⟨RX3, "<init>", "()V"⟩
abbrev cX3_has : ByteArray := prog_5_method_2_code
def yX3_has : MethodName := ⟨RX3, "has", "(I)Z"⟩
abbrev cX3_kindAt : ByteArray := prog_5_method_3_code
def yX3_kindAt : MethodName := ⟨RX3, "kindAt", "(I)I"⟩
abbrev cX3_valueAt : ByteArray := prog_5_method_4_code
def yX3_valueAt : MethodName := ⟨RX3, "valueAt", "(I)I"⟩
abbrev cX3_knownAt : ByteArray := prog_5_method_5_code
def yX3_knownAt : MethodName := ⟨RX3, "knownAt", "(I)I"⟩
abbrev cX3_become : ByteArray := prog_5_method_6_code
def yX3_become : MethodName := ⟨RX3, "become", "(IIII)V"⟩
abbrev cX3_letsRead : ByteArray := prog_5_method_7_code
def yX3_letsRead : MethodName := ⟨RX3, "letsRead", "(I)Z"⟩
abbrev cX3_letsWrite : ByteArray := prog_5_method_8_code
def yX3_letsWrite : MethodName := ⟨RX3, "letsWrite", "(I)Z"⟩
abbrev cX3_letsGo : ByteArray := prog_5_method_9_code
def yX3_letsGo : MethodName := ⟨RX3, "letsGo", "(I)Z"⟩
abbrev cX3_changeLength : ByteArray := prog_5_method_10_code
def yX3_changeLength : MethodName := ⟨RX3, "changeLength", "(I)V"⟩
abbrev cX3_snapped : ByteArray := prog_5_method_11_code
def yX3_snapped : MethodName := ⟨RX3, "snapped", "()I"⟩
abbrev cX3_unsnapAll : ByteArray := prog_5_method_12_code
def yX3_unsnapAll : MethodName := ⟨RX3, "unsnapAll", "()I"⟩
abbrev cX3_copyFrom : ByteArray := prog_5_method_13_code
def yX3_copyFrom : MethodName := ⟨RX3, "copyFrom", "(LRingGates$Segment;)V"⟩
def RX4 : String := "RingGates$Stacks"
def TX4 : u_T := fun k => match k with
  | 0 => ("RingGates$Stacks", "heights", "[I", true)
  | _ => ("RingGates$Stacks", "frames", "[LRingGates$Frame;", true)
def tyX4 : Nat → FieldType := fun k => match k with
  | 0 => .array .int
  | _ => .array (.object "RingGates$Frame")
abbrev wsX40 : List Cond := u_ws RX4 TX4 2
theorem nmX4 : ∀ a, a < 2 → ∀ b, b < 2 → a ≠ b → (TX4 a).2.1 ≠ (TX4 b).2.1 := by decide +kernel
theorem tyX4_ok : ∀ k, k < 2 → parseFieldDescriptor (TX4 k).2.2.1 = some (tyX4 k) := by decide +kernel
abbrev cX4_init : ByteArray := prog_6_method_1_code
def yX4_init : MethodName := ⟨RX4, "<init>", "()V"⟩
abbrev cX4_heightOf : ByteArray := prog_6_method_2_code
def yX4_heightOf : MethodName := ⟨RX4, "heightOf", "(I)I"⟩
abbrev cX4_frameAt : ByteArray := prog_6_method_3_code
def yX4_frameAt : MethodName := ⟨RX4, "frameAt", "(II)LRingGates$Frame;"⟩
abbrev cX4_latestOf : ByteArray := prog_6_method_4_code
def yX4_latestOf : MethodName := ⟨RX4, "latestOf", "(I)LRingGates$Frame;"⟩
abbrev cX4_push : ByteArray := prog_6_method_5_code
def yX4_push : MethodName := ⟨RX4, "push", "(ILRingGates$Frame;)Z"⟩
abbrev cX4_pop : ByteArray := prog_6_method_6_code
def yX4_pop : MethodName := ⟨RX4, "pop", "(I)V"⟩
abbrev cX4_framesOfAll : ByteArray := prog_6_method_7_code
def yX4_framesOfAll : MethodName := ⟨RX4, "framesOfAll", "()I"⟩
abbrev cX4_clear : ByteArray := prog_6_method_8_code
def yX4_clear : MethodName := ⟨RX4, "clear", "()V"⟩
abbrev cX4_copyFrom : ByteArray := prog_6_method_9_code
def yX4_copyFrom : MethodName := ⟨RX4, "copyFrom", "(LRingGates$Stacks;)V"⟩
def RX5 : String := "RingGates$Text"
def TX5 : u_T := fun k => match k with
  | 0 => ("RingGates$Text", "bytes", "[I", true)
  | 1 => ("RingGates$Text", "length", "I", false)
  | 2 => ("RingGates$Text", "words", "I", false)
  | 3 => ("RingGates$Text", "kinds", "[I", true)
  | 4 => ("RingGates$Text", "values", "[I", true)
  | 5 => ("RingGates$Text", "parts", "[I", true)
  | 6 => ("RingGates$Text", "at", "I", false)
  | _ => ("RingGates$Text", "fault", "I", false)
def tyX5 : Nat → FieldType := fun k => match k with
  | 0 => .array .int
  | 1 => .int
  | 2 => .int
  | 3 => .array .int
  | 4 => .array .int
  | 5 => .array .int
  | 6 => .int
  | _ => .int
abbrev wsX50 : List Cond := u_ws RX5 TX5 8
theorem nmX5 : ∀ a, a < 8 → ∀ b, b < 8 → a ≠ b → (TX5 a).2.1 ≠ (TX5 b).2.1 := by decide +kernel
theorem tyX5_ok : ∀ k, k < 8 → parseFieldDescriptor (TX5 k).2.2.1 = some (tyX5 k) := by decide +kernel
abbrev cX5_init : ByteArray := prog_7_method_1_code
def yX5_init : MethodName := ⟨RX5, "<init>", "()V"⟩
abbrev cX5_append : ByteArray := prog_7_method_2_code
def yX5_append : MethodName := ⟨RX5, "append", "(I)Z"⟩
abbrev cX5_kindOf : ByteArray := prog_7_method_3_code
def yX5_kindOf : MethodName := ⟨RX5, "kindOf", "(I)I"⟩
abbrev cX5_valueOf : ByteArray := prog_7_method_4_code
def yX5_valueOf : MethodName := ⟨RX5, "valueOf", "(I)I"⟩
abbrev cX5_read : ByteArray := prog_7_method_5_code
def yX5_read : MethodName := ⟨RX5, "read", "()V"⟩
abbrev cX5_readLine : ByteArray := prog_7_method_6_code
def yX5_readLine : MethodName := ⟨RX5, "readLine", "()V"⟩
abbrev cX5_tellWord : ByteArray := prog_7_method_7_code
def yX5_tellWord : MethodName := ⟨RX5, "tellWord", "(II)V"⟩
abbrev cX5_tell : ByteArray := prog_7_method_8_code
def yX5_tell : MethodName := ⟨RX5, "tell", "(II)V"⟩
abbrev cX5_byteAt : ByteArray := prog_7_method_9_code
def yX5_byteAt : MethodName := ⟨RX5, "byteAt", "(I)I"⟩
abbrev cX5_isLineEnd : ByteArray := prog_7_method_10_code
def yX5_isLineEnd : MethodName := ⟨RX5, "isLineEnd", "()Z"⟩
abbrev cX5_isLetter : ByteArray := prog_7_method_11_code
def yX5_isLetter : MethodName := ⟨RX5, "isLetter", "(I)Z"⟩
abbrev cX5_isDigit : ByteArray := prog_7_method_12_code
def yX5_isDigit : MethodName := ⟨RX5, "isDigit", "(I)Z"⟩
abbrev cX5_readWord : ByteArray := prog_7_method_13_code
def yX5_readWord : MethodName := ⟨RX5, "readWord", "()I"⟩
abbrev cX5_isSpelled : ByteArray := prog_7_method_14_code
def yX5_isSpelled : MethodName := ⟨RX5, "isSpelled", "(Ljava/lang/String;I)Z"⟩
abbrev cX5_readBlank : ByteArray := prog_7_method_15_code
def yX5_readBlank : MethodName := ⟨RX5, "readBlank", "()V"⟩
abbrev cX5_readPart : ByteArray := prog_7_method_16_code
def yX5_readPart : MethodName := ⟨RX5, "readPart", "(C)I"⟩
abbrev cX5_readSigned : ByteArray := prog_7_method_17_code
def yX5_readSigned : MethodName := ⟨RX5, "readSigned", "()I"⟩
abbrev cX5_readNumber : ByteArray := prog_7_method_18_code
def yX5_readNumber : MethodName := ⟨RX5, "readNumber", "(II)I"⟩
abbrev cX5_readName : ByteArray := prog_7_method_19_code
def yX5_readName : MethodName := ⟨RX5, "readName", "()I"⟩
abbrev cX5_spellingOf : ByteArray := prog_7_method_20_code
def yX5_spellingOf : MethodName := ⟨RX5, "spellingOf", "(I)Ljava/lang/String;"⟩
abbrev cX5_partsOf : ByteArray := prog_7_method_21_code
def yX5_partsOf : MethodName := ⟨RX5, "partsOf", "(I)Ljava/lang/String;"⟩
def RX6 : String := "RingGates$World"
def TX6 : u_T := fun k => match k with
  | 0 => ("RingGates$World", "directories", "I", false)
  | 1 => ("RingGates$World", "aboves", "[I", true)
  | 2 => ("RingGates$World", "quotas", "[I", true)
  | 3 => ("RingGates$World", "rules", "I", false)
  | 4 => ("RingGates$World", "ruleRow", "[I", true)
  | 5 => ("RingGates$World", "made", "I", false)
  | _ => ("RingGates$World", "segments", "[LRingGates$Segment;", true)
def tyX6 : Nat → FieldType := fun k => match k with
  | 0 => .int
  | 1 => .array .int
  | 2 => .array .int
  | 3 => .int
  | 4 => .array .int
  | 5 => .int
  | _ => .array (.object "RingGates$Segment")
abbrev wsX60 : List Cond := u_ws RX6 TX6 7
theorem nmX6 : ∀ a, a < 7 → ∀ b, b < 7 → a ≠ b → (TX6 a).2.1 ≠ (TX6 b).2.1 := by decide +kernel
theorem tyX6_ok : ∀ k, k < 7 → parseFieldDescriptor (TX6 k).2.2.1 = some (tyX6 k) := by decide +kernel
abbrev cX6_init : ByteArray := prog_8_method_1_code
def yX6_init : MethodName := ⟨RX6, "<init>", "()V"⟩
abbrev cX6_hasDirectory : ByteArray := prog_8_method_2_code
def yX6_hasDirectory : MethodName := ⟨RX6, "hasDirectory", "(I)Z"⟩
abbrev cX6_aboveOf : ByteArray := prog_8_method_3_code
def yX6_aboveOf : MethodName := ⟨RX6, "aboveOf", "(I)I"⟩
abbrev cX6_quotaOf : ByteArray := prog_8_method_4_code
def yX6_quotaOf : MethodName := ⟨RX6, "quotaOf", "(I)I"⟩
abbrev cX6_addQuota : ByteArray := prog_8_method_5_code
def yX6_addQuota : MethodName := ⟨RX6, "addQuota", "(II)V"⟩
abbrev cX6_makeDirectory : ByteArray := prog_8_method_6_code
def yX6_makeDirectory : MethodName := ⟨RX6, "makeDirectory", "(I)I"⟩
abbrev cX6_addRule : ByteArray := prog_8_method_7_code
def yX6_addRule : MethodName := ⟨RX6, "addRule", "(I)I"⟩
abbrev cX6_find : ByteArray := prog_8_method_8_code
def yX6_find : MethodName := ⟨RX6, "find", "(I)LRingGates$Segment;"⟩
abbrev cX6_leastFree : ByteArray := prog_8_method_9_code
def yX6_leastFree : MethodName := ⟨RX6, "leastFree", "()I"⟩
abbrev cX6_makeSegment : ByteArray := prog_8_method_10_code
def yX6_makeSegment : MethodName := ⟨RX6, "makeSegment", "(IIII)V"⟩
abbrev cX6_cellFrom : ByteArray := prog_8_method_11_code
def yX6_cellFrom : MethodName := ⟨RX6, "cellFrom", "(I)I"⟩
abbrev cX6_usedOf : ByteArray := prog_8_method_12_code
def yX6_usedOf : MethodName := ⟨RX6, "usedOf", "(I)I"⟩
abbrev cX6_hasRoom : ByteArray := prog_8_method_13_code
def yX6_hasRoom : MethodName := ⟨RX6, "hasRoom", "(II)Z"⟩
abbrev cX6_moveQuota : ByteArray := prog_8_method_14_code
def yX6_moveQuota : MethodName := ⟨RX6, "moveQuota", "(II)I"⟩
abbrev cX6_isAnyOverfull : ByteArray := prog_8_method_15_code
def yX6_isAnyOverfull : MethodName := ⟨RX6, "isAnyOverfull", "()Z"⟩
abbrev cX6_segmentsIn : ByteArray := prog_8_method_16_code
def yX6_segmentsIn : MethodName := ⟨RX6, "segmentsIn", "(I)I"⟩
abbrev cX6_named : ByteArray := prog_8_method_17_code
def yX6_named : MethodName := ⟨RX6, "named", "(II)I"⟩
abbrev cX6_seek : ByteArray := prog_8_method_18_code
def yX6_seek : MethodName := ⟨RX6, "seek", "(LRingGates$Segment;I)I"⟩
abbrev cX6_ringEntered : ByteArray := prog_8_method_19_code
def yX6_ringEntered : MethodName := ⟨RX6, "ringEntered", "(III)I"⟩
abbrev cX6_reachedByOneCall : ByteArray := prog_8_method_20_code
def yX6_reachedByOneCall : MethodName := ⟨RX6, "reachedByOneCall", "(I)I"⟩
abbrev cX6_staleIn : ByteArray := prog_8_method_21_code
def yX6_staleIn : MethodName := ⟨RX6, "staleIn", "(LRingGates$Segment;)I"⟩
abbrev cX6_segmentsThere : ByteArray := prog_8_method_22_code
def yX6_segmentsThere : MethodName := ⟨RX6, "segmentsThere", "()I"⟩
abbrev cX6_cells : ByteArray := prog_8_method_23_code
def yX6_cells : MethodName := ⟨RX6, "cells", "()I"⟩
abbrev cX6_quotaOfAll : ByteArray := prog_8_method_24_code
def yX6_quotaOfAll : MethodName := ⟨RX6, "quotaOfAll", "()I"⟩
abbrev cX6_recordsOfAll : ByteArray := prog_8_method_25_code
def yX6_recordsOfAll : MethodName := ⟨RX6, "recordsOfAll", "()I"⟩
abbrev cX6_snappedOfAll : ByteArray := prog_8_method_26_code
def yX6_snappedOfAll : MethodName := ⟨RX6, "snappedOfAll", "()I"⟩
abbrev cX6_copyFrom : ByteArray := prog_8_method_27_code
def yX6_copyFrom : MethodName := ⟨RX6, "copyFrom", "(LRingGates$World;)V"⟩
def RX7 : String := "RingGates"
def TX7 : u_T := fun k => match k with
  | 0 => ("RingGates", "now", "LRingGates$Machine;", true)
  | 1 => ("RingGates", "kept", "LRingGates$Machine;", true)
  | 2 => ("RingGates", "thought", "LRingGates$Machine;", true)
  | 3 => ("RingGates", "tape", "LRingGates$Text;", true)
  | 4 => ("RingGates", "isKept", "Z", false)
  | _ => ("RingGates", "latestWhy", "I", false)
def tyX7 : Nat → FieldType := fun k => match k with
  | 0 => .object "RingGates$Machine"
  | 1 => .object "RingGates$Machine"
  | 2 => .object "RingGates$Machine"
  | 3 => .object "RingGates$Text"
  | 4 => .boolean
  | _ => .int
abbrev wsX70 : List Cond := u_ws RX7 TX7 6
theorem nmX7 : ∀ a, a < 6 → ∀ b, b < 6 → a ≠ b → (TX7 a).2.1 ≠ (TX7 b).2.1 := by decide +kernel
theorem tyX7_ok : ∀ k, k < 6 → parseFieldDescriptor (TX7 k).2.2.1 = some (tyX7 k) := by decide +kernel
abbrev cX7_init : ByteArray := prog_1_method_1_code
def yX7_init : MethodName := ⟨RX7, "<init>", "()V"⟩
abbrev cX7_directory : ByteArray := prog_1_method_2_code
def yX7_directory : MethodName := ⟨RX7, "directory", "(I)I"⟩
abbrev cX7_segment : ByteArray := prog_1_method_3_code
def yX7_segment : MethodName := ⟨RX7, "segment", "(III)I"⟩
abbrev cX7_drop : ByteArray := prog_1_method_4_code
def yX7_drop : MethodName := ⟨RX7, "drop", "(I)I"⟩
abbrev cX7_resize : ByteArray := prog_1_method_5_code
def yX7_resize : MethodName := ⟨RX7, "resize", "(II)I"⟩
abbrev cX7_rename : ByteArray := prog_1_method_6_code
def yX7_rename : MethodName := ⟨RX7, "rename", "(II)I"⟩
abbrev cX7_brackets : ByteArray := prog_1_method_7_code
def yX7_brackets : MethodName := ⟨RX7, "brackets", "(II)I"⟩
abbrev cX7_set : ByteArray := prog_1_method_8_code
def yX7_set : MethodName := ⟨RX7, "set", "(III)I"⟩
abbrev cX7_quota : ByteArray := prog_1_method_9_code
def yX7_quota : MethodName := ⟨RX7, "quota", "(II)I"⟩
abbrev cX7_cell : ByteArray := prog_1_method_10_code
def yX7_cell : MethodName := ⟨RX7, "cell", "(II)I"⟩
abbrev cX7_of : ByteArray := prog_1_method_11_code
def yX7_of : MethodName := ⟨RX7, "of", "(II)I"⟩
abbrev cX7_rule : ByteArray := prog_1_method_12_code
def yX7_rule : MethodName := ⟨RX7, "rule", "(I)I"⟩
abbrev cX7_lookup : ByteArray := prog_1_method_13_code
def yX7_lookup : MethodName := ⟨RX7, "lookup", "(II)I"⟩
abbrev cX7_number : ByteArray := prog_1_method_14_code
def yX7_number : MethodName := ⟨RX7, "number", "(III)I"⟩
abbrev cX7_pointer : ByteArray := prog_1_method_15_code
def yX7_pointer : MethodName := ⟨RX7, "pointer", "(IIIZ)I"⟩
abbrev cX7_link : ByteArray := prog_1_method_16_code
def yX7_link : MethodName := ⟨RX7, "link", "(IIII)I"⟩
abbrev cX7_act : ByteArray := prog_1_method_17_code
def yX7_act : MethodName := ⟨RX7, "act", "(IIIII)I"⟩
abbrev cX7_word : ByteArray := prog_1_method_18_code
def yX7_word : MethodName := ⟨RX7, "word", "(III)I"⟩
abbrev cX7_feed : ByteArray := prog_1_method_19_code
def yX7_feed : MethodName := ⟨RX7, "feed", "(I)I"⟩
abbrev cX7_load : ByteArray := prog_1_method_20_code
def yX7_load : MethodName := ⟨RX7, "load", "(II)I"⟩
abbrev cX7_unsnap : ByteArray := prog_1_method_21_code
def yX7_unsnap : MethodName := ⟨RX7, "unsnap", "(I)I"⟩
abbrev cX7_start : ByteArray := prog_1_method_22_code
def yX7_start : MethodName := ⟨RX7, "start", "(III)I"⟩
abbrev cX7_run : ByteArray := prog_1_method_23_code
def yX7_run : MethodName := ⟨RX7, "run", "(I)I"⟩
abbrev cX7_why : ByteArray := prog_1_method_24_code
def yX7_why : MethodName := ⟨RX7, "why", "()I"⟩
abbrev cX7_machine : ByteArray := prog_1_method_25_code
def yX7_machine : MethodName := ⟨RX7, "machine", "(I)I"⟩
abbrev cX7_frame : ByteArray := prog_1_method_26_code
def yX7_frame : MethodName := ⟨RX7, "frame", "(III)I"⟩
abbrev cX7_dry : ByteArray := prog_1_method_27_code
def yX7_dry : MethodName := ⟨RX7, "dry", "(II)I"⟩
abbrev cX7_operand : ByteArray := prog_1_method_28_code
def yX7_operand : MethodName := ⟨RX7, "operand", "(IIII)I"⟩
abbrev cX7_enters : ByteArray := prog_1_method_29_code
def yX7_enters : MethodName := ⟨RX7, "enters", "(III)I"⟩
abbrev cX7_access : ByteArray := prog_1_method_30_code
def yX7_access : MethodName := ⟨RX7, "access", "(II)I"⟩
abbrev cX7_ways : ByteArray := prog_1_method_31_code
def yX7_ways : MethodName := ⟨RX7, "ways", "(II)I"⟩
abbrev cX7_stale : ByteArray := prog_1_method_32_code
def yX7_stale : MethodName := ⟨RX7, "stale", "()I"⟩
abbrev cX7_drawn : ByteArray := prog_1_method_33_code
def yX7_drawn : MethodName := ⟨RX7, "drawn", "(II)I"⟩
abbrev cX7_image : ByteArray := prog_1_method_34_code
def yX7_image : MethodName := ⟨RX7, "image", "()I"⟩
abbrev cX7_back : ByteArray := prog_1_method_35_code
def yX7_back : MethodName := ⟨RX7, "back", "()I"⟩
abbrev cX7_count : ByteArray := prog_1_method_36_code
def yX7_count : MethodName := ⟨RX7, "count", "(I)I"⟩
abbrev cX7_isBelow : ByteArray := prog_1_method_37_code
def yX7_isBelow : MethodName := ⟨RX7, "isBelow", "(II)Z"⟩
abbrev cX7_recordsOf : ByteArray := prog_1_method_38_code
def yX7_recordsOf : MethodName := ⟨RX7, "recordsOf", "(I)I"⟩
abbrev cX7_segmentIn : ByteArray := prog_1_method_39_code
def yX7_segmentIn : MethodName := ⟨RX7, "segmentIn", "(I)I"⟩
abbrev cX7_ringIn : ByteArray := prog_1_method_40_code
def yX7_ringIn : MethodName := ⟨RX7, "ringIn", "(I)I"⟩
abbrev cX7_wordIn : ByteArray := prog_1_method_41_code
def yX7_wordIn : MethodName := ⟨RX7, "wordIn", "(I)I"⟩
abbrev cX7_write : ByteArray := prog_1_method_42_code
def yX7_write : MethodName := ⟨RX7, "write", "(LRingGates$Segment;III)I"⟩
abbrev cX7_isGranted : ByteArray := prog_1_method_43_code
def yX7_isGranted : MethodName := ⟨RX7, "isGranted", "(LRingGates$Segment;II)Z"⟩
abbrev cX7_lowestBit : ByteArray := prog_1_method_44_code
def yX7_lowestBit : MethodName := ⟨RX7, "lowestBit", "(I)I"⟩
abbrev cX7_copyNumbers : ByteArray := prog_1_method_45_code
def yX7_copyNumbers : MethodName := ⟨RX7, "copyNumbers", "([I[I)V"⟩
def RX8 : String := "RingGatesModel"
def TX8 : u_T := fun k => match k with
  | 0 => ("RingGatesModel", "now", "[I", true)
  | 1 => ("RingGatesModel", "then", "[I", true)
  | 2 => ("RingGatesModel", "kept", "[I", true)
  | 3 => ("RingGatesModel", "hasImage", "Z", false)
  | 4 => ("RingGatesModel", "why", "I", false)
  | 5 => ("RingGatesModel", "tape", "[I", true)
  | 6 => ("RingGatesModel", "taped", "I", false)
  | 7 => ("RingGatesModel", "length", "I", false)
  | 8 => ("RingGatesModel", "place", "I", false)
  | 9 => ("RingGatesModel", "fault", "I", false)
  | 10 => ("RingGatesModel", "lines", "[I", true)
  | 11 => ("RingGatesModel", "lineMany", "I", false)
  | 12 => ("RingGatesModel", "acts", "[Ljava/lang/String;", true)
  | 13 => ("RingGatesModel", "e", "I", false)
  | 14 => ("RingGatesModel", "segmentCame", "I", false)
  | 15 => ("RingGatesModel", "wordCame", "I", false)
  | 16 => ("RingGatesModel", "given", "[I", true)
  | _ => ("RingGatesModel", "whyThen", "I", false)
def tyX8 : Nat → FieldType := fun k => match k with
  | 0 => .array .int
  | 1 => .array .int
  | 2 => .array .int
  | 3 => .boolean
  | 4 => .int
  | 5 => .array .int
  | 6 => .int
  | 7 => .int
  | 8 => .int
  | 9 => .int
  | 10 => .array .int
  | 11 => .int
  | 12 => .array (.object "java/lang/String")
  | 13 => .int
  | 14 => .int
  | 15 => .int
  | 16 => .array .int
  | _ => .int
abbrev wsX80 : List Cond := u_ws RX8 TX8 18
theorem nmX8 : ∀ a, a < 18 → ∀ b, b < 18 → a ≠ b → (TX8 a).2.1 ≠ (TX8 b).2.1 := by decide +kernel
theorem tyX8_ok : ∀ k, k < 18 → parseFieldDescriptor (TX8 k).2.2.1 = some (tyX8 k) := by decide +kernel
abbrev cX8_init : ByteArray := prog_10_method_1_code
def yX8_init : MethodName := ⟨RX8, "<init>", "()V"⟩
abbrev cX8_in : ByteArray := prog_10_method_2_code
def yX8_in : MethodName := ⟨RX8, "in", "(JJJ)Z"⟩
abbrev cX8_copies : ByteArray := prog_10_method_3_code
def yX8_copies : MethodName := ⟨RX8, "copies", "([I[I)V"⟩
abbrev cX8_isDirectory : ByteArray := prog_10_method_4_code
def yX8_isDirectory : MethodName := ⟨RX8, "isDirectory", "(I)Z"⟩
abbrev cX8_isThere : ByteArray := prog_10_method_5_code
def yX8_isThere : MethodName := ⟨RX8, "isThere", "([II)Z"⟩
abbrev cX8_isSegment : ByteArray := prog_10_method_6_code
def yX8_isSegment : MethodName := ⟨RX8, "isSegment", "(I)Z"⟩
abbrev cX8_cellOf : ByteArray := prog_10_method_7_code
def yX8_cellOf : MethodName := ⟨RX8, "cellOf", "([II)I"⟩
abbrev cX8_records : ByteArray := prog_10_method_8_code
def yX8_records : MethodName := ⟨RX8, "records", "(I)I"⟩
abbrev cX8_used : ByteArray := prog_10_method_9_code
def yX8_used : MethodName := ⟨RX8, "used", "([II)I"⟩
abbrev cX8_isWithin : ByteArray := prog_10_method_10_code
def yX8_isWithin : MethodName := ⟨RX8, "isWithin", "([I)Z"⟩
abbrev cX8_directory : ByteArray := prog_10_method_11_code
def yX8_directory : MethodName := ⟨RX8, "directory", "(I)I"⟩
abbrev cX8_named : ByteArray := prog_10_method_12_code
def yX8_named : MethodName := ⟨RX8, "named", "(II)I"⟩
abbrev cX8_hasRoom : ByteArray := prog_10_method_13_code
def yX8_hasRoom : MethodName := ⟨RX8, "hasRoom", "(II)Z"⟩
abbrev cX8_segment : ByteArray := prog_10_method_14_code
def yX8_segment : MethodName := ⟨RX8, "segment", "(III)I"⟩
abbrev cX8_drop : ByteArray := prog_10_method_15_code
def yX8_drop : MethodName := ⟨RX8, "drop", "(I)I"⟩
abbrev cX8_resize : ByteArray := prog_10_method_16_code
def yX8_resize : MethodName := ⟨RX8, "resize", "(II)I"⟩
abbrev cX8_rename : ByteArray := prog_10_method_17_code
def yX8_rename : MethodName := ⟨RX8, "rename", "(II)I"⟩
abbrev cX8_brackets : ByteArray := prog_10_method_18_code
def yX8_brackets : MethodName := ⟨RX8, "brackets", "(II)I"⟩
abbrev cX8_set : ByteArray := prog_10_method_19_code
def yX8_set : MethodName := ⟨RX8, "set", "(III)I"⟩
abbrev cX8_quota : ByteArray := prog_10_method_20_code
def yX8_quota : MethodName := ⟨RX8, "quota", "(II)I"⟩
abbrev cX8_segmentsIn : ByteArray := prog_10_method_21_code
def yX8_segmentsIn : MethodName := ⟨RX8, "segmentsIn", "(I)I"⟩
abbrev cX8_cell : ByteArray := prog_10_method_22_code
def yX8_cell : MethodName := ⟨RX8, "cell", "(II)I"⟩
abbrev cX8_of : ByteArray := prog_10_method_23_code
def yX8_of : MethodName := ⟨RX8, "of", "(II)I"⟩
abbrev cX8_rule : ByteArray := prog_10_method_24_code
def yX8_rule : MethodName := ⟨RX8, "rule", "(I)I"⟩
abbrev cX8_found : ByteArray := prog_10_method_25_code
def yX8_found : MethodName := ⟨RX8, "found", "([III)I"⟩
abbrev cX8_lookup : ByteArray := prog_10_method_26_code
def yX8_lookup : MethodName := ⟨RX8, "lookup", "(II)I"⟩
abbrev cX8_writes : ByteArray := prog_10_method_27_code
def yX8_writes : MethodName := ⟨RX8, "writes", "([IIIIIIIII)V"⟩
abbrev cX8_told : ByteArray := prog_10_method_28_code
def yX8_told : MethodName := ⟨RX8, "told", "([IIII)I"⟩
abbrev cX8_isWord : ByteArray := prog_10_method_29_code
def yX8_isWord : MethodName := ⟨RX8, "isWord", "(II)Z"⟩
abbrev cX8_becomes : ByteArray := prog_10_method_30_code
def yX8_becomes : MethodName := ⟨RX8, "becomes", "(IIIIII)I"⟩
abbrev cX8_number : ByteArray := prog_10_method_31_code
def yX8_number : MethodName := ⟨RX8, "number", "(III)I"⟩
abbrev cX8_isPointer : ByteArray := prog_10_method_32_code
def yX8_isPointer : MethodName := ⟨RX8, "isPointer", "(I)Z"⟩
abbrev cX8_pointer : ByteArray := prog_10_method_33_code
def yX8_pointer : MethodName := ⟨RX8, "pointer", "(IIIZ)I"⟩
abbrev cX8_link : ByteArray := prog_10_method_34_code
def yX8_link : MethodName := ⟨RX8, "link", "(IIII)I"⟩
abbrev cX8_act : ByteArray := prog_10_method_35_code
def yX8_act : MethodName := ⟨RX8, "act", "(IIIII)I"⟩
abbrev cX8_toldOf : ByteArray := prog_10_method_36_code
def yX8_toldOf : MethodName := ⟨RX8, "toldOf", "(II)I"⟩
abbrev cX8_word : ByteArray := prog_10_method_37_code
def yX8_word : MethodName := ⟨RX8, "word", "(III)I"⟩
abbrev cX8_unsnap : ByteArray := prog_10_method_38_code
def yX8_unsnap : MethodName := ⟨RX8, "unsnap", "(I)I"⟩
abbrev cX8_feed : ByteArray := prog_10_method_39_code
def yX8_feed : MethodName := ⟨RX8, "feed", "(I)I"⟩
abbrev cX8_byteAt : ByteArray := prog_10_method_40_code
def yX8_byteAt : MethodName := ⟨RX8, "byteAt", "(I)I"⟩
abbrev cX8_many : ByteArray := prog_10_method_41_code
def yX8_many : MethodName := ⟨RX8, "many", "(III)I"⟩
abbrev cX8_is : ByteArray := prog_10_method_42_code
def yX8_is : MethodName := ⟨RX8, "is", "(IILjava/lang/String;)Z"⟩
abbrev cX8_stops : ByteArray := prog_10_method_43_code
def yX8_stops : MethodName := ⟨RX8, "stops", "()Z"⟩
abbrev cX8_sign : ByteArray := prog_10_method_44_code
def yX8_sign : MethodName := ⟨RX8, "sign", "(I)Z"⟩
abbrev cX8_digits : ByteArray := prog_10_method_45_code
def yX8_digits : MethodName := ⟨RX8, "digits", "(II)Z"⟩
abbrev cX8_value : ByteArray := prog_10_method_46_code
def yX8_value : MethodName := ⟨RX8, "value", "()Z"⟩
abbrev cX8_letter : ByteArray := prog_10_method_47_code
def yX8_letter : MethodName := ⟨RX8, "letter", "()Z"⟩
abbrev cX8_actLine : ByteArray := prog_10_method_48_code
def yX8_actLine : MethodName := ⟨RX8, "actLine", "(II)Z"⟩
abbrev cX8_line : ByteArray := prog_10_method_49_code
def yX8_line : MethodName := ⟨RX8, "line", "()Z"⟩
abbrev cX8_isText : ByteArray := prog_10_method_50_code
def yX8_isText : MethodName := ⟨RX8, "isText", "()Z"⟩
abbrev cX8_load : ByteArray := prog_10_method_51_code
def yX8_load : MethodName := ⟨RX8, "load", "(II)I"⟩
abbrev cX8_mayRead : ByteArray := prog_10_method_52_code
def yX8_mayRead : MethodName := ⟨RX8, "mayRead", "([III)Z"⟩
abbrev cX8_mayWrite : ByteArray := prog_10_method_53_code
def yX8_mayWrite : MethodName := ⟨RX8, "mayWrite", "([III)Z"⟩
abbrev cX8_mayGo : ByteArray := prog_10_method_54_code
def yX8_mayGo : MethodName := ⟨RX8, "mayGo", "([III)Z"⟩
abbrev cX8_there : ByteArray := prog_10_method_55_code
def yX8_there : MethodName := ⟨RX8, "there", "([III)I"⟩
abbrev cX8_comes : ByteArray := prog_10_method_56_code
def yX8_comes : MethodName := ⟨RX8, "comes", "([IIII)I"⟩
abbrev cX8_through : ByteArray := prog_10_method_57_code
def yX8_through : MethodName := ⟨RX8, "through", "([II)I"⟩
abbrev cX8_numberAt : ByteArray := prog_10_method_58_code
def yX8_numberAt : MethodName := ⟨RX8, "numberAt", "([IIII)I"⟩
abbrev cX8_putAt : ByteArray := prog_10_method_59_code
def yX8_putAt : MethodName := ⟨RX8, "putAt", "([IIII)I"⟩
abbrev cX8_frameAt : ByteArray := prog_10_method_60_code
def yX8_frameAt : MethodName := ⟨RX8, "frameAt", "(II)I"⟩
abbrev cX8_entered : ByteArray := prog_10_method_61_code
def yX8_entered : MethodName := ⟨RX8, "entered", "([IIII)I"⟩
abbrev cX8_calls : ByteArray := prog_10_method_62_code
def yX8_calls : MethodName := ⟨RX8, "calls", "([IIIII)I"⟩
abbrev cX8_backs : ByteArray := prog_10_method_63_code
def yX8_backs : MethodName := ⟨RX8, "backs", "([I)I"⟩
abbrev cX8_argument : ByteArray := prog_10_method_64_code
def yX8_argument : MethodName := ⟨RX8, "argument", "([IIZ)I"⟩
abbrev cX8_moves : ByteArray := prog_10_method_65_code
def yX8_moves : MethodName := ⟨RX8, "moves", "([IIII)I"⟩
abbrev cX8_steps : ByteArray := prog_10_method_66_code
def yX8_steps : MethodName := ⟨RX8, "steps", "([I)I"⟩
abbrev cX8_runs : ByteArray := prog_10_method_67_code
def yX8_runs : MethodName := ⟨RX8, "runs", "([II)I"⟩
abbrev cX8_start : ByteArray := prog_10_method_68_code
def yX8_start : MethodName := ⟨RX8, "start", "(III)I"⟩
abbrev cX8_run : ByteArray := prog_10_method_69_code
def yX8_run : MethodName := ⟨RX8, "run", "(I)I"⟩
abbrev cX8_why : ByteArray := prog_10_method_70_code
def yX8_why : MethodName := ⟨RX8, "why", "()I"⟩
abbrev cX8_machine : ByteArray := prog_10_method_71_code
def yX8_machine : MethodName := ⟨RX8, "machine", "(I)I"⟩
abbrev cX8_frame : ByteArray := prog_10_method_72_code
def yX8_frame : MethodName := ⟨RX8, "frame", "(III)I"⟩
abbrev cX8_dry : ByteArray := prog_10_method_73_code
def yX8_dry : MethodName := ⟨RX8, "dry", "(II)I"⟩
abbrev cX8_operand : ByteArray := prog_10_method_74_code
def yX8_operand : MethodName := ⟨RX8, "operand", "(IIII)I"⟩
abbrev cX8_enters : ByteArray := prog_10_method_75_code
def yX8_enters : MethodName := ⟨RX8, "enters", "(III)I"⟩
abbrev cX8_access : ByteArray := prog_10_method_76_code
def yX8_access : MethodName := ⟨RX8, "access", "(II)I"⟩
abbrev cX8_further : ByteArray := prog_10_method_77_code
def yX8_further : MethodName := ⟨RX8, "further", "(I)I"⟩
abbrev cX8_ways : ByteArray := prog_10_method_78_code
def yX8_ways : MethodName := ⟨RX8, "ways", "(II)I"⟩
abbrev cX8_snapped : ByteArray := prog_10_method_79_code
def yX8_snapped : MethodName := ⟨RX8, "snapped", "(Z)I"⟩
abbrev cX8_stale : ByteArray := prog_10_method_80_code
def yX8_stale : MethodName := ⟨RX8, "stale", "()I"⟩
abbrev cX8_drawn : ByteArray := prog_10_method_81_code
def yX8_drawn : MethodName := ⟨RX8, "drawn", "(II)I"⟩
abbrev cX8_segments : ByteArray := prog_10_method_82_code
def yX8_segments : MethodName := ⟨RX8, "segments", "()I"⟩
abbrev cX8_image : ByteArray := prog_10_method_83_code
def yX8_image : MethodName := ⟨RX8, "image", "()I"⟩
abbrev cX8_back : ByteArray := prog_10_method_84_code
def yX8_back : MethodName := ⟨RX8, "back", "()I"⟩
abbrev cX8_recordsAll : ByteArray := prog_10_method_85_code
def yX8_recordsAll : MethodName := ⟨RX8, "recordsAll", "()I"⟩
abbrev cX8_cells : ByteArray := prog_10_method_86_code
def yX8_cells : MethodName := ⟨RX8, "cells", "(Z)I"⟩
abbrev cX8_count : ByteArray := prog_10_method_87_code
def yX8_count : MethodName := ⟨RX8, "count", "(I)I"⟩
def RJ9 : String := "java/lang/Math"
abbrev cJ9_max_7cf53 : ByteArray := prog_11_method_65_code
def yJ9_max_7cf53 : MethodName := ⟨RJ9, "max", "(II)I"⟩
abbrev cJ9_min_7cf53 : ByteArray := prog_11_method_69_code
def yJ9_min_7cf53 : MethodName := ⟨RJ9, "min", "(II)I"⟩
def RJ0 : String := "java/lang/String"
abbrev cJ0_length_8abf5 : ByteArray := prog_12_method_54_code
def yJ0_length_8abf5 : MethodName := ⟨RJ0, "length", "()I"⟩
abbrev cJ0_charAt_5068e : ByteArray := prog_12_method_56_code
def yJ0_charAt_5068e : MethodName := ⟨RJ0, "charAt", "(I)C"⟩
abbrev cJ0_coder_7d493 : ByteArray := prog_12_method_152_code
def yJ0_coder_7d493 : MethodName := ⟨RJ0, "coder", "()B"⟩
abbrev cJ0_isLatin1_aae02 : ByteArray := prog_12_method_154_code
def yJ0_isLatin1_aae02 : MethodName := ⟨RJ0, "isLatin1", "()Z"⟩
abbrev cJ0_checkIndex_df160 : ByteArray := prog_12_method_155_code
def yJ0_checkIndex_df160 : MethodName := ⟨RJ0, "checkIndex", "(II)V"⟩
def RJ1 : String := "java/lang/StringLatin1"
abbrev cJ1_charAt_3b067 : ByteArray := prog_13_method_2_code
def yJ1_charAt_3b067 : MethodName := ⟨RJ1, "charAt", "([BI)C"⟩
def RJ2 : String := "java/lang/StringUTF16"
abbrev cJ2_getChar_3b067 : ByteArray := prog_14_method_5_code
def yJ2_getChar_3b067 : MethodName := ⟨RJ2, "getChar", "([BI)C"⟩
abbrev cJ2_length_9d52b : ByteArray := prog_14_method_6_code
def yJ2_length_9d52b : MethodName := ⟨RJ2, "length", "([B)I"⟩
abbrev cJ2_charAt_3b067 : ByteArray := prog_14_method_83_code
def yJ2_charAt_3b067 : MethodName := ⟨RJ2, "charAt", "([BI)C"⟩
abbrev cJ2_checkIndex_2214a : ByteArray := prog_14_method_91_code
def yJ2_checkIndex_2214a : MethodName := ⟨RJ2, "checkIndex", "(I[B)V"⟩
def RJ3 : String := "jdk/internal/util/Preconditions"
abbrev cJ3_checkIndex_8e157 : ByteArray := prog_15_method_11_code
def yJ3_checkIndex_8e157 : MethodName := ⟨RJ3, "checkIndex", "(IILjava/util/function/BiFunction;)I"⟩
def RL : String := "RingGatesLaw"
abbrev vcl : List vw_C := [(RX0, TX0, 5), (RX1, TX1, 6), (RX2, TX2, 12), (RX3, TX3, 13), (RX4, TX4, 2), (RX5, TX5, 8), (RX6, TX6, 7), (RX7, TX7, 6), (RX8, TX8, 18)]
def vtb : List Cond := lw_tbl.filter goodWord
theorem vtb_m {w : Cond} (i : Nat) (h : tables_1[i]? = some w) (hg : goodWord w = true) : w ∈ vtb := List.mem_filter.mpr ⟨List.mem_append_right _ (List.mem_of_getElem? h), hg⟩
theorem vtb_s {w : Cond} (i : Nat) (h : (k2_sels lw_privs)[i]? = some w) (hg : goodWord w = true) : w ∈ vtb := List.mem_filter.mpr ⟨List.mem_append_left _ (List.mem_of_getElem? h), hg⟩
theorem vtb_hts {args : Array Value} {s : State} (h : ∀ w ∈ lw_tbl, w.before args s = true) : ∀ w ∈ vtb, w.before args s = true := fun w hw => h w (List.mem_filter.mp hw).1
theorem vtb_good {ws : List Cond} (h : ∀ w ∈ ws, w ∈ vtb) : GoodIn vtb ws := fun w hw => ⟨h w hw, good_of_word (List.mem_filter.mp (h w hw)).2⟩
theorem inv_X0 : ∀ w ∈ u_ws RX0 TX0 5, w ∈ vtb := fun w h => List.mem_filter.mpr ⟨(show ∀ w ∈ u_ws RX0 TX0 5, w ∈ lw_tbl by decide +kernel) w h, (show ∀ w ∈ u_ws RX0 TX0 5, goodWord w = true by decide +kernel) w h⟩
theorem inv_X1 : ∀ w ∈ u_ws RX1 TX1 6, w ∈ vtb := fun w h => List.mem_filter.mpr ⟨(show ∀ w ∈ u_ws RX1 TX1 6, w ∈ lw_tbl by decide +kernel) w h, (show ∀ w ∈ u_ws RX1 TX1 6, goodWord w = true by decide +kernel) w h⟩
theorem inv_X2 : ∀ w ∈ u_ws RX2 TX2 12, w ∈ vtb := fun w h => List.mem_filter.mpr ⟨(show ∀ w ∈ u_ws RX2 TX2 12, w ∈ lw_tbl by decide +kernel) w h, (show ∀ w ∈ u_ws RX2 TX2 12, goodWord w = true by decide +kernel) w h⟩
theorem inv_X3 : ∀ w ∈ u_ws RX3 TX3 13, w ∈ vtb := fun w h => List.mem_filter.mpr ⟨(show ∀ w ∈ u_ws RX3 TX3 13, w ∈ lw_tbl by decide +kernel) w h, (show ∀ w ∈ u_ws RX3 TX3 13, goodWord w = true by decide +kernel) w h⟩
theorem inv_X4 : ∀ w ∈ u_ws RX4 TX4 2, w ∈ vtb := fun w h => List.mem_filter.mpr ⟨(show ∀ w ∈ u_ws RX4 TX4 2, w ∈ lw_tbl by decide +kernel) w h, (show ∀ w ∈ u_ws RX4 TX4 2, goodWord w = true by decide +kernel) w h⟩
theorem inv_X5 : ∀ w ∈ u_ws RX5 TX5 8, w ∈ vtb := fun w h => List.mem_filter.mpr ⟨(show ∀ w ∈ u_ws RX5 TX5 8, w ∈ lw_tbl by decide +kernel) w h, (show ∀ w ∈ u_ws RX5 TX5 8, goodWord w = true by decide +kernel) w h⟩
theorem inv_X6 : ∀ w ∈ u_ws RX6 TX6 7, w ∈ vtb := fun w h => List.mem_filter.mpr ⟨(show ∀ w ∈ u_ws RX6 TX6 7, w ∈ lw_tbl by decide +kernel) w h, (show ∀ w ∈ u_ws RX6 TX6 7, goodWord w = true by decide +kernel) w h⟩
theorem inv_X7 : ∀ w ∈ u_ws RX7 TX7 6, w ∈ vtb := fun w h => List.mem_filter.mpr ⟨(show ∀ w ∈ u_ws RX7 TX7 6, w ∈ lw_tbl by decide +kernel) w h, (show ∀ w ∈ u_ws RX7 TX7 6, goodWord w = true by decide +kernel) w h⟩
theorem inv_X8 : ∀ w ∈ u_ws RX8 TX8 18, w ∈ vtb := fun w h => List.mem_filter.mpr ⟨(show ∀ w ∈ u_ws RX8 TX8 18, w ∈ lw_tbl by decide +kernel) w h, (show ∀ w ∈ u_ws RX8 TX8 18, goodWord w = true by decide +kernel) w h⟩
