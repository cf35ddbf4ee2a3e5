section
-- ===== PART A: goes FIRST, ahead of the names: the tables' words, and 'selects' of the private methods out of them =====
/-- a private method of a class that the tables say can be made, by its rows of tables_1 -/
def lw_okq (q : MethodName × Nat) : Prop := (q.1.cls ≠ "java/lang/invoke/MethodHandle" ∧ q.1.cls ≠ "java/lang/invoke/VarHandle") ∧ Cond.instantiable q.1.cls q.2 ∈ tables_1 ∧ Cond.privateMethod q.1 ∈ tables_1 ∧ Cond.instanceMethod q.1 ∈ tables_1
theorem lw_p0 : lw_okq (⟨"RingGates$Text", "readLine", "()V"⟩, 8) := ⟨⟨by decide +kernel, by decide +kernel⟩, List.mem_of_getElem? (i := 256) (by decide +kernel), List.mem_of_getElem? (i := 518) (by decide +kernel), List.mem_of_getElem? (i := 519) (by decide +kernel)⟩
theorem lw_p1 : lw_okq (⟨"RingGates$Text", "readWord", "()I"⟩, 8) := ⟨⟨by decide +kernel, by decide +kernel⟩, List.mem_of_getElem? (i := 256) (by decide +kernel), List.mem_of_getElem? (i := 522) (by decide +kernel), List.mem_of_getElem? (i := 523) (by decide +kernel)⟩
theorem lw_p2 : lw_okq (⟨"RingGates$Text", "byteAt", "(I)I"⟩, 8) := ⟨⟨by decide +kernel, by decide +kernel⟩, List.mem_of_getElem? (i := 256) (by decide +kernel), List.mem_of_getElem? (i := 526) (by decide +kernel), List.mem_of_getElem? (i := 527) (by decide +kernel)⟩
theorem lw_p3 : lw_okq (⟨"RingGates$Text", "isSpelled", "(Ljava/lang/String;I)Z"⟩, 8) := ⟨⟨by decide +kernel, by decide +kernel⟩, List.mem_of_getElem? (i := 256) (by decide +kernel), List.mem_of_getElem? (i := 551) (by decide +kernel), List.mem_of_getElem? (i := 552) (by decide +kernel)⟩
theorem lw_p4 : lw_okq (⟨"RingGates$Text", "readBlank", "()V"⟩, 8) := ⟨⟨by decide +kernel, by decide +kernel⟩, List.mem_of_getElem? (i := 256) (by decide +kernel), List.mem_of_getElem? (i := 613) (by decide +kernel), List.mem_of_getElem? (i := 614) (by decide +kernel)⟩
theorem lw_p5 : lw_okq (⟨"RingGates$Text", "readPart", "(C)I"⟩, 8) := ⟨⟨by decide +kernel, by decide +kernel⟩, List.mem_of_getElem? (i := 256) (by decide +kernel), List.mem_of_getElem? (i := 617) (by decide +kernel), List.mem_of_getElem? (i := 618) (by decide +kernel)⟩
theorem lw_p6 : lw_okq (⟨"RingGates$Text", "readSigned", "()I"⟩, 8) := ⟨⟨by decide +kernel, by decide +kernel⟩, List.mem_of_getElem? (i := 256) (by decide +kernel), List.mem_of_getElem? (i := 621) (by decide +kernel), List.mem_of_getElem? (i := 622) (by decide +kernel)⟩
theorem lw_p7 : lw_okq (⟨"RingGates$Text", "readNumber", "(II)I"⟩, 8) := ⟨⟨by decide +kernel, by decide +kernel⟩, List.mem_of_getElem? (i := 256) (by decide +kernel), List.mem_of_getElem? (i := 625) (by decide +kernel), List.mem_of_getElem? (i := 626) (by decide +kernel)⟩
theorem lw_p8 : lw_okq (⟨"RingGates$Text", "readName", "()I"⟩, 8) := ⟨⟨by decide +kernel, by decide +kernel⟩, List.mem_of_getElem? (i := 256) (by decide +kernel), List.mem_of_getElem? (i := 632) (by decide +kernel), List.mem_of_getElem? (i := 633) (by decide +kernel)⟩
theorem lw_p9 : lw_okq (⟨"RingGates$Text", "isLineEnd", "()Z"⟩, 8) := ⟨⟨by decide +kernel, by decide +kernel⟩, List.mem_of_getElem? (i := 256) (by decide +kernel), List.mem_of_getElem? (i := 636) (by decide +kernel), List.mem_of_getElem? (i := 637) (by decide +kernel)⟩
theorem lw_p10 : lw_okq (⟨"RingGates$Text", "tellWord", "(II)V"⟩, 8) := ⟨⟨by decide +kernel, by decide +kernel⟩, List.mem_of_getElem? (i := 256) (by decide +kernel), List.mem_of_getElem? (i := 640) (by decide +kernel), List.mem_of_getElem? (i := 641) (by decide +kernel)⟩
theorem lw_p11 : lw_okq (⟨"RingGates$Text", "tell", "(II)V"⟩, 8) := ⟨⟨by decide +kernel, by decide +kernel⟩, List.mem_of_getElem? (i := 256) (by decide +kernel), List.mem_of_getElem? (i := 644) (by decide +kernel), List.mem_of_getElem? (i := 645) (by decide +kernel)⟩
theorem lw_p12 : lw_okq (⟨"RingGates$Machine", "actHere", "()I"⟩, 12) := ⟨⟨by decide +kernel, by decide +kernel⟩, List.mem_of_getElem? (i := 24) (by decide +kernel), List.mem_of_getElem? (i := 687) (by decide +kernel), List.mem_of_getElem? (i := 688) (by decide +kernel)⟩
theorem lw_p13 : lw_okq (⟨"RingGates$Machine", "perform", "(III)I"⟩, 12) := ⟨⟨by decide +kernel, by decide +kernel⟩, List.mem_of_getElem? (i := 24) (by decide +kernel), List.mem_of_getElem? (i := 699) (by decide +kernel), List.mem_of_getElem? (i := 700) (by decide +kernel)⟩
theorem lw_p14 : lw_okq (⟨"RingGates$Machine", "takeNumber", "(II)I"⟩, 12) := ⟨⟨by decide +kernel, by decide +kernel⟩, List.mem_of_getElem? (i := 24) (by decide +kernel), List.mem_of_getElem? (i := 703) (by decide +kernel), List.mem_of_getElem? (i := 704) (by decide +kernel)⟩
theorem lw_p15 : lw_okq (⟨"RingGates$Machine", "goThrough", "(LRingGates$Segment;IZ)I"⟩, 12) := ⟨⟨by decide +kernel, by decide +kernel⟩, List.mem_of_getElem? (i := 24) (by decide +kernel), List.mem_of_getElem? (i := 711) (by decide +kernel), List.mem_of_getElem? (i := 712) (by decide +kernel)⟩
def lw_privs_1 : List (MethodName × Nat) := [(⟨"RingGates$Text", "readLine", "()V"⟩, 8), (⟨"RingGates$Text", "readWord", "()I"⟩, 8), (⟨"RingGates$Text", "byteAt", "(I)I"⟩, 8), (⟨"RingGates$Text", "isSpelled", "(Ljava/lang/String;I)Z"⟩, 8), (⟨"RingGates$Text", "readBlank", "()V"⟩, 8), (⟨"RingGates$Text", "readPart", "(C)I"⟩, 8), (⟨"RingGates$Text", "readSigned", "()I"⟩, 8), (⟨"RingGates$Text", "readNumber", "(II)I"⟩, 8), (⟨"RingGates$Text", "readName", "()I"⟩, 8), (⟨"RingGates$Text", "isLineEnd", "()Z"⟩, 8), (⟨"RingGates$Text", "tellWord", "(II)V"⟩, 8), (⟨"RingGates$Text", "tell", "(II)V"⟩, 8), (⟨"RingGates$Machine", "actHere", "()I"⟩, 12), (⟨"RingGates$Machine", "perform", "(III)I"⟩, 12), (⟨"RingGates$Machine", "takeNumber", "(II)I"⟩, 12), (⟨"RingGates$Machine", "goThrough", "(LRingGates$Segment;IZ)I"⟩, 12)]
theorem lw_r1 : ∀ q ∈ lw_privs_1, lw_okq q := List.forall_mem_cons.mpr ⟨lw_p0, List.forall_mem_cons.mpr ⟨lw_p1, List.forall_mem_cons.mpr ⟨lw_p2, List.forall_mem_cons.mpr ⟨lw_p3, List.forall_mem_cons.mpr ⟨lw_p4, List.forall_mem_cons.mpr ⟨lw_p5, List.forall_mem_cons.mpr ⟨lw_p6, List.forall_mem_cons.mpr ⟨lw_p7, List.forall_mem_cons.mpr ⟨lw_p8, List.forall_mem_cons.mpr ⟨lw_p9, List.forall_mem_cons.mpr ⟨lw_p10, List.forall_mem_cons.mpr ⟨lw_p11, List.forall_mem_cons.mpr ⟨lw_p12, List.forall_mem_cons.mpr ⟨lw_p13, List.forall_mem_cons.mpr ⟨lw_p14, List.forall_mem_cons.mpr ⟨lw_p15, fun _ h => absurd h List.not_mem_nil⟩⟩⟩⟩⟩⟩⟩⟩⟩⟩⟩⟩⟩⟩⟩⟩
theorem lw_p16 : lw_okq (⟨"RingGates$Machine", "fetch", "(III)I"⟩, 12) := ⟨⟨by decide +kernel, by decide +kernel⟩, List.mem_of_getElem? (i := 24) (by decide +kernel), List.mem_of_getElem? (i := 727) (by decide +kernel), List.mem_of_getElem? (i := 728) (by decide +kernel)⟩
theorem lw_p17 : lw_okq (⟨"RingGates$Machine", "putNumber", "(I)I"⟩, 12) := ⟨⟨by decide +kernel, by decide +kernel⟩, List.mem_of_getElem? (i := 24) (by decide +kernel), List.mem_of_getElem? (i := 731) (by decide +kernel), List.mem_of_getElem? (i := 732) (by decide +kernel)⟩
theorem lw_p18 : lw_okq (⟨"RingGates$Machine", "faultOfStore", "(III)I"⟩, 12) := ⟨⟨by decide +kernel, by decide +kernel⟩, List.mem_of_getElem? (i := 24) (by decide +kernel), List.mem_of_getElem? (i := 735) (by decide +kernel), List.mem_of_getElem? (i := 736) (by decide +kernel)⟩
theorem lw_p19 : lw_okq (⟨"RingGates$Machine", "store", "(III)V"⟩, 12) := ⟨⟨by decide +kernel, by decide +kernel⟩, List.mem_of_getElem? (i := 24) (by decide +kernel), List.mem_of_getElem? (i := 743) (by decide +kernel), List.mem_of_getElem? (i := 744) (by decide +kernel)⟩
theorem lw_p20 : lw_okq (⟨"RingGates$Machine", "goTo", "(I)I"⟩, 12) := ⟨⟨by decide +kernel, by decide +kernel⟩, List.mem_of_getElem? (i := 24) (by decide +kernel), List.mem_of_getElem? (i := 747) (by decide +kernel), List.mem_of_getElem? (i := 748) (by decide +kernel)⟩
theorem lw_p21 : lw_okq (⟨"RingGates$Machine", "callTo", "(II)I"⟩, 12) := ⟨⟨by decide +kernel, by decide +kernel⟩, List.mem_of_getElem? (i := 24) (by decide +kernel), List.mem_of_getElem? (i := 751) (by decide +kernel), List.mem_of_getElem? (i := 752) (by decide +kernel)⟩
theorem lw_p22 : lw_okq (⟨"RingGates$Machine", "keepPlace", "(LRingGates$Argument;)V"⟩, 12) := ⟨⟨by decide +kernel, by decide +kernel⟩, List.mem_of_getElem? (i := 24) (by decide +kernel), List.mem_of_getElem? (i := 764) (by decide +kernel), List.mem_of_getElem? (i := 765) (by decide +kernel)⟩
theorem lw_p23 : lw_okq (⟨"RingGates$Machine", "takeCopies", "()I"⟩, 12) := ⟨⟨by decide +kernel, by decide +kernel⟩, List.mem_of_getElem? (i := 24) (by decide +kernel), List.mem_of_getElem? (i := 768) (by decide +kernel), List.mem_of_getElem? (i := 769) (by decide +kernel)⟩
theorem lw_p24 : lw_okq (⟨"RingGates$Machine", "goBack", "()I"⟩, 12) := ⟨⟨by decide +kernel, by decide +kernel⟩, List.mem_of_getElem? (i := 24) (by decide +kernel), List.mem_of_getElem? (i := 796) (by decide +kernel), List.mem_of_getElem? (i := 797) (by decide +kernel)⟩
theorem lw_p25 : lw_okq (⟨"RingGates$Machine", "putCopiesBack", "(LRingGates$Frame;)I"⟩, 12) := ⟨⟨by decide +kernel, by decide +kernel⟩, List.mem_of_getElem? (i := 24) (by decide +kernel), List.mem_of_getElem? (i := 801) (by decide +kernel), List.mem_of_getElem? (i := 802) (by decide +kernel)⟩
theorem lw_p26 : lw_okq (⟨"RingGates$Machine", "readArgument", "(I)I"⟩, 12) := ⟨⟨by decide +kernel, by decide +kernel⟩, List.mem_of_getElem? (i := 24) (by decide +kernel), List.mem_of_getElem? (i := 809) (by decide +kernel), List.mem_of_getElem? (i := 810) (by decide +kernel)⟩
theorem lw_p27 : lw_okq (⟨"RingGates$Machine", "latestArgument", "(I)LRingGates$Argument;"⟩, 12) := ⟨⟨by decide +kernel, by decide +kernel⟩, List.mem_of_getElem? (i := 24) (by decide +kernel), List.mem_of_getElem? (i := 813) (by decide +kernel), List.mem_of_getElem? (i := 814) (by decide +kernel)⟩
theorem lw_p28 : lw_okq (⟨"RingGates$Machine", "isLatestOutward", "()Z"⟩, 12) := ⟨⟨by decide +kernel, by decide +kernel⟩, List.mem_of_getElem? (i := 24) (by decide +kernel), List.mem_of_getElem? (i := 817) (by decide +kernel), List.mem_of_getElem? (i := 818) (by decide +kernel)⟩
theorem lw_p29 : lw_okq (⟨"RingGates$Machine", "writeArgument", "(I)I"⟩, 12) := ⟨⟨by decide +kernel, by decide +kernel⟩, List.mem_of_getElem? (i := 24) (by decide +kernel), List.mem_of_getElem? (i := 821) (by decide +kernel), List.mem_of_getElem? (i := 822) (by decide +kernel)⟩
theorem lw_p30 : lw_okq (⟨"RingGatesModel", "isDirectory", "(I)Z"⟩, 18) := ⟨⟨by decide +kernel, by decide +kernel⟩, List.mem_of_getElem? (i := 955) (by decide +kernel), List.mem_of_getElem? (i := 1032) (by decide +kernel), List.mem_of_getElem? (i := 1033) (by decide +kernel)⟩
theorem lw_p31 : lw_okq (⟨"RingGatesModel", "named", "(II)I"⟩, 18) := ⟨⟨by decide +kernel, by decide +kernel⟩, List.mem_of_getElem? (i := 955) (by decide +kernel), List.mem_of_getElem? (i := 1045) (by decide +kernel), List.mem_of_getElem? (i := 1046) (by decide +kernel)⟩
def lw_privs_2 : List (MethodName × Nat) := [(⟨"RingGates$Machine", "fetch", "(III)I"⟩, 12), (⟨"RingGates$Machine", "putNumber", "(I)I"⟩, 12), (⟨"RingGates$Machine", "faultOfStore", "(III)I"⟩, 12), (⟨"RingGates$Machine", "store", "(III)V"⟩, 12), (⟨"RingGates$Machine", "goTo", "(I)I"⟩, 12), (⟨"RingGates$Machine", "callTo", "(II)I"⟩, 12), (⟨"RingGates$Machine", "keepPlace", "(LRingGates$Argument;)V"⟩, 12), (⟨"RingGates$Machine", "takeCopies", "()I"⟩, 12), (⟨"RingGates$Machine", "goBack", "()I"⟩, 12), (⟨"RingGates$Machine", "putCopiesBack", "(LRingGates$Frame;)I"⟩, 12), (⟨"RingGates$Machine", "readArgument", "(I)I"⟩, 12), (⟨"RingGates$Machine", "latestArgument", "(I)LRingGates$Argument;"⟩, 12), (⟨"RingGates$Machine", "isLatestOutward", "()Z"⟩, 12), (⟨"RingGates$Machine", "writeArgument", "(I)I"⟩, 12), (⟨"RingGatesModel", "isDirectory", "(I)Z"⟩, 18), (⟨"RingGatesModel", "named", "(II)I"⟩, 18)]
theorem lw_r2 : ∀ q ∈ lw_privs_2, lw_okq q := List.forall_mem_cons.mpr ⟨lw_p16, List.forall_mem_cons.mpr ⟨lw_p17, List.forall_mem_cons.mpr ⟨lw_p18, List.forall_mem_cons.mpr ⟨lw_p19, List.forall_mem_cons.mpr ⟨lw_p20, List.forall_mem_cons.mpr ⟨lw_p21, List.forall_mem_cons.mpr ⟨lw_p22, List.forall_mem_cons.mpr ⟨lw_p23, List.forall_mem_cons.mpr ⟨lw_p24, List.forall_mem_cons.mpr ⟨lw_p25, List.forall_mem_cons.mpr ⟨lw_p26, List.forall_mem_cons.mpr ⟨lw_p27, List.forall_mem_cons.mpr ⟨lw_p28, List.forall_mem_cons.mpr ⟨lw_p29, List.forall_mem_cons.mpr ⟨lw_p30, List.forall_mem_cons.mpr ⟨lw_p31, fun _ h => absurd h List.not_mem_nil⟩⟩⟩⟩⟩⟩⟩⟩⟩⟩⟩⟩⟩⟩⟩⟩
theorem lw_p32 : lw_okq (⟨"RingGatesModel", "hasRoom", "(II)Z"⟩, 18) := ⟨⟨by decide +kernel, by decide +kernel⟩, List.mem_of_getElem? (i := 955) (by decide +kernel), List.mem_of_getElem? (i := 1052) (by decide +kernel), List.mem_of_getElem? (i := 1053) (by decide +kernel)⟩
theorem lw_p33 : lw_okq (⟨"RingGatesModel", "isSegment", "(I)Z"⟩, 18) := ⟨⟨by decide +kernel, by decide +kernel⟩, List.mem_of_getElem? (i := 955) (by decide +kernel), List.mem_of_getElem? (i := 1069) (by decide +kernel), List.mem_of_getElem? (i := 1070) (by decide +kernel)⟩
theorem lw_p34 : lw_okq (⟨"RingGatesModel", "segmentsIn", "(I)I"⟩, 18) := ⟨⟨by decide +kernel, by decide +kernel⟩, List.mem_of_getElem? (i := 955) (by decide +kernel), List.mem_of_getElem? (i := 1109) (by decide +kernel), List.mem_of_getElem? (i := 1110) (by decide +kernel)⟩
theorem lw_p35 : lw_okq (⟨"RingGatesModel", "becomes", "(IIIIII)I"⟩, 18) := ⟨⟨by decide +kernel, by decide +kernel⟩, List.mem_of_getElem? (i := 955) (by decide +kernel), List.mem_of_getElem? (i := 1132) (by decide +kernel), List.mem_of_getElem? (i := 1133) (by decide +kernel)⟩
theorem lw_p36 : lw_okq (⟨"RingGatesModel", "isWord", "(II)Z"⟩, 18) := ⟨⟨by decide +kernel, by decide +kernel⟩, List.mem_of_getElem? (i := 955) (by decide +kernel), List.mem_of_getElem? (i := 1136) (by decide +kernel), List.mem_of_getElem? (i := 1137) (by decide +kernel)⟩
theorem lw_p37 : lw_okq (⟨"RingGatesModel", "toldOf", "(II)I"⟩, 18) := ⟨⟨by decide +kernel, by decide +kernel⟩, List.mem_of_getElem? (i := 955) (by decide +kernel), List.mem_of_getElem? (i := 1167) (by decide +kernel), List.mem_of_getElem? (i := 1168) (by decide +kernel)⟩
theorem lw_p38 : lw_okq (⟨"RingGatesModel", "isText", "()Z"⟩, 18) := ⟨⟨by decide +kernel, by decide +kernel⟩, List.mem_of_getElem? (i := 955) (by decide +kernel), List.mem_of_getElem? (i := 1184) (by decide +kernel), List.mem_of_getElem? (i := 1185) (by decide +kernel)⟩
theorem lw_p39 : lw_okq (⟨"RingGatesModel", "line", "()Z"⟩, 18) := ⟨⟨by decide +kernel, by decide +kernel⟩, List.mem_of_getElem? (i := 955) (by decide +kernel), List.mem_of_getElem? (i := 1188) (by decide +kernel), List.mem_of_getElem? (i := 1189) (by decide +kernel)⟩
theorem lw_p40 : lw_okq (⟨"RingGatesModel", "many", "(III)I"⟩, 18) := ⟨⟨by decide +kernel, by decide +kernel⟩, List.mem_of_getElem? (i := 955) (by decide +kernel), List.mem_of_getElem? (i := 1192) (by decide +kernel), List.mem_of_getElem? (i := 1193) (by decide +kernel)⟩
theorem lw_p41 : lw_okq (⟨"RingGatesModel", "byteAt", "(I)I"⟩, 18) := ⟨⟨by decide +kernel, by decide +kernel⟩, List.mem_of_getElem? (i := 955) (by decide +kernel), List.mem_of_getElem? (i := 1196) (by decide +kernel), List.mem_of_getElem? (i := 1197) (by decide +kernel)⟩
theorem lw_p42 : lw_okq (⟨"RingGatesModel", "is", "(IILjava/lang/String;)Z"⟩, 18) := ⟨⟨by decide +kernel, by decide +kernel⟩, List.mem_of_getElem? (i := 955) (by decide +kernel), List.mem_of_getElem? (i := 1201) (by decide +kernel), List.mem_of_getElem? (i := 1202) (by decide +kernel)⟩
theorem lw_p43 : lw_okq (⟨"RingGatesModel", "value", "()Z"⟩, 18) := ⟨⟨by decide +kernel, by decide +kernel⟩, List.mem_of_getElem? (i := 955) (by decide +kernel), List.mem_of_getElem? (i := 1208) (by decide +kernel), List.mem_of_getElem? (i := 1209) (by decide +kernel)⟩
theorem lw_p44 : lw_okq (⟨"RingGatesModel", "sign", "(I)Z"⟩, 18) := ⟨⟨by decide +kernel, by decide +kernel⟩, List.mem_of_getElem? (i := 955) (by decide +kernel), List.mem_of_getElem? (i := 1212) (by decide +kernel), List.mem_of_getElem? (i := 1213) (by decide +kernel)⟩
theorem lw_p45 : lw_okq (⟨"RingGatesModel", "stops", "()Z"⟩, 18) := ⟨⟨by decide +kernel, by decide +kernel⟩, List.mem_of_getElem? (i := 955) (by decide +kernel), List.mem_of_getElem? (i := 1216) (by decide +kernel), List.mem_of_getElem? (i := 1217) (by decide +kernel)⟩
theorem lw_p46 : lw_okq (⟨"RingGatesModel", "digits", "(II)Z"⟩, 18) := ⟨⟨by decide +kernel, by decide +kernel⟩, List.mem_of_getElem? (i := 955) (by decide +kernel), List.mem_of_getElem? (i := 1222) (by decide +kernel), List.mem_of_getElem? (i := 1223) (by decide +kernel)⟩
theorem lw_p47 : lw_okq (⟨"RingGatesModel", "letter", "()Z"⟩, 18) := ⟨⟨by decide +kernel, by decide +kernel⟩, List.mem_of_getElem? (i := 955) (by decide +kernel), List.mem_of_getElem? (i := 1227) (by decide +kernel), List.mem_of_getElem? (i := 1228) (by decide +kernel)⟩
def lw_privs_3 : List (MethodName × Nat) := [(⟨"RingGatesModel", "hasRoom", "(II)Z"⟩, 18), (⟨"RingGatesModel", "isSegment", "(I)Z"⟩, 18), (⟨"RingGatesModel", "segmentsIn", "(I)I"⟩, 18), (⟨"RingGatesModel", "becomes", "(IIIIII)I"⟩, 18), (⟨"RingGatesModel", "isWord", "(II)Z"⟩, 18), (⟨"RingGatesModel", "toldOf", "(II)I"⟩, 18), (⟨"RingGatesModel", "isText", "()Z"⟩, 18), (⟨"RingGatesModel", "line", "()Z"⟩, 18), (⟨"RingGatesModel", "many", "(III)I"⟩, 18), (⟨"RingGatesModel", "byteAt", "(I)I"⟩, 18), (⟨"RingGatesModel", "is", "(IILjava/lang/String;)Z"⟩, 18), (⟨"RingGatesModel", "value", "()Z"⟩, 18), (⟨"RingGatesModel", "sign", "(I)Z"⟩, 18), (⟨"RingGatesModel", "stops", "()Z"⟩, 18), (⟨"RingGatesModel", "digits", "(II)Z"⟩, 18), (⟨"RingGatesModel", "letter", "()Z"⟩, 18)]
theorem lw_r3 : ∀ q ∈ lw_privs_3, lw_okq q := List.forall_mem_cons.mpr ⟨lw_p32, List.forall_mem_cons.mpr ⟨lw_p33, List.forall_mem_cons.mpr ⟨lw_p34, List.forall_mem_cons.mpr ⟨lw_p35, List.forall_mem_cons.mpr ⟨lw_p36, List.forall_mem_cons.mpr ⟨lw_p37, List.forall_mem_cons.mpr ⟨lw_p38, List.forall_mem_cons.mpr ⟨lw_p39, List.forall_mem_cons.mpr ⟨lw_p40, List.forall_mem_cons.mpr ⟨lw_p41, List.forall_mem_cons.mpr ⟨lw_p42, List.forall_mem_cons.mpr ⟨lw_p43, List.forall_mem_cons.mpr ⟨lw_p44, List.forall_mem_cons.mpr ⟨lw_p45, List.forall_mem_cons.mpr ⟨lw_p46, List.forall_mem_cons.mpr ⟨lw_p47, fun _ h => absurd h List.not_mem_nil⟩⟩⟩⟩⟩⟩⟩⟩⟩⟩⟩⟩⟩⟩⟩⟩
theorem lw_p48 : lw_okq (⟨"RingGatesModel", "actLine", "(II)Z"⟩, 18) := ⟨⟨by decide +kernel, by decide +kernel⟩, List.mem_of_getElem? (i := 955) (by decide +kernel), List.mem_of_getElem? (i := 1231) (by decide +kernel), List.mem_of_getElem? (i := 1232) (by decide +kernel)⟩
theorem lw_p49 : lw_okq (⟨"RingGatesModel", "runs", "([II)I"⟩, 18) := ⟨⟨by decide +kernel, by decide +kernel⟩, List.mem_of_getElem? (i := 955) (by decide +kernel), List.mem_of_getElem? (i := 1244) (by decide +kernel), List.mem_of_getElem? (i := 1245) (by decide +kernel)⟩
theorem lw_p50 : lw_okq (⟨"RingGatesModel", "steps", "([I)I"⟩, 18) := ⟨⟨by decide +kernel, by decide +kernel⟩, List.mem_of_getElem? (i := 955) (by decide +kernel), List.mem_of_getElem? (i := 1248) (by decide +kernel), List.mem_of_getElem? (i := 1249) (by decide +kernel)⟩
theorem lw_p51 : lw_okq (⟨"RingGatesModel", "calls", "([IIIII)I"⟩, 18) := ⟨⟨by decide +kernel, by decide +kernel⟩, List.mem_of_getElem? (i := 955) (by decide +kernel), List.mem_of_getElem? (i := 1258) (by decide +kernel), List.mem_of_getElem? (i := 1259) (by decide +kernel)⟩
theorem lw_p52 : lw_okq (⟨"RingGatesModel", "comes", "([IIII)I"⟩, 18) := ⟨⟨by decide +kernel, by decide +kernel⟩, List.mem_of_getElem? (i := 955) (by decide +kernel), List.mem_of_getElem? (i := 1262) (by decide +kernel), List.mem_of_getElem? (i := 1263) (by decide +kernel)⟩
theorem lw_p53 : lw_okq (⟨"RingGatesModel", "through", "([II)I"⟩, 18) := ⟨⟨by decide +kernel, by decide +kernel⟩, List.mem_of_getElem? (i := 955) (by decide +kernel), List.mem_of_getElem? (i := 1270) (by decide +kernel), List.mem_of_getElem? (i := 1271) (by decide +kernel)⟩
theorem lw_p54 : lw_okq (⟨"RingGatesModel", "entered", "([IIII)I"⟩, 18) := ⟨⟨by decide +kernel, by decide +kernel⟩, List.mem_of_getElem? (i := 955) (by decide +kernel), List.mem_of_getElem? (i := 1275) (by decide +kernel), List.mem_of_getElem? (i := 1276) (by decide +kernel)⟩
theorem lw_p55 : lw_okq (⟨"RingGatesModel", "numberAt", "([IIII)I"⟩, 18) := ⟨⟨by decide +kernel, by decide +kernel⟩, List.mem_of_getElem? (i := 955) (by decide +kernel), List.mem_of_getElem? (i := 1279) (by decide +kernel), List.mem_of_getElem? (i := 1280) (by decide +kernel)⟩
theorem lw_p56 : lw_okq (⟨"RingGatesModel", "backs", "([I)I"⟩, 18) := ⟨⟨by decide +kernel, by decide +kernel⟩, List.mem_of_getElem? (i := 955) (by decide +kernel), List.mem_of_getElem? (i := 1286) (by decide +kernel), List.mem_of_getElem? (i := 1287) (by decide +kernel)⟩
theorem lw_p57 : lw_okq (⟨"RingGatesModel", "argument", "([IIZ)I"⟩, 18) := ⟨⟨by decide +kernel, by decide +kernel⟩, List.mem_of_getElem? (i := 955) (by decide +kernel), List.mem_of_getElem? (i := 1296) (by decide +kernel), List.mem_of_getElem? (i := 1297) (by decide +kernel)⟩
theorem lw_p58 : lw_okq (⟨"RingGatesModel", "moves", "([IIII)I"⟩, 18) := ⟨⟨by decide +kernel, by decide +kernel⟩, List.mem_of_getElem? (i := 955) (by decide +kernel), List.mem_of_getElem? (i := 1300) (by decide +kernel), List.mem_of_getElem? (i := 1301) (by decide +kernel)⟩
theorem lw_p59 : lw_okq (⟨"RingGatesModel", "further", "(I)I"⟩, 18) := ⟨⟨by decide +kernel, by decide +kernel⟩, List.mem_of_getElem? (i := 955) (by decide +kernel), List.mem_of_getElem? (i := 1340) (by decide +kernel), List.mem_of_getElem? (i := 1341) (by decide +kernel)⟩
theorem lw_p60 : lw_okq (⟨"RingGatesModel", "snapped", "(Z)I"⟩, 18) := ⟨⟨by decide +kernel, by decide +kernel⟩, List.mem_of_getElem? (i := 955) (by decide +kernel), List.mem_of_getElem? (i := 1348) (by decide +kernel), List.mem_of_getElem? (i := 1349) (by decide +kernel)⟩
theorem lw_p61 : lw_okq (⟨"RingGatesModel", "segments", "()I"⟩, 18) := ⟨⟨by decide +kernel, by decide +kernel⟩, List.mem_of_getElem? (i := 955) (by decide +kernel), List.mem_of_getElem? (i := 1361) (by decide +kernel), List.mem_of_getElem? (i := 1362) (by decide +kernel)⟩
theorem lw_p62 : lw_okq (⟨"RingGatesModel", "cells", "(Z)I"⟩, 18) := ⟨⟨by decide +kernel, by decide +kernel⟩, List.mem_of_getElem? (i := 955) (by decide +kernel), List.mem_of_getElem? (i := 1373) (by decide +kernel), List.mem_of_getElem? (i := 1374) (by decide +kernel)⟩
theorem lw_p63 : lw_okq (⟨"RingGatesModel", "recordsAll", "()I"⟩, 18) := ⟨⟨by decide +kernel, by decide +kernel⟩, List.mem_of_getElem? (i := 955) (by decide +kernel), List.mem_of_getElem? (i := 1377) (by decide +kernel), List.mem_of_getElem? (i := 1378) (by decide +kernel)⟩
def lw_privs_4 : List (MethodName × Nat) := [(⟨"RingGatesModel", "actLine", "(II)Z"⟩, 18), (⟨"RingGatesModel", "runs", "([II)I"⟩, 18), (⟨"RingGatesModel", "steps", "([I)I"⟩, 18), (⟨"RingGatesModel", "calls", "([IIIII)I"⟩, 18), (⟨"RingGatesModel", "comes", "([IIII)I"⟩, 18), (⟨"RingGatesModel", "through", "([II)I"⟩, 18), (⟨"RingGatesModel", "entered", "([IIII)I"⟩, 18), (⟨"RingGatesModel", "numberAt", "([IIII)I"⟩, 18), (⟨"RingGatesModel", "backs", "([I)I"⟩, 18), (⟨"RingGatesModel", "argument", "([IIZ)I"⟩, 18), (⟨"RingGatesModel", "moves", "([IIII)I"⟩, 18), (⟨"RingGatesModel", "further", "(I)I"⟩, 18), (⟨"RingGatesModel", "snapped", "(Z)I"⟩, 18), (⟨"RingGatesModel", "segments", "()I"⟩, 18), (⟨"RingGatesModel", "cells", "(Z)I"⟩, 18), (⟨"RingGatesModel", "recordsAll", "()I"⟩, 18)]
theorem lw_r4 : ∀ q ∈ lw_privs_4, lw_okq q := List.forall_mem_cons.mpr ⟨lw_p48, List.forall_mem_cons.mpr ⟨lw_p49, List.forall_mem_cons.mpr ⟨lw_p50, List.forall_mem_cons.mpr ⟨lw_p51, List.forall_mem_cons.mpr ⟨lw_p52, List.forall_mem_cons.mpr ⟨lw_p53, List.forall_mem_cons.mpr ⟨lw_p54, List.forall_mem_cons.mpr ⟨lw_p55, List.forall_mem_cons.mpr ⟨lw_p56, List.forall_mem_cons.mpr ⟨lw_p57, List.forall_mem_cons.mpr ⟨lw_p58, List.forall_mem_cons.mpr ⟨lw_p59, List.forall_mem_cons.mpr ⟨lw_p60, List.forall_mem_cons.mpr ⟨lw_p61, List.forall_mem_cons.mpr ⟨lw_p62, List.forall_mem_cons.mpr ⟨lw_p63, fun _ h => absurd h List.not_mem_nil⟩⟩⟩⟩⟩⟩⟩⟩⟩⟩⟩⟩⟩⟩⟩⟩
def lw_privs : List (MethodName × Nat) := lw_privs_1 ++ (lw_privs_2 ++ (lw_privs_3 ++ (lw_privs_4)))
def lw_tbl : List Cond := k2_sels lw_privs ++ tables_1
theorem lw_privs_ok : ∀ q ∈ lw_privs, lw_okq q := by
  show ∀ q ∈ lw_privs_1 ++ (lw_privs_2 ++ (lw_privs_3 ++ (lw_privs_4))), lw_okq q
  exact List.forall_mem_append.mpr ⟨lw_r1, List.forall_mem_append.mpr ⟨lw_r2, List.forall_mem_append.mpr ⟨lw_r3, lw_r4⟩⟩⟩

def RX0 : String := "RingGates$Argument"
def TX0 : u_T := fun k => match k with
  | 0 => ("RingGates$Argument", "segment", "I", false)
  | 1 => ("RingGates$Argument", "word", "I", false)
  | 2 => ("RingGates$Argument", "ring", "I", false)
  | 3 => ("RingGates$Argument", "copy", "I", false)
  | _ => ("RingGates$Argument", "isSet", "Z", false)
def tyX0 : Nat → FieldType := fun k => match k with
  | 0 => .int
  | 1 => .int
  | 2 => .int
  | 3 => .int
  | _ => .boolean
abbrev wsX00 : List Cond := u_ws RX0 TX0 5
theorem nmX0 : ∀ a, a < 5 → ∀ b, b < 5 → a ≠ b → (TX0 a).2.1 ≠ (TX0 b).2.1 := by decide +kernel
theorem tyX0_ok : ∀ k, k < 5 → parseFieldDescriptor (TX0 k).2.2.1 = some (tyX0 k) := by decide +kernel
abbrev cX0_init : ByteArray := prog_2_method_1_code
def yX0_init : MethodName := ⟨RX0, "<init>", "()V"⟩
abbrev cX0_copyFrom : ByteArray := prog_2_method_2_code
def yX0_copyFrom : MethodName := ⟨RX0, "copyFrom", "(LRingGates$Argument;)V"⟩
def RX1 : String := "RingGates$Frame"
def TX1 : u_T := fun k => match k with
  | 0 => ("RingGates$Frame", "segment", "I", false)
  | 1 => ("RingGates$Frame", "word", "I", false)
  | 2 => ("RingGates$Frame", "ring", "I", false)
  | 3 => ("RingGates$Frame", "outward", "Z", false)
  | 4 => ("RingGates$Frame", "size", "I", false)
  | _ => ("RingGates$Frame", "arguments", "[LRingGates$Argument;", true)
def tyX1 : Nat → FieldType := fun k => match k with
  | 0 => .int
  | 1 => .int
  | 2 => .int
  | 3 => .boolean
  | 4 => .int
  | _ => .array (.object "RingGates$Argument")
abbrev wsX10 : List Cond := u_ws RX1 TX1 6
theorem nmX1 : ∀ a, a < 6 → ∀ b, b < 6 → a ≠ b → (TX1 a).2.1 ≠ (TX1 b).2.1 := by decide +kernel
theorem tyX1_ok : ∀ k, k < 6 → parseFieldDescriptor (TX1 k).2.2.1 = some (tyX1 k) := by decide +kernel
abbrev cX1_init : ByteArray := prog_3_method_1_code
def yX1_init : MethodName := ⟨RX1, "<init>", "()V"⟩
abbrev cX1_argumentAt : ByteArray := prog_3_method_2_code
def yX1_argumentAt : MethodName := ⟨RX1, "argumentAt", "(I)LRingGates$Argument;"⟩
abbrev cX1_copyFrom : ByteArray := prog_3_method_3_code
def yX1_copyFrom : MethodName := ⟨RX1, "copyFrom", "(LRingGates$Frame;)V"⟩
def RX2 : String := "RingGates$Machine"
def TX2 : u_T := fun k => match k with
  | 0 => ("RingGates$Machine", "world", "LRingGates$World;", true)
  | 1 => ("RingGates$Machine", "stacks", "LRingGates$Stacks;", true)
  | 2 => ("RingGates$Machine", "segment", "I", false)
  | 3 => ("RingGates$Machine", "word", "I", false)
  | 4 => ("RingGates$Machine", "ring", "I", false)
  | 5 => ("RingGates$Machine", "a", "I", false)
  | 6 => ("RingGates$Machine", "building", "LRingGates$Frame;", true)
  | 7 => ("RingGates$Machine", "operandSegment", "I", false)
  | 8 => ("RingGates$Machine", "operandWord", "I", false)
  | 9 => ("RingGates$Machine", "operandRing", "I", false)
  | 10 => ("RingGates$Machine", "fetched", "I", false)
  | _ => ("RingGates$Machine", "outcome", "I", false)
def tyX2 : Nat → FieldType := fun k => match k with
  | 0 => .object "RingGates$World"
  | 1 => .object "RingGates$Stacks"
  | 2 => .int
  | 3 => .int
  | 4 => .int
  | 5 => .int
  | 6 => .object "RingGates$Frame"
  | 7 => .int
  | 8 => .int
  | 9 => .int
  | 10 => .int
  | _ => .int
abbrev wsX20 : List Cond := u_ws RX2 TX2 12
theorem nmX2 : ∀ a, a < 12 → ∀ b, b < 12 → a ≠ b → (TX2 a).2.1 ≠ (TX2 b).2.1 := by decide +kernel
theorem tyX2_ok : ∀ k, k < 12 → parseFieldDescriptor (TX2 k).2.2.1 = some (tyX2 k) := by decide +kernel
abbrev cX2_init : ByteArray := prog_4_method_1_code
def yX2_init : MethodName := ⟨RX2, "<init>", "()V"⟩
abbrev cX2_begin : ByteArray := prog_4_method_2_code
def yX2_begin : MethodName := ⟨RX2, "begin", "(III)V"⟩
abbrev cX2_drive : ByteArray := prog_4_method_3_code
def yX2_drive : MethodName := ⟨RX2, "drive", "(I)I"⟩
abbrev cX2_actHere : ByteArray := prog_4_method_4_code
def yX2_actHere : MethodName := ⟨RX2, "actHere", "()I"⟩
abbrev cX2_perform : ByteArray := prog_4_method_5_code
def yX2_perform : MethodName := ⟨RX2, "perform", "(III)I"⟩
abbrev cX2_takeNumber : ByteArray := prog_4_method_6_code
def yX2_takeNumber : MethodName := ⟨RX2, "takeNumber", "(II)I"⟩
abbrev cX2_putNumber : ByteArray := prog_4_method_7_code
def yX2_putNumber : MethodName := ⟨RX2, "putNumber", "(I)I"⟩
abbrev cX2_goTo : ByteArray := prog_4_method_8_code
def yX2_goTo : MethodName := ⟨RX2, "goTo", "(I)I"⟩
abbrev cX2_callTo : ByteArray := prog_4_method_9_code
def yX2_callTo : MethodName := ⟨RX2, "callTo", "(II)I"⟩
abbrev cX2_keepPlace : ByteArray := prog_4_method_10_code
def yX2_keepPlace : MethodName := ⟨RX2, "keepPlace", "(LRingGates$Argument;)V"⟩
abbrev cX2_takeCopies : ByteArray := prog_4_method_11_code
def yX2_takeCopies : MethodName := ⟨RX2, "takeCopies", "()I"⟩
abbrev cX2_goBack : ByteArray := prog_4_method_12_code
def yX2_goBack : MethodName := ⟨RX2, "goBack", "()I"⟩
abbrev cX2_putCopiesBack : ByteArray := prog_4_method_13_code
def yX2_putCopiesBack : MethodName := ⟨RX2, "putCopiesBack", "(LRingGates$Frame;)I"⟩
abbrev cX2_latestArgument : ByteArray := prog_4_method_14_code
def yX2_latestArgument : MethodName := ⟨RX2, "latestArgument", "(I)LRingGates$Argument;"⟩
abbrev cX2_isLatestOutward : ByteArray := prog_4_method_15_code
def yX2_isLatestOutward : MethodName := ⟨RX2, "isLatestOutward", "()Z"⟩
abbrev cX2_readArgument : ByteArray := prog_4_method_16_code
def yX2_readArgument : MethodName := ⟨RX2, "readArgument", "(I)I"⟩
abbrev cX2_writeArgument : ByteArray := prog_4_method_17_code
def yX2_writeArgument : MethodName := ⟨RX2, "writeArgument", "(I)I"⟩
abbrev cX2_seekOperand : ByteArray := prog_4_method_18_code
def yX2_seekOperand : MethodName := ⟨RX2, "seekOperand", "(IIIZ)I"⟩
abbrev cX2_goThrough : ByteArray := prog_4_method_19_code
def yX2_goThrough : MethodName := ⟨RX2, "goThrough", "(LRingGates$Segment;IZ)I"⟩
abbrev cX2_fetch : ByteArray := prog_4_method_20_code
def yX2_fetch : MethodName := ⟨RX2, "fetch", "(III)I"⟩
abbrev cX2_faultOfStore : ByteArray := prog_4_method_21_code
def yX2_faultOfStore : MethodName := ⟨RX2, "faultOfStore", "(III)I"⟩
abbrev cX2_store : ByteArray := prog_4_method_22_code
def yX2_store : MethodName := ⟨RX2, "store", "(III)V"⟩
abbrev cX2_copyFrom : ByteArray := prog_4_method_23_code
def yX2_copyFrom : MethodName := ⟨RX2, "copyFrom", "(LRingGates$Machine;)V"⟩
def RX3 : String := "RingGates$Segment"
def TX3 : u_T := fun k => match k with
  | 0 => ("RingGates$Segment", "there", "Z", false)
  | 1 => ("RingGates$Segment", "directory", "I", false)
  | 2 => ("RingGates$Segment", "name", "I", false)
  | 3 => ("RingGates$Segment", "serial", "I", false)
  | 4 => ("RingGates$Segment", "length", "I", false)
  | 5 => ("RingGates$Segment", "r1", "I", false)
  | 6 => ("RingGates$Segment", "r2", "I", false)
  | 7 => ("RingGates$Segment", "r3", "I", false)
  | 8 => ("RingGates$Segment", "may", "I", false)
  | 9 => ("RingGates$Segment", "gates", "I", false)
  | 10 => ("RingGates$Segment", "kinds", "[I", true)
  | 11 => ("RingGates$Segment", "values", "[I", true)
  | _ => ("RingGates$Segment", "knowns", "[I", true)
def tyX3 : Nat → FieldType := fun k => match k with
  | 0 => .boolean
  | 1 => .int
  | 2 => .int
  | 3 => .int
  | 4 => .int
  | 5 => .int
  | 6 => .int
  | 7 => .int
  | 8 => .int
  | 9 => .int
  | 10 => .array .int
  | 11 => .array .int
  | _ => .array .int
abbrev wsX30 : List Cond := u_ws RX3 TX3 13
theorem nmX3 : ∀ a, a < 13 → ∀ b, b < 13 → a ≠ b → (TX3 a).2.1 ≠ (TX3 b).2.1 := by decide +kernel
theorem tyX3_ok : ∀ k, k < 13 → parseFieldDescriptor (TX3 k).2.2.1 = some (tyX3 k) := by decide +kernel
abbrev cX3_init : ByteArray := prog_5_method_1_code
def yX3_init : MethodName := ⟨RX3, "<init>", "()V"⟩
abbrev cX3_has : ByteArray := prog_5_method_2_code
def yX3_has : MethodName := ⟨RX3, "has", "(I)Z"⟩
abbrev cX3_kindAt : ByteArray := prog_5_method_3_code
def yX3_kindAt : MethodName := ⟨RX3, "kindAt", "(I)I"⟩
abbrev cX3_valueAt : ByteArray := prog_5_method_4_code
def yX3_valueAt : MethodName := ⟨RX3, "valueAt", "(I)I"⟩
abbrev cX3_knownAt : ByteArray := prog_5_method_5_code
def yX3_knownAt : MethodName := ⟨RX3, "knownAt", "(I)I"⟩
abbrev cX3_become : ByteArray := prog_5_method_6_code
def yX3_become : MethodName := ⟨RX3, "become", "(IIII)V"⟩
abbrev cX3_letsRead : ByteArray := prog_5_method_7_code
def yX3_letsRead : MethodName := ⟨RX3, "letsRead", "(I)Z"⟩
abbrev cX3_letsWrite : ByteArray := prog_5_method_8_code
def yX3_letsWrite : MethodName := ⟨RX3, "letsWrite", "(I)Z"⟩
abbrev cX3_letsGo : ByteArray := prog_5_method_9_code
def yX3_letsGo : MethodName := ⟨RX3, "letsGo", "(I)Z"⟩
abbrev cX3_changeLength : ByteArray := prog_5_method_10_code
def yX3_changeLength : MethodName := ⟨RX3, "changeLength", "(I)V"⟩
abbrev cX3_snapped : ByteArray := prog_5_method_11_code
def yX3_snapped : MethodName := ⟨RX3, "snapped", "()I"⟩
abbrev cX3_unsnapAll : ByteArray := prog_5_method_12_code
def yX3_unsnapAll : MethodName := ⟨RX3, "unsnapAll", "()I"⟩
abbrev cX3_copyFrom : ByteArray := prog_5_method_13_code
def yX3_copyFrom : MethodName := ⟨RX3, "copyFrom", "(LRingGates$Segment;)V"⟩
def RX4 : String := "RingGates$Stacks"
def TX4 : u_T := fun k => match k with
  | 0 => ("RingGates$Stacks", "heights", "[I", true)
  | _ => ("RingGates$Stacks", "frames", "[LRingGates$Frame;", true)
def tyX4 : Nat → FieldType := fun k => match k with
  | 0 => .array .int
  | _ => .array (.object "RingGates$Frame")
abbrev wsX40 : List Cond := u_ws RX4 TX4 2
theorem nmX4 : ∀ a, a < 2 → ∀ b, b < 2 → a ≠ b → (TX4 a).2.1 ≠ (TX4 b).2.1 := by decide +kernel
theorem tyX4_ok : ∀ k, k < 2 → parseFieldDescriptor (TX4 k).2.2.1 = some (tyX4 k) := by decide +kernel
abbrev cX4_init : ByteArray := prog_6_method_1_code
def yX4_init : MethodName := ⟨RX4, "<init>", "()V"⟩
abbrev cX4_heightOf : ByteArray := prog_6_method_2_code
def yX4_heightOf : MethodName := ⟨RX4, "heightOf", "(I)I"⟩
abbrev cX4_frameAt : ByteArray := prog_6_method_3_code
def yX4_frameAt : MethodName := ⟨RX4, "frameAt", "(II)LRingGates$Frame;"⟩
abbrev cX4_latestOf : ByteArray := prog_6_method_4_code
def yX4_latestOf : MethodName := ⟨RX4, "latestOf", "(I)LRingGates$Frame;"⟩
abbrev cX4_push : ByteArray := prog_6_method_5_code
def yX4_push : MethodName := ⟨RX4, "push", "(ILRingGates$Frame;)Z"⟩
abbrev cX4_pop : ByteArray := prog_6_method_6_code
def yX4_pop : MethodName := ⟨RX4, "pop", "(I)V"⟩
abbrev cX4_framesOfAll : ByteArray := prog_6_method_7_code
def yX4_framesOfAll : MethodName := ⟨RX4, "framesOfAll", "()I"⟩
abbrev cX4_clear : ByteArray := prog_6_method_8_code
def yX4_clear : MethodName := ⟨RX4, "clear", "()V"⟩
abbrev cX4_copyFrom : ByteArray := prog_6_method_9_code
def yX4_copyFrom : MethodName := ⟨RX4, "copyFrom", "(LRingGates$Stacks;)V"⟩
def RX5 : String := "RingGates$Text"
def TX5 : u_T := fun k => match k with
  | 0 => ("RingGates$Text", "bytes", "[I", true)
  | 1 => ("RingGates$Text", "length", "I", false)
  | 2 => ("RingGates$Text", "words", "I", false)
  | 3 => ("RingGates$Text", "kinds", "[I", true)
  | 4 => ("RingGates$Text", "values", "[I", true)
  | 5 => ("RingGates$Text", "parts", "[I", true)
  | 6 => ("RingGates$Text", "at", "I", false)
  | _ => ("RingGates$Text", "fault", "I", false)
def tyX5 : Nat → FieldType := fun k => match k with
  | 0 => .array .int
  | 1 => .int
  | 2 => .int
  | 3 => .array .int
  | 4 => .array .int
  | 5 => .array .int
  | 6 => .int
  | _ => .int
abbrev wsX50 : List Cond := u_ws RX5 TX5 8
theorem nmX5 : ∀ a, a < 8 → ∀ b, b < 8 → a ≠ b → (TX5 a).2.1 ≠ (TX5 b).2.1 := by decide +kernel
theorem tyX5_ok : ∀ k, k < 8 → parseFieldDescriptor (TX5 k).2.2.1 = some (tyX5 k) := by decide +kernel
abbrev cX5_init : ByteArray := prog_7_method_1_code
def yX5_init : MethodName := ⟨RX5, "<init>", "()V"⟩
abbrev cX5_append : ByteArray := prog_7_method_2_code
def yX5_append : MethodName := ⟨RX5, "append", "(I)Z"⟩
abbrev cX5_kindOf : ByteArray := prog_7_method_3_code
def yX5_kindOf : MethodName := ⟨RX5, "kindOf", "(I)I"⟩
abbrev cX5_valueOf : ByteArray := prog_7_method_4_code
def yX5_valueOf : MethodName := ⟨RX5, "valueOf", "(I)I"⟩
abbrev cX5_read : ByteArray := prog_7_method_5_code
def yX5_read : MethodName := ⟨RX5, "read", "()V"⟩
abbrev cX5_readLine : ByteArray := prog_7_method_6_code
def yX5_readLine : MethodName := ⟨RX5, "readLine", "()V"⟩
abbrev cX5_tellWord : ByteArray := prog_7_method_7_code
def yX5_tellWord : MethodName := ⟨RX5, "tellWord", "(II)V"⟩
abbrev cX5_tell : ByteArray := prog_7_method_8_code
def yX5_tell : MethodName := ⟨RX5, "tell", "(II)V"⟩
abbrev cX5_byteAt : ByteArray := prog_7_method_9_code
def yX5_byteAt : MethodName := ⟨RX5, "byteAt", "(I)I"⟩
abbrev cX5_isLineEnd : ByteArray := prog_7_method_10_code
def yX5_isLineEnd : MethodName := ⟨RX5, "isLineEnd", "()Z"⟩
abbrev cX5_isLetter : ByteArray := prog_7_method_11_code
def yX5_isLetter : MethodName := ⟨RX5, "isLetter", "(I)Z"⟩
abbrev cX5_isDigit : ByteArray := prog_7_method_12_code
def yX5_isDigit : MethodName := ⟨RX5, "isDigit", "(I)Z"⟩
abbrev cX5_readWord : ByteArray := prog_7_method_13_code
def yX5_readWord : MethodName := ⟨RX5, "readWord", "()I"⟩
abbrev cX5_isSpelled : ByteArray := prog_7_method_14_code
def yX5_isSpelled : MethodName := ⟨RX5, "isSpelled", "(Ljava/lang/String;I)Z"⟩
abbrev cX5_readBlank : ByteArray := prog_7_method_15_code
def yX5_readBlank : MethodName := ⟨RX5, "readBlank", "()V"⟩
abbrev cX5_readPart : ByteArray := prog_7_method_16_code
def yX5_readPart : MethodName := ⟨RX5, "readPart", "(C)I"⟩
abbrev cX5_readSigned : ByteArray := prog_7_method_17_code
def yX5_readSigned : MethodName := ⟨RX5, "readSigned", "()I"⟩
abbrev cX5_readNumber : ByteArray := prog_7_method_18_code
def yX5_readNumber : MethodName := ⟨RX5, "readNumber", "(II)I"⟩
abbrev cX5_readName : ByteArray := prog_7_method_19_code
def yX5_readName : MethodName := ⟨RX5, "readName", "()I"⟩
abbrev cX5_spellingOf : ByteArray := prog_7_method_20_code
def yX5_spellingOf : MethodName := ⟨RX5, "spellingOf", "(I)Ljava/lang/String;"⟩
abbrev cX5_partsOf : ByteArray := prog_7_method_21_code
def yX5_partsOf : MethodName := ⟨RX5, "partsOf", "(I)Ljava/lang/String;"⟩
def RX6 : String := "RingGates$World"
def TX6 : u_T := fun k => match k with
  | 0 => ("RingGates$World", "directories", "I", false)
  | 1 => ("RingGates$World", "aboves", "[I", true)
  | 2 => ("RingGates$World", "quotas", "[I", true)
  | 3 => ("RingGates$World", "rules", "I", false)
  | 4 => ("RingGates$World", "ruleRow", "[I", true)
  | 5 => ("RingGates$World", "made", "I", false)
  | _ => ("RingGates$World", "segments", "[LRingGates$Segment;", true)
def tyX6 : Nat → FieldType := fun k => match k with
  | 0 => .int
  | 1 => .array .int
  | 2 => .array .int
  | 3 => .int
  | 4 => .array .int
  | 5 => .int
  | _ => .array (.object "RingGates$Segment")
abbrev wsX60 : List Cond := u_ws RX6 TX6 7
theorem nmX6 : ∀ a, a < 7 → ∀ b, b < 7 → a ≠ b → (TX6 a).2.1 ≠ (TX6 b).2.1 := by decide +kernel
theorem tyX6_ok : ∀ k, k < 7 → parseFieldDescriptor (TX6 k).2.2.1 = some (tyX6 k) := by decide +kernel
abbrev cX6_init : ByteArray := prog_8_method_1_code
def yX6_init : MethodName := ⟨RX6, "<init>", "()V"⟩
abbrev cX6_hasDirectory : ByteArray := prog_8_method_2_code
def yX6_hasDirectory : MethodName := ⟨RX6, "hasDirectory", "(I)Z"⟩
abbrev cX6_aboveOf : ByteArray := prog_8_method_3_code
def yX6_aboveOf : MethodName := ⟨RX6, "aboveOf", "(I)I"⟩
abbrev cX6_quotaOf : ByteArray := prog_8_method_4_code
def yX6_quotaOf : MethodName := ⟨RX6, "quotaOf", "(I)I"⟩
abbrev cX6_addQuota : ByteArray := prog_8_method_5_code
def yX6_addQuota : MethodName := ⟨RX6, "addQuota", "(II)V"⟩
abbrev cX6_makeDirectory : ByteArray := prog_8_method_6_code
def yX6_makeDirectory : MethodName := ⟨RX6, "makeDirectory", "(I)I"⟩
abbrev cX6_addRule : ByteArray := prog_8_method_7_code
def yX6_addRule : MethodName := ⟨RX6, "addRule", "(I)I"⟩
abbrev cX6_find : ByteArray := prog_8_method_8_code
def yX6_find : MethodName := ⟨RX6, "find", "(I)LRingGates$Segment;"⟩
abbrev cX6_leastFree : ByteArray := prog_8_method_9_code
def yX6_leastFree : MethodName := ⟨RX6, "leastFree", "()I"⟩
abbrev cX6_makeSegment : ByteArray := prog_8_method_10_code
def yX6_makeSegment : MethodName := ⟨RX6, "makeSegment", "(IIII)V"⟩
abbrev cX6_cellFrom : ByteArray := prog_8_method_11_code
def yX6_cellFrom : MethodName := ⟨RX6, "cellFrom", "(I)I"⟩
abbrev cX6_usedOf : ByteArray := prog_8_method_12_code
def yX6_usedOf : MethodName := ⟨RX6, "usedOf", "(I)I"⟩
abbrev cX6_hasRoom : ByteArray := prog_8_method_13_code
def yX6_hasRoom : MethodName := ⟨RX6, "hasRoom", "(II)Z"⟩
abbrev cX6_moveQuota : ByteArray := prog_8_method_14_code
def yX6_moveQuota : MethodName := ⟨RX6, "moveQuota", "(II)I"⟩
abbrev cX6_isAnyOverfull : ByteArray := prog_8_method_15_code
def yX6_isAnyOverfull : MethodName := ⟨RX6, "isAnyOverfull", "()Z"⟩
abbrev cX6_segmentsIn : ByteArray := prog_8_method_16_code
def yX6_segmentsIn : MethodName := ⟨RX6, "segmentsIn", "(I)I"⟩
abbrev cX6_named : ByteArray := prog_8_method_17_code
def yX6_named : MethodName := ⟨RX6, "named", "(II)I"⟩
abbrev cX6_seek : ByteArray := prog_8_method_18_code
def yX6_seek : MethodName := ⟨RX6, "seek", "(LRingGates$Segment;I)I"⟩
abbrev cX6_ringEntered : ByteArray := prog_8_method_19_code
def yX6_ringEntered : MethodName := ⟨RX6, "ringEntered", "(III)I"⟩
abbrev cX6_reachedByOneCall : ByteArray := prog_8_method_20_code
def yX6_reachedByOneCall : MethodName := ⟨RX6, "reachedByOneCall", "(I)I"⟩
abbrev cX6_staleIn : ByteArray := prog_8_method_21_code
def yX6_staleIn : MethodName := ⟨RX6, "staleIn", "(LRingGates$Segment;)I"⟩
abbrev cX6_segmentsThere : ByteArray := prog_8_method_22_code
def yX6_segmentsThere : MethodName := ⟨RX6, "segmentsThere", "()I"⟩
abbrev cX6_cells : ByteArray := prog_8_method_23_code
def yX6_cells : MethodName := ⟨RX6, "cells", "()I"⟩
abbrev cX6_quotaOfAll : ByteArray := prog_8_method_24_code
def yX6_quotaOfAll : MethodName := ⟨RX6, "quotaOfAll", "()I"⟩
abbrev cX6_recordsOfAll : ByteArray := prog_8_method_25_code
def yX6_recordsOfAll : MethodName := ⟨RX6, "recordsOfAll", "()I"⟩
abbrev cX6_snappedOfAll : ByteArray := prog_8_method_26_code
def yX6_snappedOfAll : MethodName := ⟨RX6, "snappedOfAll", "()I"⟩
abbrev cX6_copyFrom : ByteArray := prog_8_method_27_code
def yX6_copyFrom : MethodName := ⟨RX6, "copyFrom", "(LRingGates$World;)V"⟩
def RX7 : String := "RingGates"
def TX7 : u_T := fun k => match k with
  | 0 => ("RingGates", "now", "LRingGates$Machine;", true)
  | 1 => ("RingGates", "kept", "LRingGates$Machine;", true)
  | 2 => ("RingGates", "thought", "LRingGates$Machine;", true)
  | 3 => ("RingGates", "tape", "LRingGates$Text;", true)
  | 4 => ("RingGates", "isKept", "Z", false)
  | _ => ("RingGates", "latestWhy", "I", false)
def tyX7 : Nat → FieldType := fun k => match k with
  | 0 => .object "RingGates$Machine"
  | 1 => .object "RingGates$Machine"
  | 2 => .object "RingGates$Machine"
  | 3 => .object "RingGates$Text"
  | 4 => .boolean
  | _ => .int
abbrev wsX70 : List Cond := u_ws RX7 TX7 6
theorem nmX7 : ∀ a, a < 6 → ∀ b, b < 6 → a ≠ b → (TX7 a).2.1 ≠ (TX7 b).2.1 := by decide +kernel
theorem tyX7_ok : ∀ k, k < 6 → parseFieldDescriptor (TX7 k).2.2.1 = some (tyX7 k) := by decide +kernel
abbrev cX7_init : ByteArray := prog_1_method_1_code
def yX7_init : MethodName := ⟨RX7, "<init>", "()V"⟩
abbrev cX7_directory : ByteArray := prog_1_method_2_code
def yX7_directory : MethodName := ⟨RX7, "directory", "(I)I"⟩
abbrev cX7_segment : ByteArray := prog_1_method_3_code
def yX7_segment : MethodName := ⟨RX7, "segment", "(III)I"⟩
abbrev cX7_drop : ByteArray := prog_1_method_4_code
def yX7_drop : MethodName := ⟨RX7, "drop", "(I)I"⟩
abbrev cX7_resize : ByteArray := prog_1_method_5_code
def yX7_resize : MethodName := ⟨RX7, "resize", "(II)I"⟩
abbrev cX7_rename : ByteArray := prog_1_method_6_code
def yX7_rename : MethodName := ⟨RX7, "rename", "(II)I"⟩
abbrev cX7_brackets : ByteArray := prog_1_method_7_code
def yX7_brackets : MethodName := ⟨RX7, "brackets", "(II)I"⟩
abbrev cX7_set : ByteArray := prog_1_method_8_code
def yX7_set : MethodName := ⟨RX7, "set", "(III)I"⟩
abbrev cX7_quota : ByteArray := prog_1_method_9_code
def yX7_quota : MethodName := ⟨RX7, "quota", "(II)I"⟩
abbrev cX7_cell : ByteArray := prog_1_method_10_code
def yX7_cell : MethodName := ⟨RX7, "cell", "(II)I"⟩
abbrev cX7_of : ByteArray := prog_1_method_11_code
def yX7_of : MethodName := ⟨RX7, "of", "(II)I"⟩
abbrev cX7_rule : ByteArray := prog_1_method_12_code
def yX7_rule : MethodName := ⟨RX7, "rule", "(I)I"⟩
abbrev cX7_lookup : ByteArray := prog_1_method_13_code
def yX7_lookup : MethodName := ⟨RX7, "lookup", "(II)I"⟩
abbrev cX7_number : ByteArray := prog_1_method_14_code
def yX7_number : MethodName := ⟨RX7, "number", "(III)I"⟩
abbrev cX7_pointer : ByteArray := prog_1_method_15_code
def yX7_pointer : MethodName := ⟨RX7, "pointer", "(IIIZ)I"⟩
abbrev cX7_link : ByteArray := prog_1_method_16_code
def yX7_link : MethodName := ⟨RX7, "link", "(IIII)I"⟩
abbrev cX7_act : ByteArray := prog_1_method_17_code
def yX7_act : MethodName := ⟨RX7, "act", "(IIIII)I"⟩
abbrev cX7_word : ByteArray := prog_1_method_18_code
def yX7_word : MethodName := ⟨RX7, "word", "(III)I"⟩
abbrev cX7_feed : ByteArray := prog_1_method_19_code
def yX7_feed : MethodName := ⟨RX7, "feed", "(I)I"⟩
abbrev cX7_load : ByteArray := prog_1_method_20_code
def yX7_load : MethodName := ⟨RX7, "load", "(II)I"⟩
abbrev cX7_unsnap : ByteArray := prog_1_method_21_code
def yX7_unsnap : MethodName := ⟨RX7, "unsnap", "(I)I"⟩
abbrev cX7_start : ByteArray := prog_1_method_22_code
def yX7_start : MethodName := ⟨RX7, "start", "(III)I"⟩
abbrev cX7_run : ByteArray := prog_1_method_23_code
def yX7_run : MethodName := ⟨RX7, "run", "(I)I"⟩
abbrev cX7_why : ByteArray := prog_1_method_24_code
def yX7_why : MethodName := ⟨RX7, "why", "()I"⟩
abbrev cX7_machine : ByteArray := prog_1_method_25_code
def yX7_machine : MethodName := ⟨RX7, "machine", "(I)I"⟩
abbrev cX7_frame : ByteArray := prog_1_method_26_code
def yX7_frame : MethodName := ⟨RX7, "frame", "(III)I"⟩
abbrev cX7_dry : ByteArray := prog_1_method_27_code
def yX7_dry : MethodName := ⟨RX7, "dry", "(II)I"⟩
abbrev cX7_operand : ByteArray := prog_1_method_28_code
def yX7_operand : MethodName := ⟨RX7, "operand", "(IIII)I"⟩
abbrev cX7_enters : ByteArray := prog_1_method_29_code
def yX7_enters : MethodName := ⟨RX7, "enters", "(III)I"⟩
abbrev cX7_access : ByteArray := prog_1_method_30_code
def yX7_access : MethodName := ⟨RX7, "access", "(II)I"⟩
abbrev cX7_ways : ByteArray := prog_1_method_31_code
def yX7_ways : MethodName := ⟨RX7, "ways", "(II)I"⟩
abbrev cX7_stale : ByteArray := prog_1_method_32_code
def yX7_stale : MethodName := ⟨RX7, "stale", "()I"⟩
abbrev cX7_drawn : ByteArray := prog_1_method_33_code
def yX7_drawn : MethodName := ⟨RX7, "drawn", "(II)I"⟩
abbrev cX7_image : ByteArray := prog_1_method_34_code
def yX7_image : MethodName := ⟨RX7, "image", "()I"⟩
abbrev cX7_back : ByteArray := prog_1_method_35_code
def yX7_back : MethodName := ⟨RX7, "back", "()I"⟩
abbrev cX7_count : ByteArray := prog_1_method_36_code
def yX7_count : MethodName := ⟨RX7, "count", "(I)I"⟩
abbrev cX7_isBelow : ByteArray := prog_1_method_37_code
def yX7_isBelow : MethodName := ⟨RX7, "isBelow", "(II)Z"⟩
abbrev cX7_recordsOf : ByteArray := prog_1_method_38_code
def yX7_recordsOf : MethodName := ⟨RX7, "recordsOf", "(I)I"⟩
abbrev cX7_segmentIn : ByteArray := prog_1_method_39_code
def yX7_segmentIn : MethodName := ⟨RX7, "segmentIn", "(I)I"⟩
abbrev cX7_ringIn : ByteArray := prog_1_method_40_code
def yX7_ringIn : MethodName := ⟨RX7, "ringIn", "(I)I"⟩
abbrev cX7_wordIn : ByteArray := prog_1_method_41_code
def yX7_wordIn : MethodName := ⟨RX7, "wordIn", "(I)I"⟩
abbrev cX7_write : ByteArray := prog_1_method_42_code
def yX7_write : MethodName := ⟨RX7, "write", "(LRingGates$Segment;III)I"⟩
abbrev cX7_isGranted : ByteArray := prog_1_method_43_code
def yX7_isGranted : MethodName := ⟨RX7, "isGranted", "(LRingGates$Segment;II)Z"⟩
abbrev cX7_lowestBit : ByteArray := prog_1_method_44_code
def yX7_lowestBit : MethodName := ⟨RX7, "lowestBit", "(I)I"⟩
abbrev cX7_copyNumbers : ByteArray := prog_1_method_45_code
def yX7_copyNumbers : MethodName := ⟨RX7, "copyNumbers", "([I[I)V"⟩
def RX8 : String := "RingGatesModel"
def TX8 : u_T := fun k => match k with
  | 0 => ("RingGatesModel", "now", "[I", true)
  | 1 => ("RingGatesModel", "then", "[I", true)
  | 2 => ("RingGatesModel", "kept", "[I", true)
  | 3 => ("RingGatesModel", "hasImage", "Z", false)
  | 4 => ("RingGatesModel", "why", "I", false)
  | 5 => ("RingGatesModel", "tape", "[I", true)
  | 6 => ("RingGatesModel", "taped", "I", false)
  | 7 => ("RingGatesModel", "length", "I", false)
  | 8 => ("RingGatesModel", "place", "I", false)
  | 9 => ("RingGatesModel", "fault", "I", false)
  | 10 => ("RingGatesModel", "lines", "[I", true)
  | 11 => ("RingGatesModel", "lineMany", "I", false)
  | 12 => ("RingGatesModel", "acts", "[Ljava/lang/String;", true)
  | 13 => ("RingGatesModel", "e", "I", false)
  | 14 => ("RingGatesModel", "segmentCame", "I", false)
  | 15 => ("RingGatesModel", "wordCame", "I", false)
  | 16 => ("RingGatesModel", "given", "[I", true)
  | _ => ("RingGatesModel", "whyThen", "I", false)
def tyX8 : Nat → FieldType := fun k => match k with
  | 0 => .array .int
  | 1 => .array .int
  | 2 => .array .int
  | 3 => .boolean
  | 4 => .int
  | 5 => .array .int
  | 6 => .int
  | 7 => .int
  | 8 => .int
  | 9 => .int
  | 10 => .array .int
  | 11 => .int
  | 12 => .array (.object "java/lang/String")
  | 13 => .int
  | 14 => .int
  | 15 => .int
  | 16 => .array .int
  | _ => .int
abbrev wsX80 : List Cond := u_ws RX8 TX8 18
theorem nmX8 : ∀ a, a < 18 → ∀ b, b < 18 → a ≠ b → (TX8 a).2.1 ≠ (TX8 b).2.1 := by decide +kernel
theorem tyX8_ok : ∀ k, k < 18 → parseFieldDescriptor (TX8 k).2.2.1 = some (tyX8 k) := by decide +kernel
abbrev cX8_init : ByteArray := prog_10_method_1_code
def yX8_init : MethodName := ⟨RX8, "<init>", "()V"⟩
abbrev cX8_in : ByteArray := prog_10_method_2_code
def yX8_in : MethodName := ⟨RX8, "in", "(JJJ)Z"⟩
abbrev cX8_copies : ByteArray := prog_10_method_3_code
def yX8_copies : MethodName := ⟨RX8, "copies", "([I[I)V"⟩
abbrev cX8_isDirectory : ByteArray := prog_10_method_4_code
def yX8_isDirectory : MethodName := ⟨RX8, "isDirectory", "(I)Z"⟩
abbrev cX8_isThere : ByteArray := prog_10_method_5_code
def yX8_isThere : MethodName := ⟨RX8, "isThere", "([II)Z"⟩
abbrev cX8_isSegment : ByteArray := prog_10_method_6_code
def yX8_isSegment : MethodName := ⟨RX8, "isSegment", "(I)Z"⟩
abbrev cX8_cellOf : ByteArray := prog_10_method_7_code
def yX8_cellOf : MethodName := ⟨RX8, "cellOf", "([II)I"⟩
abbrev cX8_records : ByteArray := prog_10_method_8_code
def yX8_records : MethodName := ⟨RX8, "records", "(I)I"⟩
abbrev cX8_used : ByteArray := prog_10_method_9_code
def yX8_used : MethodName := ⟨RX8, "used", "([II)I"⟩
abbrev cX8_isWithin : ByteArray := prog_10_method_10_code
def yX8_isWithin : MethodName := ⟨RX8, "isWithin", "([I)Z"⟩
abbrev cX8_directory : ByteArray := prog_10_method_11_code
def yX8_directory : MethodName := ⟨RX8, "directory", "(I)I"⟩
abbrev cX8_named : ByteArray := prog_10_method_12_code
def yX8_named : MethodName := ⟨RX8, "named", "(II)I"⟩
abbrev cX8_hasRoom : ByteArray := prog_10_method_13_code
def yX8_hasRoom : MethodName := ⟨RX8, "hasRoom", "(II)Z"⟩
abbrev cX8_segment : ByteArray := prog_10_method_14_code
def yX8_segment : MethodName := ⟨RX8, "segment", "(III)I"⟩
abbrev cX8_drop : ByteArray := prog_10_method_15_code
def yX8_drop : MethodName := ⟨RX8, "drop", "(I)I"⟩
abbrev cX8_resize : ByteArray := prog_10_method_16_code
def yX8_resize : MethodName := ⟨RX8, "resize", "(II)I"⟩
abbrev cX8_rename : ByteArray := prog_10_method_17_code
def yX8_rename : MethodName := ⟨RX8, "rename", "(II)I"⟩
abbrev cX8_brackets : ByteArray := prog_10_method_18_code
def yX8_brackets : MethodName := ⟨RX8, "brackets", "(II)I"⟩
abbrev cX8_set : ByteArray := prog_10_method_19_code
def yX8_set : MethodName := ⟨RX8, "set", "(III)I"⟩
abbrev cX8_quota : ByteArray := prog_10_method_20_code
def yX8_quota : MethodName := ⟨RX8, "quota", "(II)I"⟩
abbrev cX8_segmentsIn : ByteArray := prog_10_method_21_code
def yX8_segmentsIn : MethodName := ⟨RX8, "segmentsIn", "(I)I"⟩
abbrev cX8_cell : ByteArray := prog_10_method_22_code
def yX8_cell : MethodName := ⟨RX8, "cell", "(II)I"⟩
abbrev cX8_of : ByteArray := prog_10_method_23_code
def yX8_of : MethodName := ⟨RX8, "of", "(II)I"⟩
abbrev cX8_rule : ByteArray := prog_10_method_24_code
def yX8_rule : MethodName := ⟨RX8, "rule", "(I)I"⟩
abbrev cX8_found : ByteArray := prog_10_method_25_code
def yX8_found : MethodName := ⟨RX8, "found", "([III)I"⟩
abbrev cX8_lookup : ByteArray := prog_10_method_26_code
def yX8_lookup : MethodName := ⟨RX8, "lookup", "(II)I"⟩
abbrev cX8_writes : ByteArray := prog_10_method_27_code
def yX8_writes : MethodName := ⟨RX8, "writes", "([IIIIIIIII)V"⟩
abbrev cX8_told : ByteArray := prog_10_method_28_code
def yX8_told : MethodName := ⟨RX8, "told", "([IIII)I"⟩
abbrev cX8_isWord : ByteArray := prog_10_method_29_code
def yX8_isWord : MethodName := ⟨RX8, "isWord", "(II)Z"⟩
abbrev cX8_becomes : ByteArray := prog_10_method_30_code
def yX8_becomes : MethodName := ⟨RX8, "becomes", "(IIIIII)I"⟩
abbrev cX8_number : ByteArray := prog_10_method_31_code
def yX8_number : MethodName := ⟨RX8, "number", "(III)I"⟩
abbrev cX8_isPointer : ByteArray := prog_10_method_32_code
def yX8_isPointer : MethodName := ⟨RX8, "isPointer", "(I)Z"⟩
abbrev cX8_pointer : ByteArray := prog_10_method_33_code
def yX8_pointer : MethodName := ⟨RX8, "pointer", "(IIIZ)I"⟩
abbrev cX8_link : ByteArray := prog_10_method_34_code
def yX8_link : MethodName := ⟨RX8, "link", "(IIII)I"⟩
abbrev cX8_act : ByteArray := prog_10_method_35_code
def yX8_act : MethodName := ⟨RX8, "act", "(IIIII)I"⟩
abbrev cX8_toldOf : ByteArray := prog_10_method_36_code
def yX8_toldOf : MethodName := ⟨RX8, "toldOf", "(II)I"⟩
abbrev cX8_word : ByteArray := prog_10_method_37_code
def yX8_word : MethodName := ⟨RX8, "word", "(III)I"⟩
abbrev cX8_unsnap : ByteArray := prog_10_method_38_code
def yX8_unsnap : MethodName := ⟨RX8, "unsnap", "(I)I"⟩
abbrev cX8_feed : ByteArray := prog_10_method_39_code
def yX8_feed : MethodName := ⟨RX8, "feed", "(I)I"⟩
abbrev cX8_byteAt : ByteArray := prog_10_method_40_code
def yX8_byteAt : MethodName := ⟨RX8, "byteAt", "(I)I"⟩
abbrev cX8_many : ByteArray := prog_10_method_41_code
def yX8_many : MethodName := ⟨RX8, "many", "(III)I"⟩
abbrev cX8_is : ByteArray := prog_10_method_42_code
def yX8_is : MethodName := ⟨RX8, "is", "(IILjava/lang/String;)Z"⟩
abbrev cX8_stops : ByteArray := prog_10_method_43_code
def yX8_stops : MethodName := ⟨RX8, "stops", "()Z"⟩
abbrev cX8_sign : ByteArray := prog_10_method_44_code
def yX8_sign : MethodName := ⟨RX8, "sign", "(I)Z"⟩
abbrev cX8_digits : ByteArray := prog_10_method_45_code
def yX8_digits : MethodName := ⟨RX8, "digits", "(II)Z"⟩
abbrev cX8_value : ByteArray := prog_10_method_46_code
def yX8_value : MethodName := ⟨RX8, "value", "()Z"⟩
abbrev cX8_letter : ByteArray := prog_10_method_47_code
def yX8_letter : MethodName := ⟨RX8, "letter", "()Z"⟩
abbrev cX8_actLine : ByteArray := prog_10_method_48_code
def yX8_actLine : MethodName := ⟨RX8, "actLine", "(II)Z"⟩
abbrev cX8_line : ByteArray := prog_10_method_49_code
def yX8_line : MethodName := ⟨RX8, "line", "()Z"⟩
abbrev cX8_isText : ByteArray := prog_10_method_50_code
def yX8_isText : MethodName := ⟨RX8, "isText", "()Z"⟩
abbrev cX8_load : ByteArray := prog_10_method_51_code
def yX8_load : MethodName := ⟨RX8, "load", "(II)I"⟩
abbrev cX8_mayRead : ByteArray := prog_10_method_52_code
def yX8_mayRead : MethodName := ⟨RX8, "mayRead", "([III)Z"⟩
abbrev cX8_mayWrite : ByteArray := prog_10_method_53_code
def yX8_mayWrite : MethodName := ⟨RX8, "mayWrite", "([III)Z"⟩
abbrev cX8_mayGo : ByteArray := prog_10_method_54_code
def yX8_mayGo : MethodName := ⟨RX8, "mayGo", "([III)Z"⟩
abbrev cX8_there : ByteArray := prog_10_method_55_code
def yX8_there : MethodName := ⟨RX8, "there", "([III)I"⟩
abbrev cX8_comes : ByteArray := prog_10_method_56_code
def yX8_comes : MethodName := ⟨RX8, "comes", "([IIII)I"⟩
abbrev cX8_through : ByteArray := prog_10_method_57_code
def yX8_through : MethodName := ⟨RX8, "through", "([II)I"⟩
abbrev cX8_numberAt : ByteArray := prog_10_method_58_code
def yX8_numberAt : MethodName := ⟨RX8, "numberAt", "([IIII)I"⟩
abbrev cX8_putAt : ByteArray := prog_10_method_59_code
def yX8_putAt : MethodName := ⟨RX8, "putAt", "([IIII)I"⟩
abbrev cX8_frameAt : ByteArray := prog_10_method_60_code
def yX8_frameAt : MethodName := ⟨RX8, "frameAt", "(II)I"⟩
abbrev cX8_entered : ByteArray := prog_10_method_61_code
def yX8_entered : MethodName := ⟨RX8, "entered", "([IIII)I"⟩
abbrev cX8_calls : ByteArray := prog_10_method_62_code
def yX8_calls : MethodName := ⟨RX8, "calls", "([IIIII)I"⟩
abbrev cX8_backs : ByteArray := prog_10_method_63_code
def yX8_backs : MethodName := ⟨RX8, "backs", "([I)I"⟩
abbrev cX8_argument : ByteArray := prog_10_method_64_code
def yX8_argument : MethodName := ⟨RX8, "argument", "([IIZ)I"⟩
abbrev cX8_moves : ByteArray := prog_10_method_65_code
def yX8_moves : MethodName := ⟨RX8, "moves", "([IIII)I"⟩
abbrev cX8_steps : ByteArray := prog_10_method_66_code
def yX8_steps : MethodName := ⟨RX8, "steps", "([I)I"⟩
abbrev cX8_runs : ByteArray := prog_10_method_67_code
def yX8_runs : MethodName := ⟨RX8, "runs", "([II)I"⟩
abbrev cX8_start : ByteArray := prog_10_method_68_code
def yX8_start : MethodName := ⟨RX8, "start", "(III)I"⟩
abbrev cX8_run : ByteArray := prog_10_method_69_code
def yX8_run : MethodName := ⟨RX8, "run", "(I)I"⟩
abbrev cX8_why : ByteArray := prog_10_method_70_code
def yX8_why : MethodName := ⟨RX8, "why", "()I"⟩
abbrev cX8_machine : ByteArray := prog_10_method_71_code
def yX8_machine : MethodName := ⟨RX8, "machine", "(I)I"⟩
abbrev cX8_frame : ByteArray := prog_10_method_72_code
def yX8_frame : MethodName := ⟨RX8, "frame", "(III)I"⟩
abbrev cX8_dry : ByteArray := prog_10_method_73_code
def yX8_dry : MethodName := ⟨RX8, "dry", "(II)I"⟩
abbrev cX8_operand : ByteArray := prog_10_method_74_code
def yX8_operand : MethodName := ⟨RX8, "operand", "(IIII)I"⟩
abbrev cX8_enters : ByteArray := prog_10_method_75_code
def yX8_enters : MethodName := ⟨RX8, "enters", "(III)I"⟩
abbrev cX8_access : ByteArray := prog_10_method_76_code
def yX8_access : MethodName := ⟨RX8, "access", "(II)I"⟩
abbrev cX8_further : ByteArray := prog_10_method_77_code
def yX8_further : MethodName := ⟨RX8, "further", "(I)I"⟩
abbrev cX8_ways : ByteArray := prog_10_method_78_code
def yX8_ways : MethodName := ⟨RX8, "ways", "(II)I"⟩
abbrev cX8_snapped : ByteArray := prog_10_method_79_code
def yX8_snapped : MethodName := ⟨RX8, "snapped", "(Z)I"⟩
abbrev cX8_stale : ByteArray := prog_10_method_80_code
def yX8_stale : MethodName := ⟨RX8, "stale", "()I"⟩
abbrev cX8_drawn : ByteArray := prog_10_method_81_code
def yX8_drawn : MethodName := ⟨RX8, "drawn", "(II)I"⟩
abbrev cX8_segments : ByteArray := prog_10_method_82_code
def yX8_segments : MethodName := ⟨RX8, "segments", "()I"⟩
abbrev cX8_image : ByteArray := prog_10_method_83_code
def yX8_image : MethodName := ⟨RX8, "image", "()I"⟩
abbrev cX8_back : ByteArray := prog_10_method_84_code
def yX8_back : MethodName := ⟨RX8, "back", "()I"⟩
abbrev cX8_recordsAll : ByteArray := prog_10_method_85_code
def yX8_recordsAll : MethodName := ⟨RX8, "recordsAll", "()I"⟩
abbrev cX8_cells : ByteArray := prog_10_method_86_code
def yX8_cells : MethodName := ⟨RX8, "cells", "(Z)I"⟩
abbrev cX8_count : ByteArray := prog_10_method_87_code
def yX8_count : MethodName := ⟨RX8, "count", "(I)I"⟩
def RJ9 : String := "java/lang/Math"
abbrev cJ9_max_7cf53 : ByteArray := prog_11_method_65_code
def yJ9_max_7cf53 : MethodName := ⟨RJ9, "max", "(II)I"⟩
abbrev cJ9_min_7cf53 : ByteArray := prog_11_method_69_code
def yJ9_min_7cf53 : MethodName := ⟨RJ9, "min", "(II)I"⟩
def RJ0 : String := "java/lang/String"
abbrev cJ0_length_8abf5 : ByteArray := prog_12_method_54_code
def yJ0_length_8abf5 : MethodName := ⟨RJ0, "length", "()I"⟩
abbrev cJ0_charAt_5068e : ByteArray := prog_12_method_56_code
def yJ0_charAt_5068e : MethodName := ⟨RJ0, "charAt", "(I)C"⟩
abbrev cJ0_coder_7d493 : ByteArray := prog_12_method_152_code
def yJ0_coder_7d493 : MethodName := ⟨RJ0, "coder", "()B"⟩
abbrev cJ0_isLatin1_aae02 : ByteArray := prog_12_method_154_code
def yJ0_isLatin1_aae02 : MethodName := ⟨RJ0, "isLatin1", "()Z"⟩
abbrev cJ0_checkIndex_df160 : ByteArray := prog_12_method_155_code
def yJ0_checkIndex_df160 : MethodName := ⟨RJ0, "checkIndex", "(II)V"⟩
def RJ1 : String := "java/lang/StringLatin1"
abbrev cJ1_charAt_3b067 : ByteArray := prog_13_method_2_code
def yJ1_charAt_3b067 : MethodName := ⟨RJ1, "charAt", "([BI)C"⟩
def RJ2 : String := "java/lang/StringUTF16"
abbrev cJ2_getChar_3b067 : ByteArray := prog_14_method_5_code
def yJ2_getChar_3b067 : MethodName := ⟨RJ2, "getChar", "([BI)C"⟩
abbrev cJ2_length_9d52b : ByteArray := prog_14_method_6_code
def yJ2_length_9d52b : MethodName := ⟨RJ2, "length", "([B)I"⟩
abbrev cJ2_charAt_3b067 : ByteArray := prog_14_method_83_code
def yJ2_charAt_3b067 : MethodName := ⟨RJ2, "charAt", "([BI)C"⟩
abbrev cJ2_checkIndex_2214a : ByteArray := prog_14_method_91_code
def yJ2_checkIndex_2214a : MethodName := ⟨RJ2, "checkIndex", "(I[B)V"⟩
def RJ3 : String := "jdk/internal/util/Preconditions"
abbrev cJ3_checkIndex_8e157 : ByteArray := prog_15_method_11_code
def yJ3_checkIndex_8e157 : MethodName := ⟨RJ3, "checkIndex", "(IILjava/util/function/BiFunction;)I"⟩
def RL : String := "RingGatesLaw"
abbrev vcl : List vw_C := [(RX0, TX0, 5), (RX1, TX1, 6), (RX2, TX2, 12), (RX3, TX3, 13), (RX4, TX4, 2), (RX5, TX5, 8), (RX6, TX6, 7), (RX7, TX7, 6), (RX8, TX8, 18)]
def vtb : List Cond := lw_tbl.filter goodWord
theorem vtb_m {w : Cond} (i : Nat) (h : tables_1[i]? = some w) (hg : goodWord w = true) : w ∈ vtb := List.mem_filter.mpr ⟨List.mem_append_right _ (List.mem_of_getElem? h), hg⟩
theorem vtb_s {w : Cond} (i : Nat) (h : (k2_sels lw_privs)[i]? = some w) (hg : goodWord w = true) : w ∈ vtb := List.mem_filter.mpr ⟨List.mem_append_left _ (List.mem_of_getElem? h), hg⟩
theorem vtb_hts {args : Array Value} {s : State} (h : ∀ w ∈ lw_tbl, w.before args s = true) : ∀ w ∈ vtb, w.before args s = true := fun w hw => h w (List.mem_filter.mp hw).1
theorem vtb_good {ws : List Cond} (h : ∀ w ∈ ws, w ∈ vtb) : GoodIn vtb ws := fun w hw => ⟨h w hw, good_of_word (List.mem_filter.mp (h w hw)).2⟩
theorem inv_X0 : ∀ w ∈ u_ws RX0 TX0 5, w ∈ vtb := fun w h => List.mem_filter.mpr ⟨(show ∀ w ∈ u_ws RX0 TX0 5, w ∈ lw_tbl by decide +kernel) w h, (show ∀ w ∈ u_ws RX0 TX0 5, goodWord w = true by decide +kernel) w h⟩
theorem inv_X1 : ∀ w ∈ u_ws RX1 TX1 6, w ∈ vtb := fun w h => List.mem_filter.mpr ⟨(show ∀ w ∈ u_ws RX1 TX1 6, w ∈ lw_tbl by decide +kernel) w h, (show ∀ w ∈ u_ws RX1 TX1 6, goodWord w = true by decide +kernel) w h⟩
theorem inv_X2 : ∀ w ∈ u_ws RX2 TX2 12, w ∈ vtb := fun w h => List.mem_filter.mpr ⟨(show ∀ w ∈ u_ws RX2 TX2 12, w ∈ lw_tbl by decide +kernel) w h, (show ∀ w ∈ u_ws RX2 TX2 12, goodWord w = true by decide +kernel) w h⟩
theorem inv_X3 : ∀ w ∈ u_ws RX3 TX3 13, w ∈ vtb := fun w h => List.mem_filter.mpr ⟨(show ∀ w ∈ u_ws RX3 TX3 13, w ∈ lw_tbl by decide +kernel) w h, (show ∀ w ∈ u_ws RX3 TX3 13, goodWord w = true by decide +kernel) w h⟩
theorem inv_X4 : ∀ w ∈ u_ws RX4 TX4 2, w ∈ vtb := fun w h => List.mem_filter.mpr ⟨(show ∀ w ∈ u_ws RX4 TX4 2, w ∈ lw_tbl by decide +kernel) w h, (show ∀ w ∈ u_ws RX4 TX4 2, goodWord w = true by decide +kernel) w h⟩
theorem inv_X5 : ∀ w ∈ u_ws RX5 TX5 8, w ∈ vtb := fun w h => List.mem_filter.mpr ⟨(show ∀ w ∈ u_ws RX5 TX5 8, w ∈ lw_tbl by decide +kernel) w h, (show ∀ w ∈ u_ws RX5 TX5 8, goodWord w = true by decide +kernel) w h⟩
theorem inv_X6 : ∀ w ∈ u_ws RX6 TX6 7, w ∈ vtb := fun w h => List.mem_filter.mpr ⟨(show ∀ w ∈ u_ws RX6 TX6 7, w ∈ lw_tbl by decide +kernel) w h, (show ∀ w ∈ u_ws RX6 TX6 7, goodWord w = true by decide +kernel) w h⟩
theorem inv_X7 : ∀ w ∈ u_ws RX7 TX7 6, w ∈ vtb := fun w h => List.mem_filter.mpr ⟨(show ∀ w ∈ u_ws RX7 TX7 6, w ∈ lw_tbl by decide +kernel) w h, (show ∀ w ∈ u_ws RX7 TX7 6, goodWord w = true by decide +kernel) w h⟩
theorem inv_X8 : ∀ w ∈ u_ws RX8 TX8 18, w ∈ vtb := fun w h => List.mem_filter.mpr ⟨(show ∀ w ∈ u_ws RX8 TX8 18, w ∈ lw_tbl by decide +kernel) w h, (show ∀ w ∈ u_ws RX8 TX8 18, goodWord w = true by decide +kernel) w h⟩
end
section
/-! LAYER V: a fixed graph of objects (kind k, index x), its payload, a judgement at an instruction that hides the machine's context -/
abbrev vV : Type := Int32 ⊕ (Int64 ⊕ (Option (Nat × Nat) ⊕ Nat))
abbrev vI (x : Int32) : vV := .inl x
abbrev vL (x : Int64) : vV := .inr (.inl x)
abbrev vR (k x : Nat) : vV := .inr (.inr (.inl (some (k, x))))
abbrev vO (k : Nat) (o : Option Nat) : vV := .inr (.inr (.inl (o.map fun x => (k, x))))
abbrev vN : vV := .inr (.inr (.inl none))
abbrev vT (j : Nat) : vV := .inr (.inr (.inr j))
/-- classes and slots; array classes (0 int, 1 Segment, 2 Frame, 3 Argument, 4 String); addresses of objects; of strings (and what else lies outside); where the graph begins -/
abbrev vG : Type := va_G × (Nat → ClassId) × (Nat → Nat → Nat) × (Nat → Nat) × Nat
def vv (g : vG) : vV → Value
  | .inl x => .int x
  | .inr (.inl x) => .long x
  | .inr (.inr (.inl none)) => .null
  | .inr (.inr (.inl (some q))) => .ref (g.2.2.1 q.1 q.2)
  | .inr (.inr (.inr j)) => .ref (g.2.2.2.1 j)
abbrev VP : Type := Nat → Nat → Nat → Int32
def vup (P : VP) (k x j : Nat) (v : Int32) : VP := fun k' x' j' => if k' = k ∧ x' = x ∧ j' = j then v else P k' x' j'
def vjn (P Q : VP) : VP := fun k => cond (Nat.blt k 22) (P k) (Q k)
/-- an index as a place -/
abbrev ix (i : Int32) : Nat := i.toNatClampNeg
def vcnt : Nat → Nat := fun k => match k with
  | 0 => 1 | 1 => 3 | 2 => 3 | 3 => 3 | 4 => 3 | 5 => 3 | 6 => 3 | 7 => 48 | 8 => 48 | 9 => 48 | 10 => 48 | 11 => 3 | 12 => 3 | 13 => 3
  | 14 => 147 | 15 => 147 | 16 => 441 | 17 => 1 | 18 => 1 | 19 => 1 | 20 => 1 | 21 => 1 | 22 => 1 | 23 => 1 | 24 => 1 | 25 => 1 | 26 => 1 | 27 => 1 | 28 => 1 | 29 => 1
  | _ => 0
/-- the lengths of the int arrays -/
def vlen : Nat → Nat := fun k => match k with
  | 3 => 8 | 4 => 8 | 5 => 4 | 8 => 24 | 9 => 24 | 10 => 24 | 12 => 8 | 18 => 120 | 19 => 121 | 20 => 121 | 21 => 3
  | 23 => 3464 | 24 => 3464 | 25 => 3464 | 26 => 120 | 27 => 480 | 28 => 12
  | _ => 0
def vArr (g : vG) (k : Nat) (f : Nat → Int32) : va_E := .inl (g.2.1 0, vlen k, .inl f)
def vRow (g : vG) (c n : Nat) (f : Nat → Nat) : va_E := .inl (g.2.1 c, n, .inr (.inr (.inr (.inr (fun j => some (f j))))))
def venc (g : vG) (J : VP) (k x : Nat) : va_E := match k with
  | 0 => .inr (7, [.ref (g.2.2.1 1 0), .ref (g.2.2.1 1 1), .ref (g.2.2.1 1 2), .ref (g.2.2.1 17 0), .int (J 0 x 4), .int (J 0 x 5)])
  | 1 => .inr (2, [.ref (g.2.2.1 2 x), .ref (g.2.2.1 11 x), .int (J 1 x 2), .int (J 1 x 3), .int (J 1 x 4), .int (J 1 x 5), .ref (g.2.2.1 14 (49 * x + 48)), .int (J 1 x 7), .int (J 1 x 8), .int (J 1 x 9), .int (J 1 x 10), .int (J 1 x 11)])
  | 2 => .inr (6, [.int (J 2 x 0), .ref (g.2.2.1 3 x), .ref (g.2.2.1 4 x), .int (J 2 x 3), .ref (g.2.2.1 5 x), .int (J 2 x 5), .ref (g.2.2.1 6 x)])
  | 3 => vArr g 3 (J 3 x)
  | 4 => vArr g 4 (J 4 x)
  | 5 => vArr g 5 (J 5 x)
  | 6 => vRow g 1 16 (fun j => g.2.2.1 7 (16 * x + j))
  | 7 => .inr (3, [.int (J 7 x 0), .int (J 7 x 1), .int (J 7 x 2), .int (J 7 x 3), .int (J 7 x 4), .int (J 7 x 5), .int (J 7 x 6), .int (J 7 x 7), .int (J 7 x 8), .int (J 7 x 9), .ref (g.2.2.1 8 x), .ref (g.2.2.1 9 x), .ref (g.2.2.1 10 x)])
  | 8 => vArr g 8 (J 8 x)
  | 9 => vArr g 9 (J 9 x)
  | 10 => vArr g 10 (J 10 x)
  | 11 => .inr (4, [.ref (g.2.2.1 12 x), .ref (g.2.2.1 13 x)])
  | 12 => vArr g 12 (J 12 x)
  | 13 => vRow g 2 48 (fun j => g.2.2.1 14 (49 * x + j))
  | 14 => .inr (1, [.int (J 14 x 0), .int (J 14 x 1), .int (J 14 x 2), .int (J 14 x 3), .int (J 14 x 4), .ref (g.2.2.1 15 x)])
  | 15 => vRow g 3 3 (fun j => g.2.2.1 16 (3 * x + j))
  | 16 => .inr (0, [.int (J 16 x 0), .int (J 16 x 1), .int (J 16 x 2), .int (J 16 x 3), .int (J 16 x 4)])
  | 17 => .inr (5, [.ref (g.2.2.1 18 x), .int (J 17 x 1), .int (J 17 x 2), .ref (g.2.2.1 19 x), .ref (g.2.2.1 20 x), .ref (g.2.2.1 21 x), .int (J 17 x 6), .int (J 17 x 7)])
  | 18 => vArr g 18 (J 18 x)
  | 19 => vArr g 19 (J 19 x)
  | 20 => vArr g 20 (J 20 x)
  | 21 => vArr g 21 (J 21 x)
  | 22 => .inr (8, [.ref (g.2.2.1 23 x), .ref (g.2.2.1 24 x), .ref (g.2.2.1 25 x), .int (J 22 x 3), .int (J 22 x 4), .ref (g.2.2.1 26 x), .int (J 22 x 6), .int (J 22 x 7), .int (J 22 x 8), .int (J 22 x 9), .ref (g.2.2.1 27 x), .int (J 22 x 11), .ref (g.2.2.1 29 x), .int (J 22 x 13), .int (J 22 x 14), .int (J 22 x 15), .ref (g.2.2.1 28 x), .int (J 22 x 17)])
  | 23 => vArr g 23 (J 23 x)
  | 24 => vArr g 24 (J 24 x)
  | 25 => vArr g 25 (J 25 x)
  | 26 => vArr g 26 (J 26 x)
  | 27 => vArr g 27 (J 27 x)
  | 28 => vArr g 28 (J 28 x)
  | _ => vRow g 4 10 (fun j => g.2.2.2.1 j)
def vOK (g : vG) : Prop := (∀ k x k' x' : Nat, x < vcnt k → x' < vcnt k' → g.2.2.1 k x = g.2.2.1 k' x' → k = k' ∧ x = x') ∧ ∀ k x : Nat, x < vcnt k → g.2.2.2.2 ≤ g.2.2.1 k x
def vW (g : vG) (J : VP) (H : Heap) : Prop := ∀ k x : Nat, x < vcnt k → va_at g.1 vcl (g.2.2.1 k x, venc g J k x) H
def vA (g : vG) : Nat → Prop := fun q => g.2.2.2.2 ≤ q
abbrev vtys (g : vG) : List (ClassId × FieldType) := [(g.2.1 0, .int), (g.2.1 1, .object "RingGates$Segment"), (g.2.1 2, .object "RingGates$Frame"), (g.2.1 3, .object "RingGates$Argument"), (g.2.1 4, .object "java/lang/String")]
def vnest : List Cond := [.methodLinkNest "RingGates" 9 yX2_init "RingGates", .methodLinkNest "RingGates$World" 31 yX3_init "RingGates", .methodLinkNest "RingGates$Frame" 17 yX0_init "RingGates", .methodLinkNest "RingGates" 24 yX5_init "RingGates", .methodLinkNest "RingGates$World" 88 yX7_recordsOf "RingGates", .methodLinkNest "RingGates$Machine" 205 yX7_segmentIn "RingGates", .methodLinkNest "RingGates$Machine" 208 yX7_wordIn "RingGates", .methodLinkNest "RingGates$Machine" 211 yX7_ringIn "RingGates", .methodLinkNest "RingGates$World" 136 yX7_copyNumbers "RingGates", .methodLinkNest "RingGates$Segment" 74 yX7_copyNumbers "RingGates", .methodLinkNest "RingGates$World" 129 yX7_segmentIn "RingGates"]
/-- the strings: class, entry, text, number -/
def vstr : List (String × Nat × String × Nat) := [("RingGates$Text", 102, "halt", 0), ("RingGates$Text", 104, "take", 1), ("RingGates$Text", 106, "put", 2), ("RingGates$Text", 108, "add", 3), ("RingGates$Text", 110, "go", 4), ("RingGates$Text", 112, "call", 5), ("RingGates$Text", 114, "back", 6), ("RingGates$Text", 116, "arg", 7), ("RingGates$Text", 118, "set", 8), ("RingGates$Text", 120, "test", 9), ("RingGates$Text", 122, "num", 10), ("RingGates$Text", 124, "ptr", 11), ("RingGates$Text", 126, "ind", 12), ("RingGates$Text", 128, "none", 13), ("RingGates$Text", 130, "link", 14), ("RingGates$Text", 132, "W", 15), ("RingGates$Text", 134, "WN", 16), ("RingGates$Text", 136, "K", 17), ("RingGates$Text", 138, "V", 18), ("RingGates$Text", 140, "RSW", 19), ("RingGates$Text", 142, "LW", 20), ("RingGates$Text", 144, "", 21), ("RingGatesModel", 27, "halt", 0), ("RingGatesModel", 29, "take", 1), ("RingGatesModel", 31, "put", 2), ("RingGatesModel", 33, "add", 3), ("RingGatesModel", 35, "go", 4), ("RingGatesModel", 37, "call", 5), ("RingGatesModel", 39, "back", 6), ("RingGatesModel", 41, "arg", 7), ("RingGatesModel", 43, "set", 8), ("RingGatesModel", 45, "test", 9), ("RingGatesModel", 192, "none", 13), ("RingGatesModel", 194, "num", 10), ("RingGatesModel", 199, "ptr", 11), ("RingGatesModel", 201, "ind", 12), ("RingGatesModel", 203, "link", 14)]
def vlenS : List Nat := [4, 4, 3, 3, 2, 4, 4, 3, 3, 4, 3, 3, 3, 4, 4, 1, 2, 1, 1, 3, 2, 0]
def vbytS : List (List Int32) := [[104, 97, 108, 116], [116, 97, 107, 101], [112, 117, 116], [97, 100, 100], [103, 111], [99, 97, 108, 108], [98, 97, 99, 107], [97, 114, 103], [115, 101, 116], [116, 101, 115, 116], [110, 117, 109], [112, 116, 114], [105, 110, 100], [110, 111, 110, 101], [108, 105, 110, 107], [87], [87, 78], [75], [86], [82, 83, 87], [76, 87], []]
/-- what is known of the machine's tables, and of what lies outside the graph -/
def vK (g : vG) (U : State) : Prop := (vOK g ∧ g.2.2.2.2 ≤ U.heap.size) ∧ va_K g.1 vcl (vtys g) U ∧ (∀ w ∈ vnest, va_Nw w U) ∧ (∀ q ∈ vstr, vk_R q.1 q.2.1 q.2.2.1 (g.2.2.2.1 q.2.2.2) U) ∧ vk_S 22 vlenS vbytS g.2.2.2.1 (fun j => g.2.2.2.1 (22 + j)) (vA g) U U.heap ∧ va_Z "java/lang/String" "COMPACT_STRINGS" "Z" (.int 1) (vA g) U U.heap ∧ (va_Z "jdk/internal/util/Preconditions" "SIOOBE_FORMATTER" "Ljava/util/function/BiFunction;" .null (vA g) U U.heap ∨ va_Z "jdk/internal/util/Preconditions" "SIOOBE_FORMATTER" "Ljava/util/function/BiFunction;" (.ref (g.2.2.2.1 44)) (vA g) U U.heap)
def vrm (d : Nat) : Room := { frames := d, cells := 0, slots := 0, locals := 38 * d }
def vQ (g : vG) (post : Option vV → VP → Prop) : Array Value → State → Outcome → State → Prop := fun _ st oc t => (∃ (r : Option vV) (J : VP), oc = .returned (r.map (vv g)) ∧ post r J ∧ vW g J t.heap) ∧ va_F (vA g) st t
/-- the contract of a method -/
def VC (l : Launch) (g : vG) (y : MethodName) (bs : ByteArray) (nL : Nat) (rt : Option FieldType) (d : Nat) (av : List vV) (J : VP) (post : Option vV → VP → Prop) : Prop :=
  Met l y (.code y bs nL rt :: vtb) (vrm d) (va_Pc (av.map (vv g)) (fun U => vK g U ∧ vW g J U.heap)) (vQ g post) 0 0 (vA g)
abbrev vls (g : vG) (ll : List (Nat × vV)) : List (Nat × Value) := ll.map fun q => (q.1, vv g q.2)
/-- the context of a method's run -/
def vC (g : vG) (own : String) (bs : ByteArray) (nL : Nat) (rt : Option FieldType) (E : Array Value → State → Prop) (p : Program) (s : State) (m : MethodId) (args : Array Value) (meth : Method) (c : Code) : Prop :=
  p.tables.exec = Jvm.exec ∧ c.code = bs ∧ c.maxLocals = nL ∧ meth.sig.returnType = rt ∧ meth.locks = false ∧ s.vm.findClass own = some m.cls ∧ (∀ w ∈ vtb, w.before args s = true) ∧ vK g s ∧ E args s
/-- the judgement at an instruction -/
def VB (l : Launch) (g : vG) (own : String) (bs : ByteArray) (nL : Nat) (rt : Option FieldType) (R : Room) (ce sl : Nat) (E : Array Value → State → Prop) (Qf : List Frame → Array Value → State → State → Prop) (pc : Nat) (ll : List (Nat × vV)) (st : List vV) (J : VP) : Prop :=
  ∀ (p : Program) (e : Env) (s : State) (m : MethodId) (args : Array Value) (below : List Frame) (meth : Method) (c : Code) (H : Heap) (locs : List Loc) (ls : Array Slot),
    vC g own bs nL rt E p s m args meth c → vW g J H → va_S (vA g) s.heap H locs → lv_has ls nL (vls g ll) →
    W p l e R s m args below meth c H locs ce sl (Qf below args s) (F0 m pc ls (st.map (vv g)))
def vE0 : Array Value → State → Prop := fun _ _ => True
def vQf (g : vG) (post : Option vV → VP → Prop) : List Frame → Array Value → State → State → Prop := fun below args s => MQ below (vQ g post) args s 0 0 (vA g)
abbrev VM (l : Launch) (g : vG) (own : String) (bs : ByteArray) (nL : Nat) (rt : Option FieldType) (d : Nat) (post : Option vV → VP → Prop) (pc : Nat) (ll : List (Nat × vV)) (st : List vV) (J : VP) : Prop := VB l g own bs nL rt (vrm d) 0 0 vE0 (vQf g post) pc ll st J
def vargs : Nat → List vV → List (Nat × vV)
  | _, [] => []
  | i, .inr (.inl x) :: vs => (i, .inr (.inl x)) :: vargs (i + 2) vs
  | i, v :: vs => (i, v) :: vargs (i + 1) vs
def vwide : vV → Bool
  | .inr (.inl _) => true
  | _ => false
theorem vv_cat (g : vG) (v : vV) : (vv g v).category = if vwide v then 2 else 1 := by
  rcases v with x | x | (_ | q) | j <;> rfl
theorem vv_catB (g : vG) (v : vV) : ((vv g v).category == 2) = vwide v := by
  rcases v with x | x | (_ | q) | j <;> rfl
theorem vargs_eq (g : vG) (vs : List vV) : ∀ i, lv_args i (vs.map (vv g)) = vls g (vargs i vs) := by
  induction vs with
  | nil => intro i; rfl
  | cons v vs ih =>
    intro i
    rcases v with x | x | (_ | q) | j
    · exact congrArg (List.cons (i, Value.int x)) (ih (i + 1))
    · exact congrArg (List.cons (i, Value.long x)) (ih (i + 2))
    · exact congrArg (List.cons (i, Value.null)) (ih (i + 1))
    · exact congrArg (List.cons (i, Value.ref (g.2.2.1 q.1 q.2))) (ih (i + 1))
    · exact congrArg (List.cons (i, Value.ref (g.2.2.2.1 j))) (ih (i + 1))
def vwsum : List vV → Nat
  | [] => 0
  | v :: vs => (if vwide v then 2 else 1) + vwsum vs
theorem vwsum_eq (g : vG) (vs : List vV) : ((vs.map (vv g)).map fun v => v.category).sum = vwsum vs := by
  induction vs with
  | nil => rfl
  | cons v vs ih =>
    simp only [List.map_cons, List.sum_cons, vwsum, vv_cat]
    rw [← ih]
theorem vsl_len (g : vG) (vs : List vV) : (lg_sl (vs.map (vv g))).length = vwsum vs := by
  induction vs with
  | nil => rfl
  | cons v vs ih =>
    simp only [List.map_cons, vwsum, ← ih, lg_sl, List.flatMap_cons, List.length_append, vv_cat]
    cases vwide v <;> simp
/-- a contract out of a walk -/
theorem VC.of {l : Launch} {g : vG} {y : MethodName} {bs : ByteArray} {nL : Nat} {rt : Option FieldType} {d : Nat} {av : List vV} {J : VP} {post : Option vV → VP → Prop} (hy : plainName y.cls = true) (hn : vwsum av ≤ nL)
    (h : VM l g y.cls bs nL rt d post 0 (vargs 0 av) [] J) : VC l g y bs nL rt d av J post := by
  refine Met.ofW (cc := bs) (maxL := nL) (ret := rt) hy rfl ?_
  intro p e s m args below meth c s₁ B hml hv
  obtain ⟨rfl, hK, hW⟩ := hv
  have hown : s.vm.findClass y.cls = some m.cls := findClass_of_methodNamed B.named
  have hts := atoms_spec (ws := .code y bs nL rt :: vtb) B.pre
  have hl := lv_entry (av.map (vv g)) (n := nL) (by rw [vsl_len]; exact hn)
  rw [vargs_eq] at hl
  rw [lg_entry_eq]
  exact h p e s m _ below meth c s.heap [] _ ⟨B.exec, B.bytes, hml, B.returns, B.notSynchronized, hown, fun w hw => hts w (List.mem_cons_of_mem _ hw), hK, trivial⟩ hW va_S.rf hl
end
section
/-! LAYER V: a row an instruction -/
section VROWS
variable {l : Launch} {g : vG} {own : String} {bs : ByteArray} {nL : Nat} {rt : Option FieldType} {R : Room} {ce sl : Nat} {E : Array Value → State → Prop} {Qf : List Frame → Array Value → State → State → Prop} {pc : Nat} {ll : List (Nat × vV)} {st : List vV} {J : VP}
theorem vr_get (own' : String) {k x j : Nat} {v : vV} {ci : Nat} {fs : List Value} {C n d : String} {T : u_T} {N idx : Nat} (ho : own = own') (hx : x < vcnt k) (he : venc g J k x = .inr (ci, fs)) (hc : vcl[ci]? = some (C, T, N)) (hin : ∀ w ∈ u_ws C T N, w ∈ vtb) (hj : j < N) (hT : (T j).1 = C ∧ (T j).2.1 = n ∧ (T j).2.2.1 = d) (hl : Cond.fieldLink own' idx C n d ∈ vtb) (hv : fs[j]? = some (vv g v)) (hd : decode bs pc = .ok (.getfield idx, 3))
    (h : VB l g own bs nL rt R ce sl E Qf (pc + 3) ll (v :: st) J) : VB l g own bs nL rt R ce sl E Qf pc ll (vR k x :: st) J := fun p e s m args below meth c H locs ls C0 w S L => by
  subst ho
  obtain ⟨rfl, rfl, rfl⟩ := hT
  obtain ⟨hx0, hb0, -, -, -, hown, hts, hK, -⟩ := id C0
  have hP : va_P g.1 vcl [(g.2.2.1 k x, venc g J k x)] H := fun i q hi => by
    have h1 : i < 1 := (List.getElem?_eq_some_iff.mp hi).1
    obtain rfl : i = 0 := by omega
    cases hi
    exact w k x hx
  rw [he] at hP
  exact va_get hx0 hb0 hts hin hown hK.2.1 hP 0 rfl hc j hj (hts _ hl) (fun _ hh => hh) hv hd (h p e s m args below meth c H locs ls C0 w S L)
/-- what a world becomes when a slot of an object gets an int -/
theorem vW_set {J : VP} {H H1 : Heap} {k x j : Nat} {v : Int32} (hO : vOK g) (hx : x < vcnt k) (w : vW g J H) (h1 : va_at g.1 vcl (g.2.2.1 k x, venc g (vup J k x j v) k x) H1) (oq : ∀ q : Nat, q ≠ g.2.2.1 k x → H1[q]? = H[q]?) (hk : ∀ k' x' : Nat, ¬ (k' = k ∧ x' = x) → venc g (vup J k x j v) k' x' = venc g J k' x') : vW g (vup J k x j v) H1 := by
  intro k' x' hx'
  by_cases e : k' = k ∧ x' = x
  · obtain ⟨rfl, rfl⟩ := e
    exact h1
  · rw [hk k' x' e]
    exact (w k' x' hx').kept (oq _ (fun z => e (hO.1 k' x' k x hx' hx z)))
theorem venc_off (g : vG) (J : VP) {k x j : Nat} {v : Int32} {k' x' : Nat} (e : ¬ (k' = k ∧ x' = x)) : venc g (vup J k x j v) k' x' = venc g J k' x' := by
  have f : ∀ k2 : Nat, k2 = k' → (fun j' => vup J k x j v k2 x' j') = fun j' => J k2 x' j' := by
    intro k2 h2
    funext j'
    subst h2
    unfold vup
    rw [if_neg]
    rintro ⟨a, b, -⟩
    exact e ⟨a, b⟩
  have f1 : ∀ (k2 j' : Nat), k2 = k' → vup J k x j v k2 x' j' = J k2 x' j' := fun k2 j' h2 => congrFun (f k2 h2) j'
  unfold venc
  split <;> simp only [f _ rfl, f1 _ _ rfl]
theorem vr_put (own' : String) {k x j : Nat} {v : Int32} {ci : Nat} {fs : List Value} {C n d : String} {T : u_T} {N idx : Nat} {ty : FieldType} {ty0 : Nat → FieldType} (ho : own = own') (hx : x < vcnt k) (he : venc g J k x = .inr (ci, fs)) (hc : vcl[ci]? = some (C, T, N)) (hin : ∀ w ∈ u_ws C T N, w ∈ vtb) (hty : ∀ k, k < N → parseFieldDescriptor (T k).2.2.1 = some (ty0 k)) (hnm : ∀ a, a < N → ∀ b, b < N → a ≠ b → (T a).2.1 ≠ (T b).2.1) (hj : j < N) (hT : (T j).1 = C ∧ (T j).2.1 = n ∧ (T j).2.2.1 = d) (hl : Cond.fieldLink own' idx C n d ∈ vtb) (hfin : (T j).2.2.2 = false) (htj : ty0 j = ty) (hn : narrow ty (.int v) = .int v) (hfit : fits ty (.int v) = true) (hlen : j < fs.length) (hset : venc g (vup J k x j v) k x = .inr (ci, fs.set j (.int v))) (hd : decode bs pc = .ok (.putfield idx, 3))
    (h : VB l g own bs nL rt R ce sl E Qf (pc + 3) ll st (vup J k x j v)) : VB l g own bs nL rt R ce sl E Qf pc ll (vI v :: vR k x :: st) J := fun p e s m args below meth c H locs ls C0 w S L => by
  subst ho
  obtain ⟨hT1, rfl, rfl⟩ := hT
  obtain ⟨hx0, hb0, -, -, -, hown, hts, hK, -⟩ := id C0
  have hP : va_P g.1 vcl [(g.2.2.1 k x, venc g J k x)] H := fun i q hi => by
    have h1 : i < 1 := (List.getElem?_eq_some_iff.mp hi).1
    obtain rfl : i = 0 := by omega
    cases hi
    exact w k x hx
  rw [he] at hP
  have hD : va_D (vA g) [(g.2.2.1 k x, (.inr (ci, fs) : va_E))] := ⟨fun a b p q ha hb _ => by
    have h1 : a < 1 := (List.getElem?_eq_some_iff.mp ha).1
    have h2 : b < 1 := (List.getElem?_eq_some_iff.mp hb).1
    omega, fun a q ha => by
    have h1 : a < 1 := (List.getElem?_eq_some_iff.mp ha).1
    obtain rfl : a = 0 := by omega
    cases ha
    exact hK.1.1.2 k x hx⟩
  have hap := va_apart (own := own) hts hin ty0 hty hnm hK.2.1 hc
  obtain ⟨r, h1, cell, q1, q2, q3, q4⟩ := hP 0 _ rfl
  have hr : r = (C, T, N) := Option.some.inj (h1.symm.trans hc)
  subst hr
  obtain ⟨hS, hfc, kC, hkC, hkind⟩ := hK.2.1.1 ci _ hc
  obtain ⟨cf, kf, fi, f, hi, hsl⟩ := hS j hj
  have hlay := hts _ (hin _ (u_in_lay hj))
  unfold u_lay at hlay
  rw [if_neg (by rw [hfin]; decide)] at hlay
  have hst := (u_facts hfc hkC (u_lays hts hin hj) hi).1
  have h6 := u_store hfc hkC hkind hlay hi ((hty j hj).trans (congrArg some htj)) hn hfit
  refine W.putK hx0 hb0 (f := f) ⟨hown, hts _ hl, ⟨_, _, _, (show s.fieldFound? C (T j).2.1 (T j).2.2.1 = _ from hT1 ▸ hi)⟩, hst⟩ (by rw [q2]; exact h6) q1 q3 (by rw [hsl]; exact k2_hasslot (q4 j hj)) rfl rfl hd fun H' e1 e2 e3 => ?_
  rw [hsl] at e1 ⊢
  have hat : va_at g.1 vcl (g.2.2.1 k x, .inr (ci, fs.set j (.int v))) H' := ⟨_, hc, t_OB.to (V := updV (vp_V fs) j (.int v)) ⟨_, e1, q2, q3, t_set q4 hap hj (.int v)⟩ (fun i _ => vp_updV_set hlen (.int v) i)⟩
  exact h p e s m args below meth c H' _ ls C0 (vW_set hK.1.1 hx w (by rw [hset]; exact hat) e3 (fun k' x' z => venc_off g J z)) (S.put e2 e3 (hD.2 0 _ rfl)) L
theorem vr_iconst {n : Int} (v : Int32) (hd : decode bs pc = .ok (.iconst n, 1)) (hv : Int32.ofInt n = v)
    (h : VB l g own bs nL rt R ce sl E Qf (pc + 1) ll (vI v :: st) J) : VB l g own bs nL rt R ce sl E Qf pc ll st J := fun p e s m args below meth c H locs ls C0 w S L => lv_iconst C0.1 C0.2.1 hd hv (h p e s m args below meth c H locs ls C0 w S L)
theorem vr_bipush {n : Int} (v : Int32) (hd : decode bs pc = .ok (.bipush n, 2)) (hv : (Int8.ofInt n).toInt32 = v)
    (h : VB l g own bs nL rt R ce sl E Qf (pc + 2) ll (vI v :: st) J) : VB l g own bs nL rt R ce sl E Qf pc ll st J := fun p e s m args below meth c H locs ls C0 w S L => lv_bipush C0.1 C0.2.1 hd hv (h p e s m args below meth c H locs ls C0 w S L)
theorem vr_sipush {n : Int} (v : Int32) (hd : decode bs pc = .ok (.sipush n, 3)) (hv : (Int16.ofInt n).toInt32 = v)
    (h : VB l g own bs nL rt R ce sl E Qf (pc + 3) ll (vI v :: st) J) : VB l g own bs nL rt R ce sl E Qf pc ll st J := fun p e s m args below meth c H locs ls C0 w S L => lv_sipush C0.1 C0.2.1 hd hv (h p e s m args below meth c H locs ls C0 w S L)
theorem vr_lconst {n : Fin 2} (v : Int64) (hd : decode bs pc = .ok (.lconst n, 1)) (hv : Int64.ofNat (n : Nat) = v)
    (h : VB l g own bs nL rt R ce sl E Qf (pc + 1) ll (vL v :: st) J) : VB l g own bs nL rt R ce sl E Qf pc ll st J := fun p e s m args below meth c H locs ls C0 w S L => lv_lconst C0.1 C0.2.1 hd hv (h p e s m args below meth c H locs ls C0 w S L)
theorem vr_ldc {idx : Nat} (v : Int32) (hc : Cond.constant own idx v ∈ vtb) (hd : decode bs pc = .ok (.ldc idx, 2))
    (h : VB l g own bs nL rt R ce sl E Qf (pc + 2) ll (vI v :: st) J) : VB l g own bs nL rt R ce sl E Qf pc ll st J := fun p e s m args below meth c H locs ls C0 w S L => lv_ldc C0.1 C0.2.1 C0.2.2.2.2.2.1 (C0.2.2.2.2.2.2.1 _ hc) hd (h p e s m args below meth c H locs ls C0 w S L)
theorem vr_ldc2 {idx : Nat} (v : Int64) (hc : Cond.constantLong own idx v ∈ vtb) (hd : decode bs pc = .ok (.ldc2_w idx, 3))
    (h : VB l g own bs nL rt R ce sl E Qf (pc + 3) ll (vL v :: st) J) : VB l g own bs nL rt R ce sl E Qf pc ll st J := fun p e s m args below meth c H locs ls C0 w S L => lv_ldc2 C0.1 C0.2.1 C0.2.2.2.2.2.1 (C0.2.2.2.2.2.2.1 _ hc) hd (h p e s m args below meth c H locs ls C0 w S L)
theorem vr_ldcS {idx : Nat} {tx : String} (j : Nat) (hm : (own, idx, tx, j) ∈ vstr) (hd : decode bs pc = .ok (.ldc idx, 2))
    (h : VB l g own bs nL rt R ce sl E Qf (pc + 2) ll (vT j :: st) J) : VB l g own bs nL rt R ce sl E Qf pc ll st J := fun p e s m args below meth c H locs ls C0 w S L => va_ldcS C0.1 C0.2.1 C0.2.2.2.2.2.1 (C0.2.2.2.2.2.2.2.1.2.2.2.1 _ hm) hd (h p e s m args below meth c H locs ls C0 w S L)
theorem vr_anull  (hd : decode bs pc = .ok (.aconst_null, 1))
    (h : VB l g own bs nL rt R ce sl E Qf (pc + 1) ll (vN :: st) J) : VB l g own bs nL rt R ce sl E Qf pc ll st J := fun p e s m args below meth c H locs ls C0 w S L => lv_null C0.1 C0.2.1 hd (h p e s m args below meth c H locs ls C0 w S L)
theorem vls_at {q i : Nat} {v : vV} (hl : ll[q]? = some (i, v)) : (vls g ll)[q]? = some (i, vv g v) := by
  rw [List.getElem?_map, hl]; rfl
theorem vr_iload_n {x : Int32} {k : Fin 4} (i q : Nat) (hd : decode bs pc = .ok (.iload_n k, 1)) (hi : (k : Nat) = i) (hl : ll[q]? = some (i, vI x))
    (h : VB l g own bs nL rt R ce sl E Qf (pc + 1) ll (vI x :: st) J) : VB l g own bs nL rt R ce sl E Qf pc ll st J := fun p e s m args below meth c H locs ls C0 w S L => lv_iload_n C0.1 C0.2.1 hd hi (lv_at L q (vls_at hl)) (h p e s m args below meth c H locs ls C0 w S L)
theorem vr_iload {x : Int32} {i : Nat} (q : Nat) (hd : decode bs pc = .ok (.iload i, 2)) (hl : ll[q]? = some (i, vI x))
    (h : VB l g own bs nL rt R ce sl E Qf (pc + 2) ll (vI x :: st) J) : VB l g own bs nL rt R ce sl E Qf pc ll st J := fun p e s m args below meth c H locs ls C0 w S L => lv_iload C0.1 C0.2.1 hd (lv_at L q (vls_at hl)) (h p e s m args below meth c H locs ls C0 w S L)
theorem vr_lload_n {x : Int64} {k : Fin 4} (i q : Nat) (hd : decode bs pc = .ok (.lload_n k, 1)) (hi : (k : Nat) = i) (hl : ll[q]? = some (i, vL x))
    (h : VB l g own bs nL rt R ce sl E Qf (pc + 1) ll (vL x :: st) J) : VB l g own bs nL rt R ce sl E Qf pc ll st J := fun p e s m args below meth c H locs ls C0 w S L => lv_lload_n C0.1 C0.2.1 hd hi (lv_at L q (vls_at hl)) (h p e s m args below meth c H locs ls C0 w S L)
theorem vr_lload {x : Int64} {i : Nat} (q : Nat) (hd : decode bs pc = .ok (.lload i, 2)) (hl : ll[q]? = some (i, vL x))
    (h : VB l g own bs nL rt R ce sl E Qf (pc + 2) ll (vL x :: st) J) : VB l g own bs nL rt R ce sl E Qf pc ll st J := fun p e s m args below meth c H locs ls C0 w S L => lv_lload C0.1 C0.2.1 hd (lv_at L q (vls_at hl)) (h p e s m args below meth c H locs ls C0 w S L)
theorem vr_aload_n {z : Option (Nat × Nat) ⊕ Nat} {k : Fin 4} (i q : Nat) (hd : decode bs pc = .ok (.aload_n k, 1)) (hi : (k : Nat) = i) (hl : ll[q]? = some (i, .inr (.inr z)))
    (h : VB l g own bs nL rt R ce sl E Qf (pc + 1) ll (.inr (.inr z) :: st) J) : VB l g own bs nL rt R ce sl E Qf pc ll st J := fun p e s m args below meth c H locs ls C0 w S L => by
  rcases z with (_ | y) | j
  · exact lv_aload_nN C0.1 C0.2.1 hd hi (lv_at L q (vls_at hl)) (h p e s m args below meth c H locs ls C0 w S L)
  · exact lv_aload_n C0.1 C0.2.1 hd hi (lv_at L q (vls_at hl)) (h p e s m args below meth c H locs ls C0 w S L)
  · exact lv_aload_n C0.1 C0.2.1 hd hi (lv_at L q (vls_at hl)) (h p e s m args below meth c H locs ls C0 w S L)
theorem vr_aload {z : Option (Nat × Nat) ⊕ Nat} {i : Nat} (q : Nat) (hd : decode bs pc = .ok (.aload i, 2)) (hl : ll[q]? = some (i, .inr (.inr z)))
    (h : VB l g own bs nL rt R ce sl E Qf (pc + 2) ll (.inr (.inr z) :: st) J) : VB l g own bs nL rt R ce sl E Qf pc ll st J := fun p e s m args below meth c H locs ls C0 w S L => by
  rcases z with (_ | y) | j
  · exact lv_aloadN C0.1 C0.2.1 hd (lv_at L q (vls_at hl)) (h p e s m args below meth c H locs ls C0 w S L)
  · exact lv_aload C0.1 C0.2.1 hd (lv_at L q (vls_at hl)) (h p e s m args below meth c H locs ls C0 w S L)
  · exact lv_aload C0.1 C0.2.1 hd (lv_at L q (vls_at hl)) (h p e s m args below meth c H locs ls C0 w S L)
def vst (i : Nat) (v : vV) (ll : List (Nat × vV)) : List (Nat × vV) := (i, v) :: ll.filter (fun q => !(q.1 == i) && !(q.1 + 1 == i && vwide q.2))
def vstL (i : Nat) (v : vV) (ll : List (Nat × vV)) : List (Nat × vV) := (i, v) :: ll.filter (fun q => !(q.1 == i) && (!(q.1 == i + 1) && !(q.1 + 1 == i && vwide q.2)))
theorem vst_eq {i : Nat} {v : vV} {ll' : List (Nat × vV)} (he : vst i v ll = ll') : (i, vv g v) :: (vls g ll).filter (fun q => !(q.1 == i) && !(q.1 + 1 == i && q.2.category == 2)) = vls g ll' := by
  subst he
  show _ = (i, vv g v) :: vls g (ll.filter _)
  rw [List.filter_map]
  congr 2
  refine List.filter_congr fun q _ => ?_
  simp only [Function.comp, vv_catB]
theorem vstL_eq {i : Nat} {v : vV} {ll' : List (Nat × vV)} (he : vstL i v ll = ll') : (i, vv g v) :: (vls g ll).filter (fun q => !(q.1 == i) && (!(q.1 == i + 1) && !(q.1 + 1 == i && q.2.category == 2))) = vls g ll' := by
  subst he
  show _ = (i, vv g v) :: vls g (ll.filter _)
  rw [List.filter_map]
  congr 2
  refine List.filter_congr fun q _ => ?_
  simp only [Function.comp, vv_catB]
theorem vr_istore_n {x : Int32} {k : Fin 4} (i : Nat) (ll' : List (Nat × vV)) (hd : decode bs pc = .ok (.istore_n k, 1)) (hi : (k : Nat) = i) (hn : i < nL) (he : vst i (vI x) ll = ll')
    (h : VB l g own bs nL rt R ce sl E Qf (pc + 1) ll' st J) : VB l g own bs nL rt R ce sl E Qf pc ll (vI x :: st) J := fun p e s m args below meth c H locs ls C0 w S L => lv_istore_n C0.1 C0.2.1 hd hi L hn (vst_eq he) (fun ls L => h p e s m args below meth c H locs ls C0 w S L)
theorem vr_istore {x : Int32} {i : Nat} (ll' : List (Nat × vV)) (hd : decode bs pc = .ok (.istore i, 2)) (hn : i < nL) (he : vst i (vI x) ll = ll')
    (h : VB l g own bs nL rt R ce sl E Qf (pc + 2) ll' st J) : VB l g own bs nL rt R ce sl E Qf pc ll (vI x :: st) J := fun p e s m args below meth c H locs ls C0 w S L => lv_istore C0.1 C0.2.1 hd L hn (vst_eq he) (fun ls L => h p e s m args below meth c H locs ls C0 w S L)
theorem vr_lstore_n {x : Int64} {k : Fin 4} (i : Nat) (ll' : List (Nat × vV)) (hd : decode bs pc = .ok (.lstore_n k, 1)) (hi : (k : Nat) = i) (hn : i + 1 < nL) (he : vstL i (vL x) ll = ll')
    (h : VB l g own bs nL rt R ce sl E Qf (pc + 1) ll' st J) : VB l g own bs nL rt R ce sl E Qf pc ll (vL x :: st) J := fun p e s m args below meth c H locs ls C0 w S L => lv_lstore_n C0.1 C0.2.1 hd hi L hn (vstL_eq he) (fun ls L => h p e s m args below meth c H locs ls C0 w S L)
theorem vr_lstore {x : Int64} {i : Nat} (ll' : List (Nat × vV)) (hd : decode bs pc = .ok (.lstore i, 2)) (hn : i + 1 < nL) (he : vstL i (vL x) ll = ll')
    (h : VB l g own bs nL rt R ce sl E Qf (pc + 2) ll' st J) : VB l g own bs nL rt R ce sl E Qf pc ll (vL x :: st) J := fun p e s m args below meth c H locs ls C0 w S L => lv_lstore C0.1 C0.2.1 hd L hn (vstL_eq he) (fun ls L => h p e s m args below meth c H locs ls C0 w S L)
theorem vr_astore_n {z : Option (Nat × Nat) ⊕ Nat} {k : Fin 4} (i : Nat) (ll' : List (Nat × vV)) (hd : decode bs pc = .ok (.astore_n k, 1)) (hi : (k : Nat) = i) (hn : i < nL) (he : vst i (.inr (.inr z)) ll = ll')
    (h : VB l g own bs nL rt R ce sl E Qf (pc + 1) ll' st J) : VB l g own bs nL rt R ce sl E Qf pc ll (.inr (.inr z) :: st) J := fun p e s m args below meth c H locs ls C0 w S L => by
  rcases z with (_ | y) | j
  · exact lv_astore_nN C0.1 C0.2.1 hd hi L hn (vst_eq he) (fun ls L => h p e s m args below meth c H locs ls C0 w S L)
  · exact lv_astore_n C0.1 C0.2.1 hd hi L hn (vst_eq he) (fun ls L => h p e s m args below meth c H locs ls C0 w S L)
  · exact lv_astore_n C0.1 C0.2.1 hd hi L hn (vst_eq he) (fun ls L => h p e s m args below meth c H locs ls C0 w S L)
theorem vr_astore {z : Option (Nat × Nat) ⊕ Nat} {i : Nat} (ll' : List (Nat × vV)) (hd : decode bs pc = .ok (.astore i, 2)) (hn : i < nL) (he : vst i (.inr (.inr z)) ll = ll')
    (h : VB l g own bs nL rt R ce sl E Qf (pc + 2) ll' st J) : VB l g own bs nL rt R ce sl E Qf pc ll (.inr (.inr z) :: st) J := fun p e s m args below meth c H locs ls C0 w S L => by
  rcases z with (_ | y) | j
  · exact lv_astoreN C0.1 C0.2.1 hd L hn (vst_eq he) (fun ls L => h p e s m args below meth c H locs ls C0 w S L)
  · exact lv_astore C0.1 C0.2.1 hd L hn (vst_eq he) (fun ls L => h p e s m args below meth c H locs ls C0 w S L)
  · exact lv_astore C0.1 C0.2.1 hd L hn (vst_eq he) (fun ls L => h p e s m args below meth c H locs ls C0 w S L)
theorem vr_iinc {x : Int32} {i : Nat} {n : Int} (v : Int32) (q : Nat) (ll' : List (Nat × vV)) (hd : decode bs pc = .ok (.iinc i n, 3)) (hq : ll[q]? = some (i, vI x)) (hv : x + Int32.ofInt n = v) (hn : i < nL) (he : vst i (vI v) ll = ll')
    (h : VB l g own bs nL rt R ce sl E Qf (pc + 3) ll' st J) : VB l g own bs nL rt R ce sl E Qf pc ll st J := fun p e s m args below meth c H locs ls C0 w S L => lv_iinc C0.1 C0.2.1 hd L (vls_at hq) hv hn (vst_eq he) (fun ls L => h p e s m args below meth c H locs ls C0 w S L)
theorem vr_sub (ks : List Nat) (ll' : List (Nat × vV)) (he : ks.filterMap (fun k => ll[k]?) = ll')
    (h : VB l g own bs nL rt R ce sl E Qf pc ll' st J) : VB l g own bs nL rt R ce sl E Qf pc ll st J := fun p e s m args below meth c H locs ls C0 w S L => by
  subst he
  refine h p e s m args below meth c H locs ls C0 w S (lv_sub L ks ?_)
  unfold lv_pick
  show _ = List.map _ _
  rw [List.map_filterMap]
  exact congrArg (fun f => List.filterMap f ks) (funext fun k => List.getElem?_map ..)
theorem vr_iadd {x y : Int32} (hd : decode bs pc = .ok (.iadd, 1))
    (h : VB l g own bs nL rt R ce sl E Qf (pc + 1) ll (vI (x + y) :: st) J) : VB l g own bs nL rt R ce sl E Qf pc ll (vI y :: vI x :: st) J := fun p e s m args below meth c H locs ls C0 w S L => lv_iadd C0.1 C0.2.1 hd (h p e s m args below meth c H locs ls C0 w S L)
theorem vr_isub {x y : Int32} (hd : decode bs pc = .ok (.isub, 1))
    (h : VB l g own bs nL rt R ce sl E Qf (pc + 1) ll (vI (x - y) :: st) J) : VB l g own bs nL rt R ce sl E Qf pc ll (vI y :: vI x :: st) J := fun p e s m args below meth c H locs ls C0 w S L => lv_isub C0.1 C0.2.1 hd (h p e s m args below meth c H locs ls C0 w S L)
theorem vr_imul {x y : Int32} (hd : decode bs pc = .ok (.imul, 1))
    (h : VB l g own bs nL rt R ce sl E Qf (pc + 1) ll (vI (x * y) :: st) J) : VB l g own bs nL rt R ce sl E Qf pc ll (vI y :: vI x :: st) J := fun p e s m args below meth c H locs ls C0 w S L => lv_imul C0.1 C0.2.1 hd (h p e s m args below meth c H locs ls C0 w S L)
theorem vr_iand {x y : Int32} (hd : decode bs pc = .ok (.iand, 1))
    (h : VB l g own bs nL rt R ce sl E Qf (pc + 1) ll (vI (x &&& y) :: st) J) : VB l g own bs nL rt R ce sl E Qf pc ll (vI y :: vI x :: st) J := fun p e s m args below meth c H locs ls C0 w S L => lv_iand C0.1 C0.2.1 hd (h p e s m args below meth c H locs ls C0 w S L)
theorem vr_ior {x y : Int32} (hd : decode bs pc = .ok (.ior, 1))
    (h : VB l g own bs nL rt R ce sl E Qf (pc + 1) ll (vI (x ||| y) :: st) J) : VB l g own bs nL rt R ce sl E Qf pc ll (vI y :: vI x :: st) J := fun p e s m args below meth c H locs ls C0 w S L => lv_ior C0.1 C0.2.1 hd (h p e s m args below meth c H locs ls C0 w S L)
theorem vr_ladd {x y : Int64} (hd : decode bs pc = .ok (.ladd, 1))
    (h : VB l g own bs nL rt R ce sl E Qf (pc + 1) ll (vL (x + y) :: st) J) : VB l g own bs nL rt R ce sl E Qf pc ll (vL y :: vL x :: st) J := fun p e s m args below meth c H locs ls C0 w S L => lv_ladd C0.1 C0.2.1 hd (h p e s m args below meth c H locs ls C0 w S L)
theorem vr_lsub {x y : Int64} (hd : decode bs pc = .ok (.lsub, 1))
    (h : VB l g own bs nL rt R ce sl E Qf (pc + 1) ll (vL (x - y) :: st) J) : VB l g own bs nL rt R ce sl E Qf pc ll (vL y :: vL x :: st) J := fun p e s m args below meth c H locs ls C0 w S L => lv_lsub C0.1 C0.2.1 hd (h p e s m args below meth c H locs ls C0 w S L)
theorem vr_idiv {x y : Int32} (hd : decode bs pc = .ok (.idiv, 1)) (hne : ¬ y = 0)
    (h : VB l g own bs nL rt R ce sl E Qf (pc + 1) ll (vI (x / y) :: st) J) : VB l g own bs nL rt R ce sl E Qf pc ll (vI y :: vI x :: st) J := fun p e s m args below meth c H locs ls C0 w S L => lv_idiv C0.1 C0.2.1 hd hne (h p e s m args below meth c H locs ls C0 w S L)
theorem vr_irem {x y : Int32} (hd : decode bs pc = .ok (.irem, 1)) (hne : ¬ y = 0)
    (h : VB l g own bs nL rt R ce sl E Qf (pc + 1) ll (vI (x - x / y * y) :: st) J) : VB l g own bs nL rt R ce sl E Qf pc ll (vI y :: vI x :: st) J := fun p e s m args below meth c H locs ls C0 w S L => lv_irem C0.1 C0.2.1 hd hne (h p e s m args below meth c H locs ls C0 w S L)
theorem vr_ineg {x : Int32} (hd : decode bs pc = .ok (.ineg, 1))
    (h : VB l g own bs nL rt R ce sl E Qf (pc + 1) ll (vI (-x) :: st) J) : VB l g own bs nL rt R ce sl E Qf pc ll (vI x :: st) J := fun p e s m args below meth c H locs ls C0 w S L => lv_ineg C0.1 C0.2.1 hd (h p e s m args below meth c H locs ls C0 w S L)
theorem vr_ishl {x y : Int32} (hd : decode bs pc = .ok (.ishl, 1))
    (h : VB l g own bs nL rt R ce sl E Qf (pc + 1) ll (vI (x <<< (y &&& 31)) :: st) J) : VB l g own bs nL rt R ce sl E Qf pc ll (vI y :: vI x :: st) J := fun p e s m args below meth c H locs ls C0 w S L => lv_ishl C0.1 C0.2.1 hd (h p e s m args below meth c H locs ls C0 w S L)
theorem vr_ishr {x y : Int32} (hd : decode bs pc = .ok (.ishr, 1))
    (h : VB l g own bs nL rt R ce sl E Qf (pc + 1) ll (vI (x >>> (y &&& 31)) :: st) J) : VB l g own bs nL rt R ce sl E Qf pc ll (vI y :: vI x :: st) J := fun p e s m args below meth c H locs ls C0 w S L => lv_ishr C0.1 C0.2.1 hd (h p e s m args below meth c H locs ls C0 w S L)
theorem vr_iushr {x y : Int32} (hd : decode bs pc = .ok (.iushr, 1))
    (h : VB l g own bs nL rt R ce sl E Qf (pc + 1) ll (vI ((x.toUInt32 >>> (y.toUInt32 &&& Int32.toUInt32 31)).toInt32) :: st) J) : VB l g own bs nL rt R ce sl E Qf pc ll (vI y :: vI x :: st) J := fun p e s m args below meth c H locs ls C0 w S L => lv_iushr C0.1 C0.2.1 hd rfl (h p e s m args below meth c H locs ls C0 w S L)
theorem vr_i2l {x : Int32} (hd : decode bs pc = .ok (.i2l, 1))
    (h : VB l g own bs nL rt R ce sl E Qf (pc + 1) ll (vL x.toInt64 :: st) J) : VB l g own bs nL rt R ce sl E Qf pc ll (vI x :: st) J := fun p e s m args below meth c H locs ls C0 w S L => lv_i2l C0.1 C0.2.1 hd rfl (h p e s m args below meth c H locs ls C0 w S L)
theorem vr_l2i {x : Int64} (hd : decode bs pc = .ok (.l2i, 1))
    (h : VB l g own bs nL rt R ce sl E Qf (pc + 1) ll (vI x.toInt32 :: st) J) : VB l g own bs nL rt R ce sl E Qf pc ll (vL x :: st) J := fun p e s m args below meth c H locs ls C0 w S L => lv_l2i C0.1 C0.2.1 hd rfl (h p e s m args below meth c H locs ls C0 w S L)
theorem vr_lcmp {x y : Int64} (hd : decode bs pc = .ok (.lcmp, 1))
    (h : VB l g own bs nL rt R ce sl E Qf (pc + 1) ll (vI (lg_cmp x y) :: st) J) : VB l g own bs nL rt R ce sl E Qf pc ll (vL y :: vL x :: st) J := fun p e s m args below meth c H locs ls C0 w S L => W.lcmp C0.1 C0.2.1 hd (h p e s m args below meth c H locs ls C0 w S L)
theorem vr_dup {v : vV} (hd : decode bs pc = .ok (.dup, 1)) (hv : vwide v = false)
    (h : VB l g own bs nL rt R ce sl E Qf (pc + 1) ll (v :: v :: st) J) : VB l g own bs nL rt R ce sl E Qf pc ll (v :: st) J := fun p e s m args below meth c H locs ls C0 w S L => lv_dup C0.1 C0.2.1 hd (by rw [vv_cat, hv]; rfl) (h p e s m args below meth c H locs ls C0 w S L)
theorem vr_pop {v : vV} (hd : decode bs pc = .ok (.pop, 1)) (hv : vwide v = false)
    (h : VB l g own bs nL rt R ce sl E Qf (pc + 1) ll st J) : VB l g own bs nL rt R ce sl E Qf pc ll (v :: st) J := fun p e s m args below meth c H locs ls C0 w S L => lv_pop C0.1 C0.2.1 hd (by rw [vv_cat, hv]; rfl) (h p e s m args below meth c H locs ls C0 w S L)
theorem vr_dup2 {u v : vV} (hd : decode bs pc = .ok (.dup2, 1)) (hu : vwide u = false) (hv : vwide v = false)
    (h : VB l g own bs nL rt R ce sl E Qf (pc + 1) ll (u :: v :: u :: v :: st) J) : VB l g own bs nL rt R ce sl E Qf pc ll (u :: v :: st) J := fun p e s m args below meth c H locs ls C0 w S L => lv_dup2_11 C0.1 C0.2.1 hd (by rw [vv_cat, hu]; rfl) (by rw [vv_cat, hv]; rfl) (h p e s m args below meth c H locs ls C0 w S L)
theorem vr_goto {off : Int} (tgt : Nat) (hd : decode bs pc = .ok (.goto off, 3)) (ht : (pc : Int) + off = (tgt : Int))
    (h : VB l g own bs nL rt R ce sl E Qf tgt ll st J) : VB l g own bs nL rt R ce sl E Qf pc ll st J := fun p e s m args below meth c H locs ls C0 w S L => lv_goto C0.1 C0.2.1 hd ht (h p e s m args below meth c H locs ls C0 w S L)
theorem vr_ifeq {x : Int32} {off : Int} (tgt : Nat) (hd : decode bs pc = .ok (.ifCond .eq off, 3)) (ht : (pc : Int) + off = (tgt : Int))
    (h1 : (x = 0) → VB l g own bs nL rt R ce sl E Qf tgt ll st J) (h2 : ¬ (x = 0) → VB l g own bs nL rt R ce sl E Qf (pc + 3) ll st J) : VB l g own bs nL rt R ce sl E Qf pc ll (vI x :: st) J := fun p e s m args below meth c H locs ls C0 w S L => lv_if_eq C0.1 C0.2.1 hd ht (fun q => h1 q p e s m args below meth c H locs ls C0 w S L) (fun q => h2 q p e s m args below meth c H locs ls C0 w S L)
theorem vr_ifne {x : Int32} {off : Int} (tgt : Nat) (hd : decode bs pc = .ok (.ifCond .ne off, 3)) (ht : (pc : Int) + off = (tgt : Int))
    (h1 : (x = 0) → VB l g own bs nL rt R ce sl E Qf (pc + 3) ll st J) (h2 : ¬ (x = 0) → VB l g own bs nL rt R ce sl E Qf tgt ll st J) : VB l g own bs nL rt R ce sl E Qf pc ll (vI x :: st) J := fun p e s m args below meth c H locs ls C0 w S L => lv_if_ne C0.1 C0.2.1 hd ht (fun q => h2 q p e s m args below meth c H locs ls C0 w S L) (fun q => h1 q p e s m args below meth c H locs ls C0 w S L)
theorem vr_iflt {x : Int32} {off : Int} (tgt : Nat) (hd : decode bs pc = .ok (.ifCond .lt off, 3)) (ht : (pc : Int) + off = (tgt : Int))
    (h1 : (x < 0) → VB l g own bs nL rt R ce sl E Qf tgt ll st J) (h2 : ¬ (x < 0) → VB l g own bs nL rt R ce sl E Qf (pc + 3) ll st J) : VB l g own bs nL rt R ce sl E Qf pc ll (vI x :: st) J := fun p e s m args below meth c H locs ls C0 w S L => lv_if_lt C0.1 C0.2.1 hd ht (fun q => h1 q p e s m args below meth c H locs ls C0 w S L) (fun q => h2 q p e s m args below meth c H locs ls C0 w S L)
theorem vr_ifge {x : Int32} {off : Int} (tgt : Nat) (hd : decode bs pc = .ok (.ifCond .ge off, 3)) (ht : (pc : Int) + off = (tgt : Int))
    (h1 : (x < 0) → VB l g own bs nL rt R ce sl E Qf (pc + 3) ll st J) (h2 : ¬ (x < 0) → VB l g own bs nL rt R ce sl E Qf tgt ll st J) : VB l g own bs nL rt R ce sl E Qf pc ll (vI x :: st) J := fun p e s m args below meth c H locs ls C0 w S L => lv_if_ge C0.1 C0.2.1 hd ht (fun q => h2 (Int32.not_lt.mpr q) p e s m args below meth c H locs ls C0 w S L) (fun q => h1 (Int32.not_le.mp q) p e s m args below meth c H locs ls C0 w S L)
theorem vr_ifgt {x : Int32} {off : Int} (tgt : Nat) (hd : decode bs pc = .ok (.ifCond .gt off, 3)) (ht : (pc : Int) + off = (tgt : Int))
    (h1 : (0 < x) → VB l g own bs nL rt R ce sl E Qf tgt ll st J) (h2 : ¬ (0 < x) → VB l g own bs nL rt R ce sl E Qf (pc + 3) ll st J) : VB l g own bs nL rt R ce sl E Qf pc ll (vI x :: st) J := fun p e s m args below meth c H locs ls C0 w S L => lv_if_gt C0.1 C0.2.1 hd ht (fun q => h1 q p e s m args below meth c H locs ls C0 w S L) (fun q => h2 q p e s m args below meth c H locs ls C0 w S L)
theorem vr_ifle {x : Int32} {off : Int} (tgt : Nat) (hd : decode bs pc = .ok (.ifCond .le off, 3)) (ht : (pc : Int) + off = (tgt : Int))
    (h1 : (0 < x) → VB l g own bs nL rt R ce sl E Qf (pc + 3) ll st J) (h2 : ¬ (0 < x) → VB l g own bs nL rt R ce sl E Qf tgt ll st J) : VB l g own bs nL rt R ce sl E Qf pc ll (vI x :: st) J := fun p e s m args below meth c H locs ls C0 w S L => lv_if_le C0.1 C0.2.1 hd ht (fun q => h2 (Int32.not_lt.mpr q) p e s m args below meth c H locs ls C0 w S L) (fun q => h1 (Int32.not_le.mp q) p e s m args below meth c H locs ls C0 w S L)
theorem vr_icmpeq {x y : Int32} {off : Int} (tgt : Nat) (hd : decode bs pc = .ok (.if_icmp .eq off, 3)) (ht : (pc : Int) + off = (tgt : Int))
    (h1 : (x = y) → VB l g own bs nL rt R ce sl E Qf tgt ll st J) (h2 : ¬ (x = y) → VB l g own bs nL rt R ce sl E Qf (pc + 3) ll st J) : VB l g own bs nL rt R ce sl E Qf pc ll (vI y :: vI x :: st) J := fun p e s m args below meth c H locs ls C0 w S L => lv_icmp_eq C0.1 C0.2.1 hd ht (fun q => h1 q p e s m args below meth c H locs ls C0 w S L) (fun q => h2 q p e s m args below meth c H locs ls C0 w S L)
theorem vr_icmpne {x y : Int32} {off : Int} (tgt : Nat) (hd : decode bs pc = .ok (.if_icmp .ne off, 3)) (ht : (pc : Int) + off = (tgt : Int))
    (h1 : (x = y) → VB l g own bs nL rt R ce sl E Qf (pc + 3) ll st J) (h2 : ¬ (x = y) → VB l g own bs nL rt R ce sl E Qf tgt ll st J) : VB l g own bs nL rt R ce sl E Qf pc ll (vI y :: vI x :: st) J := fun p e s m args below meth c H locs ls C0 w S L => lv_icmp_ne C0.1 C0.2.1 hd ht (fun q => h2 q p e s m args below meth c H locs ls C0 w S L) (fun q => h1 q p e s m args below meth c H locs ls C0 w S L)
theorem vr_icmplt {x y : Int32} {off : Int} (tgt : Nat) (hd : decode bs pc = .ok (.if_icmp .lt off, 3)) (ht : (pc : Int) + off = (tgt : Int))
    (h1 : (x < y) → VB l g own bs nL rt R ce sl E Qf tgt ll st J) (h2 : ¬ (x < y) → VB l g own bs nL rt R ce sl E Qf (pc + 3) ll st J) : VB l g own bs nL rt R ce sl E Qf pc ll (vI y :: vI x :: st) J := fun p e s m args below meth c H locs ls C0 w S L => lv_icmp_lt C0.1 C0.2.1 hd ht (fun q => h1 q p e s m args below meth c H locs ls C0 w S L) (fun q => h2 q p e s m args below meth c H locs ls C0 w S L)
theorem vr_icmpge {x y : Int32} {off : Int} (tgt : Nat) (hd : decode bs pc = .ok (.if_icmp .ge off, 3)) (ht : (pc : Int) + off = (tgt : Int))
    (h1 : (x < y) → VB l g own bs nL rt R ce sl E Qf (pc + 3) ll st J) (h2 : ¬ (x < y) → VB l g own bs nL rt R ce sl E Qf tgt ll st J) : VB l g own bs nL rt R ce sl E Qf pc ll (vI y :: vI x :: st) J := fun p e s m args below meth c H locs ls C0 w S L => lv_icmp_ge C0.1 C0.2.1 hd ht (fun q => h2 (Int32.not_lt.mpr q) p e s m args below meth c H locs ls C0 w S L) (fun q => h1 (Int32.not_le.mp q) p e s m args below meth c H locs ls C0 w S L)
theorem vr_icmpgt {x y : Int32} {off : Int} (tgt : Nat) (hd : decode bs pc = .ok (.if_icmp .gt off, 3)) (ht : (pc : Int) + off = (tgt : Int))
    (h1 : (y < x) → VB l g own bs nL rt R ce sl E Qf tgt ll st J) (h2 : ¬ (y < x) → VB l g own bs nL rt R ce sl E Qf (pc + 3) ll st J) : VB l g own bs nL rt R ce sl E Qf pc ll (vI y :: vI x :: st) J := fun p e s m args below meth c H locs ls C0 w S L => lv_icmp_gt C0.1 C0.2.1 hd ht (fun q => h1 q p e s m args below meth c H locs ls C0 w S L) (fun q => h2 q p e s m args below meth c H locs ls C0 w S L)
theorem vr_icmple {x y : Int32} {off : Int} (tgt : Nat) (hd : decode bs pc = .ok (.if_icmp .le off, 3)) (ht : (pc : Int) + off = (tgt : Int))
    (h1 : (y < x) → VB l g own bs nL rt R ce sl E Qf (pc + 3) ll st J) (h2 : ¬ (y < x) → VB l g own bs nL rt R ce sl E Qf tgt ll st J) : VB l g own bs nL rt R ce sl E Qf pc ll (vI y :: vI x :: st) J := fun p e s m args below meth c H locs ls C0 w S L => lv_icmp_le C0.1 C0.2.1 hd ht (fun q => h2 (Int32.not_lt.mpr q) p e s m args below meth c H locs ls C0 w S L) (fun q => h1 (Int32.not_le.mp q) p e s m args below meth c H locs ls C0 w S L)
theorem vr_ifnullR {k x : Nat} {off : Int} (hd : decode bs pc = .ok (.ifnull off, 3))
    (h : VB l g own bs nL rt R ce sl E Qf (pc + 3) ll st J) : VB l g own bs nL rt R ce sl E Qf pc ll (vR k x :: st) J := fun p e s m args below meth c H locs ls C0 w S L => lv_ifnull C0.1 C0.2.1 hd (h p e s m args below meth c H locs ls C0 w S L)
theorem vr_ifnullN {off : Int} (tgt : Nat) (hd : decode bs pc = .ok (.ifnull off, 3)) (ht : (pc : Int) + off = (tgt : Int))
    (h : VB l g own bs nL rt R ce sl E Qf tgt ll st J) : VB l g own bs nL rt R ce sl E Qf pc ll (vN :: st) J := fun p e s m args below meth c H locs ls C0 w S L => lv_ifnullN C0.1 C0.2.1 hd ht (h p e s m args below meth c H locs ls C0 w S L)
theorem vr_ifnonnullR {k x : Nat} {off : Int} (tgt : Nat) (hd : decode bs pc = .ok (.ifnonnull off, 3)) (ht : (pc : Int) + off = (tgt : Int))
    (h : VB l g own bs nL rt R ce sl E Qf tgt ll st J) : VB l g own bs nL rt R ce sl E Qf pc ll (vR k x :: st) J := fun p e s m args below meth c H locs ls C0 w S L => lv_ifnonnull C0.1 C0.2.1 hd ht (h p e s m args below meth c H locs ls C0 w S L)
theorem vr_ifnonnullN {off : Int} (hd : decode bs pc = .ok (.ifnonnull off, 3))
    (h : VB l g own bs nL rt R ce sl E Qf (pc + 3) ll st J) : VB l g own bs nL rt R ce sl E Qf pc ll (vN :: st) J := fun p e s m args below meth c H locs ls C0 w S L => lv_ifnonnullN C0.1 C0.2.1 hd (h p e s m args below meth c H locs ls C0 w S L)
theorem vr_tswIn {x : Int32} {dflt lo hi : Int} {offs : Array Int} {len : Nat} {off : Int} (v : Int32) (tgt : Nat) (hd : decode bs pc = .ok (.tableswitch dflt lo hi offs, len)) (hx : x = v) (h1 : ¬ v.toInt < lo ∧ ¬ hi < v.toInt) (ho : offs[(v.toInt - lo).toNat]? = some off) (ht : (pc : Int) + off = (tgt : Int))
    (h : VB l g own bs nL rt R ce sl E Qf tgt ll st J) : VB l g own bs nL rt R ce sl E Qf pc ll (vI x :: st) J := fun p e s m args below meth c H locs ls C0 w S L => by
  subst hx
  exact lv_tableIn C0.1 C0.2.1 hd h1.1 h1.2 ho ht (h p e s m args below meth c H locs ls C0 w S L)
theorem vr_tswOut {x : Int32} {dflt lo hi : Int} {offs : Array Int} {len : Nat} (tgt : Nat) (hd : decode bs pc = .ok (.tableswitch dflt lo hi offs, len)) (hx : x.toInt < lo ∨ hi < x.toInt) (ht : (pc : Int) + dflt = (tgt : Int))
    (h : VB l g own bs nL rt R ce sl E Qf tgt ll st J) : VB l g own bs nL rt R ce sl E Qf pc ll (vI x :: st) J := fun p e s m args below meth c H locs ls C0 w S L => lv_tableOut C0.1 C0.2.1 hd hx ht (h p e s m args below meth c H locs ls C0 w S L)
theorem vr_lsw {x : Int32} {dflt : Int} {ps : Array (Int × Int)} {len : Nat} {off : Int} (tgt : Nat) (hd : decode bs pc = .ok (.lookupswitch dflt ps, len)) (hp : (ps.toList.zip (ps.toList.drop 1)).all (fun (a, next) => a.1 < next.1) = true) (ho : Op.lookupswitch.offset ps.toList dflt x.toInt = off) (ht : (pc : Int) + off = (tgt : Int))
    (h : VB l g own bs nL rt R ce sl E Qf tgt ll st J) : VB l g own bs nL rt R ce sl E Qf pc ll (vI x :: st) J := fun p e s m args below meth c H locs ls C0 w S L => lv_lookup C0.1 C0.2.1 hd hp ho ht (h p e s m args below meth c H locs ls C0 w S L)
end VROWS
end
section
/-! LAYER V: arrays, calls, returns -/
theorem vjn_lo {k : Nat} (hk : Nat.blt k 22 = true) (P Q : VP) : vjn P Q k = P k := by unfold vjn; rw [hk]; rfl
theorem vjn_hi {k : Nat} (hk : Nat.blt k 22 = false) (P Q : VP) : vjn P Q k = Q k := by unfold vjn; rw [hk]; rfl
theorem vup_lo {k : Nat} (hk : Nat.blt k 22 = true) (P Q : VP) (x j : Nat) (v : Int32) : vup (vjn P Q) k x j v = vjn (vup P k x j v) Q := by
  funext k' x' j'
  unfold vup vjn
  by_cases h : k' = k ∧ x' = x ∧ j' = j
  · obtain ⟨rfl, rfl, rfl⟩ := h
    simp [hk]
  · rw [if_neg h]
    cases Nat.blt k' 22 <;> simp [h]
theorem vup_hi {k : Nat} (hk : Nat.blt k 22 = false) (P Q : VP) (x j : Nat) (v : Int32) : vup (vjn P Q) k x j v = vjn P (vup Q k x j v) := by
  funext k' x' j'
  unfold vup vjn
  by_cases h : k' = k ∧ x' = x ∧ j' = j
  · obtain ⟨rfl, rfl, rfl⟩ := h
    simp [hk]
  · rw [if_neg h]
    cases Nat.blt k' 22 <;> simp [h]
/-- an int array's kind -/
def vIA (k : Nat) : Prop := (∀ (g : vG) (J : VP) (x : Nat), venc g J k x = vArr g k (J k x)) ∧ vlen k < 2147483648
theorem vin_of {i N : Int32} {n : Nat} (hN : Int32.ofNat n = N) (hn : n < 2147483648) (h : 0 ≤ i ∧ i < N) : vp_in i n := by
  rw [vp_in_iff]
  have h1 := Int32.le_iff_toInt_le.mp h.1
  have h2 := Int32.lt_iff_toInt_lt.mp h.2
  rw [← hN] at h2
  have h3 := nI_toInt (n := n) hn
  unfold nI at h3
  rw [h3] at h2
  exact ⟨h1, h2⟩
theorem vin_lt {i : Int32} {n : Nat} (h : vp_in i n) : ix i < n := Nat.not_le.mp fun q => h (Or.inr q)
section VROWS2
variable {l : Launch} {g : vG} {own : String} {bs : ByteArray} {nL : Nat} {rt : Option FieldType} {R : Room} {ce sl : Nat} {E : Array Value → State → Prop} {Qf : List Frame → Array Value → State → State → Prop} {pc : Nat} {ll : List (Nat × vV)} {st : List vV} {J : VP}
theorem vr_one {k x : Nat} {H : Heap} {e : va_E} (hx : x < vcnt k) (he : venc g J k x = e) (w : vW g J H) : va_P g.1 vcl [(g.2.2.1 k x, e)] H := fun i q hi => by
  have h1 : i < 1 := (List.getElem?_eq_some_iff.mp hi).1
  obtain rfl : i = 0 := by omega
  cases hi
  rw [← he]
  exact w k x hx
theorem vr_oneD {k x : Nat} {e : va_E} (hO : vOK g) (hx : x < vcnt k) : va_D (vA g) [(g.2.2.1 k x, e)] := ⟨fun a b p q ha hb _ => by
    have h1 : a < 1 := (List.getElem?_eq_some_iff.mp ha).1
    have h2 : b < 1 := (List.getElem?_eq_some_iff.mp hb).1
    omega, fun a q ha => by
    have h1 : a < 1 := (List.getElem?_eq_some_iff.mp ha).1
    obtain rfl : a = 0 := by omega
    cases ha
    exact hO.2 k x hx⟩
theorem vr_alen {k x : Nat} (v : Int32) (hx : x < vcnt k) (hk : vIA k) (hv : Int32.ofNat (vlen k) = v) (hd : decode bs pc = .ok (.arraylength, 1))
    (h : VB l g own bs nL rt R ce sl E Qf (pc + 1) ll (vI v :: st) J) : VB l g own bs nL rt R ce sl E Qf pc ll (vR k x :: st) J := fun p e s m args below meth c H locs ls C0 w S L => va_alen C0.1 C0.2.1 C0.2.2.2.2.2.2.2.1.2.1 (vr_one hx (hk.1 g J x) w) 0 0 rfl rfl hv hd (h p e s m args below meth c H locs ls C0 w S L)
theorem vr_alenR {k x ca n : Nat} {f : Nat → Nat} {ty : FieldType} (v : Int32) (hx : x < vcnt k) (he : venc g J k x = vRow g ca n f) (ht : (vtys g)[ca]? = some (g.2.1 ca, ty)) (hv : Int32.ofNat n = v) (hd : decode bs pc = .ok (.arraylength, 1))
    (h : VB l g own bs nL rt R ce sl E Qf (pc + 1) ll (vI v :: st) J) : VB l g own bs nL rt R ce sl E Qf pc ll (vR k x :: st) J := fun p e s m args below meth c H locs ls C0 w S L => va_alen C0.1 C0.2.1 C0.2.2.2.2.2.2.2.1.2.1 (vr_one hx he w) 0 ca rfl ht hv hd (h p e s m args below meth c H locs ls C0 w S L)
theorem vr_iald {k x : Nat} {i : Int32} (N : Int32) (hx : x < vcnt k) (hk : vIA k) (hN : Int32.ofNat (vlen k) = N) (hi : 0 ≤ i ∧ i < N) (hd : decode bs pc = .ok (.iaload, 1))
    (h : VB l g own bs nL rt R ce sl E Qf (pc + 1) ll (vI (J k x (ix i)) :: st) J) : VB l g own bs nL rt R ce sl E Qf pc ll (vI i :: vR k x :: st) J := fun p e s m args below meth c H locs ls C0 w S L => va_iald C0.1 C0.2.1 C0.2.2.2.2.2.2.2.1.2.1 (vr_one hx (hk.1 g J x) w) 0 0 rfl rfl (vin_of hN hk.2 hi) hd (h p e s m args below meth c H locs ls C0 w S L)
theorem vr_iast {k x : Nat} {i v : Int32} (N : Int32) (hx : x < vcnt k) (hk : vIA k) (hN : Int32.ofNat (vlen k) = N) (hi : 0 ≤ i ∧ i < N) (hd : decode bs pc = .ok (.iastore, 1))
    (h : VB l g own bs nL rt R ce sl E Qf (pc + 1) ll st (vup J k x (ix i) v)) : VB l g own bs nL rt R ce sl E Qf pc ll (vI v :: vI i :: vR k x :: st) J := fun p e s m args below meth c H locs ls C0 w S L => by
  obtain ⟨hx0, hb0, -, -, -, hown, hts, hK, -⟩ := id C0
  have hin := vin_of hN hk.2 hi
  refine W.iast hx0 hb0 (cell := vp_cell (g.2.1 0) (vlen k, .inl (J k x))) (by have h1 := w k x hx; rw [hk.1] at h1; exact h1) ((hK.2.1.2 0 _ rfl).1 (vlen k) (fun j => .int (J k x j))) (fun q => by cases q) (by show ¬ (i < 0 ∨ (arrV _ _ _).slots.size ≤ _); rw [arrV_size]; exact hin) rfl rfl hd fun H1 e1 z oq => ?_
  refine h p e s m args below meth c H1 _ ls C0 (vW_set hK.1.1 hx w ?_ oq (fun k' x' z => venc_off g J z)) (S.put z oq (hK.1.1.2 k x hx)) L
  rw [hk.1]
  show H1[_]? = some (vp_cell _ _)
  rw [e1, vp_cell_i, vp_cell_i, arrV_store]
  congr 2
  funext q
  by_cases hq : q = ix i
  · subst hq
    simp [updV, vup]
  · simp [updV, vup, hq]
theorem vr_aald {k x ca n : Nat} {f : Nat → Nat} {C : String} {i : Int32} (N : Int32) (v : vV) (hx : x < vcnt k) (he : venc g J k x = vRow g ca n f) (ht : (vtys g)[ca]? = some (g.2.1 ca, .object C)) (hn : n < 2147483648) (hN : Int32.ofNat n = N) (hi : 0 ≤ i ∧ i < N) (hv : vv g v = .ref (f (ix i))) (hd : decode bs pc = .ok (.aaload, 1))
    (h : ix i < n → VB l g own bs nL rt R ce sl E Qf (pc + 1) ll (v :: st) J) : VB l g own bs nL rt R ce sl E Qf pc ll (vI i :: vR k x :: st) J := fun p e s m args below meth c H locs ls C0 w S L => by
  have hin := vin_of hN hn hi
  refine va_aldq C0.1 C0.2.1 C0.2.2.2.2.2.2.2.1.2.1 (vr_one hx he w) 0 ca rfl ht hin hd ?_
  have h2 := h (vin_lt hin) p e s m args below meth c H locs ls C0 w S L
  rw [List.map_cons, hv] at h2
  exact h2
/-! calls -/
theorem vK_call {J : VP} {s : State} {H : Heap} {locs : List Loc} (hK : vK g s) (w : vW g J H) (S : va_S (vA g) s.heap H locs) {U : State} (hU : U.heap = H) (hW : s.WarmedH U.vm) : vK g U ∧ vW g J U.heap := by
  obtain ⟨⟨hO, hb⟩, hK1, hn, hr, hs, hz, hf⟩ := hK
  refine ⟨⟨⟨hO, by rw [hU]; exact Nat.le_trans hb S.1⟩, va_K.moved hW.alike hK1, fun c hc => ?_, fun q hq => (hr q hq).warm hW, ?_, ?_, ?_⟩, by rw [hU]; exact w⟩
  · have h1 := hn c hc
    have hform : ∃ a i x b, c = Cond.methodLinkNest a i x b := by
      have : ∀ c ∈ vnest, ∃ a i x b, c = Cond.methodLinkNest a i x b := by
        unfold vnest
        repeat' (first | refine List.forall_mem_cons.mpr ⟨⟨_, _, _, _, rfl⟩, ?_⟩ | exact fun _ h => absurd h List.not_mem_nil)
      exact this c hc
    obtain ⟨a, i, x, b, rfl⟩ := hform
    exact va_Nw.warmM hW h1
  · rw [hU]
    exact vk_S.moved hW.alike (hs.kept (fun q h1 h2 => S.2.1 q h1 h2))
  · rw [hU]
    exact va_Z.moved hW.alike (hz.kept (fun q h1 h2 => S.2.1 q h1 h2))
  · rw [hU]
    exact hf.imp (fun h => va_Z.moved hW.alike (h.kept (fun q h1 h2 => S.2.1 q h1 h2))) (fun h => va_Z.moved hW.alike (h.kept (fun q h1 h2 => S.2.1 q h1 h2)))
theorem vK_blind {U : State} {gg : JFrame} {mk : MethodId} {a : Array Value} (h : vK g U) : vK g (U.calling gg mk a) := by
  obtain ⟨⟨hO, hb⟩, hK1, hn, hr, hs, hz, hf⟩ := h
  refine ⟨⟨hO, hb⟩, va_K.moved (u := U) (U := U.calling gg mk a) (Vm.Alike.refl U.vm) hK1, fun c hc => ?_, fun q hq => vk_R.same (u := U) rfl (hr q hq), vk_S.moved (u := U) (U := U.calling gg mk a) (Vm.Alike.refl U.vm) hs, va_Z.moved (u := U) (U := U.calling gg mk a) (Vm.Alike.refl U.vm) hz, hf.imp (fun h => va_Z.moved (u := U) (U := U.calling gg mk a) (Vm.Alike.refl U.vm) h) (fun h => va_Z.moved (u := U) (U := U.calling gg mk a) (Vm.Alike.refl U.vm) h)⟩
  have hform : c.onTables = true := by
    have : ∀ c ∈ vnest, c.onTables = true := by
      unfold vnest
      repeat' (first | refine List.forall_mem_cons.mpr ⟨rfl, ?_⟩ | exact fun _ h => absurd h List.not_mem_nil)
    exact this c hc
  exact va_Nw.same (u := U) hform rfl (hn c hc)
theorem vpc_blind {av : List vV} {J : VP} : FrameBlind (va_Pc (av.map (vv g)) (fun U => vK g U ∧ vW g J U.heap)) := fun _ _ _ _ h => ⟨h.1, vK_blind h.2.1, h.2.2⟩
/-- behind a call -/
theorem vr_back {dY nY : Nat} {y : MethodName} {bY : ByteArray} {tY : Option FieldType} {av : List vV} {J : VP} {post : Option vV → VP → Prop} {k : Nat} {st0 : List vV} {p : Program} {e : Env} {s : State} {m : MethodId} {args : Array Value} {below : List Frame} {meth : Method} {c : Code} {H : Heap} {locs : List Loc} {ls : Array Slot} {a : Array Value} {Q : State → Prop}
    (hb : g.2.2.2.2 ≤ s.heap.size) (hr : va_Run p l e R s m args below meth c H locs ce sl 0 0 (F0 m pc ls (st0.map (vv g))) (st.map (vv g)) (vQ g post a) (vA g)) (S : va_S (vA g) s.heap H locs)
    (kk : ∀ (r : Option vV) (J' : VP) (H1 : Heap) (locs1 : List Loc), post r J' → vW g J' H1 → va_S (vA g) s.heap H1 locs1 → W p l e R s m args below meth c H1 locs1 ce sl Q (F0 m (pc + 3) ls ((r.toList ++ st).map (vv g)))) : W p l e R s m args below meth c H locs ce sl Q (F0 m pc ls (st0.map (vv g))) := by
  intro T hT X
  obtain ⟨v, st₀, t, T', L, h0, X', hL, e1, e2, ⟨⟨r, J', hv, hp, hw⟩, hz, hk⟩, st1⟩ := hr T hT X
  cases hv
  rw [h0] at hz hk
  obtain ⟨t2, a1, b1⟩ := kk r J' T'.heap (locs ++ L) hp (by rw [e1]; exact hw)
    ⟨Nat.le_trans S.1 (by rw [e1]; exact hz), fun q h1 h2 => by rw [e1, hk q (Nat.lt_of_lt_of_le h1 S.1) h2]; exact S.2.1 q h1 h2, fun q hq => by
      rcases List.mem_append.mp hq with h | h
      · exact S.2.2 q h
      · exact hL q h⟩ T' rfl X'
  refine ⟨t2, st1 t2 ?_, b1⟩
  have e3 : (r.map (vv g)).toList ++ st.map (vv g) = (r.toList ++ st).map (vv g) := by cases r <;> simp
  rw [e3]
  exact a1
theorem vr_callV (own' : String) {dY nY : Nat} {y : MethodName} {bY : ByteArray} {tY : Option FieldType} {post : Option vV → VP → Prop} {k x idx n ci : Nat} {fs : List Value} {q : vw_C} {As st0 : List vV} (hM : VC l g y bY nY tY dY (vR k x :: As) J post) (ho : own = own') (hx : x < vcnt k) (he : venc g J k x = .inr (ci, fs)) (hc : vcl[ci]? = some q) (hq : q.1 = y.cls) (hm : ∀ w ∈ wsV own' idx y.cls y [.code y bY nY tY], w ∈ vtb) (hst : st0 = As.reverse ++ vR k x :: st)
    (hy : y.cls ≠ "java/lang/invoke/MethodHandle" ∧ y.cls ≠ "java/lang/invoke/VarHandle" ∧ (parseMethodDescriptor y.desc).map (fun d => d.parameters.length) = some n) (hn : As.length = n) (hR : dY + 1 ≤ R.frames ∧ 8 + (nY + 11) + 38 * dY ≤ R.locals) (hs : vwsum st ≤ 8) (hce : ce ≤ R.cells ∧ sl ≤ R.slots) (hd : decode bs pc = .ok (.invokevirtual idx, 3))
    (h : ∀ r J', post r J' → VB l g own bs nL rt R ce sl E Qf (pc + 3) ll (r.toList ++ st) J') : VB l g own bs nL rt R ce sl E Qf pc ll st0 J := fun p e s m args below meth c H locs ls C0 w S L => by
  subst hst
  subst ho
  obtain ⟨hx0, hb0, hml, -, -, hown, hts, hK, -⟩ := id C0
  have hP := vr_one hx he w
  have hrv := va_recv hK.2.1 hP hc (q0 := 0) rfl
  rw [hq] at hrv
  have hG : GoodIn vtb (wsV own idx y.cls y (.code y bY nY tY :: vtb)) := vtb_good (fun w hw => by
    unfold wsV at hw hm
    rcases List.mem_append.mp hw with h1 | h1
    · exact hm w (List.mem_append_left _ h1)
    · rcases List.mem_cons.mp h1 with rfl | h2
      · exact hm _ (List.mem_append_right _ List.mem_cons_self)
      · exact h2)
  have hrun := va_runV (e := e) (below := below) (meth := meth) (H := H) (locs := locs) (cells := ce) (slots := sl) (g := F0 m pc ls ((As.reverse ++ vR k x :: st).map (vv g))) (b := g.2.2.1 k x) (As := As.map (vv g)) (rest := st.map (vv g)) ⟨hx0, hb0, hml, hown, hts⟩ hM (cwV n hts hG rfl rfl rfl ⟨rfl, hy.1, hy.2.1, hy.2.2⟩ hR) ⟨vpc_blind, hrv, fun U hU hW => ⟨rfl, vK_call hK w S hU hW⟩⟩ rfl (by rw [List.length_map]; exact hn) L.1 (by simp [vv]) (by rw [vwsum_eq]; simpa using hs) hd ⟨hce.1, hce.2⟩
  exact vr_back (dY := dY) (nY := nY) (y := y) (bY := bY) (tY := tY) (av := []) (J := J) (k := 0) hK.1.2 hrun S (fun r J' H1 locs1 hp hw hS => h r J' hp p e s m args below meth c H1 locs1 ls C0 hw hS L)
theorem vr_callS (own' : String) {dY nY : Nat} {y : MethodName} {bY : ByteArray} {tY : Option FieldType} {post : Option vV → VP → Prop} {idx n : Nat} {As st0 : List vV} (hM : VC l g y bY nY tY dY As J post) (ho : own = own') (hyo : y.cls = own') (hm : ∀ w ∈ wsS own' idx y [.code y bY nY tY], w ∈ vtb) (hst : st0 = As.reverse ++ st)
    (hy : y.cls ≠ "java/lang/invoke/MethodHandle" ∧ y.cls ≠ "java/lang/invoke/VarHandle" ∧ (parseMethodDescriptor y.desc).map (fun d => d.parameters.length) = some n) (hn : As.length = n) (hR : dY + 1 ≤ R.frames ∧ 8 + (nY + 11) + 38 * dY ≤ R.locals) (hs : vwsum st ≤ 8) (hce : ce ≤ R.cells ∧ sl ≤ R.slots) (hd : decode bs pc = .ok (.invokestatic idx, 3))
    (h : ∀ r J', post r J' → VB l g own bs nL rt R ce sl E Qf (pc + 3) ll (r.toList ++ st) J') : VB l g own bs nL rt R ce sl E Qf pc ll st0 J := fun p e s m args below meth c H locs ls C0 w S L => by
  subst hst
  subst ho
  obtain ⟨hx0, hb0, hml, -, -, hown, hts, hK, -⟩ := id C0
  have hG : GoodIn vtb (wsS own idx y (.code y bY nY tY :: vtb)) := vtb_good (fun w hw => by
    unfold wsS at hw hm
    rcases List.mem_append.mp hw with h1 | h1
    · exact hm w (List.mem_append_left _ h1)
    · rcases List.mem_cons.mp h1 with rfl | h2
      · exact hm _ (List.mem_append_right _ List.mem_cons_self)
      · exact h2)
  have hrun := va_runS (e := e) (below := below) (meth := meth) (H := H) (locs := locs) (cells := ce) (slots := sl) (g := F0 m pc ls ((As.reverse ++ st).map (vv g))) (As := As.map (vv g)) (rest := st.map (vv g)) ⟨hx0, hb0, hml, hown, hts⟩ hM (cwS n hts hG rfl rfl rfl ⟨hyo, hy.1, hy.2.1, hy.2.2⟩ hR) ⟨vpc_blind, fun U hU hW => ⟨rfl, vK_call hK w S hU hW⟩⟩ rfl (by rw [List.length_map]; exact hn) L.1 (by simp) (by rw [vwsum_eq]; simpa using hs) hd ⟨hce.1, hce.2⟩
  exact vr_back (dY := dY) (nY := nY) (y := y) (bY := bY) (tY := tY) (av := []) (J := J) (k := 0) hK.1.2 hrun S (fun r J' H1 locs1 hp hw hS => h r J' hp p e s m args below meth c H1 locs1 ls C0 hw hS L)
theorem vr_callS2 (own' : String) {dY nY : Nat} {y : MethodName} {bY : ByteArray} {tY : Option FieldType} {post : Option vV → VP → Prop} {idx n : Nat} {As st0 : List vV} (hM : VC l g y bY nY tY dY As J post) (ho : own = own') (hm : ∀ w ∈ va_wsS own' idx y [.code y bY nY tY], w ∈ vtb) (hst : st0 = As.reverse ++ st)
    (hy : y.cls ≠ "java/lang/invoke/MethodHandle" ∧ y.cls ≠ "java/lang/invoke/VarHandle" ∧ (parseMethodDescriptor y.desc).map (fun d => d.parameters.length) = some n) (hn : As.length = n) (hR : dY + 1 ≤ R.frames ∧ 8 + (nY + 11) + 38 * dY ≤ R.locals) (hs : vwsum st ≤ 8) (hce : ce ≤ R.cells ∧ sl ≤ R.slots) (hd : decode bs pc = .ok (.invokestatic idx, 3))
    (h : ∀ r J', post r J' → VB l g own bs nL rt R ce sl E Qf (pc + 3) ll (r.toList ++ st) J') : VB l g own bs nL rt R ce sl E Qf pc ll st0 J := fun p e s m args below meth c H locs ls C0 w S L => by
  subst hst
  subst ho
  obtain ⟨hx0, hb0, hml, -, -, hown, hts, hK, -⟩ := id C0
  have hG : GoodIn vtb (va_wsS own idx y (.code y bY nY tY :: vtb)) := vtb_good (fun w hw => by
    unfold va_wsS at hw hm
    rcases List.mem_append.mp hw with h1 | h1
    · exact hm w (List.mem_append_left _ h1)
    · rcases List.mem_cons.mp h1 with rfl | h2
      · exact hm _ (List.mem_append_right _ List.mem_cons_self)
      · exact h2)
  have hrun := va_runS (e := e) (below := below) (meth := meth) (H := H) (locs := locs) (cells := ce) (slots := sl) (g := F0 m pc ls ((As.reverse ++ st).map (vv g))) (As := As.map (vv g)) (rest := st.map (vv g)) ⟨hx0, hb0, hml, hown, hts⟩ hM (va_cwS n hts hG rfl rfl rfl ⟨hy.1, hy.2.1, hy.2.2⟩ hR) ⟨vpc_blind, fun U hU hW => ⟨rfl, vK_call hK w S hU hW⟩⟩ rfl (by rw [List.length_map]; exact hn) L.1 (by simp) (by rw [vwsum_eq]; simpa using hs) hd ⟨hce.1, hce.2⟩
  exact vr_back (dY := dY) (nY := nY) (y := y) (bY := bY) (tY := tY) (av := []) (J := J) (k := 0) hK.1.2 hrun S (fun r J' H1 locs1 hp hw hS => h r J' hp p e s m args below meth c H1 locs1 ls C0 hw hS L)
/-- a call of a string's method -/
theorem vr_callT (own' : String) {dY nY : Nat} {y : MethodName} {bY : ByteArray} {tY : Option FieldType} {post : Option vV → VP → Prop} {j idx n : Nat} {As st0 : List vV} (hM : VC l g y bY nY tY dY (vT j :: As) J post) (ho : own = own') (hj : j < 22) (hq : "java/lang/String" = y.cls) (hm : ∀ w ∈ wsV own' idx y.cls y [.code y bY nY tY], w ∈ vtb) (hst : st0 = As.reverse ++ vT j :: st)
    (hy : y.cls ≠ "java/lang/invoke/MethodHandle" ∧ y.cls ≠ "java/lang/invoke/VarHandle" ∧ (parseMethodDescriptor y.desc).map (fun d => d.parameters.length) = some n) (hn : As.length = n) (hR : dY + 1 ≤ R.frames ∧ 8 + (nY + 11) + 38 * dY ≤ R.locals) (hs : vwsum st ≤ 8) (hce : ce ≤ R.cells ∧ sl ≤ R.slots) (hd : decode bs pc = .ok (.invokevirtual idx, 3))
    (h : ∀ r J', post r J' → VB l g own bs nL rt R ce sl E Qf (pc + 3) ll (r.toList ++ st) J') : VB l g own bs nL rt R ce sl E Qf pc ll st0 J := fun p e s m args below meth c H locs ls C0 w S L => by
  subst hst
  subst ho
  obtain ⟨hx0, hb0, hml, -, -, hown, hts, hK, -⟩ := id C0
  have hrv := vk_recv hK.2.2.2.2.1 hj S
  rw [hq] at hrv
  have hG : GoodIn vtb (wsV own idx y.cls y (.code y bY nY tY :: vtb)) := vtb_good (fun w hw => by
    unfold wsV at hw hm
    rcases List.mem_append.mp hw with h1 | h1
    · exact hm w (List.mem_append_left _ h1)
    · rcases List.mem_cons.mp h1 with rfl | h2
      · exact hm _ (List.mem_append_right _ List.mem_cons_self)
      · exact h2)
  have hrun := va_runV (e := e) (below := below) (meth := meth) (H := H) (locs := locs) (cells := ce) (slots := sl) (g := F0 m pc ls ((As.reverse ++ vT j :: st).map (vv g))) (b := g.2.2.2.1 j) (As := As.map (vv g)) (rest := st.map (vv g)) ⟨hx0, hb0, hml, hown, hts⟩ hM (cwV n hts hG rfl rfl rfl ⟨rfl, hy.1, hy.2.1, hy.2.2⟩ hR) ⟨vpc_blind, hrv, fun U hU hW => ⟨rfl, vK_call hK w S hU hW⟩⟩ rfl (by rw [List.length_map]; exact hn) L.1 (by simp [vv]) (by rw [vwsum_eq]; simpa using hs) hd ⟨hce.1, hce.2⟩
  exact vr_back (dY := dY) (nY := nY) (y := y) (bY := bY) (tY := tY) (av := []) (J := J) (k := 0) hK.1.2 hrun S (fun r J' H1 locs1 hp hw hS => h r J' hp p e s m args below meth c H1 locs1 ls C0 hw hS L)
/-- a static method of a nest mate -/
theorem vr_callN (own' host : String) {dY nY : Nat} {y : MethodName} {bY : ByteArray} {tY : Option FieldType} {post : Option vV → VP → Prop} {idx n : Nat} {As st0 : List vV} (hM : VC l g y bY nY tY dY As J post) (ho : own = own') (hl : Cond.methodLinkNest own' idx y host ∈ vnest) (hm : ∀ w ∈ ([.code y bY nY tY, .initialized y.cls, .static y] : List Cond), w ∈ vtb) (hst : st0 = As.reverse ++ st)
    (hy : y.cls ≠ "java/lang/invoke/MethodHandle" ∧ y.cls ≠ "java/lang/invoke/VarHandle" ∧ (parseMethodDescriptor y.desc).map (fun d => d.parameters.length) = some n) (hn : As.length = n) (hR : dY + 1 ≤ R.frames ∧ 8 + (nY + 11) + 38 * dY ≤ R.locals) (hs : vwsum st ≤ 8) (hce : ce ≤ R.cells ∧ sl ≤ R.slots) (hd : decode bs pc = .ok (.invokestatic idx, 3))
    (h : ∀ r J', post r J' → VB l g own bs nL rt R ce sl E Qf (pc + 3) ll (r.toList ++ st) J') : VB l g own bs nL rt R ce sl E Qf pc ll st0 J := fun p e s m args below meth c H locs ls C0 w S L => by
  subst hst
  subst ho
  obtain ⟨hx0, hb0, hml, -, -, hown, hts, hK, -⟩ := id C0
  have hG : GoodIn vtb (.code y bY nY tY :: vtb) := vtb_good (fun w hw => by
    rcases List.mem_cons.mp hw with rfl | h2
    · exact hm _ List.mem_cons_self
    · exact h2)
  have hrun := va_runSN (e := e) (below := below) (meth := meth) (H := H) (locs := locs) (cells := ce) (slots := sl) (host := host) (index := idx) (g := F0 m pc ls ((As.reverse ++ st).map (vv g))) (As := As.map (vv g)) (rest := st.map (vv g)) ⟨hx0, hb0, hml, hown, hts⟩ hM ⟨va_cnB n hts hG rfl rfl rfl (hK.2.2.1 _ hl) (hts _ (hm _ (by simp))) ⟨hy.1, hy.2.1, hy.2.2⟩ hR, hts _ (hm _ (by simp)), trivial⟩ ⟨vpc_blind, fun U hU hW => ⟨rfl, vK_call hK w S hU hW⟩⟩ rfl (by rw [List.length_map]; exact hn) L.1 (by simp) (by rw [vwsum_eq]; simpa using hs) hd ⟨hce.1, hce.2⟩
  exact vr_back (dY := dY) (nY := nY) (y := y) (bY := bY) (tY := tY) (av := []) (J := J) (k := 0) hK.1.2 hrun S (fun r J' H1 locs1 hp hw hS => h r J' hp p e s m args below meth c H1 locs1 ls C0 hw hS L)
/-! returns -/
theorem vr_iret {d : Nat} {post : Option vV → VP → Prop} {v : Int32} (hr : rt = some .int) (hp : post (some (vI v)) J) (hd : decode bs pc = .ok (.ireturn, 1)) : VM l g own bs nL rt d post pc ll [vI v] J := fun p e s m args below meth c H locs ls C0 w S L =>
  W.iret C0.1 C0.2.1 (C0.2.2.2.1.trans hr) (fun t ht hW => ⟨⟨some (vI v), J, rfl, hp, by rw [ht]; exact w⟩, S.F ht⟩) S.2.2 hd (hlocks := C0.2.2.2.2.1)
theorem vr_zret {d : Nat} {post : Option vV → VP → Prop} {v : Int32} (hr : rt = some .boolean) (hv : v = 0 ∨ v = 1) (hp : post (some (vI v)) J) (hd : decode bs pc = .ok (.ireturn, 1)) : VM l g own bs nL rt d post pc ll [vI v] J := fun p e s m args below meth c H locs ls C0 w S L =>
  W.zret C0.1 C0.2.1 (C0.2.2.2.1.trans hr) (by rcases hv with rfl | rfl <;> rfl) (fun t ht hW => ⟨⟨some (vI v), J, rfl, hp, by rw [ht]; exact w⟩, S.F ht⟩) S.2.2 hd (hlocks := C0.2.2.2.2.1)
theorem vr_nret {d : Nat} {post : Option vV → VP → Prop} {v : Int32} (ty : FieldType) (hr : rt = some ty) (hn : narrow ty (.int v) = .int v) (hp : post (some (vI v)) J) (hd : decode bs pc = .ok (.ireturn, 1)) : VM l g own bs nL rt d post pc ll [vI v] J := fun p e s m args below meth c H locs ls C0 w S L =>
  W.zret C0.1 C0.2.1 (C0.2.2.2.1.trans hr) hn (fun t ht hW => ⟨⟨some (vI v), J, rfl, hp, by rw [ht]; exact w⟩, S.F ht⟩) S.2.2 hd (hlocks := C0.2.2.2.2.1)
theorem vr_vret {d : Nat} {post : Option vV → VP → Prop} (hr : rt = none) (hp : post none J) (hd : decode bs pc = .ok (.return_, 1)) : VM l g own bs nL rt d post pc ll [] J := fun p e s m args below meth c H locs ls C0 w S L =>
  W.vret C0.1 C0.2.1 (C0.2.2.2.1.trans hr) (fun t ht hW => ⟨⟨none, J, rfl, hp, by rw [ht]; exact w⟩, S.F ht⟩) S.2.2 hd (hlocks := C0.2.2.2.2.1)
theorem vr_aret {d : Nat} {post : Option vV → VP → Prop} {z : Option (Nat × Nat) ⊕ Nat} {C : String} (hr : rt = some (.object C)) (hp : post (some (.inr (.inr z))) J) (hd : decode bs pc = .ok (.areturn, 1)) : VM l g own bs nL rt d post pc ll [.inr (.inr z)] J := fun p e s m args below meth c H locs ls C0 w S L =>
  W.aret C0.1 C0.2.1 (C0.2.2.2.1.trans hr) (Or.inl ⟨_, rfl⟩) (by rcases z with (_ | y) | j <;> first | exact Or.inl rfl | exact Or.inr ⟨_, rfl⟩) (fun t ht hW => ⟨⟨some (.inr (.inr z)), J, rfl, hp, by rw [ht]; exact w⟩, S.F ht⟩) S.2.2 hd (hlocks := C0.2.2.2.2.1)
end VROWS2
end
section
/-! LAYER V: what a method answers; loops; the fields, arrays and links of this claim -/
def vpI (J : VP) (φ : Int32 → Prop) : Option vV → VP → Prop := fun v J' => J' = J ∧ ∃ r, v = some (vI r) ∧ φ r
def vpO (k : Nat) (J : VP) (φ : Option Nat → Prop) : Option vV → VP → Prop := fun v J' => J' = J ∧ ∃ o, v = some (vO k o) ∧ (∀ x, o = some x → x < vcnt k) ∧ φ o
def vpT (J : VP) (φ : Nat → Prop) : Option vV → VP → Prop := fun v J' => J' = J ∧ ∃ j, j < 22 ∧ v = some (vT j) ∧ φ j
def vcI (Q : VP) (φ : Int32 → VP → Prop) : Option vV → VP → Prop := fun v J' => ∃ P' r, J' = vjn P' Q ∧ v = some (vI r) ∧ φ r P'
def vcV (Q : VP) (φ : VP → Prop) : Option vV → VP → Prop := fun v J' => ∃ P', J' = vjn P' Q ∧ v = none ∧ φ P'
def vmI (P : VP) (φ : Int32 → VP → Prop) : Option vV → VP → Prop := fun v J' => ∃ Q' r, J' = vjn P Q' ∧ v = some (vI r) ∧ φ r Q'
def vmV (P : VP) (φ : VP → Prop) : Option vV → VP → Prop := fun v J' => ∃ Q', J' = vjn P Q' ∧ v = none ∧ φ Q'
def vPA (k x : Nat) : Prop := vIA k ∧ x < vcnt k ∧ Nat.blt k 22 = true
def vQA (k x : Nat) : Prop := vIA k ∧ x < vcnt k ∧ Nat.blt k 22 = false
abbrev vlI (k : Nat) : Int32 := Int32.ofNat (vlen k)
section VPOST
variable {l : Launch} {g : vG} {own : String} {bs : ByteArray} {nL : Nat} {rt : Option FieldType} {R : Room} {ce sl : Nat} {E : Array Value → State → Prop} {Qf : List Frame → Array Value → State → State → Prop} {pc : Nat} {ll : List (Nat × vV)} {st : List vV} {J P Q : VP}
theorem ki {φ : Int32 → Prop} (h : ∀ r, φ r → VB l g own bs nL rt R ce sl E Qf pc ll (vI r :: st) J) : ∀ v J', vpI J φ v J' → VB l g own bs nL rt R ce sl E Qf pc ll (v.toList ++ st) J' := by
  rintro v J' ⟨rfl, r, rfl, h1⟩
  exact h r h1
theorem ko {k : Nat} {φ : Option Nat → Prop} (h : ∀ o, (∀ x, o = some x → x < vcnt k) → φ o → VB l g own bs nL rt R ce sl E Qf pc ll (vO k o :: st) J) : ∀ v J', vpO k J φ v J' → VB l g own bs nL rt R ce sl E Qf pc ll (v.toList ++ st) J' := by
  rintro v J' ⟨rfl, r, rfl, h1, h2⟩
  exact h r h1 h2
theorem kt {φ : Nat → Prop} (h : ∀ j, j < 22 → φ j → VB l g own bs nL rt R ce sl E Qf pc ll (vT j :: st) J) : ∀ v J', vpT J φ v J' → VB l g own bs nL rt R ce sl E Qf pc ll (v.toList ++ st) J' := by
  rintro v J' ⟨rfl, r, h1, rfl, h2⟩
  exact h r h1 h2
theorem kci {φ : Int32 → VP → Prop} (h : ∀ r P, φ r P → VB l g own bs nL rt R ce sl E Qf pc ll (vI r :: st) (vjn P Q)) : ∀ v J', vcI Q φ v J' → VB l g own bs nL rt R ce sl E Qf pc ll (v.toList ++ st) J' := by
  rintro v J' ⟨P, r, rfl, rfl, h1⟩
  exact h r P h1
theorem kcv {φ : VP → Prop} (h : ∀ P, φ P → VB l g own bs nL rt R ce sl E Qf pc ll st (vjn P Q)) : ∀ v J', vcV Q φ v J' → VB l g own bs nL rt R ce sl E Qf pc ll (v.toList ++ st) J' := by
  rintro v J' ⟨P, rfl, rfl, h1⟩
  exact h P h1
theorem kmi {φ : Int32 → VP → Prop} (h : ∀ r Q, φ r Q → VB l g own bs nL rt R ce sl E Qf pc ll (vI r :: st) (vjn P Q)) : ∀ v J', vmI P φ v J' → VB l g own bs nL rt R ce sl E Qf pc ll (v.toList ++ st) J' := by
  rintro v J' ⟨Q, r, rfl, rfl, h1⟩
  exact h r Q h1
theorem kmv {φ : VP → Prop} (h : ∀ Q, φ Q → VB l g own bs nL rt R ce sl E Qf pc ll st (vjn P Q)) : ∀ v J', vmV P φ v J' → VB l g own bs nL rt R ce sl E Qf pc ll (v.toList ++ st) J' := by
  rintro v J' ⟨Q, rfl, rfl, h1⟩
  exact h Q h1
theorem vr_nm {v e : Int32} (he : v = e) (h : VB l g own bs nL rt R ce sl E Qf pc ll (vI v :: st) J) : VB l g own bs nL rt R ce sl E Qf pc ll (vI e :: st) J := he ▸ h
theorem vr_nmL {v e : Int64} (he : v = e) (h : VB l g own bs nL rt R ce sl E Qf pc ll (vL v :: st) J) : VB l g own bs nL rt R ce sl E Qf pc ll (vL e :: st) J := he ▸ h
theorem vr_ialdP {k x : Nat} {i : Int32} (N : Int32) (hk : vPA k x) (hN : vlI k = N) (hi : 0 ≤ i ∧ i < N) (hd : decode bs pc = .ok (.iaload, 1))
    (h : VB l g own bs nL rt R ce sl E Qf (pc + 1) ll (vI (P k x (ix i)) :: st) (vjn P Q)) : VB l g own bs nL rt R ce sl E Qf pc ll (vI i :: vR k x :: st) (vjn P Q) := vr_iald N hk.2.1 hk.1 hN hi hd (by rw [vjn_lo hk.2.2]; exact h)
theorem vr_ialdQ {k x : Nat} {i : Int32} (N : Int32) (hk : vQA k x) (hN : vlI k = N) (hi : 0 ≤ i ∧ i < N) (hd : decode bs pc = .ok (.iaload, 1))
    (h : VB l g own bs nL rt R ce sl E Qf (pc + 1) ll (vI (Q k x (ix i)) :: st) (vjn P Q)) : VB l g own bs nL rt R ce sl E Qf pc ll (vI i :: vR k x :: st) (vjn P Q) := vr_iald N hk.2.1 hk.1 hN hi hd (by rw [vjn_hi hk.2.2]; exact h)
theorem vr_iastP {k x : Nat} {i v : Int32} {P1 : VP} (N : Int32) (hk : vPA k x) (hN : vlI k = N) (hi : 0 ≤ i ∧ i < N) (hP : P1 = vup P k x (ix i) v) (hd : decode bs pc = .ok (.iastore, 1))
    (h : VB l g own bs nL rt R ce sl E Qf (pc + 1) ll st (vjn P1 Q)) : VB l g own bs nL rt R ce sl E Qf pc ll (vI v :: vI i :: vR k x :: st) (vjn P Q) := vr_iast N hk.2.1 hk.1 hN hi hd (by rw [vup_lo hk.2.2, ← hP]; exact h)
theorem vr_iastQ {k x : Nat} {i v : Int32} {Q1 : VP} (N : Int32) (hk : vQA k x) (hN : vlI k = N) (hi : 0 ≤ i ∧ i < N) (hP : Q1 = vup Q k x (ix i) v) (hd : decode bs pc = .ok (.iastore, 1))
    (h : VB l g own bs nL rt R ce sl E Qf (pc + 1) ll st (vjn P Q1)) : VB l g own bs nL rt R ce sl E Qf pc ll (vI v :: vI i :: vR k x :: st) (vjn P Q) := vr_iast N hk.2.1 hk.1 hN hi hd (by rw [vup_hi hk.2.2, ← hP]; exact h)
theorem vr_max {x y : Int32} {idx : Nat} (hl : Cond.methodLink own idx Lib.Math.max.name ∈ vtb) (hm : ∀ w ∈ ([.static Lib.Math.max.name, .initialized "java/lang/Math", .code Lib.Math.max.name Lib.Math.max.code 2 (some .int)] : List Cond), w ∈ vtb) (hR : 1 ≤ R.frames ∧ vwsum st + 13 ≤ R.locals) (hce : ce ≤ R.cells ∧ sl ≤ R.slots) (hd : decode bs pc = .ok (.invokestatic idx, 3))
    (h : VB l g own bs nL rt R ce sl E Qf (pc + 3) ll (vI (if x < y then y else x) :: st) J) : VB l g own bs nL rt R ce sl E Qf pc ll (vI y :: vI x :: st) J := fun p e s m args below meth c H locs ls C0 w S L =>
  va_mmax C0.1 C0.2.1 (C0.2.2.1.trans L.1.symm) C0.2.2.2.2.2.1 (C0.2.2.2.2.2.2.1 _ hl) (C0.2.2.2.2.2.2.1 _ (hm _ (by simp))) (C0.2.2.2.2.2.2.1 _ (hm _ (by simp))) (C0.2.2.2.2.2.2.1 _ (hm _ (by simp))) hR.1 (by rw [vwsum_eq]; exact hR.2) hce.1 hce.2 hd (h p e s m args below meth c H locs ls C0 w S L)
theorem vr_min {x y : Int32} {idx : Nat} (hl : Cond.methodLink own idx Lib.Math.min.name ∈ vtb) (hm : ∀ w ∈ ([.static Lib.Math.min.name, .initialized "java/lang/Math", .code Lib.Math.min.name Lib.Math.min.code 2 (some .int)] : List Cond), w ∈ vtb) (hR : 1 ≤ R.frames ∧ vwsum st + 13 ≤ R.locals) (hce : ce ≤ R.cells ∧ sl ≤ R.slots) (hd : decode bs pc = .ok (.invokestatic idx, 3))
    (h : VB l g own bs nL rt R ce sl E Qf (pc + 3) ll (vI (if y < x then y else x) :: st) J) : VB l g own bs nL rt R ce sl E Qf pc ll (vI y :: vI x :: st) J := fun p e s m args below meth c H locs ls C0 w S L =>
  va_mmin C0.1 C0.2.1 (C0.2.2.1.trans L.1.symm) C0.2.2.2.2.2.1 (C0.2.2.2.2.2.2.1 _ hl) (C0.2.2.2.2.2.2.1 _ (hm _ (by simp))) (C0.2.2.2.2.2.2.1 _ (hm _ (by simp))) (C0.2.2.2.2.2.2.1 _ (hm _ (by simp))) hR.1 (by rw [vwsum_eq]; exact hR.2) hce.1 hce.2 hd (h p e s m args below meth c H locs ls C0 w S L)
theorem vg_16_0 {x idx : Nat} (own' : String) (ho : own = own') (hx : x < vcnt 16) (hl : Cond.fieldLink own' idx RX0 "segment" "I" ∈ vtb) (hd : decode bs pc = .ok (.getfield idx, 3))
    (h : VB l g own bs nL rt R ce sl E Qf (pc + 3) ll (vI (P 16 x 0) :: st) (vjn P Q)) : VB l g own bs nL rt R ce sl E Qf pc ll (vR 16 x :: st) (vjn P Q) :=
  vr_get own' (k := 16) (j := 0) (v := vI (P 16 x 0)) (ci := 0) (C := RX0) (T := TX0) (N := 5) ho hx rfl rfl inv_X0 (by decide) ⟨rfl, rfl, rfl⟩ hl rfl hd h
theorem vp_16_0 {x idx : Nat} {v : Int32} {P1 : VP} (own' : String) (ho : own = own') (hx : x < vcnt 16) (hl : Cond.fieldLink own' idx RX0 "segment" "I" ∈ vtb) (hP : P1 = vup P 16 x 0 v) (hd : decode bs pc = .ok (.putfield idx, 3))
    (h : VB l g own bs nL rt R ce sl E Qf (pc + 3) ll st (vjn P1 Q)) : VB l g own bs nL rt R ce sl E Qf pc ll (vI v :: vR 16 x :: st) (vjn P Q) :=
  vr_put own' (k := 16) (j := 0) (ci := 0) (C := RX0) (T := TX0) (N := 5) (ty := .int) (ty0 := tyX0) ho hx rfl rfl inv_X0 tyX0_ok nmX0 (by decide) ⟨rfl, rfl, rfl⟩ hl rfl rfl rfl rfl (Nat.le_of_ble_eq_true rfl) (by simp [venc, vup]) hd (by rw [vup_lo (k := 16) rfl P Q, ← hP]; exact h)
theorem vg_16_1 {x idx : Nat} (own' : String) (ho : own = own') (hx : x < vcnt 16) (hl : Cond.fieldLink own' idx RX0 "word" "I" ∈ vtb) (hd : decode bs pc = .ok (.getfield idx, 3))
    (h : VB l g own bs nL rt R ce sl E Qf (pc + 3) ll (vI (P 16 x 1) :: st) (vjn P Q)) : VB l g own bs nL rt R ce sl E Qf pc ll (vR 16 x :: st) (vjn P Q) :=
  vr_get own' (k := 16) (j := 1) (v := vI (P 16 x 1)) (ci := 0) (C := RX0) (T := TX0) (N := 5) ho hx rfl rfl inv_X0 (by decide) ⟨rfl, rfl, rfl⟩ hl rfl hd h
theorem vp_16_1 {x idx : Nat} {v : Int32} {P1 : VP} (own' : String) (ho : own = own') (hx : x < vcnt 16) (hl : Cond.fieldLink own' idx RX0 "word" "I" ∈ vtb) (hP : P1 = vup P 16 x 1 v) (hd : decode bs pc = .ok (.putfield idx, 3))
    (h : VB l g own bs nL rt R ce sl E Qf (pc + 3) ll st (vjn P1 Q)) : VB l g own bs nL rt R ce sl E Qf pc ll (vI v :: vR 16 x :: st) (vjn P Q) :=
  vr_put own' (k := 16) (j := 1) (ci := 0) (C := RX0) (T := TX0) (N := 5) (ty := .int) (ty0 := tyX0) ho hx rfl rfl inv_X0 tyX0_ok nmX0 (by decide) ⟨rfl, rfl, rfl⟩ hl rfl rfl rfl rfl (Nat.le_of_ble_eq_true rfl) (by simp [venc, vup]) hd (by rw [vup_lo (k := 16) rfl P Q, ← hP]; exact h)
theorem vg_16_2 {x idx : Nat} (own' : String) (ho : own = own') (hx : x < vcnt 16) (hl : Cond.fieldLink own' idx RX0 "ring" "I" ∈ vtb) (hd : decode bs pc = .ok (.getfield idx, 3))
    (h : VB l g own bs nL rt R ce sl E Qf (pc + 3) ll (vI (P 16 x 2) :: st) (vjn P Q)) : VB l g own bs nL rt R ce sl E Qf pc ll (vR 16 x :: st) (vjn P Q) :=
  vr_get own' (k := 16) (j := 2) (v := vI (P 16 x 2)) (ci := 0) (C := RX0) (T := TX0) (N := 5) ho hx rfl rfl inv_X0 (by decide) ⟨rfl, rfl, rfl⟩ hl rfl hd h
theorem vp_16_2 {x idx : Nat} {v : Int32} {P1 : VP} (own' : String) (ho : own = own') (hx : x < vcnt 16) (hl : Cond.fieldLink own' idx RX0 "ring" "I" ∈ vtb) (hP : P1 = vup P 16 x 2 v) (hd : decode bs pc = .ok (.putfield idx, 3))
    (h : VB l g own bs nL rt R ce sl E Qf (pc + 3) ll st (vjn P1 Q)) : VB l g own bs nL rt R ce sl E Qf pc ll (vI v :: vR 16 x :: st) (vjn P Q) :=
  vr_put own' (k := 16) (j := 2) (ci := 0) (C := RX0) (T := TX0) (N := 5) (ty := .int) (ty0 := tyX0) ho hx rfl rfl inv_X0 tyX0_ok nmX0 (by decide) ⟨rfl, rfl, rfl⟩ hl rfl rfl rfl rfl (Nat.le_of_ble_eq_true rfl) (by simp [venc, vup]) hd (by rw [vup_lo (k := 16) rfl P Q, ← hP]; exact h)
theorem vg_16_3 {x idx : Nat} (own' : String) (ho : own = own') (hx : x < vcnt 16) (hl : Cond.fieldLink own' idx RX0 "copy" "I" ∈ vtb) (hd : decode bs pc = .ok (.getfield idx, 3))
    (h : VB l g own bs nL rt R ce sl E Qf (pc + 3) ll (vI (P 16 x 3) :: st) (vjn P Q)) : VB l g own bs nL rt R ce sl E Qf pc ll (vR 16 x :: st) (vjn P Q) :=
  vr_get own' (k := 16) (j := 3) (v := vI (P 16 x 3)) (ci := 0) (C := RX0) (T := TX0) (N := 5) ho hx rfl rfl inv_X0 (by decide) ⟨rfl, rfl, rfl⟩ hl rfl hd h
theorem vp_16_3 {x idx : Nat} {v : Int32} {P1 : VP} (own' : String) (ho : own = own') (hx : x < vcnt 16) (hl : Cond.fieldLink own' idx RX0 "copy" "I" ∈ vtb) (hP : P1 = vup P 16 x 3 v) (hd : decode bs pc = .ok (.putfield idx, 3))
    (h : VB l g own bs nL rt R ce sl E Qf (pc + 3) ll st (vjn P1 Q)) : VB l g own bs nL rt R ce sl E Qf pc ll (vI v :: vR 16 x :: st) (vjn P Q) :=
  vr_put own' (k := 16) (j := 3) (ci := 0) (C := RX0) (T := TX0) (N := 5) (ty := .int) (ty0 := tyX0) ho hx rfl rfl inv_X0 tyX0_ok nmX0 (by decide) ⟨rfl, rfl, rfl⟩ hl rfl rfl rfl rfl (Nat.le_of_ble_eq_true rfl) (by simp [venc, vup]) hd (by rw [vup_lo (k := 16) rfl P Q, ← hP]; exact h)
theorem vg_16_4 {x idx : Nat} (own' : String) (ho : own = own') (hx : x < vcnt 16) (hl : Cond.fieldLink own' idx RX0 "isSet" "Z" ∈ vtb) (hd : decode bs pc = .ok (.getfield idx, 3))
    (h : VB l g own bs nL rt R ce sl E Qf (pc + 3) ll (vI (P 16 x 4) :: st) (vjn P Q)) : VB l g own bs nL rt R ce sl E Qf pc ll (vR 16 x :: st) (vjn P Q) :=
  vr_get own' (k := 16) (j := 4) (v := vI (P 16 x 4)) (ci := 0) (C := RX0) (T := TX0) (N := 5) ho hx rfl rfl inv_X0 (by decide) ⟨rfl, rfl, rfl⟩ hl rfl hd h
theorem vp_16_4 {x idx : Nat} {v : Int32} {P1 : VP} (own' : String) (ho : own = own') (hx : x < vcnt 16) (hl : Cond.fieldLink own' idx RX0 "isSet" "Z" ∈ vtb) (hv : v = 0 ∨ v = 1) (hP : P1 = vup P 16 x 4 v) (hd : decode bs pc = .ok (.putfield idx, 3))
    (h : VB l g own bs nL rt R ce sl E Qf (pc + 3) ll st (vjn P1 Q)) : VB l g own bs nL rt R ce sl E Qf pc ll (vI v :: vR 16 x :: st) (vjn P Q) :=
  vr_put own' (k := 16) (j := 4) (ci := 0) (C := RX0) (T := TX0) (N := 5) (ty := .boolean) (ty0 := tyX0) ho hx rfl rfl inv_X0 tyX0_ok nmX0 (by decide) ⟨rfl, rfl, rfl⟩ hl rfl rfl (by rcases hv with rfl | rfl <;> rfl) (by rcases hv with rfl | rfl <;> rfl) (Nat.le_of_ble_eq_true rfl) (by simp [venc, vup]) hd (by rw [vup_lo (k := 16) rfl P Q, ← hP]; exact h)
theorem vg_14_0 {x idx : Nat} (own' : String) (ho : own = own') (hx : x < vcnt 14) (hl : Cond.fieldLink own' idx RX1 "segment" "I" ∈ vtb) (hd : decode bs pc = .ok (.getfield idx, 3))
    (h : VB l g own bs nL rt R ce sl E Qf (pc + 3) ll (vI (P 14 x 0) :: st) (vjn P Q)) : VB l g own bs nL rt R ce sl E Qf pc ll (vR 14 x :: st) (vjn P Q) :=
  vr_get own' (k := 14) (j := 0) (v := vI (P 14 x 0)) (ci := 1) (C := RX1) (T := TX1) (N := 6) ho hx rfl rfl inv_X1 (by decide) ⟨rfl, rfl, rfl⟩ hl rfl hd h
theorem vp_14_0 {x idx : Nat} {v : Int32} {P1 : VP} (own' : String) (ho : own = own') (hx : x < vcnt 14) (hl : Cond.fieldLink own' idx RX1 "segment" "I" ∈ vtb) (hP : P1 = vup P 14 x 0 v) (hd : decode bs pc = .ok (.putfield idx, 3))
    (h : VB l g own bs nL rt R ce sl E Qf (pc + 3) ll st (vjn P1 Q)) : VB l g own bs nL rt R ce sl E Qf pc ll (vI v :: vR 14 x :: st) (vjn P Q) :=
  vr_put own' (k := 14) (j := 0) (ci := 1) (C := RX1) (T := TX1) (N := 6) (ty := .int) (ty0 := tyX1) ho hx rfl rfl inv_X1 tyX1_ok nmX1 (by decide) ⟨rfl, rfl, rfl⟩ hl rfl rfl rfl rfl (Nat.le_of_ble_eq_true rfl) (by simp [venc, vup]) hd (by rw [vup_lo (k := 14) rfl P Q, ← hP]; exact h)
theorem vg_14_1 {x idx : Nat} (own' : String) (ho : own = own') (hx : x < vcnt 14) (hl : Cond.fieldLink own' idx RX1 "word" "I" ∈ vtb) (hd : decode bs pc = .ok (.getfield idx, 3))
    (h : VB l g own bs nL rt R ce sl E Qf (pc + 3) ll (vI (P 14 x 1) :: st) (vjn P Q)) : VB l g own bs nL rt R ce sl E Qf pc ll (vR 14 x :: st) (vjn P Q) :=
  vr_get own' (k := 14) (j := 1) (v := vI (P 14 x 1)) (ci := 1) (C := RX1) (T := TX1) (N := 6) ho hx rfl rfl inv_X1 (by decide) ⟨rfl, rfl, rfl⟩ hl rfl hd h
theorem vp_14_1 {x idx : Nat} {v : Int32} {P1 : VP} (own' : String) (ho : own = own') (hx : x < vcnt 14) (hl : Cond.fieldLink own' idx RX1 "word" "I" ∈ vtb) (hP : P1 = vup P 14 x 1 v) (hd : decode bs pc = .ok (.putfield idx, 3))
    (h : VB l g own bs nL rt R ce sl E Qf (pc + 3) ll st (vjn P1 Q)) : VB l g own bs nL rt R ce sl E Qf pc ll (vI v :: vR 14 x :: st) (vjn P Q) :=
  vr_put own' (k := 14) (j := 1) (ci := 1) (C := RX1) (T := TX1) (N := 6) (ty := .int) (ty0 := tyX1) ho hx rfl rfl inv_X1 tyX1_ok nmX1 (by decide) ⟨rfl, rfl, rfl⟩ hl rfl rfl rfl rfl (Nat.le_of_ble_eq_true rfl) (by simp [venc, vup]) hd (by rw [vup_lo (k := 14) rfl P Q, ← hP]; exact h)
theorem vg_14_2 {x idx : Nat} (own' : String) (ho : own = own') (hx : x < vcnt 14) (hl : Cond.fieldLink own' idx RX1 "ring" "I" ∈ vtb) (hd : decode bs pc = .ok (.getfield idx, 3))
    (h : VB l g own bs nL rt R ce sl E Qf (pc + 3) ll (vI (P 14 x 2) :: st) (vjn P Q)) : VB l g own bs nL rt R ce sl E Qf pc ll (vR 14 x :: st) (vjn P Q) :=
  vr_get own' (k := 14) (j := 2) (v := vI (P 14 x 2)) (ci := 1) (C := RX1) (T := TX1) (N := 6) ho hx rfl rfl inv_X1 (by decide) ⟨rfl, rfl, rfl⟩ hl rfl hd h
theorem vp_14_2 {x idx : Nat} {v : Int32} {P1 : VP} (own' : String) (ho : own = own') (hx : x < vcnt 14) (hl : Cond.fieldLink own' idx RX1 "ring" "I" ∈ vtb) (hP : P1 = vup P 14 x 2 v) (hd : decode bs pc = .ok (.putfield idx, 3))
    (h : VB l g own bs nL rt R ce sl E Qf (pc + 3) ll st (vjn P1 Q)) : VB l g own bs nL rt R ce sl E Qf pc ll (vI v :: vR 14 x :: st) (vjn P Q) :=
  vr_put own' (k := 14) (j := 2) (ci := 1) (C := RX1) (T := TX1) (N := 6) (ty := .int) (ty0 := tyX1) ho hx rfl rfl inv_X1 tyX1_ok nmX1 (by decide) ⟨rfl, rfl, rfl⟩ hl rfl rfl rfl rfl (Nat.le_of_ble_eq_true rfl) (by simp [venc, vup]) hd (by rw [vup_lo (k := 14) rfl P Q, ← hP]; exact h)
theorem vg_14_3 {x idx : Nat} (own' : String) (ho : own = own') (hx : x < vcnt 14) (hl : Cond.fieldLink own' idx RX1 "outward" "Z" ∈ vtb) (hd : decode bs pc = .ok (.getfield idx, 3))
    (h : VB l g own bs nL rt R ce sl E Qf (pc + 3) ll (vI (P 14 x 3) :: st) (vjn P Q)) : VB l g own bs nL rt R ce sl E Qf pc ll (vR 14 x :: st) (vjn P Q) :=
  vr_get own' (k := 14) (j := 3) (v := vI (P 14 x 3)) (ci := 1) (C := RX1) (T := TX1) (N := 6) ho hx rfl rfl inv_X1 (by decide) ⟨rfl, rfl, rfl⟩ hl rfl hd h
theorem vp_14_3 {x idx : Nat} {v : Int32} {P1 : VP} (own' : String) (ho : own = own') (hx : x < vcnt 14) (hl : Cond.fieldLink own' idx RX1 "outward" "Z" ∈ vtb) (hv : v = 0 ∨ v = 1) (hP : P1 = vup P 14 x 3 v) (hd : decode bs pc = .ok (.putfield idx, 3))
    (h : VB l g own bs nL rt R ce sl E Qf (pc + 3) ll st (vjn P1 Q)) : VB l g own bs nL rt R ce sl E Qf pc ll (vI v :: vR 14 x :: st) (vjn P Q) :=
  vr_put own' (k := 14) (j := 3) (ci := 1) (C := RX1) (T := TX1) (N := 6) (ty := .boolean) (ty0 := tyX1) ho hx rfl rfl inv_X1 tyX1_ok nmX1 (by decide) ⟨rfl, rfl, rfl⟩ hl rfl rfl (by rcases hv with rfl | rfl <;> rfl) (by rcases hv with rfl | rfl <;> rfl) (Nat.le_of_ble_eq_true rfl) (by simp [venc, vup]) hd (by rw [vup_lo (k := 14) rfl P Q, ← hP]; exact h)
theorem vg_14_4 {x idx : Nat} (own' : String) (ho : own = own') (hx : x < vcnt 14) (hl : Cond.fieldLink own' idx RX1 "size" "I" ∈ vtb) (hd : decode bs pc = .ok (.getfield idx, 3))
    (h : VB l g own bs nL rt R ce sl E Qf (pc + 3) ll (vI (P 14 x 4) :: st) (vjn P Q)) : VB l g own bs nL rt R ce sl E Qf pc ll (vR 14 x :: st) (vjn P Q) :=
  vr_get own' (k := 14) (j := 4) (v := vI (P 14 x 4)) (ci := 1) (C := RX1) (T := TX1) (N := 6) ho hx rfl rfl inv_X1 (by decide) ⟨rfl, rfl, rfl⟩ hl rfl hd h
theorem vp_14_4 {x idx : Nat} {v : Int32} {P1 : VP} (own' : String) (ho : own = own') (hx : x < vcnt 14) (hl : Cond.fieldLink own' idx RX1 "size" "I" ∈ vtb) (hP : P1 = vup P 14 x 4 v) (hd : decode bs pc = .ok (.putfield idx, 3))
    (h : VB l g own bs nL rt R ce sl E Qf (pc + 3) ll st (vjn P1 Q)) : VB l g own bs nL rt R ce sl E Qf pc ll (vI v :: vR 14 x :: st) (vjn P Q) :=
  vr_put own' (k := 14) (j := 4) (ci := 1) (C := RX1) (T := TX1) (N := 6) (ty := .int) (ty0 := tyX1) ho hx rfl rfl inv_X1 tyX1_ok nmX1 (by decide) ⟨rfl, rfl, rfl⟩ hl rfl rfl rfl rfl (Nat.le_of_ble_eq_true rfl) (by simp [venc, vup]) hd (by rw [vup_lo (k := 14) rfl P Q, ← hP]; exact h)
theorem vg_14_5 {x idx : Nat} (own' : String) (ho : own = own') (hx : x < vcnt 14) (hl : Cond.fieldLink own' idx RX1 "arguments" "[LRingGates$Argument;" ∈ vtb) (hd : decode bs pc = .ok (.getfield idx, 3))
    (h : VB l g own bs nL rt R ce sl E Qf (pc + 3) ll (vR 15 x :: st) (vjn P Q)) : VB l g own bs nL rt R ce sl E Qf pc ll (vR 14 x :: st) (vjn P Q) :=
  vr_get own' (k := 14) (j := 5) (v := vR 15 x) (ci := 1) (C := RX1) (T := TX1) (N := 6) ho hx rfl rfl inv_X1 (by decide) ⟨rfl, rfl, rfl⟩ hl rfl hd h
theorem vg_1_0 {x idx : Nat} (own' : String) (ho : own = own') (hx : x < vcnt 1) (hl : Cond.fieldLink own' idx RX2 "world" "LRingGates$World;" ∈ vtb) (hd : decode bs pc = .ok (.getfield idx, 3))
    (h : VB l g own bs nL rt R ce sl E Qf (pc + 3) ll (vR 2 x :: st) (vjn P Q)) : VB l g own bs nL rt R ce sl E Qf pc ll (vR 1 x :: st) (vjn P Q) :=
  vr_get own' (k := 1) (j := 0) (v := vR 2 x) (ci := 2) (C := RX2) (T := TX2) (N := 12) ho hx rfl rfl inv_X2 (by decide) ⟨rfl, rfl, rfl⟩ hl rfl hd h
theorem vg_1_1 {x idx : Nat} (own' : String) (ho : own = own') (hx : x < vcnt 1) (hl : Cond.fieldLink own' idx RX2 "stacks" "LRingGates$Stacks;" ∈ vtb) (hd : decode bs pc = .ok (.getfield idx, 3))
    (h : VB l g own bs nL rt R ce sl E Qf (pc + 3) ll (vR 11 x :: st) (vjn P Q)) : VB l g own bs nL rt R ce sl E Qf pc ll (vR 1 x :: st) (vjn P Q) :=
  vr_get own' (k := 1) (j := 1) (v := vR 11 x) (ci := 2) (C := RX2) (T := TX2) (N := 12) ho hx rfl rfl inv_X2 (by decide) ⟨rfl, rfl, rfl⟩ hl rfl hd h
theorem vg_1_2 {x idx : Nat} (own' : String) (ho : own = own') (hx : x < vcnt 1) (hl : Cond.fieldLink own' idx RX2 "segment" "I" ∈ vtb) (hd : decode bs pc = .ok (.getfield idx, 3))
    (h : VB l g own bs nL rt R ce sl E Qf (pc + 3) ll (vI (P 1 x 2) :: st) (vjn P Q)) : VB l g own bs nL rt R ce sl E Qf pc ll (vR 1 x :: st) (vjn P Q) :=
  vr_get own' (k := 1) (j := 2) (v := vI (P 1 x 2)) (ci := 2) (C := RX2) (T := TX2) (N := 12) ho hx rfl rfl inv_X2 (by decide) ⟨rfl, rfl, rfl⟩ hl rfl hd h
theorem vp_1_2 {x idx : Nat} {v : Int32} {P1 : VP} (own' : String) (ho : own = own') (hx : x < vcnt 1) (hl : Cond.fieldLink own' idx RX2 "segment" "I" ∈ vtb) (hP : P1 = vup P 1 x 2 v) (hd : decode bs pc = .ok (.putfield idx, 3))
    (h : VB l g own bs nL rt R ce sl E Qf (pc + 3) ll st (vjn P1 Q)) : VB l g own bs nL rt R ce sl E Qf pc ll (vI v :: vR 1 x :: st) (vjn P Q) :=
  vr_put own' (k := 1) (j := 2) (ci := 2) (C := RX2) (T := TX2) (N := 12) (ty := .int) (ty0 := tyX2) ho hx rfl rfl inv_X2 tyX2_ok nmX2 (by decide) ⟨rfl, rfl, rfl⟩ hl rfl rfl rfl rfl (Nat.le_of_ble_eq_true rfl) (by simp [venc, vup]) hd (by rw [vup_lo (k := 1) rfl P Q, ← hP]; exact h)
theorem vg_1_3 {x idx : Nat} (own' : String) (ho : own = own') (hx : x < vcnt 1) (hl : Cond.fieldLink own' idx RX2 "word" "I" ∈ vtb) (hd : decode bs pc = .ok (.getfield idx, 3))
    (h : VB l g own bs nL rt R ce sl E Qf (pc + 3) ll (vI (P 1 x 3) :: st) (vjn P Q)) : VB l g own bs nL rt R ce sl E Qf pc ll (vR 1 x :: st) (vjn P Q) :=
  vr_get own' (k := 1) (j := 3) (v := vI (P 1 x 3)) (ci := 2) (C := RX2) (T := TX2) (N := 12) ho hx rfl rfl inv_X2 (by decide) ⟨rfl, rfl, rfl⟩ hl rfl hd h
theorem vp_1_3 {x idx : Nat} {v : Int32} {P1 : VP} (own' : String) (ho : own = own') (hx : x < vcnt 1) (hl : Cond.fieldLink own' idx RX2 "word" "I" ∈ vtb) (hP : P1 = vup P 1 x 3 v) (hd : decode bs pc = .ok (.putfield idx, 3))
    (h : VB l g own bs nL rt R ce sl E Qf (pc + 3) ll st (vjn P1 Q)) : VB l g own bs nL rt R ce sl E Qf pc ll (vI v :: vR 1 x :: st) (vjn P Q) :=
  vr_put own' (k := 1) (j := 3) (ci := 2) (C := RX2) (T := TX2) (N := 12) (ty := .int) (ty0 := tyX2) ho hx rfl rfl inv_X2 tyX2_ok nmX2 (by decide) ⟨rfl, rfl, rfl⟩ hl rfl rfl rfl rfl (Nat.le_of_ble_eq_true rfl) (by simp [venc, vup]) hd (by rw [vup_lo (k := 1) rfl P Q, ← hP]; exact h)
theorem vg_1_4 {x idx : Nat} (own' : String) (ho : own = own') (hx : x < vcnt 1) (hl : Cond.fieldLink own' idx RX2 "ring" "I" ∈ vtb) (hd : decode bs pc = .ok (.getfield idx, 3))
    (h : VB l g own bs nL rt R ce sl E Qf (pc + 3) ll (vI (P 1 x 4) :: st) (vjn P Q)) : VB l g own bs nL rt R ce sl E Qf pc ll (vR 1 x :: st) (vjn P Q) :=
  vr_get own' (k := 1) (j := 4) (v := vI (P 1 x 4)) (ci := 2) (C := RX2) (T := TX2) (N := 12) ho hx rfl rfl inv_X2 (by decide) ⟨rfl, rfl, rfl⟩ hl rfl hd h
theorem vp_1_4 {x idx : Nat} {v : Int32} {P1 : VP} (own' : String) (ho : own = own') (hx : x < vcnt 1) (hl : Cond.fieldLink own' idx RX2 "ring" "I" ∈ vtb) (hP : P1 = vup P 1 x 4 v) (hd : decode bs pc = .ok (.putfield idx, 3))
    (h : VB l g own bs nL rt R ce sl E Qf (pc + 3) ll st (vjn P1 Q)) : VB l g own bs nL rt R ce sl E Qf pc ll (vI v :: vR 1 x :: st) (vjn P Q) :=
  vr_put own' (k := 1) (j := 4) (ci := 2) (C := RX2) (T := TX2) (N := 12) (ty := .int) (ty0 := tyX2) ho hx rfl rfl inv_X2 tyX2_ok nmX2 (by decide) ⟨rfl, rfl, rfl⟩ hl rfl rfl rfl rfl (Nat.le_of_ble_eq_true rfl) (by simp [venc, vup]) hd (by rw [vup_lo (k := 1) rfl P Q, ← hP]; exact h)
theorem vg_1_5 {x idx : Nat} (own' : String) (ho : own = own') (hx : x < vcnt 1) (hl : Cond.fieldLink own' idx RX2 "a" "I" ∈ vtb) (hd : decode bs pc = .ok (.getfield idx, 3))
    (h : VB l g own bs nL rt R ce sl E Qf (pc + 3) ll (vI (P 1 x 5) :: st) (vjn P Q)) : VB l g own bs nL rt R ce sl E Qf pc ll (vR 1 x :: st) (vjn P Q) :=
  vr_get own' (k := 1) (j := 5) (v := vI (P 1 x 5)) (ci := 2) (C := RX2) (T := TX2) (N := 12) ho hx rfl rfl inv_X2 (by decide) ⟨rfl, rfl, rfl⟩ hl rfl hd h
theorem vp_1_5 {x idx : Nat} {v : Int32} {P1 : VP} (own' : String) (ho : own = own') (hx : x < vcnt 1) (hl : Cond.fieldLink own' idx RX2 "a" "I" ∈ vtb) (hP : P1 = vup P 1 x 5 v) (hd : decode bs pc = .ok (.putfield idx, 3))
    (h : VB l g own bs nL rt R ce sl E Qf (pc + 3) ll st (vjn P1 Q)) : VB l g own bs nL rt R ce sl E Qf pc ll (vI v :: vR 1 x :: st) (vjn P Q) :=
  vr_put own' (k := 1) (j := 5) (ci := 2) (C := RX2) (T := TX2) (N := 12) (ty := .int) (ty0 := tyX2) ho hx rfl rfl inv_X2 tyX2_ok nmX2 (by decide) ⟨rfl, rfl, rfl⟩ hl rfl rfl rfl rfl (Nat.le_of_ble_eq_true rfl) (by simp [venc, vup]) hd (by rw [vup_lo (k := 1) rfl P Q, ← hP]; exact h)
theorem vg_1_6 {x idx : Nat} (own' : String) (ho : own = own') (hx : x < vcnt 1) (hl : Cond.fieldLink own' idx RX2 "building" "LRingGates$Frame;" ∈ vtb) (hd : decode bs pc = .ok (.getfield idx, 3))
    (h : VB l g own bs nL rt R ce sl E Qf (pc + 3) ll (vR 14 (49 * x + 48) :: st) (vjn P Q)) : VB l g own bs nL rt R ce sl E Qf pc ll (vR 1 x :: st) (vjn P Q) :=
  vr_get own' (k := 1) (j := 6) (v := vR 14 (49 * x + 48)) (ci := 2) (C := RX2) (T := TX2) (N := 12) ho hx rfl rfl inv_X2 (by decide) ⟨rfl, rfl, rfl⟩ hl rfl hd h
theorem vg_1_7 {x idx : Nat} (own' : String) (ho : own = own') (hx : x < vcnt 1) (hl : Cond.fieldLink own' idx RX2 "operandSegment" "I" ∈ vtb) (hd : decode bs pc = .ok (.getfield idx, 3))
    (h : VB l g own bs nL rt R ce sl E Qf (pc + 3) ll (vI (P 1 x 7) :: st) (vjn P Q)) : VB l g own bs nL rt R ce sl E Qf pc ll (vR 1 x :: st) (vjn P Q) :=
  vr_get own' (k := 1) (j := 7) (v := vI (P 1 x 7)) (ci := 2) (C := RX2) (T := TX2) (N := 12) ho hx rfl rfl inv_X2 (by decide) ⟨rfl, rfl, rfl⟩ hl rfl hd h
theorem vp_1_7 {x idx : Nat} {v : Int32} {P1 : VP} (own' : String) (ho : own = own') (hx : x < vcnt 1) (hl : Cond.fieldLink own' idx RX2 "operandSegment" "I" ∈ vtb) (hP : P1 = vup P 1 x 7 v) (hd : decode bs pc = .ok (.putfield idx, 3))
    (h : VB l g own bs nL rt R ce sl E Qf (pc + 3) ll st (vjn P1 Q)) : VB l g own bs nL rt R ce sl E Qf pc ll (vI v :: vR 1 x :: st) (vjn P Q) :=
  vr_put own' (k := 1) (j := 7) (ci := 2) (C := RX2) (T := TX2) (N := 12) (ty := .int) (ty0 := tyX2) ho hx rfl rfl inv_X2 tyX2_ok nmX2 (by decide) ⟨rfl, rfl, rfl⟩ hl rfl rfl rfl rfl (Nat.le_of_ble_eq_true rfl) (by simp [venc, vup]) hd (by rw [vup_lo (k := 1) rfl P Q, ← hP]; exact h)
theorem vg_1_8 {x idx : Nat} (own' : String) (ho : own = own') (hx : x < vcnt 1) (hl : Cond.fieldLink own' idx RX2 "operandWord" "I" ∈ vtb) (hd : decode bs pc = .ok (.getfield idx, 3))
    (h : VB l g own bs nL rt R ce sl E Qf (pc + 3) ll (vI (P 1 x 8) :: st) (vjn P Q)) : VB l g own bs nL rt R ce sl E Qf pc ll (vR 1 x :: st) (vjn P Q) :=
  vr_get own' (k := 1) (j := 8) (v := vI (P 1 x 8)) (ci := 2) (C := RX2) (T := TX2) (N := 12) ho hx rfl rfl inv_X2 (by decide) ⟨rfl, rfl, rfl⟩ hl rfl hd h
theorem vp_1_8 {x idx : Nat} {v : Int32} {P1 : VP} (own' : String) (ho : own = own') (hx : x < vcnt 1) (hl : Cond.fieldLink own' idx RX2 "operandWord" "I" ∈ vtb) (hP : P1 = vup P 1 x 8 v) (hd : decode bs pc = .ok (.putfield idx, 3))
    (h : VB l g own bs nL rt R ce sl E Qf (pc + 3) ll st (vjn P1 Q)) : VB l g own bs nL rt R ce sl E Qf pc ll (vI v :: vR 1 x :: st) (vjn P Q) :=
  vr_put own' (k := 1) (j := 8) (ci := 2) (C := RX2) (T := TX2) (N := 12) (ty := .int) (ty0 := tyX2) ho hx rfl rfl inv_X2 tyX2_ok nmX2 (by decide) ⟨rfl, rfl, rfl⟩ hl rfl rfl rfl rfl (Nat.le_of_ble_eq_true rfl) (by simp [venc, vup]) hd (by rw [vup_lo (k := 1) rfl P Q, ← hP]; exact h)
theorem vg_1_9 {x idx : Nat} (own' : String) (ho : own = own') (hx : x < vcnt 1) (hl : Cond.fieldLink own' idx RX2 "operandRing" "I" ∈ vtb) (hd : decode bs pc = .ok (.getfield idx, 3))
    (h : VB l g own bs nL rt R ce sl E Qf (pc + 3) ll (vI (P 1 x 9) :: st) (vjn P Q)) : VB l g own bs nL rt R ce sl E Qf pc ll (vR 1 x :: st) (vjn P Q) :=
  vr_get own' (k := 1) (j := 9) (v := vI (P 1 x 9)) (ci := 2) (C := RX2) (T := TX2) (N := 12) ho hx rfl rfl inv_X2 (by decide) ⟨rfl, rfl, rfl⟩ hl rfl hd h
theorem vp_1_9 {x idx : Nat} {v : Int32} {P1 : VP} (own' : String) (ho : own = own') (hx : x < vcnt 1) (hl : Cond.fieldLink own' idx RX2 "operandRing" "I" ∈ vtb) (hP : P1 = vup P 1 x 9 v) (hd : decode bs pc = .ok (.putfield idx, 3))
    (h : VB l g own bs nL rt R ce sl E Qf (pc + 3) ll st (vjn P1 Q)) : VB l g own bs nL rt R ce sl E Qf pc ll (vI v :: vR 1 x :: st) (vjn P Q) :=
  vr_put own' (k := 1) (j := 9) (ci := 2) (C := RX2) (T := TX2) (N := 12) (ty := .int) (ty0 := tyX2) ho hx rfl rfl inv_X2 tyX2_ok nmX2 (by decide) ⟨rfl, rfl, rfl⟩ hl rfl rfl rfl rfl (Nat.le_of_ble_eq_true rfl) (by simp [venc, vup]) hd (by rw [vup_lo (k := 1) rfl P Q, ← hP]; exact h)
theorem vg_1_10 {x idx : Nat} (own' : String) (ho : own = own') (hx : x < vcnt 1) (hl : Cond.fieldLink own' idx RX2 "fetched" "I" ∈ vtb) (hd : decode bs pc = .ok (.getfield idx, 3))
    (h : VB l g own bs nL rt R ce sl E Qf (pc + 3) ll (vI (P 1 x 10) :: st) (vjn P Q)) : VB l g own bs nL rt R ce sl E Qf pc ll (vR 1 x :: st) (vjn P Q) :=
  vr_get own' (k := 1) (j := 10) (v := vI (P 1 x 10)) (ci := 2) (C := RX2) (T := TX2) (N := 12) ho hx rfl rfl inv_X2 (by decide) ⟨rfl, rfl, rfl⟩ hl rfl hd h
theorem vp_1_10 {x idx : Nat} {v : Int32} {P1 : VP} (own' : String) (ho : own = own') (hx : x < vcnt 1) (hl : Cond.fieldLink own' idx RX2 "fetched" "I" ∈ vtb) (hP : P1 = vup P 1 x 10 v) (hd : decode bs pc = .ok (.putfield idx, 3))
    (h : VB l g own bs nL rt R ce sl E Qf (pc + 3) ll st (vjn P1 Q)) : VB l g own bs nL rt R ce sl E Qf pc ll (vI v :: vR 1 x :: st) (vjn P Q) :=
  vr_put own' (k := 1) (j := 10) (ci := 2) (C := RX2) (T := TX2) (N := 12) (ty := .int) (ty0 := tyX2) ho hx rfl rfl inv_X2 tyX2_ok nmX2 (by decide) ⟨rfl, rfl, rfl⟩ hl rfl rfl rfl rfl (Nat.le_of_ble_eq_true rfl) (by simp [venc, vup]) hd (by rw [vup_lo (k := 1) rfl P Q, ← hP]; exact h)
theorem vg_1_11 {x idx : Nat} (own' : String) (ho : own = own') (hx : x < vcnt 1) (hl : Cond.fieldLink own' idx RX2 "outcome" "I" ∈ vtb) (hd : decode bs pc = .ok (.getfield idx, 3))
    (h : VB l g own bs nL rt R ce sl E Qf (pc + 3) ll (vI (P 1 x 11) :: st) (vjn P Q)) : VB l g own bs nL rt R ce sl E Qf pc ll (vR 1 x :: st) (vjn P Q) :=
  vr_get own' (k := 1) (j := 11) (v := vI (P 1 x 11)) (ci := 2) (C := RX2) (T := TX2) (N := 12) ho hx rfl rfl inv_X2 (by decide) ⟨rfl, rfl, rfl⟩ hl rfl hd h
theorem vp_1_11 {x idx : Nat} {v : Int32} {P1 : VP} (own' : String) (ho : own = own') (hx : x < vcnt 1) (hl : Cond.fieldLink own' idx RX2 "outcome" "I" ∈ vtb) (hP : P1 = vup P 1 x 11 v) (hd : decode bs pc = .ok (.putfield idx, 3))
    (h : VB l g own bs nL rt R ce sl E Qf (pc + 3) ll st (vjn P1 Q)) : VB l g own bs nL rt R ce sl E Qf pc ll (vI v :: vR 1 x :: st) (vjn P Q) :=
  vr_put own' (k := 1) (j := 11) (ci := 2) (C := RX2) (T := TX2) (N := 12) (ty := .int) (ty0 := tyX2) ho hx rfl rfl inv_X2 tyX2_ok nmX2 (by decide) ⟨rfl, rfl, rfl⟩ hl rfl rfl rfl rfl (Nat.le_of_ble_eq_true rfl) (by simp [venc, vup]) hd (by rw [vup_lo (k := 1) rfl P Q, ← hP]; exact h)
theorem vg_7_0 {x idx : Nat} (own' : String) (ho : own = own') (hx : x < vcnt 7) (hl : Cond.fieldLink own' idx RX3 "there" "Z" ∈ vtb) (hd : decode bs pc = .ok (.getfield idx, 3))
    (h : VB l g own bs nL rt R ce sl E Qf (pc + 3) ll (vI (P 7 x 0) :: st) (vjn P Q)) : VB l g own bs nL rt R ce sl E Qf pc ll (vR 7 x :: st) (vjn P Q) :=
  vr_get own' (k := 7) (j := 0) (v := vI (P 7 x 0)) (ci := 3) (C := RX3) (T := TX3) (N := 13) ho hx rfl rfl inv_X3 (by decide) ⟨rfl, rfl, rfl⟩ hl rfl hd h
theorem vp_7_0 {x idx : Nat} {v : Int32} {P1 : VP} (own' : String) (ho : own = own') (hx : x < vcnt 7) (hl : Cond.fieldLink own' idx RX3 "there" "Z" ∈ vtb) (hv : v = 0 ∨ v = 1) (hP : P1 = vup P 7 x 0 v) (hd : decode bs pc = .ok (.putfield idx, 3))
    (h : VB l g own bs nL rt R ce sl E Qf (pc + 3) ll st (vjn P1 Q)) : VB l g own bs nL rt R ce sl E Qf pc ll (vI v :: vR 7 x :: st) (vjn P Q) :=
  vr_put own' (k := 7) (j := 0) (ci := 3) (C := RX3) (T := TX3) (N := 13) (ty := .boolean) (ty0 := tyX3) ho hx rfl rfl inv_X3 tyX3_ok nmX3 (by decide) ⟨rfl, rfl, rfl⟩ hl rfl rfl (by rcases hv with rfl | rfl <;> rfl) (by rcases hv with rfl | rfl <;> rfl) (Nat.le_of_ble_eq_true rfl) (by simp [venc, vup]) hd (by rw [vup_lo (k := 7) rfl P Q, ← hP]; exact h)
theorem vg_7_1 {x idx : Nat} (own' : String) (ho : own = own') (hx : x < vcnt 7) (hl : Cond.fieldLink own' idx RX3 "directory" "I" ∈ vtb) (hd : decode bs pc = .ok (.getfield idx, 3))
    (h : VB l g own bs nL rt R ce sl E Qf (pc + 3) ll (vI (P 7 x 1) :: st) (vjn P Q)) : VB l g own bs nL rt R ce sl E Qf pc ll (vR 7 x :: st) (vjn P Q) :=
  vr_get own' (k := 7) (j := 1) (v := vI (P 7 x 1)) (ci := 3) (C := RX3) (T := TX3) (N := 13) ho hx rfl rfl inv_X3 (by decide) ⟨rfl, rfl, rfl⟩ hl rfl hd h
theorem vp_7_1 {x idx : Nat} {v : Int32} {P1 : VP} (own' : String) (ho : own = own') (hx : x < vcnt 7) (hl : Cond.fieldLink own' idx RX3 "directory" "I" ∈ vtb) (hP : P1 = vup P 7 x 1 v) (hd : decode bs pc = .ok (.putfield idx, 3))
    (h : VB l g own bs nL rt R ce sl E Qf (pc + 3) ll st (vjn P1 Q)) : VB l g own bs nL rt R ce sl E Qf pc ll (vI v :: vR 7 x :: st) (vjn P Q) :=
  vr_put own' (k := 7) (j := 1) (ci := 3) (C := RX3) (T := TX3) (N := 13) (ty := .int) (ty0 := tyX3) ho hx rfl rfl inv_X3 tyX3_ok nmX3 (by decide) ⟨rfl, rfl, rfl⟩ hl rfl rfl rfl rfl (Nat.le_of_ble_eq_true rfl) (by simp [venc, vup]) hd (by rw [vup_lo (k := 7) rfl P Q, ← hP]; exact h)
theorem vg_7_2 {x idx : Nat} (own' : String) (ho : own = own') (hx : x < vcnt 7) (hl : Cond.fieldLink own' idx RX3 "name" "I" ∈ vtb) (hd : decode bs pc = .ok (.getfield idx, 3))
    (h : VB l g own bs nL rt R ce sl E Qf (pc + 3) ll (vI (P 7 x 2) :: st) (vjn P Q)) : VB l g own bs nL rt R ce sl E Qf pc ll (vR 7 x :: st) (vjn P Q) :=
  vr_get own' (k := 7) (j := 2) (v := vI (P 7 x 2)) (ci := 3) (C := RX3) (T := TX3) (N := 13) ho hx rfl rfl inv_X3 (by decide) ⟨rfl, rfl, rfl⟩ hl rfl hd h
theorem vp_7_2 {x idx : Nat} {v : Int32} {P1 : VP} (own' : String) (ho : own = own') (hx : x < vcnt 7) (hl : Cond.fieldLink own' idx RX3 "name" "I" ∈ vtb) (hP : P1 = vup P 7 x 2 v) (hd : decode bs pc = .ok (.putfield idx, 3))
    (h : VB l g own bs nL rt R ce sl E Qf (pc + 3) ll st (vjn P1 Q)) : VB l g own bs nL rt R ce sl E Qf pc ll (vI v :: vR 7 x :: st) (vjn P Q) :=
  vr_put own' (k := 7) (j := 2) (ci := 3) (C := RX3) (T := TX3) (N := 13) (ty := .int) (ty0 := tyX3) ho hx rfl rfl inv_X3 tyX3_ok nmX3 (by decide) ⟨rfl, rfl, rfl⟩ hl rfl rfl rfl rfl (Nat.le_of_ble_eq_true rfl) (by simp [venc, vup]) hd (by rw [vup_lo (k := 7) rfl P Q, ← hP]; exact h)
theorem vg_7_3 {x idx : Nat} (own' : String) (ho : own = own') (hx : x < vcnt 7) (hl : Cond.fieldLink own' idx RX3 "serial" "I" ∈ vtb) (hd : decode bs pc = .ok (.getfield idx, 3))
    (h : VB l g own bs nL rt R ce sl E Qf (pc + 3) ll (vI (P 7 x 3) :: st) (vjn P Q)) : VB l g own bs nL rt R ce sl E Qf pc ll (vR 7 x :: st) (vjn P Q) :=
  vr_get own' (k := 7) (j := 3) (v := vI (P 7 x 3)) (ci := 3) (C := RX3) (T := TX3) (N := 13) ho hx rfl rfl inv_X3 (by decide) ⟨rfl, rfl, rfl⟩ hl rfl hd h
theorem vp_7_3 {x idx : Nat} {v : Int32} {P1 : VP} (own' : String) (ho : own = own') (hx : x < vcnt 7) (hl : Cond.fieldLink own' idx RX3 "serial" "I" ∈ vtb) (hP : P1 = vup P 7 x 3 v) (hd : decode bs pc = .ok (.putfield idx, 3))
    (h : VB l g own bs nL rt R ce sl E Qf (pc + 3) ll st (vjn P1 Q)) : VB l g own bs nL rt R ce sl E Qf pc ll (vI v :: vR 7 x :: st) (vjn P Q) :=
  vr_put own' (k := 7) (j := 3) (ci := 3) (C := RX3) (T := TX3) (N := 13) (ty := .int) (ty0 := tyX3) ho hx rfl rfl inv_X3 tyX3_ok nmX3 (by decide) ⟨rfl, rfl, rfl⟩ hl rfl rfl rfl rfl (Nat.le_of_ble_eq_true rfl) (by simp [venc, vup]) hd (by rw [vup_lo (k := 7) rfl P Q, ← hP]; exact h)
theorem vg_7_4 {x idx : Nat} (own' : String) (ho : own = own') (hx : x < vcnt 7) (hl : Cond.fieldLink own' idx RX3 "length" "I" ∈ vtb) (hd : decode bs pc = .ok (.getfield idx, 3))
    (h : VB l g own bs nL rt R ce sl E Qf (pc + 3) ll (vI (P 7 x 4) :: st) (vjn P Q)) : VB l g own bs nL rt R ce sl E Qf pc ll (vR 7 x :: st) (vjn P Q) :=
  vr_get own' (k := 7) (j := 4) (v := vI (P 7 x 4)) (ci := 3) (C := RX3) (T := TX3) (N := 13) ho hx rfl rfl inv_X3 (by decide) ⟨rfl, rfl, rfl⟩ hl rfl hd h
theorem vp_7_4 {x idx : Nat} {v : Int32} {P1 : VP} (own' : String) (ho : own = own') (hx : x < vcnt 7) (hl : Cond.fieldLink own' idx RX3 "length" "I" ∈ vtb) (hP : P1 = vup P 7 x 4 v) (hd : decode bs pc = .ok (.putfield idx, 3))
    (h : VB l g own bs nL rt R ce sl E Qf (pc + 3) ll st (vjn P1 Q)) : VB l g own bs nL rt R ce sl E Qf pc ll (vI v :: vR 7 x :: st) (vjn P Q) :=
  vr_put own' (k := 7) (j := 4) (ci := 3) (C := RX3) (T := TX3) (N := 13) (ty := .int) (ty0 := tyX3) ho hx rfl rfl inv_X3 tyX3_ok nmX3 (by decide) ⟨rfl, rfl, rfl⟩ hl rfl rfl rfl rfl (Nat.le_of_ble_eq_true rfl) (by simp [venc, vup]) hd (by rw [vup_lo (k := 7) rfl P Q, ← hP]; exact h)
theorem vg_7_5 {x idx : Nat} (own' : String) (ho : own = own') (hx : x < vcnt 7) (hl : Cond.fieldLink own' idx RX3 "r1" "I" ∈ vtb) (hd : decode bs pc = .ok (.getfield idx, 3))
    (h : VB l g own bs nL rt R ce sl E Qf (pc + 3) ll (vI (P 7 x 5) :: st) (vjn P Q)) : VB l g own bs nL rt R ce sl E Qf pc ll (vR 7 x :: st) (vjn P Q) :=
  vr_get own' (k := 7) (j := 5) (v := vI (P 7 x 5)) (ci := 3) (C := RX3) (T := TX3) (N := 13) ho hx rfl rfl inv_X3 (by decide) ⟨rfl, rfl, rfl⟩ hl rfl hd h
theorem vp_7_5 {x idx : Nat} {v : Int32} {P1 : VP} (own' : String) (ho : own = own') (hx : x < vcnt 7) (hl : Cond.fieldLink own' idx RX3 "r1" "I" ∈ vtb) (hP : P1 = vup P 7 x 5 v) (hd : decode bs pc = .ok (.putfield idx, 3))
    (h : VB l g own bs nL rt R ce sl E Qf (pc + 3) ll st (vjn P1 Q)) : VB l g own bs nL rt R ce sl E Qf pc ll (vI v :: vR 7 x :: st) (vjn P Q) :=
  vr_put own' (k := 7) (j := 5) (ci := 3) (C := RX3) (T := TX3) (N := 13) (ty := .int) (ty0 := tyX3) ho hx rfl rfl inv_X3 tyX3_ok nmX3 (by decide) ⟨rfl, rfl, rfl⟩ hl rfl rfl rfl rfl (Nat.le_of_ble_eq_true rfl) (by simp [venc, vup]) hd (by rw [vup_lo (k := 7) rfl P Q, ← hP]; exact h)
theorem vg_7_6 {x idx : Nat} (own' : String) (ho : own = own') (hx : x < vcnt 7) (hl : Cond.fieldLink own' idx RX3 "r2" "I" ∈ vtb) (hd : decode bs pc = .ok (.getfield idx, 3))
    (h : VB l g own bs nL rt R ce sl E Qf (pc + 3) ll (vI (P 7 x 6) :: st) (vjn P Q)) : VB l g own bs nL rt R ce sl E Qf pc ll (vR 7 x :: st) (vjn P Q) :=
  vr_get own' (k := 7) (j := 6) (v := vI (P 7 x 6)) (ci := 3) (C := RX3) (T := TX3) (N := 13) ho hx rfl rfl inv_X3 (by decide) ⟨rfl, rfl, rfl⟩ hl rfl hd h
theorem vp_7_6 {x idx : Nat} {v : Int32} {P1 : VP} (own' : String) (ho : own = own') (hx : x < vcnt 7) (hl : Cond.fieldLink own' idx RX3 "r2" "I" ∈ vtb) (hP : P1 = vup P 7 x 6 v) (hd : decode bs pc = .ok (.putfield idx, 3))
    (h : VB l g own bs nL rt R ce sl E Qf (pc + 3) ll st (vjn P1 Q)) : VB l g own bs nL rt R ce sl E Qf pc ll (vI v :: vR 7 x :: st) (vjn P Q) :=
  vr_put own' (k := 7) (j := 6) (ci := 3) (C := RX3) (T := TX3) (N := 13) (ty := .int) (ty0 := tyX3) ho hx rfl rfl inv_X3 tyX3_ok nmX3 (by decide) ⟨rfl, rfl, rfl⟩ hl rfl rfl rfl rfl (Nat.le_of_ble_eq_true rfl) (by simp [venc, vup]) hd (by rw [vup_lo (k := 7) rfl P Q, ← hP]; exact h)
theorem vg_7_7 {x idx : Nat} (own' : String) (ho : own = own') (hx : x < vcnt 7) (hl : Cond.fieldLink own' idx RX3 "r3" "I" ∈ vtb) (hd : decode bs pc = .ok (.getfield idx, 3))
    (h : VB l g own bs nL rt R ce sl E Qf (pc + 3) ll (vI (P 7 x 7) :: st) (vjn P Q)) : VB l g own bs nL rt R ce sl E Qf pc ll (vR 7 x :: st) (vjn P Q) :=
  vr_get own' (k := 7) (j := 7) (v := vI (P 7 x 7)) (ci := 3) (C := RX3) (T := TX3) (N := 13) ho hx rfl rfl inv_X3 (by decide) ⟨rfl, rfl, rfl⟩ hl rfl hd h
theorem vp_7_7 {x idx : Nat} {v : Int32} {P1 : VP} (own' : String) (ho : own = own') (hx : x < vcnt 7) (hl : Cond.fieldLink own' idx RX3 "r3" "I" ∈ vtb) (hP : P1 = vup P 7 x 7 v) (hd : decode bs pc = .ok (.putfield idx, 3))
    (h : VB l g own bs nL rt R ce sl E Qf (pc + 3) ll st (vjn P1 Q)) : VB l g own bs nL rt R ce sl E Qf pc ll (vI v :: vR 7 x :: st) (vjn P Q) :=
  vr_put own' (k := 7) (j := 7) (ci := 3) (C := RX3) (T := TX3) (N := 13) (ty := .int) (ty0 := tyX3) ho hx rfl rfl inv_X3 tyX3_ok nmX3 (by decide) ⟨rfl, rfl, rfl⟩ hl rfl rfl rfl rfl (Nat.le_of_ble_eq_true rfl) (by simp [venc, vup]) hd (by rw [vup_lo (k := 7) rfl P Q, ← hP]; exact h)
theorem vg_7_8 {x idx : Nat} (own' : String) (ho : own = own') (hx : x < vcnt 7) (hl : Cond.fieldLink own' idx RX3 "may" "I" ∈ vtb) (hd : decode bs pc = .ok (.getfield idx, 3))
    (h : VB l g own bs nL rt R ce sl E Qf (pc + 3) ll (vI (P 7 x 8) :: st) (vjn P Q)) : VB l g own bs nL rt R ce sl E Qf pc ll (vR 7 x :: st) (vjn P Q) :=
  vr_get own' (k := 7) (j := 8) (v := vI (P 7 x 8)) (ci := 3) (C := RX3) (T := TX3) (N := 13) ho hx rfl rfl inv_X3 (by decide) ⟨rfl, rfl, rfl⟩ hl rfl hd h
theorem vp_7_8 {x idx : Nat} {v : Int32} {P1 : VP} (own' : String) (ho : own = own') (hx : x < vcnt 7) (hl : Cond.fieldLink own' idx RX3 "may" "I" ∈ vtb) (hP : P1 = vup P 7 x 8 v) (hd : decode bs pc = .ok (.putfield idx, 3))
    (h : VB l g own bs nL rt R ce sl E Qf (pc + 3) ll st (vjn P1 Q)) : VB l g own bs nL rt R ce sl E Qf pc ll (vI v :: vR 7 x :: st) (vjn P Q) :=
  vr_put own' (k := 7) (j := 8) (ci := 3) (C := RX3) (T := TX3) (N := 13) (ty := .int) (ty0 := tyX3) ho hx rfl rfl inv_X3 tyX3_ok nmX3 (by decide) ⟨rfl, rfl, rfl⟩ hl rfl rfl rfl rfl (Nat.le_of_ble_eq_true rfl) (by simp [venc, vup]) hd (by rw [vup_lo (k := 7) rfl P Q, ← hP]; exact h)
theorem vg_7_9 {x idx : Nat} (own' : String) (ho : own = own') (hx : x < vcnt 7) (hl : Cond.fieldLink own' idx RX3 "gates" "I" ∈ vtb) (hd : decode bs pc = .ok (.getfield idx, 3))
    (h : VB l g own bs nL rt R ce sl E Qf (pc + 3) ll (vI (P 7 x 9) :: st) (vjn P Q)) : VB l g own bs nL rt R ce sl E Qf pc ll (vR 7 x :: st) (vjn P Q) :=
  vr_get own' (k := 7) (j := 9) (v := vI (P 7 x 9)) (ci := 3) (C := RX3) (T := TX3) (N := 13) ho hx rfl rfl inv_X3 (by decide) ⟨rfl, rfl, rfl⟩ hl rfl hd h
theorem vp_7_9 {x idx : Nat} {v : Int32} {P1 : VP} (own' : String) (ho : own = own') (hx : x < vcnt 7) (hl : Cond.fieldLink own' idx RX3 "gates" "I" ∈ vtb) (hP : P1 = vup P 7 x 9 v) (hd : decode bs pc = .ok (.putfield idx, 3))
    (h : VB l g own bs nL rt R ce sl E Qf (pc + 3) ll st (vjn P1 Q)) : VB l g own bs nL rt R ce sl E Qf pc ll (vI v :: vR 7 x :: st) (vjn P Q) :=
  vr_put own' (k := 7) (j := 9) (ci := 3) (C := RX3) (T := TX3) (N := 13) (ty := .int) (ty0 := tyX3) ho hx rfl rfl inv_X3 tyX3_ok nmX3 (by decide) ⟨rfl, rfl, rfl⟩ hl rfl rfl rfl rfl (Nat.le_of_ble_eq_true rfl) (by simp [venc, vup]) hd (by rw [vup_lo (k := 7) rfl P Q, ← hP]; exact h)
theorem vg_7_10 {x idx : Nat} (own' : String) (ho : own = own') (hx : x < vcnt 7) (hl : Cond.fieldLink own' idx RX3 "kinds" "[I" ∈ vtb) (hd : decode bs pc = .ok (.getfield idx, 3))
    (h : VB l g own bs nL rt R ce sl E Qf (pc + 3) ll (vR 8 x :: st) (vjn P Q)) : VB l g own bs nL rt R ce sl E Qf pc ll (vR 7 x :: st) (vjn P Q) :=
  vr_get own' (k := 7) (j := 10) (v := vR 8 x) (ci := 3) (C := RX3) (T := TX3) (N := 13) ho hx rfl rfl inv_X3 (by decide) ⟨rfl, rfl, rfl⟩ hl rfl hd h
theorem vg_7_11 {x idx : Nat} (own' : String) (ho : own = own') (hx : x < vcnt 7) (hl : Cond.fieldLink own' idx RX3 "values" "[I" ∈ vtb) (hd : decode bs pc = .ok (.getfield idx, 3))
    (h : VB l g own bs nL rt R ce sl E Qf (pc + 3) ll (vR 9 x :: st) (vjn P Q)) : VB l g own bs nL rt R ce sl E Qf pc ll (vR 7 x :: st) (vjn P Q) :=
  vr_get own' (k := 7) (j := 11) (v := vR 9 x) (ci := 3) (C := RX3) (T := TX3) (N := 13) ho hx rfl rfl inv_X3 (by decide) ⟨rfl, rfl, rfl⟩ hl rfl hd h
theorem vg_7_12 {x idx : Nat} (own' : String) (ho : own = own') (hx : x < vcnt 7) (hl : Cond.fieldLink own' idx RX3 "knowns" "[I" ∈ vtb) (hd : decode bs pc = .ok (.getfield idx, 3))
    (h : VB l g own bs nL rt R ce sl E Qf (pc + 3) ll (vR 10 x :: st) (vjn P Q)) : VB l g own bs nL rt R ce sl E Qf pc ll (vR 7 x :: st) (vjn P Q) :=
  vr_get own' (k := 7) (j := 12) (v := vR 10 x) (ci := 3) (C := RX3) (T := TX3) (N := 13) ho hx rfl rfl inv_X3 (by decide) ⟨rfl, rfl, rfl⟩ hl rfl hd h
theorem vg_11_0 {x idx : Nat} (own' : String) (ho : own = own') (hx : x < vcnt 11) (hl : Cond.fieldLink own' idx RX4 "heights" "[I" ∈ vtb) (hd : decode bs pc = .ok (.getfield idx, 3))
    (h : VB l g own bs nL rt R ce sl E Qf (pc + 3) ll (vR 12 x :: st) (vjn P Q)) : VB l g own bs nL rt R ce sl E Qf pc ll (vR 11 x :: st) (vjn P Q) :=
  vr_get own' (k := 11) (j := 0) (v := vR 12 x) (ci := 4) (C := RX4) (T := TX4) (N := 2) ho hx rfl rfl inv_X4 (by decide) ⟨rfl, rfl, rfl⟩ hl rfl hd h
theorem vg_11_1 {x idx : Nat} (own' : String) (ho : own = own') (hx : x < vcnt 11) (hl : Cond.fieldLink own' idx RX4 "frames" "[LRingGates$Frame;" ∈ vtb) (hd : decode bs pc = .ok (.getfield idx, 3))
    (h : VB l g own bs nL rt R ce sl E Qf (pc + 3) ll (vR 13 x :: st) (vjn P Q)) : VB l g own bs nL rt R ce sl E Qf pc ll (vR 11 x :: st) (vjn P Q) :=
  vr_get own' (k := 11) (j := 1) (v := vR 13 x) (ci := 4) (C := RX4) (T := TX4) (N := 2) ho hx rfl rfl inv_X4 (by decide) ⟨rfl, rfl, rfl⟩ hl rfl hd h
theorem vg_17_0 {x idx : Nat} (own' : String) (ho : own = own') (hx : x < vcnt 17) (hl : Cond.fieldLink own' idx RX5 "bytes" "[I" ∈ vtb) (hd : decode bs pc = .ok (.getfield idx, 3))
    (h : VB l g own bs nL rt R ce sl E Qf (pc + 3) ll (vR 18 x :: st) (vjn P Q)) : VB l g own bs nL rt R ce sl E Qf pc ll (vR 17 x :: st) (vjn P Q) :=
  vr_get own' (k := 17) (j := 0) (v := vR 18 x) (ci := 5) (C := RX5) (T := TX5) (N := 8) ho hx rfl rfl inv_X5 (by decide) ⟨rfl, rfl, rfl⟩ hl rfl hd h
theorem vg_17_1 {x idx : Nat} (own' : String) (ho : own = own') (hx : x < vcnt 17) (hl : Cond.fieldLink own' idx RX5 "length" "I" ∈ vtb) (hd : decode bs pc = .ok (.getfield idx, 3))
    (h : VB l g own bs nL rt R ce sl E Qf (pc + 3) ll (vI (P 17 x 1) :: st) (vjn P Q)) : VB l g own bs nL rt R ce sl E Qf pc ll (vR 17 x :: st) (vjn P Q) :=
  vr_get own' (k := 17) (j := 1) (v := vI (P 17 x 1)) (ci := 5) (C := RX5) (T := TX5) (N := 8) ho hx rfl rfl inv_X5 (by decide) ⟨rfl, rfl, rfl⟩ hl rfl hd h
theorem vp_17_1 {x idx : Nat} {v : Int32} {P1 : VP} (own' : String) (ho : own = own') (hx : x < vcnt 17) (hl : Cond.fieldLink own' idx RX5 "length" "I" ∈ vtb) (hP : P1 = vup P 17 x 1 v) (hd : decode bs pc = .ok (.putfield idx, 3))
    (h : VB l g own bs nL rt R ce sl E Qf (pc + 3) ll st (vjn P1 Q)) : VB l g own bs nL rt R ce sl E Qf pc ll (vI v :: vR 17 x :: st) (vjn P Q) :=
  vr_put own' (k := 17) (j := 1) (ci := 5) (C := RX5) (T := TX5) (N := 8) (ty := .int) (ty0 := tyX5) ho hx rfl rfl inv_X5 tyX5_ok nmX5 (by decide) ⟨rfl, rfl, rfl⟩ hl rfl rfl rfl rfl (Nat.le_of_ble_eq_true rfl) (by simp [venc, vup]) hd (by rw [vup_lo (k := 17) rfl P Q, ← hP]; exact h)
theorem vg_17_2 {x idx : Nat} (own' : String) (ho : own = own') (hx : x < vcnt 17) (hl : Cond.fieldLink own' idx RX5 "words" "I" ∈ vtb) (hd : decode bs pc = .ok (.getfield idx, 3))
    (h : VB l g own bs nL rt R ce sl E Qf (pc + 3) ll (vI (P 17 x 2) :: st) (vjn P Q)) : VB l g own bs nL rt R ce sl E Qf pc ll (vR 17 x :: st) (vjn P Q) :=
  vr_get own' (k := 17) (j := 2) (v := vI (P 17 x 2)) (ci := 5) (C := RX5) (T := TX5) (N := 8) ho hx rfl rfl inv_X5 (by decide) ⟨rfl, rfl, rfl⟩ hl rfl hd h
theorem vp_17_2 {x idx : Nat} {v : Int32} {P1 : VP} (own' : String) (ho : own = own') (hx : x < vcnt 17) (hl : Cond.fieldLink own' idx RX5 "words" "I" ∈ vtb) (hP : P1 = vup P 17 x 2 v) (hd : decode bs pc = .ok (.putfield idx, 3))
    (h : VB l g own bs nL rt R ce sl E Qf (pc + 3) ll st (vjn P1 Q)) : VB l g own bs nL rt R ce sl E Qf pc ll (vI v :: vR 17 x :: st) (vjn P Q) :=
  vr_put own' (k := 17) (j := 2) (ci := 5) (C := RX5) (T := TX5) (N := 8) (ty := .int) (ty0 := tyX5) ho hx rfl rfl inv_X5 tyX5_ok nmX5 (by decide) ⟨rfl, rfl, rfl⟩ hl rfl rfl rfl rfl (Nat.le_of_ble_eq_true rfl) (by simp [venc, vup]) hd (by rw [vup_lo (k := 17) rfl P Q, ← hP]; exact h)
theorem vg_17_3 {x idx : Nat} (own' : String) (ho : own = own') (hx : x < vcnt 17) (hl : Cond.fieldLink own' idx RX5 "kinds" "[I" ∈ vtb) (hd : decode bs pc = .ok (.getfield idx, 3))
    (h : VB l g own bs nL rt R ce sl E Qf (pc + 3) ll (vR 19 x :: st) (vjn P Q)) : VB l g own bs nL rt R ce sl E Qf pc ll (vR 17 x :: st) (vjn P Q) :=
  vr_get own' (k := 17) (j := 3) (v := vR 19 x) (ci := 5) (C := RX5) (T := TX5) (N := 8) ho hx rfl rfl inv_X5 (by decide) ⟨rfl, rfl, rfl⟩ hl rfl hd h
theorem vg_17_4 {x idx : Nat} (own' : String) (ho : own = own') (hx : x < vcnt 17) (hl : Cond.fieldLink own' idx RX5 "values" "[I" ∈ vtb) (hd : decode bs pc = .ok (.getfield idx, 3))
    (h : VB l g own bs nL rt R ce sl E Qf (pc + 3) ll (vR 20 x :: st) (vjn P Q)) : VB l g own bs nL rt R ce sl E Qf pc ll (vR 17 x :: st) (vjn P Q) :=
  vr_get own' (k := 17) (j := 4) (v := vR 20 x) (ci := 5) (C := RX5) (T := TX5) (N := 8) ho hx rfl rfl inv_X5 (by decide) ⟨rfl, rfl, rfl⟩ hl rfl hd h
theorem vg_17_5 {x idx : Nat} (own' : String) (ho : own = own') (hx : x < vcnt 17) (hl : Cond.fieldLink own' idx RX5 "parts" "[I" ∈ vtb) (hd : decode bs pc = .ok (.getfield idx, 3))
    (h : VB l g own bs nL rt R ce sl E Qf (pc + 3) ll (vR 21 x :: st) (vjn P Q)) : VB l g own bs nL rt R ce sl E Qf pc ll (vR 17 x :: st) (vjn P Q) :=
  vr_get own' (k := 17) (j := 5) (v := vR 21 x) (ci := 5) (C := RX5) (T := TX5) (N := 8) ho hx rfl rfl inv_X5 (by decide) ⟨rfl, rfl, rfl⟩ hl rfl hd h
theorem vg_17_6 {x idx : Nat} (own' : String) (ho : own = own') (hx : x < vcnt 17) (hl : Cond.fieldLink own' idx RX5 "at" "I" ∈ vtb) (hd : decode bs pc = .ok (.getfield idx, 3))
    (h : VB l g own bs nL rt R ce sl E Qf (pc + 3) ll (vI (P 17 x 6) :: st) (vjn P Q)) : VB l g own bs nL rt R ce sl E Qf pc ll (vR 17 x :: st) (vjn P Q) :=
  vr_get own' (k := 17) (j := 6) (v := vI (P 17 x 6)) (ci := 5) (C := RX5) (T := TX5) (N := 8) ho hx rfl rfl inv_X5 (by decide) ⟨rfl, rfl, rfl⟩ hl rfl hd h
theorem vp_17_6 {x idx : Nat} {v : Int32} {P1 : VP} (own' : String) (ho : own = own') (hx : x < vcnt 17) (hl : Cond.fieldLink own' idx RX5 "at" "I" ∈ vtb) (hP : P1 = vup P 17 x 6 v) (hd : decode bs pc = .ok (.putfield idx, 3))
    (h : VB l g own bs nL rt R ce sl E Qf (pc + 3) ll st (vjn P1 Q)) : VB l g own bs nL rt R ce sl E Qf pc ll (vI v :: vR 17 x :: st) (vjn P Q) :=
  vr_put own' (k := 17) (j := 6) (ci := 5) (C := RX5) (T := TX5) (N := 8) (ty := .int) (ty0 := tyX5) ho hx rfl rfl inv_X5 tyX5_ok nmX5 (by decide) ⟨rfl, rfl, rfl⟩ hl rfl rfl rfl rfl (Nat.le_of_ble_eq_true rfl) (by simp [venc, vup]) hd (by rw [vup_lo (k := 17) rfl P Q, ← hP]; exact h)
theorem vg_17_7 {x idx : Nat} (own' : String) (ho : own = own') (hx : x < vcnt 17) (hl : Cond.fieldLink own' idx RX5 "fault" "I" ∈ vtb) (hd : decode bs pc = .ok (.getfield idx, 3))
    (h : VB l g own bs nL rt R ce sl E Qf (pc + 3) ll (vI (P 17 x 7) :: st) (vjn P Q)) : VB l g own bs nL rt R ce sl E Qf pc ll (vR 17 x :: st) (vjn P Q) :=
  vr_get own' (k := 17) (j := 7) (v := vI (P 17 x 7)) (ci := 5) (C := RX5) (T := TX5) (N := 8) ho hx rfl rfl inv_X5 (by decide) ⟨rfl, rfl, rfl⟩ hl rfl hd h
theorem vp_17_7 {x idx : Nat} {v : Int32} {P1 : VP} (own' : String) (ho : own = own') (hx : x < vcnt 17) (hl : Cond.fieldLink own' idx RX5 "fault" "I" ∈ vtb) (hP : P1 = vup P 17 x 7 v) (hd : decode bs pc = .ok (.putfield idx, 3))
    (h : VB l g own bs nL rt R ce sl E Qf (pc + 3) ll st (vjn P1 Q)) : VB l g own bs nL rt R ce sl E Qf pc ll (vI v :: vR 17 x :: st) (vjn P Q) :=
  vr_put own' (k := 17) (j := 7) (ci := 5) (C := RX5) (T := TX5) (N := 8) (ty := .int) (ty0 := tyX5) ho hx rfl rfl inv_X5 tyX5_ok nmX5 (by decide) ⟨rfl, rfl, rfl⟩ hl rfl rfl rfl rfl (Nat.le_of_ble_eq_true rfl) (by simp [venc, vup]) hd (by rw [vup_lo (k := 17) rfl P Q, ← hP]; exact h)
theorem vg_2_0 {x idx : Nat} (own' : String) (ho : own = own') (hx : x < vcnt 2) (hl : Cond.fieldLink own' idx RX6 "directories" "I" ∈ vtb) (hd : decode bs pc = .ok (.getfield idx, 3))
    (h : VB l g own bs nL rt R ce sl E Qf (pc + 3) ll (vI (P 2 x 0) :: st) (vjn P Q)) : VB l g own bs nL rt R ce sl E Qf pc ll (vR 2 x :: st) (vjn P Q) :=
  vr_get own' (k := 2) (j := 0) (v := vI (P 2 x 0)) (ci := 6) (C := RX6) (T := TX6) (N := 7) ho hx rfl rfl inv_X6 (by decide) ⟨rfl, rfl, rfl⟩ hl rfl hd h
theorem vp_2_0 {x idx : Nat} {v : Int32} {P1 : VP} (own' : String) (ho : own = own') (hx : x < vcnt 2) (hl : Cond.fieldLink own' idx RX6 "directories" "I" ∈ vtb) (hP : P1 = vup P 2 x 0 v) (hd : decode bs pc = .ok (.putfield idx, 3))
    (h : VB l g own bs nL rt R ce sl E Qf (pc + 3) ll st (vjn P1 Q)) : VB l g own bs nL rt R ce sl E Qf pc ll (vI v :: vR 2 x :: st) (vjn P Q) :=
  vr_put own' (k := 2) (j := 0) (ci := 6) (C := RX6) (T := TX6) (N := 7) (ty := .int) (ty0 := tyX6) ho hx rfl rfl inv_X6 tyX6_ok nmX6 (by decide) ⟨rfl, rfl, rfl⟩ hl rfl rfl rfl rfl (Nat.le_of_ble_eq_true rfl) (by simp [venc, vup]) hd (by rw [vup_lo (k := 2) rfl P Q, ← hP]; exact h)
theorem vg_2_1 {x idx : Nat} (own' : String) (ho : own = own') (hx : x < vcnt 2) (hl : Cond.fieldLink own' idx RX6 "aboves" "[I" ∈ vtb) (hd : decode bs pc = .ok (.getfield idx, 3))
    (h : VB l g own bs nL rt R ce sl E Qf (pc + 3) ll (vR 3 x :: st) (vjn P Q)) : VB l g own bs nL rt R ce sl E Qf pc ll (vR 2 x :: st) (vjn P Q) :=
  vr_get own' (k := 2) (j := 1) (v := vR 3 x) (ci := 6) (C := RX6) (T := TX6) (N := 7) ho hx rfl rfl inv_X6 (by decide) ⟨rfl, rfl, rfl⟩ hl rfl hd h
theorem vg_2_2 {x idx : Nat} (own' : String) (ho : own = own') (hx : x < vcnt 2) (hl : Cond.fieldLink own' idx RX6 "quotas" "[I" ∈ vtb) (hd : decode bs pc = .ok (.getfield idx, 3))
    (h : VB l g own bs nL rt R ce sl E Qf (pc + 3) ll (vR 4 x :: st) (vjn P Q)) : VB l g own bs nL rt R ce sl E Qf pc ll (vR 2 x :: st) (vjn P Q) :=
  vr_get own' (k := 2) (j := 2) (v := vR 4 x) (ci := 6) (C := RX6) (T := TX6) (N := 7) ho hx rfl rfl inv_X6 (by decide) ⟨rfl, rfl, rfl⟩ hl rfl hd h
theorem vg_2_3 {x idx : Nat} (own' : String) (ho : own = own') (hx : x < vcnt 2) (hl : Cond.fieldLink own' idx RX6 "rules" "I" ∈ vtb) (hd : decode bs pc = .ok (.getfield idx, 3))
    (h : VB l g own bs nL rt R ce sl E Qf (pc + 3) ll (vI (P 2 x 3) :: st) (vjn P Q)) : VB l g own bs nL rt R ce sl E Qf pc ll (vR 2 x :: st) (vjn P Q) :=
  vr_get own' (k := 2) (j := 3) (v := vI (P 2 x 3)) (ci := 6) (C := RX6) (T := TX6) (N := 7) ho hx rfl rfl inv_X6 (by decide) ⟨rfl, rfl, rfl⟩ hl rfl hd h
theorem vp_2_3 {x idx : Nat} {v : Int32} {P1 : VP} (own' : String) (ho : own = own') (hx : x < vcnt 2) (hl : Cond.fieldLink own' idx RX6 "rules" "I" ∈ vtb) (hP : P1 = vup P 2 x 3 v) (hd : decode bs pc = .ok (.putfield idx, 3))
    (h : VB l g own bs nL rt R ce sl E Qf (pc + 3) ll st (vjn P1 Q)) : VB l g own bs nL rt R ce sl E Qf pc ll (vI v :: vR 2 x :: st) (vjn P Q) :=
  vr_put own' (k := 2) (j := 3) (ci := 6) (C := RX6) (T := TX6) (N := 7) (ty := .int) (ty0 := tyX6) ho hx rfl rfl inv_X6 tyX6_ok nmX6 (by decide) ⟨rfl, rfl, rfl⟩ hl rfl rfl rfl rfl (Nat.le_of_ble_eq_true rfl) (by simp [venc, vup]) hd (by rw [vup_lo (k := 2) rfl P Q, ← hP]; exact h)
theorem vg_2_4 {x idx : Nat} (own' : String) (ho : own = own') (hx : x < vcnt 2) (hl : Cond.fieldLink own' idx RX6 "ruleRow" "[I" ∈ vtb) (hd : decode bs pc = .ok (.getfield idx, 3))
    (h : VB l g own bs nL rt R ce sl E Qf (pc + 3) ll (vR 5 x :: st) (vjn P Q)) : VB l g own bs nL rt R ce sl E Qf pc ll (vR 2 x :: st) (vjn P Q) :=
  vr_get own' (k := 2) (j := 4) (v := vR 5 x) (ci := 6) (C := RX6) (T := TX6) (N := 7) ho hx rfl rfl inv_X6 (by decide) ⟨rfl, rfl, rfl⟩ hl rfl hd h
theorem vg_2_5 {x idx : Nat} (own' : String) (ho : own = own') (hx : x < vcnt 2) (hl : Cond.fieldLink own' idx RX6 "made" "I" ∈ vtb) (hd : decode bs pc = .ok (.getfield idx, 3))
    (h : VB l g own bs nL rt R ce sl E Qf (pc + 3) ll (vI (P 2 x 5) :: st) (vjn P Q)) : VB l g own bs nL rt R ce sl E Qf pc ll (vR 2 x :: st) (vjn P Q) :=
  vr_get own' (k := 2) (j := 5) (v := vI (P 2 x 5)) (ci := 6) (C := RX6) (T := TX6) (N := 7) ho hx rfl rfl inv_X6 (by decide) ⟨rfl, rfl, rfl⟩ hl rfl hd h
theorem vp_2_5 {x idx : Nat} {v : Int32} {P1 : VP} (own' : String) (ho : own = own') (hx : x < vcnt 2) (hl : Cond.fieldLink own' idx RX6 "made" "I" ∈ vtb) (hP : P1 = vup P 2 x 5 v) (hd : decode bs pc = .ok (.putfield idx, 3))
    (h : VB l g own bs nL rt R ce sl E Qf (pc + 3) ll st (vjn P1 Q)) : VB l g own bs nL rt R ce sl E Qf pc ll (vI v :: vR 2 x :: st) (vjn P Q) :=
  vr_put own' (k := 2) (j := 5) (ci := 6) (C := RX6) (T := TX6) (N := 7) (ty := .int) (ty0 := tyX6) ho hx rfl rfl inv_X6 tyX6_ok nmX6 (by decide) ⟨rfl, rfl, rfl⟩ hl rfl rfl rfl rfl (Nat.le_of_ble_eq_true rfl) (by simp [venc, vup]) hd (by rw [vup_lo (k := 2) rfl P Q, ← hP]; exact h)
theorem vg_2_6 {x idx : Nat} (own' : String) (ho : own = own') (hx : x < vcnt 2) (hl : Cond.fieldLink own' idx RX6 "segments" "[LRingGates$Segment;" ∈ vtb) (hd : decode bs pc = .ok (.getfield idx, 3))
    (h : VB l g own bs nL rt R ce sl E Qf (pc + 3) ll (vR 6 x :: st) (vjn P Q)) : VB l g own bs nL rt R ce sl E Qf pc ll (vR 2 x :: st) (vjn P Q) :=
  vr_get own' (k := 2) (j := 6) (v := vR 6 x) (ci := 6) (C := RX6) (T := TX6) (N := 7) ho hx rfl rfl inv_X6 (by decide) ⟨rfl, rfl, rfl⟩ hl rfl hd h
theorem vg_0_0 {x idx : Nat} (own' : String) (ho : own = own') (hx : x < vcnt 0) (hl : Cond.fieldLink own' idx RX7 "now" "LRingGates$Machine;" ∈ vtb) (hd : decode bs pc = .ok (.getfield idx, 3))
    (h : VB l g own bs nL rt R ce sl E Qf (pc + 3) ll (vR 1 0 :: st) (vjn P Q)) : VB l g own bs nL rt R ce sl E Qf pc ll (vR 0 x :: st) (vjn P Q) :=
  vr_get own' (k := 0) (j := 0) (v := vR 1 0) (ci := 7) (C := RX7) (T := TX7) (N := 6) ho hx rfl rfl inv_X7 (by decide) ⟨rfl, rfl, rfl⟩ hl rfl hd h
theorem vg_0_1 {x idx : Nat} (own' : String) (ho : own = own') (hx : x < vcnt 0) (hl : Cond.fieldLink own' idx RX7 "kept" "LRingGates$Machine;" ∈ vtb) (hd : decode bs pc = .ok (.getfield idx, 3))
    (h : VB l g own bs nL rt R ce sl E Qf (pc + 3) ll (vR 1 1 :: st) (vjn P Q)) : VB l g own bs nL rt R ce sl E Qf pc ll (vR 0 x :: st) (vjn P Q) :=
  vr_get own' (k := 0) (j := 1) (v := vR 1 1) (ci := 7) (C := RX7) (T := TX7) (N := 6) ho hx rfl rfl inv_X7 (by decide) ⟨rfl, rfl, rfl⟩ hl rfl hd h
theorem vg_0_2 {x idx : Nat} (own' : String) (ho : own = own') (hx : x < vcnt 0) (hl : Cond.fieldLink own' idx RX7 "thought" "LRingGates$Machine;" ∈ vtb) (hd : decode bs pc = .ok (.getfield idx, 3))
    (h : VB l g own bs nL rt R ce sl E Qf (pc + 3) ll (vR 1 2 :: st) (vjn P Q)) : VB l g own bs nL rt R ce sl E Qf pc ll (vR 0 x :: st) (vjn P Q) :=
  vr_get own' (k := 0) (j := 2) (v := vR 1 2) (ci := 7) (C := RX7) (T := TX7) (N := 6) ho hx rfl rfl inv_X7 (by decide) ⟨rfl, rfl, rfl⟩ hl rfl hd h
theorem vg_0_3 {x idx : Nat} (own' : String) (ho : own = own') (hx : x < vcnt 0) (hl : Cond.fieldLink own' idx RX7 "tape" "LRingGates$Text;" ∈ vtb) (hd : decode bs pc = .ok (.getfield idx, 3))
    (h : VB l g own bs nL rt R ce sl E Qf (pc + 3) ll (vR 17 0 :: st) (vjn P Q)) : VB l g own bs nL rt R ce sl E Qf pc ll (vR 0 x :: st) (vjn P Q) :=
  vr_get own' (k := 0) (j := 3) (v := vR 17 0) (ci := 7) (C := RX7) (T := TX7) (N := 6) ho hx rfl rfl inv_X7 (by decide) ⟨rfl, rfl, rfl⟩ hl rfl hd h
theorem vg_0_4 {x idx : Nat} (own' : String) (ho : own = own') (hx : x < vcnt 0) (hl : Cond.fieldLink own' idx RX7 "isKept" "Z" ∈ vtb) (hd : decode bs pc = .ok (.getfield idx, 3))
    (h : VB l g own bs nL rt R ce sl E Qf (pc + 3) ll (vI (P 0 x 4) :: st) (vjn P Q)) : VB l g own bs nL rt R ce sl E Qf pc ll (vR 0 x :: st) (vjn P Q) :=
  vr_get own' (k := 0) (j := 4) (v := vI (P 0 x 4)) (ci := 7) (C := RX7) (T := TX7) (N := 6) ho hx rfl rfl inv_X7 (by decide) ⟨rfl, rfl, rfl⟩ hl rfl hd h
theorem vp_0_4 {x idx : Nat} {v : Int32} {P1 : VP} (own' : String) (ho : own = own') (hx : x < vcnt 0) (hl : Cond.fieldLink own' idx RX7 "isKept" "Z" ∈ vtb) (hv : v = 0 ∨ v = 1) (hP : P1 = vup P 0 x 4 v) (hd : decode bs pc = .ok (.putfield idx, 3))
    (h : VB l g own bs nL rt R ce sl E Qf (pc + 3) ll st (vjn P1 Q)) : VB l g own bs nL rt R ce sl E Qf pc ll (vI v :: vR 0 x :: st) (vjn P Q) :=
  vr_put own' (k := 0) (j := 4) (ci := 7) (C := RX7) (T := TX7) (N := 6) (ty := .boolean) (ty0 := tyX7) ho hx rfl rfl inv_X7 tyX7_ok nmX7 (by decide) ⟨rfl, rfl, rfl⟩ hl rfl rfl (by rcases hv with rfl | rfl <;> rfl) (by rcases hv with rfl | rfl <;> rfl) (Nat.le_of_ble_eq_true rfl) (by simp [venc, vup]) hd (by rw [vup_lo (k := 0) rfl P Q, ← hP]; exact h)
theorem vg_0_5 {x idx : Nat} (own' : String) (ho : own = own') (hx : x < vcnt 0) (hl : Cond.fieldLink own' idx RX7 "latestWhy" "I" ∈ vtb) (hd : decode bs pc = .ok (.getfield idx, 3))
    (h : VB l g own bs nL rt R ce sl E Qf (pc + 3) ll (vI (P 0 x 5) :: st) (vjn P Q)) : VB l g own bs nL rt R ce sl E Qf pc ll (vR 0 x :: st) (vjn P Q) :=
  vr_get own' (k := 0) (j := 5) (v := vI (P 0 x 5)) (ci := 7) (C := RX7) (T := TX7) (N := 6) ho hx rfl rfl inv_X7 (by decide) ⟨rfl, rfl, rfl⟩ hl rfl hd h
theorem vp_0_5 {x idx : Nat} {v : Int32} {P1 : VP} (own' : String) (ho : own = own') (hx : x < vcnt 0) (hl : Cond.fieldLink own' idx RX7 "latestWhy" "I" ∈ vtb) (hP : P1 = vup P 0 x 5 v) (hd : decode bs pc = .ok (.putfield idx, 3))
    (h : VB l g own bs nL rt R ce sl E Qf (pc + 3) ll st (vjn P1 Q)) : VB l g own bs nL rt R ce sl E Qf pc ll (vI v :: vR 0 x :: st) (vjn P Q) :=
  vr_put own' (k := 0) (j := 5) (ci := 7) (C := RX7) (T := TX7) (N := 6) (ty := .int) (ty0 := tyX7) ho hx rfl rfl inv_X7 tyX7_ok nmX7 (by decide) ⟨rfl, rfl, rfl⟩ hl rfl rfl rfl rfl (Nat.le_of_ble_eq_true rfl) (by simp [venc, vup]) hd (by rw [vup_lo (k := 0) rfl P Q, ← hP]; exact h)
theorem vg_22_0 {x idx : Nat} (own' : String) (ho : own = own') (hx : x < vcnt 22) (hl : Cond.fieldLink own' idx RX8 "now" "[I" ∈ vtb) (hd : decode bs pc = .ok (.getfield idx, 3))
    (h : VB l g own bs nL rt R ce sl E Qf (pc + 3) ll (vR 23 x :: st) (vjn P Q)) : VB l g own bs nL rt R ce sl E Qf pc ll (vR 22 x :: st) (vjn P Q) :=
  vr_get own' (k := 22) (j := 0) (v := vR 23 x) (ci := 8) (C := RX8) (T := TX8) (N := 18) ho hx rfl rfl inv_X8 (by decide) ⟨rfl, rfl, rfl⟩ hl rfl hd h
theorem vg_22_1 {x idx : Nat} (own' : String) (ho : own = own') (hx : x < vcnt 22) (hl : Cond.fieldLink own' idx RX8 "then" "[I" ∈ vtb) (hd : decode bs pc = .ok (.getfield idx, 3))
    (h : VB l g own bs nL rt R ce sl E Qf (pc + 3) ll (vR 24 x :: st) (vjn P Q)) : VB l g own bs nL rt R ce sl E Qf pc ll (vR 22 x :: st) (vjn P Q) :=
  vr_get own' (k := 22) (j := 1) (v := vR 24 x) (ci := 8) (C := RX8) (T := TX8) (N := 18) ho hx rfl rfl inv_X8 (by decide) ⟨rfl, rfl, rfl⟩ hl rfl hd h
theorem vg_22_2 {x idx : Nat} (own' : String) (ho : own = own') (hx : x < vcnt 22) (hl : Cond.fieldLink own' idx RX8 "kept" "[I" ∈ vtb) (hd : decode bs pc = .ok (.getfield idx, 3))
    (h : VB l g own bs nL rt R ce sl E Qf (pc + 3) ll (vR 25 x :: st) (vjn P Q)) : VB l g own bs nL rt R ce sl E Qf pc ll (vR 22 x :: st) (vjn P Q) :=
  vr_get own' (k := 22) (j := 2) (v := vR 25 x) (ci := 8) (C := RX8) (T := TX8) (N := 18) ho hx rfl rfl inv_X8 (by decide) ⟨rfl, rfl, rfl⟩ hl rfl hd h
theorem vg_22_3 {x idx : Nat} (own' : String) (ho : own = own') (hx : x < vcnt 22) (hl : Cond.fieldLink own' idx RX8 "hasImage" "Z" ∈ vtb) (hd : decode bs pc = .ok (.getfield idx, 3))
    (h : VB l g own bs nL rt R ce sl E Qf (pc + 3) ll (vI (Q 22 x 3) :: st) (vjn P Q)) : VB l g own bs nL rt R ce sl E Qf pc ll (vR 22 x :: st) (vjn P Q) :=
  vr_get own' (k := 22) (j := 3) (v := vI (Q 22 x 3)) (ci := 8) (C := RX8) (T := TX8) (N := 18) ho hx rfl rfl inv_X8 (by decide) ⟨rfl, rfl, rfl⟩ hl rfl hd h
theorem vp_22_3 {x idx : Nat} {v : Int32} {P1 : VP} (own' : String) (ho : own = own') (hx : x < vcnt 22) (hl : Cond.fieldLink own' idx RX8 "hasImage" "Z" ∈ vtb) (hv : v = 0 ∨ v = 1) (hP : P1 = vup Q 22 x 3 v) (hd : decode bs pc = .ok (.putfield idx, 3))
    (h : VB l g own bs nL rt R ce sl E Qf (pc + 3) ll st (vjn P P1)) : VB l g own bs nL rt R ce sl E Qf pc ll (vI v :: vR 22 x :: st) (vjn P Q) :=
  vr_put own' (k := 22) (j := 3) (ci := 8) (C := RX8) (T := TX8) (N := 18) (ty := .boolean) (ty0 := tyX8) ho hx rfl rfl inv_X8 tyX8_ok nmX8 (by decide) ⟨rfl, rfl, rfl⟩ hl rfl rfl (by rcases hv with rfl | rfl <;> rfl) (by rcases hv with rfl | rfl <;> rfl) (Nat.le_of_ble_eq_true rfl) (by simp [venc, vup]) hd (by rw [vup_hi (k := 22) rfl P Q, ← hP]; exact h)
theorem vg_22_4 {x idx : Nat} (own' : String) (ho : own = own') (hx : x < vcnt 22) (hl : Cond.fieldLink own' idx RX8 "why" "I" ∈ vtb) (hd : decode bs pc = .ok (.getfield idx, 3))
    (h : VB l g own bs nL rt R ce sl E Qf (pc + 3) ll (vI (Q 22 x 4) :: st) (vjn P Q)) : VB l g own bs nL rt R ce sl E Qf pc ll (vR 22 x :: st) (vjn P Q) :=
  vr_get own' (k := 22) (j := 4) (v := vI (Q 22 x 4)) (ci := 8) (C := RX8) (T := TX8) (N := 18) ho hx rfl rfl inv_X8 (by decide) ⟨rfl, rfl, rfl⟩ hl rfl hd h
theorem vp_22_4 {x idx : Nat} {v : Int32} {P1 : VP} (own' : String) (ho : own = own') (hx : x < vcnt 22) (hl : Cond.fieldLink own' idx RX8 "why" "I" ∈ vtb) (hP : P1 = vup Q 22 x 4 v) (hd : decode bs pc = .ok (.putfield idx, 3))
    (h : VB l g own bs nL rt R ce sl E Qf (pc + 3) ll st (vjn P P1)) : VB l g own bs nL rt R ce sl E Qf pc ll (vI v :: vR 22 x :: st) (vjn P Q) :=
  vr_put own' (k := 22) (j := 4) (ci := 8) (C := RX8) (T := TX8) (N := 18) (ty := .int) (ty0 := tyX8) ho hx rfl rfl inv_X8 tyX8_ok nmX8 (by decide) ⟨rfl, rfl, rfl⟩ hl rfl rfl rfl rfl (Nat.le_of_ble_eq_true rfl) (by simp [venc, vup]) hd (by rw [vup_hi (k := 22) rfl P Q, ← hP]; exact h)
theorem vg_22_5 {x idx : Nat} (own' : String) (ho : own = own') (hx : x < vcnt 22) (hl : Cond.fieldLink own' idx RX8 "tape" "[I" ∈ vtb) (hd : decode bs pc = .ok (.getfield idx, 3))
    (h : VB l g own bs nL rt R ce sl E Qf (pc + 3) ll (vR 26 x :: st) (vjn P Q)) : VB l g own bs nL rt R ce sl E Qf pc ll (vR 22 x :: st) (vjn P Q) :=
  vr_get own' (k := 22) (j := 5) (v := vR 26 x) (ci := 8) (C := RX8) (T := TX8) (N := 18) ho hx rfl rfl inv_X8 (by decide) ⟨rfl, rfl, rfl⟩ hl rfl hd h
theorem vg_22_6 {x idx : Nat} (own' : String) (ho : own = own') (hx : x < vcnt 22) (hl : Cond.fieldLink own' idx RX8 "taped" "I" ∈ vtb) (hd : decode bs pc = .ok (.getfield idx, 3))
    (h : VB l g own bs nL rt R ce sl E Qf (pc + 3) ll (vI (Q 22 x 6) :: st) (vjn P Q)) : VB l g own bs nL rt R ce sl E Qf pc ll (vR 22 x :: st) (vjn P Q) :=
  vr_get own' (k := 22) (j := 6) (v := vI (Q 22 x 6)) (ci := 8) (C := RX8) (T := TX8) (N := 18) ho hx rfl rfl inv_X8 (by decide) ⟨rfl, rfl, rfl⟩ hl rfl hd h
theorem vp_22_6 {x idx : Nat} {v : Int32} {P1 : VP} (own' : String) (ho : own = own') (hx : x < vcnt 22) (hl : Cond.fieldLink own' idx RX8 "taped" "I" ∈ vtb) (hP : P1 = vup Q 22 x 6 v) (hd : decode bs pc = .ok (.putfield idx, 3))
    (h : VB l g own bs nL rt R ce sl E Qf (pc + 3) ll st (vjn P P1)) : VB l g own bs nL rt R ce sl E Qf pc ll (vI v :: vR 22 x :: st) (vjn P Q) :=
  vr_put own' (k := 22) (j := 6) (ci := 8) (C := RX8) (T := TX8) (N := 18) (ty := .int) (ty0 := tyX8) ho hx rfl rfl inv_X8 tyX8_ok nmX8 (by decide) ⟨rfl, rfl, rfl⟩ hl rfl rfl rfl rfl (Nat.le_of_ble_eq_true rfl) (by simp [venc, vup]) hd (by rw [vup_hi (k := 22) rfl P Q, ← hP]; exact h)
theorem vg_22_7 {x idx : Nat} (own' : String) (ho : own = own') (hx : x < vcnt 22) (hl : Cond.fieldLink own' idx RX8 "length" "I" ∈ vtb) (hd : decode bs pc = .ok (.getfield idx, 3))
    (h : VB l g own bs nL rt R ce sl E Qf (pc + 3) ll (vI (Q 22 x 7) :: st) (vjn P Q)) : VB l g own bs nL rt R ce sl E Qf pc ll (vR 22 x :: st) (vjn P Q) :=
  vr_get own' (k := 22) (j := 7) (v := vI (Q 22 x 7)) (ci := 8) (C := RX8) (T := TX8) (N := 18) ho hx rfl rfl inv_X8 (by decide) ⟨rfl, rfl, rfl⟩ hl rfl hd h
theorem vp_22_7 {x idx : Nat} {v : Int32} {P1 : VP} (own' : String) (ho : own = own') (hx : x < vcnt 22) (hl : Cond.fieldLink own' idx RX8 "length" "I" ∈ vtb) (hP : P1 = vup Q 22 x 7 v) (hd : decode bs pc = .ok (.putfield idx, 3))
    (h : VB l g own bs nL rt R ce sl E Qf (pc + 3) ll st (vjn P P1)) : VB l g own bs nL rt R ce sl E Qf pc ll (vI v :: vR 22 x :: st) (vjn P Q) :=
  vr_put own' (k := 22) (j := 7) (ci := 8) (C := RX8) (T := TX8) (N := 18) (ty := .int) (ty0 := tyX8) ho hx rfl rfl inv_X8 tyX8_ok nmX8 (by decide) ⟨rfl, rfl, rfl⟩ hl rfl rfl rfl rfl (Nat.le_of_ble_eq_true rfl) (by simp [venc, vup]) hd (by rw [vup_hi (k := 22) rfl P Q, ← hP]; exact h)
theorem vg_22_8 {x idx : Nat} (own' : String) (ho : own = own') (hx : x < vcnt 22) (hl : Cond.fieldLink own' idx RX8 "place" "I" ∈ vtb) (hd : decode bs pc = .ok (.getfield idx, 3))
    (h : VB l g own bs nL rt R ce sl E Qf (pc + 3) ll (vI (Q 22 x 8) :: st) (vjn P Q)) : VB l g own bs nL rt R ce sl E Qf pc ll (vR 22 x :: st) (vjn P Q) :=
  vr_get own' (k := 22) (j := 8) (v := vI (Q 22 x 8)) (ci := 8) (C := RX8) (T := TX8) (N := 18) ho hx rfl rfl inv_X8 (by decide) ⟨rfl, rfl, rfl⟩ hl rfl hd h
theorem vp_22_8 {x idx : Nat} {v : Int32} {P1 : VP} (own' : String) (ho : own = own') (hx : x < vcnt 22) (hl : Cond.fieldLink own' idx RX8 "place" "I" ∈ vtb) (hP : P1 = vup Q 22 x 8 v) (hd : decode bs pc = .ok (.putfield idx, 3))
    (h : VB l g own bs nL rt R ce sl E Qf (pc + 3) ll st (vjn P P1)) : VB l g own bs nL rt R ce sl E Qf pc ll (vI v :: vR 22 x :: st) (vjn P Q) :=
  vr_put own' (k := 22) (j := 8) (ci := 8) (C := RX8) (T := TX8) (N := 18) (ty := .int) (ty0 := tyX8) ho hx rfl rfl inv_X8 tyX8_ok nmX8 (by decide) ⟨rfl, rfl, rfl⟩ hl rfl rfl rfl rfl (Nat.le_of_ble_eq_true rfl) (by simp [venc, vup]) hd (by rw [vup_hi (k := 22) rfl P Q, ← hP]; exact h)
theorem vg_22_9 {x idx : Nat} (own' : String) (ho : own = own') (hx : x < vcnt 22) (hl : Cond.fieldLink own' idx RX8 "fault" "I" ∈ vtb) (hd : decode bs pc = .ok (.getfield idx, 3))
    (h : VB l g own bs nL rt R ce sl E Qf (pc + 3) ll (vI (Q 22 x 9) :: st) (vjn P Q)) : VB l g own bs nL rt R ce sl E Qf pc ll (vR 22 x :: st) (vjn P Q) :=
  vr_get own' (k := 22) (j := 9) (v := vI (Q 22 x 9)) (ci := 8) (C := RX8) (T := TX8) (N := 18) ho hx rfl rfl inv_X8 (by decide) ⟨rfl, rfl, rfl⟩ hl rfl hd h
theorem vp_22_9 {x idx : Nat} {v : Int32} {P1 : VP} (own' : String) (ho : own = own') (hx : x < vcnt 22) (hl : Cond.fieldLink own' idx RX8 "fault" "I" ∈ vtb) (hP : P1 = vup Q 22 x 9 v) (hd : decode bs pc = .ok (.putfield idx, 3))
    (h : VB l g own bs nL rt R ce sl E Qf (pc + 3) ll st (vjn P P1)) : VB l g own bs nL rt R ce sl E Qf pc ll (vI v :: vR 22 x :: st) (vjn P Q) :=
  vr_put own' (k := 22) (j := 9) (ci := 8) (C := RX8) (T := TX8) (N := 18) (ty := .int) (ty0 := tyX8) ho hx rfl rfl inv_X8 tyX8_ok nmX8 (by decide) ⟨rfl, rfl, rfl⟩ hl rfl rfl rfl rfl (Nat.le_of_ble_eq_true rfl) (by simp [venc, vup]) hd (by rw [vup_hi (k := 22) rfl P Q, ← hP]; exact h)
theorem vg_22_10 {x idx : Nat} (own' : String) (ho : own = own') (hx : x < vcnt 22) (hl : Cond.fieldLink own' idx RX8 "lines" "[I" ∈ vtb) (hd : decode bs pc = .ok (.getfield idx, 3))
    (h : VB l g own bs nL rt R ce sl E Qf (pc + 3) ll (vR 27 x :: st) (vjn P Q)) : VB l g own bs nL rt R ce sl E Qf pc ll (vR 22 x :: st) (vjn P Q) :=
  vr_get own' (k := 22) (j := 10) (v := vR 27 x) (ci := 8) (C := RX8) (T := TX8) (N := 18) ho hx rfl rfl inv_X8 (by decide) ⟨rfl, rfl, rfl⟩ hl rfl hd h
theorem vg_22_11 {x idx : Nat} (own' : String) (ho : own = own') (hx : x < vcnt 22) (hl : Cond.fieldLink own' idx RX8 "lineMany" "I" ∈ vtb) (hd : decode bs pc = .ok (.getfield idx, 3))
    (h : VB l g own bs nL rt R ce sl E Qf (pc + 3) ll (vI (Q 22 x 11) :: st) (vjn P Q)) : VB l g own bs nL rt R ce sl E Qf pc ll (vR 22 x :: st) (vjn P Q) :=
  vr_get own' (k := 22) (j := 11) (v := vI (Q 22 x 11)) (ci := 8) (C := RX8) (T := TX8) (N := 18) ho hx rfl rfl inv_X8 (by decide) ⟨rfl, rfl, rfl⟩ hl rfl hd h
theorem vp_22_11 {x idx : Nat} {v : Int32} {P1 : VP} (own' : String) (ho : own = own') (hx : x < vcnt 22) (hl : Cond.fieldLink own' idx RX8 "lineMany" "I" ∈ vtb) (hP : P1 = vup Q 22 x 11 v) (hd : decode bs pc = .ok (.putfield idx, 3))
    (h : VB l g own bs nL rt R ce sl E Qf (pc + 3) ll st (vjn P P1)) : VB l g own bs nL rt R ce sl E Qf pc ll (vI v :: vR 22 x :: st) (vjn P Q) :=
  vr_put own' (k := 22) (j := 11) (ci := 8) (C := RX8) (T := TX8) (N := 18) (ty := .int) (ty0 := tyX8) ho hx rfl rfl inv_X8 tyX8_ok nmX8 (by decide) ⟨rfl, rfl, rfl⟩ hl rfl rfl rfl rfl (Nat.le_of_ble_eq_true rfl) (by simp [venc, vup]) hd (by rw [vup_hi (k := 22) rfl P Q, ← hP]; exact h)
theorem vg_22_12 {x idx : Nat} (own' : String) (ho : own = own') (hx : x < vcnt 22) (hl : Cond.fieldLink own' idx RX8 "acts" "[Ljava/lang/String;" ∈ vtb) (hd : decode bs pc = .ok (.getfield idx, 3))
    (h : VB l g own bs nL rt R ce sl E Qf (pc + 3) ll (vR 29 x :: st) (vjn P Q)) : VB l g own bs nL rt R ce sl E Qf pc ll (vR 22 x :: st) (vjn P Q) :=
  vr_get own' (k := 22) (j := 12) (v := vR 29 x) (ci := 8) (C := RX8) (T := TX8) (N := 18) ho hx rfl rfl inv_X8 (by decide) ⟨rfl, rfl, rfl⟩ hl rfl hd h
theorem vg_22_13 {x idx : Nat} (own' : String) (ho : own = own') (hx : x < vcnt 22) (hl : Cond.fieldLink own' idx RX8 "e" "I" ∈ vtb) (hd : decode bs pc = .ok (.getfield idx, 3))
    (h : VB l g own bs nL rt R ce sl E Qf (pc + 3) ll (vI (Q 22 x 13) :: st) (vjn P Q)) : VB l g own bs nL rt R ce sl E Qf pc ll (vR 22 x :: st) (vjn P Q) :=
  vr_get own' (k := 22) (j := 13) (v := vI (Q 22 x 13)) (ci := 8) (C := RX8) (T := TX8) (N := 18) ho hx rfl rfl inv_X8 (by decide) ⟨rfl, rfl, rfl⟩ hl rfl hd h
theorem vp_22_13 {x idx : Nat} {v : Int32} {P1 : VP} (own' : String) (ho : own = own') (hx : x < vcnt 22) (hl : Cond.fieldLink own' idx RX8 "e" "I" ∈ vtb) (hP : P1 = vup Q 22 x 13 v) (hd : decode bs pc = .ok (.putfield idx, 3))
    (h : VB l g own bs nL rt R ce sl E Qf (pc + 3) ll st (vjn P P1)) : VB l g own bs nL rt R ce sl E Qf pc ll (vI v :: vR 22 x :: st) (vjn P Q) :=
  vr_put own' (k := 22) (j := 13) (ci := 8) (C := RX8) (T := TX8) (N := 18) (ty := .int) (ty0 := tyX8) ho hx rfl rfl inv_X8 tyX8_ok nmX8 (by decide) ⟨rfl, rfl, rfl⟩ hl rfl rfl rfl rfl (Nat.le_of_ble_eq_true rfl) (by simp [venc, vup]) hd (by rw [vup_hi (k := 22) rfl P Q, ← hP]; exact h)
theorem vg_22_14 {x idx : Nat} (own' : String) (ho : own = own') (hx : x < vcnt 22) (hl : Cond.fieldLink own' idx RX8 "segmentCame" "I" ∈ vtb) (hd : decode bs pc = .ok (.getfield idx, 3))
    (h : VB l g own bs nL rt R ce sl E Qf (pc + 3) ll (vI (Q 22 x 14) :: st) (vjn P Q)) : VB l g own bs nL rt R ce sl E Qf pc ll (vR 22 x :: st) (vjn P Q) :=
  vr_get own' (k := 22) (j := 14) (v := vI (Q 22 x 14)) (ci := 8) (C := RX8) (T := TX8) (N := 18) ho hx rfl rfl inv_X8 (by decide) ⟨rfl, rfl, rfl⟩ hl rfl hd h
theorem vp_22_14 {x idx : Nat} {v : Int32} {P1 : VP} (own' : String) (ho : own = own') (hx : x < vcnt 22) (hl : Cond.fieldLink own' idx RX8 "segmentCame" "I" ∈ vtb) (hP : P1 = vup Q 22 x 14 v) (hd : decode bs pc = .ok (.putfield idx, 3))
    (h : VB l g own bs nL rt R ce sl E Qf (pc + 3) ll st (vjn P P1)) : VB l g own bs nL rt R ce sl E Qf pc ll (vI v :: vR 22 x :: st) (vjn P Q) :=
  vr_put own' (k := 22) (j := 14) (ci := 8) (C := RX8) (T := TX8) (N := 18) (ty := .int) (ty0 := tyX8) ho hx rfl rfl inv_X8 tyX8_ok nmX8 (by decide) ⟨rfl, rfl, rfl⟩ hl rfl rfl rfl rfl (Nat.le_of_ble_eq_true rfl) (by simp [venc, vup]) hd (by rw [vup_hi (k := 22) rfl P Q, ← hP]; exact h)
theorem vg_22_15 {x idx : Nat} (own' : String) (ho : own = own') (hx : x < vcnt 22) (hl : Cond.fieldLink own' idx RX8 "wordCame" "I" ∈ vtb) (hd : decode bs pc = .ok (.getfield idx, 3))
    (h : VB l g own bs nL rt R ce sl E Qf (pc + 3) ll (vI (Q 22 x 15) :: st) (vjn P Q)) : VB l g own bs nL rt R ce sl E Qf pc ll (vR 22 x :: st) (vjn P Q) :=
  vr_get own' (k := 22) (j := 15) (v := vI (Q 22 x 15)) (ci := 8) (C := RX8) (T := TX8) (N := 18) ho hx rfl rfl inv_X8 (by decide) ⟨rfl, rfl, rfl⟩ hl rfl hd h
theorem vp_22_15 {x idx : Nat} {v : Int32} {P1 : VP} (own' : String) (ho : own = own') (hx : x < vcnt 22) (hl : Cond.fieldLink own' idx RX8 "wordCame" "I" ∈ vtb) (hP : P1 = vup Q 22 x 15 v) (hd : decode bs pc = .ok (.putfield idx, 3))
    (h : VB l g own bs nL rt R ce sl E Qf (pc + 3) ll st (vjn P P1)) : VB l g own bs nL rt R ce sl E Qf pc ll (vI v :: vR 22 x :: st) (vjn P Q) :=
  vr_put own' (k := 22) (j := 15) (ci := 8) (C := RX8) (T := TX8) (N := 18) (ty := .int) (ty0 := tyX8) ho hx rfl rfl inv_X8 tyX8_ok nmX8 (by decide) ⟨rfl, rfl, rfl⟩ hl rfl rfl rfl rfl (Nat.le_of_ble_eq_true rfl) (by simp [venc, vup]) hd (by rw [vup_hi (k := 22) rfl P Q, ← hP]; exact h)
theorem vg_22_16 {x idx : Nat} (own' : String) (ho : own = own') (hx : x < vcnt 22) (hl : Cond.fieldLink own' idx RX8 "given" "[I" ∈ vtb) (hd : decode bs pc = .ok (.getfield idx, 3))
    (h : VB l g own bs nL rt R ce sl E Qf (pc + 3) ll (vR 28 x :: st) (vjn P Q)) : VB l g own bs nL rt R ce sl E Qf pc ll (vR 22 x :: st) (vjn P Q) :=
  vr_get own' (k := 22) (j := 16) (v := vR 28 x) (ci := 8) (C := RX8) (T := TX8) (N := 18) ho hx rfl rfl inv_X8 (by decide) ⟨rfl, rfl, rfl⟩ hl rfl hd h
theorem vg_22_17 {x idx : Nat} (own' : String) (ho : own = own') (hx : x < vcnt 22) (hl : Cond.fieldLink own' idx RX8 "whyThen" "I" ∈ vtb) (hd : decode bs pc = .ok (.getfield idx, 3))
    (h : VB l g own bs nL rt R ce sl E Qf (pc + 3) ll (vI (Q 22 x 17) :: st) (vjn P Q)) : VB l g own bs nL rt R ce sl E Qf pc ll (vR 22 x :: st) (vjn P Q) :=
  vr_get own' (k := 22) (j := 17) (v := vI (Q 22 x 17)) (ci := 8) (C := RX8) (T := TX8) (N := 18) ho hx rfl rfl inv_X8 (by decide) ⟨rfl, rfl, rfl⟩ hl rfl hd h
theorem vp_22_17 {x idx : Nat} {v : Int32} {P1 : VP} (own' : String) (ho : own = own') (hx : x < vcnt 22) (hl : Cond.fieldLink own' idx RX8 "whyThen" "I" ∈ vtb) (hP : P1 = vup Q 22 x 17 v) (hd : decode bs pc = .ok (.putfield idx, 3))
    (h : VB l g own bs nL rt R ce sl E Qf (pc + 3) ll st (vjn P P1)) : VB l g own bs nL rt R ce sl E Qf pc ll (vI v :: vR 22 x :: st) (vjn P Q) :=
  vr_put own' (k := 22) (j := 17) (ci := 8) (C := RX8) (T := TX8) (N := 18) (ty := .int) (ty0 := tyX8) ho hx rfl rfl inv_X8 tyX8_ok nmX8 (by decide) ⟨rfl, rfl, rfl⟩ hl rfl rfl rfl rfl (Nat.le_of_ble_eq_true rfl) (by simp [venc, vup]) hd (by rw [vup_hi (k := 22) rfl P Q, ← hP]; exact h)
theorem vq_6 {x : Nat} {i : Int32} (hx : x < vcnt 6) (hi : 0 ≤ i ∧ i < 16) (hd : decode bs pc = .ok (.aaload, 1))
    (h : 16 * x + ix i < vcnt 7 → VB l g own bs nL rt R ce sl E Qf (pc + 1) ll (vR 7 (16 * x + ix i) :: st) J) : VB l g own bs nL rt R ce sl E Qf pc ll (vI i :: vR 6 x :: st) J :=
  vr_aald 16 (vR 7 (16 * x + ix i)) hx rfl (ca := 1) (n := 16) rfl (by decide) rfl hi rfl hd (fun q => h (by have h1 : x < 3 := hx; show _ < 48; omega))
theorem vl_6 {x : Nat} (hx : x < vcnt 6) (hd : decode bs pc = .ok (.arraylength, 1))
    (h : VB l g own bs nL rt R ce sl E Qf (pc + 1) ll (vI 16 :: st) J) : VB l g own bs nL rt R ce sl E Qf pc ll (vR 6 x :: st) J :=
  vr_alenR 16 hx rfl (ca := 1) (n := 16) rfl rfl hd h
theorem vq_13 {x : Nat} {i : Int32} (hx : x < vcnt 13) (hi : 0 ≤ i ∧ i < 48) (hd : decode bs pc = .ok (.aaload, 1))
    (h : 49 * x + ix i < vcnt 14 → VB l g own bs nL rt R ce sl E Qf (pc + 1) ll (vR 14 (49 * x + ix i) :: st) J) : VB l g own bs nL rt R ce sl E Qf pc ll (vI i :: vR 13 x :: st) J :=
  vr_aald 48 (vR 14 (49 * x + ix i)) hx rfl (ca := 2) (n := 48) rfl (by decide) rfl hi rfl hd (fun q => h (by have h1 : x < 3 := hx; show _ < 147; omega))
theorem vl_13 {x : Nat} (hx : x < vcnt 13) (hd : decode bs pc = .ok (.arraylength, 1))
    (h : VB l g own bs nL rt R ce sl E Qf (pc + 1) ll (vI 48 :: st) J) : VB l g own bs nL rt R ce sl E Qf pc ll (vR 13 x :: st) J :=
  vr_alenR 48 hx rfl (ca := 2) (n := 48) rfl rfl hd h
theorem vq_15 {x : Nat} {i : Int32} (hx : x < vcnt 15) (hi : 0 ≤ i ∧ i < 3) (hd : decode bs pc = .ok (.aaload, 1))
    (h : 3 * x + ix i < vcnt 16 → VB l g own bs nL rt R ce sl E Qf (pc + 1) ll (vR 16 (3 * x + ix i) :: st) J) : VB l g own bs nL rt R ce sl E Qf pc ll (vI i :: vR 15 x :: st) J :=
  vr_aald 3 (vR 16 (3 * x + ix i)) hx rfl (ca := 3) (n := 3) rfl (by decide) rfl hi rfl hd (fun q => h (by have h1 : x < 147 := hx; show _ < 441; omega))
theorem vl_15 {x : Nat} (hx : x < vcnt 15) (hd : decode bs pc = .ok (.arraylength, 1))
    (h : VB l g own bs nL rt R ce sl E Qf (pc + 1) ll (vI 3 :: st) J) : VB l g own bs nL rt R ce sl E Qf pc ll (vR 15 x :: st) J :=
  vr_alenR 3 hx rfl (ca := 3) (n := 3) rfl rfl hd h
theorem vq_29 {x : Nat} {i : Int32} (hx : x < vcnt 29) (hi : 0 ≤ i ∧ i < 10) (hd : decode bs pc = .ok (.aaload, 1))
    (h : ix i < 22 → VB l g own bs nL rt R ce sl E Qf (pc + 1) ll (vT (ix i) :: st) J) : VB l g own bs nL rt R ce sl E Qf pc ll (vI i :: vR 29 x :: st) J :=
  vr_aald 10 (vT (ix i)) hx rfl (ca := 4) (n := 10) rfl (by decide) rfl hi rfl hd (fun q => h (by omega))
end VPOST
def vl1 {A1 : Type} (b : (A1 → Prop) → A1 → Prop) : Nat → A1 → Prop
  | 0 => fun _ => False
  | n + 1 => b (vl1 b n)
def vL1 {A1 : Type} (b : (A1 → Prop) → A1 → Prop) : A1 → Prop := fun a1 => ∃ n, vl1 b n a1
theorem vL1_s {A1 : Type} {b : (A1 → Prop) → A1 → Prop} (T : A1 → Prop) (hb : ∀ X : A1 → Prop, (∀ a1, X a1 → T a1) → ∀ a1, b X a1 → T a1) {a1 : A1} (h : vL1 b a1) : T a1 := by
  obtain ⟨n, hn⟩ := h
  induction n generalizing a1 with
  | zero => exact hn.elim
  | succ n ih => exact hb _ (fun a1 q => ih q) a1 hn
theorem vL1_i {A1 : Type} {b : (A1 → Prop) → A1 → Prop} (I : A1 → Prop) (μ : A1 → Nat) (hs : ∀ X : A1 → Prop, ∀ a1, I a1 → (∀ c1, I c1 → μ c1 < μ a1 → X c1) → b X a1) {a1 : A1} (h : I a1) : vL1 b a1 := by
  have key : ∀ n a1, I a1 → μ a1 < n → vl1 b n a1 := by
    intro n
    induction n with
    | zero => intro a1 _ h; exact absurd h (Nat.not_lt_zero _)
    | succ n ih => intro a1 hI hm; exact hs (vl1 b n) a1 hI (fun c1 q1 q2 => ih c1 q1 (by omega))
  exact ⟨μ a1 + 1, key _ a1 h (Nat.lt_succ_self _)⟩
def vl2 {A1 A2 : Type} (b : (A1 → A2 → Prop) → A1 → A2 → Prop) : Nat → A1 → A2 → Prop
  | 0 => fun _ _ => False
  | n + 1 => b (vl2 b n)
def vL2 {A1 A2 : Type} (b : (A1 → A2 → Prop) → A1 → A2 → Prop) : A1 → A2 → Prop := fun a1 a2 => ∃ n, vl2 b n a1 a2
theorem vL2_s {A1 A2 : Type} {b : (A1 → A2 → Prop) → A1 → A2 → Prop} (T : A1 → A2 → Prop) (hb : ∀ X : A1 → A2 → Prop, (∀ a1 a2, X a1 a2 → T a1 a2) → ∀ a1 a2, b X a1 a2 → T a1 a2) {a1 : A1} {a2 : A2} (h : vL2 b a1 a2) : T a1 a2 := by
  obtain ⟨n, hn⟩ := h
  induction n generalizing a1 a2 with
  | zero => exact hn.elim
  | succ n ih => exact hb _ (fun a1 a2 q => ih q) a1 a2 hn
theorem vL2_i {A1 A2 : Type} {b : (A1 → A2 → Prop) → A1 → A2 → Prop} (I : A1 → A2 → Prop) (μ : A1 → A2 → Nat) (hs : ∀ X : A1 → A2 → Prop, ∀ a1 a2, I a1 a2 → (∀ c1 c2, I c1 c2 → μ c1 c2 < μ a1 a2 → X c1 c2) → b X a1 a2) {a1 : A1} {a2 : A2} (h : I a1 a2) : vL2 b a1 a2 := by
  have key : ∀ n a1 a2, I a1 a2 → μ a1 a2 < n → vl2 b n a1 a2 := by
    intro n
    induction n with
    | zero => intro a1 a2 _ h; exact absurd h (Nat.not_lt_zero _)
    | succ n ih => intro a1 a2 hI hm; exact hs (vl2 b n) a1 a2 hI (fun c1 c2 q1 q2 => ih c1 c2 q1 (by omega))
  exact ⟨μ a1 a2 + 1, key _ a1 a2 h (Nat.lt_succ_self _)⟩
def vl3 {A1 A2 A3 : Type} (b : (A1 → A2 → A3 → Prop) → A1 → A2 → A3 → Prop) : Nat → A1 → A2 → A3 → Prop
  | 0 => fun _ _ _ => False
  | n + 1 => b (vl3 b n)
def vL3 {A1 A2 A3 : Type} (b : (A1 → A2 → A3 → Prop) → A1 → A2 → A3 → Prop) : A1 → A2 → A3 → Prop := fun a1 a2 a3 => ∃ n, vl3 b n a1 a2 a3
theorem vL3_s {A1 A2 A3 : Type} {b : (A1 → A2 → A3 → Prop) → A1 → A2 → A3 → Prop} (T : A1 → A2 → A3 → Prop) (hb : ∀ X : A1 → A2 → A3 → Prop, (∀ a1 a2 a3, X a1 a2 a3 → T a1 a2 a3) → ∀ a1 a2 a3, b X a1 a2 a3 → T a1 a2 a3) {a1 : A1} {a2 : A2} {a3 : A3} (h : vL3 b a1 a2 a3) : T a1 a2 a3 := by
  obtain ⟨n, hn⟩ := h
  induction n generalizing a1 a2 a3 with
  | zero => exact hn.elim
  | succ n ih => exact hb _ (fun a1 a2 a3 q => ih q) a1 a2 a3 hn
theorem vL3_i {A1 A2 A3 : Type} {b : (A1 → A2 → A3 → Prop) → A1 → A2 → A3 → Prop} (I : A1 → A2 → A3 → Prop) (μ : A1 → A2 → A3 → Nat) (hs : ∀ X : A1 → A2 → A3 → Prop, ∀ a1 a2 a3, I a1 a2 a3 → (∀ c1 c2 c3, I c1 c2 c3 → μ c1 c2 c3 < μ a1 a2 a3 → X c1 c2 c3) → b X a1 a2 a3) {a1 : A1} {a2 : A2} {a3 : A3} (h : I a1 a2 a3) : vL3 b a1 a2 a3 := by
  have key : ∀ n a1 a2 a3, I a1 a2 a3 → μ a1 a2 a3 < n → vl3 b n a1 a2 a3 := by
    intro n
    induction n with
    | zero => intro a1 a2 a3 _ h; exact absurd h (Nat.not_lt_zero _)
    | succ n ih => intro a1 a2 a3 hI hm; exact hs (vl3 b n) a1 a2 a3 hI (fun c1 c2 c3 q1 q2 => ih c1 c2 c3 q1 (by omega))
  exact ⟨μ a1 a2 a3 + 1, key _ a1 a2 a3 h (Nat.lt_succ_self _)⟩
def vl4 {A1 A2 A3 A4 : Type} (b : (A1 → A2 → A3 → A4 → Prop) → A1 → A2 → A3 → A4 → Prop) : Nat → A1 → A2 → A3 → A4 → Prop
  | 0 => fun _ _ _ _ => False
  | n + 1 => b (vl4 b n)
def vL4 {A1 A2 A3 A4 : Type} (b : (A1 → A2 → A3 → A4 → Prop) → A1 → A2 → A3 → A4 → Prop) : A1 → A2 → A3 → A4 → Prop := fun a1 a2 a3 a4 => ∃ n, vl4 b n a1 a2 a3 a4
theorem vL4_s {A1 A2 A3 A4 : Type} {b : (A1 → A2 → A3 → A4 → Prop) → A1 → A2 → A3 → A4 → Prop} (T : A1 → A2 → A3 → A4 → Prop) (hb : ∀ X : A1 → A2 → A3 → A4 → Prop, (∀ a1 a2 a3 a4, X a1 a2 a3 a4 → T a1 a2 a3 a4) → ∀ a1 a2 a3 a4, b X a1 a2 a3 a4 → T a1 a2 a3 a4) {a1 : A1} {a2 : A2} {a3 : A3} {a4 : A4} (h : vL4 b a1 a2 a3 a4) : T a1 a2 a3 a4 := by
  obtain ⟨n, hn⟩ := h
  induction n generalizing a1 a2 a3 a4 with
  | zero => exact hn.elim
  | succ n ih => exact hb _ (fun a1 a2 a3 a4 q => ih q) a1 a2 a3 a4 hn
theorem vL4_i {A1 A2 A3 A4 : Type} {b : (A1 → A2 → A3 → A4 → Prop) → A1 → A2 → A3 → A4 → Prop} (I : A1 → A2 → A3 → A4 → Prop) (μ : A1 → A2 → A3 → A4 → Nat) (hs : ∀ X : A1 → A2 → A3 → A4 → Prop, ∀ a1 a2 a3 a4, I a1 a2 a3 a4 → (∀ c1 c2 c3 c4, I c1 c2 c3 c4 → μ c1 c2 c3 c4 < μ a1 a2 a3 a4 → X c1 c2 c3 c4) → b X a1 a2 a3 a4) {a1 : A1} {a2 : A2} {a3 : A3} {a4 : A4} (h : I a1 a2 a3 a4) : vL4 b a1 a2 a3 a4 := by
  have key : ∀ n a1 a2 a3 a4, I a1 a2 a3 a4 → μ a1 a2 a3 a4 < n → vl4 b n a1 a2 a3 a4 := by
    intro n
    induction n with
    | zero => intro a1 a2 a3 a4 _ h; exact absurd h (Nat.not_lt_zero _)
    | succ n ih => intro a1 a2 a3 a4 hI hm; exact hs (vl4 b n) a1 a2 a3 a4 hI (fun c1 c2 c3 c4 q1 q2 => ih c1 c2 c3 c4 q1 (by omega))
  exact ⟨μ a1 a2 a3 a4 + 1, key _ a1 a2 a3 a4 h (Nat.lt_succ_self _)⟩
def vl5 {A1 A2 A3 A4 A5 : Type} (b : (A1 → A2 → A3 → A4 → A5 → Prop) → A1 → A2 → A3 → A4 → A5 → Prop) : Nat → A1 → A2 → A3 → A4 → A5 → Prop
  | 0 => fun _ _ _ _ _ => False
  | n + 1 => b (vl5 b n)
def vL5 {A1 A2 A3 A4 A5 : Type} (b : (A1 → A2 → A3 → A4 → A5 → Prop) → A1 → A2 → A3 → A4 → A5 → Prop) : A1 → A2 → A3 → A4 → A5 → Prop := fun a1 a2 a3 a4 a5 => ∃ n, vl5 b n a1 a2 a3 a4 a5
theorem vL5_s {A1 A2 A3 A4 A5 : Type} {b : (A1 → A2 → A3 → A4 → A5 → Prop) → A1 → A2 → A3 → A4 → A5 → Prop} (T : A1 → A2 → A3 → A4 → A5 → Prop) (hb : ∀ X : A1 → A2 → A3 → A4 → A5 → Prop, (∀ a1 a2 a3 a4 a5, X a1 a2 a3 a4 a5 → T a1 a2 a3 a4 a5) → ∀ a1 a2 a3 a4 a5, b X a1 a2 a3 a4 a5 → T a1 a2 a3 a4 a5) {a1 : A1} {a2 : A2} {a3 : A3} {a4 : A4} {a5 : A5} (h : vL5 b a1 a2 a3 a4 a5) : T a1 a2 a3 a4 a5 := by
  obtain ⟨n, hn⟩ := h
  induction n generalizing a1 a2 a3 a4 a5 with
  | zero => exact hn.elim
  | succ n ih => exact hb _ (fun a1 a2 a3 a4 a5 q => ih q) a1 a2 a3 a4 a5 hn
theorem vL5_i {A1 A2 A3 A4 A5 : Type} {b : (A1 → A2 → A3 → A4 → A5 → Prop) → A1 → A2 → A3 → A4 → A5 → Prop} (I : A1 → A2 → A3 → A4 → A5 → Prop) (μ : A1 → A2 → A3 → A4 → A5 → Nat) (hs : ∀ X : A1 → A2 → A3 → A4 → A5 → Prop, ∀ a1 a2 a3 a4 a5, I a1 a2 a3 a4 a5 → (∀ c1 c2 c3 c4 c5, I c1 c2 c3 c4 c5 → μ c1 c2 c3 c4 c5 < μ a1 a2 a3 a4 a5 → X c1 c2 c3 c4 c5) → b X a1 a2 a3 a4 a5) {a1 : A1} {a2 : A2} {a3 : A3} {a4 : A4} {a5 : A5} (h : I a1 a2 a3 a4 a5) : vL5 b a1 a2 a3 a4 a5 := by
  have key : ∀ n a1 a2 a3 a4 a5, I a1 a2 a3 a4 a5 → μ a1 a2 a3 a4 a5 < n → vl5 b n a1 a2 a3 a4 a5 := by
    intro n
    induction n with
    | zero => intro a1 a2 a3 a4 a5 _ h; exact absurd h (Nat.not_lt_zero _)
    | succ n ih => intro a1 a2 a3 a4 a5 hI hm; exact hs (vl5 b n) a1 a2 a3 a4 a5 hI (fun c1 c2 c3 c4 c5 q1 q2 => ih c1 c2 c3 c4 c5 q1 (by omega))
  exact ⟨μ a1 a2 a3 a4 a5 + 1, key _ a1 a2 a3 a4 a5 h (Nat.lt_succ_self _)⟩
def vl6 {A1 A2 A3 A4 A5 A6 : Type} (b : (A1 → A2 → A3 → A4 → A5 → A6 → Prop) → A1 → A2 → A3 → A4 → A5 → A6 → Prop) : Nat → A1 → A2 → A3 → A4 → A5 → A6 → Prop
  | 0 => fun _ _ _ _ _ _ => False
  | n + 1 => b (vl6 b n)
def vL6 {A1 A2 A3 A4 A5 A6 : Type} (b : (A1 → A2 → A3 → A4 → A5 → A6 → Prop) → A1 → A2 → A3 → A4 → A5 → A6 → Prop) : A1 → A2 → A3 → A4 → A5 → A6 → Prop := fun a1 a2 a3 a4 a5 a6 => ∃ n, vl6 b n a1 a2 a3 a4 a5 a6
theorem vL6_s {A1 A2 A3 A4 A5 A6 : Type} {b : (A1 → A2 → A3 → A4 → A5 → A6 → Prop) → A1 → A2 → A3 → A4 → A5 → A6 → Prop} (T : A1 → A2 → A3 → A4 → A5 → A6 → Prop) (hb : ∀ X : A1 → A2 → A3 → A4 → A5 → A6 → Prop, (∀ a1 a2 a3 a4 a5 a6, X a1 a2 a3 a4 a5 a6 → T a1 a2 a3 a4 a5 a6) → ∀ a1 a2 a3 a4 a5 a6, b X a1 a2 a3 a4 a5 a6 → T a1 a2 a3 a4 a5 a6) {a1 : A1} {a2 : A2} {a3 : A3} {a4 : A4} {a5 : A5} {a6 : A6} (h : vL6 b a1 a2 a3 a4 a5 a6) : T a1 a2 a3 a4 a5 a6 := by
  obtain ⟨n, hn⟩ := h
  induction n generalizing a1 a2 a3 a4 a5 a6 with
  | zero => exact hn.elim
  | succ n ih => exact hb _ (fun a1 a2 a3 a4 a5 a6 q => ih q) a1 a2 a3 a4 a5 a6 hn
theorem vL6_i {A1 A2 A3 A4 A5 A6 : Type} {b : (A1 → A2 → A3 → A4 → A5 → A6 → Prop) → A1 → A2 → A3 → A4 → A5 → A6 → Prop} (I : A1 → A2 → A3 → A4 → A5 → A6 → Prop) (μ : A1 → A2 → A3 → A4 → A5 → A6 → Nat) (hs : ∀ X : A1 → A2 → A3 → A4 → A5 → A6 → Prop, ∀ a1 a2 a3 a4 a5 a6, I a1 a2 a3 a4 a5 a6 → (∀ c1 c2 c3 c4 c5 c6, I c1 c2 c3 c4 c5 c6 → μ c1 c2 c3 c4 c5 c6 < μ a1 a2 a3 a4 a5 a6 → X c1 c2 c3 c4 c5 c6) → b X a1 a2 a3 a4 a5 a6) {a1 : A1} {a2 : A2} {a3 : A3} {a4 : A4} {a5 : A5} {a6 : A6} (h : I a1 a2 a3 a4 a5 a6) : vL6 b a1 a2 a3 a4 a5 a6 := by
  have key : ∀ n a1 a2 a3 a4 a5 a6, I a1 a2 a3 a4 a5 a6 → μ a1 a2 a3 a4 a5 a6 < n → vl6 b n a1 a2 a3 a4 a5 a6 := by
    intro n
    induction n with
    | zero => intro a1 a2 a3 a4 a5 a6 _ h; exact absurd h (Nat.not_lt_zero _)
    | succ n ih => intro a1 a2 a3 a4 a5 a6 hI hm; exact hs (vl6 b n) a1 a2 a3 a4 a5 a6 hI (fun c1 c2 c3 c4 c5 c6 q1 q2 => ih c1 c2 c3 c4 c5 c6 q1 (by omega))
  exact ⟨μ a1 a2 a3 a4 a5 a6 + 1, key _ a1 a2 a3 a4 a5 a6 h (Nat.lt_succ_self _)⟩
def vl7 {A1 A2 A3 A4 A5 A6 A7 : Type} (b : (A1 → A2 → A3 → A4 → A5 → A6 → A7 → Prop) → A1 → A2 → A3 → A4 → A5 → A6 → A7 → Prop) : Nat → A1 → A2 → A3 → A4 → A5 → A6 → A7 → Prop
  | 0 => fun _ _ _ _ _ _ _ => False
  | n + 1 => b (vl7 b n)
def vL7 {A1 A2 A3 A4 A5 A6 A7 : Type} (b : (A1 → A2 → A3 → A4 → A5 → A6 → A7 → Prop) → A1 → A2 → A3 → A4 → A5 → A6 → A7 → Prop) : A1 → A2 → A3 → A4 → A5 → A6 → A7 → Prop := fun a1 a2 a3 a4 a5 a6 a7 => ∃ n, vl7 b n a1 a2 a3 a4 a5 a6 a7
theorem vL7_s {A1 A2 A3 A4 A5 A6 A7 : Type} {b : (A1 → A2 → A3 → A4 → A5 → A6 → A7 → Prop) → A1 → A2 → A3 → A4 → A5 → A6 → A7 → Prop} (T : A1 → A2 → A3 → A4 → A5 → A6 → A7 → Prop) (hb : ∀ X : A1 → A2 → A3 → A4 → A5 → A6 → A7 → Prop, (∀ a1 a2 a3 a4 a5 a6 a7, X a1 a2 a3 a4 a5 a6 a7 → T a1 a2 a3 a4 a5 a6 a7) → ∀ a1 a2 a3 a4 a5 a6 a7, b X a1 a2 a3 a4 a5 a6 a7 → T a1 a2 a3 a4 a5 a6 a7) {a1 : A1} {a2 : A2} {a3 : A3} {a4 : A4} {a5 : A5} {a6 : A6} {a7 : A7} (h : vL7 b a1 a2 a3 a4 a5 a6 a7) : T a1 a2 a3 a4 a5 a6 a7 := by
  obtain ⟨n, hn⟩ := h
  induction n generalizing a1 a2 a3 a4 a5 a6 a7 with
  | zero => exact hn.elim
  | succ n ih => exact hb _ (fun a1 a2 a3 a4 a5 a6 a7 q => ih q) a1 a2 a3 a4 a5 a6 a7 hn
theorem vL7_i {A1 A2 A3 A4 A5 A6 A7 : Type} {b : (A1 → A2 → A3 → A4 → A5 → A6 → A7 → Prop) → A1 → A2 → A3 → A4 → A5 → A6 → A7 → Prop} (I : A1 → A2 → A3 → A4 → A5 → A6 → A7 → Prop) (μ : A1 → A2 → A3 → A4 → A5 → A6 → A7 → Nat) (hs : ∀ X : A1 → A2 → A3 → A4 → A5 → A6 → A7 → Prop, ∀ a1 a2 a3 a4 a5 a6 a7, I a1 a2 a3 a4 a5 a6 a7 → (∀ c1 c2 c3 c4 c5 c6 c7, I c1 c2 c3 c4 c5 c6 c7 → μ c1 c2 c3 c4 c5 c6 c7 < μ a1 a2 a3 a4 a5 a6 a7 → X c1 c2 c3 c4 c5 c6 c7) → b X a1 a2 a3 a4 a5 a6 a7) {a1 : A1} {a2 : A2} {a3 : A3} {a4 : A4} {a5 : A5} {a6 : A6} {a7 : A7} (h : I a1 a2 a3 a4 a5 a6 a7) : vL7 b a1 a2 a3 a4 a5 a6 a7 := by
  have key : ∀ n a1 a2 a3 a4 a5 a6 a7, I a1 a2 a3 a4 a5 a6 a7 → μ a1 a2 a3 a4 a5 a6 a7 < n → vl7 b n a1 a2 a3 a4 a5 a6 a7 := by
    intro n
    induction n with
    | zero => intro a1 a2 a3 a4 a5 a6 a7 _ h; exact absurd h (Nat.not_lt_zero _)
    | succ n ih => intro a1 a2 a3 a4 a5 a6 a7 hI hm; exact hs (vl7 b n) a1 a2 a3 a4 a5 a6 a7 hI (fun c1 c2 c3 c4 c5 c6 c7 q1 q2 => ih c1 c2 c3 c4 c5 c6 c7 q1 (by omega))
  exact ⟨μ a1 a2 a3 a4 a5 a6 a7 + 1, key _ a1 a2 a3 a4 a5 a6 a7 h (Nat.lt_succ_self _)⟩
def vl8 {A1 A2 A3 A4 A5 A6 A7 A8 : Type} (b : (A1 → A2 → A3 → A4 → A5 → A6 → A7 → A8 → Prop) → A1 → A2 → A3 → A4 → A5 → A6 → A7 → A8 → Prop) : Nat → A1 → A2 → A3 → A4 → A5 → A6 → A7 → A8 → Prop
  | 0 => fun _ _ _ _ _ _ _ _ => False
  | n + 1 => b (vl8 b n)
def vL8 {A1 A2 A3 A4 A5 A6 A7 A8 : Type} (b : (A1 → A2 → A3 → A4 → A5 → A6 → A7 → A8 → Prop) → A1 → A2 → A3 → A4 → A5 → A6 → A7 → A8 → Prop) : A1 → A2 → A3 → A4 → A5 → A6 → A7 → A8 → Prop := fun a1 a2 a3 a4 a5 a6 a7 a8 => ∃ n, vl8 b n a1 a2 a3 a4 a5 a6 a7 a8
theorem vL8_s {A1 A2 A3 A4 A5 A6 A7 A8 : Type} {b : (A1 → A2 → A3 → A4 → A5 → A6 → A7 → A8 → Prop) → A1 → A2 → A3 → A4 → A5 → A6 → A7 → A8 → Prop} (T : A1 → A2 → A3 → A4 → A5 → A6 → A7 → A8 → Prop) (hb : ∀ X : A1 → A2 → A3 → A4 → A5 → A6 → A7 → A8 → Prop, (∀ a1 a2 a3 a4 a5 a6 a7 a8, X a1 a2 a3 a4 a5 a6 a7 a8 → T a1 a2 a3 a4 a5 a6 a7 a8) → ∀ a1 a2 a3 a4 a5 a6 a7 a8, b X a1 a2 a3 a4 a5 a6 a7 a8 → T a1 a2 a3 a4 a5 a6 a7 a8) {a1 : A1} {a2 : A2} {a3 : A3} {a4 : A4} {a5 : A5} {a6 : A6} {a7 : A7} {a8 : A8} (h : vL8 b a1 a2 a3 a4 a5 a6 a7 a8) : T a1 a2 a3 a4 a5 a6 a7 a8 := by
  obtain ⟨n, hn⟩ := h
  induction n generalizing a1 a2 a3 a4 a5 a6 a7 a8 with
  | zero => exact hn.elim
  | succ n ih => exact hb _ (fun a1 a2 a3 a4 a5 a6 a7 a8 q => ih q) a1 a2 a3 a4 a5 a6 a7 a8 hn
theorem vL8_i {A1 A2 A3 A4 A5 A6 A7 A8 : Type} {b : (A1 → A2 → A3 → A4 → A5 → A6 → A7 → A8 → Prop) → A1 → A2 → A3 → A4 → A5 → A6 → A7 → A8 → Prop} (I : A1 → A2 → A3 → A4 → A5 → A6 → A7 → A8 → Prop) (μ : A1 → A2 → A3 → A4 → A5 → A6 → A7 → A8 → Nat) (hs : ∀ X : A1 → A2 → A3 → A4 → A5 → A6 → A7 → A8 → Prop, ∀ a1 a2 a3 a4 a5 a6 a7 a8, I a1 a2 a3 a4 a5 a6 a7 a8 → (∀ c1 c2 c3 c4 c5 c6 c7 c8, I c1 c2 c3 c4 c5 c6 c7 c8 → μ c1 c2 c3 c4 c5 c6 c7 c8 < μ a1 a2 a3 a4 a5 a6 a7 a8 → X c1 c2 c3 c4 c5 c6 c7 c8) → b X a1 a2 a3 a4 a5 a6 a7 a8) {a1 : A1} {a2 : A2} {a3 : A3} {a4 : A4} {a5 : A5} {a6 : A6} {a7 : A7} {a8 : A8} (h : I a1 a2 a3 a4 a5 a6 a7 a8) : vL8 b a1 a2 a3 a4 a5 a6 a7 a8 := by
  have key : ∀ n a1 a2 a3 a4 a5 a6 a7 a8, I a1 a2 a3 a4 a5 a6 a7 a8 → μ a1 a2 a3 a4 a5 a6 a7 a8 < n → vl8 b n a1 a2 a3 a4 a5 a6 a7 a8 := by
    intro n
    induction n with
    | zero => intro a1 a2 a3 a4 a5 a6 a7 a8 _ h; exact absurd h (Nat.not_lt_zero _)
    | succ n ih => intro a1 a2 a3 a4 a5 a6 a7 a8 hI hm; exact hs (vl8 b n) a1 a2 a3 a4 a5 a6 a7 a8 hI (fun c1 c2 c3 c4 c5 c6 c7 c8 q1 q2 => ih c1 c2 c3 c4 c5 c6 c7 c8 q1 (by omega))
  exact ⟨μ a1 a2 a3 a4 a5 a6 a7 a8 + 1, key _ a1 a2 a3 a4 a5 a6 a7 a8 h (Nat.lt_succ_self _)⟩
def vl9 {A1 A2 A3 A4 A5 A6 A7 A8 A9 : Type} (b : (A1 → A2 → A3 → A4 → A5 → A6 → A7 → A8 → A9 → Prop) → A1 → A2 → A3 → A4 → A5 → A6 → A7 → A8 → A9 → Prop) : Nat → A1 → A2 → A3 → A4 → A5 → A6 → A7 → A8 → A9 → Prop
  | 0 => fun _ _ _ _ _ _ _ _ _ => False
  | n + 1 => b (vl9 b n)
def vL9 {A1 A2 A3 A4 A5 A6 A7 A8 A9 : Type} (b : (A1 → A2 → A3 → A4 → A5 → A6 → A7 → A8 → A9 → Prop) → A1 → A2 → A3 → A4 → A5 → A6 → A7 → A8 → A9 → Prop) : A1 → A2 → A3 → A4 → A5 → A6 → A7 → A8 → A9 → Prop := fun a1 a2 a3 a4 a5 a6 a7 a8 a9 => ∃ n, vl9 b n a1 a2 a3 a4 a5 a6 a7 a8 a9
theorem vL9_s {A1 A2 A3 A4 A5 A6 A7 A8 A9 : Type} {b : (A1 → A2 → A3 → A4 → A5 → A6 → A7 → A8 → A9 → Prop) → A1 → A2 → A3 → A4 → A5 → A6 → A7 → A8 → A9 → Prop} (T : A1 → A2 → A3 → A4 → A5 → A6 → A7 → A8 → A9 → Prop) (hb : ∀ X : A1 → A2 → A3 → A4 → A5 → A6 → A7 → A8 → A9 → Prop, (∀ a1 a2 a3 a4 a5 a6 a7 a8 a9, X a1 a2 a3 a4 a5 a6 a7 a8 a9 → T a1 a2 a3 a4 a5 a6 a7 a8 a9) → ∀ a1 a2 a3 a4 a5 a6 a7 a8 a9, b X a1 a2 a3 a4 a5 a6 a7 a8 a9 → T a1 a2 a3 a4 a5 a6 a7 a8 a9) {a1 : A1} {a2 : A2} {a3 : A3} {a4 : A4} {a5 : A5} {a6 : A6} {a7 : A7} {a8 : A8} {a9 : A9} (h : vL9 b a1 a2 a3 a4 a5 a6 a7 a8 a9) : T a1 a2 a3 a4 a5 a6 a7 a8 a9 := by
  obtain ⟨n, hn⟩ := h
  induction n generalizing a1 a2 a3 a4 a5 a6 a7 a8 a9 with
  | zero => exact hn.elim
  | succ n ih => exact hb _ (fun a1 a2 a3 a4 a5 a6 a7 a8 a9 q => ih q) a1 a2 a3 a4 a5 a6 a7 a8 a9 hn
theorem vL9_i {A1 A2 A3 A4 A5 A6 A7 A8 A9 : Type} {b : (A1 → A2 → A3 → A4 → A5 → A6 → A7 → A8 → A9 → Prop) → A1 → A2 → A3 → A4 → A5 → A6 → A7 → A8 → A9 → Prop} (I : A1 → A2 → A3 → A4 → A5 → A6 → A7 → A8 → A9 → Prop) (μ : A1 → A2 → A3 → A4 → A5 → A6 → A7 → A8 → A9 → Nat) (hs : ∀ X : A1 → A2 → A3 → A4 → A5 → A6 → A7 → A8 → A9 → Prop, ∀ a1 a2 a3 a4 a5 a6 a7 a8 a9, I a1 a2 a3 a4 a5 a6 a7 a8 a9 → (∀ c1 c2 c3 c4 c5 c6 c7 c8 c9, I c1 c2 c3 c4 c5 c6 c7 c8 c9 → μ c1 c2 c3 c4 c5 c6 c7 c8 c9 < μ a1 a2 a3 a4 a5 a6 a7 a8 a9 → X c1 c2 c3 c4 c5 c6 c7 c8 c9) → b X a1 a2 a3 a4 a5 a6 a7 a8 a9) {a1 : A1} {a2 : A2} {a3 : A3} {a4 : A4} {a5 : A5} {a6 : A6} {a7 : A7} {a8 : A8} {a9 : A9} (h : I a1 a2 a3 a4 a5 a6 a7 a8 a9) : vL9 b a1 a2 a3 a4 a5 a6 a7 a8 a9 := by
  have key : ∀ n a1 a2 a3 a4 a5 a6 a7 a8 a9, I a1 a2 a3 a4 a5 a6 a7 a8 a9 → μ a1 a2 a3 a4 a5 a6 a7 a8 a9 < n → vl9 b n a1 a2 a3 a4 a5 a6 a7 a8 a9 := by
    intro n
    induction n with
    | zero => intro a1 a2 a3 a4 a5 a6 a7 a8 a9 _ h; exact absurd h (Nat.not_lt_zero _)
    | succ n ih => intro a1 a2 a3 a4 a5 a6 a7 a8 a9 hI hm; exact hs (vl9 b n) a1 a2 a3 a4 a5 a6 a7 a8 a9 hI (fun c1 c2 c3 c4 c5 c6 c7 c8 c9 q1 q2 => ih c1 c2 c3 c4 c5 c6 c7 c8 c9 q1 (by omega))
  exact ⟨μ a1 a2 a3 a4 a5 a6 a7 a8 a9 + 1, key _ a1 a2 a3 a4 a5 a6 a7 a8 a9 h (Nat.lt_succ_self _)⟩
def vl10 {A1 A2 A3 A4 A5 A6 A7 A8 A9 A10 : Type} (b : (A1 → A2 → A3 → A4 → A5 → A6 → A7 → A8 → A9 → A10 → Prop) → A1 → A2 → A3 → A4 → A5 → A6 → A7 → A8 → A9 → A10 → Prop) : Nat → A1 → A2 → A3 → A4 → A5 → A6 → A7 → A8 → A9 → A10 → Prop
  | 0 => fun _ _ _ _ _ _ _ _ _ _ => False
  | n + 1 => b (vl10 b n)
def vL10 {A1 A2 A3 A4 A5 A6 A7 A8 A9 A10 : Type} (b : (A1 → A2 → A3 → A4 → A5 → A6 → A7 → A8 → A9 → A10 → Prop) → A1 → A2 → A3 → A4 → A5 → A6 → A7 → A8 → A9 → A10 → Prop) : A1 → A2 → A3 → A4 → A5 → A6 → A7 → A8 → A9 → A10 → Prop := fun a1 a2 a3 a4 a5 a6 a7 a8 a9 a10 => ∃ n, vl10 b n a1 a2 a3 a4 a5 a6 a7 a8 a9 a10
theorem vL10_s {A1 A2 A3 A4 A5 A6 A7 A8 A9 A10 : Type} {b : (A1 → A2 → A3 → A4 → A5 → A6 → A7 → A8 → A9 → A10 → Prop) → A1 → A2 → A3 → A4 → A5 → A6 → A7 → A8 → A9 → A10 → Prop} (T : A1 → A2 → A3 → A4 → A5 → A6 → A7 → A8 → A9 → A10 → Prop) (hb : ∀ X : A1 → A2 → A3 → A4 → A5 → A6 → A7 → A8 → A9 → A10 → Prop, (∀ a1 a2 a3 a4 a5 a6 a7 a8 a9 a10, X a1 a2 a3 a4 a5 a6 a7 a8 a9 a10 → T a1 a2 a3 a4 a5 a6 a7 a8 a9 a10) → ∀ a1 a2 a3 a4 a5 a6 a7 a8 a9 a10, b X a1 a2 a3 a4 a5 a6 a7 a8 a9 a10 → T a1 a2 a3 a4 a5 a6 a7 a8 a9 a10) {a1 : A1} {a2 : A2} {a3 : A3} {a4 : A4} {a5 : A5} {a6 : A6} {a7 : A7} {a8 : A8} {a9 : A9} {a10 : A10} (h : vL10 b a1 a2 a3 a4 a5 a6 a7 a8 a9 a10) : T a1 a2 a3 a4 a5 a6 a7 a8 a9 a10 := by
  obtain ⟨n, hn⟩ := h
  induction n generalizing a1 a2 a3 a4 a5 a6 a7 a8 a9 a10 with
  | zero => exact hn.elim
  | succ n ih => exact hb _ (fun a1 a2 a3 a4 a5 a6 a7 a8 a9 a10 q => ih q) a1 a2 a3 a4 a5 a6 a7 a8 a9 a10 hn
theorem vL10_i {A1 A2 A3 A4 A5 A6 A7 A8 A9 A10 : Type} {b : (A1 → A2 → A3 → A4 → A5 → A6 → A7 → A8 → A9 → A10 → Prop) → A1 → A2 → A3 → A4 → A5 → A6 → A7 → A8 → A9 → A10 → Prop} (I : A1 → A2 → A3 → A4 → A5 → A6 → A7 → A8 → A9 → A10 → Prop) (μ : A1 → A2 → A3 → A4 → A5 → A6 → A7 → A8 → A9 → A10 → Nat) (hs : ∀ X : A1 → A2 → A3 → A4 → A5 → A6 → A7 → A8 → A9 → A10 → Prop, ∀ a1 a2 a3 a4 a5 a6 a7 a8 a9 a10, I a1 a2 a3 a4 a5 a6 a7 a8 a9 a10 → (∀ c1 c2 c3 c4 c5 c6 c7 c8 c9 c10, I c1 c2 c3 c4 c5 c6 c7 c8 c9 c10 → μ c1 c2 c3 c4 c5 c6 c7 c8 c9 c10 < μ a1 a2 a3 a4 a5 a6 a7 a8 a9 a10 → X c1 c2 c3 c4 c5 c6 c7 c8 c9 c10) → b X a1 a2 a3 a4 a5 a6 a7 a8 a9 a10) {a1 : A1} {a2 : A2} {a3 : A3} {a4 : A4} {a5 : A5} {a6 : A6} {a7 : A7} {a8 : A8} {a9 : A9} {a10 : A10} (h : I a1 a2 a3 a4 a5 a6 a7 a8 a9 a10) : vL10 b a1 a2 a3 a4 a5 a6 a7 a8 a9 a10 := by
  have key : ∀ n a1 a2 a3 a4 a5 a6 a7 a8 a9 a10, I a1 a2 a3 a4 a5 a6 a7 a8 a9 a10 → μ a1 a2 a3 a4 a5 a6 a7 a8 a9 a10 < n → vl10 b n a1 a2 a3 a4 a5 a6 a7 a8 a9 a10 := by
    intro n
    induction n with
    | zero => intro a1 a2 a3 a4 a5 a6 a7 a8 a9 a10 _ h; exact absurd h (Nat.not_lt_zero _)
    | succ n ih => intro a1 a2 a3 a4 a5 a6 a7 a8 a9 a10 hI hm; exact hs (vl10 b n) a1 a2 a3 a4 a5 a6 a7 a8 a9 a10 hI (fun c1 c2 c3 c4 c5 c6 c7 c8 c9 c10 q1 q2 => ih c1 c2 c3 c4 c5 c6 c7 c8 c9 c10 q1 (by omega))
  exact ⟨μ a1 a2 a3 a4 a5 a6 a7 a8 a9 a10 + 1, key _ a1 a2 a3 a4 a5 a6 a7 a8 a9 a10 h (Nat.lt_succ_self _)⟩
theorem ia_3 {x : Nat} (hx : x < vcnt 3) : vPA 3 x := ⟨⟨fun _ _ _ => rfl, by decide⟩, hx, rfl⟩
theorem ia_4 {x : Nat} (hx : x < vcnt 4) : vPA 4 x := ⟨⟨fun _ _ _ => rfl, by decide⟩, hx, rfl⟩
theorem ia_5 {x : Nat} (hx : x < vcnt 5) : vPA 5 x := ⟨⟨fun _ _ _ => rfl, by decide⟩, hx, rfl⟩
theorem ia_8 {x : Nat} (hx : x < vcnt 8) : vPA 8 x := ⟨⟨fun _ _ _ => rfl, by decide⟩, hx, rfl⟩
theorem ia_9 {x : Nat} (hx : x < vcnt 9) : vPA 9 x := ⟨⟨fun _ _ _ => rfl, by decide⟩, hx, rfl⟩
theorem ia_10 {x : Nat} (hx : x < vcnt 10) : vPA 10 x := ⟨⟨fun _ _ _ => rfl, by decide⟩, hx, rfl⟩
theorem ia_12 {x : Nat} (hx : x < vcnt 12) : vPA 12 x := ⟨⟨fun _ _ _ => rfl, by decide⟩, hx, rfl⟩
theorem ia_18 {x : Nat} (hx : x < vcnt 18) : vPA 18 x := ⟨⟨fun _ _ _ => rfl, by decide⟩, hx, rfl⟩
theorem ia_19 {x : Nat} (hx : x < vcnt 19) : vPA 19 x := ⟨⟨fun _ _ _ => rfl, by decide⟩, hx, rfl⟩
theorem ia_20 {x : Nat} (hx : x < vcnt 20) : vPA 20 x := ⟨⟨fun _ _ _ => rfl, by decide⟩, hx, rfl⟩
theorem ia_21 {x : Nat} (hx : x < vcnt 21) : vPA 21 x := ⟨⟨fun _ _ _ => rfl, by decide⟩, hx, rfl⟩
theorem ia_23 : vQA 23 0 := ⟨⟨fun _ _ _ => rfl, by decide⟩, by decide, rfl⟩
theorem ia_24 : vQA 24 0 := ⟨⟨fun _ _ _ => rfl, by decide⟩, by decide, rfl⟩
theorem ia_25 : vQA 25 0 := ⟨⟨fun _ _ _ => rfl, by decide⟩, by decide, rfl⟩
theorem ia_26 : vQA 26 0 := ⟨⟨fun _ _ _ => rfl, by decide⟩, by decide, rfl⟩
theorem ia_27 : vQA 27 0 := ⟨⟨fun _ _ _ => rfl, by decide⟩, by decide, rfl⟩
theorem ia_28 : vQA 28 0 := ⟨⟨fun _ _ _ => rfl, by decide⟩, by decide, rfl⟩
theorem vb_14 {x : Nat} (h : x < vcnt 1) : 49 * x + 48 < vcnt 14 := by
  have h1 : x < 3 := h
  show _ < 147
  omega
end
section
/-! strings: length() and charAt() of the 22 constants, over the JDK's own code -/
def slen (j : Nat) : Int32 := Int32.ofNat (vlenS.getD j 0)
def sch (j k : Nat) : Int32 := (vbytS.getD j []).getD k 0
abbrev vush (x y : Int32) : Int32 := (x.toUInt32 >>> (y.toUInt32 &&& Int32.toUInt32 31)).toInt32
theorem dJ0_length_8abf5_0 : decode cJ0_length_8abf5 0 = .ok (.aload_n 0, 1) := by decide +kernel
theorem dJ0_length_8abf5_1 : decode cJ0_length_8abf5 1 = .ok (.getfield 9, 3) := by decide +kernel
theorem dJ0_length_8abf5_4 : decode cJ0_length_8abf5 4 = .ok (.arraylength, 1) := by decide +kernel
theorem dJ0_length_8abf5_5 : decode cJ0_length_8abf5 5 = .ok (.aload_n 0, 1) := by decide +kernel
theorem dJ0_length_8abf5_6 : decode cJ0_length_8abf5 6 = .ok (.invokevirtual 335, 3) := by decide +kernel
theorem dJ0_length_8abf5_9 : decode cJ0_length_8abf5 9 = .ok (.ishr, 1) := by decide +kernel
theorem dJ0_length_8abf5_10 : decode cJ0_length_8abf5 10 = .ok (.ireturn, 1) := by decide +kernel
theorem dJ0_charAt_5068e_0 : decode cJ0_charAt_5068e 0 = .ok (.aload_n 0, 1) := by decide +kernel
theorem dJ0_charAt_5068e_1 : decode cJ0_charAt_5068e 1 = .ok (.invokevirtual 492, 3) := by decide +kernel
theorem dJ0_charAt_5068e_4 : decode cJ0_charAt_5068e 4 = .ok (.ifCond .eq 12, 3) := by decide +kernel
theorem dJ0_charAt_5068e_7 : decode cJ0_charAt_5068e 7 = .ok (.aload_n 0, 1) := by decide +kernel
theorem dJ0_charAt_5068e_8 : decode cJ0_charAt_5068e 8 = .ok (.getfield 9, 3) := by decide +kernel
theorem dJ0_charAt_5068e_11 : decode cJ0_charAt_5068e 11 = .ok (.iload_n 1, 1) := by decide +kernel
theorem dJ0_charAt_5068e_12 : decode cJ0_charAt_5068e 12 = .ok (.invokestatic 495, 3) := by decide +kernel
theorem dJ0_charAt_5068e_15 : decode cJ0_charAt_5068e 15 = .ok (.ireturn, 1) := by decide +kernel
theorem dJ0_charAt_5068e_16 : decode cJ0_charAt_5068e 16 = .ok (.aload_n 0, 1) := by decide +kernel
theorem dJ0_charAt_5068e_17 : decode cJ0_charAt_5068e 17 = .ok (.getfield 9, 3) := by decide +kernel
theorem dJ0_charAt_5068e_20 : decode cJ0_charAt_5068e 20 = .ok (.iload_n 1, 1) := by decide +kernel
theorem dJ0_charAt_5068e_21 : decode cJ0_charAt_5068e 21 = .ok (.invokestatic 498, 3) := by decide +kernel
theorem dJ0_charAt_5068e_24 : decode cJ0_charAt_5068e 24 = .ok (.ireturn, 1) := by decide +kernel
theorem dJ0_coder_7d493_0 : decode cJ0_coder_7d493 0 = .ok (.getstatic 38, 3) := by decide +kernel
theorem dJ0_coder_7d493_3 : decode cJ0_coder_7d493 3 = .ok (.ifCond .eq 10, 3) := by decide +kernel
theorem dJ0_coder_7d493_6 : decode cJ0_coder_7d493 6 = .ok (.aload_n 0, 1) := by decide +kernel
theorem dJ0_coder_7d493_7 : decode cJ0_coder_7d493 7 = .ok (.getfield 15, 3) := by decide +kernel
theorem dJ0_coder_7d493_10 : decode cJ0_coder_7d493 10 = .ok (.goto 4, 3) := by decide +kernel
theorem dJ0_coder_7d493_13 : decode cJ0_coder_7d493 13 = .ok (.iconst 1, 1) := by decide +kernel
theorem dJ0_coder_7d493_14 : decode cJ0_coder_7d493 14 = .ok (.ireturn, 1) := by decide +kernel
theorem dJ0_isLatin1_aae02_0 : decode cJ0_isLatin1_aae02 0 = .ok (.getstatic 38, 3) := by decide +kernel
theorem dJ0_isLatin1_aae02_3 : decode cJ0_isLatin1_aae02 3 = .ok (.ifCond .eq 14, 3) := by decide +kernel
theorem dJ0_isLatin1_aae02_6 : decode cJ0_isLatin1_aae02 6 = .ok (.aload_n 0, 1) := by decide +kernel
theorem dJ0_isLatin1_aae02_7 : decode cJ0_isLatin1_aae02 7 = .ok (.getfield 15, 3) := by decide +kernel
theorem dJ0_isLatin1_aae02_10 : decode cJ0_isLatin1_aae02 10 = .ok (.ifCond .ne 7, 3) := by decide +kernel
theorem dJ0_isLatin1_aae02_13 : decode cJ0_isLatin1_aae02 13 = .ok (.iconst 1, 1) := by decide +kernel
theorem dJ0_isLatin1_aae02_14 : decode cJ0_isLatin1_aae02 14 = .ok (.goto 4, 3) := by decide +kernel
theorem dJ0_isLatin1_aae02_17 : decode cJ0_isLatin1_aae02 17 = .ok (.iconst 0, 1) := by decide +kernel
theorem dJ0_isLatin1_aae02_18 : decode cJ0_isLatin1_aae02 18 = .ok (.ireturn, 1) := by decide +kernel
theorem dJ0_checkIndex_df160_0 : decode cJ0_checkIndex_df160 0 = .ok (.iload_n 0, 1) := by decide +kernel
theorem dJ0_checkIndex_df160_1 : decode cJ0_checkIndex_df160 1 = .ok (.iload_n 1, 1) := by decide +kernel
theorem dJ0_checkIndex_df160_2 : decode cJ0_checkIndex_df160 2 = .ok (.getstatic 1053, 3) := by decide +kernel
theorem dJ0_checkIndex_df160_5 : decode cJ0_checkIndex_df160 5 = .ok (.invokestatic 1059, 3) := by decide +kernel
theorem dJ0_checkIndex_df160_8 : decode cJ0_checkIndex_df160 8 = .ok (.pop, 1) := by decide +kernel
theorem dJ0_checkIndex_df160_9 : decode cJ0_checkIndex_df160 9 = .ok (.return_, 1) := by decide +kernel
theorem dJ1_charAt_3b067_0 : decode cJ1_charAt_3b067 0 = .ok (.iload_n 1, 1) := by decide +kernel
theorem dJ1_charAt_3b067_1 : decode cJ1_charAt_3b067 1 = .ok (.aload_n 0, 1) := by decide +kernel
theorem dJ1_charAt_3b067_2 : decode cJ1_charAt_3b067 2 = .ok (.arraylength, 1) := by decide +kernel
theorem dJ1_charAt_3b067_3 : decode cJ1_charAt_3b067 3 = .ok (.invokestatic 9, 3) := by decide +kernel
theorem dJ1_charAt_3b067_6 : decode cJ1_charAt_3b067 6 = .ok (.aload_n 0, 1) := by decide +kernel
theorem dJ1_charAt_3b067_7 : decode cJ1_charAt_3b067 7 = .ok (.iload_n 1, 1) := by decide +kernel
theorem dJ1_charAt_3b067_8 : decode cJ1_charAt_3b067 8 = .ok (.baload, 1) := by decide +kernel
theorem dJ1_charAt_3b067_9 : decode cJ1_charAt_3b067 9 = .ok (.sipush 255, 3) := by decide +kernel
theorem dJ1_charAt_3b067_12 : decode cJ1_charAt_3b067 12 = .ok (.iand, 1) := by decide +kernel
theorem dJ1_charAt_3b067_13 : decode cJ1_charAt_3b067 13 = .ok (.i2c, 1) := by decide +kernel
theorem dJ1_charAt_3b067_14 : decode cJ1_charAt_3b067 14 = .ok (.ireturn, 1) := by decide +kernel
theorem dJ3_checkIndex_8e157_0 : decode cJ3_checkIndex_8e157 0 = .ok (.iload_n 0, 1) := by decide +kernel
theorem dJ3_checkIndex_8e157_1 : decode cJ3_checkIndex_8e157 1 = .ok (.ifCond .lt 8, 3) := by decide +kernel
theorem dJ3_checkIndex_8e157_4 : decode cJ3_checkIndex_8e157 4 = .ok (.iload_n 0, 1) := by decide +kernel
theorem dJ3_checkIndex_8e157_5 : decode cJ3_checkIndex_8e157 5 = .ok (.iload_n 1, 1) := by decide +kernel
theorem dJ3_checkIndex_8e157_6 : decode cJ3_checkIndex_8e157 6 = .ok (.if_icmp .lt 10, 3) := by decide +kernel
theorem dJ3_checkIndex_8e157_9 : decode cJ3_checkIndex_8e157 9 = .ok (.aload_n 2, 1) := by decide +kernel
theorem dJ3_checkIndex_8e157_10 : decode cJ3_checkIndex_8e157 10 = .ok (.iload_n 0, 1) := by decide +kernel
theorem dJ3_checkIndex_8e157_11 : decode cJ3_checkIndex_8e157 11 = .ok (.iload_n 1, 1) := by decide +kernel
theorem dJ3_checkIndex_8e157_12 : decode cJ3_checkIndex_8e157 12 = .ok (.invokestatic 95, 3) := by decide +kernel
theorem dJ3_checkIndex_8e157_15 : decode cJ3_checkIndex_8e157 15 = .ok (.athrow, 1) := by decide +kernel
theorem dJ3_checkIndex_8e157_16 : decode cJ3_checkIndex_8e157 16 = .ok (.iload_n 0, 1) := by decide +kernel
theorem dJ3_checkIndex_8e157_17 : decode cJ3_checkIndex_8e157 17 = .ok (.ireturn, 1) := by decide +kernel
theorem fs_9 : Cond.fieldLink RJ0 9 "java/lang/String" "value" "[B" ∈ vtb := vtb_m 1380 (by decide +kernel) (by decide +kernel)
theorem fs_15 : Cond.fieldLink RJ0 15 "java/lang/String" "coder" "B" ∈ vtb := vtb_m 1381 (by decide +kernel) (by decide +kernel)
theorem fs_38 : Cond.fieldLink RJ0 38 "java/lang/String" "COMPACT_STRINGS" "Z" ∈ vtb := vtb_m 562 (by decide +kernel) (by decide +kernel)
theorem fs_1053 : Cond.fieldLink RJ0 1053 "jdk/internal/util/Preconditions" "SIOOBE_FORMATTER" "Ljava/util/function/BiFunction;" ∈ vtb := vtb_m 578 (by decide +kernel) (by decide +kernel)
theorem ms_J0_335 : ∀ w ∈ wsV RJ0 335 RJ0 yJ0_coder_7d493 [.code yJ0_coder_7d493 cJ0_coder_7d493 1 (some .byte)], w ∈ vtb := List.forall_mem_cons.mpr ⟨(vtb_m (w := .methodLink RJ0 335 yJ0_coder_7d493) 558 (by decide +kernel) (by decide +kernel)), List.forall_mem_cons.mpr ⟨(vtb_m (w := .instanceMethod yJ0_coder_7d493) 559 (by decide +kernel) (by decide +kernel)), List.forall_mem_cons.mpr ⟨(vtb_m (w := .selects RJ0 yJ0_coder_7d493 yJ0_coder_7d493) 560 (by decide +kernel) (by decide +kernel)), List.forall_mem_cons.mpr ⟨(vtb_m (w := .initialized RJ0) 11 (by decide +kernel) (by decide +kernel)), List.forall_mem_cons.mpr ⟨(vtb_m (w := .code yJ0_coder_7d493 cJ0_coder_7d493 1 (some .byte)) 561 (by decide +kernel) (by decide +kernel)), fun _ h => absurd h List.not_mem_nil⟩⟩⟩⟩⟩
theorem ms_J0_492 : ∀ w ∈ wsV RJ0 492 RJ0 yJ0_isLatin1_aae02 [.code yJ0_isLatin1_aae02 cJ0_isLatin1_aae02 1 (some .boolean)], w ∈ vtb := List.forall_mem_cons.mpr ⟨(vtb_m (w := .methodLink RJ0 492 yJ0_isLatin1_aae02) 568 (by decide +kernel) (by decide +kernel)), List.forall_mem_cons.mpr ⟨(vtb_m (w := .instanceMethod yJ0_isLatin1_aae02) 569 (by decide +kernel) (by decide +kernel)), List.forall_mem_cons.mpr ⟨(vtb_m (w := .selects RJ0 yJ0_isLatin1_aae02 yJ0_isLatin1_aae02) 570 (by decide +kernel) (by decide +kernel)), List.forall_mem_cons.mpr ⟨(vtb_m (w := .initialized RJ0) 11 (by decide +kernel) (by decide +kernel)), List.forall_mem_cons.mpr ⟨(vtb_m (w := .code yJ0_isLatin1_aae02 cJ0_isLatin1_aae02 1 (some .boolean)) 571 (by decide +kernel) (by decide +kernel)), fun _ h => absurd h List.not_mem_nil⟩⟩⟩⟩⟩
theorem ms_J0_495 : ∀ w ∈ va_wsS RJ0 495 yJ1_charAt_3b067 [.code yJ1_charAt_3b067 cJ1_charAt_3b067 2 (some .char)], w ∈ vtb := List.forall_mem_cons.mpr ⟨(vtb_m (w := .methodLink RJ0 495 yJ1_charAt_3b067) 572 (by decide +kernel) (by decide +kernel)), List.forall_mem_cons.mpr ⟨(vtb_m (w := .static yJ1_charAt_3b067) 573 (by decide +kernel) (by decide +kernel)), List.forall_mem_cons.mpr ⟨(vtb_m (w := .initialized (yJ1_charAt_3b067).cls) 12 (by decide +kernel) (by decide +kernel)), List.forall_mem_cons.mpr ⟨(vtb_m (w := .code yJ1_charAt_3b067 cJ1_charAt_3b067 2 (some .char)) 574 (by decide +kernel) (by decide +kernel)), fun _ h => absurd h List.not_mem_nil⟩⟩⟩⟩
theorem ms_J0_1059 : ∀ w ∈ va_wsS RJ0 1059 yJ3_checkIndex_8e157 [.code yJ3_checkIndex_8e157 cJ3_checkIndex_8e157 3 (some .int)], w ∈ vtb := List.forall_mem_cons.mpr ⟨(vtb_m (w := .methodLink RJ0 1059 yJ3_checkIndex_8e157) 580 (by decide +kernel) (by decide +kernel)), List.forall_mem_cons.mpr ⟨(vtb_m (w := .static yJ3_checkIndex_8e157) 581 (by decide +kernel) (by decide +kernel)), List.forall_mem_cons.mpr ⟨(vtb_m (w := .initialized (yJ3_checkIndex_8e157).cls) 13 (by decide +kernel) (by decide +kernel)), List.forall_mem_cons.mpr ⟨(vtb_m (w := .code yJ3_checkIndex_8e157 cJ3_checkIndex_8e157 3 (some .int)) 582 (by decide +kernel) (by decide +kernel)), fun _ h => absurd h List.not_mem_nil⟩⟩⟩⟩
theorem ms_J1_9 : ∀ w ∈ va_wsS RJ1 9 yJ0_checkIndex_df160 [.code yJ0_checkIndex_df160 cJ0_checkIndex_df160 2 none], w ∈ vtb := List.forall_mem_cons.mpr ⟨(vtb_m (w := .methodLink RJ1 9 yJ0_checkIndex_df160) 575 (by decide +kernel) (by decide +kernel)), List.forall_mem_cons.mpr ⟨(vtb_m (w := .static yJ0_checkIndex_df160) 576 (by decide +kernel) (by decide +kernel)), List.forall_mem_cons.mpr ⟨(vtb_m (w := .initialized (yJ0_checkIndex_df160).cls) 11 (by decide +kernel) (by decide +kernel)), List.forall_mem_cons.mpr ⟨(vtb_m (w := .code yJ0_checkIndex_df160 cJ0_checkIndex_df160 2 none) 577 (by decide +kernel) (by decide +kernel)), fun _ h => absurd h List.not_mem_nil⟩⟩⟩⟩
theorem ms_5_48 : ∀ w ∈ wsV RX5 48 RJ0 yJ0_length_8abf5 [.code yJ0_length_8abf5 cJ0_length_8abf5 1 (some .int)], w ∈ vtb := List.forall_mem_cons.mpr ⟨(vtb_m (w := .methodLink RX5 48 yJ0_length_8abf5) 554 (by decide +kernel) (by decide +kernel)), List.forall_mem_cons.mpr ⟨(vtb_m (w := .instanceMethod yJ0_length_8abf5) 555 (by decide +kernel) (by decide +kernel)), List.forall_mem_cons.mpr ⟨(vtb_m (w := .selects RJ0 yJ0_length_8abf5 yJ0_length_8abf5) 556 (by decide +kernel) (by decide +kernel)), List.forall_mem_cons.mpr ⟨(vtb_m (w := .initialized RJ0) 11 (by decide +kernel) (by decide +kernel)), List.forall_mem_cons.mpr ⟨(vtb_m (w := .code yJ0_length_8abf5 cJ0_length_8abf5 1 (some .int)) 557 (by decide +kernel) (by decide +kernel)), fun _ h => absurd h List.not_mem_nil⟩⟩⟩⟩⟩
theorem ms_5_55 : ∀ w ∈ wsV RX5 55 RJ0 yJ0_charAt_5068e [.code yJ0_charAt_5068e cJ0_charAt_5068e 2 (some .char)], w ∈ vtb := List.forall_mem_cons.mpr ⟨(vtb_m (w := .methodLink RX5 55 yJ0_charAt_5068e) 564 (by decide +kernel) (by decide +kernel)), List.forall_mem_cons.mpr ⟨(vtb_m (w := .instanceMethod yJ0_charAt_5068e) 565 (by decide +kernel) (by decide +kernel)), List.forall_mem_cons.mpr ⟨(vtb_m (w := .selects RJ0 yJ0_charAt_5068e yJ0_charAt_5068e) 566 (by decide +kernel) (by decide +kernel)), List.forall_mem_cons.mpr ⟨(vtb_m (w := .initialized RJ0) 11 (by decide +kernel) (by decide +kernel)), List.forall_mem_cons.mpr ⟨(vtb_m (w := .code yJ0_charAt_5068e cJ0_charAt_5068e 2 (some .char)) 567 (by decide +kernel) (by decide +kernel)), fun _ h => absurd h List.not_mem_nil⟩⟩⟩⟩⟩
theorem ms_8_158 : ∀ w ∈ wsV RX8 158 RJ0 yJ0_length_8abf5 [.code yJ0_length_8abf5 cJ0_length_8abf5 1 (some .int)], w ∈ vtb := List.forall_mem_cons.mpr ⟨(vtb_m (w := .methodLink RX8 158 yJ0_length_8abf5) 1204 (by decide +kernel) (by decide +kernel)), List.forall_mem_cons.mpr ⟨(vtb_m (w := .instanceMethod yJ0_length_8abf5) 555 (by decide +kernel) (by decide +kernel)), List.forall_mem_cons.mpr ⟨(vtb_m (w := .selects RJ0 yJ0_length_8abf5 yJ0_length_8abf5) 556 (by decide +kernel) (by decide +kernel)), List.forall_mem_cons.mpr ⟨(vtb_m (w := .initialized RJ0) 11 (by decide +kernel) (by decide +kernel)), List.forall_mem_cons.mpr ⟨(vtb_m (w := .code yJ0_length_8abf5 cJ0_length_8abf5 1 (some .int)) 557 (by decide +kernel) (by decide +kernel)), fun _ h => absurd h List.not_mem_nil⟩⟩⟩⟩⟩
theorem ms_8_161 : ∀ w ∈ wsV RX8 161 RJ0 yJ0_charAt_5068e [.code yJ0_charAt_5068e cJ0_charAt_5068e 2 (some .char)], w ∈ vtb := List.forall_mem_cons.mpr ⟨(vtb_m (w := .methodLink RX8 161 yJ0_charAt_5068e) 1205 (by decide +kernel) (by decide +kernel)), List.forall_mem_cons.mpr ⟨(vtb_m (w := .instanceMethod yJ0_charAt_5068e) 565 (by decide +kernel) (by decide +kernel)), List.forall_mem_cons.mpr ⟨(vtb_m (w := .selects RJ0 yJ0_charAt_5068e yJ0_charAt_5068e) 566 (by decide +kernel) (by decide +kernel)), List.forall_mem_cons.mpr ⟨(vtb_m (w := .initialized RJ0) 11 (by decide +kernel) (by decide +kernel)), List.forall_mem_cons.mpr ⟨(vtb_m (w := .code yJ0_charAt_5068e cJ0_charAt_5068e 2 (some .char)) 567 (by decide +kernel) (by decide +kernel)), fun _ h => absurd h List.not_mem_nil⟩⟩⟩⟩⟩
theorem yh_pre : (yJ3_checkIndex_8e157).cls ≠ "java/lang/invoke/MethodHandle" ∧ (yJ3_checkIndex_8e157).cls ≠ "java/lang/invoke/VarHandle" ∧ (parseMethodDescriptor (yJ3_checkIndex_8e157).desc).map (fun d => d.parameters.length) = some 3 := ⟨by decide +kernel, by decide +kernel, by decide +kernel⟩
theorem yh_chk : (yJ0_checkIndex_df160).cls ≠ "java/lang/invoke/MethodHandle" ∧ (yJ0_checkIndex_df160).cls ≠ "java/lang/invoke/VarHandle" ∧ (parseMethodDescriptor (yJ0_checkIndex_df160).desc).map (fun d => d.parameters.length) = some 2 := ⟨by decide +kernel, by decide +kernel, by decide +kernel⟩
theorem yh_cod : (yJ0_coder_7d493).cls ≠ "java/lang/invoke/MethodHandle" ∧ (yJ0_coder_7d493).cls ≠ "java/lang/invoke/VarHandle" ∧ (parseMethodDescriptor (yJ0_coder_7d493).desc).map (fun d => d.parameters.length) = some 0 := ⟨by decide +kernel, by decide +kernel, by decide +kernel⟩
theorem yh_lat : (yJ0_isLatin1_aae02).cls ≠ "java/lang/invoke/MethodHandle" ∧ (yJ0_isLatin1_aae02).cls ≠ "java/lang/invoke/VarHandle" ∧ (parseMethodDescriptor (yJ0_isLatin1_aae02).desc).map (fun d => d.parameters.length) = some 0 := ⟨by decide +kernel, by decide +kernel, by decide +kernel⟩
theorem yh_l1 : (yJ1_charAt_3b067).cls ≠ "java/lang/invoke/MethodHandle" ∧ (yJ1_charAt_3b067).cls ≠ "java/lang/invoke/VarHandle" ∧ (parseMethodDescriptor (yJ1_charAt_3b067).desc).map (fun d => d.parameters.length) = some 2 := ⟨by decide +kernel, by decide +kernel, by decide +kernel⟩
theorem yh_len : (yJ0_length_8abf5).cls ≠ "java/lang/invoke/MethodHandle" ∧ (yJ0_length_8abf5).cls ≠ "java/lang/invoke/VarHandle" ∧ (parseMethodDescriptor (yJ0_length_8abf5).desc).map (fun d => d.parameters.length) = some 0 := ⟨by decide +kernel, by decide +kernel, by decide +kernel⟩
theorem yh_cha : (yJ0_charAt_5068e).cls ≠ "java/lang/invoke/MethodHandle" ∧ (yJ0_charAt_5068e).cls ≠ "java/lang/invoke/VarHandle" ∧ (parseMethodDescriptor (yJ0_charAt_5068e).desc).map (fun d => d.parameters.length) = some 1 := ⟨by decide +kernel, by decide +kernel, by decide +kernel⟩
section VSTR
variable {l : Launch} {g : vG} {own : String} {bs : ByteArray} {nL : Nat} {rt : Option FieldType} {R : Room} {ce sl : Nat} {E : Array Value → State → Prop} {Qf : List Frame → Array Value → State → State → Prop} {pc : Nat} {ll : List (Nat × vV)} {st : List vV} {J : VP}
theorem vr_ldcw {idx : Nat} (v : Int32) (hc : Cond.constant own idx v ∈ vtb) (hd : decode bs pc = .ok (.ldc_w idx, 3))
    (h : VB l g own bs nL rt R ce sl E Qf (pc + 3) ll (vI v :: st) J) : VB l g own bs nL rt R ce sl E Qf pc ll st J := fun p e s m args below meth c H locs ls C0 w S L => lv_ldcw C0.1 C0.2.1 C0.2.2.2.2.2.1 (C0.2.2.2.2.2.2.1 _ hc) hd (h p e s m args below meth c H locs ls C0 w S L)
theorem vr_i2c {x : Int32} (v : Int32) (hd : decode bs pc = .ok (.i2c, 1)) (hv : (x.toUInt32 % 65536).toInt32 = v)
    (h : VB l g own bs nL rt R ce sl E Qf (pc + 1) ll (vI v :: st) J) : VB l g own bs nL rt R ce sl E Qf pc ll (vI x :: st) J := fun p e s m args below meth c H locs ls C0 w S L => lv_i2c C0.1 C0.2.1 hd hv (h p e s m args below meth c H locs ls C0 w S L)
theorem vr_sval {j idx : Nat} (hj : j < 22) (hl : Cond.fieldLink own idx "java/lang/String" "value" "[B" ∈ vtb) (hd : decode bs pc = .ok (.getfield idx, 3))
    (h : VB l g own bs nL rt R ce sl E Qf (pc + 3) ll (vT (22 + j) :: st) J) : VB l g own bs nL rt R ce sl E Qf pc ll (vT j :: st) J := fun p e s m args below meth c H locs ls C0 w S L => vk_getf C0.1 C0.2.1 (C0.2.2.2.2.2.2.2.1.2.2.2.2.1.1 j hj).2.2.1 S C0.2.2.2.2.2.1 (C0.2.2.2.2.2.2.1 _ hl) (fun _ hh => hh) hd (h p e s m args below meth c H locs ls C0 w S L)
theorem vr_scod {j idx : Nat} (hj : j < 22) (hl : Cond.fieldLink own idx "java/lang/String" "coder" "B" ∈ vtb) (hd : decode bs pc = .ok (.getfield idx, 3))
    (h : VB l g own bs nL rt R ce sl E Qf (pc + 3) ll (vI 0 :: st) J) : VB l g own bs nL rt R ce sl E Qf pc ll (vT j :: st) J := fun p e s m args below meth c H locs ls C0 w S L => vk_getf C0.1 C0.2.1 (C0.2.2.2.2.2.2.2.1.2.2.2.2.1.1 j hj).2.1 S C0.2.2.2.2.2.1 (C0.2.2.2.2.2.2.1 _ hl) (fun _ hh => hh) hd (h p e s m args below meth c H locs ls C0 w S L)
theorem vr_blen {j : Nat} (hj : j < 22) (hd : decode bs pc = .ok (.arraylength, 1))
    (h : VB l g own bs nL rt R ce sl E Qf (pc + 1) ll (vI (slen j) :: st) J) : VB l g own bs nL rt R ce sl E Qf pc ll (vT (22 + j) :: st) J := fun p e s m args below meth c H locs ls C0 w S L => va_tlen C0.1 C0.2.1 (C0.2.2.2.2.2.2.2.1.2.2.2.2.1.1 j hj).2.2.2 S rfl hd (h p e s m args below meth c H locs ls C0 w S L)
theorem slen_lt (j : Nat) (hj : j < 22) : vlenS.getD j 0 < 2147483648 := (show ∀ j, j < 22 → vlenS.getD j 0 < 2147483648 by decide +kernel) j hj
theorem vr_bbald {j : Nat} {i : Int32} (hj : j < 22) (hi : 0 ≤ i ∧ i < slen j) (hd : decode bs pc = .ok (.baload, 1))
    (h : VB l g own bs nL rt R ce sl E Qf (pc + 1) ll (vI (sch j (ix i)) :: st) J) : VB l g own bs nL rt R ce sl E Qf pc ll (vI i :: vT (22 + j) :: st) J := fun p e s m args below meth c H locs ls C0 w S L => va_tb C0.1 C0.2.1 (C0.2.2.2.2.2.2.2.1.2.2.2.2.1.1 j hj).2.2.2 S (vin_of rfl (slen_lt j hj) hi) rfl hd (h p e s m args below meth c H locs ls C0 w S L)
theorem vr_gsC {idx : Nat} (hl : Cond.fieldLink own idx "java/lang/String" "COMPACT_STRINGS" "Z" ∈ vtb) (hd : decode bs pc = .ok (.getstatic idx, 3))
    (h : VB l g own bs nL rt R ce sl E Qf (pc + 3) ll (vI 1 :: st) J) : VB l g own bs nL rt R ce sl E Qf pc ll st J := fun p e s m args below meth c H locs ls C0 w S L => va_gets C0.1 C0.2.1 C0.2.2.2.2.2.2.2.1.2.2.2.2.2.1 S C0.2.2.2.2.2.1 (C0.2.2.2.2.2.2.1 _ hl) (fun _ hh => hh) hd (h p e s m args below meth c H locs ls C0 w S L)
theorem vr_gsF {idx : Nat} (hl : Cond.fieldLink own idx "jdk/internal/util/Preconditions" "SIOOBE_FORMATTER" "Ljava/util/function/BiFunction;" ∈ vtb) (hd : decode bs pc = .ok (.getstatic idx, 3))
    (h : ∀ z : Option (Nat × Nat) ⊕ Nat, VB l g own bs nL rt R ce sl E Qf (pc + 3) ll (.inr (.inr z) :: st) J) : VB l g own bs nL rt R ce sl E Qf pc ll st J := fun p e s m args below meth c H locs ls C0 w S L => by
  rcases C0.2.2.2.2.2.2.2.1.2.2.2.2.2.2 with hf | hf
  · exact va_gets C0.1 C0.2.1 hf S C0.2.2.2.2.2.1 (C0.2.2.2.2.2.2.1 _ hl) (fun _ hh => hh) hd (h (.inl none) p e s m args below meth c H locs ls C0 w S L)
  · exact va_gets C0.1 C0.2.1 hf S C0.2.2.2.2.2.1 (C0.2.2.2.2.2.2.1 _ hl) (fun _ hh => hh) hd (h (.inr 44) p e s m args below meth c H locs ls C0 w S L)
theorem s_pre {z : Option (Nat × Nat) ⊕ Nat} {i n : Int32} {φ : Int32 → Prop} (hi : 0 ≤ i ∧ i < n) (h : φ i) : VC l g yJ3_checkIndex_8e157 cJ3_checkIndex_8e157 3 (some .int) 0 [vI i, vI n, .inr (.inr z)] J (vpI J φ) := by
  have ha : vargs 0 [vI i, vI n, .inr (.inr z)] = [(0, vI i), (1, vI n), (2, .inr (.inr z))] := by rcases z with (_ | y) | j <;> rfl
  have hw : vwsum [vI i, vI n, .inr (.inr z)] ≤ 3 := by rcases z with (_ | y) | j <;> exact Nat.le_of_ble_eq_true rfl
  refine VC.of (by decide +kernel) hw ?_
  rw [ha]
  refine vr_iload_n 0 0 dJ3_checkIndex_8e157_0 rfl rfl ?_
  refine vr_iflt 9 dJ3_checkIndex_8e157_1 (by decide) (fun c1 => absurd c1 (Int32.not_lt.mpr hi.1)) (fun c1 => ?_)
  refine vr_iload_n 0 0 dJ3_checkIndex_8e157_4 rfl rfl ?_
  refine vr_iload_n 1 1 dJ3_checkIndex_8e157_5 rfl rfl ?_
  refine vr_icmplt 16 dJ3_checkIndex_8e157_6 (by decide) (fun c6 => ?_) (fun c6 => absurd hi.2 c6)
  refine vr_iload_n 0 0 dJ3_checkIndex_8e157_16 rfl rfl ?_
  exact vr_iret rfl ⟨rfl, _, rfl, h⟩ dJ3_checkIndex_8e157_17
def vpV (J : VP) : Option vV → VP → Prop := fun v J' => J' = J ∧ v = none
theorem kv (h : VB l g own bs nL rt R ce sl E Qf pc ll st J) : ∀ v J', vpV J v J' → VB l g own bs nL rt R ce sl E Qf pc ll (v.toList ++ st) J' := by
  rintro v J' ⟨rfl, rfl⟩
  exact h
theorem s_chk {i n : Int32} (hi : 0 ≤ i ∧ i < n) : VC l g yJ0_checkIndex_df160 cJ0_checkIndex_df160 2 none 1 [vI i, vI n] J (vpV J) := by
  refine VC.of (by decide +kernel) (Nat.le_of_ble_eq_true rfl) (show VM l g RJ0 cJ0_checkIndex_df160 2 none 1 (vpV J) 0 [(0, vI i), (1, vI n)] [] J from ?_)
  refine vr_iload_n 0 0 dJ0_checkIndex_df160_0 rfl rfl ?_
  refine vr_iload_n 1 1 dJ0_checkIndex_df160_1 rfl rfl ?_
  refine vr_gsF fs_1053 dJ0_checkIndex_df160_2 (fun z => ?_)
  refine vr_callS2 RJ0 (s_pre (z := z) (φ := fun _ => True) hi trivial) rfl ms_J0_1059 rfl yh_pre rfl ⟨Nat.le_of_ble_eq_true rfl, Nat.le_of_ble_eq_true rfl⟩ (Nat.le_of_ble_eq_true rfl) ⟨Nat.zero_le _, Nat.zero_le _⟩ dJ0_checkIndex_df160_5 (ki fun r h => ?_)
  refine vr_pop dJ0_checkIndex_df160_8 rfl ?_
  exact vr_vret rfl ⟨rfl, rfl⟩ dJ0_checkIndex_df160_9
theorem sch_ok : ∀ j, j < 22 → ∀ k, k < vlenS.getD j 0 → ((sch j k &&& 255).toUInt32 % 65536).toInt32 = sch j k ∧ narrow .char (.int (sch j k)) = .int (sch j k) := by decide +kernel
theorem s_l1 {j : Nat} {i : Int32} {φ : Int32 → Prop} (hj : j < 22) (hi : 0 ≤ i ∧ i < slen j) (h : φ (sch j (ix i))) : VC l g yJ1_charAt_3b067 cJ1_charAt_3b067 2 (some .char) 2 [vT (22 + j), vI i] J (vpI J φ) := by
  have ho := sch_ok j hj (ix i) (vin_lt (vin_of rfl (slen_lt j hj) hi))
  refine VC.of (by decide +kernel) (Nat.le_of_ble_eq_true rfl) (show VM l g RJ1 cJ1_charAt_3b067 2 (some .char) 2 (vpI J φ) 0 [(0, vT (22 + j)), (1, vI i)] [] J from ?_)
  refine vr_iload_n 1 1 dJ1_charAt_3b067_0 rfl rfl ?_
  refine vr_aload_n 0 0 dJ1_charAt_3b067_1 rfl rfl ?_
  refine vr_blen hj dJ1_charAt_3b067_2 ?_
  refine vr_callS2 RJ1 (s_chk hi) rfl ms_J1_9 rfl yh_chk rfl ⟨Nat.le_of_ble_eq_true rfl, Nat.le_of_ble_eq_true rfl⟩ (Nat.le_of_ble_eq_true rfl) ⟨Nat.zero_le _, Nat.zero_le _⟩ dJ1_charAt_3b067_3 (kv ?_)
  refine vr_aload_n 0 0 dJ1_charAt_3b067_6 rfl rfl ?_
  refine vr_iload_n 1 1 dJ1_charAt_3b067_7 rfl rfl ?_
  refine vr_bbald hj hi dJ1_charAt_3b067_8 ?_
  refine vr_sipush 255 dJ1_charAt_3b067_9 (by decide) ?_
  refine vr_iand dJ1_charAt_3b067_12 ?_
  refine vr_i2c _ dJ1_charAt_3b067_13 ho.1 ?_
  exact vr_nret .char rfl ho.2 ⟨rfl, _, rfl, h⟩ dJ1_charAt_3b067_14
theorem s_lat {j : Nat} {φ : Int32 → Prop} (hj : j < 22) (h : φ 1) : VC l g yJ0_isLatin1_aae02 cJ0_isLatin1_aae02 1 (some .boolean) 0 [vT j] J (vpI J φ) := by
  refine VC.of (by decide +kernel) (Nat.le_of_ble_eq_true rfl) (show VM l g RJ0 cJ0_isLatin1_aae02 1 (some .boolean) 0 (vpI J φ) 0 [(0, vT j)] [] J from ?_)
  refine vr_gsC fs_38 dJ0_isLatin1_aae02_0 ?_
  refine vr_ifeq 17 dJ0_isLatin1_aae02_3 (by decide) (fun c => absurd c (by decide)) (fun c => ?_)
  refine vr_aload_n 0 0 dJ0_isLatin1_aae02_6 rfl rfl ?_
  refine vr_scod hj fs_15 dJ0_isLatin1_aae02_7 ?_
  refine vr_ifne 17 dJ0_isLatin1_aae02_10 (by decide) (fun c => ?_) (fun c => absurd rfl c)
  refine vr_iconst 1 dJ0_isLatin1_aae02_13 (by decide) ?_
  refine vr_goto 18 dJ0_isLatin1_aae02_14 (by decide) ?_
  exact vr_zret rfl (Or.inr rfl) ⟨rfl, _, rfl, h⟩ dJ0_isLatin1_aae02_18
theorem s_cod {j : Nat} {φ : Int32 → Prop} (hj : j < 22) (h : φ 0) : VC l g yJ0_coder_7d493 cJ0_coder_7d493 1 (some .byte) 0 [vT j] J (vpI J φ) := by
  refine VC.of (by decide +kernel) (Nat.le_of_ble_eq_true rfl) (show VM l g RJ0 cJ0_coder_7d493 1 (some .byte) 0 (vpI J φ) 0 [(0, vT j)] [] J from ?_)
  refine vr_gsC fs_38 dJ0_coder_7d493_0 ?_
  refine vr_ifeq 13 dJ0_coder_7d493_3 (by decide) (fun c => absurd c (by decide)) (fun c => ?_)
  refine vr_aload_n 0 0 dJ0_coder_7d493_6 rfl rfl ?_
  refine vr_scod hj fs_15 dJ0_coder_7d493_7 ?_
  refine vr_goto 14 dJ0_coder_7d493_10 (by decide) ?_
  exact vr_nret .byte rfl rfl ⟨rfl, _, rfl, h⟩ dJ0_coder_7d493_14
theorem s_len {j : Nat} {φ : Int32 → Prop} (hj : j < 22) (h : φ (slen j)) : VC l g yJ0_length_8abf5 cJ0_length_8abf5 1 (some .int) 1 [vT j] J (vpI J φ) := by
  refine VC.of (by decide +kernel) (Nat.le_of_ble_eq_true rfl) (show VM l g RJ0 cJ0_length_8abf5 1 (some .int) 1 (vpI J φ) 0 [(0, vT j)] [] J from ?_)
  refine vr_aload_n 0 0 dJ0_length_8abf5_0 rfl rfl ?_
  refine vr_sval hj fs_9 dJ0_length_8abf5_1 ?_
  refine vr_blen hj dJ0_length_8abf5_4 ?_
  refine vr_aload_n 0 0 dJ0_length_8abf5_5 rfl rfl ?_
  refine vr_callT RJ0 (s_cod (φ := fun r => r = 0) hj rfl) rfl hj rfl ms_J0_335 rfl yh_cod rfl ⟨Nat.le_of_ble_eq_true rfl, Nat.le_of_ble_eq_true rfl⟩ (Nat.le_of_ble_eq_true rfl) ⟨Nat.zero_le _, Nat.zero_le _⟩ dJ0_length_8abf5_6 (ki fun r hr => ?_)
  subst hr
  refine vr_ishr dJ0_length_8abf5_9 ?_
  rw [sb_shr0]
  exact vr_iret rfl ⟨rfl, _, rfl, h⟩ dJ0_length_8abf5_10
theorem s_cha {j : Nat} {i : Int32} {φ : Int32 → Prop} (hj : j < 22) (hi : 0 ≤ i ∧ i < slen j) (h : φ (sch j (ix i))) : VC l g yJ0_charAt_5068e cJ0_charAt_5068e 2 (some .char) 3 [vT j, vI i] J (vpI J φ) := by
  have ho := sch_ok j hj (ix i) (vin_lt (vin_of rfl (slen_lt j hj) hi))
  refine VC.of (by decide +kernel) (Nat.le_of_ble_eq_true rfl) (show VM l g RJ0 cJ0_charAt_5068e 2 (some .char) 3 (vpI J φ) 0 [(0, vT j), (1, vI i)] [] J from ?_)
  refine vr_aload_n 0 0 dJ0_charAt_5068e_0 rfl rfl ?_
  refine vr_callT RJ0 (s_lat (φ := fun r => r = 1) hj rfl) rfl hj rfl ms_J0_492 rfl yh_lat rfl ⟨Nat.le_of_ble_eq_true rfl, Nat.le_of_ble_eq_true rfl⟩ (Nat.le_of_ble_eq_true rfl) ⟨Nat.zero_le _, Nat.zero_le _⟩ dJ0_charAt_5068e_1 (ki fun r hr => ?_)
  subst hr
  refine vr_ifeq 16 dJ0_charAt_5068e_4 (by decide) (fun c => absurd c (by decide)) (fun c => ?_)
  refine vr_aload_n 0 0 dJ0_charAt_5068e_7 rfl rfl ?_
  refine vr_sval hj fs_9 dJ0_charAt_5068e_8 ?_
  refine vr_iload_n 1 1 dJ0_charAt_5068e_11 rfl rfl ?_
  refine vr_callS2 RJ0 (s_l1 (φ := fun r => r = sch j (ix i)) hj hi rfl) rfl ms_J0_495 rfl yh_l1 rfl ⟨Nat.le_of_ble_eq_true rfl, Nat.le_of_ble_eq_true rfl⟩ (Nat.le_of_ble_eq_true rfl) ⟨Nat.zero_le _, Nat.zero_le _⟩ dJ0_charAt_5068e_12 (ki fun r hr => ?_)
  subst hr
  exact vr_nret .char rfl ho.2 ⟨rfl, _, rfl, h⟩ dJ0_charAt_5068e_15
theorem vr_slen (own' : String) {j idx : Nat} (ho : own = own') (hm : ∀ w ∈ wsV own' idx RJ0 yJ0_length_8abf5 [.code yJ0_length_8abf5 cJ0_length_8abf5 1 (some .int)], w ∈ vtb) (hj : j < 22) (hR : 1 + 1 ≤ R.frames ∧ 8 + (1 + 11) + 38 * 1 ≤ R.locals) (hs : vwsum st ≤ 8) (hce : ce ≤ R.cells ∧ sl ≤ R.slots) (hd : decode bs pc = .ok (.invokevirtual idx, 3))
    (h : VB l g own bs nL rt R ce sl E Qf (pc + 3) ll (vI (slen j) :: st) J) : VB l g own bs nL rt R ce sl E Qf pc ll (vT j :: st) J :=
  vr_callT own' (s_len (φ := fun r => r = slen j) hj rfl) ho hj rfl hm rfl yh_len rfl hR hs hce hd (ki fun r hr => by subst hr; exact h)
theorem vr_sch (own' : String) {j idx : Nat} {i : Int32} (ho : own = own') (hm : ∀ w ∈ wsV own' idx RJ0 yJ0_charAt_5068e [.code yJ0_charAt_5068e cJ0_charAt_5068e 2 (some .char)], w ∈ vtb) (hj : j < 22) (hi : 0 ≤ i ∧ i < slen j) (hR : 3 + 1 ≤ R.frames ∧ 8 + (2 + 11) + 38 * 3 ≤ R.locals) (hs : vwsum st ≤ 8) (hce : ce ≤ R.cells ∧ sl ≤ R.slots) (hd : decode bs pc = .ok (.invokevirtual idx, 3))
    (h : VB l g own bs nL rt R ce sl E Qf (pc + 3) ll (vI (sch j (ix i)) :: st) J) : VB l g own bs nL rt R ce sl E Qf pc ll (vI i :: vT j :: st) J :=
  vr_callT own' (s_cha (φ := fun r => r = sch j (ix i)) hj hi rfl) ho hj rfl hm rfl yh_cha rfl hR hs hce hd (ki fun r hr => by subst hr; exact h)
end VSTR
end
