section
-- ===== PART A: goes FIRST, ahead of the names: the tables' words, and 'selects' of the private methods out of them =====
/-- a private method of a class that the tables say can be made, by its rows of tables_1 -/
def lw_okq (q : MethodName × Nat) : Prop := (q.1.cls ≠ "java/lang/invoke/MethodHandle" ∧ q.1.cls ≠ "java/lang/invoke/VarHandle") ∧ Cond.instantiable q.1.cls q.2 ∈ tables_1 ∧ Cond.privateMethod q.1 ∈ tables_1 ∧ Cond.instanceMethod q.1 ∈ tables_1
theorem lw_p0 : lw_okq (⟨"FrameBench", "begin", "()V"⟩, 10) := ⟨⟨by decide +kernel, by decide +kernel⟩, List.mem_of_getElem? (i := 16) (by decide +kernel), List.mem_of_getElem? (i := 389) (by decide +kernel), List.mem_of_getElem? (i := 390) (by decide +kernel)⟩
theorem lw_p1 : lw_okq (⟨"FrameBench$Tape", "readWord", "()V"⟩, 5) := ⟨⟨by decide +kernel, by decide +kernel⟩, List.mem_of_getElem? (i := 24) (by decide +kernel), List.mem_of_getElem? (i := 423) (by decide +kernel), List.mem_of_getElem? (i := 424) (by decide +kernel)⟩
theorem lw_p2 : lw_okq (⟨"FrameBench$Reader", "readNewName", "()V"⟩, 12) := ⟨⟨by decide +kernel, by decide +kernel⟩, List.mem_of_getElem? (i := 174) (by decide +kernel), List.mem_of_getElem? (i := 445) (by decide +kernel), List.mem_of_getElem? (i := 446) (by decide +kernel)⟩
theorem lw_p3 : lw_okq (⟨"FrameBench$Reader", "refuse", "(I)I"⟩, 12) := ⟨⟨by decide +kernel, by decide +kernel⟩, List.mem_of_getElem? (i := 174) (by decide +kernel), List.mem_of_getElem? (i := 461) (by decide +kernel), List.mem_of_getElem? (i := 462) (by decide +kernel)⟩
theorem lw_p4 : lw_okq (⟨"FrameBench$Constants", "isNamed", "(ILFrameBench$Tape;I)Z"⟩, 8) := ⟨⟨by decide +kernel, by decide +kernel⟩, List.mem_of_getElem? (i := 79) (by decide +kernel), List.mem_of_getElem? (i := 476) (by decide +kernel), List.mem_of_getElem? (i := 477) (by decide +kernel)⟩
theorem lw_p5 : lw_okq (⟨"FrameBench$Reader", "take", "(I)V"⟩, 12) := ⟨⟨by decide +kernel, by decide +kernel⟩, List.mem_of_getElem? (i := 174) (by decide +kernel), List.mem_of_getElem? (i := 490) (by decide +kernel), List.mem_of_getElem? (i := 491) (by decide +kernel)⟩
theorem lw_p6 : lw_okq (⟨"FrameBench$Reader", "wholeExpression", "()I"⟩, 12) := ⟨⟨by decide +kernel, by decide +kernel⟩, List.mem_of_getElem? (i := 174) (by decide +kernel), List.mem_of_getElem? (i := 494) (by decide +kernel), List.mem_of_getElem? (i := 495) (by decide +kernel)⟩
theorem lw_p7 : lw_okq (⟨"FrameBench$Reader", "expression", "(I)I"⟩, 12) := ⟨⟨by decide +kernel, by decide +kernel⟩, List.mem_of_getElem? (i := 174) (by decide +kernel), List.mem_of_getElem? (i := 498) (by decide +kernel), List.mem_of_getElem? (i := 499) (by decide +kernel)⟩
theorem lw_p8 : lw_okq (⟨"FrameBench$Reader", "startsPart", "()Z"⟩, 12) := ⟨⟨by decide +kernel, by decide +kernel⟩, List.mem_of_getElem? (i := 174) (by decide +kernel), List.mem_of_getElem? (i := 502) (by decide +kernel), List.mem_of_getElem? (i := 503) (by decide +kernel)⟩
theorem lw_p9 : lw_okq (⟨"FrameBench$Reader", "binding", "(I)I"⟩, 12) := ⟨⟨by decide +kernel, by decide +kernel⟩, List.mem_of_getElem? (i := 174) (by decide +kernel), List.mem_of_getElem? (i := 506) (by decide +kernel), List.mem_of_getElem? (i := 507) (by decide +kernel)⟩
theorem lw_p10 : lw_okq (⟨"FrameBench$Reader", "countPart", "()Z"⟩, 12) := ⟨⟨by decide +kernel, by decide +kernel⟩, List.mem_of_getElem? (i := 174) (by decide +kernel), List.mem_of_getElem? (i := 510) (by decide +kernel), List.mem_of_getElem? (i := 511) (by decide +kernel)⟩
theorem lw_p11 : lw_okq (⟨"FrameBench$Reader", "enterScope", "(II)V"⟩, 12) := ⟨⟨by decide +kernel, by decide +kernel⟩, List.mem_of_getElem? (i := 174) (by decide +kernel), List.mem_of_getElem? (i := 514) (by decide +kernel), List.mem_of_getElem? (i := 515) (by decide +kernel)⟩
theorem lw_p12 : lw_okq (⟨"FrameBench$Reader", "leaveScope", "()V"⟩, 12) := ⟨⟨by decide +kernel, by decide +kernel⟩, List.mem_of_getElem? (i := 174) (by decide +kernel), List.mem_of_getElem? (i := 518) (by decide +kernel), List.mem_of_getElem? (i := 519) (by decide +kernel)⟩
theorem lw_p13 : lw_okq (⟨"FrameBench$Reader", "node", "(IIIII)I"⟩, 12) := ⟨⟨by decide +kernel, by decide +kernel⟩, List.mem_of_getElem? (i := 174) (by decide +kernel), List.mem_of_getElem? (i := 522) (by decide +kernel), List.mem_of_getElem? (i := 523) (by decide +kernel)⟩
theorem lw_p14 : lw_okq (⟨"FrameBench$Reader", "arrow", "(I)I"⟩, 12) := ⟨⟨by decide +kernel, by decide +kernel⟩, List.mem_of_getElem? (i := 174) (by decide +kernel), List.mem_of_getElem? (i := 534) (by decide +kernel), List.mem_of_getElem? (i := 535) (by decide +kernel)⟩
theorem lw_p15 : lw_okq (⟨"FrameBench$Reader", "application", "(I)I"⟩, 12) := ⟨⟨by decide +kernel, by decide +kernel⟩, List.mem_of_getElem? (i := 174) (by decide +kernel), List.mem_of_getElem? (i := 538) (by decide +kernel), List.mem_of_getElem? (i := 539) (by decide +kernel)⟩
def lw_privs_1 : List (MethodName × Nat) := [(⟨"FrameBench", "begin", "()V"⟩, 10), (⟨"FrameBench$Tape", "readWord", "()V"⟩, 5), (⟨"FrameBench$Reader", "readNewName", "()V"⟩, 12), (⟨"FrameBench$Reader", "refuse", "(I)I"⟩, 12), (⟨"FrameBench$Constants", "isNamed", "(ILFrameBench$Tape;I)Z"⟩, 8), (⟨"FrameBench$Reader", "take", "(I)V"⟩, 12), (⟨"FrameBench$Reader", "wholeExpression", "()I"⟩, 12), (⟨"FrameBench$Reader", "expression", "(I)I"⟩, 12), (⟨"FrameBench$Reader", "startsPart", "()Z"⟩, 12), (⟨"FrameBench$Reader", "binding", "(I)I"⟩, 12), (⟨"FrameBench$Reader", "countPart", "()Z"⟩, 12), (⟨"FrameBench$Reader", "enterScope", "(II)V"⟩, 12), (⟨"FrameBench$Reader", "leaveScope", "()V"⟩, 12), (⟨"FrameBench$Reader", "node", "(IIIII)I"⟩, 12), (⟨"FrameBench$Reader", "arrow", "(I)I"⟩, 12), (⟨"FrameBench$Reader", "application", "(I)I"⟩, 12)]
theorem lw_r1 : ∀ q ∈ lw_privs_1, lw_okq q := List.forall_mem_cons.mpr ⟨lw_p0, List.forall_mem_cons.mpr ⟨lw_p1, List.forall_mem_cons.mpr ⟨lw_p2, List.forall_mem_cons.mpr ⟨lw_p3, List.forall_mem_cons.mpr ⟨lw_p4, List.forall_mem_cons.mpr ⟨lw_p5, List.forall_mem_cons.mpr ⟨lw_p6, List.forall_mem_cons.mpr ⟨lw_p7, List.forall_mem_cons.mpr ⟨lw_p8, List.forall_mem_cons.mpr ⟨lw_p9, List.forall_mem_cons.mpr ⟨lw_p10, List.forall_mem_cons.mpr ⟨lw_p11, List.forall_mem_cons.mpr ⟨lw_p12, List.forall_mem_cons.mpr ⟨lw_p13, List.forall_mem_cons.mpr ⟨lw_p14, List.forall_mem_cons.mpr ⟨lw_p15, fun _ h => absurd h List.not_mem_nil⟩⟩⟩⟩⟩⟩⟩⟩⟩⟩⟩⟩⟩⟩⟩⟩
theorem lw_p16 : lw_okq (⟨"FrameBench$Reader", "part", "(I)I"⟩, 12) := ⟨⟨by decide +kernel, by decide +kernel⟩, List.mem_of_getElem? (i := 174) (by decide +kernel), List.mem_of_getElem? (i := 542) (by decide +kernel), List.mem_of_getElem? (i := 543) (by decide +kernel)⟩
theorem lw_p17 : lw_okq (⟨"FrameBench$Reader", "nameNode", "(I)I"⟩, 12) := ⟨⟨by decide +kernel, by decide +kernel⟩, List.mem_of_getElem? (i := 174) (by decide +kernel), List.mem_of_getElem? (i := 550) (by decide +kernel), List.mem_of_getElem? (i := 551) (by decide +kernel)⟩
theorem lw_p18 : lw_okq (⟨"FrameBench$Checker", "classifier", "(IIZ)Z"⟩, 8) := ⟨⟨by decide +kernel, by decide +kernel⟩, List.mem_of_getElem? (i := 282) (by decide +kernel), List.mem_of_getElem? (i := 581) (by decide +kernel), List.mem_of_getElem? (i := 582) (by decide +kernel)⟩
theorem lw_p19 : lw_okq (⟨"FrameBench$Checker", "step", "(I)Z"⟩, 8) := ⟨⟨by decide +kernel, by decide +kernel⟩, List.mem_of_getElem? (i := 282) (by decide +kernel), List.mem_of_getElem? (i := 597) (by decide +kernel), List.mem_of_getElem? (i := 598) (by decide +kernel)⟩
theorem lw_p20 : lw_okq (⟨"FrameBench$Checker", "wrong", "(II)V"⟩, 8) := ⟨⟨by decide +kernel, by decide +kernel⟩, List.mem_of_getElem? (i := 282) (by decide +kernel), List.mem_of_getElem? (i := 614) (by decide +kernel), List.mem_of_getElem? (i := 615) (by decide +kernel)⟩
theorem lw_p21 : lw_okq (⟨"FrameBench$Checker", "under", "(II)I"⟩, 8) := ⟨⟨by decide +kernel, by decide +kernel⟩, List.mem_of_getElem? (i := 282) (by decide +kernel), List.mem_of_getElem? (i := 623) (by decide +kernel), List.mem_of_getElem? (i := 624) (by decide +kernel)⟩
theorem lw_p22 : lw_okq (⟨"FrameBench$Checker", "family", "(II)V"⟩, 8) := ⟨⟨by decide +kernel, by decide +kernel⟩, List.mem_of_getElem? (i := 282) (by decide +kernel), List.mem_of_getElem? (i := 652) (by decide +kernel), List.mem_of_getElem? (i := 653) (by decide +kernel)⟩
theorem lw_p23 : lw_okq (⟨"FrameBench$Checker", "isFamilyName", "(I)Z"⟩, 8) := ⟨⟨by decide +kernel, by decide +kernel⟩, List.mem_of_getElem? (i := 282) (by decide +kernel), List.mem_of_getElem? (i := 666) (by decide +kernel), List.mem_of_getElem? (i := 667) (by decide +kernel)⟩
theorem lw_p24 : lw_okq (⟨"FrameBench$Checker", "objectsOfFamily", "(III)V"⟩, 8) := ⟨⟨by decide +kernel, by decide +kernel⟩, List.mem_of_getElem? (i := 282) (by decide +kernel), List.mem_of_getElem? (i := 679) (by decide +kernel), List.mem_of_getElem? (i := 680) (by decide +kernel)⟩
theorem lw_p25 : lw_okq (⟨"FrameBench$Checker", "fitting", "(IIII)V"⟩, 8) := ⟨⟨by decide +kernel, by decide +kernel⟩, List.mem_of_getElem? (i := 282) (by decide +kernel), List.mem_of_getElem? (i := 716) (by decide +kernel), List.mem_of_getElem? (i := 717) (by decide +kernel)⟩
theorem lw_p26 : lw_okq (⟨"FrameBench$Checker", "object", "(II)V"⟩, 8) := ⟨⟨by decide +kernel, by decide +kernel⟩, List.mem_of_getElem? (i := 282) (by decide +kernel), List.mem_of_getElem? (i := 720) (by decide +kernel), List.mem_of_getElem? (i := 721) (by decide +kernel)⟩
theorem lw_p27 : lw_okq (⟨"FrameBench$Checker", "applied", "(II)V"⟩, 8) := ⟨⟨by decide +kernel, by decide +kernel⟩, List.mem_of_getElem? (i := 282) (by decide +kernel), List.mem_of_getElem? (i := 724) (by decide +kernel), List.mem_of_getElem? (i := 725) (by decide +kernel)⟩
theorem lw_p28 : lw_okq (⟨"FrameBench$Checker", "bareObject", "(I)V"⟩, 8) := ⟨⟨by decide +kernel, by decide +kernel⟩, List.mem_of_getElem? (i := 282) (by decide +kernel), List.mem_of_getElem? (i := 758) (by decide +kernel), List.mem_of_getElem? (i := 759) (by decide +kernel)⟩
theorem lw_p29 : lw_okq (⟨"FrameBench$Judge", "families", "(IIIII)Z"⟩, 9) := ⟨⟨by decide +kernel, by decide +kernel⟩, List.mem_of_getElem? (i := 248) (by decide +kernel), List.mem_of_getElem? (i := 763) (by decide +kernel), List.mem_of_getElem? (i := 764) (by decide +kernel)⟩
theorem lw_p30 : lw_okq (⟨"FrameBench$Judge", "rows", "(IIII)Z"⟩, 9) := ⟨⟨by decide +kernel, by decide +kernel⟩, List.mem_of_getElem? (i := 248) (by decide +kernel), List.mem_of_getElem? (i := 786) (by decide +kernel), List.mem_of_getElem? (i := 787) (by decide +kernel)⟩
theorem lw_p31 : lw_okq (⟨"FrameBench$Judge", "meet", "(IIII)Z"⟩, 9) := ⟨⟨by decide +kernel, by decide +kernel⟩, List.mem_of_getElem? (i := 248) (by decide +kernel), List.mem_of_getElem? (i := 792) (by decide +kernel), List.mem_of_getElem? (i := 793) (by decide +kernel)⟩
def lw_privs_2 : List (MethodName × Nat) := [(⟨"FrameBench$Reader", "part", "(I)I"⟩, 12), (⟨"FrameBench$Reader", "nameNode", "(I)I"⟩, 12), (⟨"FrameBench$Checker", "classifier", "(IIZ)Z"⟩, 8), (⟨"FrameBench$Checker", "step", "(I)Z"⟩, 8), (⟨"FrameBench$Checker", "wrong", "(II)V"⟩, 8), (⟨"FrameBench$Checker", "under", "(II)I"⟩, 8), (⟨"FrameBench$Checker", "family", "(II)V"⟩, 8), (⟨"FrameBench$Checker", "isFamilyName", "(I)Z"⟩, 8), (⟨"FrameBench$Checker", "objectsOfFamily", "(III)V"⟩, 8), (⟨"FrameBench$Checker", "fitting", "(IIII)V"⟩, 8), (⟨"FrameBench$Checker", "object", "(II)V"⟩, 8), (⟨"FrameBench$Checker", "applied", "(II)V"⟩, 8), (⟨"FrameBench$Checker", "bareObject", "(I)V"⟩, 8), (⟨"FrameBench$Judge", "families", "(IIIII)Z"⟩, 9), (⟨"FrameBench$Judge", "rows", "(IIII)Z"⟩, 9), (⟨"FrameBench$Judge", "meet", "(IIII)Z"⟩, 9)]
theorem lw_r2 : ∀ q ∈ lw_privs_2, lw_okq q := List.forall_mem_cons.mpr ⟨lw_p16, List.forall_mem_cons.mpr ⟨lw_p17, List.forall_mem_cons.mpr ⟨lw_p18, List.forall_mem_cons.mpr ⟨lw_p19, List.forall_mem_cons.mpr ⟨lw_p20, List.forall_mem_cons.mpr ⟨lw_p21, List.forall_mem_cons.mpr ⟨lw_p22, List.forall_mem_cons.mpr ⟨lw_p23, List.forall_mem_cons.mpr ⟨lw_p24, List.forall_mem_cons.mpr ⟨lw_p25, List.forall_mem_cons.mpr ⟨lw_p26, List.forall_mem_cons.mpr ⟨lw_p27, List.forall_mem_cons.mpr ⟨lw_p28, List.forall_mem_cons.mpr ⟨lw_p29, List.forall_mem_cons.mpr ⟨lw_p30, List.forall_mem_cons.mpr ⟨lw_p31, fun _ h => absurd h List.not_mem_nil⟩⟩⟩⟩⟩⟩⟩⟩⟩⟩⟩⟩⟩⟩⟩⟩
theorem lw_p32 : lw_okq (⟨"FrameBench$Machine", "isDefinition", "(I)Z"⟩, 8) := ⟨⟨by decide +kernel, by decide +kernel⟩, List.mem_of_getElem? (i := 217) (by decide +kernel), List.mem_of_getElem? (i := 807) (by decide +kernel), List.mem_of_getElem? (i := 808) (by decide +kernel)⟩
theorem lw_p33 : lw_okq (⟨"FrameBench$Judge", "sameLength", "(II)Z"⟩, 9) := ⟨⟨by decide +kernel, by decide +kernel⟩, List.mem_of_getElem? (i := 248) (by decide +kernel), List.mem_of_getElem? (i := 829) (by decide +kernel), List.mem_of_getElem? (i := 830) (by decide +kernel)⟩
theorem lw_p34 : lw_okq (⟨"FrameBench", "writtenForm", "(Z)I"⟩, 10) := ⟨⟨by decide +kernel, by decide +kernel⟩, List.mem_of_getElem? (i := 16) (by decide +kernel), List.mem_of_getElem? (i := 866) (by decide +kernel), List.mem_of_getElem? (i := 867) (by decide +kernel)⟩
theorem lw_p35 : lw_okq (⟨"FrameBench$Constants", "anyIsXsAndNumber", "(I)Z"⟩, 8) := ⟨⟨by decide +kernel, by decide +kernel⟩, List.mem_of_getElem? (i := 79) (by decide +kernel), List.mem_of_getElem? (i := 890) (by decide +kernel), List.mem_of_getElem? (i := 891) (by decide +kernel)⟩
theorem lw_p36 : lw_okq (⟨"FrameBench$Constants", "isXsAndNumber", "(II)Z"⟩, 8) := ⟨⟨by decide +kernel, by decide +kernel⟩, List.mem_of_getElem? (i := 79) (by decide +kernel), List.mem_of_getElem? (i := 894) (by decide +kernel), List.mem_of_getElem? (i := 895) (by decide +kernel)⟩
theorem lw_p37 : lw_okq (⟨"FrameBench$Writer", "family", "(IIII)V"⟩, 7) := ⟨⟨by decide +kernel, by decide +kernel⟩, List.mem_of_getElem? (i := 313) (by decide +kernel), List.mem_of_getElem? (i := 903) (by decide +kernel), List.mem_of_getElem? (i := 904) (by decide +kernel)⟩
theorem lw_p38 : lw_okq (⟨"FrameBench$Writer", "binding", "(IIII)V"⟩, 7) := ⟨⟨by decide +kernel, by decide +kernel⟩, List.mem_of_getElem? (i := 313) (by decide +kernel), List.mem_of_getElem? (i := 919) (by decide +kernel), List.mem_of_getElem? (i := 920) (by decide +kernel)⟩
theorem lw_p39 : lw_okq (⟨"FrameBench$Writer", "putVariable", "(I)V"⟩, 7) := ⟨⟨by decide +kernel, by decide +kernel⟩, List.mem_of_getElem? (i := 313) (by decide +kernel), List.mem_of_getElem? (i := 924) (by decide +kernel), List.mem_of_getElem? (i := 925) (by decide +kernel)⟩
theorem lw_p40 : lw_okq (⟨"FrameBench$Writer", "putName", "(I)V"⟩, 7) := ⟨⟨by decide +kernel, by decide +kernel⟩, List.mem_of_getElem? (i := 313) (by decide +kernel), List.mem_of_getElem? (i := 932) (by decide +kernel), List.mem_of_getElem? (i := 933) (by decide +kernel)⟩
theorem lw_p41 : lw_okq (⟨"FrameBench$Writer", "objects", "(IIIII)V"⟩, 7) := ⟨⟨by decide +kernel, by decide +kernel⟩, List.mem_of_getElem? (i := 313) (by decide +kernel), List.mem_of_getElem? (i := 940) (by decide +kernel), List.mem_of_getElem? (i := 941) (by decide +kernel)⟩
theorem lw_p42 : lw_okq (⟨"FrameBench$Writer", "object", "(IIIIIZ)V"⟩, 7) := ⟨⟨by decide +kernel, by decide +kernel⟩, List.mem_of_getElem? (i := 313) (by decide +kernel), List.mem_of_getElem? (i := 947) (by decide +kernel), List.mem_of_getElem? (i := 948) (by decide +kernel)⟩
theorem lw_p43 : lw_okq (⟨"FrameBench$Writer", "putHead", "(I)V"⟩, 7) := ⟨⟨by decide +kernel, by decide +kernel⟩, List.mem_of_getElem? (i := 313) (by decide +kernel), List.mem_of_getElem? (i := 957) (by decide +kernel), List.mem_of_getElem? (i := 958) (by decide +kernel)⟩
theorem lw_p44 : lw_okq (⟨"FrameBench", "troubleAtEnd", "()I"⟩, 10) := ⟨⟨by decide +kernel, by decide +kernel⟩, List.mem_of_getElem? (i := 16) (by decide +kernel), List.mem_of_getElem? (i := 976) (by decide +kernel), List.mem_of_getElem? (i := 977) (by decide +kernel)⟩
theorem lw_p45 : lw_okq (⟨"FrameBench", "comparison", "(II)I"⟩, 10) := ⟨⟨by decide +kernel, by decide +kernel⟩, List.mem_of_getElem? (i := 16) (by decide +kernel), List.mem_of_getElem? (i := 990) (by decide +kernel), List.mem_of_getElem? (i := 991) (by decide +kernel)⟩
theorem lw_p46 : lw_okq (⟨"FrameBenchModel", "lay", "(J)V"⟩, 71) := ⟨⟨by decide +kernel, by decide +kernel⟩, List.mem_of_getElem? (i := 1063) (by decide +kernel), List.mem_of_getElem? (i := 1291) (by decide +kernel), List.mem_of_getElem? (i := 1292) (by decide +kernel)⟩
theorem lw_p47 : lw_okq (⟨"FrameBenchModel", "begins", "()V"⟩, 71) := ⟨⟨by decide +kernel, by decide +kernel⟩, List.mem_of_getElem? (i := 1063) (by decide +kernel), List.mem_of_getElem? (i := 1299) (by decide +kernel), List.mem_of_getElem? (i := 1300) (by decide +kernel)⟩
def lw_privs_3 : List (MethodName × Nat) := [(⟨"FrameBench$Machine", "isDefinition", "(I)Z"⟩, 8), (⟨"FrameBench$Judge", "sameLength", "(II)Z"⟩, 9), (⟨"FrameBench", "writtenForm", "(Z)I"⟩, 10), (⟨"FrameBench$Constants", "anyIsXsAndNumber", "(I)Z"⟩, 8), (⟨"FrameBench$Constants", "isXsAndNumber", "(II)Z"⟩, 8), (⟨"FrameBench$Writer", "family", "(IIII)V"⟩, 7), (⟨"FrameBench$Writer", "binding", "(IIII)V"⟩, 7), (⟨"FrameBench$Writer", "putVariable", "(I)V"⟩, 7), (⟨"FrameBench$Writer", "putName", "(I)V"⟩, 7), (⟨"FrameBench$Writer", "objects", "(IIIII)V"⟩, 7), (⟨"FrameBench$Writer", "object", "(IIIIIZ)V"⟩, 7), (⟨"FrameBench$Writer", "putHead", "(I)V"⟩, 7), (⟨"FrameBench", "troubleAtEnd", "()I"⟩, 10), (⟨"FrameBench", "comparison", "(II)I"⟩, 10), (⟨"FrameBenchModel", "lay", "(J)V"⟩, 71), (⟨"FrameBenchModel", "begins", "()V"⟩, 71)]
theorem lw_r3 : ∀ q ∈ lw_privs_3, lw_okq q := List.forall_mem_cons.mpr ⟨lw_p32, List.forall_mem_cons.mpr ⟨lw_p33, List.forall_mem_cons.mpr ⟨lw_p34, List.forall_mem_cons.mpr ⟨lw_p35, List.forall_mem_cons.mpr ⟨lw_p36, List.forall_mem_cons.mpr ⟨lw_p37, List.forall_mem_cons.mpr ⟨lw_p38, List.forall_mem_cons.mpr ⟨lw_p39, List.forall_mem_cons.mpr ⟨lw_p40, List.forall_mem_cons.mpr ⟨lw_p41, List.forall_mem_cons.mpr ⟨lw_p42, List.forall_mem_cons.mpr ⟨lw_p43, List.forall_mem_cons.mpr ⟨lw_p44, List.forall_mem_cons.mpr ⟨lw_p45, List.forall_mem_cons.mpr ⟨lw_p46, List.forall_mem_cons.mpr ⟨lw_p47, fun _ h => absurd h List.not_mem_nil⟩⟩⟩⟩⟩⟩⟩⟩⟩⟩⟩⟩⟩⟩⟩⟩
theorem lw_p48 : lw_okq (⟨"FrameBenchModel", "cutAll", "()V"⟩, 71) := ⟨⟨by decide +kernel, by decide +kernel⟩, List.mem_of_getElem? (i := 1063) (by decide +kernel), List.mem_of_getElem? (i := 1304) (by decide +kernel), List.mem_of_getElem? (i := 1305) (by decide +kernel)⟩
theorem lw_p49 : lw_okq (⟨"FrameBenchModel", "declaration", "()V"⟩, 71) := ⟨⟨by decide +kernel, by decide +kernel⟩, List.mem_of_getElem? (i := 1063) (by decide +kernel), List.mem_of_getElem? (i := 1321) (by decide +kernel), List.mem_of_getElem? (i := 1322) (by decide +kernel)⟩
theorem lw_p50 : lw_okq (⟨"FrameBenchModel", "isName", "()Z"⟩, 71) := ⟨⟨by decide +kernel, by decide +kernel⟩, List.mem_of_getElem? (i := 1063) (by decide +kernel), List.mem_of_getElem? (i := 1325) (by decide +kernel), List.mem_of_getElem? (i := 1326) (by decide +kernel)⟩
theorem lw_p51 : lw_okq (⟨"FrameBenchModel", "wrong", "(II)V"⟩, 71) := ⟨⟨by decide +kernel, by decide +kernel⟩, List.mem_of_getElem? (i := 1063) (by decide +kernel), List.mem_of_getElem? (i := 1330) (by decide +kernel), List.mem_of_getElem? (i := 1331) (by decide +kernel)⟩
theorem lw_p52 : lw_okq (⟨"FrameBenchModel", "constantOf", "(I)I"⟩, 71) := ⟨⟨by decide +kernel, by decide +kernel⟩, List.mem_of_getElem? (i := 1063) (by decide +kernel), List.mem_of_getElem? (i := 1334) (by decide +kernel), List.mem_of_getElem? (i := 1335) (by decide +kernel)⟩
theorem lw_p53 : lw_okq (⟨"FrameBenchModel", "takeSign", "(I)V"⟩, 71) := ⟨⟨by decide +kernel, by decide +kernel⟩, List.mem_of_getElem? (i := 1063) (by decide +kernel), List.mem_of_getElem? (i := 1338) (by decide +kernel), List.mem_of_getElem? (i := 1339) (by decide +kernel)⟩
theorem lw_p54 : lw_okq (⟨"FrameBenchModel", "isSign", "(I)Z"⟩, 71) := ⟨⟨by decide +kernel, by decide +kernel⟩, List.mem_of_getElem? (i := 1063) (by decide +kernel), List.mem_of_getElem? (i := 1342) (by decide +kernel), List.mem_of_getElem? (i := 1343) (by decide +kernel)⟩
theorem lw_p55 : lw_okq (⟨"FrameBenchModel", "readWhole", "()I"⟩, 71) := ⟨⟨by decide +kernel, by decide +kernel⟩, List.mem_of_getElem? (i := 1063) (by decide +kernel), List.mem_of_getElem? (i := 1346) (by decide +kernel), List.mem_of_getElem? (i := 1347) (by decide +kernel)⟩
theorem lw_p56 : lw_okq (⟨"FrameBenchModel", "readE", "()I"⟩, 71) := ⟨⟨by decide +kernel, by decide +kernel⟩, List.mem_of_getElem? (i := 1063) (by decide +kernel), List.mem_of_getElem? (i := 1350) (by decide +kernel), List.mem_of_getElem? (i := 1351) (by decide +kernel)⟩
theorem lw_p57 : lw_okq (⟨"FrameBenchModel", "isP", "()Z"⟩, 71) := ⟨⟨by decide +kernel, by decide +kernel⟩, List.mem_of_getElem? (i := 1063) (by decide +kernel), List.mem_of_getElem? (i := 1354) (by decide +kernel), List.mem_of_getElem? (i := 1355) (by decide +kernel)⟩
theorem lw_p58 : lw_okq (⟨"FrameBenchModel", "within", "()V"⟩, 71) := ⟨⟨by decide +kernel, by decide +kernel⟩, List.mem_of_getElem? (i := 1063) (by decide +kernel), List.mem_of_getElem? (i := 1358) (by decide +kernel), List.mem_of_getElem? (i := 1359) (by decide +kernel)⟩
theorem lw_p59 : lw_okq (⟨"FrameBenchModel", "readBinder", "(Z)I"⟩, 71) := ⟨⟨by decide +kernel, by decide +kernel⟩, List.mem_of_getElem? (i := 1063) (by decide +kernel), List.mem_of_getElem? (i := 1362) (by decide +kernel), List.mem_of_getElem? (i := 1363) (by decide +kernel)⟩
theorem lw_p60 : lw_okq (⟨"FrameBenchModel", "counts", "()V"⟩, 71) := ⟨⟨by decide +kernel, by decide +kernel⟩, List.mem_of_getElem? (i := 1063) (by decide +kernel), List.mem_of_getElem? (i := 1366) (by decide +kernel), List.mem_of_getElem? (i := 1367) (by decide +kernel)⟩
theorem lw_p61 : lw_okq (⟨"FrameBenchModel", "node", "(IIIII)I"⟩, 71) := ⟨⟨by decide +kernel, by decide +kernel⟩, List.mem_of_getElem? (i := 1063) (by decide +kernel), List.mem_of_getElem? (i := 1370) (by decide +kernel), List.mem_of_getElem? (i := 1371) (by decide +kernel)⟩
theorem lw_p62 : lw_okq (⟨"FrameBenchModel", "readA", "()I"⟩, 71) := ⟨⟨by decide +kernel, by decide +kernel⟩, List.mem_of_getElem? (i := 1063) (by decide +kernel), List.mem_of_getElem? (i := 1374) (by decide +kernel), List.mem_of_getElem? (i := 1375) (by decide +kernel)⟩
theorem lw_p63 : lw_okq (⟨"FrameBenchModel", "readP", "()I"⟩, 71) := ⟨⟨by decide +kernel, by decide +kernel⟩, List.mem_of_getElem? (i := 1063) (by decide +kernel), List.mem_of_getElem? (i := 1378) (by decide +kernel), List.mem_of_getElem? (i := 1379) (by decide +kernel)⟩
def lw_privs_4 : List (MethodName × Nat) := [(⟨"FrameBenchModel", "cutAll", "()V"⟩, 71), (⟨"FrameBenchModel", "declaration", "()V"⟩, 71), (⟨"FrameBenchModel", "isName", "()Z"⟩, 71), (⟨"FrameBenchModel", "wrong", "(II)V"⟩, 71), (⟨"FrameBenchModel", "constantOf", "(I)I"⟩, 71), (⟨"FrameBenchModel", "takeSign", "(I)V"⟩, 71), (⟨"FrameBenchModel", "isSign", "(I)Z"⟩, 71), (⟨"FrameBenchModel", "readWhole", "()I"⟩, 71), (⟨"FrameBenchModel", "readE", "()I"⟩, 71), (⟨"FrameBenchModel", "isP", "()Z"⟩, 71), (⟨"FrameBenchModel", "within", "()V"⟩, 71), (⟨"FrameBenchModel", "readBinder", "(Z)I"⟩, 71), (⟨"FrameBenchModel", "counts", "()V"⟩, 71), (⟨"FrameBenchModel", "node", "(IIIII)I"⟩, 71), (⟨"FrameBenchModel", "readA", "()I"⟩, 71), (⟨"FrameBenchModel", "readP", "()I"⟩, 71)]
theorem lw_r4 : ∀ q ∈ lw_privs_4, lw_okq q := List.forall_mem_cons.mpr ⟨lw_p48, List.forall_mem_cons.mpr ⟨lw_p49, List.forall_mem_cons.mpr ⟨lw_p50, List.forall_mem_cons.mpr ⟨lw_p51, List.forall_mem_cons.mpr ⟨lw_p52, List.forall_mem_cons.mpr ⟨lw_p53, List.forall_mem_cons.mpr ⟨lw_p54, List.forall_mem_cons.mpr ⟨lw_p55, List.forall_mem_cons.mpr ⟨lw_p56, List.forall_mem_cons.mpr ⟨lw_p57, List.forall_mem_cons.mpr ⟨lw_p58, List.forall_mem_cons.mpr ⟨lw_p59, List.forall_mem_cons.mpr ⟨lw_p60, List.forall_mem_cons.mpr ⟨lw_p61, List.forall_mem_cons.mpr ⟨lw_p62, List.forall_mem_cons.mpr ⟨lw_p63, fun _ h => absurd h List.not_mem_nil⟩⟩⟩⟩⟩⟩⟩⟩⟩⟩⟩⟩⟩⟩⟩⟩
theorem lw_p64 : lw_okq (⟨"FrameBenchModel", "isType", "()Z"⟩, 71) := ⟨⟨by decide +kernel, by decide +kernel⟩, List.mem_of_getElem? (i := 1063) (by decide +kernel), List.mem_of_getElem? (i := 1382) (by decide +kernel), List.mem_of_getElem? (i := 1383) (by decide +kernel)⟩
theorem lw_p65 : lw_okq (⟨"FrameBenchModel", "family", "(IZ)V"⟩, 71) := ⟨⟨by decide +kernel, by decide +kernel⟩, List.mem_of_getElem? (i := 1063) (by decide +kernel), List.mem_of_getElem? (i := 1386) (by decide +kernel), List.mem_of_getElem? (i := 1387) (by decide +kernel)⟩
theorem lw_p66 : lw_okq (⟨"FrameBenchModel", "stepAt", "(I)V"⟩, 71) := ⟨⟨by decide +kernel, by decide +kernel⟩, List.mem_of_getElem? (i := 1063) (by decide +kernel), List.mem_of_getElem? (i := 1390) (by decide +kernel), List.mem_of_getElem? (i := 1391) (by decide +kernel)⟩
theorem lw_p67 : lw_okq (⟨"FrameBenchModel", "step", "()Z"⟩, 71) := ⟨⟨by decide +kernel, by decide +kernel⟩, List.mem_of_getElem? (i := 1063) (by decide +kernel), List.mem_of_getElem? (i := 1394) (by decide +kernel), List.mem_of_getElem? (i := 1395) (by decide +kernel)⟩
theorem lw_p68 : lw_okq (⟨"FrameBenchModel", "bind", "(I)V"⟩, 71) := ⟨⟨by decide +kernel, by decide +kernel⟩, List.mem_of_getElem? (i := 1063) (by decide +kernel), List.mem_of_getElem? (i := 1399) (by decide +kernel), List.mem_of_getElem? (i := 1400) (by decide +kernel)⟩
theorem lw_p69 : lw_okq (⟨"FrameBenchModel", "newVar", "(III)I"⟩, 71) := ⟨⟨by decide +kernel, by decide +kernel⟩, List.mem_of_getElem? (i := 1063) (by decide +kernel), List.mem_of_getElem? (i := 1403) (by decide +kernel), List.mem_of_getElem? (i := 1404) (by decide +kernel)⟩
theorem lw_p70 : lw_okq (⟨"FrameBenchModel", "closure", "(II)I"⟩, 71) := ⟨⟨by decide +kernel, by decide +kernel⟩, List.mem_of_getElem? (i := 1063) (by decide +kernel), List.mem_of_getElem? (i := 1407) (by decide +kernel), List.mem_of_getElem? (i := 1408) (by decide +kernel)⟩
theorem lw_p71 : lw_okq (⟨"FrameBenchModel", "list", "(II)I"⟩, 71) := ⟨⟨by decide +kernel, by decide +kernel⟩, List.mem_of_getElem? (i := 1063) (by decide +kernel), List.mem_of_getElem? (i := 1411) (by decide +kernel), List.mem_of_getElem? (i := 1412) (by decide +kernel)⟩
theorem lw_p72 : lw_okq (⟨"FrameBenchModel", "unbind", "()V"⟩, 71) := ⟨⟨by decide +kernel, by decide +kernel⟩, List.mem_of_getElem? (i := 1063) (by decide +kernel), List.mem_of_getElem? (i := 1415) (by decide +kernel), List.mem_of_getElem? (i := 1416) (by decide +kernel)⟩
theorem lw_p73 : lw_okq (⟨"FrameBenchModel", "familyBehind", "(I)V"⟩, 71) := ⟨⟨by decide +kernel, by decide +kernel⟩, List.mem_of_getElem? (i := 1063) (by decide +kernel), List.mem_of_getElem? (i := 1419) (by decide +kernel), List.mem_of_getElem? (i := 1420) (by decide +kernel)⟩
theorem lw_p74 : lw_okq (⟨"FrameBenchModel", "find", "(I)V"⟩, 71) := ⟨⟨by decide +kernel, by decide +kernel⟩, List.mem_of_getElem? (i := 1063) (by decide +kernel), List.mem_of_getElem? (i := 1423) (by decide +kernel), List.mem_of_getElem? (i := 1424) (by decide +kernel)⟩
theorem lw_p75 : lw_okq (⟨"FrameBenchModel", "isFamilyNode", "(I)Z"⟩, 71) := ⟨⟨by decide +kernel, by decide +kernel⟩, List.mem_of_getElem? (i := 1063) (by decide +kernel), List.mem_of_getElem? (i := 1427) (by decide +kernel), List.mem_of_getElem? (i := 1428) (by decide +kernel)⟩
theorem lw_p76 : lw_okq (⟨"FrameBenchModel", "shows", "(II)Z"⟩, 71) := ⟨⟨by decide +kernel, by decide +kernel⟩, List.mem_of_getElem? (i := 1063) (by decide +kernel), List.mem_of_getElem? (i := 1431) (by decide +kernel), List.mem_of_getElem? (i := 1432) (by decide +kernel)⟩
theorem lw_p77 : lw_okq (⟨"FrameBenchModel", "without", "(II)I"⟩, 71) := ⟨⟨by decide +kernel, by decide +kernel⟩, List.mem_of_getElem? (i := 1063) (by decide +kernel), List.mem_of_getElem? (i := 1435) (by decide +kernel), List.mem_of_getElem? (i := 1436) (by decide +kernel)⟩
theorem lw_p78 : lw_okq (⟨"FrameBenchModel", "shown", "(II)Z"⟩, 71) := ⟨⟨by decide +kernel, by decide +kernel⟩, List.mem_of_getElem? (i := 1063) (by decide +kernel), List.mem_of_getElem? (i := 1439) (by decide +kernel), List.mem_of_getElem? (i := 1440) (by decide +kernel)⟩
theorem lw_p79 : lw_okq (⟨"FrameBenchModel", "object", "(I)V"⟩, 71) := ⟨⟨by decide +kernel, by decide +kernel⟩, List.mem_of_getElem? (i := 1063) (by decide +kernel), List.mem_of_getElem? (i := 1443) (by decide +kernel), List.mem_of_getElem? (i := 1444) (by decide +kernel)⟩
def lw_privs_5 : List (MethodName × Nat) := [(⟨"FrameBenchModel", "isType", "()Z"⟩, 71), (⟨"FrameBenchModel", "family", "(IZ)V"⟩, 71), (⟨"FrameBenchModel", "stepAt", "(I)V"⟩, 71), (⟨"FrameBenchModel", "step", "()Z"⟩, 71), (⟨"FrameBenchModel", "bind", "(I)V"⟩, 71), (⟨"FrameBenchModel", "newVar", "(III)I"⟩, 71), (⟨"FrameBenchModel", "closure", "(II)I"⟩, 71), (⟨"FrameBenchModel", "list", "(II)I"⟩, 71), (⟨"FrameBenchModel", "unbind", "()V"⟩, 71), (⟨"FrameBenchModel", "familyBehind", "(I)V"⟩, 71), (⟨"FrameBenchModel", "find", "(I)V"⟩, 71), (⟨"FrameBenchModel", "isFamilyNode", "(I)Z"⟩, 71), (⟨"FrameBenchModel", "shows", "(II)Z"⟩, 71), (⟨"FrameBenchModel", "without", "(II)I"⟩, 71), (⟨"FrameBenchModel", "shown", "(II)Z"⟩, 71), (⟨"FrameBenchModel", "object", "(I)V"⟩, 71)]
theorem lw_r5 : ∀ q ∈ lw_privs_5, lw_okq q := List.forall_mem_cons.mpr ⟨lw_p64, List.forall_mem_cons.mpr ⟨lw_p65, List.forall_mem_cons.mpr ⟨lw_p66, List.forall_mem_cons.mpr ⟨lw_p67, List.forall_mem_cons.mpr ⟨lw_p68, List.forall_mem_cons.mpr ⟨lw_p69, List.forall_mem_cons.mpr ⟨lw_p70, List.forall_mem_cons.mpr ⟨lw_p71, List.forall_mem_cons.mpr ⟨lw_p72, List.forall_mem_cons.mpr ⟨lw_p73, List.forall_mem_cons.mpr ⟨lw_p74, List.forall_mem_cons.mpr ⟨lw_p75, List.forall_mem_cons.mpr ⟨lw_p76, List.forall_mem_cons.mpr ⟨lw_p77, List.forall_mem_cons.mpr ⟨lw_p78, List.forall_mem_cons.mpr ⟨lw_p79, fun _ h => absurd h List.not_mem_nil⟩⟩⟩⟩⟩⟩⟩⟩⟩⟩⟩⟩⟩⟩⟩⟩
theorem lw_p80 : lw_okq (⟨"FrameBenchModel", "lambda", "(I)V"⟩, 71) := ⟨⟨by decide +kernel, by decide +kernel⟩, List.mem_of_getElem? (i := 1063) (by decide +kernel), List.mem_of_getElem? (i := 1447) (by decide +kernel), List.mem_of_getElem? (i := 1448) (by decide +kernel)⟩
theorem lw_p81 : lw_okq (⟨"FrameBenchModel", "typeNode", "(III)I"⟩, 71) := ⟨⟨by decide +kernel, by decide +kernel⟩, List.mem_of_getElem? (i := 1063) (by decide +kernel), List.mem_of_getElem? (i := 1451) (by decide +kernel), List.mem_of_getElem? (i := 1452) (by decide +kernel)⟩
theorem lw_p82 : lw_okq (⟨"FrameBenchModel", "is", "(III)V"⟩, 71) := ⟨⟨by decide +kernel, by decide +kernel⟩, List.mem_of_getElem? (i := 1063) (by decide +kernel), List.mem_of_getElem? (i := 1455) (by decide +kernel), List.mem_of_getElem? (i := 1456) (by decide +kernel)⟩
theorem lw_p83 : lw_okq (⟨"FrameBenchModel", "objectBehind", "(I)V"⟩, 71) := ⟨⟨by decide +kernel, by decide +kernel⟩, List.mem_of_getElem? (i := 1063) (by decide +kernel), List.mem_of_getElem? (i := 1459) (by decide +kernel), List.mem_of_getElem? (i := 1460) (by decide +kernel)⟩
theorem lw_p84 : lw_okq (⟨"FrameBenchModel", "oneBehind", "(I)V"⟩, 71) := ⟨⟨by decide +kernel, by decide +kernel⟩, List.mem_of_getElem? (i := 1063) (by decide +kernel), List.mem_of_getElem? (i := 1463) (by decide +kernel), List.mem_of_getElem? (i := 1464) (by decide +kernel)⟩
theorem lw_p85 : lw_okq (⟨"FrameBenchModel", "wanted", "(IIIII)V"⟩, 71) := ⟨⟨by decide +kernel, by decide +kernel⟩, List.mem_of_getElem? (i := 1063) (by decide +kernel), List.mem_of_getElem? (i := 1467) (by decide +kernel), List.mem_of_getElem? (i := 1468) (by decide +kernel)⟩
theorem lw_p86 : lw_okq (⟨"FrameBenchModel", "equalFamilies", "(IIII)I"⟩, 71) := ⟨⟨by decide +kernel, by decide +kernel⟩, List.mem_of_getElem? (i := 1063) (by decide +kernel), List.mem_of_getElem? (i := 1471) (by decide +kernel), List.mem_of_getElem? (i := 1472) (by decide +kernel)⟩
theorem lw_p87 : lw_okq (⟨"FrameBenchModel", "sameFamilies", "(IIII)I"⟩, 71) := ⟨⟨by decide +kernel, by decide +kernel⟩, List.mem_of_getElem? (i := 1063) (by decide +kernel), List.mem_of_getElem? (i := 1475) (by decide +kernel), List.mem_of_getElem? (i := 1476) (by decide +kernel)⟩
theorem lw_p88 : lw_okq (⟨"FrameBenchModel", "asks", "()I"⟩, 71) := ⟨⟨by decide +kernel, by decide +kernel⟩, List.mem_of_getElem? (i := 1063) (by decide +kernel), List.mem_of_getElem? (i := 1479) (by decide +kernel), List.mem_of_getElem? (i := 1480) (by decide +kernel)⟩
theorem lw_p89 : lw_okq (⟨"FrameBenchModel", "sameAsked", "(IIII)I"⟩, 71) := ⟨⟨by decide +kernel, by decide +kernel⟩, List.mem_of_getElem? (i := 1063) (by decide +kernel), List.mem_of_getElem? (i := 1483) (by decide +kernel), List.mem_of_getElem? (i := 1484) (by decide +kernel)⟩
theorem lw_p90 : lw_okq (⟨"FrameBenchModel", "sameSpines", "(IIII)I"⟩, 71) := ⟨⟨by decide +kernel, by decide +kernel⟩, List.mem_of_getElem? (i := 1063) (by decide +kernel), List.mem_of_getElem? (i := 1487) (by decide +kernel), List.mem_of_getElem? (i := 1488) (by decide +kernel)⟩
theorem lw_p91 : lw_okq (⟨"FrameBenchModel", "behindOf", "(II)I"⟩, 71) := ⟨⟨by decide +kernel, by decide +kernel⟩, List.mem_of_getElem? (i := 1063) (by decide +kernel), List.mem_of_getElem? (i := 1491) (by decide +kernel), List.mem_of_getElem? (i := 1492) (by decide +kernel)⟩
theorem lw_p92 : lw_okq (⟨"FrameBenchModel", "behind", "(II)I"⟩, 71) := ⟨⟨by decide +kernel, by decide +kernel⟩, List.mem_of_getElem? (i := 1063) (by decide +kernel), List.mem_of_getElem? (i := 1495) (by decide +kernel), List.mem_of_getElem? (i := 1496) (by decide +kernel)⟩
theorem lw_p93 : lw_okq (⟨"FrameBenchModel", "sameBehind", "(IIII)I"⟩, 71) := ⟨⟨by decide +kernel, by decide +kernel⟩, List.mem_of_getElem? (i := 1063) (by decide +kernel), List.mem_of_getElem? (i := 1499) (by decide +kernel), List.mem_of_getElem? (i := 1500) (by decide +kernel)⟩
theorem lw_p94 : lw_okq (⟨"FrameBenchModel", "sameObjects", "(IIIIII)I"⟩, 71) := ⟨⟨by decide +kernel, by decide +kernel⟩, List.mem_of_getElem? (i := 1063) (by decide +kernel), List.mem_of_getElem? (i := 1503) (by decide +kernel), List.mem_of_getElem? (i := 1504) (by decide +kernel)⟩
theorem lw_p95 : lw_okq (⟨"FrameBenchModel", "sameObjectsAsked", "(IIIIII)I"⟩, 71) := ⟨⟨by decide +kernel, by decide +kernel⟩, List.mem_of_getElem? (i := 1063) (by decide +kernel), List.mem_of_getElem? (i := 1507) (by decide +kernel), List.mem_of_getElem? (i := 1508) (by decide +kernel)⟩
def lw_privs_6 : List (MethodName × Nat) := [(⟨"FrameBenchModel", "lambda", "(I)V"⟩, 71), (⟨"FrameBenchModel", "typeNode", "(III)I"⟩, 71), (⟨"FrameBenchModel", "is", "(III)V"⟩, 71), (⟨"FrameBenchModel", "objectBehind", "(I)V"⟩, 71), (⟨"FrameBenchModel", "oneBehind", "(I)V"⟩, 71), (⟨"FrameBenchModel", "wanted", "(IIIII)V"⟩, 71), (⟨"FrameBenchModel", "equalFamilies", "(IIII)I"⟩, 71), (⟨"FrameBenchModel", "sameFamilies", "(IIII)I"⟩, 71), (⟨"FrameBenchModel", "asks", "()I"⟩, 71), (⟨"FrameBenchModel", "sameAsked", "(IIII)I"⟩, 71), (⟨"FrameBenchModel", "sameSpines", "(IIII)I"⟩, 71), (⟨"FrameBenchModel", "behindOf", "(II)I"⟩, 71), (⟨"FrameBenchModel", "behind", "(II)I"⟩, 71), (⟨"FrameBenchModel", "sameBehind", "(IIII)I"⟩, 71), (⟨"FrameBenchModel", "sameObjects", "(IIIIII)I"⟩, 71), (⟨"FrameBenchModel", "sameObjectsAsked", "(IIIIII)I"⟩, 71)]
theorem lw_r6 : ∀ q ∈ lw_privs_6, lw_okq q := List.forall_mem_cons.mpr ⟨lw_p80, List.forall_mem_cons.mpr ⟨lw_p81, List.forall_mem_cons.mpr ⟨lw_p82, List.forall_mem_cons.mpr ⟨lw_p83, List.forall_mem_cons.mpr ⟨lw_p84, List.forall_mem_cons.mpr ⟨lw_p85, List.forall_mem_cons.mpr ⟨lw_p86, List.forall_mem_cons.mpr ⟨lw_p87, List.forall_mem_cons.mpr ⟨lw_p88, List.forall_mem_cons.mpr ⟨lw_p89, List.forall_mem_cons.mpr ⟨lw_p90, List.forall_mem_cons.mpr ⟨lw_p91, List.forall_mem_cons.mpr ⟨lw_p92, List.forall_mem_cons.mpr ⟨lw_p93, List.forall_mem_cons.mpr ⟨lw_p94, List.forall_mem_cons.mpr ⟨lw_p95, fun _ h => absurd h List.not_mem_nil⟩⟩⟩⟩⟩⟩⟩⟩⟩⟩⟩⟩⟩⟩⟩⟩
theorem lw_p96 : lw_okq (⟨"FrameBenchModel", "append", "(II)I"⟩, 71) := ⟨⟨by decide +kernel, by decide +kernel⟩, List.mem_of_getElem? (i := 1063) (by decide +kernel), List.mem_of_getElem? (i := 1511) (by decide +kernel), List.mem_of_getElem? (i := 1512) (by decide +kernel)⟩
theorem lw_p97 : lw_okq (⟨"FrameBenchModel", "heads", "(II)I"⟩, 71) := ⟨⟨by decide +kernel, by decide +kernel⟩, List.mem_of_getElem? (i := 1063) (by decide +kernel), List.mem_of_getElem? (i := 1515) (by decide +kernel), List.mem_of_getElem? (i := 1516) (by decide +kernel)⟩
theorem lw_p98 : lw_okq (⟨"FrameBenchModel", "manyBehind", "(I)I"⟩, 71) := ⟨⟨by decide +kernel, by decide +kernel⟩, List.mem_of_getElem? (i := 1063) (by decide +kernel), List.mem_of_getElem? (i := 1519) (by decide +kernel), List.mem_of_getElem? (i := 1520) (by decide +kernel)⟩
theorem lw_p99 : lw_okq (⟨"FrameBenchModel", "name", "(I)V"⟩, 71) := ⟨⟨by decide +kernel, by decide +kernel⟩, List.mem_of_getElem? (i := 1063) (by decide +kernel), List.mem_of_getElem? (i := 1523) (by decide +kernel), List.mem_of_getElem? (i := 1524) (by decide +kernel)⟩
theorem lw_p100 : lw_okq (⟨"FrameBenchModel", "tell", "(Z)I"⟩, 71) := ⟨⟨by decide +kernel, by decide +kernel⟩, List.mem_of_getElem? (i := 1063) (by decide +kernel), List.mem_of_getElem? (i := 1531) (by decide +kernel), List.mem_of_getElem? (i := 1532) (by decide +kernel)⟩
theorem lw_p101 : lw_okq (⟨"FrameBenchModel", "askOne", "()I"⟩, 71) := ⟨⟨by decide +kernel, by decide +kernel⟩, List.mem_of_getElem? (i := 1063) (by decide +kernel), List.mem_of_getElem? (i := 1535) (by decide +kernel), List.mem_of_getElem? (i := 1536) (by decide +kernel)⟩
theorem lw_p102 : lw_okq (⟨"FrameBenchModel", "countXs", "()V"⟩, 71) := ⟨⟨by decide +kernel, by decide +kernel⟩, List.mem_of_getElem? (i := 1063) (by decide +kernel), List.mem_of_getElem? (i := 1539) (by decide +kernel), List.mem_of_getElem? (i := 1540) (by decide +kernel)⟩
theorem lw_p103 : lw_okq (⟨"FrameBenchModel", "isXs", "(I)Z"⟩, 71) := ⟨⟨by decide +kernel, by decide +kernel⟩, List.mem_of_getElem? (i := 1063) (by decide +kernel), List.mem_of_getElem? (i := 1543) (by decide +kernel), List.mem_of_getElem? (i := 1544) (by decide +kernel)⟩
theorem lw_p104 : lw_okq (⟨"FrameBenchModel", "takeLetters", "(J)V"⟩, 71) := ⟨⟨by decide +kernel, by decide +kernel⟩, List.mem_of_getElem? (i := 1063) (by decide +kernel), List.mem_of_getElem? (i := 1547) (by decide +kernel), List.mem_of_getElem? (i := 1548) (by decide +kernel)⟩
theorem lw_p105 : lw_okq (⟨"FrameBenchModel", "tellFamily", "(III)I"⟩, 71) := ⟨⟨by decide +kernel, by decide +kernel⟩, List.mem_of_getElem? (i := 1063) (by decide +kernel), List.mem_of_getElem? (i := 1551) (by decide +kernel), List.mem_of_getElem? (i := 1552) (by decide +kernel)⟩
theorem lw_p106 : lw_okq (⟨"FrameBenchModel", "say", "(I)V"⟩, 71) := ⟨⟨by decide +kernel, by decide +kernel⟩, List.mem_of_getElem? (i := 1063) (by decide +kernel), List.mem_of_getElem? (i := 1555) (by decide +kernel), List.mem_of_getElem? (i := 1556) (by decide +kernel)⟩
theorem lw_p107 : lw_okq (⟨"FrameBenchModel", "sayVar", "(I)V"⟩, 71) := ⟨⟨by decide +kernel, by decide +kernel⟩, List.mem_of_getElem? (i := 1063) (by decide +kernel), List.mem_of_getElem? (i := 1559) (by decide +kernel), List.mem_of_getElem? (i := 1560) (by decide +kernel)⟩
theorem lw_p108 : lw_okq (⟨"FrameBenchModel", "ended", "(I)I"⟩, 71) := ⟨⟨by decide +kernel, by decide +kernel⟩, List.mem_of_getElem? (i := 1063) (by decide +kernel), List.mem_of_getElem? (i := 1563) (by decide +kernel), List.mem_of_getElem? (i := 1564) (by decide +kernel)⟩
theorem lw_p109 : lw_okq (⟨"FrameBenchModel", "sayPart", "(J)V"⟩, 71) := ⟨⟨by decide +kernel, by decide +kernel⟩, List.mem_of_getElem? (i := 1063) (by decide +kernel), List.mem_of_getElem? (i := 1567) (by decide +kernel), List.mem_of_getElem? (i := 1568) (by decide +kernel)⟩
theorem lw_p110 : lw_okq (⟨"FrameBenchModel", "tellBehind", "(IIII)I"⟩, 71) := ⟨⟨by decide +kernel, by decide +kernel⟩, List.mem_of_getElem? (i := 1063) (by decide +kernel), List.mem_of_getElem? (i := 1574) (by decide +kernel), List.mem_of_getElem? (i := 1575) (by decide +kernel)⟩
theorem lw_p111 : lw_okq (⟨"FrameBenchModel", "tellObject", "(IIIIIZ)I"⟩, 71) := ⟨⟨by decide +kernel, by decide +kernel⟩, List.mem_of_getElem? (i := 1063) (by decide +kernel), List.mem_of_getElem? (i := 1578) (by decide +kernel), List.mem_of_getElem? (i := 1579) (by decide +kernel)⟩
def lw_privs_7 : List (MethodName × Nat) := [(⟨"FrameBenchModel", "append", "(II)I"⟩, 71), (⟨"FrameBenchModel", "heads", "(II)I"⟩, 71), (⟨"FrameBenchModel", "manyBehind", "(I)I"⟩, 71), (⟨"FrameBenchModel", "name", "(I)V"⟩, 71), (⟨"FrameBenchModel", "tell", "(Z)I"⟩, 71), (⟨"FrameBenchModel", "askOne", "()I"⟩, 71), (⟨"FrameBenchModel", "countXs", "()V"⟩, 71), (⟨"FrameBenchModel", "isXs", "(I)Z"⟩, 71), (⟨"FrameBenchModel", "takeLetters", "(J)V"⟩, 71), (⟨"FrameBenchModel", "tellFamily", "(III)I"⟩, 71), (⟨"FrameBenchModel", "say", "(I)V"⟩, 71), (⟨"FrameBenchModel", "sayVar", "(I)V"⟩, 71), (⟨"FrameBenchModel", "ended", "(I)I"⟩, 71), (⟨"FrameBenchModel", "sayPart", "(J)V"⟩, 71), (⟨"FrameBenchModel", "tellBehind", "(IIII)I"⟩, 71), (⟨"FrameBenchModel", "tellObject", "(IIIIIZ)I"⟩, 71)]
theorem lw_r7 : ∀ q ∈ lw_privs_7, lw_okq q := List.forall_mem_cons.mpr ⟨lw_p96, List.forall_mem_cons.mpr ⟨lw_p97, List.forall_mem_cons.mpr ⟨lw_p98, List.forall_mem_cons.mpr ⟨lw_p99, List.forall_mem_cons.mpr ⟨lw_p100, List.forall_mem_cons.mpr ⟨lw_p101, List.forall_mem_cons.mpr ⟨lw_p102, List.forall_mem_cons.mpr ⟨lw_p103, List.forall_mem_cons.mpr ⟨lw_p104, List.forall_mem_cons.mpr ⟨lw_p105, List.forall_mem_cons.mpr ⟨lw_p106, List.forall_mem_cons.mpr ⟨lw_p107, List.forall_mem_cons.mpr ⟨lw_p108, List.forall_mem_cons.mpr ⟨lw_p109, List.forall_mem_cons.mpr ⟨lw_p110, List.forall_mem_cons.mpr ⟨lw_p111, fun _ h => absurd h List.not_mem_nil⟩⟩⟩⟩⟩⟩⟩⟩⟩⟩⟩⟩⟩⟩⟩⟩
theorem lw_p112 : lw_okq (⟨"FrameBenchModel", "tellLambda", "(IIIZ)I"⟩, 71) := ⟨⟨by decide +kernel, by decide +kernel⟩, List.mem_of_getElem? (i := 1063) (by decide +kernel), List.mem_of_getElem? (i := 1582) (by decide +kernel), List.mem_of_getElem? (i := 1583) (by decide +kernel)⟩
theorem lw_p113 : lw_okq (⟨"FrameBenchModel", "tellHead", "(IIIZ)I"⟩, 71) := ⟨⟨by decide +kernel, by decide +kernel⟩, List.mem_of_getElem? (i := 1063) (by decide +kernel), List.mem_of_getElem? (i := 1586) (by decide +kernel), List.mem_of_getElem? (i := 1587) (by decide +kernel)⟩
def lw_privs_8 : List (MethodName × Nat) := [(⟨"FrameBenchModel", "tellLambda", "(IIIZ)I"⟩, 71), (⟨"FrameBenchModel", "tellHead", "(IIIZ)I"⟩, 71)]
theorem lw_r8 : ∀ q ∈ lw_privs_8, lw_okq q := List.forall_mem_cons.mpr ⟨lw_p112, List.forall_mem_cons.mpr ⟨lw_p113, fun _ h => absurd h List.not_mem_nil⟩⟩
def lw_privs : List (MethodName × Nat) := lw_privs_1 ++ (lw_privs_2 ++ (lw_privs_3 ++ (lw_privs_4 ++ (lw_privs_5 ++ (lw_privs_6 ++ (lw_privs_7 ++ (lw_privs_8)))))))
def lw_tbl : List Cond := k2_sels lw_privs ++ tables_1
theorem lw_privs_ok : ∀ q ∈ lw_privs, lw_okq q := by
  show ∀ q ∈ lw_privs_1 ++ (lw_privs_2 ++ (lw_privs_3 ++ (lw_privs_4 ++ (lw_privs_5 ++ (lw_privs_6 ++ (lw_privs_7 ++ (lw_privs_8))))))), lw_okq q
  exact List.forall_mem_append.mpr ⟨lw_r1, List.forall_mem_append.mpr ⟨lw_r2, List.forall_mem_append.mpr ⟨lw_r3, List.forall_mem_append.mpr ⟨lw_r4, List.forall_mem_append.mpr ⟨lw_r5, List.forall_mem_append.mpr ⟨lw_r6, List.forall_mem_append.mpr ⟨lw_r7, lw_r8⟩⟩⟩⟩⟩⟩⟩
end
section
/-! A small machine of my own: values, a state of numbers, one step of one instruction by continuation; its runs without a clock. -/
abbrev c_V : Type := Int32 ⊕ Int64 ⊕ Nat
abbrev c_S : Type := (Nat → Nat → Int32) × (Nat → Nat → Int64)
abbrev c_L : Type := List (Nat × c_V)
abbrev c_R : Type := Option (c_S × Int32)
abbrev c_C : Type := Nat → List c_V → c_S → c_R
abbrev c_K : Type := Nat → c_L → List c_V → c_S → c_R
abbrev c_E : Type := Instr × Nat × c_V × Nat × Nat × Nat × List (Int32 × Nat)
abbrev c_D : Type := (Nat × List Nat) ⊕ (FieldType × Nat)
abbrev v_i (x : Int32) : c_V := .inl x
abbrev v_l (x : Int64) : c_V := .inr (.inl x)
abbrev v_r (k : Nat) : c_V := .inr (.inr k)
def c_lk {α : Type} : List (Nat × α) → Nat → Option α
  | [], _ => none
  | (j, v) :: t, i => match Nat.beq j i with
    | true => some v
    | false => c_lk t i
def c_cat : c_V → Nat
  | .inr (.inl _) => 2
  | .inr (.inr _) => 1
  | .inl _ => 1
def c_ins (i : Nat) (v : c_V) : c_L → c_L
  | [] => [(i, v)]
  | (j, w) :: t => match Nat.ble i j with
    | true => (i, v) :: (j, w) :: t
    | false => (j, w) :: c_ins i v t
def c_fil (p : Nat → c_V → Bool) : c_L → c_L
  | [] => []
  | (j, w) :: t => match p j w with
    | true => (j, w) :: c_fil p t
    | false => c_fil p t
def c_st1 (i : Nat) (v : c_V) (l : c_L) : c_L := c_ins i v (c_fil (fun j w => !(Nat.beq j i) && !(Nat.beq (j + 1) i && Nat.beq (c_cat w) 2)) l)
def c_st2 (i : Nat) (v : c_V) (l : c_L) : c_L := c_ins i v (c_fil (fun j w => !(Nat.beq j i) && (!(Nat.beq j (i + 1)) && !(Nat.beq (j + 1) i && Nat.beq (c_cat w) 2))) l)
def c_has : List Nat → Nat → Bool
  | [], _ => false
  | j :: t, i => match Nat.beq j i with
    | true => true
    | false => c_has t i
def c_nr (L : List (Nat × List Nat)) (pc : Nat) (lv : c_L) : c_L := match c_lk L pc with
  | some ks => c_fil (fun j _ => c_has ks j) lv
  | none => lv
def c_stop (L : List (Nat × List Nat)) (pc : Nat) : Bool := match c_lk L pc with
  | some _ => true
  | none => false
def c_inb (i : Int32) (n : Nat) : Bool := decide (¬ (i < 0 ∨ n ≤ i.toNatClampNeg))
def c_bz (x : Int32) : Bool := x == 0 || x == 1
def c_put (σ : c_S) (k j : Nat) (x : Int32) : c_S := (fun a => match Nat.beq a k with
  | true => upd (σ.1 k) j x
  | false => σ.1 a, σ.2)
def c_putL (σ : c_S) (k j : Nat) (x : Int64) : c_S := (σ.1, fun a => match Nat.beq a k with
  | true => vp_updL (σ.2 k) j x
  | false => σ.2 a)
def c_pop : Nat → List c_V → List c_V → Option (List c_V × List c_V)
  | 0, acc, st => some (acc, st)
  | n + 1, acc, x :: st => c_pop n (x :: acc) st
  | _ + 1, _, [] => none
def c_sum : List c_V → Nat
  | [] => 0
  | x :: r => c_cat x + c_sum r
def c_bd (o : c_R) (f : c_S → Int32 → c_R) : c_R := match o with
  | some (σ, x) => f σ x
  | none => none
def c_sw (x : Int32) (d : Nat) (f : Nat → c_R) : List (Int32 × Nat) → c_R
  | [] => f d
  | (k, t) :: r => if x = k then f t else c_sw x d f r
def c_nth {α : Type} : List α → Nat → Option α
  | [], _ => none
  | x :: _, 0 => some x
  | _ :: t, n + 1 => c_nth t n
def c_at (l : c_L) (i : Nat) (f : c_V → c_R) : c_R := match c_lk l i with
  | some v => f v
  | none => none
def c_isI (v : c_V) (f : Int32 → c_R) : c_R := match v with
  | .inl x => f x
  | .inr _ => none
def c_isL (v : c_V) (f : Int64 → c_R) : c_R := match v with
  | .inr (.inl x) => f x
  | .inr (.inr _) => none
  | .inl _ => none
def c_isR (v : c_V) (f : Nat → c_R) : c_R := match v with
  | .inr (.inr x) => f x
  | .inr (.inl _) => none
  | .inl _ => none
def c_p1 (st : List c_V) (f : c_V → List c_V → c_R) : c_R := match st with
  | x :: r => f x r
  | [] => none
def c_obj (CT : List c_D) (k u : Nat) (f : List Nat → c_R) : c_R := match c_nth CT k with
  | some (.inl (ci, sl)) => (match Nat.beq ci u with
    | true => f sl
    | false => none)
  | some (.inr _) => none
  | none => none
def c_arr (CT : List c_D) (k : Nat) (f : FieldType → Nat → c_R) : c_R := match c_nth CT k with
  | some (.inr (ty, n)) => f ty n
  | some (.inl _) => none
  | none => none
def c_rg (i : Int32) (n : Nat) (f : c_R) : c_R := if c_inb i n = true then f else none
def c_call (CT : List c_D) (vir : Bool) (C : c_C) (ax : c_V) (t u w : Nat) (st : List c_V) (σ : c_S) (f : List c_V → c_S → c_R) : c_R :=
  c_isR ax fun n => match c_pop n [] st with
    | none => none
    | some (as, r) => match Nat.ble (c_sum r) 8 with
      | false => none
      | true =>
        let go : c_R := (match u with
          | 0 => c_bd (C t as σ) fun σ' _ => f r σ'
          | _ + 1 => c_bd (C t as σ) fun σ' x => f (.inl x :: r) σ')
        match vir with
        | false => go
        | true => c_p1 as fun a _ => c_isR a fun k => c_obj CT k w fun _ => go
def c_s1 (CT : List c_D) (e : c_E) (rb : Nat) (C : c_C) (lv : c_L) (st : List c_V) (σ : c_S) (K : c_K) : c_R :=
  match e with
  | (ins, nx, ax, t, u, w, sw) =>
  match ins with
  | .aload_n i => c_at lv i.val fun v => c_isR v fun k => K nx lv (.inr (.inr k) :: st) σ
  | .aload i => c_at lv i fun v => c_isR v fun k => K nx lv (.inr (.inr k) :: st) σ
  | .iload_n i => c_at lv i.val fun v => c_isI v fun x => K nx lv (.inl x :: st) σ
  | .iload i => c_at lv i fun v => c_isI v fun x => K nx lv (.inl x :: st) σ
  | .lload_n i => c_at lv i.val fun v => c_isL v fun x => K nx lv (.inr (.inl x) :: st) σ
  | .lload i => c_at lv i fun v => c_isL v fun x => K nx lv (.inr (.inl x) :: st) σ
  | .istore_n i => c_p1 st fun v r => c_isI v fun x => K nx (c_st1 i.val (.inl x) lv) r σ
  | .istore i => c_p1 st fun v r => c_isI v fun x => K nx (c_st1 i (.inl x) lv) r σ
  | .lstore_n i => c_p1 st fun v r => c_isL v fun x => K nx (c_st2 i.val (.inr (.inl x)) lv) r σ
  | .lstore i => c_p1 st fun v r => c_isL v fun x => K nx (c_st2 i (.inr (.inl x)) lv) r σ
  | .iinc i _ => c_at lv i fun v => c_isI v fun x => c_isI ax fun y => K nx (c_st1 i (.inl (x + y)) lv) st σ
  | .iconst _ => c_isI ax fun x => K nx lv (.inl x :: st) σ
  | .bipush _ => c_isI ax fun x => K nx lv (.inl x :: st) σ
  | .sipush _ => c_isI ax fun x => K nx lv (.inl x :: st) σ
  | .ldc _ => c_isI ax fun x => K nx lv (.inl x :: st) σ
  | .lconst _ => c_isL ax fun x => K nx lv (.inr (.inl x) :: st) σ
  | .ldc2_w _ => c_isL ax fun x => K nx lv (.inr (.inl x) :: st) σ
  | .iadd => c_p1 st fun v r => c_isI v fun y => c_p1 r fun v r => c_isI v fun x => K nx lv (.inl (x + y) :: r) σ
  | .isub => c_p1 st fun v r => c_isI v fun y => c_p1 r fun v r => c_isI v fun x => K nx lv (.inl (x - y) :: r) σ
  | .imul => c_p1 st fun v r => c_isI v fun y => c_p1 r fun v r => c_isI v fun x => K nx lv (.inl (x * y) :: r) σ
  | .iand => c_p1 st fun v r => c_isI v fun y => c_p1 r fun v r => c_isI v fun x => K nx lv (.inl (x &&& y) :: r) σ
  | .idiv => c_p1 st fun v r => c_isI v fun y => c_p1 r fun v r => c_isI v fun x => if y = 0 then none else K nx lv (.inl (x / y) :: r) σ
  | .irem => c_p1 st fun v r => c_isI v fun y => c_p1 r fun v r => c_isI v fun x => if y = 0 then none else K nx lv (.inl (x - x / y * y) :: r) σ
  | .ineg => c_p1 st fun v r => c_isI v fun x => K nx lv (.inl (-x) :: r) σ
  | .ladd => c_p1 st fun v r => c_isL v fun y => c_p1 r fun v r => c_isL v fun x => K nx lv (.inr (.inl (x + y)) :: r) σ
  | .lmul => c_p1 st fun v r => c_isL v fun y => c_p1 r fun v r => c_isL v fun x => K nx lv (.inr (.inl (x * y)) :: r) σ
  | .land => c_p1 st fun v r => c_isL v fun y => c_p1 r fun v r => c_isL v fun x => K nx lv (.inr (.inl (x &&& y)) :: r) σ
  | .lor => c_p1 st fun v r => c_isL v fun y => c_p1 r fun v r => c_isL v fun x => K nx lv (.inr (.inl (x ||| y)) :: r) σ
  | .ldiv => c_p1 st fun v r => c_isL v fun y => c_p1 r fun v r => c_isL v fun x => if y = 0 then none else K nx lv (.inr (.inl (x / y)) :: r) σ
  | .lrem => c_p1 st fun v r => c_isL v fun y => c_p1 r fun v r => c_isL v fun x => if y = 0 then none else K nx lv (.inr (.inl (x - x / y * y)) :: r) σ
  | .lshl => c_p1 st fun v r => c_isI v fun y => c_p1 r fun v r => c_isL v fun x => K nx lv (.inr (.inl (x <<< (y.toInt64 &&& 63))) :: r) σ
  | .lshr => c_p1 st fun v r => c_isI v fun y => c_p1 r fun v r => c_isL v fun x => K nx lv (.inr (.inl (x >>> (y.toInt64 &&& 63))) :: r) σ
  | .lushr => c_p1 st fun v r => c_isI v fun y => c_p1 r fun v r => c_isL v fun x => K nx lv (.inr (.inl (x.toUInt64 >>> (y.toInt64.toUInt64 &&& Int64.toUInt64 63)).toInt64) :: r) σ
  | .lcmp => c_p1 st fun v r => c_isL v fun y => c_p1 r fun v r => c_isL v fun x => K nx lv (.inl (lg_cmp x y) :: r) σ
  | .i2l => c_p1 st fun v r => c_isI v fun x => K nx lv (.inr (.inl x.toInt64) :: r) σ
  | .l2i => c_p1 st fun v r => c_isL v fun x => K nx lv (.inl x.toInt32 :: r) σ
  | .i2c => c_p1 st fun v r => c_isI v fun x => K nx lv (.inl (x.toUInt32 % 65536).toInt32 :: r) σ
  | .dup => c_p1 st fun v r => (match v with
    | .inl x => K nx lv (.inl x :: .inl x :: r) σ
    | .inr (.inr x) => K nx lv (.inr (.inr x) :: .inr (.inr x) :: r) σ
    | .inr (.inl _) => none)
  | .pop => c_p1 st fun v r => c_isI v fun _ => K nx lv r σ
  | .goto _ => K t lv st σ
  | .if_icmp cd _ => c_p1 st fun v r => c_isI v fun y => c_p1 r fun v r => c_isI v fun x => (match cd with
    | .eq => if x = y then K t lv r σ else K nx lv r σ
    | .ne => if x = y then K nx lv r σ else K t lv r σ
    | .lt => if x < y then K t lv r σ else K nx lv r σ
    | .ge => if x < y then K nx lv r σ else K t lv r σ
    | .gt => if y < x then K t lv r σ else K nx lv r σ
    | .le => if y < x then K nx lv r σ else K t lv r σ)
  | .ifCond cd _ => c_p1 st fun v r => c_isI v fun x => (match cd with
    | .eq => if x = 0 then K t lv r σ else K nx lv r σ
    | .ne => if x = 0 then K nx lv r σ else K t lv r σ
    | .lt => if x < 0 then K t lv r σ else K nx lv r σ
    | .ge => if x < 0 then K nx lv r σ else K t lv r σ
    | .gt => if 0 < x then K t lv r σ else K nx lv r σ
    | .le => if 0 < x then K nx lv r σ else K t lv r σ)
  | .tableswitch _ _ _ _ => c_p1 st fun v r => c_isI v fun x => c_sw x t (fun p => K p lv r σ) sw
  | .lookupswitch _ _ => c_p1 st fun v r => c_isI v fun x => c_sw x t (fun p => K p lv r σ) sw
  | .getfield _ => c_p1 st fun v r => c_isR v fun k => c_obj CT k u fun sl => (match c_nth sl t with
    | some (n + 2) => K nx lv (.inr (.inr n) :: r) σ
    | some _ => K nx lv (.inl (σ.1 k t) :: r) σ
    | none => none)
  | .putfield _ => c_p1 st fun v r => c_isI v fun x => c_p1 r fun v r => c_isR v fun k => c_obj CT k u fun sl => (match c_nth sl t with
    | some 0 => K nx lv r (c_put σ k t x)
    | some 1 => if c_bz x = true then K nx lv r (c_put σ k t x) else none
    | some (_ + 2) => none
    | none => none)
  | .iaload => c_p1 st fun v r => c_isI v fun i => c_p1 r fun v r => c_isR v fun k => c_arr CT k fun ty n => (match ty with
    | .int => c_rg i n (K nx lv (.inl (σ.1 k i.toNatClampNeg) :: r) σ)
    | _ => none)
  | .caload => c_p1 st fun v r => c_isI v fun i => c_p1 r fun v r => c_isR v fun k => c_arr CT k fun ty n => (match ty with
    | .char => c_rg i n (K nx lv (.inl (σ.1 k i.toNatClampNeg) :: r) σ)
    | _ => none)
  | .baload => c_p1 st fun v r => c_isI v fun i => c_p1 r fun v r => c_isR v fun k => c_arr CT k fun ty n => (match ty with
    | .boolean => c_rg i n (K nx lv (.inl (σ.1 k i.toNatClampNeg) :: r) σ)
    | _ => none)
  | .laload => c_p1 st fun v r => c_isI v fun i => c_p1 r fun v r => c_isR v fun k => c_arr CT k fun ty n => (match ty with
    | .long => c_rg i n (K nx lv (.inr (.inl (σ.2 k i.toNatClampNeg)) :: r) σ)
    | _ => none)
  | .iastore => c_p1 st fun v r => c_isI v fun x => c_p1 r fun v r => c_isI v fun i => c_p1 r fun v r => c_isR v fun k => c_arr CT k fun ty n => (match ty with
    | .int => c_rg i n (K nx lv r (c_put σ k i.toNatClampNeg x))
    | _ => none)
  | .castore => c_p1 st fun v r => c_isI v fun x => c_p1 r fun v r => c_isI v fun i => c_p1 r fun v r => c_isR v fun k => c_arr CT k fun ty n => (match ty with
    | .char => c_rg i n (K nx lv r (c_put σ k i.toNatClampNeg (vp_nar .char x)))
    | _ => none)
  | .bastore => c_p1 st fun v r => c_isI v fun x => c_p1 r fun v r => c_isI v fun i => c_p1 r fun v r => c_isR v fun k => c_arr CT k fun ty n => (match ty with
    | .boolean => c_rg i n (K nx lv r (c_put σ k i.toNatClampNeg (vp_nar .boolean x)))
    | _ => none)
  | .lastore => c_p1 st fun v r => c_isL v fun x => c_p1 r fun v r => c_isI v fun i => c_p1 r fun v r => c_isR v fun k => c_arr CT k fun ty n => (match ty with
    | .long => c_rg i n (K nx lv r (c_putL σ k i.toNatClampNeg x))
    | _ => none)
  | .arraylength => c_p1 st fun v r => c_isR v fun k => c_arr CT k fun _ n => K nx lv (.inl (Int32.ofNat n) :: r) σ
  | .invokevirtual _ => c_call CT true C ax t u w st σ fun st' σ' => K nx lv st' σ'
  | .invokestatic _ => (match w with
    | 0 => c_call CT false C ax t u w st σ fun st' σ' => K nx lv st' σ'
    | _ + 1 => c_p1 st fun v r => c_isI v fun y => c_p1 r fun v r => c_isI v fun x => (match Nat.ble (c_sum r) 8 with
      | true => K nx lv (.inl (if y < x then y else x) :: r) σ
      | false => none))
  | .ireturn => c_p1 st fun v r => c_isI v fun x => (match r with
    | [] => (match rb with
      | 1 => some (σ, x)
      | 2 => if c_bz x = true then some (σ, x) else none
      | _ => none)
    | _ :: _ => none)
  | .return_ => (match st with
    | [] => (match rb with
      | 0 => some (σ, 0)
      | _ => none)
    | _ :: _ => none)
  | _ => none
/-- runs of at most n instructions -/
def c_go (CT : List c_D) (T : List (Nat × c_E)) (L : List (Nat × List Nat)) (rb : Nat) (C : c_C) : Nat → c_K
  | 0, _, _, _, _ => none
  | n + 1, pc, lv, st, σ => match c_lk T pc with
    | none => none
    | some e => c_s1 CT e rb C lv st σ (fun pc' lv' st' σ' => c_go CT T L rb C n pc' (c_nr L pc' lv') st' σ')
end
section
/-! one step either stops, or answers, or goes on at one place: so runs have a limit -/
def c_ct (F : c_K → c_R) : Prop := (∀ K, F K = none) ∨ (∃ x, ∀ K, F K = some x) ∨ ∃ pc lv st σ, ∀ K, F K = K pc lv st σ
theorem ct_n : c_ct (fun _ => none) := Or.inl fun _ => rfl
theorem ct_s (x : c_S × Int32) : c_ct (fun _ => some x) := Or.inr (Or.inl ⟨x, fun _ => rfl⟩)
theorem ct_K (pc : Nat) (lv : c_L) (st : List c_V) (σ : c_S) : c_ct (fun K => K pc lv st σ) := Or.inr (Or.inr ⟨pc, lv, st, σ, fun _ => rfl⟩)
theorem ct_if {c : Prop} [Decidable c] {F G : c_K → c_R} (h1 : c_ct F) (h2 : c_ct G) : c_ct (fun K => if c then F K else G K) := by
  by_cases h : c
  · simpa only [h, if_true] using h1
  · simpa only [h, if_false] using h2
theorem ct_at {l : c_L} {i : Nat} {F : c_V → c_K → c_R} (h : ∀ v, c_ct (F v)) : c_ct (fun K => c_at l i (fun v => F v K)) := by
  unfold c_at
  cases c_lk l i with
  | none => exact ct_n
  | some v => exact h v
theorem ct_isI {v : c_V} {F : Int32 → c_K → c_R} (h : ∀ v, c_ct (F v)) : c_ct (fun K => c_isI v (fun v => F v K)) := by
  rcases v with v | v
  · exact h v
  · exact ct_n
theorem ct_isL {v : c_V} {F : Int64 → c_K → c_R} (h : ∀ v, c_ct (F v)) : c_ct (fun K => c_isL v (fun v => F v K)) := by
  rcases v with v | v | v
  · exact ct_n
  · exact h v
  · exact ct_n
theorem ct_isR {v : c_V} {F : Nat → c_K → c_R} (h : ∀ v, c_ct (F v)) : c_ct (fun K => c_isR v (fun v => F v K)) := by
  rcases v with v | v | v
  · exact ct_n
  · exact ct_n
  · exact h v
theorem ct_p1 {st : List c_V} {F : c_V → List c_V → c_K → c_R} (h : ∀ v r, c_ct (F v r)) : c_ct (fun K => c_p1 st (fun v r => F v r K)) := by
  cases st with
  | nil => exact ct_n
  | cons v r => exact h v r
theorem ct_obj {CT : List c_D} {k u : Nat} {F : List Nat → c_K → c_R} (h : ∀ v, c_ct (F v)) : c_ct (fun K => c_obj CT k u (fun v => F v K)) := by
  unfold c_obj
  rcases c_nth CT k with _ | ⟨⟨ci, sl⟩⟩ | _
  · exact ct_n
  · cases hb : Nat.beq ci u
    · simp only [hb]; exact ct_n
    · simp only [hb]; exact h sl
  · exact ct_n
theorem ct_arr {CT : List c_D} {k : Nat} {F : FieldType → Nat → c_K → c_R} (h : ∀ v n, c_ct (F v n)) : c_ct (fun K => c_arr CT k (fun v n => F v n K)) := by
  unfold c_arr
  rcases c_nth CT k with _ | _ | ⟨ty, n⟩
  · exact ct_n
  · exact ct_n
  · exact h ty n
theorem ct_rg {i : Int32} {n : Nat} {F : c_K → c_R} (h : c_ct F) : c_ct (fun K => c_rg i n (F K)) := by
  unfold c_rg
  exact ct_if h ct_n
theorem ct_bd {o : c_R} {F : c_S → Int32 → c_K → c_R} (h : ∀ σ x, c_ct (F σ x)) : c_ct (fun K => c_bd o (fun σ x => F σ x K)) := by
  unfold c_bd
  rcases o with _ | ⟨σ, x⟩
  · exact ct_n
  · exact h σ x
theorem ct_sw {x : Int32} {d : Nat} {F : Nat → c_K → c_R} (h : ∀ p, c_ct (F p)) (sw : List (Int32 × Nat)) : c_ct (fun K => c_sw x d (fun p => F p K) sw) := by
  induction sw with
  | nil => exact h d
  | cons q r ih =>
    obtain ⟨k, t⟩ := q
    simp only [c_sw]
    exact ct_if (h t) ih
theorem ct_call {CT : List c_D} {vir : Bool} {C : c_C} {ax : c_V} {t u w : Nat} {st : List c_V} {σ : c_S} {F : List c_V → c_S → c_K → c_R} (h : ∀ r s, c_ct (F r s)) : c_ct (fun K => c_call CT vir C ax t u w st σ (fun r s => F r s K)) := by
  unfold c_call
  refine ct_isR fun n => ?_
  rcases c_pop n [] st with _ | ⟨as, r⟩
  · exact ct_n
  · have hg : c_ct (fun K => (match u with
          | 0 => c_bd (C t as σ) fun σ' _ => F r σ' K
          | _ + 1 => c_bd (C t as σ) fun σ' x => F (.inl x :: r) σ' K)) := by
      cases u with
      | zero => exact ct_bd fun σ x => h _ _
      | succ u => exact ct_bd fun σ x => h _ _
    cases hb : Nat.ble (c_sum r) 8
    · simp only [hb]; exact ct_n
    · simp only [hb]
      cases vir with
      | false => exact hg
      | true => exact ct_p1 fun a _ => ct_isR fun k => ct_obj fun _ => hg
set_option maxHeartbeats 4000000 in
theorem ct_s1 (CT : List c_D) (e : c_E) (rb : Nat) (C : c_C) (lv : c_L) (st : List c_V) (σ : c_S) : c_ct (c_s1 CT e rb C lv st σ) := by
  obtain ⟨ins, nx, ax, t, u, w, sw⟩ := e
  show c_ct (fun K => c_s1 CT (ins, nx, ax, t, u, w, sw) rb C lv st σ K)
  unfold c_s1
  cases ins <;> dsimp only <;> first
    | exact ct_n
    | exact ct_K _ _ _ _
    | exact ct_at fun v => ct_isR fun k => ct_K _ _ _ _
    | exact ct_at fun v => ct_isI fun k => ct_K _ _ _ _
    | exact ct_at fun v => ct_isL fun k => ct_K _ _ _ _
    | exact ct_p1 fun v r => ct_isI fun x => ct_K _ _ _ _
    | exact ct_p1 fun v r => ct_isL fun x => ct_K _ _ _ _
    | exact ct_at fun v => ct_isI fun x => ct_isI fun y => ct_K _ _ _ _
    | exact ct_isI fun x => ct_K _ _ _ _
    | exact ct_isL fun x => ct_K _ _ _ _
    | exact ct_p1 fun v r => ct_isI fun x => ct_p1 fun v r => ct_isI fun y => ct_K _ _ _ _
    | exact ct_p1 fun v r => ct_isI fun x => ct_p1 fun v r => ct_isI fun y => ct_if ct_n (ct_K _ _ _ _)
    | exact ct_p1 fun v r => ct_isL fun x => ct_p1 fun v r => ct_isL fun y => ct_K _ _ _ _
    | exact ct_p1 fun v r => ct_isL fun x => ct_p1 fun v r => ct_isL fun y => ct_if ct_n (ct_K _ _ _ _)
    | exact ct_p1 fun v r => ct_isI fun x => ct_p1 fun v r => ct_isL fun y => ct_K _ _ _ _
    | exact ct_p1 fun v r => ct_isI fun x => ct_sw (fun p => ct_K _ _ _ _) _
    | exact ct_call fun r s => ct_K _ _ _ _
    | exact ct_p1 fun v r => ct_isR fun k => ct_arr fun ty n => ct_K _ _ _ _
    | (refine ct_p1 fun v r => ?_
       rcases v with v | v | v
       · exact ct_K _ _ _ _
       · exact ct_n
       · exact ct_K _ _ _ _)
    | (rename_i cd off
       cases cd <;> first
         | exact ct_p1 fun v r => ct_isI fun x => ct_p1 fun v r => ct_isI fun y => ct_if (ct_K _ _ _ _) (ct_K _ _ _ _)
         | exact ct_p1 fun v r => ct_isI fun x => ct_if (ct_K _ _ _ _) (ct_K _ _ _ _))
    | (refine ct_p1 fun v r => ct_isI fun i => ct_p1 fun v r => ct_isR fun k => ct_arr fun ty n => ?_
       cases ty <;> first | exact ct_n | exact ct_rg (ct_K _ _ _ _))
    | (refine ct_p1 fun v r => ct_isI fun x => ct_p1 fun v r => ct_isI fun i => ct_p1 fun v r => ct_isR fun k => ct_arr fun ty n => ?_
       cases ty <;> first | exact ct_n | exact ct_rg (ct_K _ _ _ _))
    | (refine ct_p1 fun v r => ct_isL fun x => ct_p1 fun v r => ct_isI fun i => ct_p1 fun v r => ct_isR fun k => ct_arr fun ty n => ?_
       cases ty <;> first | exact ct_n | exact ct_rg (ct_K _ _ _ _))
    | (refine ct_p1 fun v r => ct_isR fun k => ct_obj fun sl => ?_
       rcases c_nth sl t with _ | _ | _ | n
       · exact ct_n
       · exact ct_K _ _ _ _
       · exact ct_K _ _ _ _
       · exact ct_K _ _ _ _)
    | (refine ct_p1 fun v r => ct_isI fun x => ct_p1 fun v r => ct_isR fun k => ct_obj fun sl => ?_
       rcases c_nth sl t with _ | _ | _ | n
       · exact ct_n
       · exact ct_K _ _ _ _
       · exact ct_if (ct_K _ _ _ _) ct_n
       · exact ct_n)
    | (cases w with
       | zero => exact ct_call fun r s => ct_K _ _ _ _
       | succ w =>
         refine ct_p1 fun v r => ct_isI fun x => ct_p1 fun v r => ct_isI fun y => ?_
         cases hb : Nat.ble (c_sum r) 8
         · simp only [hb]; exact ct_n
         · simp only [hb]; exact ct_K _ _ _ _)
    | (refine ct_p1 fun v r => ct_isI fun x => ?_
       rcases r with _ | _
       · rcases rb with _ | _ | _ | _
         · exact ct_n
         · exact ct_s _
         · exact ct_if (ct_s _) ct_n
         · exact ct_n
       · exact ct_n)
    | (rcases st with _ | _
       · rcases rb with _ | _
         · exact ct_s _
         · exact ct_n
       · exact ct_n)
theorem c_go_succ {CT : List c_D} {T : List (Nat × c_E)} {L : List (Nat × List Nat)} {rb : Nat} {C : c_C} : ∀ (n pc : Nat) (lv : c_L) (st : List c_V) (σ : c_S) (x : c_S × Int32), c_go CT T L rb C n pc lv st σ = some x → c_go CT T L rb C (n + 1) pc lv st σ = some x
  | 0, _, _, _, _, _, h => by simp [c_go] at h
  | n + 1, pc, lv, st, σ, x, h => by
    rw [c_go] at h ⊢
    cases he : c_lk T pc with
    | none => simp [he] at h
    | some e =>
      simp only [he] at h ⊢
      rcases ct_s1 CT e rb C lv st σ with h1 | ⟨y, h1⟩ | ⟨pc1, lv1, st1, σ1, h1⟩
      · rw [h1] at h; cases h
      · rw [h1] at h ⊢; exact h
      · rw [h1] at h ⊢; exact c_go_succ n _ _ _ _ _ h
theorem c_go_mono {CT : List c_D} {T : List (Nat × c_E)} {L : List (Nat × List Nat)} {rb : Nat} {C : c_C} {n k pc : Nat} {lv : c_L} {st : List c_V} {σ : c_S} {x : c_S × Int32} (hk : n ≤ k) (h : c_go CT T L rb C n pc lv st σ = some x) : c_go CT T L rb C k pc lv st σ = some x := by
  obtain ⟨j, rfl⟩ := Nat.exists_eq_add_of_le hk
  induction j with
  | zero => exact h
  | succ j ih => exact c_go_succ _ _ _ _ _ _ (ih (Nat.le_add_right _ _))
/-- the run to its end, however long -/
noncomputable def c_run (CT : List c_D) (T : List (Nat × c_E)) (L : List (Nat × List Nat)) (rb : Nat) (C : c_C) : c_K := fun pc lv st σ =>
  @dite c_R (∃ x, ∃ n, c_go CT T L rb C n pc lv st σ = some x) (Classical.propDecidable _) (fun h => some (Classical.choose h)) (fun _ => none)
theorem c_run_iff {CT : List c_D} {T : List (Nat × c_E)} {L : List (Nat × List Nat)} {rb : Nat} {C : c_C} {pc : Nat} {lv : c_L} {st : List c_V} {σ : c_S} {x : c_S × Int32} : c_run CT T L rb C pc lv st σ = some x ↔ ∃ n, c_go CT T L rb C n pc lv st σ = some x := by
  unfold c_run
  constructor
  · intro h
    split at h
    · rename_i hx
      have := Classical.choose_spec hx
      rw [Option.some.inj h] at this
      exact this
    · cases h
  · intro h
    have hx : ∃ x, ∃ n, c_go CT T L rb C n pc lv st σ = some x := ⟨x, h⟩
    rw [dif_pos hx]
    obtain ⟨n, hn⟩ := h
    obtain ⟨k, hk⟩ := Classical.choose_spec hx
    have h1 := c_go_mono (Nat.le_max_left n k) hn
    have h2 := c_go_mono (Nat.le_max_right n k) hk
    rw [h1] at h2
    exact h2.symm
theorem c_run_eq (CT : List c_D) (T : List (Nat × c_E)) (L : List (Nat × List Nat)) (rb : Nat) (C : c_C) (pc : Nat) (lv : c_L) (st : List c_V) (σ : c_S) :
    c_run CT T L rb C pc lv st σ = (match c_lk T pc with
      | none => none
      | some e => c_s1 CT e rb C lv st σ (fun pc' lv' st' σ' => c_run CT T L rb C pc' (c_nr L pc' lv') st' σ')) := by
  apply Option.ext
  intro x
  rw [c_run_iff]
  cases he : c_lk T pc with
  | none =>
    constructor
    · rintro ⟨n, hn⟩
      cases n with
      | zero => simp [c_go] at hn
      | succ n => simp [c_go, he] at hn
    · intro h; cases h
  | some e =>
    dsimp only
    rcases ct_s1 CT e rb C lv st σ with h1 | ⟨y, h1⟩ | ⟨pc1, lv1, st1, σ1, h1⟩
    · rw [h1]
      constructor
      · rintro ⟨n, hn⟩
        cases n with
        | zero => simp [c_go] at hn
        | succ n => simp [c_go, he, h1] at hn
      · intro h; cases h
    · rw [h1]
      constructor
      · rintro ⟨n, hn⟩
        cases n with
        | zero => simp [c_go] at hn
        | succ n => simpa [c_go, he, h1] using hn
      · intro h; exact ⟨1, by simpa [c_go, he, h1] using h⟩
    · rw [h1, c_run_iff]
      constructor
      · rintro ⟨n, hn⟩
        cases n with
        | zero => simp [c_go] at hn
        | succ n => exact ⟨n, by simpa [c_go, he, h1] using hn⟩
      · rintro ⟨n, hn⟩; exact ⟨n + 1, by simpa [c_go, he, h1] using hn⟩
/-- up to the next head of a block -/
noncomputable def c_blk (CT : List c_D) (T : List (Nat × c_E)) (L : List (Nat × List Nat)) (rb : Nat) (C : c_C) : Nat → c_K
  | 0, pc, lv, st, σ => c_run CT T L rb C pc lv st σ
  | n + 1, pc, lv, st, σ => match c_lk T pc with
    | none => none
    | some e => c_s1 CT e rb C lv st σ (fun pc' lv' st' σ' => match c_stop L pc' with
      | true => c_run CT T L rb C pc' (c_nr L pc' lv') st' σ'
      | false => c_blk CT T L rb C n pc' lv' st' σ')
theorem c_blk_eq (CT : List c_D) (T : List (Nat × c_E)) (L : List (Nat × List Nat)) (rb : Nat) (C : c_C) : ∀ (n pc : Nat) (lv : c_L) (st : List c_V) (σ : c_S), c_run CT T L rb C pc lv st σ = c_blk CT T L rb C n pc lv st σ
  | 0, _, _, _, _ => rfl
  | n + 1, pc, lv, st, σ => by
    rw [c_run_eq, c_blk]
    cases c_lk T pc with
    | none => rfl
    | some e =>
      dsimp only
      congr 1
      funext pc' lv' st' σ'
      cases hb : c_lk L pc' with
      | none => simp only [c_stop, c_nr, hb]; exact c_blk_eq CT T L rb C n pc' lv' st' σ'
      | some ks => simp only [c_stop, hb]
end
section
theorem i_vc : Claimed_1_1 ∧ Claimed_1_2 := sorry
end
