section
-- ===== PART A: goes FIRST, ahead of the names: the tables' words, and 'selects' of the private methods out of them =====
/-- a private method of a class that the tables say can be made, by its rows of tables_1 -/
def lw_okq (q : MethodName × Nat) : Prop := (q.1.cls ≠ "java/lang/invoke/MethodHandle" ∧ q.1.cls ≠ "java/lang/invoke/VarHandle") ∧ Cond.instantiable q.1.cls q.2 ∈ tables_1 ∧ Cond.privateMethod q.1 ∈ tables_1 ∧ Cond.instanceMethod q.1 ∈ tables_1
theorem lw_p0 : lw_okq (⟨"FrameBench", "begin", "()V"⟩, 10) := ⟨⟨by decide +kernel, by decide +kernel⟩, List.mem_of_getElem? (i := 16) (by decide +kernel), List.mem_of_getElem? (i := 389) (by decide +kernel), List.mem_of_getElem? (i := 390) (by decide +kernel)⟩
theorem lw_p1 : lw_okq (⟨"FrameBench$Tape", "readWord", "()V"⟩, 5) := ⟨⟨by decide +kernel, by decide +kernel⟩, List.mem_of_getElem? (i := 24) (by decide +kernel), List.mem_of_getElem? (i := 423) (by decide +kernel), List.mem_of_getElem? (i := 424) (by decide +kernel)⟩
theorem lw_p2 : lw_okq (⟨"FrameBench$Reader", "readNewName", "()V"⟩, 12) := ⟨⟨by decide +kernel, by decide +kernel⟩, List.mem_of_getElem? (i := 174) (by decide +kernel), List.mem_of_getElem? (i := 445) (by decide +kernel), List.mem_of_getElem? (i := 446) (by decide +kernel)⟩
theorem lw_p3 : lw_okq (⟨"FrameBench$Reader", "refuse", "(I)I"⟩, 12) := ⟨⟨by decide +kernel, by decide +kernel⟩, List.mem_of_getElem? (i := 174) (by decide +kernel), List.mem_of_getElem? (i := 461) (by decide +kernel), List.mem_of_getElem? (i := 462) (by decide +kernel)⟩
theorem lw_p4 : lw_okq (⟨"FrameBench$Constants", "isNamed", "(ILFrameBench$Tape;I)Z"⟩, 8) := ⟨⟨by decide +kernel, by decide +kernel⟩, List.mem_of_getElem? (i := 79) (by decide +kernel), List.mem_of_getElem? (i := 476) (by decide +kernel), List.mem_of_getElem? (i := 477) (by decide +kernel)⟩
theorem lw_p5 : lw_okq (⟨"FrameBench$Reader", "take", "(I)V"⟩, 12) := ⟨⟨by decide +kernel, by decide +kernel⟩, List.mem_of_getElem? (i := 174) (by decide +kernel), List.mem_of_getElem? (i := 490) (by decide +kernel), List.mem_of_getElem? (i := 491) (by decide +kernel)⟩
theorem lw_p6 : lw_okq (⟨"FrameBench$Reader", "wholeExpression", "()I"⟩, 12) := ⟨⟨by decide +kernel, by decide +kernel⟩, List.mem_of_getElem? (i := 174) (by decide +kernel), List.mem_of_getElem? (i := 494) (by decide +kernel), List.mem_of_getElem? (i := 495) (by decide +kernel)⟩
theorem lw_p7 : lw_okq (⟨"FrameBench$Reader", "expression", "(I)I"⟩, 12) := ⟨⟨by decide +kernel, by decide +kernel⟩, List.mem_of_getElem? (i := 174) (by decide +kernel), List.mem_of_getElem? (i := 498) (by decide +kernel), List.mem_of_getElem? (i := 499) (by decide +kernel)⟩
theorem lw_p8 : lw_okq (⟨"FrameBench$Reader", "startsPart", "()Z"⟩, 12) := ⟨⟨by decide +kernel, by decide +kernel⟩, List.mem_of_getElem? (i := 174) (by decide +kernel), List.mem_of_getElem? (i := 502) (by decide +kernel), List.mem_of_getElem? (i := 503) (by decide +kernel)⟩
theorem lw_p9 : lw_okq (⟨"FrameBench$Reader", "binding", "(I)I"⟩, 12) := ⟨⟨by decide +kernel, by decide +kernel⟩, List.mem_of_getElem? (i := 174) (by decide +kernel), List.mem_of_getElem? (i := 506) (by decide +kernel), List.mem_of_getElem? (i := 507) (by decide +kernel)⟩
theorem lw_p10 : lw_okq (⟨"FrameBench$Reader", "countPart", "()Z"⟩, 12) := ⟨⟨by decide +kernel, by decide +kernel⟩, List.mem_of_getElem? (i := 174) (by decide +kernel), List.mem_of_getElem? (i := 510) (by decide +kernel), List.mem_of_getElem? (i := 511) (by decide +kernel)⟩
theorem lw_p11 : lw_okq (⟨"FrameBench$Reader", "enterScope", "(II)V"⟩, 12) := ⟨⟨by decide +kernel, by decide +kernel⟩, List.mem_of_getElem? (i := 174) (by decide +kernel), List.mem_of_getElem? (i := 514) (by decide +kernel), List.mem_of_getElem? (i := 515) (by decide +kernel)⟩
theorem lw_p12 : lw_okq (⟨"FrameBench$Reader", "leaveScope", "()V"⟩, 12) := ⟨⟨by decide +kernel, by decide +kernel⟩, List.mem_of_getElem? (i := 174) (by decide +kernel), List.mem_of_getElem? (i := 518) (by decide +kernel), List.mem_of_getElem? (i := 519) (by decide +kernel)⟩
theorem lw_p13 : lw_okq (⟨"FrameBench$Reader", "node", "(IIIII)I"⟩, 12) := ⟨⟨by decide +kernel, by decide +kernel⟩, List.mem_of_getElem? (i := 174) (by decide +kernel), List.mem_of_getElem? (i := 522) (by decide +kernel), List.mem_of_getElem? (i := 523) (by decide +kernel)⟩
theorem lw_p14 : lw_okq (⟨"FrameBench$Reader", "arrow", "(I)I"⟩, 12) := ⟨⟨by decide +kernel, by decide +kernel⟩, List.mem_of_getElem? (i := 174) (by decide +kernel), List.mem_of_getElem? (i := 534) (by decide +kernel), List.mem_of_getElem? (i := 535) (by decide +kernel)⟩
theorem lw_p15 : lw_okq (⟨"FrameBench$Reader", "application", "(I)I"⟩, 12) := ⟨⟨by decide +kernel, by decide +kernel⟩, List.mem_of_getElem? (i := 174) (by decide +kernel), List.mem_of_getElem? (i := 538) (by decide +kernel), List.mem_of_getElem? (i := 539) (by decide +kernel)⟩
def lw_privs_1 : List (MethodName × Nat) := [(⟨"FrameBench", "begin", "()V"⟩, 10), (⟨"FrameBench$Tape", "readWord", "()V"⟩, 5), (⟨"FrameBench$Reader", "readNewName", "()V"⟩, 12), (⟨"FrameBench$Reader", "refuse", "(I)I"⟩, 12), (⟨"FrameBench$Constants", "isNamed", "(ILFrameBench$Tape;I)Z"⟩, 8), (⟨"FrameBench$Reader", "take", "(I)V"⟩, 12), (⟨"FrameBench$Reader", "wholeExpression", "()I"⟩, 12), (⟨"FrameBench$Reader", "expression", "(I)I"⟩, 12), (⟨"FrameBench$Reader", "startsPart", "()Z"⟩, 12), (⟨"FrameBench$Reader", "binding", "(I)I"⟩, 12), (⟨"FrameBench$Reader", "countPart", "()Z"⟩, 12), (⟨"FrameBench$Reader", "enterScope", "(II)V"⟩, 12), (⟨"FrameBench$Reader", "leaveScope", "()V"⟩, 12), (⟨"FrameBench$Reader", "node", "(IIIII)I"⟩, 12), (⟨"FrameBench$Reader", "arrow", "(I)I"⟩, 12), (⟨"FrameBench$Reader", "application", "(I)I"⟩, 12)]
theorem lw_r1 : ∀ q ∈ lw_privs_1, lw_okq q := List.forall_mem_cons.mpr ⟨lw_p0, List.forall_mem_cons.mpr ⟨lw_p1, List.forall_mem_cons.mpr ⟨lw_p2, List.forall_mem_cons.mpr ⟨lw_p3, List.forall_mem_cons.mpr ⟨lw_p4, List.forall_mem_cons.mpr ⟨lw_p5, List.forall_mem_cons.mpr ⟨lw_p6, List.forall_mem_cons.mpr ⟨lw_p7, List.forall_mem_cons.mpr ⟨lw_p8, List.forall_mem_cons.mpr ⟨lw_p9, List.forall_mem_cons.mpr ⟨lw_p10, List.forall_mem_cons.mpr ⟨lw_p11, List.forall_mem_cons.mpr ⟨lw_p12, List.forall_mem_cons.mpr ⟨lw_p13, List.forall_mem_cons.mpr ⟨lw_p14, List.forall_mem_cons.mpr ⟨lw_p15, fun _ h => absurd h List.not_mem_nil⟩⟩⟩⟩⟩⟩⟩⟩⟩⟩⟩⟩⟩⟩⟩⟩
theorem lw_p16 : lw_okq (⟨"FrameBench$Reader", "part", "(I)I"⟩, 12) := ⟨⟨by decide +kernel, by decide +kernel⟩, List.mem_of_getElem? (i := 174) (by decide +kernel), List.mem_of_getElem? (i := 542) (by decide +kernel), List.mem_of_getElem? (i := 543) (by decide +kernel)⟩
theorem lw_p17 : lw_okq (⟨"FrameBench$Reader", "nameNode", "(I)I"⟩, 12) := ⟨⟨by decide +kernel, by decide +kernel⟩, List.mem_of_getElem? (i := 174) (by decide +kernel), List.mem_of_getElem? (i := 550) (by decide +kernel), List.mem_of_getElem? (i := 551) (by decide +kernel)⟩
theorem lw_p18 : lw_okq (⟨"FrameBench$Checker", "classifier", "(IIZ)Z"⟩, 8) := ⟨⟨by decide +kernel, by decide +kernel⟩, List.mem_of_getElem? (i := 282) (by decide +kernel), List.mem_of_getElem? (i := 581) (by decide +kernel), List.mem_of_getElem? (i := 582) (by decide +kernel)⟩
theorem lw_p19 : lw_okq (⟨"FrameBench$Checker", "step", "(I)Z"⟩, 8) := ⟨⟨by decide +kernel, by decide +kernel⟩, List.mem_of_getElem? (i := 282) (by decide +kernel), List.mem_of_getElem? (i := 597) (by decide +kernel), List.mem_of_getElem? (i := 598) (by decide +kernel)⟩
theorem lw_p20 : lw_okq (⟨"FrameBench$Checker", "wrong", "(II)V"⟩, 8) := ⟨⟨by decide +kernel, by decide +kernel⟩, List.mem_of_getElem? (i := 282) (by decide +kernel), List.mem_of_getElem? (i := 614) (by decide +kernel), List.mem_of_getElem? (i := 615) (by decide +kernel)⟩
theorem lw_p21 : lw_okq (⟨"FrameBench$Checker", "under", "(II)I"⟩, 8) := ⟨⟨by decide +kernel, by decide +kernel⟩, List.mem_of_getElem? (i := 282) (by decide +kernel), List.mem_of_getElem? (i := 623) (by decide +kernel), List.mem_of_getElem? (i := 624) (by decide +kernel)⟩
theorem lw_p22 : lw_okq (⟨"FrameBench$Checker", "family", "(II)V"⟩, 8) := ⟨⟨by decide +kernel, by decide +kernel⟩, List.mem_of_getElem? (i := 282) (by decide +kernel), List.mem_of_getElem? (i := 652) (by decide +kernel), List.mem_of_getElem? (i := 653) (by decide +kernel)⟩
theorem lw_p23 : lw_okq (⟨"FrameBench$Checker", "isFamilyName", "(I)Z"⟩, 8) := ⟨⟨by decide +kernel, by decide +kernel⟩, List.mem_of_getElem? (i := 282) (by decide +kernel), List.mem_of_getElem? (i := 666) (by decide +kernel), List.mem_of_getElem? (i := 667) (by decide +kernel)⟩
theorem lw_p24 : lw_okq (⟨"FrameBench$Checker", "objectsOfFamily", "(III)V"⟩, 8) := ⟨⟨by decide +kernel, by decide +kernel⟩, List.mem_of_getElem? (i := 282) (by decide +kernel), List.mem_of_getElem? (i := 679) (by decide +kernel), List.mem_of_getElem? (i := 680) (by decide +kernel)⟩
theorem lw_p25 : lw_okq (⟨"FrameBench$Checker", "fitting", "(IIII)V"⟩, 8) := ⟨⟨by decide +kernel, by decide +kernel⟩, List.mem_of_getElem? (i := 282) (by decide +kernel), List.mem_of_getElem? (i := 716) (by decide +kernel), List.mem_of_getElem? (i := 717) (by decide +kernel)⟩
theorem lw_p26 : lw_okq (⟨"FrameBench$Checker", "object", "(II)V"⟩, 8) := ⟨⟨by decide +kernel, by decide +kernel⟩, List.mem_of_getElem? (i := 282) (by decide +kernel), List.mem_of_getElem? (i := 720) (by decide +kernel), List.mem_of_getElem? (i := 721) (by decide +kernel)⟩
theorem lw_p27 : lw_okq (⟨"FrameBench$Checker", "applied", "(II)V"⟩, 8) := ⟨⟨by decide +kernel, by decide +kernel⟩, List.mem_of_getElem? (i := 282) (by decide +kernel), List.mem_of_getElem? (i := 724) (by decide +kernel), List.mem_of_getElem? (i := 725) (by decide +kernel)⟩
theorem lw_p28 : lw_okq (⟨"FrameBench$Checker", "bareObject", "(I)V"⟩, 8) := ⟨⟨by decide +kernel, by decide +kernel⟩, List.mem_of_getElem? (i := 282) (by decide +kernel), List.mem_of_getElem? (i := 758) (by decide +kernel), List.mem_of_getElem? (i := 759) (by decide +kernel)⟩
theorem lw_p29 : lw_okq (⟨"FrameBench$Judge", "families", "(IIIII)Z"⟩, 9) := ⟨⟨by decide +kernel, by decide +kernel⟩, List.mem_of_getElem? (i := 248) (by decide +kernel), List.mem_of_getElem? (i := 763) (by decide +kernel), List.mem_of_getElem? (i := 764) (by decide +kernel)⟩
theorem lw_p30 : lw_okq (⟨"FrameBench$Judge", "rows", "(IIII)Z"⟩, 9) := ⟨⟨by decide +kernel, by decide +kernel⟩, List.mem_of_getElem? (i := 248) (by decide +kernel), List.mem_of_getElem? (i := 786) (by decide +kernel), List.mem_of_getElem? (i := 787) (by decide +kernel)⟩
theorem lw_p31 : lw_okq (⟨"FrameBench$Judge", "meet", "(IIII)Z"⟩, 9) := ⟨⟨by decide +kernel, by decide +kernel⟩, List.mem_of_getElem? (i := 248) (by decide +kernel), List.mem_of_getElem? (i := 792) (by decide +kernel), List.mem_of_getElem? (i := 793) (by decide +kernel)⟩
def lw_privs_2 : List (MethodName × Nat) := [(⟨"FrameBench$Reader", "part", "(I)I"⟩, 12), (⟨"FrameBench$Reader", "nameNode", "(I)I"⟩, 12), (⟨"FrameBench$Checker", "classifier", "(IIZ)Z"⟩, 8), (⟨"FrameBench$Checker", "step", "(I)Z"⟩, 8), (⟨"FrameBench$Checker", "wrong", "(II)V"⟩, 8), (⟨"FrameBench$Checker", "under", "(II)I"⟩, 8), (⟨"FrameBench$Checker", "family", "(II)V"⟩, 8), (⟨"FrameBench$Checker", "isFamilyName", "(I)Z"⟩, 8), (⟨"FrameBench$Checker", "objectsOfFamily", "(III)V"⟩, 8), (⟨"FrameBench$Checker", "fitting", "(IIII)V"⟩, 8), (⟨"FrameBench$Checker", "object", "(II)V"⟩, 8), (⟨"FrameBench$Checker", "applied", "(II)V"⟩, 8), (⟨"FrameBench$Checker", "bareObject", "(I)V"⟩, 8), (⟨"FrameBench$Judge", "families", "(IIIII)Z"⟩, 9), (⟨"FrameBench$Judge", "rows", "(IIII)Z"⟩, 9), (⟨"FrameBench$Judge", "meet", "(IIII)Z"⟩, 9)]
theorem lw_r2 : ∀ q ∈ lw_privs_2, lw_okq q := List.forall_mem_cons.mpr ⟨lw_p16, List.forall_mem_cons.mpr ⟨lw_p17, List.forall_mem_cons.mpr ⟨lw_p18, List.forall_mem_cons.mpr ⟨lw_p19, List.forall_mem_cons.mpr ⟨lw_p20, List.forall_mem_cons.mpr ⟨lw_p21, List.forall_mem_cons.mpr ⟨lw_p22, List.forall_mem_cons.mpr ⟨lw_p23, List.forall_mem_cons.mpr ⟨lw_p24, List.forall_mem_cons.mpr ⟨lw_p25, List.forall_mem_cons.mpr ⟨lw_p26, List.forall_mem_cons.mpr ⟨lw_p27, List.forall_mem_cons.mpr ⟨lw_p28, List.forall_mem_cons.mpr ⟨lw_p29, List.forall_mem_cons.mpr ⟨lw_p30, List.forall_mem_cons.mpr ⟨lw_p31, fun _ h => absurd h List.not_mem_nil⟩⟩⟩⟩⟩⟩⟩⟩⟩⟩⟩⟩⟩⟩⟩⟩
theorem lw_p32 : lw_okq (⟨"FrameBench$Machine", "isDefinition", "(I)Z"⟩, 8) := ⟨⟨by decide +kernel, by decide +kernel⟩, List.mem_of_getElem? (i := 217) (by decide +kernel), List.mem_of_getElem? (i := 807) (by decide +kernel), List.mem_of_getElem? (i := 808) (by decide +kernel)⟩
theorem lw_p33 : lw_okq (⟨"FrameBench$Judge", "sameLength", "(II)Z"⟩, 9) := ⟨⟨by decide +kernel, by decide +kernel⟩, List.mem_of_getElem? (i := 248) (by decide +kernel), List.mem_of_getElem? (i := 829) (by decide +kernel), List.mem_of_getElem? (i := 830) (by decide +kernel)⟩
theorem lw_p34 : lw_okq (⟨"FrameBench", "writtenForm", "(Z)I"⟩, 10) := ⟨⟨by decide +kernel, by decide +kernel⟩, List.mem_of_getElem? (i := 16) (by decide +kernel), List.mem_of_getElem? (i := 866) (by decide +kernel), List.mem_of_getElem? (i := 867) (by decide +kernel)⟩
theorem lw_p35 : lw_okq (⟨"FrameBench$Constants", "anyIsXsAndNumber", "(I)Z"⟩, 8) := ⟨⟨by decide +kernel, by decide +kernel⟩, List.mem_of_getElem? (i := 79) (by decide +kernel), List.mem_of_getElem? (i := 890) (by decide +kernel), List.mem_of_getElem? (i := 891) (by decide +kernel)⟩
theorem lw_p36 : lw_okq (⟨"FrameBench$Constants", "isXsAndNumber", "(II)Z"⟩, 8) := ⟨⟨by decide +kernel, by decide +kernel⟩, List.mem_of_getElem? (i := 79) (by decide +kernel), List.mem_of_getElem? (i := 894) (by decide +kernel), List.mem_of_getElem? (i := 895) (by decide +kernel)⟩
theorem lw_p37 : lw_okq (⟨"FrameBench$Writer", "family", "(IIII)V"⟩, 7) := ⟨⟨by decide +kernel, by decide +kernel⟩, List.mem_of_getElem? (i := 313) (by decide +kernel), List.mem_of_getElem? (i := 903) (by decide +kernel), List.mem_of_getElem? (i := 904) (by decide +kernel)⟩
theorem lw_p38 : lw_okq (⟨"FrameBench$Writer", "binding", "(IIII)V"⟩, 7) := ⟨⟨by decide +kernel, by decide +kernel⟩, List.mem_of_getElem? (i := 313) (by decide +kernel), List.mem_of_getElem? (i := 919) (by decide +kernel), List.mem_of_getElem? (i := 920) (by decide +kernel)⟩
theorem lw_p39 : lw_okq (⟨"FrameBench$Writer", "putVariable", "(I)V"⟩, 7) := ⟨⟨by decide +kernel, by decide +kernel⟩, List.mem_of_getElem? (i := 313) (by decide +kernel), List.mem_of_getElem? (i := 924) (by decide +kernel), List.mem_of_getElem? (i := 925) (by decide +kernel)⟩
theorem lw_p40 : lw_okq (⟨"FrameBench$Writer", "putName", "(I)V"⟩, 7) := ⟨⟨by decide +kernel, by decide +kernel⟩, List.mem_of_getElem? (i := 313) (by decide +kernel), List.mem_of_getElem? (i := 932) (by decide +kernel), List.mem_of_getElem? (i := 933) (by decide +kernel)⟩
theorem lw_p41 : lw_okq (⟨"FrameBench$Writer", "objects", "(IIIII)V"⟩, 7) := ⟨⟨by decide +kernel, by decide +kernel⟩, List.mem_of_getElem? (i := 313) (by decide +kernel), List.mem_of_getElem? (i := 940) (by decide +kernel), List.mem_of_getElem? (i := 941) (by decide +kernel)⟩
theorem lw_p42 : lw_okq (⟨"FrameBench$Writer", "object", "(IIIIIZ)V"⟩, 7) := ⟨⟨by decide +kernel, by decide +kernel⟩, List.mem_of_getElem? (i := 313) (by decide +kernel), List.mem_of_getElem? (i := 947) (by decide +kernel), List.mem_of_getElem? (i := 948) (by decide +kernel)⟩
theorem lw_p43 : lw_okq (⟨"FrameBench$Writer", "putHead", "(I)V"⟩, 7) := ⟨⟨by decide +kernel, by decide +kernel⟩, List.mem_of_getElem? (i := 313) (by decide +kernel), List.mem_of_getElem? (i := 957) (by decide +kernel), List.mem_of_getElem? (i := 958) (by decide +kernel)⟩
theorem lw_p44 : lw_okq (⟨"FrameBench", "troubleAtEnd", "()I"⟩, 10) := ⟨⟨by decide +kernel, by decide +kernel⟩, List.mem_of_getElem? (i := 16) (by decide +kernel), List.mem_of_getElem? (i := 976) (by decide +kernel), List.mem_of_getElem? (i := 977) (by decide +kernel)⟩
theorem lw_p45 : lw_okq (⟨"FrameBench", "comparison", "(II)I"⟩, 10) := ⟨⟨by decide +kernel, by decide +kernel⟩, List.mem_of_getElem? (i := 16) (by decide +kernel), List.mem_of_getElem? (i := 990) (by decide +kernel), List.mem_of_getElem? (i := 991) (by decide +kernel)⟩
theorem lw_p46 : lw_okq (⟨"FrameBenchModel", "lay", "(J)V"⟩, 71) := ⟨⟨by decide +kernel, by decide +kernel⟩, List.mem_of_getElem? (i := 1063) (by decide +kernel), List.mem_of_getElem? (i := 1291) (by decide +kernel), List.mem_of_getElem? (i := 1292) (by decide +kernel)⟩
theorem lw_p47 : lw_okq (⟨"FrameBenchModel", "begins", "()V"⟩, 71) := ⟨⟨by decide +kernel, by decide +kernel⟩, List.mem_of_getElem? (i := 1063) (by decide +kernel), List.mem_of_getElem? (i := 1299) (by decide +kernel), List.mem_of_getElem? (i := 1300) (by decide +kernel)⟩
def lw_privs_3 : List (MethodName × Nat) := [(⟨"FrameBench$Machine", "isDefinition", "(I)Z"⟩, 8), (⟨"FrameBench$Judge", "sameLength", "(II)Z"⟩, 9), (⟨"FrameBench", "writtenForm", "(Z)I"⟩, 10), (⟨"FrameBench$Constants", "anyIsXsAndNumber", "(I)Z"⟩, 8), (⟨"FrameBench$Constants", "isXsAndNumber", "(II)Z"⟩, 8), (⟨"FrameBench$Writer", "family", "(IIII)V"⟩, 7), (⟨"FrameBench$Writer", "binding", "(IIII)V"⟩, 7), (⟨"FrameBench$Writer", "putVariable", "(I)V"⟩, 7), (⟨"FrameBench$Writer", "putName", "(I)V"⟩, 7), (⟨"FrameBench$Writer", "objects", "(IIIII)V"⟩, 7), (⟨"FrameBench$Writer", "object", "(IIIIIZ)V"⟩, 7), (⟨"FrameBench$Writer", "putHead", "(I)V"⟩, 7), (⟨"FrameBench", "troubleAtEnd", "()I"⟩, 10), (⟨"FrameBench", "comparison", "(II)I"⟩, 10), (⟨"FrameBenchModel", "lay", "(J)V"⟩, 71), (⟨"FrameBenchModel", "begins", "()V"⟩, 71)]
theorem lw_r3 : ∀ q ∈ lw_privs_3, lw_okq q := List.forall_mem_cons.mpr ⟨lw_p32, List.forall_mem_cons.mpr ⟨lw_p33, List.forall_mem_cons.mpr ⟨lw_p34, List.forall_mem_cons.mpr ⟨lw_p35, List.forall_mem_cons.mpr ⟨lw_p36, List.forall_mem_cons.mpr ⟨lw_p37, List.forall_mem_cons.mpr ⟨lw_p38, List.forall_mem_cons.mpr ⟨lw_p39, List.forall_mem_cons.mpr ⟨lw_p40, List.forall_mem_cons.mpr ⟨lw_p41, List.forall_mem_cons.mpr ⟨lw_p42, List.forall_mem_cons.mpr ⟨lw_p43, List.forall_mem_cons.mpr ⟨lw_p44, List.forall_mem_cons.mpr ⟨lw_p45, List.forall_mem_cons.mpr ⟨lw_p46, List.forall_mem_cons.mpr ⟨lw_p47, fun _ h => absurd h List.not_mem_nil⟩⟩⟩⟩⟩⟩⟩⟩⟩⟩⟩⟩⟩⟩⟩⟩
theorem lw_p48 : lw_okq (⟨"FrameBenchModel", "cutAll", "()V"⟩, 71) := ⟨⟨by decide +kernel, by decide +kernel⟩, List.mem_of_getElem? (i := 1063) (by decide +kernel), List.mem_of_getElem? (i := 1304) (by decide +kernel), List.mem_of_getElem? (i := 1305) (by decide +kernel)⟩
theorem lw_p49 : lw_okq (⟨"FrameBenchModel", "declaration", "()V"⟩, 71) := ⟨⟨by decide +kernel, by decide +kernel⟩, List.mem_of_getElem? (i := 1063) (by decide +kernel), List.mem_of_getElem? (i := 1321) (by decide +kernel), List.mem_of_getElem? (i := 1322) (by decide +kernel)⟩
theorem lw_p50 : lw_okq (⟨"FrameBenchModel", "isName", "()Z"⟩, 71) := ⟨⟨by decide +kernel, by decide +kernel⟩, List.mem_of_getElem? (i := 1063) (by decide +kernel), List.mem_of_getElem? (i := 1325) (by decide +kernel), List.mem_of_getElem? (i := 1326) (by decide +kernel)⟩
theorem lw_p51 : lw_okq (⟨"FrameBenchModel", "wrong", "(II)V"⟩, 71) := ⟨⟨by decide +kernel, by decide +kernel⟩, List.mem_of_getElem? (i := 1063) (by decide +kernel), List.mem_of_getElem? (i := 1330) (by decide +kernel), List.mem_of_getElem? (i := 1331) (by decide +kernel)⟩
theorem lw_p52 : lw_okq (⟨"FrameBenchModel", "constantOf", "(I)I"⟩, 71) := ⟨⟨by decide +kernel, by decide +kernel⟩, List.mem_of_getElem? (i := 1063) (by decide +kernel), List.mem_of_getElem? (i := 1334) (by decide +kernel), List.mem_of_getElem? (i := 1335) (by decide +kernel)⟩
theorem lw_p53 : lw_okq (⟨"FrameBenchModel", "takeSign", "(I)V"⟩, 71) := ⟨⟨by decide +kernel, by decide +kernel⟩, List.mem_of_getElem? (i := 1063) (by decide +kernel), List.mem_of_getElem? (i := 1338) (by decide +kernel), List.mem_of_getElem? (i := 1339) (by decide +kernel)⟩
theorem lw_p54 : lw_okq (⟨"FrameBenchModel", "isSign", "(I)Z"⟩, 71) := ⟨⟨by decide +kernel, by decide +kernel⟩, List.mem_of_getElem? (i := 1063) (by decide +kernel), List.mem_of_getElem? (i := 1342) (by decide +kernel), List.mem_of_getElem? (i := 1343) (by decide +kernel)⟩
theorem lw_p55 : lw_okq (⟨"FrameBenchModel", "readWhole", "()I"⟩, 71) := ⟨⟨by decide +kernel, by decide +kernel⟩, List.mem_of_getElem? (i := 1063) (by decide +kernel), List.mem_of_getElem? (i := 1346) (by decide +kernel), List.mem_of_getElem? (i := 1347) (by decide +kernel)⟩
theorem lw_p56 : lw_okq (⟨"FrameBenchModel", "readE", "()I"⟩, 71) := ⟨⟨by decide +kernel, by decide +kernel⟩, List.mem_of_getElem? (i := 1063) (by decide +kernel), List.mem_of_getElem? (i := 1350) (by decide +kernel), List.mem_of_getElem? (i := 1351) (by decide +kernel)⟩
theorem lw_p57 : lw_okq (⟨"FrameBenchModel", "isP", "()Z"⟩, 71) := ⟨⟨by decide +kernel, by decide +kernel⟩, List.mem_of_getElem? (i := 1063) (by decide +kernel), List.mem_of_getElem? (i := 1354) (by decide +kernel), List.mem_of_getElem? (i := 1355) (by decide +kernel)⟩
theorem lw_p58 : lw_okq (⟨"FrameBenchModel", "within", "()V"⟩, 71) := ⟨⟨by decide +kernel, by decide +kernel⟩, List.mem_of_getElem? (i := 1063) (by decide +kernel), List.mem_of_getElem? (i := 1358) (by decide +kernel), List.mem_of_getElem? (i := 1359) (by decide +kernel)⟩
theorem lw_p59 : lw_okq (⟨"FrameBenchModel", "readBinder", "(Z)I"⟩, 71) := ⟨⟨by decide +kernel, by decide +kernel⟩, List.mem_of_getElem? (i := 1063) (by decide +kernel), List.mem_of_getElem? (i := 1362) (by decide +kernel), List.mem_of_getElem? (i := 1363) (by decide +kernel)⟩
theorem lw_p60 : lw_okq (⟨"FrameBenchModel", "counts", "()V"⟩, 71) := ⟨⟨by decide +kernel, by decide +kernel⟩, List.mem_of_getElem? (i := 1063) (by decide +kernel), List.mem_of_getElem? (i := 1366) (by decide +kernel), List.mem_of_getElem? (i := 1367) (by decide +kernel)⟩
theorem lw_p61 : lw_okq (⟨"FrameBenchModel", "node", "(IIIII)I"⟩, 71) := ⟨⟨by decide +kernel, by decide +kernel⟩, List.mem_of_getElem? (i := 1063) (by decide +kernel), List.mem_of_getElem? (i := 1370) (by decide +kernel), List.mem_of_getElem? (i := 1371) (by decide +kernel)⟩
theorem lw_p62 : lw_okq (⟨"FrameBenchModel", "readA", "()I"⟩, 71) := ⟨⟨by decide +kernel, by decide +kernel⟩, List.mem_of_getElem? (i := 1063) (by decide +kernel), List.mem_of_getElem? (i := 1374) (by decide +kernel), List.mem_of_getElem? (i := 1375) (by decide +kernel)⟩
theorem lw_p63 : lw_okq (⟨"FrameBenchModel", "readP", "()I"⟩, 71) := ⟨⟨by decide +kernel, by decide +kernel⟩, List.mem_of_getElem? (i := 1063) (by decide +kernel), List.mem_of_getElem? (i := 1378) (by decide +kernel), List.mem_of_getElem? (i := 1379) (by decide +kernel)⟩
def lw_privs_4 : List (MethodName × Nat) := [(⟨"FrameBenchModel", "cutAll", "()V"⟩, 71), (⟨"FrameBenchModel", "declaration", "()V"⟩, 71), (⟨"FrameBenchModel", "isName", "()Z"⟩, 71), (⟨"FrameBenchModel", "wrong", "(II)V"⟩, 71), (⟨"FrameBenchModel", "constantOf", "(I)I"⟩, 71), (⟨"FrameBenchModel", "takeSign", "(I)V"⟩, 71), (⟨"FrameBenchModel", "isSign", "(I)Z"⟩, 71), (⟨"FrameBenchModel", "readWhole", "()I"⟩, 71), (⟨"FrameBenchModel", "readE", "()I"⟩, 71), (⟨"FrameBenchModel", "isP", "()Z"⟩, 71), (⟨"FrameBenchModel", "within", "()V"⟩, 71), (⟨"FrameBenchModel", "readBinder", "(Z)I"⟩, 71), (⟨"FrameBenchModel", "counts", "()V"⟩, 71), (⟨"FrameBenchModel", "node", "(IIIII)I"⟩, 71), (⟨"FrameBenchModel", "readA", "()I"⟩, 71), (⟨"FrameBenchModel", "readP", "()I"⟩, 71)]
theorem lw_r4 : ∀ q ∈ lw_privs_4, lw_okq q := List.forall_mem_cons.mpr ⟨lw_p48, List.forall_mem_cons.mpr ⟨lw_p49, List.forall_mem_cons.mpr ⟨lw_p50, List.forall_mem_cons.mpr ⟨lw_p51, List.forall_mem_cons.mpr ⟨lw_p52, List.forall_mem_cons.mpr ⟨lw_p53, List.forall_mem_cons.mpr ⟨lw_p54, List.forall_mem_cons.mpr ⟨lw_p55, List.forall_mem_cons.mpr ⟨lw_p56, List.forall_mem_cons.mpr ⟨lw_p57, List.forall_mem_cons.mpr ⟨lw_p58, List.forall_mem_cons.mpr ⟨lw_p59, List.forall_mem_cons.mpr ⟨lw_p60, List.forall_mem_cons.mpr ⟨lw_p61, List.forall_mem_cons.mpr ⟨lw_p62, List.forall_mem_cons.mpr ⟨lw_p63, fun _ h => absurd h List.not_mem_nil⟩⟩⟩⟩⟩⟩⟩⟩⟩⟩⟩⟩⟩⟩⟩⟩
theorem lw_p64 : lw_okq (⟨"FrameBenchModel", "isType", "()Z"⟩, 71) := ⟨⟨by decide +kernel, by decide +kernel⟩, List.mem_of_getElem? (i := 1063) (by decide +kernel), List.mem_of_getElem? (i := 1382) (by decide +kernel), List.mem_of_getElem? (i := 1383) (by decide +kernel)⟩
theorem lw_p65 : lw_okq (⟨"FrameBenchModel", "family", "(IZ)V"⟩, 71) := ⟨⟨by decide +kernel, by decide +kernel⟩, List.mem_of_getElem? (i := 1063) (by decide +kernel), List.mem_of_getElem? (i := 1386) (by decide +kernel), List.mem_of_getElem? (i := 1387) (by decide +kernel)⟩
theorem lw_p66 : lw_okq (⟨"FrameBenchModel", "stepAt", "(I)V"⟩, 71) := ⟨⟨by decide +kernel, by decide +kernel⟩, List.mem_of_getElem? (i := 1063) (by decide +kernel), List.mem_of_getElem? (i := 1390) (by decide +kernel), List.mem_of_getElem? (i := 1391) (by decide +kernel)⟩
theorem lw_p67 : lw_okq (⟨"FrameBenchModel", "step", "()Z"⟩, 71) := ⟨⟨by decide +kernel, by decide +kernel⟩, List.mem_of_getElem? (i := 1063) (by decide +kernel), List.mem_of_getElem? (i := 1394) (by decide +kernel), List.mem_of_getElem? (i := 1395) (by decide +kernel)⟩
theorem lw_p68 : lw_okq (⟨"FrameBenchModel", "bind", "(I)V"⟩, 71) := ⟨⟨by decide +kernel, by decide +kernel⟩, List.mem_of_getElem? (i := 1063) (by decide +kernel), List.mem_of_getElem? (i := 1399) (by decide +kernel), List.mem_of_getElem? (i := 1400) (by decide +kernel)⟩
theorem lw_p69 : lw_okq (⟨"FrameBenchModel", "newVar", "(III)I"⟩, 71) := ⟨⟨by decide +kernel, by decide +kernel⟩, List.mem_of_getElem? (i := 1063) (by decide +kernel), List.mem_of_getElem? (i := 1403) (by decide +kernel), List.mem_of_getElem? (i := 1404) (by decide +kernel)⟩
theorem lw_p70 : lw_okq (⟨"FrameBenchModel", "closure", "(II)I"⟩, 71) := ⟨⟨by decide +kernel, by decide +kernel⟩, List.mem_of_getElem? (i := 1063) (by decide +kernel), List.mem_of_getElem? (i := 1407) (by decide +kernel), List.mem_of_getElem? (i := 1408) (by decide +kernel)⟩
theorem lw_p71 : lw_okq (⟨"FrameBenchModel", "list", "(II)I"⟩, 71) := ⟨⟨by decide +kernel, by decide +kernel⟩, List.mem_of_getElem? (i := 1063) (by decide +kernel), List.mem_of_getElem? (i := 1411) (by decide +kernel), List.mem_of_getElem? (i := 1412) (by decide +kernel)⟩
theorem lw_p72 : lw_okq (⟨"FrameBenchModel", "unbind", "()V"⟩, 71) := ⟨⟨by decide +kernel, by decide +kernel⟩, List.mem_of_getElem? (i := 1063) (by decide +kernel), List.mem_of_getElem? (i := 1415) (by decide +kernel), List.mem_of_getElem? (i := 1416) (by decide +kernel)⟩
theorem lw_p73 : lw_okq (⟨"FrameBenchModel", "familyBehind", "(I)V"⟩, 71) := ⟨⟨by decide +kernel, by decide +kernel⟩, List.mem_of_getElem? (i := 1063) (by decide +kernel), List.mem_of_getElem? (i := 1419) (by decide +kernel), List.mem_of_getElem? (i := 1420) (by decide +kernel)⟩
theorem lw_p74 : lw_okq (⟨"FrameBenchModel", "find", "(I)V"⟩, 71) := ⟨⟨by decide +kernel, by decide +kernel⟩, List.mem_of_getElem? (i := 1063) (by decide +kernel), List.mem_of_getElem? (i := 1423) (by decide +kernel), List.mem_of_getElem? (i := 1424) (by decide +kernel)⟩
theorem lw_p75 : lw_okq (⟨"FrameBenchModel", "isFamilyNode", "(I)Z"⟩, 71) := ⟨⟨by decide +kernel, by decide +kernel⟩, List.mem_of_getElem? (i := 1063) (by decide +kernel), List.mem_of_getElem? (i := 1427) (by decide +kernel), List.mem_of_getElem? (i := 1428) (by decide +kernel)⟩
theorem lw_p76 : lw_okq (⟨"FrameBenchModel", "shows", "(II)Z"⟩, 71) := ⟨⟨by decide +kernel, by decide +kernel⟩, List.mem_of_getElem? (i := 1063) (by decide +kernel), List.mem_of_getElem? (i := 1431) (by decide +kernel), List.mem_of_getElem? (i := 1432) (by decide +kernel)⟩
theorem lw_p77 : lw_okq (⟨"FrameBenchModel", "without", "(II)I"⟩, 71) := ⟨⟨by decide +kernel, by decide +kernel⟩, List.mem_of_getElem? (i := 1063) (by decide +kernel), List.mem_of_getElem? (i := 1435) (by decide +kernel), List.mem_of_getElem? (i := 1436) (by decide +kernel)⟩
theorem lw_p78 : lw_okq (⟨"FrameBenchModel", "shown", "(II)Z"⟩, 71) := ⟨⟨by decide +kernel, by decide +kernel⟩, List.mem_of_getElem? (i := 1063) (by decide +kernel), List.mem_of_getElem? (i := 1439) (by decide +kernel), List.mem_of_getElem? (i := 1440) (by decide +kernel)⟩
theorem lw_p79 : lw_okq (⟨"FrameBenchModel", "object", "(I)V"⟩, 71) := ⟨⟨by decide +kernel, by decide +kernel⟩, List.mem_of_getElem? (i := 1063) (by decide +kernel), List.mem_of_getElem? (i := 1443) (by decide +kernel), List.mem_of_getElem? (i := 1444) (by decide +kernel)⟩
def lw_privs_5 : List (MethodName × Nat) := [(⟨"FrameBenchModel", "isType", "()Z"⟩, 71), (⟨"FrameBenchModel", "family", "(IZ)V"⟩, 71), (⟨"FrameBenchModel", "stepAt", "(I)V"⟩, 71), (⟨"FrameBenchModel", "step", "()Z"⟩, 71), (⟨"FrameBenchModel", "bind", "(I)V"⟩, 71), (⟨"FrameBenchModel", "newVar", "(III)I"⟩, 71), (⟨"FrameBenchModel", "closure", "(II)I"⟩, 71), (⟨"FrameBenchModel", "list", "(II)I"⟩, 71), (⟨"FrameBenchModel", "unbind", "()V"⟩, 71), (⟨"FrameBenchModel", "familyBehind", "(I)V"⟩, 71), (⟨"FrameBenchModel", "find", "(I)V"⟩, 71), (⟨"FrameBenchModel", "isFamilyNode", "(I)Z"⟩, 71), (⟨"FrameBenchModel", "shows", "(II)Z"⟩, 71), (⟨"FrameBenchModel", "without", "(II)I"⟩, 71), (⟨"FrameBenchModel", "shown", "(II)Z"⟩, 71), (⟨"FrameBenchModel", "object", "(I)V"⟩, 71)]
theorem lw_r5 : ∀ q ∈ lw_privs_5, lw_okq q := List.forall_mem_cons.mpr ⟨lw_p64, List.forall_mem_cons.mpr ⟨lw_p65, List.forall_mem_cons.mpr ⟨lw_p66, List.forall_mem_cons.mpr ⟨lw_p67, List.forall_mem_cons.mpr ⟨lw_p68, List.forall_mem_cons.mpr ⟨lw_p69, List.forall_mem_cons.mpr ⟨lw_p70, List.forall_mem_cons.mpr ⟨lw_p71, List.forall_mem_cons.mpr ⟨lw_p72, List.forall_mem_cons.mpr ⟨lw_p73, List.forall_mem_cons.mpr ⟨lw_p74, List.forall_mem_cons.mpr ⟨lw_p75, List.forall_mem_cons.mpr ⟨lw_p76, List.forall_mem_cons.mpr ⟨lw_p77, List.forall_mem_cons.mpr ⟨lw_p78, List.forall_mem_cons.mpr ⟨lw_p79, fun _ h => absurd h List.not_mem_nil⟩⟩⟩⟩⟩⟩⟩⟩⟩⟩⟩⟩⟩⟩⟩⟩
theorem lw_p80 : lw_okq (⟨"FrameBenchModel", "lambda", "(I)V"⟩, 71) := ⟨⟨by decide +kernel, by decide +kernel⟩, List.mem_of_getElem? (i := 1063) (by decide +kernel), List.mem_of_getElem? (i := 1447) (by decide +kernel), List.mem_of_getElem? (i := 1448) (by decide +kernel)⟩
theorem lw_p81 : lw_okq (⟨"FrameBenchModel", "typeNode", "(III)I"⟩, 71) := ⟨⟨by decide +kernel, by decide +kernel⟩, List.mem_of_getElem? (i := 1063) (by decide +kernel), List.mem_of_getElem? (i := 1451) (by decide +kernel), List.mem_of_getElem? (i := 1452) (by decide +kernel)⟩
theorem lw_p82 : lw_okq (⟨"FrameBenchModel", "is", "(III)V"⟩, 71) := ⟨⟨by decide +kernel, by decide +kernel⟩, List.mem_of_getElem? (i := 1063) (by decide +kernel), List.mem_of_getElem? (i := 1455) (by decide +kernel), List.mem_of_getElem? (i := 1456) (by decide +kernel)⟩
theorem lw_p83 : lw_okq (⟨"FrameBenchModel", "objectBehind", "(I)V"⟩, 71) := ⟨⟨by decide +kernel, by decide +kernel⟩, List.mem_of_getElem? (i := 1063) (by decide +kernel), List.mem_of_getElem? (i := 1459) (by decide +kernel), List.mem_of_getElem? (i := 1460) (by decide +kernel)⟩
theorem lw_p84 : lw_okq (⟨"FrameBenchModel", "oneBehind", "(I)V"⟩, 71) := ⟨⟨by decide +kernel, by decide +kernel⟩, List.mem_of_getElem? (i := 1063) (by decide +kernel), List.mem_of_getElem? (i := 1463) (by decide +kernel), List.mem_of_getElem? (i := 1464) (by decide +kernel)⟩
theorem lw_p85 : lw_okq (⟨"FrameBenchModel", "wanted", "(IIIII)V"⟩, 71) := ⟨⟨by decide +kernel, by decide +kernel⟩, List.mem_of_getElem? (i := 1063) (by decide +kernel), List.mem_of_getElem? (i := 1467) (by decide +kernel), List.mem_of_getElem? (i := 1468) (by decide +kernel)⟩
theorem lw_p86 : lw_okq (⟨"FrameBenchModel", "equalFamilies", "(IIII)I"⟩, 71) := ⟨⟨by decide +kernel, by decide +kernel⟩, List.mem_of_getElem? (i := 1063) (by decide +kernel), List.mem_of_getElem? (i := 1471) (by decide +kernel), List.mem_of_getElem? (i := 1472) (by decide +kernel)⟩
theorem lw_p87 : lw_okq (⟨"FrameBenchModel", "sameFamilies", "(IIII)I"⟩, 71) := ⟨⟨by decide +kernel, by decide +kernel⟩, List.mem_of_getElem? (i := 1063) (by decide +kernel), List.mem_of_getElem? (i := 1475) (by decide +kernel), List.mem_of_getElem? (i := 1476) (by decide +kernel)⟩
theorem lw_p88 : lw_okq (⟨"FrameBenchModel", "asks", "()I"⟩, 71) := ⟨⟨by decide +kernel, by decide +kernel⟩, List.mem_of_getElem? (i := 1063) (by decide +kernel), List.mem_of_getElem? (i := 1479) (by decide +kernel), List.mem_of_getElem? (i := 1480) (by decide +kernel)⟩
theorem lw_p89 : lw_okq (⟨"FrameBenchModel", "sameAsked", "(IIII)I"⟩, 71) := ⟨⟨by decide +kernel, by decide +kernel⟩, List.mem_of_getElem? (i := 1063) (by decide +kernel), List.mem_of_getElem? (i := 1483) (by decide +kernel), List.mem_of_getElem? (i := 1484) (by decide +kernel)⟩
theorem lw_p90 : lw_okq (⟨"FrameBenchModel", "sameSpines", "(IIII)I"⟩, 71) := ⟨⟨by decide +kernel, by decide +kernel⟩, List.mem_of_getElem? (i := 1063) (by decide +kernel), List.mem_of_getElem? (i := 1487) (by decide +kernel), List.mem_of_getElem? (i := 1488) (by decide +kernel)⟩
theorem lw_p91 : lw_okq (⟨"FrameBenchModel", "behindOf", "(II)I"⟩, 71) := ⟨⟨by decide +kernel, by decide +kernel⟩, List.mem_of_getElem? (i := 1063) (by decide +kernel), List.mem_of_getElem? (i := 1491) (by decide +kernel), List.mem_of_getElem? (i := 1492) (by decide +kernel)⟩
theorem lw_p92 : lw_okq (⟨"FrameBenchModel", "behind", "(II)I"⟩, 71) := ⟨⟨by decide +kernel, by decide +kernel⟩, List.mem_of_getElem? (i := 1063) (by decide +kernel), List.mem_of_getElem? (i := 1495) (by decide +kernel), List.mem_of_getElem? (i := 1496) (by decide +kernel)⟩
theorem lw_p93 : lw_okq (⟨"FrameBenchModel", "sameBehind", "(IIII)I"⟩, 71) := ⟨⟨by decide +kernel, by decide +kernel⟩, List.mem_of_getElem? (i := 1063) (by decide +kernel), List.mem_of_getElem? (i := 1499) (by decide +kernel), List.mem_of_getElem? (i := 1500) (by decide +kernel)⟩
theorem lw_p94 : lw_okq (⟨"FrameBenchModel", "sameObjects", "(IIIIII)I"⟩, 71) := ⟨⟨by decide +kernel, by decide +kernel⟩, List.mem_of_getElem? (i := 1063) (by decide +kernel), List.mem_of_getElem? (i := 1503) (by decide +kernel), List.mem_of_getElem? (i := 1504) (by decide +kernel)⟩
theorem lw_p95 : lw_okq (⟨"FrameBenchModel", "sameObjectsAsked", "(IIIIII)I"⟩, 71) := ⟨⟨by decide +kernel, by decide +kernel⟩, List.mem_of_getElem? (i := 1063) (by decide +kernel), List.mem_of_getElem? (i := 1507) (by decide +kernel), List.mem_of_getElem? (i := 1508) (by decide +kernel)⟩
def lw_privs_6 : List (MethodName × Nat) := [(⟨"FrameBenchModel", "lambda", "(I)V"⟩, 71), (⟨"FrameBenchModel", "typeNode", "(III)I"⟩, 71), (⟨"FrameBenchModel", "is", "(III)V"⟩, 71), (⟨"FrameBenchModel", "objectBehind", "(I)V"⟩, 71), (⟨"FrameBenchModel", "oneBehind", "(I)V"⟩, 71), (⟨"FrameBenchModel", "wanted", "(IIIII)V"⟩, 71), (⟨"FrameBenchModel", "equalFamilies", "(IIII)I"⟩, 71), (⟨"FrameBenchModel", "sameFamilies", "(IIII)I"⟩, 71), (⟨"FrameBenchModel", "asks", "()I"⟩, 71), (⟨"FrameBenchModel", "sameAsked", "(IIII)I"⟩, 71), (⟨"FrameBenchModel", "sameSpines", "(IIII)I"⟩, 71), (⟨"FrameBenchModel", "behindOf", "(II)I"⟩, 71), (⟨"FrameBenchModel", "behind", "(II)I"⟩, 71), (⟨"FrameBenchModel", "sameBehind", "(IIII)I"⟩, 71), (⟨"FrameBenchModel", "sameObjects", "(IIIIII)I"⟩, 71), (⟨"FrameBenchModel", "sameObjectsAsked", "(IIIIII)I"⟩, 71)]
theorem lw_r6 : ∀ q ∈ lw_privs_6, lw_okq q := List.forall_mem_cons.mpr ⟨lw_p80, List.forall_mem_cons.mpr ⟨lw_p81, List.forall_mem_cons.mpr ⟨lw_p82, List.forall_mem_cons.mpr ⟨lw_p83, List.forall_mem_cons.mpr ⟨lw_p84, List.forall_mem_cons.mpr ⟨lw_p85, List.forall_mem_cons.mpr ⟨lw_p86, List.forall_mem_cons.mpr ⟨lw_p87, List.forall_mem_cons.mpr ⟨lw_p88, List.forall_mem_cons.mpr ⟨lw_p89, List.forall_mem_cons.mpr ⟨lw_p90, List.forall_mem_cons.mpr ⟨lw_p91, List.forall_mem_cons.mpr ⟨lw_p92, List.forall_mem_cons.mpr ⟨lw_p93, List.forall_mem_cons.mpr ⟨lw_p94, List.forall_mem_cons.mpr ⟨lw_p95, fun _ h => absurd h List.not_mem_nil⟩⟩⟩⟩⟩⟩⟩⟩⟩⟩⟩⟩⟩⟩⟩⟩
theorem lw_p96 : lw_okq (⟨"FrameBenchModel", "append", "(II)I"⟩, 71) := ⟨⟨by decide +kernel, by decide +kernel⟩, List.mem_of_getElem? (i := 1063) (by decide +kernel), List.mem_of_getElem? (i := 1511) (by decide +kernel), List.mem_of_getElem? (i := 1512) (by decide +kernel)⟩
theorem lw_p97 : lw_okq (⟨"FrameBenchModel", "heads", "(II)I"⟩, 71) := ⟨⟨by decide +kernel, by decide +kernel⟩, List.mem_of_getElem? (i := 1063) (by decide +kernel), List.mem_of_getElem? (i := 1515) (by decide +kernel), List.mem_of_getElem? (i := 1516) (by decide +kernel)⟩
theorem lw_p98 : lw_okq (⟨"FrameBenchModel", "manyBehind", "(I)I"⟩, 71) := ⟨⟨by decide +kernel, by decide +kernel⟩, List.mem_of_getElem? (i := 1063) (by decide +kernel), List.mem_of_getElem? (i := 1519) (by decide +kernel), List.mem_of_getElem? (i := 1520) (by decide +kernel)⟩
theorem lw_p99 : lw_okq (⟨"FrameBenchModel", "name", "(I)V"⟩, 71) := ⟨⟨by decide +kernel, by decide +kernel⟩, List.mem_of_getElem? (i := 1063) (by decide +kernel), List.mem_of_getElem? (i := 1523) (by decide +kernel), List.mem_of_getElem? (i := 1524) (by decide +kernel)⟩
theorem lw_p100 : lw_okq (⟨"FrameBenchModel", "tell", "(Z)I"⟩, 71) := ⟨⟨by decide +kernel, by decide +kernel⟩, List.mem_of_getElem? (i := 1063) (by decide +kernel), List.mem_of_getElem? (i := 1531) (by decide +kernel), List.mem_of_getElem? (i := 1532) (by decide +kernel)⟩
theorem lw_p101 : lw_okq (⟨"FrameBenchModel", "askOne", "()I"⟩, 71) := ⟨⟨by decide +kernel, by decide +kernel⟩, List.mem_of_getElem? (i := 1063) (by decide +kernel), List.mem_of_getElem? (i := 1535) (by decide +kernel), List.mem_of_getElem? (i := 1536) (by decide +kernel)⟩
theorem lw_p102 : lw_okq (⟨"FrameBenchModel", "countXs", "()V"⟩, 71) := ⟨⟨by decide +kernel, by decide +kernel⟩, List.mem_of_getElem? (i := 1063) (by decide +kernel), List.mem_of_getElem? (i := 1539) (by decide +kernel), List.mem_of_getElem? (i := 1540) (by decide +kernel)⟩
theorem lw_p103 : lw_okq (⟨"FrameBenchModel", "isXs", "(I)Z"⟩, 71) := ⟨⟨by decide +kernel, by decide +kernel⟩, List.mem_of_getElem? (i := 1063) (by decide +kernel), List.mem_of_getElem? (i := 1543) (by decide +kernel), List.mem_of_getElem? (i := 1544) (by decide +kernel)⟩
theorem lw_p104 : lw_okq (⟨"FrameBenchModel", "takeLetters", "(J)V"⟩, 71) := ⟨⟨by decide +kernel, by decide +kernel⟩, List.mem_of_getElem? (i := 1063) (by decide +kernel), List.mem_of_getElem? (i := 1547) (by decide +kernel), List.mem_of_getElem? (i := 1548) (by decide +kernel)⟩
theorem lw_p105 : lw_okq (⟨"FrameBenchModel", "tellFamily", "(III)I"⟩, 71) := ⟨⟨by decide +kernel, by decide +kernel⟩, List.mem_of_getElem? (i := 1063) (by decide +kernel), List.mem_of_getElem? (i := 1551) (by decide +kernel), List.mem_of_getElem? (i := 1552) (by decide +kernel)⟩
theorem lw_p106 : lw_okq (⟨"FrameBenchModel", "say", "(I)V"⟩, 71) := ⟨⟨by decide +kernel, by decide +kernel⟩, List.mem_of_getElem? (i := 1063) (by decide +kernel), List.mem_of_getElem? (i := 1555) (by decide +kernel), List.mem_of_getElem? (i := 1556) (by decide +kernel)⟩
theorem lw_p107 : lw_okq (⟨"FrameBenchModel", "sayVar", "(I)V"⟩, 71) := ⟨⟨by decide +kernel, by decide +kernel⟩, List.mem_of_getElem? (i := 1063) (by decide +kernel), List.mem_of_getElem? (i := 1559) (by decide +kernel), List.mem_of_getElem? (i := 1560) (by decide +kernel)⟩
theorem lw_p108 : lw_okq (⟨"FrameBenchModel", "ended", "(I)I"⟩, 71) := ⟨⟨by decide +kernel, by decide +kernel⟩, List.mem_of_getElem? (i := 1063) (by decide +kernel), List.mem_of_getElem? (i := 1563) (by decide +kernel), List.mem_of_getElem? (i := 1564) (by decide +kernel)⟩
theorem lw_p109 : lw_okq (⟨"FrameBenchModel", "sayPart", "(J)V"⟩, 71) := ⟨⟨by decide +kernel, by decide +kernel⟩, List.mem_of_getElem? (i := 1063) (by decide +kernel), List.mem_of_getElem? (i := 1567) (by decide +kernel), List.mem_of_getElem? (i := 1568) (by decide +kernel)⟩
theorem lw_p110 : lw_okq (⟨"FrameBenchModel", "tellBehind", "(IIII)I"⟩, 71) := ⟨⟨by decide +kernel, by decide +kernel⟩, List.mem_of_getElem? (i := 1063) (by decide +kernel), List.mem_of_getElem? (i := 1574) (by decide +kernel), List.mem_of_getElem? (i := 1575) (by decide +kernel)⟩
theorem lw_p111 : lw_okq (⟨"FrameBenchModel", "tellObject", "(IIIIIZ)I"⟩, 71) := ⟨⟨by decide +kernel, by decide +kernel⟩, List.mem_of_getElem? (i := 1063) (by decide +kernel), List.mem_of_getElem? (i := 1578) (by decide +kernel), List.mem_of_getElem? (i := 1579) (by decide +kernel)⟩
def lw_privs_7 : List (MethodName × Nat) := [(⟨"FrameBenchModel", "append", "(II)I"⟩, 71), (⟨"FrameBenchModel", "heads", "(II)I"⟩, 71), (⟨"FrameBenchModel", "manyBehind", "(I)I"⟩, 71), (⟨"FrameBenchModel", "name", "(I)V"⟩, 71), (⟨"FrameBenchModel", "tell", "(Z)I"⟩, 71), (⟨"FrameBenchModel", "askOne", "()I"⟩, 71), (⟨"FrameBenchModel", "countXs", "()V"⟩, 71), (⟨"FrameBenchModel", "isXs", "(I)Z"⟩, 71), (⟨"FrameBenchModel", "takeLetters", "(J)V"⟩, 71), (⟨"FrameBenchModel", "tellFamily", "(III)I"⟩, 71), (⟨"FrameBenchModel", "say", "(I)V"⟩, 71), (⟨"FrameBenchModel", "sayVar", "(I)V"⟩, 71), (⟨"FrameBenchModel", "ended", "(I)I"⟩, 71), (⟨"FrameBenchModel", "sayPart", "(J)V"⟩, 71), (⟨"FrameBenchModel", "tellBehind", "(IIII)I"⟩, 71), (⟨"FrameBenchModel", "tellObject", "(IIIIIZ)I"⟩, 71)]
theorem lw_r7 : ∀ q ∈ lw_privs_7, lw_okq q := List.forall_mem_cons.mpr ⟨lw_p96, List.forall_mem_cons.mpr ⟨lw_p97, List.forall_mem_cons.mpr ⟨lw_p98, List.forall_mem_cons.mpr ⟨lw_p99, List.forall_mem_cons.mpr ⟨lw_p100, List.forall_mem_cons.mpr ⟨lw_p101, List.forall_mem_cons.mpr ⟨lw_p102, List.forall_mem_cons.mpr ⟨lw_p103, List.forall_mem_cons.mpr ⟨lw_p104, List.forall_mem_cons.mpr ⟨lw_p105, List.forall_mem_cons.mpr ⟨lw_p106, List.forall_mem_cons.mpr ⟨lw_p107, List.forall_mem_cons.mpr ⟨lw_p108, List.forall_mem_cons.mpr ⟨lw_p109, List.forall_mem_cons.mpr ⟨lw_p110, List.forall_mem_cons.mpr ⟨lw_p111, fun _ h => absurd h List.not_mem_nil⟩⟩⟩⟩⟩⟩⟩⟩⟩⟩⟩⟩⟩⟩⟩⟩
theorem lw_p112 : lw_okq (⟨"FrameBenchModel", "tellLambda", "(IIIZ)I"⟩, 71) := ⟨⟨by decide +kernel, by decide +kernel⟩, List.mem_of_getElem? (i := 1063) (by decide +kernel), List.mem_of_getElem? (i := 1582) (by decide +kernel), List.mem_of_getElem? (i := 1583) (by decide +kernel)⟩
theorem lw_p113 : lw_okq (⟨"FrameBenchModel", "tellHead", "(IIIZ)I"⟩, 71) := ⟨⟨by decide +kernel, by decide +kernel⟩, List.mem_of_getElem? (i := 1063) (by decide +kernel), List.mem_of_getElem? (i := 1586) (by decide +kernel), List.mem_of_getElem? (i := 1587) (by decide +kernel)⟩
def lw_privs_8 : List (MethodName × Nat) := [(⟨"FrameBenchModel", "tellLambda", "(IIIZ)I"⟩, 71), (⟨"FrameBenchModel", "tellHead", "(IIIZ)I"⟩, 71)]
theorem lw_r8 : ∀ q ∈ lw_privs_8, lw_okq q := List.forall_mem_cons.mpr ⟨lw_p112, List.forall_mem_cons.mpr ⟨lw_p113, fun _ h => absurd h List.not_mem_nil⟩⟩
def lw_privs : List (MethodName × Nat) := lw_privs_1 ++ (lw_privs_2 ++ (lw_privs_3 ++ (lw_privs_4 ++ (lw_privs_5 ++ (lw_privs_6 ++ (lw_privs_7 ++ (lw_privs_8)))))))
def lw_tbl : List Cond := k2_sels lw_privs ++ tables_1
theorem lw_privs_ok : ∀ q ∈ lw_privs, lw_okq q := by
  show ∀ q ∈ lw_privs_1 ++ (lw_privs_2 ++ (lw_privs_3 ++ (lw_privs_4 ++ (lw_privs_5 ++ (lw_privs_6 ++ (lw_privs_7 ++ (lw_privs_8))))))), lw_okq q
  exact List.forall_mem_append.mpr ⟨lw_r1, List.forall_mem_append.mpr ⟨lw_r2, List.forall_mem_append.mpr ⟨lw_r3, List.forall_mem_append.mpr ⟨lw_r4, List.forall_mem_append.mpr ⟨lw_r5, List.forall_mem_append.mpr ⟨lw_r6, List.forall_mem_append.mpr ⟨lw_r7, lw_r8⟩⟩⟩⟩⟩⟩⟩
end
section
/-! A small machine of my own: values, a state of numbers, one step of one instruction by continuation; its runs without a clock. -/
abbrev c_V : Type := Int32 ⊕ Int64 ⊕ Nat
abbrev c_S : Type := (Nat → Nat → Int32) × (Nat → Nat → Int64)
abbrev c_L : Type := List (Nat × c_V)
abbrev c_R : Type := Option (c_S × Int32)
abbrev c_C : Type := Nat → List c_V → c_S → c_R
abbrev c_K : Type := Nat → c_L → List c_V → c_S → c_R
abbrev c_E : Type := Instr × Nat × c_V × Nat × Nat × Nat × List (Int32 × Nat)
abbrev c_D : Type := (Nat × List Nat) ⊕ (FieldType × Nat)
abbrev v_i (x : Int32) : c_V := .inl x
abbrev v_l (x : Int64) : c_V := .inr (.inl x)
abbrev v_r (k : Nat) : c_V := .inr (.inr k)
def c_lk {α : Type} : List (Nat × α) → Nat → Option α
  | [], _ => none
  | (j, v) :: t, i => match Nat.beq j i with
    | true => some v
    | false => c_lk t i
def c_cat : c_V → Nat
  | .inr (.inl _) => 2
  | .inr (.inr _) => 1
  | .inl _ => 1
def c_ins (i : Nat) (v : c_V) : c_L → c_L
  | [] => [(i, v)]
  | (j, w) :: t => match Nat.ble i j with
    | true => (i, v) :: (j, w) :: t
    | false => (j, w) :: c_ins i v t
def c_fil (p : Nat → c_V → Bool) : c_L → c_L
  | [] => []
  | (j, w) :: t => match p j w with
    | true => (j, w) :: c_fil p t
    | false => c_fil p t
def c_st1 (i : Nat) (v : c_V) (l : c_L) : c_L := c_ins i v (c_fil (fun j w => !(Nat.beq j i) && !(Nat.beq (j + 1) i && Nat.beq (c_cat w) 2)) l)
def c_st2 (i : Nat) (v : c_V) (l : c_L) : c_L := c_ins i v (c_fil (fun j w => !(Nat.beq j i) && (!(Nat.beq j (i + 1)) && !(Nat.beq (j + 1) i && Nat.beq (c_cat w) 2))) l)
def c_has : List Nat → Nat → Bool
  | [], _ => false
  | j :: t, i => match Nat.beq j i with
    | true => true
    | false => c_has t i
def c_nr (L : List (Nat × List Nat)) (pc : Nat) (lv : c_L) : c_L := match c_lk L pc with
  | some ks => c_fil (fun j _ => c_has ks j) lv
  | none => lv
def c_stop (L : List (Nat × List Nat)) (pc : Nat) : Bool := match c_lk L pc with
  | some _ => true
  | none => false
def c_inb (i : Int32) (n : Nat) : Bool := decide (¬ (i < 0 ∨ n ≤ i.toNatClampNeg))
def c_bz (x : Int32) : Bool := x == 0 || x == 1
def c_put (σ : c_S) (k j : Nat) (x : Int32) : c_S := (fun a => match Nat.beq a k with
  | true => upd (σ.1 k) j x
  | false => σ.1 a, σ.2)
def c_putL (σ : c_S) (k j : Nat) (x : Int64) : c_S := (σ.1, fun a => match Nat.beq a k with
  | true => vp_updL (σ.2 k) j x
  | false => σ.2 a)
def c_pop : Nat → List c_V → List c_V → Option (List c_V × List c_V)
  | 0, acc, st => some (acc, st)
  | n + 1, acc, x :: st => c_pop n (x :: acc) st
  | _ + 1, _, [] => none
def c_sum : List c_V → Nat
  | [] => 0
  | x :: r => c_cat x + c_sum r
def c_bd (o : c_R) (f : c_S → Int32 → c_R) : c_R := match o with
  | some (σ, x) => f σ x
  | none => none
def c_sw (x : Int32) (d : Nat) (f : Nat → c_R) : List (Int32 × Nat) → c_R
  | [] => f d
  | (k, t) :: r => if x = k then f t else c_sw x d f r
def c_nth {α : Type} : List α → Nat → Option α
  | [], _ => none
  | x :: _, 0 => some x
  | _ :: t, n + 1 => c_nth t n
def c_at (l : c_L) (i : Nat) (f : c_V → c_R) : c_R := match c_lk l i with
  | some v => f v
  | none => none
def c_isI (v : c_V) (f : Int32 → c_R) : c_R := match v with
  | .inl x => f x
  | .inr _ => none
def c_isL (v : c_V) (f : Int64 → c_R) : c_R := match v with
  | .inr (.inl x) => f x
  | .inr (.inr _) => none
  | .inl _ => none
def c_isR (v : c_V) (f : Nat → c_R) : c_R := match v with
  | .inr (.inr x) => f x
  | .inr (.inl _) => none
  | .inl _ => none
def c_p1 (st : List c_V) (f : c_V → List c_V → c_R) : c_R := match st with
  | x :: r => f x r
  | [] => none
def c_obj (CT : List c_D) (k u : Nat) (f : List Nat → c_R) : c_R := match c_nth CT k with
  | some (.inl (ci, sl)) => (match Nat.beq ci u with
    | true => f sl
    | false => none)
  | some (.inr _) => none
  | none => none
def c_arr (CT : List c_D) (k : Nat) (f : FieldType → Nat → c_R) : c_R := match c_nth CT k with
  | some (.inr (ty, n)) => f ty n
  | some (.inl _) => none
  | none => none
def c_rg (i : Int32) (n : Nat) (f : c_R) : c_R := if c_inb i n = true then f else none
def c_call (CT : List c_D) (vir : Bool) (C : c_C) (ax : c_V) (t u w : Nat) (st : List c_V) (σ : c_S) (f : List c_V → c_S → c_R) : c_R :=
  c_isR ax fun n => match c_pop n [] st with
    | none => none
    | some (as, r) => match Nat.ble (c_sum r) 8 with
      | false => none
      | true =>
        let go : c_R := (match u with
          | 0 => c_bd (C t as σ) fun σ' _ => f r σ'
          | _ + 1 => c_bd (C t as σ) fun σ' x => f (.inl x :: r) σ')
        match vir with
        | false => go
        | true => c_p1 as fun a _ => c_isR a fun k => c_obj CT k w fun _ => go
def c_s1 (CT : List c_D) (e : c_E) (rb : Nat) (C : c_C) (lv : c_L) (st : List c_V) (σ : c_S) (K : c_K) : c_R :=
  match e with
  | (ins, nx, ax, t, u, w, sw) =>
  match ins with
  | .aload_n i => c_at lv i.val fun v => c_isR v fun k => K nx lv (.inr (.inr k) :: st) σ
  | .aload i => c_at lv i fun v => c_isR v fun k => K nx lv (.inr (.inr k) :: st) σ
  | .iload_n i => c_at lv i.val fun v => c_isI v fun x => K nx lv (.inl x :: st) σ
  | .iload i => c_at lv i fun v => c_isI v fun x => K nx lv (.inl x :: st) σ
  | .lload_n i => c_at lv i.val fun v => c_isL v fun x => K nx lv (.inr (.inl x) :: st) σ
  | .lload i => c_at lv i fun v => c_isL v fun x => K nx lv (.inr (.inl x) :: st) σ
  | .istore_n i => c_p1 st fun v r => c_isI v fun x => K nx (c_st1 i.val (.inl x) lv) r σ
  | .istore i => c_p1 st fun v r => c_isI v fun x => K nx (c_st1 i (.inl x) lv) r σ
  | .lstore_n i => c_p1 st fun v r => c_isL v fun x => K nx (c_st2 i.val (.inr (.inl x)) lv) r σ
  | .lstore i => c_p1 st fun v r => c_isL v fun x => K nx (c_st2 i (.inr (.inl x)) lv) r σ
  | .iinc i _ => c_at lv i fun v => c_isI v fun x => c_isI ax fun y => K nx (c_st1 i (.inl (x + y)) lv) st σ
  | .iconst _ => c_isI ax fun x => K nx lv (.inl x :: st) σ
  | .bipush _ => c_isI ax fun x => K nx lv (.inl x :: st) σ
  | .sipush _ => c_isI ax fun x => K nx lv (.inl x :: st) σ
  | .ldc _ => c_isI ax fun x => K nx lv (.inl x :: st) σ
  | .lconst _ => c_isL ax fun x => K nx lv (.inr (.inl x) :: st) σ
  | .ldc2_w _ => c_isL ax fun x => K nx lv (.inr (.inl x) :: st) σ
  | .iadd => c_p1 st fun v r => c_isI v fun y => c_p1 r fun v r => c_isI v fun x => K nx lv (.inl (x + y) :: r) σ
  | .isub => c_p1 st fun v r => c_isI v fun y => c_p1 r fun v r => c_isI v fun x => K nx lv (.inl (x - y) :: r) σ
  | .imul => c_p1 st fun v r => c_isI v fun y => c_p1 r fun v r => c_isI v fun x => K nx lv (.inl (x * y) :: r) σ
  | .iand => c_p1 st fun v r => c_isI v fun y => c_p1 r fun v r => c_isI v fun x => K nx lv (.inl (x &&& y) :: r) σ
  | .idiv => c_p1 st fun v r => c_isI v fun y => c_p1 r fun v r => c_isI v fun x => if y = 0 then none else K nx lv (.inl (x / y) :: r) σ
  | .irem => c_p1 st fun v r => c_isI v fun y => c_p1 r fun v r => c_isI v fun x => if y = 0 then none else K nx lv (.inl (x - x / y * y) :: r) σ
  | .ineg => c_p1 st fun v r => c_isI v fun x => K nx lv (.inl (-x) :: r) σ
  | .ladd => c_p1 st fun v r => c_isL v fun y => c_p1 r fun v r => c_isL v fun x => K nx lv (.inr (.inl (x + y)) :: r) σ
  | .lmul => c_p1 st fun v r => c_isL v fun y => c_p1 r fun v r => c_isL v fun x => K nx lv (.inr (.inl (x * y)) :: r) σ
  | .land => c_p1 st fun v r => c_isL v fun y => c_p1 r fun v r => c_isL v fun x => K nx lv (.inr (.inl (x &&& y)) :: r) σ
  | .lor => c_p1 st fun v r => c_isL v fun y => c_p1 r fun v r => c_isL v fun x => K nx lv (.inr (.inl (x ||| y)) :: r) σ
  | .ldiv => c_p1 st fun v r => c_isL v fun y => c_p1 r fun v r => c_isL v fun x => if y = 0 then none else K nx lv (.inr (.inl (x / y)) :: r) σ
  | .lrem => c_p1 st fun v r => c_isL v fun y => c_p1 r fun v r => c_isL v fun x => if y = 0 then none else K nx lv (.inr (.inl (x - x / y * y)) :: r) σ
  | .lshl => c_p1 st fun v r => c_isI v fun y => c_p1 r fun v r => c_isL v fun x => K nx lv (.inr (.inl (x <<< (y.toInt64 &&& 63))) :: r) σ
  | .lshr => c_p1 st fun v r => c_isI v fun y => c_p1 r fun v r => c_isL v fun x => K nx lv (.inr (.inl (x >>> (y.toInt64 &&& 63))) :: r) σ
  | .lushr => c_p1 st fun v r => c_isI v fun y => c_p1 r fun v r => c_isL v fun x => K nx lv (.inr (.inl (x.toUInt64 >>> (y.toInt64.toUInt64 &&& Int64.toUInt64 63)).toInt64) :: r) σ
  | .lcmp => c_p1 st fun v r => c_isL v fun y => c_p1 r fun v r => c_isL v fun x => K nx lv (.inl (lg_cmp x y) :: r) σ
  | .i2l => c_p1 st fun v r => c_isI v fun x => K nx lv (.inr (.inl x.toInt64) :: r) σ
  | .l2i => c_p1 st fun v r => c_isL v fun x => K nx lv (.inl x.toInt32 :: r) σ
  | .i2c => c_p1 st fun v r => c_isI v fun x => K nx lv (.inl (x.toUInt32 % 65536).toInt32 :: r) σ
  | .dup => c_p1 st fun v r => (match v with
    | .inl x => K nx lv (.inl x :: .inl x :: r) σ
    | .inr (.inr x) => K nx lv (.inr (.inr x) :: .inr (.inr x) :: r) σ
    | .inr (.inl _) => none)
  | .pop => c_p1 st fun v r => c_isI v fun _ => K nx lv r σ
  | .goto _ => K t lv st σ
  | .if_icmp cd _ => c_p1 st fun v r => c_isI v fun y => c_p1 r fun v r => c_isI v fun x => (match cd with
    | .eq => if x = y then K t lv r σ else K nx lv r σ
    | .ne => if x = y then K nx lv r σ else K t lv r σ
    | .lt => if x < y then K t lv r σ else K nx lv r σ
    | .ge => if x < y then K nx lv r σ else K t lv r σ
    | .gt => if y < x then K t lv r σ else K nx lv r σ
    | .le => if y < x then K nx lv r σ else K t lv r σ)
  | .ifCond cd _ => c_p1 st fun v r => c_isI v fun x => (match cd with
    | .eq => if x = 0 then K t lv r σ else K nx lv r σ
    | .ne => if x = 0 then K nx lv r σ else K t lv r σ
    | .lt => if x < 0 then K t lv r σ else K nx lv r σ
    | .ge => if x < 0 then K nx lv r σ else K t lv r σ
    | .gt => if 0 < x then K t lv r σ else K nx lv r σ
    | .le => if 0 < x then K nx lv r σ else K t lv r σ)
  | .tableswitch _ _ _ _ => c_p1 st fun v r => c_isI v fun x => c_sw x t (fun p => K p lv r σ) sw
  | .lookupswitch _ _ => c_p1 st fun v r => c_isI v fun x => c_sw x t (fun p => K p lv r σ) sw
  | .getfield _ => c_p1 st fun v r => c_isR v fun k => c_obj CT k u fun sl => (match c_nth sl t with
    | some (n + 2) => K nx lv (.inr (.inr n) :: r) σ
    | some _ => K nx lv (.inl (σ.1 k t) :: r) σ
    | none => none)
  | .putfield _ => c_p1 st fun v r => c_isI v fun x => c_p1 r fun v r => c_isR v fun k => c_obj CT k u fun sl => (match c_nth sl t with
    | some 0 => K nx lv r (c_put σ k t x)
    | some 1 => if c_bz x = true then K nx lv r (c_put σ k t x) else none
    | some (_ + 2) => none
    | none => none)
  | .iaload => c_p1 st fun v r => c_isI v fun i => c_p1 r fun v r => c_isR v fun k => c_arr CT k fun ty n => (match ty with
    | .int => c_rg i n (K nx lv (.inl (σ.1 k i.toNatClampNeg) :: r) σ)
    | _ => none)
  | .caload => c_p1 st fun v r => c_isI v fun i => c_p1 r fun v r => c_isR v fun k => c_arr CT k fun ty n => (match ty with
    | .char => c_rg i n (K nx lv (.inl (σ.1 k i.toNatClampNeg) :: r) σ)
    | _ => none)
  | .baload => c_p1 st fun v r => c_isI v fun i => c_p1 r fun v r => c_isR v fun k => c_arr CT k fun ty n => (match ty with
    | .boolean => c_rg i n (K nx lv (.inl (σ.1 k i.toNatClampNeg) :: r) σ)
    | _ => none)
  | .laload => c_p1 st fun v r => c_isI v fun i => c_p1 r fun v r => c_isR v fun k => c_arr CT k fun ty n => (match ty with
    | .long => c_rg i n (K nx lv (.inr (.inl (σ.2 k i.toNatClampNeg)) :: r) σ)
    | _ => none)
  | .iastore => c_p1 st fun v r => c_isI v fun x => c_p1 r fun v r => c_isI v fun i => c_p1 r fun v r => c_isR v fun k => c_arr CT k fun ty n => (match ty with
    | .int => c_rg i n (K nx lv r (c_put σ k i.toNatClampNeg x))
    | _ => none)
  | .castore => c_p1 st fun v r => c_isI v fun x => c_p1 r fun v r => c_isI v fun i => c_p1 r fun v r => c_isR v fun k => c_arr CT k fun ty n => (match ty with
    | .char => c_rg i n (K nx lv r (c_put σ k i.toNatClampNeg (vp_nar .char x)))
    | _ => none)
  | .bastore => c_p1 st fun v r => c_isI v fun x => c_p1 r fun v r => c_isI v fun i => c_p1 r fun v r => c_isR v fun k => c_arr CT k fun ty n => (match ty with
    | .boolean => c_rg i n (K nx lv r (c_put σ k i.toNatClampNeg (vp_nar .boolean x)))
    | _ => none)
  | .lastore => c_p1 st fun v r => c_isL v fun x => c_p1 r fun v r => c_isI v fun i => c_p1 r fun v r => c_isR v fun k => c_arr CT k fun ty n => (match ty with
    | .long => c_rg i n (K nx lv r (c_putL σ k i.toNatClampNeg x))
    | _ => none)
  | .arraylength => c_p1 st fun v r => c_isR v fun k => c_arr CT k fun _ n => K nx lv (.inl (Int32.ofNat n) :: r) σ
  | .invokevirtual _ => c_call CT true C ax t u w st σ fun st' σ' => K nx lv st' σ'
  | .invokestatic _ => (match w with
    | 0 => c_call CT false C ax t u w st σ fun st' σ' => K nx lv st' σ'
    | _ + 1 => c_p1 st fun v r => c_isI v fun y => c_p1 r fun v r => c_isI v fun x => (match Nat.ble (c_sum r) 8 with
      | true => K nx lv (.inl (if y < x then y else x) :: r) σ
      | false => none))
  | .ireturn => c_p1 st fun v r => c_isI v fun x => (match r with
    | [] => (match rb with
      | 1 => some (σ, x)
      | 2 => if c_bz x = true then some (σ, x) else none
      | _ => none)
    | _ :: _ => none)
  | .return_ => (match st with
    | [] => (match rb with
      | 0 => some (σ, 0)
      | _ => none)
    | _ :: _ => none)
  | _ => none
/-- runs of at most n instructions -/
def c_go (CT : List c_D) (T : List (Nat × c_E)) (L : List (Nat × List Nat)) (rb : Nat) (C : c_C) : Nat → c_K
  | 0, _, _, _, _ => none
  | n + 1, pc, lv, st, σ => match c_lk T pc with
    | none => none
    | some e => c_s1 CT e rb C lv st σ (fun pc' lv' st' σ' => c_go CT T L rb C n pc' (c_nr L pc' lv') st' σ')
end
section
/-! one step either stops, or answers, or goes on at one place: so runs have a limit -/
def c_ct (F : c_K → c_R) : Prop := (∀ K, F K = none) ∨ (∃ x, ∀ K, F K = some x) ∨ ∃ pc lv st σ, ∀ K, F K = K pc lv st σ
theorem ct_n : c_ct (fun _ => none) := Or.inl fun _ => rfl
theorem ct_s (x : c_S × Int32) : c_ct (fun _ => some x) := Or.inr (Or.inl ⟨x, fun _ => rfl⟩)
theorem ct_K (pc : Nat) (lv : c_L) (st : List c_V) (σ : c_S) : c_ct (fun K => K pc lv st σ) := Or.inr (Or.inr ⟨pc, lv, st, σ, fun _ => rfl⟩)
theorem ct_if {c : Prop} [Decidable c] {F G : c_K → c_R} (h1 : c_ct F) (h2 : c_ct G) : c_ct (fun K => if c then F K else G K) := by
  by_cases h : c
  · simpa only [h, if_true] using h1
  · simpa only [h, if_false] using h2
theorem ct_at {l : c_L} {i : Nat} {F : c_V → c_K → c_R} (h : ∀ v, c_ct (F v)) : c_ct (fun K => c_at l i (fun v => F v K)) := by
  unfold c_at
  cases c_lk l i with
  | none => exact ct_n
  | some v => exact h v
theorem ct_isI {v : c_V} {F : Int32 → c_K → c_R} (h : ∀ v, c_ct (F v)) : c_ct (fun K => c_isI v (fun v => F v K)) := by
  rcases v with v | v
  · exact h v
  · exact ct_n
theorem ct_isL {v : c_V} {F : Int64 → c_K → c_R} (h : ∀ v, c_ct (F v)) : c_ct (fun K => c_isL v (fun v => F v K)) := by
  rcases v with v | v | v
  · exact ct_n
  · exact h v
  · exact ct_n
theorem ct_isR {v : c_V} {F : Nat → c_K → c_R} (h : ∀ v, c_ct (F v)) : c_ct (fun K => c_isR v (fun v => F v K)) := by
  rcases v with v | v | v
  · exact ct_n
  · exact ct_n
  · exact h v
theorem ct_p1 {st : List c_V} {F : c_V → List c_V → c_K → c_R} (h : ∀ v r, c_ct (F v r)) : c_ct (fun K => c_p1 st (fun v r => F v r K)) := by
  cases st with
  | nil => exact ct_n
  | cons v r => exact h v r
theorem ct_obj {CT : List c_D} {k u : Nat} {F : List Nat → c_K → c_R} (h : ∀ v, c_ct (F v)) : c_ct (fun K => c_obj CT k u (fun v => F v K)) := by
  unfold c_obj
  rcases c_nth CT k with _ | ⟨⟨ci, sl⟩⟩ | _
  · exact ct_n
  · cases hb : Nat.beq ci u
    · simp only [hb]; exact ct_n
    · simp only [hb]; exact h sl
  · exact ct_n
theorem ct_arr {CT : List c_D} {k : Nat} {F : FieldType → Nat → c_K → c_R} (h : ∀ v n, c_ct (F v n)) : c_ct (fun K => c_arr CT k (fun v n => F v n K)) := by
  unfold c_arr
  rcases c_nth CT k with _ | _ | ⟨ty, n⟩
  · exact ct_n
  · exact ct_n
  · exact h ty n
theorem ct_rg {i : Int32} {n : Nat} {F : c_K → c_R} (h : c_ct F) : c_ct (fun K => c_rg i n (F K)) := by
  unfold c_rg
  exact ct_if h ct_n
theorem ct_bd {o : c_R} {F : c_S → Int32 → c_K → c_R} (h : ∀ σ x, c_ct (F σ x)) : c_ct (fun K => c_bd o (fun σ x => F σ x K)) := by
  unfold c_bd
  rcases o with _ | ⟨σ, x⟩
  · exact ct_n
  · exact h σ x
theorem ct_sw {x : Int32} {d : Nat} {F : Nat → c_K → c_R} (h : ∀ p, c_ct (F p)) (sw : List (Int32 × Nat)) : c_ct (fun K => c_sw x d (fun p => F p K) sw) := by
  induction sw with
  | nil => exact h d
  | cons q r ih =>
    obtain ⟨k, t⟩ := q
    simp only [c_sw]
    exact ct_if (h t) ih
theorem ct_call {CT : List c_D} {vir : Bool} {C : c_C} {ax : c_V} {t u w : Nat} {st : List c_V} {σ : c_S} {F : List c_V → c_S → c_K → c_R} (h : ∀ r s, c_ct (F r s)) : c_ct (fun K => c_call CT vir C ax t u w st σ (fun r s => F r s K)) := by
  unfold c_call
  refine ct_isR fun n => ?_
  rcases c_pop n [] st with _ | ⟨as, r⟩
  · exact ct_n
  · have hg : c_ct (fun K => (match u with
          | 0 => c_bd (C t as σ) fun σ' _ => F r σ' K
          | _ + 1 => c_bd (C t as σ) fun σ' x => F (.inl x :: r) σ' K)) := by
      cases u with
      | zero => exact ct_bd fun σ x => h _ _
      | succ u => exact ct_bd fun σ x => h _ _
    cases hb : Nat.ble (c_sum r) 8
    · simp only [hb]; exact ct_n
    · simp only [hb]
      cases vir with
      | false => exact hg
      | true => exact ct_p1 fun a _ => ct_isR fun k => ct_obj fun _ => hg
set_option maxHeartbeats 4000000 in
theorem ct_s1 (CT : List c_D) (e : c_E) (rb : Nat) (C : c_C) (lv : c_L) (st : List c_V) (σ : c_S) : c_ct (c_s1 CT e rb C lv st σ) := by
  obtain ⟨ins, nx, ax, t, u, w, sw⟩ := e
  show c_ct (fun K => c_s1 CT (ins, nx, ax, t, u, w, sw) rb C lv st σ K)
  unfold c_s1
  cases ins <;> dsimp only <;> first
    | exact ct_n
    | exact ct_K _ _ _ _
    | exact ct_at fun v => ct_isR fun k => ct_K _ _ _ _
    | exact ct_at fun v => ct_isI fun k => ct_K _ _ _ _
    | exact ct_at fun v => ct_isL fun k => ct_K _ _ _ _
    | exact ct_p1 fun v r => ct_isI fun x => ct_K _ _ _ _
    | exact ct_p1 fun v r => ct_isL fun x => ct_K _ _ _ _
    | exact ct_at fun v => ct_isI fun x => ct_isI fun y => ct_K _ _ _ _
    | exact ct_isI fun x => ct_K _ _ _ _
    | exact ct_isL fun x => ct_K _ _ _ _
    | exact ct_p1 fun v r => ct_isI fun x => ct_p1 fun v r => ct_isI fun y => ct_K _ _ _ _
    | exact ct_p1 fun v r => ct_isI fun x => ct_p1 fun v r => ct_isI fun y => ct_if ct_n (ct_K _ _ _ _)
    | exact ct_p1 fun v r => ct_isL fun x => ct_p1 fun v r => ct_isL fun y => ct_K _ _ _ _
    | exact ct_p1 fun v r => ct_isL fun x => ct_p1 fun v r => ct_isL fun y => ct_if ct_n (ct_K _ _ _ _)
    | exact ct_p1 fun v r => ct_isI fun x => ct_p1 fun v r => ct_isL fun y => ct_K _ _ _ _
    | exact ct_p1 fun v r => ct_isI fun x => ct_sw (fun p => ct_K _ _ _ _) _
    | exact ct_call fun r s => ct_K _ _ _ _
    | exact ct_p1 fun v r => ct_isR fun k => ct_arr fun ty n => ct_K _ _ _ _
    | (refine ct_p1 fun v r => ?_
       rcases v with v | v | v
       · exact ct_K _ _ _ _
       · exact ct_n
       · exact ct_K _ _ _ _)
    | (rename_i cd off
       cases cd <;> first
         | exact ct_p1 fun v r => ct_isI fun x => ct_p1 fun v r => ct_isI fun y => ct_if (ct_K _ _ _ _) (ct_K _ _ _ _)
         | exact ct_p1 fun v r => ct_isI fun x => ct_if (ct_K _ _ _ _) (ct_K _ _ _ _))
    | (refine ct_p1 fun v r => ct_isI fun i => ct_p1 fun v r => ct_isR fun k => ct_arr fun ty n => ?_
       cases ty <;> first | exact ct_n | exact ct_rg (ct_K _ _ _ _))
    | (refine ct_p1 fun v r => ct_isI fun x => ct_p1 fun v r => ct_isI fun i => ct_p1 fun v r => ct_isR fun k => ct_arr fun ty n => ?_
       cases ty <;> first | exact ct_n | exact ct_rg (ct_K _ _ _ _))
    | (refine ct_p1 fun v r => ct_isL fun x => ct_p1 fun v r => ct_isI fun i => ct_p1 fun v r => ct_isR fun k => ct_arr fun ty n => ?_
       cases ty <;> first | exact ct_n | exact ct_rg (ct_K _ _ _ _))
    | (refine ct_p1 fun v r => ct_isR fun k => ct_obj fun sl => ?_
       rcases c_nth sl t with _ | _ | _ | n
       · exact ct_n
       · exact ct_K _ _ _ _
       · exact ct_K _ _ _ _
       · exact ct_K _ _ _ _)
    | (refine ct_p1 fun v r => ct_isI fun x => ct_p1 fun v r => ct_isR fun k => ct_obj fun sl => ?_
       rcases c_nth sl t with _ | _ | _ | n
       · exact ct_n
       · exact ct_K _ _ _ _
       · exact ct_if (ct_K _ _ _ _) ct_n
       · exact ct_n)
    | (cases w with
       | zero => exact ct_call fun r s => ct_K _ _ _ _
       | succ w =>
         refine ct_p1 fun v r => ct_isI fun x => ct_p1 fun v r => ct_isI fun y => ?_
         cases hb : Nat.ble (c_sum r) 8
         · simp only [hb]; exact ct_n
         · simp only [hb]; exact ct_K _ _ _ _)
    | (refine ct_p1 fun v r => ct_isI fun x => ?_
       rcases r with _ | _
       · rcases rb with _ | _ | _ | _
         · exact ct_n
         · exact ct_s _
         · exact ct_if (ct_s _) ct_n
         · exact ct_n
       · exact ct_n)
    | (rcases st with _ | _
       · rcases rb with _ | _
         · exact ct_s _
         · exact ct_n
       · exact ct_n)
theorem c_go_succ {CT : List c_D} {T : List (Nat × c_E)} {L : List (Nat × List Nat)} {rb : Nat} {C : c_C} : ∀ (n pc : Nat) (lv : c_L) (st : List c_V) (σ : c_S) (x : c_S × Int32), c_go CT T L rb C n pc lv st σ = some x → c_go CT T L rb C (n + 1) pc lv st σ = some x
  | 0, _, _, _, _, _, h => by simp [c_go] at h
  | n + 1, pc, lv, st, σ, x, h => by
    rw [c_go] at h ⊢
    cases he : c_lk T pc with
    | none => simp [he] at h
    | some e =>
      simp only [he] at h ⊢
      rcases ct_s1 CT e rb C lv st σ with h1 | ⟨y, h1⟩ | ⟨pc1, lv1, st1, σ1, h1⟩
      · rw [h1] at h; cases h
      · rw [h1] at h ⊢; exact h
      · rw [h1] at h ⊢; exact c_go_succ n _ _ _ _ _ h
theorem c_go_mono {CT : List c_D} {T : List (Nat × c_E)} {L : List (Nat × List Nat)} {rb : Nat} {C : c_C} {n k pc : Nat} {lv : c_L} {st : List c_V} {σ : c_S} {x : c_S × Int32} (hk : n ≤ k) (h : c_go CT T L rb C n pc lv st σ = some x) : c_go CT T L rb C k pc lv st σ = some x := by
  obtain ⟨j, rfl⟩ := Nat.exists_eq_add_of_le hk
  induction j with
  | zero => exact h
  | succ j ih => exact c_go_succ _ _ _ _ _ _ (ih (Nat.le_add_right _ _))
/-- the run to its end, however long -/
noncomputable def c_run (CT : List c_D) (T : List (Nat × c_E)) (L : List (Nat × List Nat)) (rb : Nat) (C : c_C) : c_K := fun pc lv st σ =>
  @dite c_R (∃ x, ∃ n, c_go CT T L rb C n pc lv st σ = some x) (Classical.propDecidable _) (fun h => some (Classical.choose h)) (fun _ => none)
theorem c_run_iff {CT : List c_D} {T : List (Nat × c_E)} {L : List (Nat × List Nat)} {rb : Nat} {C : c_C} {pc : Nat} {lv : c_L} {st : List c_V} {σ : c_S} {x : c_S × Int32} : c_run CT T L rb C pc lv st σ = some x ↔ ∃ n, c_go CT T L rb C n pc lv st σ = some x := by
  unfold c_run
  constructor
  · intro h
    split at h
    · rename_i hx
      have := Classical.choose_spec hx
      rw [Option.some.inj h] at this
      exact this
    · cases h
  · intro h
    have hx : ∃ x, ∃ n, c_go CT T L rb C n pc lv st σ = some x := ⟨x, h⟩
    rw [dif_pos hx]
    obtain ⟨n, hn⟩ := h
    obtain ⟨k, hk⟩ := Classical.choose_spec hx
    have h1 := c_go_mono (Nat.le_max_left n k) hn
    have h2 := c_go_mono (Nat.le_max_right n k) hk
    rw [h1] at h2
    exact h2.symm
theorem c_run_eq (CT : List c_D) (T : List (Nat × c_E)) (L : List (Nat × List Nat)) (rb : Nat) (C : c_C) (pc : Nat) (lv : c_L) (st : List c_V) (σ : c_S) :
    c_run CT T L rb C pc lv st σ = (match c_lk T pc with
      | none => none
      | some e => c_s1 CT e rb C lv st σ (fun pc' lv' st' σ' => c_run CT T L rb C pc' (c_nr L pc' lv') st' σ')) := by
  apply Option.ext
  intro x
  rw [c_run_iff]
  cases he : c_lk T pc with
  | none =>
    constructor
    · rintro ⟨n, hn⟩
      cases n with
      | zero => simp [c_go] at hn
      | succ n => simp [c_go, he] at hn
    · intro h; cases h
  | some e =>
    dsimp only
    rcases ct_s1 CT e rb C lv st σ with h1 | ⟨y, h1⟩ | ⟨pc1, lv1, st1, σ1, h1⟩
    · rw [h1]
      constructor
      · rintro ⟨n, hn⟩
        cases n with
        | zero => simp [c_go] at hn
        | succ n => simp [c_go, he, h1] at hn
      · intro h; cases h
    · rw [h1]
      constructor
      · rintro ⟨n, hn⟩
        cases n with
        | zero => simp [c_go] at hn
        | succ n => simpa [c_go, he, h1] using hn
      · intro h; exact ⟨1, by simpa [c_go, he, h1] using h⟩
    · rw [h1, c_run_iff]
      constructor
      · rintro ⟨n, hn⟩
        cases n with
        | zero => simp [c_go] at hn
        | succ n => exact ⟨n, by simpa [c_go, he, h1] using hn⟩
      · rintro ⟨n, hn⟩; exact ⟨n + 1, by simpa [c_go, he, h1] using hn⟩
/-- up to the next head of a block -/
noncomputable def c_blk (CT : List c_D) (T : List (Nat × c_E)) (L : List (Nat × List Nat)) (rb : Nat) (C : c_C) : Nat → c_K
  | 0, pc, lv, st, σ => c_run CT T L rb C pc lv st σ
  | n + 1, pc, lv, st, σ => match c_lk T pc with
    | none => none
    | some e => c_s1 CT e rb C lv st σ (fun pc' lv' st' σ' => match c_stop L pc' with
      | true => c_run CT T L rb C pc' (c_nr L pc' lv') st' σ'
      | false => c_blk CT T L rb C n pc' lv' st' σ')
theorem c_blk_eq (CT : List c_D) (T : List (Nat × c_E)) (L : List (Nat × List Nat)) (rb : Nat) (C : c_C) : ∀ (n pc : Nat) (lv : c_L) (st : List c_V) (σ : c_S), c_run CT T L rb C pc lv st σ = c_blk CT T L rb C n pc lv st σ
  | 0, _, _, _, _ => rfl
  | n + 1, pc, lv, st, σ => by
    rw [c_run_eq, c_blk]
    cases c_lk T pc with
    | none => rfl
    | some e =>
      dsimp only
      congr 1
      funext pc' lv' st' σ'
      cases hb : c_lk L pc' with
      | none => simp only [c_stop, c_nr, hb]; exact c_blk_eq CT T L rb C n pc' lv' st' σ'
      | some ks => simp only [c_stop, hb]
end
section
def R_Ce : String := "FrameBench$Cells"
def F_Ce : u_T := fun k => match k with
  | 0 => ("FrameBench$Cells", "meter", "LFrameBench$Meter;", true)
  | 1 => ("FrameBench$Cells", "terms", "[I", true)
  | 2 => ("FrameBench$Cells", "scopes", "[I", true)
  | 3 => ("FrameBench$Cells", "nexts", "[I", true)
  | 4 => ("FrameBench$Cells", "binders", "[I", true)
  | _ => ("FrameBench$Cells", "top", "I", false)
def t_Ce : Nat → FieldType := fun k => match k with
  | 0 => .object "FrameBench$Meter"
  | 1 => .array .int
  | 2 => .array .int
  | 3 => .array .int
  | 4 => .array .int
  | _ => .int
theorem n_Ce : ∀ a, a < 6 → ∀ b, b < 6 → a ≠ b → (F_Ce a).2.1 ≠ (F_Ce b).2.1 := by decide +kernel
theorem t_Ce_ok : ∀ k, k < 6 → parseFieldDescriptor (F_Ce k).2.2.1 = some (t_Ce k) := by decide +kernel
theorem i_Ce : ∀ w ∈ u_ws R_Ce F_Ce 6, w ∈ lw_tbl := by decide +kernel
def R_Ck : String := "FrameBench$Checker"
def F_Ck : u_T := fun k => match k with
  | 0 => ("FrameBench$Checker", "nodes", "LFrameBench$Nodes;", true)
  | 1 => ("FrameBench$Checker", "constants", "LFrameBench$Constants;", true)
  | 2 => ("FrameBench$Checker", "meter", "LFrameBench$Meter;", true)
  | 3 => ("FrameBench$Checker", "cells", "LFrameBench$Cells;", true)
  | 4 => ("FrameBench$Checker", "machine", "LFrameBench$Machine;", true)
  | 5 => ("FrameBench$Checker", "judge", "LFrameBench$Judge;", true)
  | 6 => ("FrameBench$Checker", "fault", "I", false)
  | _ => ("FrameBench$Checker", "sort", "I", false)
def t_Ck : Nat → FieldType := fun k => match k with
  | 0 => .object "FrameBench$Nodes"
  | 1 => .object "FrameBench$Constants"
  | 2 => .object "FrameBench$Meter"
  | 3 => .object "FrameBench$Cells"
  | 4 => .object "FrameBench$Machine"
  | 5 => .object "FrameBench$Judge"
  | 6 => .int
  | _ => .int
theorem n_Ck : ∀ a, a < 8 → ∀ b, b < 8 → a ≠ b → (F_Ck a).2.1 ≠ (F_Ck b).2.1 := by decide +kernel
theorem t_Ck_ok : ∀ k, k < 8 → parseFieldDescriptor (F_Ck k).2.2.1 = some (t_Ck k) := by decide +kernel
theorem i_Ck : ∀ w ∈ u_ws R_Ck F_Ck 8, w ∈ lw_tbl := by decide +kernel
def R_Co : String := "FrameBench$Constants"
def F_Co : u_T := fun k => match k with
  | 0 => ("FrameBench$Constants", "nodes", "LFrameBench$Nodes;", true)
  | 1 => ("FrameBench$Constants", "names", "[C", true)
  | 2 => ("FrameBench$Constants", "nameLengths", "[I", true)
  | 3 => ("FrameBench$Constants", "sorts", "[I", true)
  | 4 => ("FrameBench$Constants", "types", "[I", true)
  | 5 => ("FrameBench$Constants", "bodies", "[I", true)
  | 6 => ("FrameBench$Constants", "floors", "[I", true)
  | _ => ("FrameBench$Constants", "number", "I", false)
def t_Co : Nat → FieldType := fun k => match k with
  | 0 => .object "FrameBench$Nodes"
  | 1 => .array .char
  | 2 => .array .int
  | 3 => .array .int
  | 4 => .array .int
  | 5 => .array .int
  | 6 => .array .int
  | _ => .int
theorem n_Co : ∀ a, a < 8 → ∀ b, b < 8 → a ≠ b → (F_Co a).2.1 ≠ (F_Co b).2.1 := by decide +kernel
theorem t_Co_ok : ∀ k, k < 8 → parseFieldDescriptor (F_Co k).2.2.1 = some (t_Co k) := by decide +kernel
theorem i_Co : ∀ w ∈ u_ws R_Co F_Co 8, w ∈ lw_tbl := by decide +kernel
def R_Ju : String := "FrameBench$Judge"
def F_Ju : u_T := fun k => match k with
  | 0 => ("FrameBench$Judge", "nodes", "LFrameBench$Nodes;", true)
  | 1 => ("FrameBench$Judge", "constants", "LFrameBench$Constants;", true)
  | 2 => ("FrameBench$Judge", "meter", "LFrameBench$Meter;", true)
  | 3 => ("FrameBench$Judge", "cells", "LFrameBench$Cells;", true)
  | 4 => ("FrameBench$Judge", "machine", "LFrameBench$Machine;", true)
  | 5 => ("FrameBench$Judge", "metOne", "I", false)
  | 6 => ("FrameBench$Judge", "metOther", "I", false)
  | 7 => ("FrameBench$Judge", "metType", "I", false)
  | _ => ("FrameBench$Judge", "metDepth", "I", false)
def t_Ju : Nat → FieldType := fun k => match k with
  | 0 => .object "FrameBench$Nodes"
  | 1 => .object "FrameBench$Constants"
  | 2 => .object "FrameBench$Meter"
  | 3 => .object "FrameBench$Cells"
  | 4 => .object "FrameBench$Machine"
  | 5 => .int
  | 6 => .int
  | 7 => .int
  | _ => .int
theorem n_Ju : ∀ a, a < 9 → ∀ b, b < 9 → a ≠ b → (F_Ju a).2.1 ≠ (F_Ju b).2.1 := by decide +kernel
theorem t_Ju_ok : ∀ k, k < 9 → parseFieldDescriptor (F_Ju k).2.2.1 = some (t_Ju k) := by decide +kernel
theorem i_Ju : ∀ w ∈ u_ws R_Ju F_Ju 9, w ∈ lw_tbl := by decide +kernel
def R_Ma : String := "FrameBench$Machine"
def F_Ma : u_T := fun k => match k with
  | 0 => ("FrameBench$Machine", "nodes", "LFrameBench$Nodes;", true)
  | 1 => ("FrameBench$Machine", "constants", "LFrameBench$Constants;", true)
  | 2 => ("FrameBench$Machine", "meter", "LFrameBench$Meter;", true)
  | 3 => ("FrameBench$Machine", "cells", "LFrameBench$Cells;", true)
  | 4 => ("FrameBench$Machine", "shape", "I", false)
  | 5 => ("FrameBench$Machine", "shapeScope", "I", false)
  | 6 => ("FrameBench$Machine", "head", "I", false)
  | _ => ("FrameBench$Machine", "row", "I", false)
def t_Ma : Nat → FieldType := fun k => match k with
  | 0 => .object "FrameBench$Nodes"
  | 1 => .object "FrameBench$Constants"
  | 2 => .object "FrameBench$Meter"
  | 3 => .object "FrameBench$Cells"
  | 4 => .int
  | 5 => .int
  | 6 => .int
  | _ => .int
theorem n_Ma : ∀ a, a < 8 → ∀ b, b < 8 → a ≠ b → (F_Ma a).2.1 ≠ (F_Ma b).2.1 := by decide +kernel
theorem t_Ma_ok : ∀ k, k < 8 → parseFieldDescriptor (F_Ma k).2.2.1 = some (t_Ma k) := by decide +kernel
theorem i_Ma : ∀ w ∈ u_ws R_Ma F_Ma 8, w ∈ lw_tbl := by decide +kernel
def R_Me : String := "FrameBench$Meter"
def F_Me : u_T := fun k => match k with
  | 0 => ("FrameBench$Meter", "inAll", "I", false)
  | 1 => ("FrameBench$Meter", "ofLatest", "I", false)
  | _ => ("FrameBench$Meter", "trouble", "I", false)
def t_Me : Nat → FieldType := fun k => match k with
  | 0 => .int
  | 1 => .int
  | _ => .int
theorem n_Me : ∀ a, a < 3 → ∀ b, b < 3 → a ≠ b → (F_Me a).2.1 ≠ (F_Me b).2.1 := by decide +kernel
theorem t_Me_ok : ∀ k, k < 3 → parseFieldDescriptor (F_Me k).2.2.1 = some (t_Me k) := by decide +kernel
theorem i_Me : ∀ w ∈ u_ws R_Me F_Me 3, w ∈ lw_tbl := by decide +kernel
def R_No : String := "FrameBench$Nodes"
def F_No : u_T := fun k => match k with
  | 0 => ("FrameBench$Nodes", "kinds", "[I", true)
  | 1 => ("FrameBench$Nodes", "lefts", "[I", true)
  | 2 => ("FrameBench$Nodes", "rights", "[I", true)
  | 3 => ("FrameBench$Nodes", "siblings", "[I", true)
  | 4 => ("FrameBench$Nodes", "tokens", "[I", true)
  | 5 => ("FrameBench$Nodes", "firsts", "[I", true)
  | 6 => ("FrameBench$Nodes", "places", "[I", true)
  | _ => ("FrameBench$Nodes", "top", "I", false)
def t_No : Nat → FieldType := fun k => match k with
  | 0 => .array .int
  | 1 => .array .int
  | 2 => .array .int
  | 3 => .array .int
  | 4 => .array .int
  | 5 => .array .int
  | 6 => .array .int
  | _ => .int
theorem n_No : ∀ a, a < 8 → ∀ b, b < 8 → a ≠ b → (F_No a).2.1 ≠ (F_No b).2.1 := by decide +kernel
theorem t_No_ok : ∀ k, k < 8 → parseFieldDescriptor (F_No k).2.2.1 = some (t_No k) := by decide +kernel
theorem i_No : ∀ w ∈ u_ws R_No F_No 8, w ∈ lw_tbl := by decide +kernel
def R_Pa : String := "FrameBench$Page"
def F_Pa : u_T := fun k => match k with
  | 0 => ("FrameBench$Page", "meter", "LFrameBench$Meter;", true)
  | 1 => ("FrameBench$Page", "signs", "[C", true)
  | 2 => ("FrameBench$Page", "draft", "[C", true)
  | 3 => ("FrameBench$Page", "length", "I", false)
  | _ => ("FrameBench$Page", "draftLength", "I", false)
def t_Pa : Nat → FieldType := fun k => match k with
  | 0 => .object "FrameBench$Meter"
  | 1 => .array .char
  | 2 => .array .char
  | 3 => .int
  | _ => .int
theorem n_Pa : ∀ a, a < 5 → ∀ b, b < 5 → a ≠ b → (F_Pa a).2.1 ≠ (F_Pa b).2.1 := by decide +kernel
theorem t_Pa_ok : ∀ k, k < 5 → parseFieldDescriptor (F_Pa k).2.2.1 = some (t_Pa k) := by decide +kernel
theorem i_Pa : ∀ w ∈ u_ws R_Pa F_Pa 5, w ∈ lw_tbl := by decide +kernel
def R_Re : String := "FrameBench$Reader"
def F_Re : u_T := fun k => match k with
  | 0 => ("FrameBench$Reader", "tape", "LFrameBench$Tape;", true)
  | 1 => ("FrameBench$Reader", "nodes", "LFrameBench$Nodes;", true)
  | 2 => ("FrameBench$Reader", "constants", "LFrameBench$Constants;", true)
  | 3 => ("FrameBench$Reader", "scopePlaces", "[I", true)
  | 4 => ("FrameBench$Reader", "scopeLengths", "[I", true)
  | 5 => ("FrameBench$Reader", "scope", "I", false)
  | 6 => ("FrameBench$Reader", "parts", "I", false)
  | 7 => ("FrameBench$Reader", "fault", "I", false)
  | 8 => ("FrameBench$Reader", "namePlace", "I", false)
  | 9 => ("FrameBench$Reader", "nameLength", "I", false)
  | 10 => ("FrameBench$Reader", "typeRoot", "I", false)
  | _ => ("FrameBench$Reader", "bodyRoot", "I", false)
def t_Re : Nat → FieldType := fun k => match k with
  | 0 => .object "FrameBench$Tape"
  | 1 => .object "FrameBench$Nodes"
  | 2 => .object "FrameBench$Constants"
  | 3 => .array .int
  | 4 => .array .int
  | 5 => .int
  | 6 => .int
  | 7 => .int
  | 8 => .int
  | 9 => .int
  | 10 => .int
  | _ => .int
theorem n_Re : ∀ a, a < 12 → ∀ b, b < 12 → a ≠ b → (F_Re a).2.1 ≠ (F_Re b).2.1 := by decide +kernel
theorem t_Re_ok : ∀ k, k < 12 → parseFieldDescriptor (F_Re k).2.2.1 = some (t_Re k) := by decide +kernel
theorem i_Re : ∀ w ∈ u_ws R_Re F_Re 12, w ∈ lw_tbl := by decide +kernel
def R_Ta : String := "FrameBench$Tape"
def F_Ta : u_T := fun k => match k with
  | 0 => ("FrameBench$Tape", "signs", "[C", true)
  | 1 => ("FrameBench$Tape", "length", "I", false)
  | 2 => ("FrameBench$Tape", "token", "I", false)
  | 3 => ("FrameBench$Tape", "place", "I", false)
  | _ => ("FrameBench$Tape", "behind", "I", false)
def t_Ta : Nat → FieldType := fun k => match k with
  | 0 => .array .char
  | 1 => .int
  | 2 => .int
  | 3 => .int
  | _ => .int
theorem n_Ta : ∀ a, a < 5 → ∀ b, b < 5 → a ≠ b → (F_Ta a).2.1 ≠ (F_Ta b).2.1 := by decide +kernel
theorem t_Ta_ok : ∀ k, k < 5 → parseFieldDescriptor (F_Ta k).2.2.1 = some (t_Ta k) := by decide +kernel
theorem i_Ta : ∀ w ∈ u_ws R_Ta F_Ta 5, w ∈ lw_tbl := by decide +kernel
def R_Wr : String := "FrameBench$Writer"
def F_Wr : u_T := fun k => match k with
  | 0 => ("FrameBench$Writer", "nodes", "LFrameBench$Nodes;", true)
  | 1 => ("FrameBench$Writer", "constants", "LFrameBench$Constants;", true)
  | 2 => ("FrameBench$Writer", "meter", "LFrameBench$Meter;", true)
  | 3 => ("FrameBench$Writer", "cells", "LFrameBench$Cells;", true)
  | 4 => ("FrameBench$Writer", "machine", "LFrameBench$Machine;", true)
  | 5 => ("FrameBench$Writer", "page", "LFrameBench$Page;", true)
  | _ => ("FrameBench$Writer", "xs", "I", false)
def t_Wr : Nat → FieldType := fun k => match k with
  | 0 => .object "FrameBench$Nodes"
  | 1 => .object "FrameBench$Constants"
  | 2 => .object "FrameBench$Meter"
  | 3 => .object "FrameBench$Cells"
  | 4 => .object "FrameBench$Machine"
  | 5 => .object "FrameBench$Page"
  | _ => .int
theorem n_Wr : ∀ a, a < 7 → ∀ b, b < 7 → a ≠ b → (F_Wr a).2.1 ≠ (F_Wr b).2.1 := by decide +kernel
theorem t_Wr_ok : ∀ k, k < 7 → parseFieldDescriptor (F_Wr k).2.2.1 = some (t_Wr k) := by decide +kernel
theorem i_Wr : ∀ w ∈ u_ws R_Wr F_Wr 7, w ∈ lw_tbl := by decide +kernel
def R_Fb : String := "FrameBench"
def F_Fb : u_T := fun k => match k with
  | 0 => ("FrameBench", "tape", "LFrameBench$Tape;", true)
  | 1 => ("FrameBench", "nodes", "LFrameBench$Nodes;", true)
  | 2 => ("FrameBench", "constants", "LFrameBench$Constants;", true)
  | 3 => ("FrameBench", "meter", "LFrameBench$Meter;", true)
  | 4 => ("FrameBench", "cells", "LFrameBench$Cells;", true)
  | 5 => ("FrameBench", "page", "LFrameBench$Page;", true)
  | 6 => ("FrameBench", "reader", "LFrameBench$Reader;", true)
  | 7 => ("FrameBench", "judge", "LFrameBench$Judge;", true)
  | 8 => ("FrameBench", "checker", "LFrameBench$Checker;", true)
  | _ => ("FrameBench", "writer", "LFrameBench$Writer;", true)
def t_Fb : Nat → FieldType := fun k => match k with
  | 0 => .object "FrameBench$Tape"
  | 1 => .object "FrameBench$Nodes"
  | 2 => .object "FrameBench$Constants"
  | 3 => .object "FrameBench$Meter"
  | 4 => .object "FrameBench$Cells"
  | 5 => .object "FrameBench$Page"
  | 6 => .object "FrameBench$Reader"
  | 7 => .object "FrameBench$Judge"
  | 8 => .object "FrameBench$Checker"
  | _ => .object "FrameBench$Writer"
theorem n_Fb : ∀ a, a < 10 → ∀ b, b < 10 → a ≠ b → (F_Fb a).2.1 ≠ (F_Fb b).2.1 := by decide +kernel
theorem t_Fb_ok : ∀ k, k < 10 → parseFieldDescriptor (F_Fb k).2.2.1 = some (t_Fb k) := by decide +kernel
theorem i_Fb : ∀ w ∈ u_ws R_Fb F_Fb 10, w ∈ lw_tbl := by decide +kernel
def R_Rm : String := "FrameBenchModel"
def F_Rm : u_T := fun k => match k with
  | 0 => ("FrameBenchModel", "thrown", "I", false)
  | 1 => ("FrameBenchModel", "tape", "[I", true)
  | 2 => ("FrameBenchModel", "taped", "I", false)
  | 3 => ("FrameBenchModel", "signs", "I", false)
  | 4 => ("FrameBenchModel", "sort", "[I", true)
  | 5 => ("FrameBenchModel", "place", "[I", true)
  | 6 => ("FrameBenchModel", "first", "[J", true)
  | 7 => ("FrameBenchModel", "last", "[J", true)
  | 8 => ("FrameBenchModel", "at", "I", false)
  | 9 => ("FrameBenchModel", "fault", "I", false)
  | 10 => ("FrameBenchModel", "kind", "[I", true)
  | 11 => ("FrameBenchModel", "one", "[I", true)
  | 12 => ("FrameBenchModel", "two", "[I", true)
  | 13 => ("FrameBenchModel", "token", "[I", true)
  | 14 => ("FrameBenchModel", "signAt", "[I", true)
  | 15 => ("FrameBenchModel", "bracket", "[I", true)
  | 16 => ("FrameBenchModel", "nodes", "I", false)
  | 17 => ("FrameBenchModel", "types", "I", false)
  | 18 => ("FrameBenchModel", "deep", "I", false)
  | 19 => ("FrameBenchModel", "counted", "I", false)
  | 20 => ("FrameBenchModel", "varAt", "[I", true)
  | 21 => ("FrameBenchModel", "constants", "I", false)
  | 22 => ("FrameBenchModel", "nameA", "[J", true)
  | 23 => ("FrameBenchModel", "nameB", "[J", true)
  | 24 => ("FrameBenchModel", "isFamily", "[Z", true)
  | 25 => ("FrameBenchModel", "typeOf", "[I", true)
  | 26 => ("FrameBenchModel", "meaning", "[I", true)
  | 27 => ("FrameBenchModel", "nodesAhead", "[I", true)
  | 28 => ("FrameBenchModel", "closureNode", "[I", true)
  | 29 => ("FrameBenchModel", "closureList", "[I", true)
  | 30 => ("FrameBenchModel", "closures", "I", false)
  | 31 => ("FrameBenchModel", "listHead", "[I", true)
  | 32 => ("FrameBenchModel", "listRest", "[I", true)
  | 33 => ("FrameBenchModel", "lists", "I", false)
  | 34 => ("FrameBenchModel", "behindHead", "[I", true)
  | 35 => ("FrameBenchModel", "behindRest", "[I", true)
  | 36 => ("FrameBenchModel", "behinds", "I", false)
  | 37 => ("FrameBenchModel", "newType", "[I", true)
  | 38 => ("FrameBenchModel", "newList", "[I", true)
  | 39 => ("FrameBenchModel", "newNumber", "[I", true)
  | 40 => ("FrameBenchModel", "news", "I", false)
  | 41 => ("FrameBenchModel", "steps", "I", false)
  | 42 => ("FrameBenchModel", "latest", "I", false)
  | 43 => ("FrameBenchModel", "piF", "I", false)
  | 44 => ("FrameBenchModel", "piFList", "I", false)
  | 45 => ("FrameBenchModel", "piG", "I", false)
  | 46 => ("FrameBenchModel", "piGList", "I", false)
  | 47 => ("FrameBenchModel", "spine", "I", false)
  | 48 => ("FrameBenchModel", "spineList", "I", false)
  | 49 => ("FrameBenchModel", "putNode", "[I", true)
  | 50 => ("FrameBenchModel", "putList", "[I", true)
  | 51 => ("FrameBenchModel", "head", "I", false)
  | 52 => ("FrameBenchModel", "headBehind", "I", false)
  | 53 => ("FrameBenchModel", "questions", "I", false)
  | 54 => ("FrameBenchModel", "context", "I", false)
  | 55 => ("FrameBenchModel", "bound", "I", false)
  | 56 => ("FrameBenchModel", "boundVar", "[I", true)
  | 57 => ("FrameBenchModel", "boundType", "[I", true)
  | 58 => ("FrameBenchModel", "row", "[I", true)
  | 59 => ("FrameBenchModel", "rows", "I", false)
  | 60 => ("FrameBenchModel", "isNode", "I", false)
  | 61 => ("FrameBenchModel", "isList", "I", false)
  | 62 => ("FrameBenchModel", "told", "I", false)
  | 63 => ("FrameBenchModel", "draft", "[I", true)
  | 64 => ("FrameBenchModel", "drafts", "I", false)
  | 65 => ("FrameBenchModel", "xs", "I", false)
  | 66 => ("FrameBenchModel", "isLong", "Z", false)
  | 67 => ("FrameBenchModel", "letters", "[I", true)
  | 68 => ("FrameBenchModel", "lettersMany", "I", false)
  | 69 => ("FrameBenchModel", "out", "[I", true)
  | _ => ("FrameBenchModel", "outs", "I", false)
def t_Rm : Nat → FieldType := fun k => match k with
  | 0 => .int
  | 1 => .array .int
  | 2 => .int
  | 3 => .int
  | 4 => .array .int
  | 5 => .array .int
  | 6 => .array .long
  | 7 => .array .long
  | 8 => .int
  | 9 => .int
  | 10 => .array .int
  | 11 => .array .int
  | 12 => .array .int
  | 13 => .array .int
  | 14 => .array .int
  | 15 => .array .int
  | 16 => .int
  | 17 => .int
  | 18 => .int
  | 19 => .int
  | 20 => .array .int
  | 21 => .int
  | 22 => .array .long
  | 23 => .array .long
  | 24 => .array .boolean
  | 25 => .array .int
  | 26 => .array .int
  | 27 => .array .int
  | 28 => .array .int
  | 29 => .array .int
  | 30 => .int
  | 31 => .array .int
  | 32 => .array .int
  | 33 => .int
  | 34 => .array .int
  | 35 => .array .int
  | 36 => .int
  | 37 => .array .int
  | 38 => .array .int
  | 39 => .array .int
  | 40 => .int
  | 41 => .int
  | 42 => .int
  | 43 => .int
  | 44 => .int
  | 45 => .int
  | 46 => .int
  | 47 => .int
  | 48 => .int
  | 49 => .array .int
  | 50 => .array .int
  | 51 => .int
  | 52 => .int
  | 53 => .int
  | 54 => .int
  | 55 => .int
  | 56 => .array .int
  | 57 => .array .int
  | 58 => .array .int
  | 59 => .int
  | 60 => .int
  | 61 => .int
  | 62 => .int
  | 63 => .array .int
  | 64 => .int
  | 65 => .int
  | 66 => .boolean
  | 67 => .array .int
  | 68 => .int
  | 69 => .array .int
  | _ => .int
theorem n_Rm : ∀ a, a < 71 → ∀ b, b < 71 → a ≠ b → (F_Rm a).2.1 ≠ (F_Rm b).2.1 := by decide +kernel
theorem t_Rm_ok : ∀ k, k < 71 → parseFieldDescriptor (F_Rm k).2.2.1 = some (t_Rm k) := by decide +kernel
theorem i_Rm : ∀ w ∈ u_ws R_Rm F_Rm 71, w ∈ lw_tbl := by decide +kernel
def d_CL : List vw_C := [(R_Ce, F_Ce, 6), (R_Ck, F_Ck, 8), (R_Co, F_Co, 8), (R_Ju, F_Ju, 9), (R_Ma, F_Ma, 8), (R_Me, F_Me, 3), (R_No, F_No, 8), (R_Pa, F_Pa, 5), (R_Re, F_Re, 12), (R_Ta, F_Ta, 5), (R_Wr, F_Wr, 7), (R_Fb, F_Fb, 10), (R_Rm, F_Rm, 71)]
-- cells: 0 FrameBench; 1 FrameBench$Tape; 2 FrameBench$Tape.signs; 3 FrameBench$Nodes; 4 FrameBench$Nodes.kinds; 5 FrameBench$Nodes.lefts; 6 FrameBench$Nodes.rights; 7 FrameBench$Nodes.siblings; 8 FrameBench$Nodes.tokens; 9 FrameBench$Nodes.firsts; 10 FrameBench$Nodes.places; 11 FrameBench$Constants; 12 FrameBench$Constants.names; 13 FrameBench$Constants.nameLengths; 14 FrameBench$Constants.sorts; 15 FrameBench$Constants.types; 16 FrameBench$Constants.bodies; 17 FrameBench$Constants.floors; 18 FrameBench$Meter; 19 FrameBench$Cells; 20 FrameBench$Cells.terms; 21 FrameBench$Cells.scopes; 22 FrameBench$Cells.nexts; 23 FrameBench$Cells.binders; 24 FrameBench$Page; 25 FrameBench$Page.signs; 26 FrameBench$Page.draft; 27 FrameBench$Reader; 28 FrameBench$Reader.scopePlaces; 29 FrameBench$Reader.scopeLengths; 30 FrameBench$Machine; 31 FrameBench$Judge; 32 FrameBench$Checker; 33 FrameBench$Writer; 34 FrameBenchModel; 35 FrameBenchModel.tape; 36 FrameBenchModel.sort; 37 FrameBenchModel.place; 38 FrameBenchModel.first; 39 FrameBenchModel.last; 40 FrameBenchModel.kind; 41 FrameBenchModel.one; 42 FrameBenchModel.two; 43 FrameBenchModel.token; 44 FrameBenchModel.signAt; 45 FrameBenchModel.bracket; 46 FrameBenchModel.varAt; 47 FrameBenchModel.nameA; 48 FrameBenchModel.nameB; 49 FrameBenchModel.isFamily; 50 FrameBenchModel.typeOf; 51 FrameBenchModel.meaning; 52 FrameBenchModel.nodesAhead; 53 FrameBenchModel.closureNode; 54 FrameBenchModel.closureList; 55 FrameBenchModel.listHead; 56 FrameBenchModel.listRest; 57 FrameBenchModel.behindHead; 58 FrameBenchModel.behindRest; 59 FrameBenchModel.newType; 60 FrameBenchModel.newList; 61 FrameBenchModel.newNumber; 62 FrameBenchModel.putNode; 63 FrameBenchModel.putList; 64 FrameBenchModel.boundVar; 65 FrameBenchModel.boundType; 66 FrameBenchModel.row; 67 FrameBenchModel.draft; 68 FrameBenchModel.letters; 69 FrameBenchModel.out
def d_CT : List c_D := [.inl (11, [3, 5, 13, 20, 21, 26, 29, 33, 34, 35]), .inl (9, [4, 0, 0, 0, 0]), .inr (.char, 4000), .inl (6, [6, 7, 8, 9, 10, 11, 12, 0]), .inr (.int, 12800), .inr (.int, 12800), .inr (.int, 12800), .inr (.int, 12800), .inr (.int, 12800), .inr (.int, 12800), .inr (.int, 12800), .inl (2, [5, 14, 15, 16, 17, 18, 19, 0]), .inr (.char, 1200), .inr (.int, 100), .inr (.int, 100), .inr (.int, 100), .inr (.int, 100), .inr (.int, 100), .inl (5, [0, 0, 0]), .inl (0, [20, 22, 23, 24, 25, 0]), .inr (.int, 32768), .inr (.int, 32768), .inr (.int, 32768), .inr (.int, 32768), .inl (7, [20, 27, 28, 0, 0]), .inr (.char, 2000), .inr (.char, 2000), .inl (8, [3, 5, 13, 30, 31, 0, 0, 0, 0, 0, 0, 0]), .inr (.int, 40), .inr (.int, 40), .inl (4, [5, 13, 20, 21, 0, 0, 0, 0]), .inl (3, [5, 13, 20, 21, 32, 0, 0, 0, 0]), .inl (1, [5, 13, 20, 21, 32, 33, 0, 0]), .inl (10, [5, 13, 20, 21, 32, 26, 0]), .inl (12, [0, 37, 0, 0, 38, 39, 40, 41, 0, 0, 42, 43, 44, 45, 46, 47, 0, 0, 0, 0, 48, 0, 49, 50, 51, 52, 53, 54, 55, 56, 0, 57, 58, 0, 59, 60, 0, 61, 62, 63, 0, 0, 0, 0, 0, 0, 0, 0, 0, 64, 65, 0, 0, 0, 0, 0, 66, 67, 68, 0, 0, 0, 0, 69, 0, 0, 1, 70, 0, 71, 0]), .inr (.int, 4000), .inr (.int, 4002), .inr (.int, 4002), .inr (.long, 4002), .inr (.long, 4002), .inr (.int, 136000), .inr (.int, 136000), .inr (.int, 136000), .inr (.int, 136000), .inr (.int, 136000), .inr (.int, 136000), .inr (.int, 136000), .inr (.long, 101), .inr (.long, 101), .inr (.boolean, 101), .inr (.int, 101), .inr (.int, 101), .inr (.int, 101), .inr (.int, 400000), .inr (.int, 400000), .inr (.int, 400000), .inr (.int, 400000), .inr (.int, 400000), .inr (.int, 400000), .inr (.int, 24000), .inr (.int, 24000), .inr (.int, 24000), .inr (.int, 16000), .inr (.int, 16000), .inr (.int, 64), .inr (.int, 64), .inr (.int, 700), .inr (.int, 2000), .inr (.int, 12), .inr (.int, 2000)]
def d_FL : List (Nat × Nat × Nat × Nat) := [(0, 12, 0, 1), (0, 16, 0, 2), (0, 19, 0, 3), (0, 22, 0, 4), (0, 25, 0, 5), (0, 29, 0, 0), (1, 9, 1, 0), (1, 15, 1, 1), (1, 19, 1, 2), (1, 23, 1, 3), (1, 27, 1, 4), (1, 31, 1, 5), (1, 35, 1, 7), (1, 39, 1, 6), (2, 13, 2, 1), (2, 17, 2, 2), (2, 21, 2, 3), (2, 24, 2, 4), (2, 27, 2, 5), (2, 30, 2, 6), (2, 33, 2, 0), (2, 37, 2, 7), (3, 7, 3, 0), (3, 13, 3, 1), (3, 17, 3, 2), (3, 21, 3, 3), (3, 25, 3, 4), (3, 39, 3, 7), (3, 43, 3, 5), (3, 46, 3, 6), (3, 49, 3, 8), (4, 9, 4, 0), (4, 15, 4, 1), (4, 19, 4, 2), (4, 23, 4, 3), (4, 27, 4, 4), (4, 31, 4, 5), (4, 34, 4, 6), (4, 37, 4, 7), (5, 9, 5, 1), (5, 15, 5, 2), (5, 18, 5, 0), (6, 9, 6, 0), (6, 13, 6, 1), (6, 16, 6, 2), (6, 19, 6, 3), (6, 22, 6, 4), (6, 25, 6, 5), (6, 28, 6, 6), (6, 31, 6, 7), (7, 11, 7, 1), (7, 15, 7, 2), (7, 18, 7, 0), (7, 22, 7, 3), (7, 26, 7, 4), (8, 11, 8, 3), (8, 15, 8, 4), (8, 18, 8, 0), (8, 22, 8, 1), (8, 26, 8, 2), (8, 30, 8, 7), (8, 39, 8, 8), (8, 42, 8, 9), (8, 45, 8, 10), (8, 48, 8, 11), (8, 92, 8, 6), (8, 95, 8, 5), (9, 9, 9, 0), (9, 15, 9, 1), (9, 19, 9, 2), (9, 22, 9, 3), (9, 25, 9, 4), (10, 7, 10, 0), (10, 13, 10, 1), (10, 17, 10, 2), (10, 21, 10, 3), (10, 25, 10, 4), (10, 29, 10, 5), (10, 39, 10, 6), (11, 10, 11, 0), (11, 19, 11, 1), (11, 28, 11, 2), (11, 35, 11, 3), (11, 44, 11, 4), (11, 51, 11, 5), (11, 60, 11, 6), (11, 74, 11, 7), (11, 83, 11, 8), (11, 92, 11, 9), (12, 7, 12, 1), (12, 13, 12, 4), (12, 16, 12, 5), (12, 19, 12, 6), (12, 23, 12, 7), (12, 27, 12, 10), (12, 30, 12, 11), (12, 33, 12, 12), (12, 36, 12, 13), (12, 39, 12, 14), (12, 42, 12, 15), (12, 45, 12, 20), (12, 48, 12, 22), (12, 51, 12, 23), (12, 54, 12, 24), (12, 58, 12, 25), (12, 61, 12, 26), (12, 64, 12, 27), (12, 68, 12, 28), (12, 71, 12, 29), (12, 74, 12, 31), (12, 77, 12, 32), (12, 80, 12, 34), (12, 83, 12, 35), (12, 86, 12, 37), (12, 89, 12, 38), (12, 92, 12, 39), (12, 95, 12, 49), (12, 98, 12, 50), (12, 101, 12, 56), (12, 104, 12, 57), (12, 107, 12, 58), (12, 110, 12, 63), (12, 113, 12, 67), (12, 116, 12, 69), (12, 119, 12, 0), (12, 127, 12, 2), (12, 130, 12, 3), (12, 149, 12, 8), (12, 152, 12, 9), (12, 164, 12, 16), (12, 167, 12, 17), (12, 170, 12, 18), (12, 173, 12, 19), (12, 214, 12, 21), (12, 217, 12, 30), (12, 220, 12, 33), (12, 223, 12, 36), (12, 226, 12, 40), (12, 233, 12, 42), (12, 236, 12, 41), (12, 243, 12, 54), (12, 246, 12, 55), (12, 263, 12, 47), (12, 266, 12, 48), (12, 269, 12, 43), (12, 272, 12, 44), (12, 275, 12, 45), (12, 278, 12, 46), (12, 284, 12, 51), (12, 287, 12, 52), (12, 290, 12, 53), (12, 363, 12, 59), (12, 369, 12, 60), (12, 372, 12, 61), (12, 379, 12, 62), (12, 410, 12, 64), (12, 413, 12, 66), (12, 423, 12, 65), (12, 429, 12, 68), (12, 467, 12, 70)]
def d_ML : List (Nat × Nat × Nat × Nat × Nat × Nat × Nat × Nat) := [(0, 33, 165, 0, 0, 2, 0, 5), (0, 39, 104, 0, 0, 3, 1, 0), (0, 43, 109, 0, 0, 3, 0, 0), (0, 47, 107, 0, 0, 2, 1, 0), (0, 51, 110, 0, 0, 4, 1, 0), (1, 42, 121, 0, 0, 4, 1, 1), (1, 48, 126, 0, 0, 5, 0, 1), (1, 52, 127, 0, 0, 3, 0, 1), (1, 56, 15, 1, 1, 2, 1, 0), (1, 60, 166, 0, 0, 1, 1, 5), (1, 66, 164, 0, 0, 1, 1, 5), (1, 70, 119, 0, 0, 3, 0, 1), (1, 73, 102, 0, 0, 1, 1, 0), (1, 80, 172, 0, 0, 2, 1, 6), (1, 84, 176, 0, 0, 2, 1, 6), (1, 87, 120, 0, 0, 2, 1, 1), (1, 90, 173, 0, 0, 2, 1, 6), (1, 93, 122, 0, 0, 3, 1, 1), (1, 96, 174, 0, 0, 2, 1, 6), (1, 99, 123, 0, 0, 3, 0, 1), (1, 102, 103, 0, 0, 2, 0, 0), (1, 106, 111, 0, 0, 4, 1, 0), (1, 110, 113, 0, 0, 4, 1, 0), (1, 113, 179, 0, 0, 2, 1, 6), (1, 116, 178, 0, 0, 2, 1, 6), (1, 119, 124, 0, 0, 2, 1, 1), (1, 122, 177, 0, 0, 2, 1, 6), (1, 125, 183, 0, 0, 3, 0, 6), (1, 128, 125, 0, 0, 4, 0, 1), (1, 132, 132, 0, 0, 2, 1, 2), (1, 134, 133, 0, 0, 2, 1, 2), (1, 137, 157, 0, 0, 4, 1, 4), (1, 142, 107, 0, 0, 2, 1, 0), (1, 145, 110, 0, 0, 4, 1, 0), (1, 148, 175, 0, 0, 2, 1, 6), (1, 151, 147, 1, 0, 6, 1, 3), (1, 157, 129, 0, 0, 3, 0, 1), (1, 160, 128, 0, 0, 2, 0, 1), (1, 163, 158, 0, 0, 3, 0, 4), (1, 166, 151, 0, 0, 1, 1, 4), (1, 169, 152, 0, 0, 1, 1, 4), (1, 172, 180, 0, 0, 2, 1, 6), (2, 41, 133, 0, 0, 2, 1, 2), (2, 47, 172, 0, 0, 2, 1, 6), (2, 50, 174, 0, 0, 2, 1, 6), (2, 53, 215, 0, 0, 2, 1, 9), (2, 56, 169, 0, 0, 2, 0, 6), (2, 60, 136, 0, 0, 2, 1, 2), (2, 63, 142, 0, 0, 4, 1, 2), (2, 67, 137, 0, 0, 3, 1, 2), (2, 71, 144, 0, 0, 2, 1, 2), (2, 75, 145, 0, 0, 3, 1, 2), (2, 79, 17, 1, 1, 1, 1, 0), (3, 29, 104, 0, 0, 3, 1, 0), (3, 35, 149, 0, 0, 5, 1, 3), (3, 52, 148, 0, 0, 5, 1, 3), (3, 57, 167, 0, 0, 2, 1, 5), (3, 61, 158, 0, 0, 3, 0, 4), (3, 67, 151, 0, 0, 1, 1, 4), (3, 71, 152, 0, 0, 1, 1, 4), (3, 74, 180, 0, 0, 2, 1, 6), (3, 79, 102, 0, 0, 1, 1, 0), (3, 82, 173, 0, 0, 2, 1, 6), (3, 86, 147, 0, 0, 6, 1, 3), (3, 90, 103, 0, 0, 2, 0, 0), (3, 94, 111, 0, 0, 4, 1, 0), (3, 98, 113, 0, 0, 4, 1, 0), (3, 101, 174, 0, 0, 2, 1, 6), (3, 104, 172, 0, 0, 2, 1, 6), (3, 107, 133, 0, 0, 2, 1, 2), (3, 112, 157, 0, 0, 4, 1, 4), (3, 116, 107, 0, 0, 2, 1, 0), (3, 119, 164, 0, 0, 1, 1, 5), (3, 122, 114, 0, 0, 3, 1, 0), (3, 125, 105, 0, 0, 2, 1, 0), (3, 128, 106, 0, 0, 2, 1, 0), (3, 131, 159, 0, 0, 4, 1, 4), (3, 135, 153, 0, 0, 1, 1, 4), (3, 138, 154, 0, 0, 1, 1, 4), (3, 141, 155, 0, 0, 1, 1, 4), (3, 144, 150, 0, 0, 3, 1, 3), (4, 40, 105, 0, 0, 2, 1, 0), (4, 44, 133, 0, 0, 2, 1, 2), (4, 49, 106, 0, 0, 2, 1, 0), (4, 52, 174, 0, 0, 2, 1, 6), (4, 57, 172, 0, 0, 2, 1, 6), (4, 60, 173, 0, 0, 2, 1, 6), (4, 63, 115, 0, 0, 3, 1, 0), (4, 67, 104, 0, 0, 3, 1, 0), (4, 70, 109, 0, 0, 3, 0, 0), (4, 74, 175, 0, 0, 2, 1, 6), (4, 78, 157, 0, 0, 4, 1, 4), (4, 82, 108, 0, 0, 2, 1, 0), (4, 85, 107, 0, 0, 2, 1, 0), (4, 88, 180, 0, 0, 2, 1, 6), (4, 92, 110, 0, 0, 4, 1, 0), (4, 95, 166, 0, 0, 1, 1, 5), (4, 101, 160, 0, 0, 2, 1, 4), (4, 104, 134, 0, 0, 2, 1, 2), (4, 107, 164, 0, 0, 1, 1, 5), (4, 111, 132, 0, 0, 2, 1, 2), (5, 22, 165, 0, 0, 2, 0, 5), (5, 26, 166, 0, 0, 1, 1, 5), (6, 35, 178, 0, 0, 2, 1, 6), (6, 39, 177, 0, 0, 2, 1, 6), (6, 42, 172, 0, 0, 2, 1, 6), (7, 29, 165, 0, 0, 2, 0, 5), (7, 35, 164, 0, 0, 1, 1, 5), (8, 34, 220, 0, 0, 1, 0, 9), (8, 51, 197, 0, 0, 1, 0, 8), (8, 54, 198, 0, 0, 2, 0, 8), (8, 58, 200, 0, 0, 1, 1, 8), (8, 62, 216, 0, 0, 1, 1, 9), (8, 65, 221, 0, 0, 1, 0, 9), (8, 68, 217, 0, 0, 1, 1, 9), (8, 71, 218, 0, 0, 1, 1, 9), (8, 74, 199, 0, 0, 2, 1, 8), (8, 78, 141, 0, 0, 4, 1, 2), (8, 84, 131, 0, 0, 1, 1, 2), (8, 88, 15, 1, 1, 2, 1, 0), (8, 98, 201, 0, 0, 2, 1, 8), (8, 101, 206, 0, 0, 1, 1, 8), (8, 104, 202, 0, 0, 2, 1, 8), (8, 107, 203, 0, 0, 2, 1, 8), (8, 110, 207, 0, 0, 1, 1, 8), (8, 113, 210, 0, 0, 3, 0, 8), (8, 117, 211, 0, 0, 1, 0, 8), (8, 122, 209, 0, 0, 6, 1, 8), (8, 126, 204, 0, 0, 2, 1, 8), (8, 129, 205, 0, 0, 2, 1, 8), (8, 132, 182, 0, 0, 3, 0, 6), (8, 135, 178, 0, 0, 2, 1, 6), (8, 137, 181, 0, 0, 3, 0, 6), (8, 140, 208, 0, 0, 2, 1, 8), (8, 148, 223, 0, 0, 4, 1, 9), (8, 152, 170, 0, 0, 1, 1, 6), (8, 153, 171, 0, 0, 6, 1, 6), (9, 28, 221, 0, 0, 1, 0, 9), (9, 31, 215, 0, 0, 2, 1, 9), (9, 35, 224, 0, 1, 1, 1, 0), (9, 39, 16, 1, 1, 1, 1, 0), (9, 44, 222, 0, 0, 1, 0, 9), (9, 47, 225, 0, 1, 1, 1, 0), (9, 50, 17, 1, 1, 1, 1, 0), (10, 33, 143, 0, 0, 1, 1, 2), (10, 43, 186, 0, 0, 1, 0, 7), (10, 48, 227, 0, 0, 5, 0, 10), (10, 52, 104, 0, 0, 3, 1, 0), (10, 58, 229, 0, 0, 7, 0, 10), (10, 62, 164, 0, 0, 1, 1, 5), (10, 67, 188, 0, 0, 1, 0, 7), (10, 70, 167, 0, 0, 2, 1, 5), (10, 74, 158, 0, 0, 3, 0, 4), (10, 80, 151, 0, 0, 1, 1, 4), (10, 83, 152, 0, 0, 1, 1, 4), (10, 86, 180, 0, 0, 2, 1, 6), (10, 91, 187, 0, 0, 2, 0, 7), (10, 95, 173, 0, 0, 2, 1, 6), (10, 99, 228, 0, 0, 5, 0, 10), (10, 102, 111, 0, 0, 4, 1, 0), (10, 106, 113, 0, 0, 4, 1, 0), (10, 109, 174, 0, 0, 2, 1, 6), (10, 112, 232, 0, 0, 2, 0, 10), (10, 115, 133, 0, 0, 2, 1, 2), (10, 118, 157, 0, 0, 4, 1, 4), (10, 121, 231, 0, 0, 6, 0, 10), (10, 125, 102, 0, 0, 1, 1, 0), (10, 128, 233, 0, 0, 2, 0, 10), (10, 131, 103, 0, 0, 2, 0, 0), (10, 134, 114, 0, 0, 3, 1, 0), (10, 137, 105, 0, 0, 2, 1, 0), (10, 140, 106, 0, 0, 2, 1, 0), (10, 143, 159, 0, 0, 4, 1, 4), (10, 147, 154, 0, 0, 1, 1, 4), (10, 150, 153, 0, 0, 1, 1, 4), (10, 153, 230, 0, 0, 2, 0, 10), (10, 156, 155, 0, 0, 1, 1, 4), (10, 159, 156, 0, 0, 1, 1, 4), (10, 162, 112, 0, 0, 2, 1, 0), (10, 166, 107, 0, 0, 2, 1, 0), (10, 169, 110, 0, 0, 4, 1, 0), (10, 172, 136, 0, 0, 2, 1, 2), (10, 175, 137, 0, 0, 3, 1, 2), (11, 96, 212, 0, 0, 2, 0, 9), (11, 100, 213, 0, 0, 1, 1, 9), (11, 104, 11, 0, 0, 1, 0, 11), (11, 107, 219, 0, 0, 1, 1, 9), (11, 111, 168, 0, 0, 1, 1, 6), (11, 114, 195, 0, 0, 1, 1, 8), (11, 117, 193, 0, 0, 1, 1, 8), (11, 120, 194, 0, 0, 1, 1, 8), (11, 123, 117, 0, 0, 3, 1, 1), (11, 126, 191, 0, 0, 1, 1, 8), (11, 129, 192, 0, 0, 1, 1, 8), (11, 132, 138, 0, 0, 4, 0, 2), (11, 136, 116, 0, 0, 1, 1, 1), (11, 139, 139, 0, 0, 5, 0, 2), (11, 143, 169, 0, 0, 2, 0, 6), (11, 147, 214, 0, 0, 1, 0, 9), (11, 150, 12, 0, 0, 2, 1, 11), (11, 154, 196, 0, 0, 2, 1, 8), (11, 158, 190, 0, 0, 1, 1, 8), (11, 161, 118, 0, 0, 2, 1, 1), (11, 164, 13, 0, 0, 3, 1, 11), (11, 167, 220, 0, 0, 1, 0, 9), (11, 170, 216, 0, 0, 1, 1, 9), (11, 173, 217, 0, 0, 1, 1, 9), (11, 176, 218, 0, 0, 1, 1, 9), (11, 179, 141, 0, 0, 4, 1, 2), (11, 183, 221, 0, 0, 1, 0, 9), (11, 186, 130, 0, 0, 1, 1, 2), (11, 189, 132, 0, 0, 2, 1, 2), (11, 191, 135, 0, 0, 2, 1, 2), (11, 194, 184, 0, 0, 1, 1, 7), (11, 195, 185, 0, 0, 2, 1, 7), (11, 198, 140, 0, 0, 2, 0, 2), (11, 201, 162, 0, 0, 1, 1, 5), (11, 204, 163, 0, 0, 1, 1, 5), (11, 207, 161, 0, 0, 1, 0, 5), (11, 208, 103, 0, 0, 2, 0, 0), (11, 209, 189, 0, 0, 1, 0, 8), (11, 210, 226, 0, 0, 3, 0, 10), (11, 214, 14, 0, 0, 1, 1, 11), (11, 217, 147, 1, 0, 6, 1, 3), (11, 221, 146, 0, 0, 3, 1, 3), (11, 225, 164, 0, 0, 1, 1, 5), (11, 228, 15, 0, 1, 2, 1, 0), (12, 123, 19, 0, 0, 2, 0, 12), (12, 133, 20, 0, 1, 1, 1, 0), (12, 137, 21, 0, 1, 1, 1, 0), (12, 142, 22, 0, 1, 1, 1, 0), (12, 146, 23, 0, 1, 1, 1, 0), (12, 157, 26, 0, 0, 2, 1, 12), (12, 160, 25, 0, 0, 3, 0, 12), (12, 176, 36, 0, 0, 1, 1, 12), (12, 180, 35, 0, 0, 1, 1, 12), (12, 184, 32, 0, 0, 1, 0, 12), (12, 187, 37, 0, 0, 2, 1, 12), (12, 191, 38, 0, 0, 1, 1, 12), (12, 194, 33, 0, 0, 1, 0, 12), (12, 197, 28, 0, 0, 1, 1, 12), (12, 200, 29, 0, 0, 2, 0, 12), (12, 204, 30, 0, 0, 6, 1, 12), (12, 208, 39, 0, 0, 1, 1, 12), (12, 211, 27, 0, 0, 1, 1, 12), (12, 229, 41, 0, 0, 3, 1, 12), (12, 240, 45, 0, 0, 1, 1, 12), (12, 250, 24, 0, 0, 1, 0, 12), (12, 253, 50, 0, 0, 3, 1, 12), (12, 256, 42, 0, 0, 3, 1, 12), (12, 259, 49, 0, 0, 3, 1, 12), (12, 281, 43, 0, 0, 3, 1, 12), (12, 293, 53, 0, 0, 1, 1, 12), (12, 296, 55, 0, 0, 5, 1, 12), (12, 300, 48, 0, 0, 3, 1, 12), (12, 303, 57, 0, 0, 5, 1, 12), (12, 306, 54, 0, 0, 5, 1, 12), (12, 309, 44, 0, 0, 4, 1, 12), (12, 313, 56, 0, 0, 3, 1, 12), (12, 316, 58, 0, 0, 5, 1, 12), (12, 319, 60, 0, 0, 7, 1, 12), (12, 323, 59, 0, 0, 3, 1, 12), (12, 326, 61, 0, 0, 7, 1, 12), (12, 329, 51, 0, 0, 3, 1, 12), (12, 332, 52, 0, 0, 2, 1, 12), (12, 335, 62, 0, 0, 5, 1, 12), (12, 338, 46, 0, 0, 2, 0, 12), (12, 341, 40, 0, 0, 2, 1, 12), (12, 344, 68, 0, 0, 3, 0, 12), (12, 348, 64, 0, 0, 2, 0, 12), (12, 351, 65, 0, 0, 1, 0, 12), (12, 354, 69, 0, 0, 2, 0, 12), (12, 357, 66, 0, 0, 2, 0, 12), (12, 360, 67, 0, 0, 2, 1, 12), (12, 366, 71, 0, 0, 2, 0, 12), (12, 375, 63, 0, 0, 6, 0, 12), (12, 382, 73, 0, 0, 2, 0, 12), (12, 385, 74, 0, 0, 2, 0, 12), (12, 388, 72, 0, 0, 2, 0, 12), (12, 391, 31, 0, 0, 4, 1, 12), (12, 394, 70, 0, 0, 4, 0, 12), (12, 398, 75, 0, 0, 2, 0, 12), (12, 401, 47, 0, 0, 1, 0, 12), (12, 404, 77, 0, 0, 1, 0, 12), (12, 407, 34, 0, 0, 1, 1, 12), (12, 417, 79, 0, 1, 1, 1, 0), (12, 420, 78, 0, 0, 2, 0, 12), (12, 426, 83, 0, 0, 2, 1, 12), (12, 432, 84, 0, 0, 2, 0, 12), (12, 435, 81, 0, 0, 2, 0, 12), (12, 438, 85, 0, 0, 2, 1, 12), (12, 441, 86, 0, 0, 4, 1, 12), (12, 444, 80, 0, 0, 2, 0, 12), (12, 447, 87, 0, 0, 5, 1, 12), (12, 450, 88, 0, 0, 7, 1, 12), (12, 454, 89, 0, 0, 5, 1, 12), (12, 458, 90, 0, 0, 5, 1, 12), (12, 461, 91, 0, 0, 1, 1, 12), (12, 464, 82, 0, 0, 1, 0, 12), (12, 470, 92, 0, 0, 2, 1, 12)]
def d_KI : List (Nat × Nat × Int32) := [(0, 11, 32768), (3, 115, 32768), (4, 77, 1000000), (5, 21, 60000), (10, 165, 32768), (12, 239, 60000), (12, 249, 120000)]
def d_KL : List (Nat × Nat × Int64) := [(9, 13, 255), (12, 140, 64), (12, 155, 5346309)]
abbrev c_M0 : Type := List (Nat × c_E) × List (Nat × List Nat) × Nat × Nat × MethodName × ByteArray × Nat × Option FieldType
def d_nm (k : Nat) : String := match c_nth d_CL k with
  | some q => q.1
  | none => ""
def d_fn (c k : Nat) : String × String × String × Bool := match c_nth d_CL c with
  | some q => q.2.1 k
  | none => ("", "", "", false)
def d_fN (c : Nat) : Nat := match c_nth d_CL c with
  | some q => q.2.2
  | none => 0
def ck_fl (q : Nat × Nat × Nat × Nat) : Bool := decide (q.2.2.2 < d_fN q.2.2.1) && decide ((d_fn q.2.2.1 q.2.2.2).1 = d_nm q.2.2.1) && decide (Cond.fieldLink (d_nm q.1) q.2.1 (d_nm q.2.2.1) (d_fn q.2.2.1 q.2.2.2).2.1 (d_fn q.2.2.1 q.2.2.2).2.2.1 ∈ lw_tbl)
set_option maxRecDepth 100000 in
theorem k_fl : ∀ q ∈ d_FL, ck_fl q = true := by decide +kernel
set_option maxRecDepth 100000 in
theorem k_ki : ∀ q ∈ d_KI, Cond.constant (d_nm q.1) q.2.1 q.2.2 ∈ lw_tbl := by decide +kernel
set_option maxRecDepth 100000 in
theorem k_kl : ∀ q ∈ d_KL, Cond.constantLong (d_nm q.1) q.2.1 q.2.2 ∈ lw_tbl := by decide +kernel
def lw_g : List Cond := lw_tbl.filter goodWord
theorem lw_g_of {w : Cond} (h : w ∈ lw_tbl) (hg : goodWord w = true) : w ∈ lw_g := List.mem_filter.mpr ⟨h, hg⟩
theorem lw_g_good {w : Cond} (h : w ∈ lw_g) : goodWord w = true := (List.mem_filter.mp h).2
/-- what an object's slots hold, by its class -/
def ck_ct (q : c_D) : Bool := match q with
  | .inl (ci, sl) => decide (ci < 13) && decide (sl.length = d_fN ci) && (List.range sl.length).all (fun j => match c_nth sl j with
    | some 0 => decide ((d_fn ci j).2.2.1 = "I") && !(d_fn ci j).2.2.2
    | some 1 => decide ((d_fn ci j).2.2.1 = "Z") && !(d_fn ci j).2.2.2
    | some (n + 2) => decide (n < d_CT.length)
    | none => false)
  | .inr (ty, _) => decide (ty = .int ∨ ty = .char ∨ ty = .boolean ∨ ty = .long)
theorem k_ct : ∀ q ∈ d_CT, ck_ct q = true := by decide +kernel
end
section
def c_len (i : Instr) (n : Nat) : Nat := match i with
  | .aload _ => 2
  | .iload _ => 2
  | .lload _ => 2
  | .istore _ => 2
  | .lstore _ => 2
  | .iinc _ _ => 3
  | .bipush _ => 2
  | .sipush _ => 3
  | .ldc _ => 2
  | .ldc2_w _ => 3
  | .goto _ => 3
  | .if_icmp _ _ => 3
  | .ifCond _ _ => 3
  | .getfield _ => 3
  | .putfield _ => 3
  | .invokevirtual _ => 3
  | .invokestatic _ => 3
  | .tableswitch _ _ _ _ => n
  | .lookupswitch _ _ => n
  | _ => 1
def ck_sw (pc : Nat) (lo : Int) : List Int → List (Int32 × Nat) → Bool
  | [], [] => true
  | f :: fs, (k, t) :: r => decide (k = Int32.ofInt lo) && decide ((pc : Int) + f = (t : Int)) && ck_sw pc (lo + 1) fs r
  | _, _ => false
def ck_lw (pc : Nat) : List (Int × Int) → List (Int32 × Nat) → Bool
  | [], [] => true
  | (i, f) :: fs, (k, t) :: r => decide (k = Int32.ofInt i) && decide (-100 < i ∧ i < 1000) && decide ((pc : Int) + f = (t : Int)) && ck_lw pc fs r
  | _, _ => false
def ck_e (own : Nat) (cc : ByteArray) (q : Nat × c_E) : Bool := match q with
  | (pc, ins, nx, ax, t, u, w, sw) => decide (nx = pc + c_len ins (nx - pc)) && decide (decode cc pc = .ok (ins, c_len ins (nx - pc))) && (match ins with
    | .iconst n => decide (ax = v_i (Int32.ofInt n))
    | .bipush n => decide (ax = v_i (Int8.ofInt n).toInt32)
    | .sipush n => decide (ax = v_i (Int16.ofInt n).toInt32)
    | .lconst n => decide (ax = v_l (Int64.ofNat (n : Nat)))
    | .ldc i => (match ax with
      | .inl v => decide ((own, i, v) ∈ d_KI)
      | .inr _ => false)
    | .ldc2_w i => (match ax with
      | .inr (.inl v) => decide ((own, i, v) ∈ d_KL)
      | _ => false)
    | .iinc _ n => decide (ax = v_i (Int32.ofInt n))
    | .goto f => decide ((pc : Int) + f = (t : Int))
    | .if_icmp _ f => decide ((pc : Int) + f = (t : Int))
    | .ifCond _ f => decide ((pc : Int) + f = (t : Int))
    | .tableswitch d lo hi fs => decide ((pc : Int) + d = (t : Int)) && decide (hi = lo + fs.size - 1) && decide (-100 < lo ∧ hi < 100) && ck_sw pc lo fs.toList sw
    | .lookupswitch d ps => decide ((pc : Int) + d = (t : Int)) && (ps.toList.zip (ps.toList.drop 1)).all (fun (a, next) => a.1 < next.1) && ck_lw pc ps.toList sw
    | .getfield i => decide ((own, i, u, t) ∈ d_FL)
    | .putfield i => decide ((own, i, u, t) ∈ d_FL)
    | .invokevirtual i => (match ax with
      | .inr (.inr n) => decide ((own, i, t, 0, 0, n, u, w) ∈ d_ML ∨ (own, i, t, 1, 0, n, u, w) ∈ d_ML)
      | _ => false)
    | .invokestatic i => (match w with
      | 0 => (match ax with
        | .inr (.inr n) => decide ((own, i, t, 0, 1, n, u, 0) ∈ d_ML ∨ (own, i, t, 1, 1, n, u, 0) ∈ d_ML)
        | _ => false)
      | _ + 1 => decide (own = 8 ∧ i = 143))
    | _ => true)
def T_Fb_feed : List (Nat × c_E) := [(0, (.aload_n 0, 1, v_i 0, 0, 0, 0, [])), (1, (.getfield 10, 4, v_i 0, 0, 11, 0, [])), (4, (.lload_n 1, 5, v_i 0, 0, 0, 0, [])), (5, (.invokevirtual 96, 8, v_r 2, 212, 0, 9, [])), (8, (.aload_n 0, 9, v_i 0, 0, 0, 0, [])), (9, (.getfield 10, 12, v_i 0, 0, 11, 0, [])), (12, (.lload_n 3, 13, v_i 0, 0, 0, 0, [])), (13, (.invokevirtual 96, 16, v_r 2, 212, 0, 9, [])), (16, (.aload_n 0, 17, v_i 0, 0, 0, 0, [])), (17, (.getfield 10, 20, v_i 0, 0, 11, 0, [])), (20, (.lload 5, 22, v_i 0, 0, 0, 0, [])), (22, (.invokevirtual 96, 25, v_r 2, 212, 0, 9, [])), (25, (.aload_n 0, 26, v_i 0, 0, 0, 0, [])), (26, (.getfield 10, 29, v_i 0, 0, 11, 0, [])), (29, (.invokevirtual 100, 32, v_r 1, 213, 1, 9, [])), (32, (.ireturn, 33, v_i 0, 0, 0, 0, []))]
def L_Fb_feed : List (Nat × List Nat) := []
def D_Fb_feed : c_M0 := (T_Fb_feed, L_Fb_feed, 1, 11, ⟨R_Fb, "feed", "(JJJ)I"⟩, prog_1_method_2_code, 7, some .int)
set_option maxRecDepth 100000 in
theorem k_Fb_feed : ∀ q ∈ T_Fb_feed, ck_e 11 prog_1_method_2_code q = true := by decide +kernel
def T_Fb_declare : List (Nat × c_E) := [(0, (.aload_n 0, 1, v_i 0, 0, 0, 0, [])), (1, (.invokevirtual 104, 4, v_r 1, 11, 0, 11, [])), (4, (.iconst (0), 5, v_i (0), 0, 0, 0, [])), (5, (.istore_n 1, 6, v_i 0, 0, 0, 0, [])), (6, (.iconst (0), 7, v_i (0), 0, 0, 0, [])), (7, (.istore_n 2, 8, v_i 0, 0, 0, 0, [])), (8, (.iload_n 2, 9, v_i 0, 0, 0, 0, [])), (9, (.sipush (4000), 12, v_i (4000), 0, 0, 0, [])), (12, (.if_icmp .ge (134), 15, v_i 0, 146, 0, 0, [])), (15, (.iload_n 1, 16, v_i 0, 0, 0, 0, [])), (16, (.ifCond .ne (130), 19, v_i 0, 146, 0, 0, [])), (19, (.aload_n 0, 20, v_i 0, 0, 0, 0, [])), (20, (.getfield 10, 23, v_i 0, 0, 11, 0, [])), (23, (.invokevirtual 107, 26, v_r 1, 219, 1, 9, [])), (26, (.ifCond .ne (120), 29, v_i 0, 146, 0, 0, [])), (29, (.aload_n 0, 30, v_i 0, 0, 0, 0, [])), (30, (.getfield 19, 33, v_i 0, 1, 11, 0, [])), (33, (.invokevirtual 111, 36, v_r 1, 168, 1, 6, [])), (36, (.istore_n 3, 37, v_i 0, 0, 0, 0, [])), (37, (.aload_n 0, 38, v_i 0, 0, 0, 0, [])), (38, (.getfield 60, 41, v_i 0, 6, 11, 0, [])), (41, (.invokevirtual 114, 44, v_r 1, 195, 1, 8, [])), (44, (.istore_n 1, 45, v_i 0, 0, 0, 0, [])), (45, (.iload_n 1, 46, v_i 0, 0, 0, 0, [])), (46, (.ifCond .ne (25), 49, v_i 0, 71, 0, 0, [])), (49, (.aload_n 0, 50, v_i 0, 0, 0, 0, [])), (50, (.getfield 83, 53, v_i 0, 8, 11, 0, [])), (53, (.aload_n 0, 54, v_i 0, 0, 0, 0, [])), (54, (.getfield 60, 57, v_i 0, 6, 11, 0, [])), (57, (.invokevirtual 117, 60, v_r 1, 193, 1, 8, [])), (60, (.aload_n 0, 61, v_i 0, 0, 0, 0, [])), (61, (.getfield 60, 64, v_i 0, 6, 11, 0, [])), (64, (.invokevirtual 120, 67, v_r 1, 194, 1, 8, [])), (67, (.invokevirtual 123, 70, v_r 3, 117, 1, 1, [])), (70, (.istore_n 1, 71, v_i 0, 0, 0, 0, [])), (71, (.iload_n 1, 72, v_i 0, 0, 0, 0, [])), (72, (.ifCond .ne (60), 75, v_i 0, 132, 0, 0, [])), (75, (.aload_n 0, 76, v_i 0, 0, 0, 0, [])), (76, (.getfield 28, 79, v_i 0, 2, 11, 0, [])), (79, (.aload_n 0, 80, v_i 0, 0, 0, 0, [])), (80, (.getfield 10, 83, v_i 0, 0, 11, 0, [])), (83, (.aload_n 0, 84, v_i 0, 0, 0, 0, [])), (84, (.getfield 60, 87, v_i 0, 6, 11, 0, [])), (87, (.invokevirtual 126, 90, v_r 1, 191, 1, 8, [])), (90, (.aload_n 0, 91, v_i 0, 0, 0, 0, [])), (91, (.getfield 60, 94, v_i 0, 6, 11, 0, [])), (94, (.invokevirtual 129, 97, v_r 1, 192, 1, 8, [])), (97, (.invokevirtual 132, 100, v_r 4, 138, 0, 2, [])), (100, (.aload_n 0, 101, v_i 0, 0, 0, 0, [])), (101, (.getfield 28, 104, v_i 0, 2, 11, 0, [])), (104, (.aload_n 0, 105, v_i 0, 0, 0, 0, [])), (105, (.getfield 83, 108, v_i 0, 8, 11, 0, [])), (108, (.invokevirtual 136, 111, v_r 1, 116, 1, 1, [])), (111, (.aload_n 0, 112, v_i 0, 0, 0, 0, [])), (112, (.getfield 60, 115, v_i 0, 6, 11, 0, [])), (115, (.invokevirtual 117, 118, v_r 1, 193, 1, 8, [])), (118, (.aload_n 0, 119, v_i 0, 0, 0, 0, [])), (119, (.getfield 60, 122, v_i 0, 6, 11, 0, [])), (122, (.invokevirtual 120, 125, v_r 1, 194, 1, 8, [])), (125, (.iload_n 3, 126, v_i 0, 0, 0, 0, [])), (126, (.invokevirtual 139, 129, v_r 5, 139, 0, 2, [])), (129, (.goto (11), 132, v_i 0, 140, 0, 0, [])), (132, (.aload_n 0, 133, v_i 0, 0, 0, 0, [])), (133, (.getfield 19, 136, v_i 0, 1, 11, 0, [])), (136, (.iload_n 3, 137, v_i 0, 0, 0, 0, [])), (137, (.invokevirtual 143, 140, v_r 2, 169, 0, 6, [])), (140, (.iinc 2 (1), 143, v_i (1), 0, 0, 0, [])), (143, (.goto (-135), 146, v_i 0, 8, 0, 0, [])), (146, (.aload_n 0, 147, v_i 0, 0, 0, 0, [])), (147, (.getfield 10, 150, v_i 0, 0, 11, 0, [])), (150, (.invokevirtual 147, 153, v_r 1, 214, 0, 9, [])), (153, (.iload_n 1, 154, v_i 0, 0, 0, 0, [])), (154, (.ireturn, 155, v_i 0, 0, 0, 0, []))]
def L_Fb_declare : List (Nat × List Nat) := [(8, [0, 1, 2]), (71, [0, 1, 2, 3]), (146, [0, 1])]
def D_Fb_declare : c_M0 := (T_Fb_declare, L_Fb_declare, 1, 11, ⟨R_Fb, "declare", "()I"⟩, prog_1_method_3_code, 4, some .int)
set_option maxRecDepth 100000 in
theorem k_Fb_declare : ∀ q ∈ T_Fb_declare, ck_e 11 prog_1_method_3_code q = true := by decide +kernel
def T_Fb_canon : List (Nat × c_E) := [(0, (.aload_n 0, 1, v_i 0, 0, 0, 0, [])), (1, (.iconst (0), 2, v_i (0), 0, 0, 0, [])), (2, (.invokevirtual 150, 5, v_r 2, 12, 1, 11, [])), (5, (.ireturn, 6, v_i 0, 0, 0, 0, []))]
def L_Fb_canon : List (Nat × List Nat) := []
def D_Fb_canon : c_M0 := (T_Fb_canon, L_Fb_canon, 1, 11, ⟨R_Fb, "canon", "()I"⟩, prog_1_method_4_code, 1, some .int)
set_option maxRecDepth 100000 in
theorem k_Fb_canon : ∀ q ∈ T_Fb_canon, ck_e 11 prog_1_method_4_code q = true := by decide +kernel
def T_Fb_type : List (Nat × c_E) := [(0, (.aload_n 0, 1, v_i 0, 0, 0, 0, [])), (1, (.iconst (1), 2, v_i (1), 0, 0, 0, [])), (2, (.invokevirtual 150, 5, v_r 2, 12, 1, 11, [])), (5, (.ireturn, 6, v_i 0, 0, 0, 0, []))]
def L_Fb_type : List (Nat × List Nat) := []
def D_Fb_type : c_M0 := (T_Fb_type, L_Fb_type, 1, 11, ⟨R_Fb, "type", "()I"⟩, prog_1_method_5_code, 1, some .int)
set_option maxRecDepth 100000 in
theorem k_Fb_type : ∀ q ∈ T_Fb_type, ck_e 11 prog_1_method_5_code q = true := by decide +kernel
def T_Fb_equal : List (Nat × c_E) := [(0, (.aload_n 0, 1, v_i 0, 0, 0, 0, [])), (1, (.getfield 19, 4, v_i 0, 1, 11, 0, [])), (4, (.invokevirtual 111, 7, v_r 1, 168, 1, 6, [])), (7, (.istore_n 1, 8, v_i 0, 0, 0, 0, [])), (8, (.aload_n 0, 9, v_i 0, 0, 0, 0, [])), (9, (.invokevirtual 104, 12, v_r 1, 11, 0, 11, [])), (12, (.aload_n 0, 13, v_i 0, 0, 0, 0, [])), (13, (.getfield 60, 16, v_i 0, 6, 11, 0, [])), (16, (.bipush (59), 18, v_i (59), 0, 0, 0, [])), (18, (.invokevirtual 154, 21, v_r 2, 196, 1, 8, [])), (21, (.istore_n 2, 22, v_i 0, 0, 0, 0, [])), (22, (.aload_n 0, 23, v_i 0, 0, 0, 0, [])), (23, (.getfield 60, 26, v_i 0, 6, 11, 0, [])), (26, (.iconst (0), 27, v_i (0), 0, 0, 0, [])), (27, (.invokevirtual 154, 30, v_r 2, 196, 1, 8, [])), (30, (.istore_n 3, 31, v_i 0, 0, 0, 0, [])), (31, (.aload_n 0, 32, v_i 0, 0, 0, 0, [])), (32, (.getfield 60, 35, v_i 0, 6, 11, 0, [])), (35, (.invokevirtual 158, 38, v_r 1, 190, 1, 8, [])), (38, (.istore 4, 40, v_i 0, 0, 0, 0, [])), (40, (.iload 4, 42, v_i 0, 0, 0, 0, [])), (42, (.ifCond .ne (13), 45, v_i 0, 55, 0, 0, [])), (45, (.aload_n 0, 46, v_i 0, 0, 0, 0, [])), (46, (.getfield 83, 49, v_i 0, 8, 11, 0, [])), (49, (.iload_n 2, 50, v_i 0, 0, 0, 0, [])), (50, (.invokevirtual 161, 53, v_r 2, 118, 1, 1, [])), (53, (.istore 4, 55, v_i 0, 0, 0, 0, [])), (55, (.iload 4, 57, v_i 0, 0, 0, 0, [])), (57, (.ifCond .ne (13), 60, v_i 0, 70, 0, 0, [])), (60, (.aload_n 0, 61, v_i 0, 0, 0, 0, [])), (61, (.getfield 83, 64, v_i 0, 8, 11, 0, [])), (64, (.iload_n 3, 65, v_i 0, 0, 0, 0, [])), (65, (.invokevirtual 161, 68, v_r 2, 118, 1, 1, [])), (68, (.istore 4, 70, v_i 0, 0, 0, 0, [])), (70, (.iload 4, 72, v_i 0, 0, 0, 0, [])), (72, (.ifCond .ne (12), 75, v_i 0, 84, 0, 0, [])), (75, (.aload_n 0, 76, v_i 0, 0, 0, 0, [])), (76, (.iload_n 2, 77, v_i 0, 0, 0, 0, [])), (77, (.iload_n 3, 78, v_i 0, 0, 0, 0, [])), (78, (.invokevirtual 164, 81, v_r 3, 13, 1, 11, [])), (81, (.goto (7), 84, v_i 0, 88, 0, 0, [])), (84, (.iconst (-1), 85, v_i (-1), 0, 0, 0, [])), (85, (.iload 4, 87, v_i 0, 0, 0, 0, [])), (87, (.isub, 88, v_i 0, 0, 0, 0, [])), (88, (.istore 5, 90, v_i 0, 0, 0, 0, [])), (90, (.aload_n 0, 91, v_i 0, 0, 0, 0, [])), (91, (.getfield 19, 94, v_i 0, 1, 11, 0, [])), (94, (.iload_n 1, 95, v_i 0, 0, 0, 0, [])), (95, (.invokevirtual 143, 98, v_r 2, 169, 0, 6, [])), (98, (.aload_n 0, 99, v_i 0, 0, 0, 0, [])), (99, (.getfield 10, 102, v_i 0, 0, 11, 0, [])), (102, (.invokevirtual 147, 105, v_r 1, 214, 0, 9, [])), (105, (.iload 5, 107, v_i 0, 0, 0, 0, [])), (107, (.ireturn, 108, v_i 0, 0, 0, 0, []))]
def L_Fb_equal : List (Nat × List Nat) := [(55, [0, 1, 2, 3, 4]), (70, [0, 1, 2, 3, 4]), (88, [0, 1])]
def D_Fb_equal : c_M0 := (T_Fb_equal, L_Fb_equal, 1, 11, ⟨R_Fb, "equal", "()I"⟩, prog_1_method_6_code, 6, some .int)
set_option maxRecDepth 100000 in
theorem k_Fb_equal : ∀ q ∈ T_Fb_equal, ck_e 11 prog_1_method_6_code q = true := by decide +kernel
def T_Fb_named : List (Nat × c_E) := [(0, (.aload_n 0, 1, v_i 0, 0, 0, 0, [])), (1, (.getfield 10, 4, v_i 0, 0, 11, 0, [])), (4, (.invokevirtual 167, 7, v_r 1, 220, 0, 9, [])), (7, (.iconst (-1), 8, v_i (-1), 0, 0, 0, [])), (8, (.istore_n 1, 9, v_i 0, 0, 0, 0, [])), (9, (.aload_n 0, 10, v_i 0, 0, 0, 0, [])), (10, (.getfield 10, 13, v_i 0, 0, 11, 0, [])), (13, (.invokevirtual 170, 16, v_r 1, 216, 1, 9, [])), (16, (.iconst (1), 17, v_i (1), 0, 0, 0, [])), (17, (.if_icmp .ne (52), 20, v_i 0, 69, 0, 0, [])), (20, (.aload_n 0, 21, v_i 0, 0, 0, 0, [])), (21, (.getfield 28, 24, v_i 0, 2, 11, 0, [])), (24, (.aload_n 0, 25, v_i 0, 0, 0, 0, [])), (25, (.getfield 10, 28, v_i 0, 0, 11, 0, [])), (28, (.aload_n 0, 29, v_i 0, 0, 0, 0, [])), (29, (.getfield 10, 32, v_i 0, 0, 11, 0, [])), (32, (.invokevirtual 173, 35, v_r 1, 217, 1, 9, [])), (35, (.aload_n 0, 36, v_i 0, 0, 0, 0, [])), (36, (.getfield 10, 39, v_i 0, 0, 11, 0, [])), (39, (.invokevirtual 176, 42, v_r 1, 218, 1, 9, [])), (42, (.invokevirtual 179, 45, v_r 4, 141, 1, 2, [])), (45, (.istore_n 2, 46, v_i 0, 0, 0, 0, [])), (46, (.aload_n 0, 47, v_i 0, 0, 0, 0, [])), (47, (.getfield 10, 50, v_i 0, 0, 11, 0, [])), (50, (.invokevirtual 183, 53, v_r 1, 221, 0, 9, [])), (53, (.aload_n 0, 54, v_i 0, 0, 0, 0, [])), (54, (.getfield 10, 57, v_i 0, 0, 11, 0, [])), (57, (.invokevirtual 107, 60, v_r 1, 219, 1, 9, [])), (60, (.ifCond .eq (7), 63, v_i 0, 67, 0, 0, [])), (63, (.iload_n 2, 64, v_i 0, 0, 0, 0, [])), (64, (.goto (4), 67, v_i 0, 68, 0, 0, [])), (67, (.iconst (-1), 68, v_i (-1), 0, 0, 0, [])), (68, (.istore_n 1, 69, v_i 0, 0, 0, 0, [])), (69, (.aload_n 0, 70, v_i 0, 0, 0, 0, [])), (70, (.getfield 10, 73, v_i 0, 0, 11, 0, [])), (73, (.invokevirtual 147, 76, v_r 1, 214, 0, 9, [])), (76, (.iload_n 1, 77, v_i 0, 0, 0, 0, [])), (77, (.ireturn, 78, v_i 0, 0, 0, 0, []))]
def L_Fb_named : List (Nat × List Nat) := [(69, [0, 1])]
def D_Fb_named : c_M0 := (T_Fb_named, L_Fb_named, 1, 11, ⟨R_Fb, "named", "()I"⟩, prog_1_method_7_code, 3, some .int)
set_option maxRecDepth 100000 in
theorem k_Fb_named : ∀ q ∈ T_Fb_named, ck_e 11 prog_1_method_7_code q = true := by decide +kernel
def T_Fb_constant : List (Nat × c_E) := [(0, (.iload_n 1, 1, v_i 0, 0, 0, 0, [])), (1, (.ifCond .lt (14), 4, v_i 0, 15, 0, 0, [])), (4, (.iload_n 1, 5, v_i 0, 0, 0, 0, [])), (5, (.aload_n 0, 6, v_i 0, 0, 0, 0, [])), (6, (.getfield 28, 9, v_i 0, 2, 11, 0, [])), (9, (.invokevirtual 186, 12, v_r 1, 130, 1, 2, [])), (12, (.if_icmp .lt (5), 15, v_i 0, 17, 0, 0, [])), (15, (.iconst (-1), 16, v_i (-1), 0, 0, 0, [])), (16, (.ireturn, 17, v_i 0, 0, 0, 0, [])), (17, (.iload_n 2, 18, v_i 0, 0, 0, 0, [])), (18, (.ifCond .ne (12), 21, v_i 0, 30, 0, 0, [])), (21, (.aload_n 0, 22, v_i 0, 0, 0, 0, [])), (22, (.getfield 28, 25, v_i 0, 2, 11, 0, [])), (25, (.iload_n 1, 26, v_i 0, 0, 0, 0, [])), (26, (.invokevirtual 189, 29, v_r 2, 132, 1, 2, [])), (29, (.ireturn, 30, v_i 0, 0, 0, 0, [])), (30, (.iload_n 2, 31, v_i 0, 0, 0, 0, [])), (31, (.iconst (1), 32, v_i (1), 0, 0, 0, [])), (32, (.if_icmp .ne (14), 35, v_i 0, 46, 0, 0, [])), (35, (.aload_n 0, 36, v_i 0, 0, 0, 0, [])), (36, (.getfield 28, 39, v_i 0, 2, 11, 0, [])), (39, (.iload_n 1, 40, v_i 0, 0, 0, 0, [])), (40, (.invokevirtual 191, 43, v_r 2, 135, 1, 2, [])), (43, (.goto (4), 46, v_i 0, 47, 0, 0, [])), (46, (.iconst (-1), 47, v_i (-1), 0, 0, 0, [])), (47, (.ireturn, 48, v_i 0, 0, 0, 0, []))]
def L_Fb_constant : List (Nat × List Nat) := []
def D_Fb_constant : c_M0 := (T_Fb_constant, L_Fb_constant, 1, 11, ⟨R_Fb, "constant", "(II)I"⟩, prog_1_method_8_code, 3, some .int)
set_option maxRecDepth 100000 in
theorem k_Fb_constant : ∀ q ∈ T_Fb_constant, ck_e 11 prog_1_method_8_code q = true := by decide +kernel
def T_Fb_size : List (Nat × c_E) := [(0, (.aload_n 0, 1, v_i 0, 0, 0, 0, [])), (1, (.getfield 51, 4, v_i 0, 5, 11, 0, [])), (4, (.invokevirtual 194, 7, v_r 1, 184, 1, 7, [])), (7, (.ireturn, 8, v_i 0, 0, 0, 0, []))]
def L_Fb_size : List (Nat × List Nat) := []
def D_Fb_size : c_M0 := (T_Fb_size, L_Fb_size, 1, 11, ⟨R_Fb, "size", "()I"⟩, prog_1_method_9_code, 1, some .int)
set_option maxRecDepth 100000 in
theorem k_Fb_size : ∀ q ∈ T_Fb_size, ck_e 11 prog_1_method_9_code q = true := by decide +kernel
def T_Fb_out : List (Nat × c_E) := [(0, (.aload_n 0, 1, v_i 0, 0, 0, 0, [])), (1, (.getfield 51, 4, v_i 0, 5, 11, 0, [])), (4, (.iload_n 1, 5, v_i 0, 0, 0, 0, [])), (5, (.invokevirtual 195, 8, v_r 2, 185, 1, 7, [])), (8, (.ireturn, 9, v_i 0, 0, 0, 0, []))]
def L_Fb_out : List (Nat × List Nat) := []
def D_Fb_out : c_M0 := (T_Fb_out, L_Fb_out, 1, 11, ⟨R_Fb, "out", "(I)I"⟩, prog_1_method_10_code, 2, some .int)
set_option maxRecDepth 100000 in
theorem k_Fb_out : ∀ q ∈ T_Fb_out, ck_e 11 prog_1_method_10_code q = true := by decide +kernel
def T_Fb_forget : List (Nat × c_E) := [(0, (.iload_n 1, 1, v_i 0, 0, 0, 0, [])), (1, (.ifCond .lt (14), 4, v_i 0, 15, 0, 0, [])), (4, (.iload_n 1, 5, v_i 0, 0, 0, 0, [])), (5, (.aload_n 0, 6, v_i 0, 0, 0, 0, [])), (6, (.getfield 28, 9, v_i 0, 2, 11, 0, [])), (9, (.invokevirtual 186, 12, v_r 1, 130, 1, 2, [])), (12, (.if_icmp .le (5), 15, v_i 0, 17, 0, 0, [])), (15, (.iconst (-1), 16, v_i (-1), 0, 0, 0, [])), (16, (.ireturn, 17, v_i 0, 0, 0, 0, [])), (17, (.aload_n 0, 18, v_i 0, 0, 0, 0, [])), (18, (.getfield 28, 21, v_i 0, 2, 11, 0, [])), (21, (.iload_n 1, 22, v_i 0, 0, 0, 0, [])), (22, (.invokevirtual 198, 25, v_r 2, 140, 0, 2, [])), (25, (.aload_n 0, 26, v_i 0, 0, 0, 0, [])), (26, (.getfield 28, 29, v_i 0, 2, 11, 0, [])), (29, (.invokevirtual 186, 32, v_r 1, 130, 1, 2, [])), (32, (.ireturn, 33, v_i 0, 0, 0, 0, []))]
def L_Fb_forget : List (Nat × List Nat) := []
def D_Fb_forget : c_M0 := (T_Fb_forget, L_Fb_forget, 1, 11, ⟨R_Fb, "forget", "(I)I"⟩, prog_1_method_11_code, 2, some .int)
set_option maxRecDepth 100000 in
theorem k_Fb_forget : ∀ q ∈ T_Fb_forget, ck_e 11 prog_1_method_11_code q = true := by decide +kernel
def T_Fb_count : List (Nat × c_E) := [(0, (.iload_n 1, 1, v_i 0, 0, 0, 0, [])), (1, (.tableswitch (63) (0) (3) #[31, 39, 47, 55], 32, v_i 0, 64, 0, 0, [(0, 32), (1, 40), (2, 48), (3, 56)])), (32, (.aload_n 0, 33, v_i 0, 0, 0, 0, [])), (33, (.getfield 28, 36, v_i 0, 2, 11, 0, [])), (36, (.invokevirtual 186, 39, v_r 1, 130, 1, 2, [])), (39, (.ireturn, 40, v_i 0, 0, 0, 0, [])), (40, (.aload_n 0, 41, v_i 0, 0, 0, 0, [])), (41, (.getfield 35, 44, v_i 0, 3, 11, 0, [])), (44, (.invokevirtual 201, 47, v_r 1, 162, 1, 5, [])), (47, (.ireturn, 48, v_i 0, 0, 0, 0, [])), (48, (.aload_n 0, 49, v_i 0, 0, 0, 0, [])), (49, (.getfield 35, 52, v_i 0, 3, 11, 0, [])), (52, (.invokevirtual 204, 55, v_r 1, 163, 1, 5, [])), (55, (.ireturn, 56, v_i 0, 0, 0, 0, [])), (56, (.aload_n 0, 57, v_i 0, 0, 0, 0, [])), (57, (.getfield 10, 60, v_i 0, 0, 11, 0, [])), (60, (.invokevirtual 100, 63, v_r 1, 213, 1, 9, [])), (63, (.ireturn, 64, v_i 0, 0, 0, 0, [])), (64, (.iconst (-1), 65, v_i (-1), 0, 0, 0, [])), (65, (.ireturn, 66, v_i 0, 0, 0, 0, []))]
def L_Fb_count : List (Nat × List Nat) := []
def D_Fb_count : c_M0 := (T_Fb_count, L_Fb_count, 1, 11, ⟨R_Fb, "count", "(I)I"⟩, prog_1_method_12_code, 2, some .int)
set_option maxRecDepth 100000 in
theorem k_Fb_count : ∀ q ∈ T_Fb_count, ck_e 11 prog_1_method_12_code q = true := by decide +kernel
def T_Fb_begin : List (Nat × c_E) := [(0, (.aload_n 0, 1, v_i 0, 0, 0, 0, [])), (1, (.getfield 35, 4, v_i 0, 3, 11, 0, [])), (4, (.invokevirtual 207, 7, v_r 1, 161, 0, 5, [])), (7, (.aload_n 0, 8, v_i 0, 0, 0, 0, [])), (8, (.getfield 44, 11, v_i 0, 4, 11, 0, [])), (11, (.iconst (1), 12, v_i (1), 0, 0, 0, [])), (12, (.invokevirtual 208, 15, v_r 2, 103, 0, 0, [])), (15, (.aload_n 0, 16, v_i 0, 0, 0, 0, [])), (16, (.getfield 60, 19, v_i 0, 6, 11, 0, [])), (19, (.invokevirtual 209, 22, v_r 1, 189, 0, 8, [])), (22, (.return_, 23, v_i 0, 0, 0, 0, []))]
def L_Fb_begin : List (Nat × List Nat) := []
def D_Fb_begin : c_M0 := (T_Fb_begin, L_Fb_begin, 0, 11, ⟨R_Fb, "begin", "()V"⟩, prog_1_method_13_code, 1, none)
set_option maxRecDepth 100000 in
theorem k_Fb_begin : ∀ q ∈ T_Fb_begin, ck_e 11 prog_1_method_13_code q = true := by decide +kernel
def T_Fb_writtenForm : List (Nat × c_E) := [(0, (.aload_n 0, 1, v_i 0, 0, 0, 0, [])), (1, (.getfield 19, 4, v_i 0, 1, 11, 0, [])), (4, (.invokevirtual 111, 7, v_r 1, 168, 1, 6, [])), (7, (.istore_n 2, 8, v_i 0, 0, 0, 0, [])), (8, (.aload_n 0, 9, v_i 0, 0, 0, 0, [])), (9, (.invokevirtual 104, 12, v_r 1, 11, 0, 11, [])), (12, (.aload_n 0, 13, v_i 0, 0, 0, 0, [])), (13, (.getfield 60, 16, v_i 0, 6, 11, 0, [])), (16, (.iconst (0), 17, v_i (0), 0, 0, 0, [])), (17, (.invokevirtual 154, 20, v_r 2, 196, 1, 8, [])), (20, (.istore_n 3, 21, v_i 0, 0, 0, 0, [])), (21, (.aload_n 0, 22, v_i 0, 0, 0, 0, [])), (22, (.getfield 60, 25, v_i 0, 6, 11, 0, [])), (25, (.invokevirtual 158, 28, v_r 1, 190, 1, 8, [])), (28, (.istore 4, 30, v_i 0, 0, 0, 0, [])), (30, (.iload 4, 32, v_i 0, 0, 0, 0, [])), (32, (.ifCond .ne (13), 35, v_i 0, 45, 0, 0, [])), (35, (.aload_n 0, 36, v_i 0, 0, 0, 0, [])), (36, (.getfield 83, 39, v_i 0, 8, 11, 0, [])), (39, (.iload_n 3, 40, v_i 0, 0, 0, 0, [])), (40, (.invokevirtual 161, 43, v_r 2, 118, 1, 1, [])), (43, (.istore 4, 45, v_i 0, 0, 0, 0, [])), (45, (.iload 4, 47, v_i 0, 0, 0, 0, [])), (47, (.ifCond .ne (18), 50, v_i 0, 65, 0, 0, [])), (50, (.aload_n 0, 51, v_i 0, 0, 0, 0, [])), (51, (.getfield 92, 54, v_i 0, 9, 11, 0, [])), (54, (.iload_n 3, 55, v_i 0, 0, 0, 0, [])), (55, (.iload_n 1, 56, v_i 0, 0, 0, 0, [])), (56, (.invokevirtual 210, 59, v_r 3, 226, 0, 10, [])), (59, (.aload_n 0, 60, v_i 0, 0, 0, 0, [])), (60, (.invokevirtual 214, 63, v_r 1, 14, 1, 11, [])), (63, (.istore 4, 65, v_i 0, 0, 0, 0, [])), (65, (.aload_n 0, 66, v_i 0, 0, 0, 0, [])), (66, (.getfield 19, 69, v_i 0, 1, 11, 0, [])), (69, (.iload_n 2, 70, v_i 0, 0, 0, 0, [])), (70, (.invokevirtual 143, 73, v_r 2, 169, 0, 6, [])), (73, (.aload_n 0, 74, v_i 0, 0, 0, 0, [])), (74, (.getfield 10, 77, v_i 0, 0, 11, 0, [])), (77, (.invokevirtual 147, 80, v_r 1, 214, 0, 9, [])), (80, (.iload 4, 82, v_i 0, 0, 0, 0, [])), (82, (.ireturn, 83, v_i 0, 0, 0, 0, []))]
def L_Fb_writtenForm : List (Nat × List Nat) := [(45, [0, 1, 2, 3, 4]), (65, [0, 2, 4])]
def D_Fb_writtenForm : c_M0 := (T_Fb_writtenForm, L_Fb_writtenForm, 1, 11, ⟨R_Fb, "writtenForm", "(Z)I"⟩, prog_1_method_14_code, 5, some .int)
set_option maxRecDepth 100000 in
theorem k_Fb_writtenForm : ∀ q ∈ T_Fb_writtenForm, ck_e 11 prog_1_method_14_code q = true := by decide +kernel
def T_Fb_comparison : List (Nat × c_E) := [(0, (.aload_n 0, 1, v_i 0, 0, 0, 0, [])), (1, (.getfield 74, 4, v_i 0, 7, 11, 0, [])), (4, (.iload_n 1, 5, v_i 0, 0, 0, 0, [])), (5, (.iconst (0), 6, v_i (0), 0, 0, 0, [])), (6, (.iload_n 2, 7, v_i 0, 0, 0, 0, [])), (7, (.iconst (0), 8, v_i (0), 0, 0, 0, [])), (8, (.iconst (1), 9, v_i (1), 0, 0, 0, [])), (9, (.invokevirtual 217, 12, v_r 6, 147, 1, 3, [])), (12, (.istore_n 3, 13, v_i 0, 0, 0, 0, [])), (13, (.iload_n 3, 14, v_i 0, 0, 0, 0, [])), (14, (.ifCond .eq (19), 17, v_i 0, 33, 0, 0, [])), (17, (.aload_n 0, 18, v_i 0, 0, 0, 0, [])), (18, (.getfield 74, 21, v_i 0, 7, 11, 0, [])), (21, (.iload_n 1, 22, v_i 0, 0, 0, 0, [])), (22, (.iload_n 2, 23, v_i 0, 0, 0, 0, [])), (23, (.invokevirtual 221, 26, v_r 3, 146, 1, 3, [])), (26, (.ifCond .eq (7), 29, v_i 0, 33, 0, 0, [])), (29, (.iconst (1), 30, v_i (1), 0, 0, 0, [])), (30, (.goto (4), 33, v_i 0, 34, 0, 0, [])), (33, (.iconst (0), 34, v_i (0), 0, 0, 0, [])), (34, (.istore 4, 36, v_i 0, 0, 0, 0, [])), (36, (.aload_n 0, 37, v_i 0, 0, 0, 0, [])), (37, (.getfield 35, 40, v_i 0, 3, 11, 0, [])), (40, (.invokevirtual 225, 43, v_r 1, 164, 1, 5, [])), (43, (.ifCond .eq (10), 46, v_i 0, 53, 0, 0, [])), (46, (.iconst (-1), 47, v_i (-1), 0, 0, 0, [])), (47, (.aload_n 0, 48, v_i 0, 0, 0, 0, [])), (48, (.invokevirtual 214, 51, v_r 1, 14, 1, 11, [])), (51, (.isub, 52, v_i 0, 0, 0, 0, [])), (52, (.ireturn, 53, v_i 0, 0, 0, 0, [])), (53, (.iload_n 3, 54, v_i 0, 0, 0, 0, [])), (54, (.ifCond .ne (6), 57, v_i 0, 60, 0, 0, [])), (57, (.bipush (-2), 59, v_i (-2), 0, 0, 0, [])), (59, (.ireturn, 60, v_i 0, 0, 0, 0, [])), (60, (.iload 4, 62, v_i 0, 0, 0, 0, [])), (62, (.ifCond .eq (7), 65, v_i 0, 69, 0, 0, [])), (65, (.iconst (1), 66, v_i (1), 0, 0, 0, [])), (66, (.goto (4), 69, v_i 0, 70, 0, 0, [])), (69, (.iconst (0), 70, v_i (0), 0, 0, 0, [])), (70, (.ireturn, 71, v_i 0, 0, 0, 0, []))]
def L_Fb_comparison : List (Nat × List Nat) := [(34, [0, 3])]
def D_Fb_comparison : c_M0 := (T_Fb_comparison, L_Fb_comparison, 1, 11, ⟨R_Fb, "comparison", "(II)I"⟩, prog_1_method_15_code, 5, some .int)
set_option maxRecDepth 100000 in
theorem k_Fb_comparison : ∀ q ∈ T_Fb_comparison, ck_e 11 prog_1_method_15_code q = true := by decide +kernel
def T_Fb_troubleAtEnd : List (Nat × c_E) := [(0, (.aload_n 0, 1, v_i 0, 0, 0, 0, [])), (1, (.getfield 35, 4, v_i 0, 3, 11, 0, [])), (4, (.invokevirtual 225, 7, v_r 1, 164, 1, 5, [])), (7, (.ifCond .ne (7), 10, v_i 0, 14, 0, 0, [])), (10, (.iconst (0), 11, v_i (0), 0, 0, 0, [])), (11, (.goto (20), 14, v_i 0, 31, 0, 0, [])), (14, (.aload_n 0, 15, v_i 0, 0, 0, 0, [])), (15, (.getfield 35, 18, v_i 0, 3, 11, 0, [])), (18, (.invokevirtual 225, 21, v_r 1, 164, 1, 5, [])), (21, (.aload_n 0, 22, v_i 0, 0, 0, 0, [])), (22, (.getfield 10, 25, v_i 0, 0, 11, 0, [])), (25, (.invokevirtual 100, 28, v_r 1, 213, 1, 9, [])), (28, (.invokestatic 228, 31, v_r 2, 15, 1, 0, [])), (31, (.ireturn, 32, v_i 0, 0, 0, 0, []))]
def L_Fb_troubleAtEnd : List (Nat × List Nat) := []
def D_Fb_troubleAtEnd : c_M0 := (T_Fb_troubleAtEnd, L_Fb_troubleAtEnd, 1, 11, ⟨R_Fb, "troubleAtEnd", "()I"⟩, prog_1_method_16_code, 1, some .int)
set_option maxRecDepth 100000 in
theorem k_Fb_troubleAtEnd : ∀ q ∈ T_Fb_troubleAtEnd, ck_e 11 prog_1_method_16_code q = true := by decide +kernel
def T_Fb_faultAt : List (Nat × c_E) := [(0, (.iload_n 0, 1, v_i 0, 0, 0, 0, [])), (1, (.bipush (16), 3, v_i (16), 0, 0, 0, [])), (3, (.iload_n 1, 4, v_i 0, 0, 0, 0, [])), (4, (.imul, 5, v_i 0, 0, 0, 0, [])), (5, (.iadd, 6, v_i 0, 0, 0, 0, [])), (6, (.ireturn, 7, v_i 0, 0, 0, 0, []))]
def L_Fb_faultAt : List (Nat × List Nat) := []
def D_Fb_faultAt : c_M0 := (T_Fb_faultAt, L_Fb_faultAt, 1, 11, ⟨R_Fb, "faultAt", "(II)I"⟩, prog_1_method_17_code, 2, some .int)
set_option maxRecDepth 100000 in
theorem k_Fb_faultAt : ∀ q ∈ T_Fb_faultAt, ck_e 11 prog_1_method_17_code q = true := by decide +kernel
def T_Fb_isLetter : List (Nat × c_E) := [(0, (.iload_n 0, 1, v_i 0, 0, 0, 0, [])), (1, (.bipush (97), 3, v_i (97), 0, 0, 0, [])), (3, (.if_icmp .lt (9), 6, v_i 0, 12, 0, 0, [])), (6, (.iload_n 0, 7, v_i 0, 0, 0, 0, [])), (7, (.bipush (122), 9, v_i (122), 0, 0, 0, [])), (9, (.if_icmp .le (15), 12, v_i 0, 24, 0, 0, [])), (12, (.iload_n 0, 13, v_i 0, 0, 0, 0, [])), (13, (.bipush (65), 15, v_i (65), 0, 0, 0, [])), (15, (.if_icmp .lt (13), 18, v_i 0, 28, 0, 0, [])), (18, (.iload_n 0, 19, v_i 0, 0, 0, 0, [])), (19, (.bipush (90), 21, v_i (90), 0, 0, 0, [])), (21, (.if_icmp .gt (7), 24, v_i 0, 28, 0, 0, [])), (24, (.iconst (1), 25, v_i (1), 0, 0, 0, [])), (25, (.goto (4), 28, v_i 0, 29, 0, 0, [])), (28, (.iconst (0), 29, v_i (0), 0, 0, 0, [])), (29, (.ireturn, 30, v_i 0, 0, 0, 0, []))]
def L_Fb_isLetter : List (Nat × List Nat) := []
def D_Fb_isLetter : c_M0 := (T_Fb_isLetter, L_Fb_isLetter, 2, 11, ⟨R_Fb, "isLetter", "(I)Z"⟩, prog_1_method_18_code, 1, some .boolean)
set_option maxRecDepth 100000 in
theorem k_Fb_isLetter : ∀ q ∈ T_Fb_isLetter, ck_e 11 prog_1_method_18_code q = true := by decide +kernel
def T_Fb_isDigit : List (Nat × c_E) := [(0, (.iload_n 0, 1, v_i 0, 0, 0, 0, [])), (1, (.bipush (48), 3, v_i (48), 0, 0, 0, [])), (3, (.if_icmp .lt (13), 6, v_i 0, 16, 0, 0, [])), (6, (.iload_n 0, 7, v_i 0, 0, 0, 0, [])), (7, (.bipush (57), 9, v_i (57), 0, 0, 0, [])), (9, (.if_icmp .gt (7), 12, v_i 0, 16, 0, 0, [])), (12, (.iconst (1), 13, v_i (1), 0, 0, 0, [])), (13, (.goto (4), 16, v_i 0, 17, 0, 0, [])), (16, (.iconst (0), 17, v_i (0), 0, 0, 0, [])), (17, (.ireturn, 18, v_i 0, 0, 0, 0, []))]
def L_Fb_isDigit : List (Nat × List Nat) := []
def D_Fb_isDigit : c_M0 := (T_Fb_isDigit, L_Fb_isDigit, 2, 11, ⟨R_Fb, "isDigit", "(I)Z"⟩, prog_1_method_19_code, 1, some .boolean)
set_option maxRecDepth 100000 in
theorem k_Fb_isDigit : ∀ q ∈ T_Fb_isDigit, ck_e 11 prog_1_method_19_code q = true := by decide +kernel
def T_Ce_mark : List (Nat × c_E) := [(0, (.aload_n 0, 1, v_i 0, 0, 0, 0, [])), (1, (.getfield 25, 4, v_i 0, 5, 0, 0, [])), (4, (.ireturn, 5, v_i 0, 0, 0, 0, []))]
def L_Ce_mark : List (Nat × List Nat) := []
def D_Ce_mark : c_M0 := (T_Ce_mark, L_Ce_mark, 1, 0, ⟨R_Ce, "mark", "()I"⟩, prog_2_method_2_code, 1, some .int)
set_option maxRecDepth 100000 in
theorem k_Ce_mark : ∀ q ∈ T_Ce_mark, ck_e 0 prog_2_method_2_code q = true := by decide +kernel
def T_Ce_release : List (Nat × c_E) := [(0, (.iload_n 1, 1, v_i 0, 0, 0, 0, [])), (1, (.iconst (1), 2, v_i (1), 0, 0, 0, [])), (2, (.if_icmp .lt (16), 5, v_i 0, 18, 0, 0, [])), (5, (.iload_n 1, 6, v_i 0, 0, 0, 0, [])), (6, (.aload_n 0, 7, v_i 0, 0, 0, 0, [])), (7, (.getfield 25, 10, v_i 0, 5, 0, 0, [])), (10, (.if_icmp .ge (8), 13, v_i 0, 18, 0, 0, [])), (13, (.aload_n 0, 14, v_i 0, 0, 0, 0, [])), (14, (.iload_n 1, 15, v_i 0, 0, 0, 0, [])), (15, (.putfield 25, 18, v_i 0, 5, 0, 0, [])), (18, (.return_, 19, v_i 0, 0, 0, 0, []))]
def L_Ce_release : List (Nat × List Nat) := []
def D_Ce_release : c_M0 := (T_Ce_release, L_Ce_release, 0, 0, ⟨R_Ce, "release", "(I)V"⟩, prog_2_method_3_code, 2, none)
set_option maxRecDepth 100000 in
theorem k_Ce_release : ∀ q ∈ T_Ce_release, ck_e 0 prog_2_method_3_code q = true := by decide +kernel
def T_Ce_make : List (Nat × c_E) := [(0, (.aload_n 0, 1, v_i 0, 0, 0, 0, [])), (1, (.getfield 25, 4, v_i 0, 5, 0, 0, [])), (4, (.iconst (1), 5, v_i (1), 0, 0, 0, [])), (5, (.if_icmp .lt (12), 8, v_i 0, 17, 0, 0, [])), (8, (.aload_n 0, 9, v_i 0, 0, 0, 0, [])), (9, (.getfield 25, 12, v_i 0, 5, 0, 0, [])), (12, (.ldc 11, 14, v_i (32768), 0, 0, 0, [])), (14, (.if_icmp .lt (14), 17, v_i 0, 28, 0, 0, [])), (17, (.aload_n 0, 18, v_i 0, 0, 0, 0, [])), (18, (.getfield 29, 21, v_i 0, 0, 0, 0, [])), (21, (.bipush (9), 23, v_i (9), 0, 0, 0, [])), (23, (.invokevirtual 33, 26, v_r 2, 165, 0, 5, [])), (26, (.iconst (0), 27, v_i (0), 0, 0, 0, [])), (27, (.ireturn, 28, v_i 0, 0, 0, 0, [])), (28, (.aload_n 0, 29, v_i 0, 0, 0, 0, [])), (29, (.getfield 25, 32, v_i 0, 5, 0, 0, [])), (32, (.istore_n 3, 33, v_i 0, 0, 0, 0, [])), (33, (.aload_n 0, 34, v_i 0, 0, 0, 0, [])), (34, (.dup, 35, v_i 0, 0, 0, 0, [])), (35, (.getfield 25, 38, v_i 0, 5, 0, 0, [])), (38, (.iconst (1), 39, v_i (1), 0, 0, 0, [])), (39, (.iadd, 40, v_i 0, 0, 0, 0, [])), (40, (.putfield 25, 43, v_i 0, 5, 0, 0, [])), (43, (.aload_n 0, 44, v_i 0, 0, 0, 0, [])), (44, (.getfield 12, 47, v_i 0, 1, 0, 0, [])), (47, (.iload_n 3, 48, v_i 0, 0, 0, 0, [])), (48, (.iload_n 1, 49, v_i 0, 0, 0, 0, [])), (49, (.iastore, 50, v_i 0, 0, 0, 0, [])), (50, (.aload_n 0, 51, v_i 0, 0, 0, 0, [])), (51, (.getfield 16, 54, v_i 0, 2, 0, 0, [])), (54, (.iload_n 3, 55, v_i 0, 0, 0, 0, [])), (55, (.iload_n 2, 56, v_i 0, 0, 0, 0, [])), (56, (.iastore, 57, v_i 0, 0, 0, 0, [])), (57, (.aload_n 0, 58, v_i 0, 0, 0, 0, [])), (58, (.getfield 19, 61, v_i 0, 3, 0, 0, [])), (61, (.iload_n 3, 62, v_i 0, 0, 0, 0, [])), (62, (.iconst (0), 63, v_i (0), 0, 0, 0, [])), (63, (.iastore, 64, v_i 0, 0, 0, 0, [])), (64, (.aload_n 0, 65, v_i 0, 0, 0, 0, [])), (65, (.getfield 22, 68, v_i 0, 4, 0, 0, [])), (68, (.iload_n 3, 69, v_i 0, 0, 0, 0, [])), (69, (.iconst (0), 70, v_i (0), 0, 0, 0, [])), (70, (.iastore, 71, v_i 0, 0, 0, 0, [])), (71, (.iload_n 3, 72, v_i 0, 0, 0, 0, [])), (72, (.ireturn, 73, v_i 0, 0, 0, 0, []))]
def L_Ce_make : List (Nat × List Nat) := [(17, [0])]
def D_Ce_make : c_M0 := (T_Ce_make, L_Ce_make, 1, 0, ⟨R_Ce, "make", "(II)I"⟩, prog_2_method_4_code, 4, some .int)
set_option maxRecDepth 100000 in
theorem k_Ce_make : ∀ q ∈ T_Ce_make, ck_e 0 prog_2_method_4_code q = true := by decide +kernel
def T_Ce_term : List (Nat × c_E) := [(0, (.iload_n 1, 1, v_i 0, 0, 0, 0, [])), (1, (.iconst (1), 2, v_i (1), 0, 0, 0, [])), (2, (.if_icmp .lt (18), 5, v_i 0, 20, 0, 0, [])), (5, (.iload_n 1, 6, v_i 0, 0, 0, 0, [])), (6, (.ldc 11, 8, v_i (32768), 0, 0, 0, [])), (8, (.if_icmp .ge (12), 11, v_i 0, 20, 0, 0, [])), (11, (.aload_n 0, 12, v_i 0, 0, 0, 0, [])), (12, (.getfield 12, 15, v_i 0, 1, 0, 0, [])), (15, (.iload_n 1, 16, v_i 0, 0, 0, 0, [])), (16, (.iaload, 17, v_i 0, 0, 0, 0, [])), (17, (.goto (4), 20, v_i 0, 21, 0, 0, [])), (20, (.iconst (0), 21, v_i (0), 0, 0, 0, [])), (21, (.ireturn, 22, v_i 0, 0, 0, 0, []))]
def L_Ce_term : List (Nat × List Nat) := []
def D_Ce_term : c_M0 := (T_Ce_term, L_Ce_term, 1, 0, ⟨R_Ce, "term", "(I)I"⟩, prog_2_method_5_code, 2, some .int)
set_option maxRecDepth 100000 in
theorem k_Ce_term : ∀ q ∈ T_Ce_term, ck_e 0 prog_2_method_5_code q = true := by decide +kernel
def T_Ce_scope : List (Nat × c_E) := [(0, (.iload_n 1, 1, v_i 0, 0, 0, 0, [])), (1, (.iconst (1), 2, v_i (1), 0, 0, 0, [])), (2, (.if_icmp .lt (18), 5, v_i 0, 20, 0, 0, [])), (5, (.iload_n 1, 6, v_i 0, 0, 0, 0, [])), (6, (.ldc 11, 8, v_i (32768), 0, 0, 0, [])), (8, (.if_icmp .ge (12), 11, v_i 0, 20, 0, 0, [])), (11, (.aload_n 0, 12, v_i 0, 0, 0, 0, [])), (12, (.getfield 16, 15, v_i 0, 2, 0, 0, [])), (15, (.iload_n 1, 16, v_i 0, 0, 0, 0, [])), (16, (.iaload, 17, v_i 0, 0, 0, 0, [])), (17, (.goto (4), 20, v_i 0, 21, 0, 0, [])), (20, (.iconst (0), 21, v_i (0), 0, 0, 0, [])), (21, (.ireturn, 22, v_i 0, 0, 0, 0, []))]
def L_Ce_scope : List (Nat × List Nat) := []
def D_Ce_scope : c_M0 := (T_Ce_scope, L_Ce_scope, 1, 0, ⟨R_Ce, "scope", "(I)I"⟩, prog_2_method_6_code, 2, some .int)
set_option maxRecDepth 100000 in
theorem k_Ce_scope : ∀ q ∈ T_Ce_scope, ck_e 0 prog_2_method_6_code q = true := by decide +kernel
def T_Ce_next : List (Nat × c_E) := [(0, (.iload_n 1, 1, v_i 0, 0, 0, 0, [])), (1, (.iconst (1), 2, v_i (1), 0, 0, 0, [])), (2, (.if_icmp .lt (18), 5, v_i 0, 20, 0, 0, [])), (5, (.iload_n 1, 6, v_i 0, 0, 0, 0, [])), (6, (.ldc 11, 8, v_i (32768), 0, 0, 0, [])), (8, (.if_icmp .ge (12), 11, v_i 0, 20, 0, 0, [])), (11, (.aload_n 0, 12, v_i 0, 0, 0, 0, [])), (12, (.getfield 19, 15, v_i 0, 3, 0, 0, [])), (15, (.iload_n 1, 16, v_i 0, 0, 0, 0, [])), (16, (.iaload, 17, v_i 0, 0, 0, 0, [])), (17, (.goto (4), 20, v_i 0, 21, 0, 0, [])), (20, (.iconst (0), 21, v_i (0), 0, 0, 0, [])), (21, (.ireturn, 22, v_i 0, 0, 0, 0, []))]
def L_Ce_next : List (Nat × List Nat) := []
def D_Ce_next : c_M0 := (T_Ce_next, L_Ce_next, 1, 0, ⟨R_Ce, "next", "(I)I"⟩, prog_2_method_7_code, 2, some .int)
set_option maxRecDepth 100000 in
theorem k_Ce_next : ∀ q ∈ T_Ce_next, ck_e 0 prog_2_method_7_code q = true := by decide +kernel
def T_Ce_binder : List (Nat × c_E) := [(0, (.iload_n 1, 1, v_i 0, 0, 0, 0, [])), (1, (.iconst (1), 2, v_i (1), 0, 0, 0, [])), (2, (.if_icmp .lt (18), 5, v_i 0, 20, 0, 0, [])), (5, (.iload_n 1, 6, v_i 0, 0, 0, 0, [])), (6, (.ldc 11, 8, v_i (32768), 0, 0, 0, [])), (8, (.if_icmp .ge (12), 11, v_i 0, 20, 0, 0, [])), (11, (.aload_n 0, 12, v_i 0, 0, 0, 0, [])), (12, (.getfield 22, 15, v_i 0, 4, 0, 0, [])), (15, (.iload_n 1, 16, v_i 0, 0, 0, 0, [])), (16, (.iaload, 17, v_i 0, 0, 0, 0, [])), (17, (.goto (4), 20, v_i 0, 21, 0, 0, [])), (20, (.iconst (0), 21, v_i (0), 0, 0, 0, [])), (21, (.ireturn, 22, v_i 0, 0, 0, 0, []))]
def L_Ce_binder : List (Nat × List Nat) := []
def D_Ce_binder : c_M0 := (T_Ce_binder, L_Ce_binder, 1, 0, ⟨R_Ce, "binder", "(I)I"⟩, prog_2_method_8_code, 2, some .int)
set_option maxRecDepth 100000 in
theorem k_Ce_binder : ∀ q ∈ T_Ce_binder, ck_e 0 prog_2_method_8_code q = true := by decide +kernel
def T_Ce_link : List (Nat × c_E) := [(0, (.iload_n 1, 1, v_i 0, 0, 0, 0, [])), (1, (.iconst (1), 2, v_i (1), 0, 0, 0, [])), (2, (.if_icmp .lt (16), 5, v_i 0, 18, 0, 0, [])), (5, (.iload_n 1, 6, v_i 0, 0, 0, 0, [])), (6, (.ldc 11, 8, v_i (32768), 0, 0, 0, [])), (8, (.if_icmp .ge (10), 11, v_i 0, 18, 0, 0, [])), (11, (.aload_n 0, 12, v_i 0, 0, 0, 0, [])), (12, (.getfield 19, 15, v_i 0, 3, 0, 0, [])), (15, (.iload_n 1, 16, v_i 0, 0, 0, 0, [])), (16, (.iload_n 2, 17, v_i 0, 0, 0, 0, [])), (17, (.iastore, 18, v_i 0, 0, 0, 0, [])), (18, (.return_, 19, v_i 0, 0, 0, 0, []))]
def L_Ce_link : List (Nat × List Nat) := []
def D_Ce_link : c_M0 := (T_Ce_link, L_Ce_link, 0, 0, ⟨R_Ce, "link", "(II)V"⟩, prog_2_method_9_code, 3, none)
set_option maxRecDepth 100000 in
theorem k_Ce_link : ∀ q ∈ T_Ce_link, ck_e 0 prog_2_method_9_code q = true := by decide +kernel
def T_Ce_bind : List (Nat × c_E) := [(0, (.iload_n 1, 1, v_i 0, 0, 0, 0, [])), (1, (.iconst (1), 2, v_i (1), 0, 0, 0, [])), (2, (.if_icmp .lt (23), 5, v_i 0, 25, 0, 0, [])), (5, (.iload_n 1, 6, v_i 0, 0, 0, 0, [])), (6, (.ldc 11, 8, v_i (32768), 0, 0, 0, [])), (8, (.if_icmp .ge (17), 11, v_i 0, 25, 0, 0, [])), (11, (.aload_n 0, 12, v_i 0, 0, 0, 0, [])), (12, (.getfield 19, 15, v_i 0, 3, 0, 0, [])), (15, (.iload_n 1, 16, v_i 0, 0, 0, 0, [])), (16, (.iload_n 3, 17, v_i 0, 0, 0, 0, [])), (17, (.iastore, 18, v_i 0, 0, 0, 0, [])), (18, (.aload_n 0, 19, v_i 0, 0, 0, 0, [])), (19, (.getfield 22, 22, v_i 0, 4, 0, 0, [])), (22, (.iload_n 1, 23, v_i 0, 0, 0, 0, [])), (23, (.iload_n 2, 24, v_i 0, 0, 0, 0, [])), (24, (.iastore, 25, v_i 0, 0, 0, 0, [])), (25, (.iload_n 1, 26, v_i 0, 0, 0, 0, [])), (26, (.ireturn, 27, v_i 0, 0, 0, 0, []))]
def L_Ce_bind : List (Nat × List Nat) := []
def D_Ce_bind : c_M0 := (T_Ce_bind, L_Ce_bind, 1, 0, ⟨R_Ce, "bind", "(III)I"⟩, prog_2_method_10_code, 4, some .int)
set_option maxRecDepth 100000 in
theorem k_Ce_bind : ∀ q ∈ T_Ce_bind, ck_e 0 prog_2_method_10_code q = true := by decide +kernel
def T_Ce_newVariable : List (Nat × c_E) := [(0, (.aload_n 0, 1, v_i 0, 0, 0, 0, [])), (1, (.iload_n 1, 2, v_i 0, 0, 0, 0, [])), (2, (.iload_n 2, 3, v_i 0, 0, 0, 0, [])), (3, (.invokevirtual 39, 6, v_r 3, 104, 1, 0, [])), (6, (.istore 4, 8, v_i 0, 0, 0, 0, [])), (8, (.aload_n 0, 9, v_i 0, 0, 0, 0, [])), (9, (.iload 4, 11, v_i 0, 0, 0, 0, [])), (11, (.iload_n 3, 12, v_i 0, 0, 0, 0, [])), (12, (.invokevirtual 43, 15, v_r 3, 109, 0, 0, [])), (15, (.iload 4, 17, v_i 0, 0, 0, 0, [])), (17, (.ireturn, 18, v_i 0, 0, 0, 0, []))]
def L_Ce_newVariable : List (Nat × List Nat) := []
def D_Ce_newVariable : c_M0 := (T_Ce_newVariable, L_Ce_newVariable, 1, 0, ⟨R_Ce, "newVariable", "(III)I"⟩, prog_2_method_11_code, 5, some .int)
set_option maxRecDepth 100000 in
theorem k_Ce_newVariable : ∀ q ∈ T_Ce_newVariable, ck_e 0 prog_2_method_11_code q = true := by decide +kernel
def T_Ce_numberOf : List (Nat × c_E) := [(0, (.aload_n 0, 1, v_i 0, 0, 0, 0, [])), (1, (.iload_n 1, 2, v_i 0, 0, 0, 0, [])), (2, (.invokevirtual 47, 5, v_r 2, 107, 1, 0, [])), (5, (.ireturn, 6, v_i 0, 0, 0, 0, []))]
def L_Ce_numberOf : List (Nat × List Nat) := []
def D_Ce_numberOf : c_M0 := (T_Ce_numberOf, L_Ce_numberOf, 1, 0, ⟨R_Ce, "numberOf", "(I)I"⟩, prog_2_method_12_code, 2, some .int)
set_option maxRecDepth 100000 in
theorem k_Ce_numberOf : ∀ q ∈ T_Ce_numberOf, ck_e 0 prog_2_method_12_code q = true := by decide +kernel
def T_Ce_enter : List (Nat × c_E) := [(0, (.aload_n 0, 1, v_i 0, 0, 0, 0, [])), (1, (.aload_n 0, 2, v_i 0, 0, 0, 0, [])), (2, (.iload_n 3, 3, v_i 0, 0, 0, 0, [])), (3, (.ineg, 4, v_i 0, 0, 0, 0, [])), (4, (.iconst (0), 5, v_i (0), 0, 0, 0, [])), (5, (.invokevirtual 39, 8, v_r 3, 104, 1, 0, [])), (8, (.iload_n 1, 9, v_i 0, 0, 0, 0, [])), (9, (.iload_n 2, 10, v_i 0, 0, 0, 0, [])), (10, (.invokevirtual 51, 13, v_r 4, 110, 1, 0, [])), (13, (.ireturn, 14, v_i 0, 0, 0, 0, []))]
def L_Ce_enter : List (Nat × List Nat) := []
def D_Ce_enter : c_M0 := (T_Ce_enter, L_Ce_enter, 1, 0, ⟨R_Ce, "enter", "(III)I"⟩, prog_2_method_13_code, 4, some .int)
set_option maxRecDepth 100000 in
theorem k_Ce_enter : ∀ q ∈ T_Ce_enter, ck_e 0 prog_2_method_13_code q = true := by decide +kernel
def T_Ce_append : List (Nat × c_E) := [(0, (.aload_n 0, 1, v_i 0, 0, 0, 0, [])), (1, (.iload_n 2, 2, v_i 0, 0, 0, 0, [])), (2, (.ineg, 3, v_i 0, 0, 0, 0, [])), (3, (.iconst (0), 4, v_i (0), 0, 0, 0, [])), (4, (.invokevirtual 39, 7, v_r 3, 104, 1, 0, [])), (7, (.istore_n 3, 8, v_i 0, 0, 0, 0, [])), (8, (.iload_n 1, 9, v_i 0, 0, 0, 0, [])), (9, (.ifCond .ne (5), 12, v_i 0, 14, 0, 0, [])), (12, (.iload_n 3, 13, v_i 0, 0, 0, 0, [])), (13, (.ireturn, 14, v_i 0, 0, 0, 0, [])), (14, (.iload_n 1, 15, v_i 0, 0, 0, 0, [])), (15, (.istore 4, 17, v_i 0, 0, 0, 0, [])), (17, (.iconst (0), 18, v_i (0), 0, 0, 0, [])), (18, (.istore 5, 20, v_i 0, 0, 0, 0, [])), (20, (.iload 5, 22, v_i 0, 0, 0, 0, [])), (22, (.ldc 11, 24, v_i (32768), 0, 0, 0, [])), (24, (.if_icmp .ge (26), 27, v_i 0, 50, 0, 0, [])), (27, (.aload_n 0, 28, v_i 0, 0, 0, 0, [])), (28, (.iload 4, 30, v_i 0, 0, 0, 0, [])), (30, (.invokevirtual 47, 33, v_r 2, 107, 1, 0, [])), (33, (.ifCond .eq (17), 36, v_i 0, 50, 0, 0, [])), (36, (.aload_n 0, 37, v_i 0, 0, 0, 0, [])), (37, (.iload 4, 39, v_i 0, 0, 0, 0, [])), (39, (.invokevirtual 47, 42, v_r 2, 107, 1, 0, [])), (42, (.istore 4, 44, v_i 0, 0, 0, 0, [])), (44, (.iinc 5 (1), 47, v_i (1), 0, 0, 0, [])), (47, (.goto (-27), 50, v_i 0, 20, 0, 0, [])), (50, (.aload_n 0, 51, v_i 0, 0, 0, 0, [])), (51, (.iload 4, 53, v_i 0, 0, 0, 0, [])), (53, (.iload_n 3, 54, v_i 0, 0, 0, 0, [])), (54, (.invokevirtual 43, 57, v_r 3, 109, 0, 0, [])), (57, (.iload_n 1, 58, v_i 0, 0, 0, 0, [])), (58, (.ireturn, 59, v_i 0, 0, 0, 0, []))]
def L_Ce_append : List (Nat × List Nat) := [(20, [0, 1, 3, 4, 5]), (50, [0, 1, 3, 4])]
def D_Ce_append : c_M0 := (T_Ce_append, L_Ce_append, 1, 0, ⟨R_Ce, "append", "(II)I"⟩, prog_2_method_14_code, 6, some .int)
set_option maxRecDepth 100000 in
theorem k_Ce_append : ∀ q ∈ T_Ce_append, ck_e 0 prog_2_method_14_code q = true := by decide +kernel
def T_Ce_outward : List (Nat × c_E) := [(0, (.iload_n 1, 1, v_i 0, 0, 0, 0, [])), (1, (.istore_n 3, 2, v_i 0, 0, 0, 0, [])), (2, (.iconst (0), 3, v_i (0), 0, 0, 0, [])), (3, (.istore 4, 5, v_i 0, 0, 0, 0, [])), (5, (.iload 4, 7, v_i 0, 0, 0, 0, [])), (7, (.iload_n 2, 8, v_i 0, 0, 0, 0, [])), (8, (.if_icmp .ge (19), 11, v_i 0, 27, 0, 0, [])), (11, (.iload_n 3, 12, v_i 0, 0, 0, 0, [])), (12, (.ifCond .eq (15), 15, v_i 0, 27, 0, 0, [])), (15, (.aload_n 0, 16, v_i 0, 0, 0, 0, [])), (16, (.iload_n 3, 17, v_i 0, 0, 0, 0, [])), (17, (.invokevirtual 47, 20, v_r 2, 107, 1, 0, [])), (20, (.istore_n 3, 21, v_i 0, 0, 0, 0, [])), (21, (.iinc 4 (1), 24, v_i (1), 0, 0, 0, [])), (24, (.goto (-19), 27, v_i 0, 5, 0, 0, [])), (27, (.iload_n 3, 28, v_i 0, 0, 0, 0, [])), (28, (.ireturn, 29, v_i 0, 0, 0, 0, []))]
def L_Ce_outward : List (Nat × List Nat) := [(5, [0, 2, 3, 4])]
def D_Ce_outward : c_M0 := (T_Ce_outward, L_Ce_outward, 1, 0, ⟨R_Ce, "outward", "(II)I"⟩, prog_2_method_15_code, 5, some .int)
set_option maxRecDepth 100000 in
theorem k_Ce_outward : ∀ q ∈ T_Ce_outward, ck_e 0 prog_2_method_15_code q = true := by decide +kernel
def T_Ck_sort : List (Nat × c_E) := [(0, (.aload_n 0, 1, v_i 0, 0, 0, 0, [])), (1, (.getfield 35, 4, v_i 0, 7, 1, 0, [])), (4, (.ireturn, 5, v_i 0, 0, 0, 0, []))]
def L_Ck_sort : List (Nat × List Nat) := []
def D_Ck_sort : c_M0 := (T_Ck_sort, L_Ck_sort, 1, 1, ⟨R_Ck, "sort", "()I"⟩, prog_3_method_2_code, 1, some .int)
set_option maxRecDepth 100000 in
theorem k_Ck_sort : ∀ q ∈ T_Ck_sort, ck_e 1 prog_3_method_2_code q = true := by decide +kernel
def T_Ck_faultOfDeclaration : List (Nat × c_E) := [(0, (.aload_n 0, 1, v_i 0, 0, 0, 0, [])), (1, (.iconst (0), 2, v_i (0), 0, 0, 0, [])), (2, (.putfield 39, 5, v_i 0, 6, 1, 0, [])), (5, (.aload_n 0, 6, v_i 0, 0, 0, 0, [])), (6, (.iload_n 1, 7, v_i 0, 0, 0, 0, [])), (7, (.iconst (0), 8, v_i (0), 0, 0, 0, [])), (8, (.iload_n 2, 9, v_i 0, 0, 0, 0, [])), (9, (.ifCond .ne (7), 12, v_i 0, 16, 0, 0, [])), (12, (.iconst (1), 13, v_i (1), 0, 0, 0, [])), (13, (.goto (4), 16, v_i 0, 17, 0, 0, [])), (16, (.iconst (0), 17, v_i (0), 0, 0, 0, [])), (17, (.invokevirtual 42, 20, v_r 4, 121, 1, 1, [])), (20, (.istore_n 3, 21, v_i 0, 0, 0, 0, [])), (21, (.iload_n 2, 22, v_i 0, 0, 0, 0, [])), (22, (.ifCond .ne (19), 25, v_i 0, 41, 0, 0, [])), (25, (.aload_n 0, 26, v_i 0, 0, 0, 0, [])), (26, (.iload_n 3, 27, v_i 0, 0, 0, 0, [])), (27, (.ifCond .eq (7), 30, v_i 0, 34, 0, 0, [])), (30, (.iconst (0), 31, v_i (0), 0, 0, 0, [])), (31, (.goto (4), 34, v_i 0, 35, 0, 0, [])), (34, (.iconst (1), 35, v_i (1), 0, 0, 0, [])), (35, (.putfield 35, 38, v_i 0, 7, 1, 0, [])), (38, (.goto (16), 41, v_i 0, 54, 0, 0, [])), (41, (.aload_n 0, 42, v_i 0, 0, 0, 0, [])), (42, (.iconst (2), 43, v_i (2), 0, 0, 0, [])), (43, (.putfield 35, 46, v_i 0, 7, 1, 0, [])), (46, (.aload_n 0, 47, v_i 0, 0, 0, 0, [])), (47, (.iload_n 2, 48, v_i 0, 0, 0, 0, [])), (48, (.iconst (0), 49, v_i (0), 0, 0, 0, [])), (49, (.iload_n 1, 50, v_i 0, 0, 0, 0, [])), (50, (.iconst (0), 51, v_i (0), 0, 0, 0, [])), (51, (.invokevirtual 48, 54, v_r 5, 126, 0, 1, [])), (54, (.aload_n 0, 55, v_i 0, 0, 0, 0, [])), (55, (.getfield 39, 58, v_i 0, 6, 1, 0, [])), (58, (.ireturn, 59, v_i 0, 0, 0, 0, []))]
def L_Ck_faultOfDeclaration : List (Nat × List Nat) := [(17, [0, 1, 2])]
def D_Ck_faultOfDeclaration : c_M0 := (T_Ck_faultOfDeclaration, L_Ck_faultOfDeclaration, 1, 1, ⟨R_Ck, "faultOfDeclaration", "(II)I"⟩, prog_3_method_3_code, 4, some .int)
set_option maxRecDepth 100000 in
theorem k_Ck_faultOfDeclaration : ∀ q ∈ T_Ck_faultOfDeclaration, ck_e 1 prog_3_method_3_code q = true := by decide +kernel
def T_Ck_faultOfObject : List (Nat × c_E) := [(0, (.aload_n 0, 1, v_i 0, 0, 0, 0, [])), (1, (.iconst (0), 2, v_i (0), 0, 0, 0, [])), (2, (.putfield 39, 5, v_i 0, 6, 1, 0, [])), (5, (.aload_n 0, 6, v_i 0, 0, 0, 0, [])), (6, (.iload_n 1, 7, v_i 0, 0, 0, 0, [])), (7, (.iconst (0), 8, v_i (0), 0, 0, 0, [])), (8, (.invokevirtual 52, 11, v_r 3, 127, 0, 1, [])), (11, (.aload_n 0, 12, v_i 0, 0, 0, 0, [])), (12, (.getfield 39, 15, v_i 0, 6, 1, 0, [])), (15, (.ireturn, 16, v_i 0, 0, 0, 0, []))]
def L_Ck_faultOfObject : List (Nat × List Nat) := []
def D_Ck_faultOfObject : c_M0 := (T_Ck_faultOfObject, L_Ck_faultOfObject, 1, 1, ⟨R_Ck, "faultOfObject", "(I)I"⟩, prog_3_method_4_code, 2, some .int)
set_option maxRecDepth 100000 in
theorem k_Ck_faultOfObject : ∀ q ∈ T_Ck_faultOfObject, ck_e 1 prog_3_method_4_code q = true := by decide +kernel
def T_Ck_wrong : List (Nat × c_E) := [(0, (.aload_n 0, 1, v_i 0, 0, 0, 0, [])), (1, (.getfield 39, 4, v_i 0, 6, 1, 0, [])), (4, (.ifCond .ne (12), 7, v_i 0, 16, 0, 0, [])), (7, (.aload_n 0, 8, v_i 0, 0, 0, 0, [])), (8, (.iload_n 1, 9, v_i 0, 0, 0, 0, [])), (9, (.iload_n 2, 10, v_i 0, 0, 0, 0, [])), (10, (.invokestatic 56, 13, v_r 2, 15, 1, 0, [])), (13, (.putfield 39, 16, v_i 0, 6, 1, 0, [])), (16, (.return_, 17, v_i 0, 0, 0, 0, []))]
def L_Ck_wrong : List (Nat × List Nat) := []
def D_Ck_wrong : c_M0 := (T_Ck_wrong, L_Ck_wrong, 0, 1, ⟨R_Ck, "wrong", "(II)V"⟩, prog_3_method_5_code, 3, none)
set_option maxRecDepth 100000 in
theorem k_Ck_wrong : ∀ q ∈ T_Ck_wrong, ck_e 1 prog_3_method_5_code q = true := by decide +kernel
def T_Ck_step : List (Nat × c_E) := [(0, (.aload_n 0, 1, v_i 0, 0, 0, 0, [])), (1, (.getfield 39, 4, v_i 0, 6, 1, 0, [])), (4, (.ifCond .eq (5), 7, v_i 0, 9, 0, 0, [])), (7, (.iconst (0), 8, v_i (0), 0, 0, 0, [])), (8, (.ireturn, 9, v_i 0, 0, 0, 0, [])), (9, (.aload_n 0, 10, v_i 0, 0, 0, 0, [])), (10, (.getfield 19, 13, v_i 0, 2, 1, 0, [])), (13, (.invokevirtual 60, 16, v_r 1, 166, 1, 5, [])), (16, (.ifCond .ne (15), 19, v_i 0, 31, 0, 0, [])), (19, (.aload_n 0, 20, v_i 0, 0, 0, 0, [])), (20, (.aload_n 0, 21, v_i 0, 0, 0, 0, [])), (21, (.getfield 19, 24, v_i 0, 2, 1, 0, [])), (24, (.invokevirtual 66, 27, v_r 1, 164, 1, 5, [])), (27, (.iload_n 1, 28, v_i 0, 0, 0, 0, [])), (28, (.invokevirtual 70, 31, v_r 3, 119, 0, 1, [])), (31, (.aload_n 0, 32, v_i 0, 0, 0, 0, [])), (32, (.getfield 39, 35, v_i 0, 6, 1, 0, [])), (35, (.ifCond .ne (7), 38, v_i 0, 42, 0, 0, [])), (38, (.iconst (1), 39, v_i (1), 0, 0, 0, [])), (39, (.goto (4), 42, v_i 0, 43, 0, 0, [])), (42, (.iconst (0), 43, v_i (0), 0, 0, 0, [])), (43, (.ireturn, 44, v_i 0, 0, 0, 0, []))]
def L_Ck_step : List (Nat × List Nat) := []
def D_Ck_step : c_M0 := (T_Ck_step, L_Ck_step, 2, 1, ⟨R_Ck, "step", "(I)Z"⟩, prog_3_method_6_code, 2, some .boolean)
set_option maxRecDepth 100000 in
theorem k_Ck_step : ∀ q ∈ T_Ck_step, ck_e 1 prog_3_method_6_code q = true := by decide +kernel
def T_Ck_classifier : List (Nat × c_E) := [(0, (.iload_n 1, 1, v_i 0, 0, 0, 0, [])), (1, (.istore 4, 3, v_i 0, 0, 0, 0, [])), (3, (.iload_n 2, 4, v_i 0, 0, 0, 0, [])), (4, (.istore 5, 6, v_i 0, 0, 0, 0, [])), (6, (.aload_n 0, 7, v_i 0, 0, 0, 0, [])), (7, (.getfield 23, 10, v_i 0, 3, 1, 0, [])), (10, (.invokevirtual 73, 13, v_r 1, 102, 1, 0, [])), (13, (.istore 6, 15, v_i 0, 0, 0, 0, [])), (15, (.iconst (0), 16, v_i (0), 0, 0, 0, [])), (16, (.istore 7, 18, v_i 0, 0, 0, 0, [])), (18, (.iload 7, 20, v_i 0, 0, 0, 0, [])), (20, (.sipush (12800), 23, v_i (12800), 0, 0, 0, [])), (23, (.if_icmp .ge (78), 26, v_i 0, 101, 0, 0, [])), (26, (.aload_n 0, 27, v_i 0, 0, 0, 0, [])), (27, (.getfield 9, 30, v_i 0, 0, 1, 0, [])), (30, (.iload 4, 32, v_i 0, 0, 0, 0, [])), (32, (.invokevirtual 80, 35, v_r 2, 172, 1, 6, [])), (35, (.iconst (2), 36, v_i (2), 0, 0, 0, [])), (36, (.if_icmp .ne (65), 39, v_i 0, 101, 0, 0, [])), (39, (.aload_n 0, 40, v_i 0, 0, 0, 0, [])), (40, (.aload_n 0, 41, v_i 0, 0, 0, 0, [])), (41, (.getfield 9, 44, v_i 0, 0, 1, 0, [])), (44, (.iload 4, 46, v_i 0, 0, 0, 0, [])), (46, (.invokevirtual 84, 49, v_r 2, 176, 1, 6, [])), (49, (.invokevirtual 87, 52, v_r 2, 120, 1, 1, [])), (52, (.ifCond .ne (5), 55, v_i 0, 57, 0, 0, [])), (55, (.iconst (0), 56, v_i (0), 0, 0, 0, [])), (56, (.ireturn, 57, v_i 0, 0, 0, 0, [])), (57, (.aload_n 0, 58, v_i 0, 0, 0, 0, [])), (58, (.aload_n 0, 59, v_i 0, 0, 0, 0, [])), (59, (.getfield 9, 62, v_i 0, 0, 1, 0, [])), (62, (.iload 4, 64, v_i 0, 0, 0, 0, [])), (64, (.invokevirtual 90, 67, v_r 2, 173, 1, 6, [])), (67, (.iload 5, 69, v_i 0, 0, 0, 0, [])), (69, (.iconst (0), 70, v_i (0), 0, 0, 0, [])), (70, (.invokevirtual 42, 73, v_r 4, 121, 1, 1, [])), (73, (.pop, 74, v_i 0, 0, 0, 0, [])), (74, (.aload_n 0, 75, v_i 0, 0, 0, 0, [])), (75, (.iload 4, 77, v_i 0, 0, 0, 0, [])), (77, (.iload 5, 79, v_i 0, 0, 0, 0, [])), (79, (.invokevirtual 93, 82, v_r 3, 122, 1, 1, [])), (82, (.istore 5, 84, v_i 0, 0, 0, 0, [])), (84, (.aload_n 0, 85, v_i 0, 0, 0, 0, [])), (85, (.getfield 9, 88, v_i 0, 0, 1, 0, [])), (88, (.iload 4, 90, v_i 0, 0, 0, 0, [])), (90, (.invokevirtual 96, 93, v_r 2, 174, 1, 6, [])), (93, (.istore 4, 95, v_i 0, 0, 0, 0, [])), (95, (.iinc 7 (1), 98, v_i (1), 0, 0, 0, [])), (98, (.goto (-80), 101, v_i 0, 18, 0, 0, [])), (101, (.aload_n 0, 102, v_i 0, 0, 0, 0, [])), (102, (.getfield 9, 105, v_i 0, 0, 1, 0, [])), (105, (.iload 4, 107, v_i 0, 0, 0, 0, [])), (107, (.invokevirtual 80, 110, v_r 2, 172, 1, 6, [])), (110, (.iconst (1), 111, v_i (1), 0, 0, 0, [])), (111, (.if_icmp .ne (11), 114, v_i 0, 122, 0, 0, [])), (114, (.iload_n 3, 115, v_i 0, 0, 0, 0, [])), (115, (.ifCond .eq (7), 118, v_i 0, 122, 0, 0, [])), (118, (.iconst (1), 119, v_i (1), 0, 0, 0, [])), (119, (.goto (4), 122, v_i 0, 123, 0, 0, [])), (122, (.iconst (0), 123, v_i (0), 0, 0, 0, [])), (123, (.istore 7, 125, v_i 0, 0, 0, 0, [])), (125, (.iload 7, 127, v_i 0, 0, 0, 0, [])), (127, (.ifCond .eq (20), 130, v_i 0, 147, 0, 0, [])), (130, (.aload_n 0, 131, v_i 0, 0, 0, 0, [])), (131, (.aload_n 0, 132, v_i 0, 0, 0, 0, [])), (132, (.getfield 9, 135, v_i 0, 0, 1, 0, [])), (135, (.iload 4, 137, v_i 0, 0, 0, 0, [])), (137, (.invokevirtual 84, 140, v_r 2, 176, 1, 6, [])), (140, (.invokevirtual 87, 143, v_r 2, 120, 1, 1, [])), (143, (.pop, 144, v_i 0, 0, 0, 0, [])), (144, (.goto (11), 147, v_i 0, 155, 0, 0, [])), (147, (.aload_n 0, 148, v_i 0, 0, 0, 0, [])), (148, (.iload 4, 150, v_i 0, 0, 0, 0, [])), (150, (.iload 5, 152, v_i 0, 0, 0, 0, [])), (152, (.invokevirtual 99, 155, v_r 3, 123, 0, 1, [])), (155, (.aload_n 0, 156, v_i 0, 0, 0, 0, [])), (156, (.getfield 23, 159, v_i 0, 3, 1, 0, [])), (159, (.iload 6, 161, v_i 0, 0, 0, 0, [])), (161, (.invokevirtual 102, 164, v_r 2, 103, 0, 0, [])), (164, (.iload 7, 166, v_i 0, 0, 0, 0, [])), (166, (.ireturn, 167, v_i 0, 0, 0, 0, []))]
def L_Ck_classifier : List (Nat × List Nat) := [(18, [0, 3, 4, 5, 6, 7]), (101, [0, 3, 4, 5, 6]), (123, [0, 4, 5, 6]), (155, [0, 6, 7])]
def D_Ck_classifier : c_M0 := (T_Ck_classifier, L_Ck_classifier, 2, 1, ⟨R_Ck, "classifier", "(IIZ)Z"⟩, prog_3_method_7_code, 8, some .boolean)
set_option maxRecDepth 100000 in
theorem k_Ck_classifier : ∀ q ∈ T_Ck_classifier, ck_e 1 prog_3_method_7_code q = true := by decide +kernel
def T_Ck_under : List (Nat × c_E) := [(0, (.aload_n 0, 1, v_i 0, 0, 0, 0, [])), (1, (.getfield 23, 4, v_i 0, 3, 1, 0, [])), (4, (.iload_n 1, 5, v_i 0, 0, 0, 0, [])), (5, (.iload_n 2, 6, v_i 0, 0, 0, 0, [])), (6, (.aload_n 0, 7, v_i 0, 0, 0, 0, [])), (7, (.getfield 23, 10, v_i 0, 3, 1, 0, [])), (10, (.aload_n 0, 11, v_i 0, 0, 0, 0, [])), (11, (.getfield 9, 14, v_i 0, 0, 1, 0, [])), (14, (.iload_n 1, 15, v_i 0, 0, 0, 0, [])), (15, (.invokevirtual 90, 18, v_r 2, 173, 1, 6, [])), (18, (.iload_n 2, 19, v_i 0, 0, 0, 0, [])), (19, (.iconst (0), 20, v_i (0), 0, 0, 0, [])), (20, (.invokevirtual 106, 23, v_r 4, 111, 1, 0, [])), (23, (.invokevirtual 110, 26, v_r 4, 113, 1, 0, [])), (26, (.ireturn, 27, v_i 0, 0, 0, 0, []))]
def L_Ck_under : List (Nat × List Nat) := []
def D_Ck_under : c_M0 := (T_Ck_under, L_Ck_under, 1, 1, ⟨R_Ck, "under", "(II)I"⟩, prog_3_method_8_code, 3, some .int)
set_option maxRecDepth 100000 in
theorem k_Ck_under : ∀ q ∈ T_Ck_under, ck_e 1 prog_3_method_8_code q = true := by decide +kernel
def T_Ck_family : List (Nat × c_E) := [(0, (.aload_n 0, 1, v_i 0, 0, 0, 0, [])), (1, (.getfield 9, 4, v_i 0, 0, 1, 0, [])), (4, (.iload_n 1, 5, v_i 0, 0, 0, 0, [])), (5, (.invokevirtual 80, 8, v_r 2, 172, 1, 6, [])), (8, (.bipush (7), 10, v_i (7), 0, 0, 0, [])), (10, (.if_icmp .ne (7), 13, v_i 0, 17, 0, 0, [])), (13, (.iconst (1), 14, v_i (1), 0, 0, 0, [])), (14, (.goto (4), 17, v_i 0, 18, 0, 0, [])), (17, (.iconst (0), 18, v_i (0), 0, 0, 0, [])), (18, (.istore_n 3, 19, v_i 0, 0, 0, 0, [])), (19, (.iload_n 3, 20, v_i 0, 0, 0, 0, [])), (20, (.ifCond .eq (14), 23, v_i 0, 34, 0, 0, [])), (23, (.aload_n 0, 24, v_i 0, 0, 0, 0, [])), (24, (.getfield 9, 27, v_i 0, 0, 1, 0, [])), (27, (.iload_n 1, 28, v_i 0, 0, 0, 0, [])), (28, (.invokevirtual 90, 31, v_r 2, 173, 1, 6, [])), (31, (.goto (4), 34, v_i 0, 35, 0, 0, [])), (34, (.iload_n 1, 35, v_i 0, 0, 0, 0, [])), (35, (.istore 4, 37, v_i 0, 0, 0, 0, [])), (37, (.aload_n 0, 38, v_i 0, 0, 0, 0, [])), (38, (.getfield 39, 41, v_i 0, 6, 1, 0, [])), (41, (.ifCond .eq (4), 44, v_i 0, 45, 0, 0, [])), (44, (.return_, 45, v_i 0, 0, 0, 0, [])), (45, (.iload_n 3, 46, v_i 0, 0, 0, 0, [])), (46, (.ifCond .eq (33), 49, v_i 0, 79, 0, 0, [])), (49, (.aload_n 0, 50, v_i 0, 0, 0, 0, [])), (50, (.getfield 9, 53, v_i 0, 0, 1, 0, [])), (53, (.iload 4, 55, v_i 0, 0, 0, 0, [])), (55, (.invokevirtual 113, 58, v_r 2, 179, 1, 6, [])), (58, (.ifCond .eq (21), 61, v_i 0, 79, 0, 0, [])), (61, (.aload_n 0, 62, v_i 0, 0, 0, 0, [])), (62, (.bipush (6), 64, v_i (6), 0, 0, 0, [])), (64, (.aload_n 0, 65, v_i 0, 0, 0, 0, [])), (65, (.getfield 9, 68, v_i 0, 0, 1, 0, [])), (68, (.iload 4, 70, v_i 0, 0, 0, 0, [])), (70, (.invokevirtual 116, 73, v_r 2, 178, 1, 6, [])), (73, (.invokevirtual 70, 76, v_r 3, 119, 0, 1, [])), (76, (.goto (109), 79, v_i 0, 185, 0, 0, [])), (79, (.aload_n 0, 80, v_i 0, 0, 0, 0, [])), (80, (.aload_n 0, 81, v_i 0, 0, 0, 0, [])), (81, (.getfield 9, 84, v_i 0, 0, 1, 0, [])), (84, (.iload 4, 86, v_i 0, 0, 0, 0, [])), (86, (.invokevirtual 84, 89, v_r 2, 176, 1, 6, [])), (89, (.invokevirtual 87, 92, v_r 2, 120, 1, 1, [])), (92, (.ifCond .eq (93), 95, v_i 0, 185, 0, 0, [])), (95, (.aload_n 0, 96, v_i 0, 0, 0, 0, [])), (96, (.getfield 9, 99, v_i 0, 0, 1, 0, [])), (99, (.iload 4, 101, v_i 0, 0, 0, 0, [])), (101, (.invokevirtual 80, 104, v_r 2, 172, 1, 6, [])), (104, (.bipush (6), 106, v_i (6), 0, 0, 0, [])), (106, (.if_icmp .ne (20), 109, v_i 0, 126, 0, 0, [])), (109, (.aload_n 0, 110, v_i 0, 0, 0, 0, [])), (110, (.iconst (2), 111, v_i (2), 0, 0, 0, [])), (111, (.aload_n 0, 112, v_i 0, 0, 0, 0, [])), (112, (.getfield 9, 115, v_i 0, 0, 1, 0, [])), (115, (.iload 4, 117, v_i 0, 0, 0, 0, [])), (117, (.invokevirtual 84, 120, v_r 2, 176, 1, 6, [])), (120, (.invokevirtual 70, 123, v_r 3, 119, 0, 1, [])), (123, (.goto (62), 126, v_i 0, 185, 0, 0, [])), (126, (.aload_n 0, 127, v_i 0, 0, 0, 0, [])), (127, (.iload 4, 129, v_i 0, 0, 0, 0, [])), (129, (.invokevirtual 119, 132, v_r 2, 124, 1, 1, [])), (132, (.ifCond .ne (21), 135, v_i 0, 153, 0, 0, [])), (135, (.aload_n 0, 136, v_i 0, 0, 0, 0, [])), (136, (.bipush (6), 138, v_i (6), 0, 0, 0, [])), (138, (.aload_n 0, 139, v_i 0, 0, 0, 0, [])), (139, (.getfield 9, 142, v_i 0, 0, 1, 0, [])), (142, (.iload 4, 144, v_i 0, 0, 0, 0, [])), (144, (.invokevirtual 122, 147, v_r 2, 177, 1, 6, [])), (147, (.invokevirtual 70, 150, v_r 3, 119, 0, 1, [])), (150, (.goto (35), 153, v_i 0, 185, 0, 0, [])), (153, (.aload_n 0, 154, v_i 0, 0, 0, 0, [])), (154, (.getfield 9, 157, v_i 0, 0, 1, 0, [])), (157, (.iload_n 1, 158, v_i 0, 0, 0, 0, [])), (158, (.aload_n 0, 159, v_i 0, 0, 0, 0, [])), (159, (.getfield 9, 162, v_i 0, 0, 1, 0, [])), (162, (.iload 4, 164, v_i 0, 0, 0, 0, [])), (164, (.invokevirtual 90, 167, v_r 2, 173, 1, 6, [])), (167, (.invokevirtual 125, 170, v_r 3, 183, 0, 6, [])), (170, (.aload_n 0, 171, v_i 0, 0, 0, 0, [])), (171, (.iload_n 1, 172, v_i 0, 0, 0, 0, [])), (172, (.aload_n 0, 173, v_i 0, 0, 0, 0, [])), (173, (.getfield 9, 176, v_i 0, 0, 1, 0, [])), (176, (.iload 4, 178, v_i 0, 0, 0, 0, [])), (178, (.invokevirtual 84, 181, v_r 2, 176, 1, 6, [])), (181, (.iload_n 2, 182, v_i 0, 0, 0, 0, [])), (182, (.invokevirtual 128, 185, v_r 4, 125, 0, 1, [])), (185, (.return_, 186, v_i 0, 0, 0, 0, []))]
def L_Ck_family : List (Nat × List Nat) := [(18, [0, 1, 2]), (35, [0, 1, 2, 3]), (79, [0, 1, 2, 4])]
def D_Ck_family : c_M0 := (T_Ck_family, L_Ck_family, 0, 1, ⟨R_Ck, "family", "(II)V"⟩, prog_3_method_9_code, 5, none)
set_option maxRecDepth 100000 in
theorem k_Ck_family : ∀ q ∈ T_Ck_family, ck_e 1 prog_3_method_9_code q = true := by decide +kernel
def T_Ck_isFamilyName : List (Nat × c_E) := [(0, (.aload_n 0, 1, v_i 0, 0, 0, 0, [])), (1, (.getfield 9, 4, v_i 0, 0, 1, 0, [])), (4, (.iload_n 1, 5, v_i 0, 0, 0, 0, [])), (5, (.invokevirtual 80, 8, v_r 2, 172, 1, 6, [])), (8, (.iconst (5), 9, v_i (5), 0, 0, 0, [])), (9, (.if_icmp .ne (25), 12, v_i 0, 34, 0, 0, [])), (12, (.aload_n 0, 13, v_i 0, 0, 0, 0, [])), (13, (.getfield 15, 16, v_i 0, 1, 1, 0, [])), (16, (.aload_n 0, 17, v_i 0, 0, 0, 0, [])), (17, (.getfield 9, 20, v_i 0, 0, 1, 0, [])), (20, (.iload_n 1, 21, v_i 0, 0, 0, 0, [])), (21, (.invokevirtual 90, 24, v_r 2, 173, 1, 6, [])), (24, (.invokevirtual 132, 27, v_r 2, 132, 1, 2, [])), (27, (.ifCond .ne (7), 30, v_i 0, 34, 0, 0, [])), (30, (.iconst (1), 31, v_i (1), 0, 0, 0, [])), (31, (.goto (4), 34, v_i 0, 35, 0, 0, [])), (34, (.iconst (0), 35, v_i (0), 0, 0, 0, [])), (35, (.ireturn, 36, v_i 0, 0, 0, 0, []))]
def L_Ck_isFamilyName : List (Nat × List Nat) := []
def D_Ck_isFamilyName : c_M0 := (T_Ck_isFamilyName, L_Ck_isFamilyName, 2, 1, ⟨R_Ck, "isFamilyName", "(I)Z"⟩, prog_3_method_10_code, 2, some .boolean)
set_option maxRecDepth 100000 in
theorem k_Ck_isFamilyName : ∀ q ∈ T_Ck_isFamilyName, ck_e 1 prog_3_method_10_code q = true := by decide +kernel
def T_Ck_objectsOfFamily : List (Nat × c_E) := [(0, (.aload_n 0, 1, v_i 0, 0, 0, 0, [])), (1, (.getfield 15, 4, v_i 0, 1, 1, 0, [])), (4, (.aload_n 0, 5, v_i 0, 0, 0, 0, [])), (5, (.getfield 9, 8, v_i 0, 0, 1, 0, [])), (8, (.iload_n 1, 9, v_i 0, 0, 0, 0, [])), (9, (.invokevirtual 90, 12, v_r 2, 173, 1, 6, [])), (12, (.invokevirtual 134, 15, v_r 2, 133, 1, 2, [])), (15, (.istore 4, 17, v_i 0, 0, 0, 0, [])), (17, (.iconst (0), 18, v_i (0), 0, 0, 0, [])), (18, (.istore 5, 20, v_i 0, 0, 0, 0, [])), (20, (.aload_n 0, 21, v_i 0, 0, 0, 0, [])), (21, (.getfield 9, 24, v_i 0, 0, 1, 0, [])), (24, (.iload_n 1, 25, v_i 0, 0, 0, 0, [])), (25, (.invokevirtual 96, 28, v_r 2, 174, 1, 6, [])), (28, (.istore 6, 30, v_i 0, 0, 0, 0, [])), (30, (.aload_n 0, 31, v_i 0, 0, 0, 0, [])), (31, (.getfield 27, 34, v_i 0, 4, 1, 0, [])), (34, (.iload_n 1, 35, v_i 0, 0, 0, 0, [])), (35, (.iload_n 3, 36, v_i 0, 0, 0, 0, [])), (36, (.iconst (0), 37, v_i (0), 0, 0, 0, [])), (37, (.invokevirtual 137, 40, v_r 4, 157, 1, 4, [])), (40, (.istore 7, 42, v_i 0, 0, 0, 0, [])), (42, (.iconst (0), 43, v_i (0), 0, 0, 0, [])), (43, (.istore 8, 45, v_i 0, 0, 0, 0, [])), (45, (.iload 8, 47, v_i 0, 0, 0, 0, [])), (47, (.sipush (12800), 50, v_i (12800), 0, 0, 0, [])), (50, (.if_icmp .ge (129), 53, v_i 0, 179, 0, 0, [])), (53, (.iload 6, 55, v_i 0, 0, 0, 0, [])), (55, (.ifCond .eq (124), 58, v_i 0, 179, 0, 0, [])), (58, (.aload_n 0, 59, v_i 0, 0, 0, 0, [])), (59, (.aload_n 0, 60, v_i 0, 0, 0, 0, [])), (60, (.getfield 9, 63, v_i 0, 0, 1, 0, [])), (63, (.iload 6, 65, v_i 0, 0, 0, 0, [])), (65, (.invokevirtual 116, 68, v_r 2, 178, 1, 6, [])), (68, (.invokevirtual 87, 71, v_r 2, 120, 1, 1, [])), (71, (.ifCond .ne (4), 74, v_i 0, 75, 0, 0, [])), (74, (.return_, 75, v_i 0, 0, 0, 0, [])), (75, (.aload_n 0, 76, v_i 0, 0, 0, 0, [])), (76, (.getfield 9, 79, v_i 0, 0, 1, 0, [])), (79, (.iload 4, 81, v_i 0, 0, 0, 0, [])), (81, (.invokevirtual 80, 84, v_r 2, 172, 1, 6, [])), (84, (.iconst (2), 85, v_i (2), 0, 0, 0, [])), (85, (.if_icmp .eq (18), 88, v_i 0, 103, 0, 0, [])), (88, (.aload_n 0, 89, v_i 0, 0, 0, 0, [])), (89, (.iconst (4), 90, v_i (4), 0, 0, 0, [])), (90, (.aload_n 0, 91, v_i 0, 0, 0, 0, [])), (91, (.getfield 9, 94, v_i 0, 0, 1, 0, [])), (94, (.iload 6, 96, v_i 0, 0, 0, 0, [])), (96, (.invokevirtual 116, 99, v_r 2, 178, 1, 6, [])), (99, (.invokevirtual 70, 102, v_r 3, 119, 0, 1, [])), (102, (.return_, 103, v_i 0, 0, 0, 0, [])), (103, (.aload_n 0, 104, v_i 0, 0, 0, 0, [])), (104, (.iload 6, 106, v_i 0, 0, 0, 0, [])), (106, (.iload_n 3, 107, v_i 0, 0, 0, 0, [])), (107, (.aload_n 0, 108, v_i 0, 0, 0, 0, [])), (108, (.getfield 9, 111, v_i 0, 0, 1, 0, [])), (111, (.iload 4, 113, v_i 0, 0, 0, 0, [])), (113, (.invokevirtual 90, 116, v_r 2, 173, 1, 6, [])), (116, (.iload 5, 118, v_i 0, 0, 0, 0, [])), (118, (.invokevirtual 48, 121, v_r 5, 126, 0, 1, [])), (121, (.aload_n 0, 122, v_i 0, 0, 0, 0, [])), (122, (.getfield 23, 125, v_i 0, 3, 1, 0, [])), (125, (.iload 7, 127, v_i 0, 0, 0, 0, [])), (127, (.invokevirtual 142, 130, v_r 2, 107, 1, 0, [])), (130, (.istore 9, 132, v_i 0, 0, 0, 0, [])), (132, (.aload_n 0, 133, v_i 0, 0, 0, 0, [])), (133, (.getfield 23, 136, v_i 0, 3, 1, 0, [])), (136, (.iload 7, 138, v_i 0, 0, 0, 0, [])), (138, (.iload 4, 140, v_i 0, 0, 0, 0, [])), (140, (.iload 5, 142, v_i 0, 0, 0, 0, [])), (142, (.invokevirtual 145, 145, v_r 4, 110, 1, 0, [])), (145, (.istore 5, 147, v_i 0, 0, 0, 0, [])), (147, (.aload_n 0, 148, v_i 0, 0, 0, 0, [])), (148, (.getfield 9, 151, v_i 0, 0, 1, 0, [])), (151, (.iload 4, 153, v_i 0, 0, 0, 0, [])), (153, (.invokevirtual 96, 156, v_r 2, 174, 1, 6, [])), (156, (.istore 4, 158, v_i 0, 0, 0, 0, [])), (158, (.aload_n 0, 159, v_i 0, 0, 0, 0, [])), (159, (.getfield 9, 162, v_i 0, 0, 1, 0, [])), (162, (.iload 6, 164, v_i 0, 0, 0, 0, [])), (164, (.invokevirtual 148, 167, v_r 2, 175, 1, 6, [])), (167, (.istore 6, 169, v_i 0, 0, 0, 0, [])), (169, (.iload 9, 171, v_i 0, 0, 0, 0, [])), (171, (.istore 7, 173, v_i 0, 0, 0, 0, [])), (173, (.iinc 8 (1), 176, v_i (1), 0, 0, 0, [])), (176, (.goto (-131), 179, v_i 0, 45, 0, 0, [])), (179, (.aload_n 0, 180, v_i 0, 0, 0, 0, [])), (180, (.getfield 9, 183, v_i 0, 0, 1, 0, [])), (183, (.iload 4, 185, v_i 0, 0, 0, 0, [])), (185, (.invokevirtual 80, 188, v_r 2, 172, 1, 6, [])), (188, (.iconst (2), 189, v_i (2), 0, 0, 0, [])), (189, (.if_icmp .ne (9), 192, v_i 0, 198, 0, 0, [])), (192, (.aload_n 0, 193, v_i 0, 0, 0, 0, [])), (193, (.iconst (4), 194, v_i (4), 0, 0, 0, [])), (194, (.iload_n 2, 195, v_i 0, 0, 0, 0, [])), (195, (.invokevirtual 70, 198, v_r 3, 119, 0, 1, [])), (198, (.return_, 199, v_i 0, 0, 0, 0, []))]
def L_Ck_objectsOfFamily : List (Nat × List Nat) := [(45, [0, 2, 3, 4, 5, 6, 7, 8]), (179, [0, 2, 4])]
def D_Ck_objectsOfFamily : c_M0 := (T_Ck_objectsOfFamily, L_Ck_objectsOfFamily, 0, 1, ⟨R_Ck, "objectsOfFamily", "(III)V"⟩, prog_3_method_11_code, 10, none)
set_option maxRecDepth 100000 in
theorem k_Ck_objectsOfFamily : ∀ q ∈ T_Ck_objectsOfFamily, ck_e 1 prog_3_method_11_code q = true := by decide +kernel
def T_Ck_fitting : List (Nat × c_E) := [(0, (.aload_n 0, 1, v_i 0, 0, 0, 0, [])), (1, (.iload_n 1, 2, v_i 0, 0, 0, 0, [])), (2, (.iload_n 2, 3, v_i 0, 0, 0, 0, [])), (3, (.invokevirtual 52, 6, v_r 3, 127, 0, 1, [])), (6, (.aload_n 0, 7, v_i 0, 0, 0, 0, [])), (7, (.getfield 39, 10, v_i 0, 6, 1, 0, [])), (10, (.ifCond .eq (4), 13, v_i 0, 14, 0, 0, [])), (13, (.return_, 14, v_i 0, 0, 0, 0, [])), (14, (.aload_n 0, 15, v_i 0, 0, 0, 0, [])), (15, (.getfield 23, 18, v_i 0, 3, 1, 0, [])), (18, (.invokevirtual 73, 21, v_r 1, 102, 1, 0, [])), (21, (.istore 5, 23, v_i 0, 0, 0, 0, [])), (23, (.aload_n 0, 24, v_i 0, 0, 0, 0, [])), (24, (.getfield 31, 27, v_i 0, 5, 1, 0, [])), (27, (.iload_n 1, 28, v_i 0, 0, 0, 0, [])), (28, (.iload_n 2, 29, v_i 0, 0, 0, 0, [])), (29, (.iload_n 3, 30, v_i 0, 0, 0, 0, [])), (30, (.iload 4, 32, v_i 0, 0, 0, 0, [])), (32, (.iconst (1), 33, v_i (1), 0, 0, 0, [])), (33, (.invokevirtual 151, 36, v_r 6, 147, 1, 3, [])), (36, (.istore 6, 38, v_i 0, 0, 0, 0, [])), (38, (.aload_n 0, 39, v_i 0, 0, 0, 0, [])), (39, (.getfield 23, 42, v_i 0, 3, 1, 0, [])), (42, (.iload 5, 44, v_i 0, 0, 0, 0, [])), (44, (.invokevirtual 102, 47, v_r 2, 103, 0, 0, [])), (47, (.aload_n 0, 48, v_i 0, 0, 0, 0, [])), (48, (.getfield 19, 51, v_i 0, 2, 1, 0, [])), (51, (.invokevirtual 66, 54, v_r 1, 164, 1, 5, [])), (54, (.ifCond .eq (25), 57, v_i 0, 79, 0, 0, [])), (57, (.aload_n 0, 58, v_i 0, 0, 0, 0, [])), (58, (.aload_n 0, 59, v_i 0, 0, 0, 0, [])), (59, (.getfield 19, 62, v_i 0, 2, 1, 0, [])), (62, (.invokevirtual 66, 65, v_r 1, 164, 1, 5, [])), (65, (.aload_n 0, 66, v_i 0, 0, 0, 0, [])), (66, (.getfield 9, 69, v_i 0, 0, 1, 0, [])), (69, (.iload_n 1, 70, v_i 0, 0, 0, 0, [])), (70, (.invokevirtual 116, 73, v_r 2, 178, 1, 6, [])), (73, (.invokevirtual 70, 76, v_r 3, 119, 0, 1, [])), (76, (.goto (22), 79, v_i 0, 98, 0, 0, [])), (79, (.iload 6, 81, v_i 0, 0, 0, 0, [])), (81, (.ifCond .ne (17), 84, v_i 0, 98, 0, 0, [])), (84, (.aload_n 0, 85, v_i 0, 0, 0, 0, [])), (85, (.bipush (7), 87, v_i (7), 0, 0, 0, [])), (87, (.aload_n 0, 88, v_i 0, 0, 0, 0, [])), (88, (.getfield 9, 91, v_i 0, 0, 1, 0, [])), (91, (.iload_n 1, 92, v_i 0, 0, 0, 0, [])), (92, (.invokevirtual 116, 95, v_r 2, 178, 1, 6, [])), (95, (.invokevirtual 70, 98, v_r 3, 119, 0, 1, [])), (98, (.return_, 99, v_i 0, 0, 0, 0, []))]
def L_Ck_fitting : List (Nat × List Nat) := []
def D_Ck_fitting : c_M0 := (T_Ck_fitting, L_Ck_fitting, 0, 1, ⟨R_Ck, "fitting", "(IIII)V"⟩, prog_3_method_12_code, 7, none)
set_option maxRecDepth 100000 in
theorem k_Ck_fitting : ∀ q ∈ T_Ck_fitting, ck_e 1 prog_3_method_12_code q = true := by decide +kernel
def T_Ck_object : List (Nat × c_E) := [(0, (.iload_n 1, 1, v_i 0, 0, 0, 0, [])), (1, (.istore_n 3, 2, v_i 0, 0, 0, 0, [])), (2, (.iload_n 2, 3, v_i 0, 0, 0, 0, [])), (3, (.istore 4, 5, v_i 0, 0, 0, 0, [])), (5, (.aload_n 0, 6, v_i 0, 0, 0, 0, [])), (6, (.getfield 23, 9, v_i 0, 3, 1, 0, [])), (9, (.invokevirtual 73, 12, v_r 1, 102, 1, 0, [])), (12, (.istore 5, 14, v_i 0, 0, 0, 0, [])), (14, (.iconst (0), 15, v_i (0), 0, 0, 0, [])), (15, (.istore 6, 17, v_i 0, 0, 0, 0, [])), (17, (.iload 6, 19, v_i 0, 0, 0, 0, [])), (19, (.sipush (12800), 22, v_i (12800), 0, 0, 0, [])), (22, (.if_icmp .ge (71), 25, v_i 0, 93, 0, 0, [])), (25, (.aload_n 0, 26, v_i 0, 0, 0, 0, [])), (26, (.getfield 9, 29, v_i 0, 0, 1, 0, [])), (29, (.iload_n 3, 30, v_i 0, 0, 0, 0, [])), (30, (.invokevirtual 80, 33, v_r 2, 172, 1, 6, [])), (33, (.iconst (3), 34, v_i (3), 0, 0, 0, [])), (34, (.if_icmp .ne (59), 37, v_i 0, 93, 0, 0, [])), (37, (.aload_n 0, 38, v_i 0, 0, 0, 0, [])), (38, (.aload_n 0, 39, v_i 0, 0, 0, 0, [])), (39, (.getfield 9, 42, v_i 0, 0, 1, 0, [])), (42, (.iload_n 3, 43, v_i 0, 0, 0, 0, [])), (43, (.invokevirtual 84, 46, v_r 2, 176, 1, 6, [])), (46, (.invokevirtual 87, 49, v_r 2, 120, 1, 1, [])), (49, (.ifCond .ne (4), 52, v_i 0, 53, 0, 0, [])), (52, (.return_, 53, v_i 0, 0, 0, 0, [])), (53, (.aload_n 0, 54, v_i 0, 0, 0, 0, [])), (54, (.aload_n 0, 55, v_i 0, 0, 0, 0, [])), (55, (.getfield 9, 58, v_i 0, 0, 1, 0, [])), (58, (.iload_n 3, 59, v_i 0, 0, 0, 0, [])), (59, (.invokevirtual 90, 62, v_r 2, 173, 1, 6, [])), (62, (.iload 4, 64, v_i 0, 0, 0, 0, [])), (64, (.iconst (0), 65, v_i (0), 0, 0, 0, [])), (65, (.invokevirtual 42, 68, v_r 4, 121, 1, 1, [])), (68, (.pop, 69, v_i 0, 0, 0, 0, [])), (69, (.aload_n 0, 70, v_i 0, 0, 0, 0, [])), (70, (.iload_n 3, 71, v_i 0, 0, 0, 0, [])), (71, (.iload 4, 73, v_i 0, 0, 0, 0, [])), (73, (.invokevirtual 93, 76, v_r 3, 122, 1, 1, [])), (76, (.istore 4, 78, v_i 0, 0, 0, 0, [])), (78, (.aload_n 0, 79, v_i 0, 0, 0, 0, [])), (79, (.getfield 9, 82, v_i 0, 0, 1, 0, [])), (82, (.iload_n 3, 83, v_i 0, 0, 0, 0, [])), (83, (.invokevirtual 96, 86, v_r 2, 174, 1, 6, [])), (86, (.istore_n 3, 87, v_i 0, 0, 0, 0, [])), (87, (.iinc 6 (1), 90, v_i (1), 0, 0, 0, [])), (90, (.goto (-73), 93, v_i 0, 17, 0, 0, [])), (93, (.aload_n 0, 94, v_i 0, 0, 0, 0, [])), (94, (.getfield 39, 97, v_i 0, 6, 1, 0, [])), (97, (.ifCond .ne (26), 100, v_i 0, 123, 0, 0, [])), (100, (.aload_n 0, 101, v_i 0, 0, 0, 0, [])), (101, (.getfield 9, 104, v_i 0, 0, 1, 0, [])), (104, (.iload_n 3, 105, v_i 0, 0, 0, 0, [])), (105, (.invokevirtual 80, 108, v_r 2, 172, 1, 6, [])), (108, (.bipush (7), 110, v_i (7), 0, 0, 0, [])), (110, (.if_icmp .ne (13), 113, v_i 0, 123, 0, 0, [])), (113, (.aload_n 0, 114, v_i 0, 0, 0, 0, [])), (114, (.iload_n 3, 115, v_i 0, 0, 0, 0, [])), (115, (.iload 4, 117, v_i 0, 0, 0, 0, [])), (117, (.invokevirtual 157, 120, v_r 3, 129, 0, 1, [])), (120, (.goto (23), 123, v_i 0, 143, 0, 0, [])), (123, (.aload_n 0, 124, v_i 0, 0, 0, 0, [])), (124, (.aload_n 0, 125, v_i 0, 0, 0, 0, [])), (125, (.getfield 9, 128, v_i 0, 0, 1, 0, [])), (128, (.iload_n 3, 129, v_i 0, 0, 0, 0, [])), (129, (.invokevirtual 84, 132, v_r 2, 176, 1, 6, [])), (132, (.invokevirtual 87, 135, v_r 2, 120, 1, 1, [])), (135, (.ifCond .eq (8), 138, v_i 0, 143, 0, 0, [])), (138, (.aload_n 0, 139, v_i 0, 0, 0, 0, [])), (139, (.iload_n 3, 140, v_i 0, 0, 0, 0, [])), (140, (.invokevirtual 160, 143, v_r 2, 128, 0, 1, [])), (143, (.aload_n 0, 144, v_i 0, 0, 0, 0, [])), (144, (.getfield 23, 147, v_i 0, 3, 1, 0, [])), (147, (.iload 5, 149, v_i 0, 0, 0, 0, [])), (149, (.invokevirtual 102, 152, v_r 2, 103, 0, 0, [])), (152, (.return_, 153, v_i 0, 0, 0, 0, []))]
def L_Ck_object : List (Nat × List Nat) := [(17, [0, 3, 4, 5, 6]), (93, [0, 3, 4, 5]), (123, [0, 3, 5]), (143, [0, 5])]
def D_Ck_object : c_M0 := (T_Ck_object, L_Ck_object, 0, 1, ⟨R_Ck, "object", "(II)V"⟩, prog_3_method_13_code, 7, none)
set_option maxRecDepth 100000 in
theorem k_Ck_object : ∀ q ∈ T_Ck_object, ck_e 1 prog_3_method_13_code q = true := by decide +kernel
def T_Ck_bareObject : List (Nat × c_E) := [(0, (.aload_n 0, 1, v_i 0, 0, 0, 0, [])), (1, (.getfield 9, 4, v_i 0, 0, 1, 0, [])), (4, (.iload_n 1, 5, v_i 0, 0, 0, 0, [])), (5, (.invokevirtual 80, 8, v_r 2, 172, 1, 6, [])), (8, (.istore_n 2, 9, v_i 0, 0, 0, 0, [])), (9, (.iload_n 2, 10, v_i 0, 0, 0, 0, [])), (10, (.bipush (6), 12, v_i (6), 0, 0, 0, [])), (12, (.if_icmp .ne (19), 15, v_i 0, 31, 0, 0, [])), (15, (.aload_n 0, 16, v_i 0, 0, 0, 0, [])), (16, (.iconst (2), 17, v_i (2), 0, 0, 0, [])), (17, (.aload_n 0, 18, v_i 0, 0, 0, 0, [])), (18, (.getfield 9, 21, v_i 0, 0, 1, 0, [])), (21, (.iload_n 1, 22, v_i 0, 0, 0, 0, [])), (22, (.invokevirtual 84, 25, v_r 2, 176, 1, 6, [])), (25, (.invokevirtual 70, 28, v_r 3, 119, 0, 1, [])), (28, (.goto (35), 31, v_i 0, 63, 0, 0, [])), (31, (.iload_n 2, 32, v_i 0, 0, 0, 0, [])), (32, (.iconst (4), 33, v_i (4), 0, 0, 0, [])), (33, (.if_icmp .eq (30), 36, v_i 0, 63, 0, 0, [])), (36, (.iload_n 2, 37, v_i 0, 0, 0, 0, [])), (37, (.iconst (5), 38, v_i (5), 0, 0, 0, [])), (38, (.if_icmp .ne (11), 41, v_i 0, 49, 0, 0, [])), (41, (.aload_n 0, 42, v_i 0, 0, 0, 0, [])), (42, (.iload_n 1, 43, v_i 0, 0, 0, 0, [])), (43, (.invokevirtual 119, 46, v_r 2, 124, 1, 1, [])), (46, (.ifCond .eq (17), 49, v_i 0, 63, 0, 0, [])), (49, (.aload_n 0, 50, v_i 0, 0, 0, 0, [])), (50, (.bipush (6), 52, v_i (6), 0, 0, 0, [])), (52, (.aload_n 0, 53, v_i 0, 0, 0, 0, [])), (53, (.getfield 9, 56, v_i 0, 0, 1, 0, [])), (56, (.iload_n 1, 57, v_i 0, 0, 0, 0, [])), (57, (.invokevirtual 122, 60, v_r 2, 177, 1, 6, [])), (60, (.invokevirtual 70, 63, v_r 3, 119, 0, 1, [])), (63, (.return_, 64, v_i 0, 0, 0, 0, []))]
def L_Ck_bareObject : List (Nat × List Nat) := [(49, [0, 1])]
def D_Ck_bareObject : c_M0 := (T_Ck_bareObject, L_Ck_bareObject, 0, 1, ⟨R_Ck, "bareObject", "(I)V"⟩, prog_3_method_14_code, 3, none)
set_option maxRecDepth 100000 in
theorem k_Ck_bareObject : ∀ q ∈ T_Ck_bareObject, ck_e 1 prog_3_method_14_code q = true := by decide +kernel
def T_Ck_applied : List (Nat × c_E) := [(0, (.aload_n 0, 1, v_i 0, 0, 0, 0, [])), (1, (.getfield 9, 4, v_i 0, 0, 1, 0, [])), (4, (.iload_n 1, 5, v_i 0, 0, 0, 0, [])), (5, (.invokevirtual 90, 8, v_r 2, 173, 1, 6, [])), (8, (.istore_n 3, 9, v_i 0, 0, 0, 0, [])), (9, (.aload_n 0, 10, v_i 0, 0, 0, 0, [])), (10, (.iload_n 3, 11, v_i 0, 0, 0, 0, [])), (11, (.iload_n 2, 12, v_i 0, 0, 0, 0, [])), (12, (.invokevirtual 52, 15, v_r 3, 127, 0, 1, [])), (15, (.aload_n 0, 16, v_i 0, 0, 0, 0, [])), (16, (.getfield 39, 19, v_i 0, 6, 1, 0, [])), (19, (.ifCond .eq (4), 22, v_i 0, 23, 0, 0, [])), (22, (.return_, 23, v_i 0, 0, 0, 0, [])), (23, (.aload_n 0, 24, v_i 0, 0, 0, 0, [])), (24, (.getfield 27, 27, v_i 0, 4, 1, 0, [])), (27, (.iload_n 3, 28, v_i 0, 0, 0, 0, [])), (28, (.iload_n 2, 29, v_i 0, 0, 0, 0, [])), (29, (.invokevirtual 163, 32, v_r 3, 158, 0, 4, [])), (32, (.aload_n 0, 33, v_i 0, 0, 0, 0, [])), (33, (.getfield 27, 36, v_i 0, 4, 1, 0, [])), (36, (.invokevirtual 166, 39, v_r 1, 151, 1, 4, [])), (39, (.istore 4, 41, v_i 0, 0, 0, 0, [])), (41, (.aload_n 0, 42, v_i 0, 0, 0, 0, [])), (42, (.getfield 27, 45, v_i 0, 4, 1, 0, [])), (45, (.invokevirtual 169, 48, v_r 1, 152, 1, 4, [])), (48, (.istore 5, 50, v_i 0, 0, 0, 0, [])), (50, (.aload_n 0, 51, v_i 0, 0, 0, 0, [])), (51, (.getfield 9, 54, v_i 0, 0, 1, 0, [])), (54, (.iload_n 1, 55, v_i 0, 0, 0, 0, [])), (55, (.invokevirtual 96, 58, v_r 2, 174, 1, 6, [])), (58, (.istore 6, 60, v_i 0, 0, 0, 0, [])), (60, (.aload_n 0, 61, v_i 0, 0, 0, 0, [])), (61, (.getfield 27, 64, v_i 0, 4, 1, 0, [])), (64, (.iload_n 1, 65, v_i 0, 0, 0, 0, [])), (65, (.iload_n 2, 66, v_i 0, 0, 0, 0, [])), (66, (.iconst (0), 67, v_i (0), 0, 0, 0, [])), (67, (.invokevirtual 137, 70, v_r 4, 157, 1, 4, [])), (70, (.istore 7, 72, v_i 0, 0, 0, 0, [])), (72, (.iconst (0), 73, v_i (0), 0, 0, 0, [])), (73, (.istore 8, 75, v_i 0, 0, 0, 0, [])), (75, (.iload 8, 77, v_i 0, 0, 0, 0, [])), (77, (.sipush (12800), 80, v_i (12800), 0, 0, 0, [])), (80, (.if_icmp .ge (150), 83, v_i 0, 230, 0, 0, [])), (83, (.iload 6, 85, v_i 0, 0, 0, 0, [])), (85, (.ifCond .eq (145), 88, v_i 0, 230, 0, 0, [])), (88, (.aload_n 0, 89, v_i 0, 0, 0, 0, [])), (89, (.aload_n 0, 90, v_i 0, 0, 0, 0, [])), (90, (.getfield 9, 93, v_i 0, 0, 1, 0, [])), (93, (.iload 6, 95, v_i 0, 0, 0, 0, [])), (95, (.invokevirtual 116, 98, v_r 2, 178, 1, 6, [])), (98, (.invokevirtual 87, 101, v_r 2, 120, 1, 1, [])), (101, (.ifCond .ne (4), 104, v_i 0, 105, 0, 0, [])), (104, (.return_, 105, v_i 0, 0, 0, 0, [])), (105, (.aload_n 0, 106, v_i 0, 0, 0, 0, [])), (106, (.getfield 9, 109, v_i 0, 0, 1, 0, [])), (109, (.iload 4, 111, v_i 0, 0, 0, 0, [])), (111, (.invokevirtual 172, 114, v_r 2, 180, 1, 6, [])), (114, (.ifCond .ne (19), 117, v_i 0, 133, 0, 0, [])), (117, (.aload_n 0, 118, v_i 0, 0, 0, 0, [])), (118, (.bipush (8), 120, v_i (8), 0, 0, 0, [])), (120, (.aload_n 0, 121, v_i 0, 0, 0, 0, [])), (121, (.getfield 9, 124, v_i 0, 0, 1, 0, [])), (124, (.iload 6, 126, v_i 0, 0, 0, 0, [])), (126, (.invokevirtual 116, 129, v_r 2, 178, 1, 6, [])), (129, (.invokevirtual 70, 132, v_r 3, 119, 0, 1, [])), (132, (.return_, 133, v_i 0, 0, 0, 0, [])), (133, (.aload_n 0, 134, v_i 0, 0, 0, 0, [])), (134, (.iload 6, 136, v_i 0, 0, 0, 0, [])), (136, (.iload_n 2, 137, v_i 0, 0, 0, 0, [])), (137, (.aload_n 0, 138, v_i 0, 0, 0, 0, [])), (138, (.getfield 9, 141, v_i 0, 0, 1, 0, [])), (141, (.iload 4, 143, v_i 0, 0, 0, 0, [])), (143, (.invokevirtual 90, 146, v_r 2, 173, 1, 6, [])), (146, (.iload 5, 148, v_i 0, 0, 0, 0, [])), (148, (.invokevirtual 48, 151, v_r 5, 126, 0, 1, [])), (151, (.aload_n 0, 152, v_i 0, 0, 0, 0, [])), (152, (.getfield 23, 155, v_i 0, 3, 1, 0, [])), (155, (.iload 7, 157, v_i 0, 0, 0, 0, [])), (157, (.invokevirtual 142, 160, v_r 2, 107, 1, 0, [])), (160, (.istore 9, 162, v_i 0, 0, 0, 0, [])), (162, (.aload_n 0, 163, v_i 0, 0, 0, 0, [])), (163, (.getfield 27, 166, v_i 0, 4, 1, 0, [])), (166, (.aload_n 0, 167, v_i 0, 0, 0, 0, [])), (167, (.getfield 9, 170, v_i 0, 0, 1, 0, [])), (170, (.iload 4, 172, v_i 0, 0, 0, 0, [])), (172, (.invokevirtual 96, 175, v_r 2, 174, 1, 6, [])), (175, (.aload_n 0, 176, v_i 0, 0, 0, 0, [])), (176, (.getfield 23, 179, v_i 0, 3, 1, 0, [])), (179, (.iload 7, 181, v_i 0, 0, 0, 0, [])), (181, (.iload 4, 183, v_i 0, 0, 0, 0, [])), (183, (.iload 5, 185, v_i 0, 0, 0, 0, [])), (185, (.invokevirtual 145, 188, v_r 4, 110, 1, 0, [])), (188, (.invokevirtual 163, 191, v_r 3, 158, 0, 4, [])), (191, (.aload_n 0, 192, v_i 0, 0, 0, 0, [])), (192, (.getfield 27, 195, v_i 0, 4, 1, 0, [])), (195, (.invokevirtual 166, 198, v_r 1, 151, 1, 4, [])), (198, (.istore 4, 200, v_i 0, 0, 0, 0, [])), (200, (.aload_n 0, 201, v_i 0, 0, 0, 0, [])), (201, (.getfield 27, 204, v_i 0, 4, 1, 0, [])), (204, (.invokevirtual 169, 207, v_r 1, 152, 1, 4, [])), (207, (.istore 5, 209, v_i 0, 0, 0, 0, [])), (209, (.aload_n 0, 210, v_i 0, 0, 0, 0, [])), (210, (.getfield 9, 213, v_i 0, 0, 1, 0, [])), (213, (.iload 6, 215, v_i 0, 0, 0, 0, [])), (215, (.invokevirtual 148, 218, v_r 2, 175, 1, 6, [])), (218, (.istore 6, 220, v_i 0, 0, 0, 0, [])), (220, (.iload 9, 222, v_i 0, 0, 0, 0, [])), (222, (.istore 7, 224, v_i 0, 0, 0, 0, [])), (224, (.iinc 8 (1), 227, v_i (1), 0, 0, 0, [])), (227, (.goto (-152), 230, v_i 0, 75, 0, 0, [])), (230, (.return_, 231, v_i 0, 0, 0, 0, []))]
def L_Ck_applied : List (Nat × List Nat) := [(75, [0, 2, 4, 5, 6, 7, 8])]
def D_Ck_applied : c_M0 := (T_Ck_applied, L_Ck_applied, 0, 1, ⟨R_Ck, "applied", "(II)V"⟩, prog_3_method_15_code, 10, none)
set_option maxRecDepth 100000 in
theorem k_Ck_applied : ∀ q ∈ T_Ck_applied, ck_e 1 prog_3_method_15_code q = true := by decide +kernel
def T_Co_number : List (Nat × c_E) := [(0, (.aload_n 0, 1, v_i 0, 0, 0, 0, [])), (1, (.getfield 37, 4, v_i 0, 7, 2, 0, [])), (4, (.ireturn, 5, v_i 0, 0, 0, 0, []))]
def L_Co_number : List (Nat × List Nat) := []
def D_Co_number : c_M0 := (T_Co_number, L_Co_number, 1, 2, ⟨R_Co, "number", "()I"⟩, prog_4_method_2_code, 1, some .int)
set_option maxRecDepth 100000 in
theorem k_Co_number : ∀ q ∈ T_Co_number, ck_e 2 prog_4_method_2_code q = true := by decide +kernel
def T_Co_full : List (Nat × c_E) := [(0, (.aload_n 0, 1, v_i 0, 0, 0, 0, [])), (1, (.getfield 37, 4, v_i 0, 7, 2, 0, [])), (4, (.bipush (100), 6, v_i (100), 0, 0, 0, [])), (6, (.if_icmp .lt (7), 9, v_i 0, 13, 0, 0, [])), (9, (.iconst (1), 10, v_i (1), 0, 0, 0, [])), (10, (.goto (4), 13, v_i 0, 14, 0, 0, [])), (13, (.iconst (0), 14, v_i (0), 0, 0, 0, [])), (14, (.ireturn, 15, v_i 0, 0, 0, 0, []))]
def L_Co_full : List (Nat × List Nat) := []
def D_Co_full : c_M0 := (T_Co_full, L_Co_full, 2, 2, ⟨R_Co, "full", "()Z"⟩, prog_4_method_3_code, 1, some .boolean)
set_option maxRecDepth 100000 in
theorem k_Co_full : ∀ q ∈ T_Co_full, ck_e 2 prog_4_method_3_code q = true := by decide +kernel
def T_Co_sort : List (Nat × c_E) := [(0, (.iload_n 1, 1, v_i 0, 0, 0, 0, [])), (1, (.ifCond .lt (18), 4, v_i 0, 19, 0, 0, [])), (4, (.iload_n 1, 5, v_i 0, 0, 0, 0, [])), (5, (.bipush (100), 7, v_i (100), 0, 0, 0, [])), (7, (.if_icmp .ge (12), 10, v_i 0, 19, 0, 0, [])), (10, (.aload_n 0, 11, v_i 0, 0, 0, 0, [])), (11, (.getfield 21, 14, v_i 0, 3, 2, 0, [])), (14, (.iload_n 1, 15, v_i 0, 0, 0, 0, [])), (15, (.iaload, 16, v_i 0, 0, 0, 0, [])), (16, (.goto (4), 19, v_i 0, 20, 0, 0, [])), (19, (.iconst (0), 20, v_i (0), 0, 0, 0, [])), (20, (.ireturn, 21, v_i 0, 0, 0, 0, []))]
def L_Co_sort : List (Nat × List Nat) := []
def D_Co_sort : c_M0 := (T_Co_sort, L_Co_sort, 1, 2, ⟨R_Co, "sort", "(I)I"⟩, prog_4_method_4_code, 2, some .int)
set_option maxRecDepth 100000 in
theorem k_Co_sort : ∀ q ∈ T_Co_sort, ck_e 2 prog_4_method_4_code q = true := by decide +kernel
def T_Co_typeRoot : List (Nat × c_E) := [(0, (.iload_n 1, 1, v_i 0, 0, 0, 0, [])), (1, (.ifCond .lt (18), 4, v_i 0, 19, 0, 0, [])), (4, (.iload_n 1, 5, v_i 0, 0, 0, 0, [])), (5, (.bipush (100), 7, v_i (100), 0, 0, 0, [])), (7, (.if_icmp .ge (12), 10, v_i 0, 19, 0, 0, [])), (10, (.aload_n 0, 11, v_i 0, 0, 0, 0, [])), (11, (.getfield 24, 14, v_i 0, 4, 2, 0, [])), (14, (.iload_n 1, 15, v_i 0, 0, 0, 0, [])), (15, (.iaload, 16, v_i 0, 0, 0, 0, [])), (16, (.goto (4), 19, v_i 0, 20, 0, 0, [])), (19, (.iconst (0), 20, v_i (0), 0, 0, 0, [])), (20, (.ireturn, 21, v_i 0, 0, 0, 0, []))]
def L_Co_typeRoot : List (Nat × List Nat) := []
def D_Co_typeRoot : c_M0 := (T_Co_typeRoot, L_Co_typeRoot, 1, 2, ⟨R_Co, "typeRoot", "(I)I"⟩, prog_4_method_5_code, 2, some .int)
set_option maxRecDepth 100000 in
theorem k_Co_typeRoot : ∀ q ∈ T_Co_typeRoot, ck_e 2 prog_4_method_5_code q = true := by decide +kernel
def T_Co_bodyRoot : List (Nat × c_E) := [(0, (.iload_n 1, 1, v_i 0, 0, 0, 0, [])), (1, (.ifCond .lt (18), 4, v_i 0, 19, 0, 0, [])), (4, (.iload_n 1, 5, v_i 0, 0, 0, 0, [])), (5, (.bipush (100), 7, v_i (100), 0, 0, 0, [])), (7, (.if_icmp .ge (12), 10, v_i 0, 19, 0, 0, [])), (10, (.aload_n 0, 11, v_i 0, 0, 0, 0, [])), (11, (.getfield 27, 14, v_i 0, 5, 2, 0, [])), (14, (.iload_n 1, 15, v_i 0, 0, 0, 0, [])), (15, (.iaload, 16, v_i 0, 0, 0, 0, [])), (16, (.goto (4), 19, v_i 0, 20, 0, 0, [])), (19, (.iconst (0), 20, v_i (0), 0, 0, 0, [])), (20, (.ireturn, 21, v_i 0, 0, 0, 0, []))]
def L_Co_bodyRoot : List (Nat × List Nat) := []
def D_Co_bodyRoot : c_M0 := (T_Co_bodyRoot, L_Co_bodyRoot, 1, 2, ⟨R_Co, "bodyRoot", "(I)I"⟩, prog_4_method_6_code, 2, some .int)
set_option maxRecDepth 100000 in
theorem k_Co_bodyRoot : ∀ q ∈ T_Co_bodyRoot, ck_e 2 prog_4_method_6_code q = true := by decide +kernel
def T_Co_wanted : List (Nat × c_E) := [(0, (.aload_n 0, 1, v_i 0, 0, 0, 0, [])), (1, (.iload_n 1, 2, v_i 0, 0, 0, 0, [])), (2, (.invokevirtual 41, 5, v_r 2, 133, 1, 2, [])), (5, (.istore_n 2, 6, v_i 0, 0, 0, 0, [])), (6, (.iconst (0), 7, v_i (0), 0, 0, 0, [])), (7, (.istore_n 3, 8, v_i 0, 0, 0, 0, [])), (8, (.iload_n 3, 9, v_i 0, 0, 0, 0, [])), (9, (.sipush (12800), 12, v_i (12800), 0, 0, 0, [])), (12, (.if_icmp .ge (30), 15, v_i 0, 42, 0, 0, [])), (15, (.aload_n 0, 16, v_i 0, 0, 0, 0, [])), (16, (.getfield 33, 19, v_i 0, 0, 2, 0, [])), (19, (.iload_n 2, 20, v_i 0, 0, 0, 0, [])), (20, (.invokevirtual 47, 23, v_r 2, 172, 1, 6, [])), (23, (.iconst (2), 24, v_i (2), 0, 0, 0, [])), (24, (.if_icmp .ne (18), 27, v_i 0, 42, 0, 0, [])), (27, (.aload_n 0, 28, v_i 0, 0, 0, 0, [])), (28, (.getfield 33, 31, v_i 0, 0, 2, 0, [])), (31, (.iload_n 2, 32, v_i 0, 0, 0, 0, [])), (32, (.invokevirtual 50, 35, v_r 2, 174, 1, 6, [])), (35, (.istore_n 2, 36, v_i 0, 0, 0, 0, [])), (36, (.iinc 3 (1), 39, v_i (1), 0, 0, 0, [])), (39, (.goto (-31), 42, v_i 0, 8, 0, 0, [])), (42, (.iload_n 3, 43, v_i 0, 0, 0, 0, [])), (43, (.ireturn, 44, v_i 0, 0, 0, 0, []))]
def L_Co_wanted : List (Nat × List Nat) := [(8, [0, 2, 3])]
def D_Co_wanted : c_M0 := (T_Co_wanted, L_Co_wanted, 1, 2, ⟨R_Co, "wanted", "(I)I"⟩, prog_4_method_7_code, 4, some .int)
set_option maxRecDepth 100000 in
theorem k_Co_wanted : ∀ q ∈ T_Co_wanted, ck_e 2 prog_4_method_7_code q = true := by decide +kernel
def T_Co_nameLength : List (Nat × c_E) := [(0, (.iload_n 1, 1, v_i 0, 0, 0, 0, [])), (1, (.ifCond .lt (18), 4, v_i 0, 19, 0, 0, [])), (4, (.iload_n 1, 5, v_i 0, 0, 0, 0, [])), (5, (.bipush (100), 7, v_i (100), 0, 0, 0, [])), (7, (.if_icmp .ge (12), 10, v_i 0, 19, 0, 0, [])), (10, (.aload_n 0, 11, v_i 0, 0, 0, 0, [])), (11, (.getfield 17, 14, v_i 0, 2, 2, 0, [])), (14, (.iload_n 1, 15, v_i 0, 0, 0, 0, [])), (15, (.iaload, 16, v_i 0, 0, 0, 0, [])), (16, (.goto (4), 19, v_i 0, 20, 0, 0, [])), (19, (.iconst (0), 20, v_i (0), 0, 0, 0, [])), (20, (.ireturn, 21, v_i 0, 0, 0, 0, []))]
def L_Co_nameLength : List (Nat × List Nat) := []
def D_Co_nameLength : c_M0 := (T_Co_nameLength, L_Co_nameLength, 1, 2, ⟨R_Co, "nameLength", "(I)I"⟩, prog_4_method_8_code, 2, some .int)
set_option maxRecDepth 100000 in
theorem k_Co_nameLength : ∀ q ∈ T_Co_nameLength, ck_e 2 prog_4_method_8_code q = true := by decide +kernel
def T_Co_nameSign : List (Nat × c_E) := [(0, (.iload_n 1, 1, v_i 0, 0, 0, 0, [])), (1, (.bipush (12), 3, v_i (12), 0, 0, 0, [])), (3, (.imul, 4, v_i 0, 0, 0, 0, [])), (4, (.iload_n 2, 5, v_i 0, 0, 0, 0, [])), (5, (.iadd, 6, v_i 0, 0, 0, 0, [])), (6, (.istore_n 3, 7, v_i 0, 0, 0, 0, [])), (7, (.iload_n 1, 8, v_i 0, 0, 0, 0, [])), (8, (.ifCond .lt (33), 11, v_i 0, 41, 0, 0, [])), (11, (.iload_n 1, 12, v_i 0, 0, 0, 0, [])), (12, (.aload_n 0, 13, v_i 0, 0, 0, 0, [])), (13, (.getfield 37, 16, v_i 0, 7, 2, 0, [])), (16, (.if_icmp .ge (25), 19, v_i 0, 41, 0, 0, [])), (19, (.iload_n 3, 20, v_i 0, 0, 0, 0, [])), (20, (.ifCond .lt (21), 23, v_i 0, 41, 0, 0, [])), (23, (.iload_n 3, 24, v_i 0, 0, 0, 0, [])), (24, (.aload_n 0, 25, v_i 0, 0, 0, 0, [])), (25, (.getfield 13, 28, v_i 0, 1, 2, 0, [])), (28, (.arraylength, 29, v_i 0, 0, 0, 0, [])), (29, (.if_icmp .ge (12), 32, v_i 0, 41, 0, 0, [])), (32, (.aload_n 0, 33, v_i 0, 0, 0, 0, [])), (33, (.getfield 13, 36, v_i 0, 1, 2, 0, [])), (36, (.iload_n 3, 37, v_i 0, 0, 0, 0, [])), (37, (.caload, 38, v_i 0, 0, 0, 0, [])), (38, (.goto (4), 41, v_i 0, 42, 0, 0, [])), (41, (.iconst (0), 42, v_i (0), 0, 0, 0, [])), (42, (.ireturn, 43, v_i 0, 0, 0, 0, []))]
def L_Co_nameSign : List (Nat × List Nat) := []
def D_Co_nameSign : c_M0 := (T_Co_nameSign, L_Co_nameSign, 1, 2, ⟨R_Co, "nameSign", "(II)I"⟩, prog_4_method_9_code, 4, some .int)
set_option maxRecDepth 100000 in
theorem k_Co_nameSign : ∀ q ∈ T_Co_nameSign, ck_e 2 prog_4_method_9_code q = true := by decide +kernel
def T_Co_name : List (Nat × c_E) := [(0, (.aload_n 0, 1, v_i 0, 0, 0, 0, [])), (1, (.getfield 37, 4, v_i 0, 7, 2, 0, [])), (4, (.ifCond .lt (12), 7, v_i 0, 16, 0, 0, [])), (7, (.aload_n 0, 8, v_i 0, 0, 0, 0, [])), (8, (.getfield 37, 11, v_i 0, 7, 2, 0, [])), (11, (.bipush (100), 13, v_i (100), 0, 0, 0, [])), (13, (.if_icmp .lt (4), 16, v_i 0, 17, 0, 0, [])), (16, (.return_, 17, v_i 0, 0, 0, 0, [])), (17, (.aload_n 0, 18, v_i 0, 0, 0, 0, [])), (18, (.getfield 37, 21, v_i 0, 7, 2, 0, [])), (21, (.bipush (12), 23, v_i (12), 0, 0, 0, [])), (23, (.imul, 24, v_i 0, 0, 0, 0, [])), (24, (.istore 4, 26, v_i 0, 0, 0, 0, [])), (26, (.iconst (0), 27, v_i (0), 0, 0, 0, [])), (27, (.istore 5, 29, v_i 0, 0, 0, 0, [])), (29, (.iload 5, 31, v_i 0, 0, 0, 0, [])), (31, (.iload_n 3, 32, v_i 0, 0, 0, 0, [])), (32, (.if_icmp .ge (35), 35, v_i 0, 67, 0, 0, [])), (35, (.iload 5, 37, v_i 0, 0, 0, 0, [])), (37, (.bipush (12), 39, v_i (12), 0, 0, 0, [])), (39, (.if_icmp .ge (28), 42, v_i 0, 67, 0, 0, [])), (42, (.aload_n 0, 43, v_i 0, 0, 0, 0, [])), (43, (.getfield 13, 46, v_i 0, 1, 2, 0, [])), (46, (.iload 4, 48, v_i 0, 0, 0, 0, [])), (48, (.iload 5, 50, v_i 0, 0, 0, 0, [])), (50, (.iadd, 51, v_i 0, 0, 0, 0, [])), (51, (.aload_n 1, 52, v_i 0, 0, 0, 0, [])), (52, (.iload_n 2, 53, v_i 0, 0, 0, 0, [])), (53, (.iload 5, 55, v_i 0, 0, 0, 0, [])), (55, (.iadd, 56, v_i 0, 0, 0, 0, [])), (56, (.invokevirtual 53, 59, v_r 2, 215, 1, 9, [])), (59, (.i2c, 60, v_i 0, 0, 0, 0, [])), (60, (.castore, 61, v_i 0, 0, 0, 0, [])), (61, (.iinc 5 (1), 64, v_i (1), 0, 0, 0, [])), (64, (.goto (-35), 67, v_i 0, 29, 0, 0, [])), (67, (.aload_n 0, 68, v_i 0, 0, 0, 0, [])), (68, (.getfield 17, 71, v_i 0, 2, 2, 0, [])), (71, (.aload_n 0, 72, v_i 0, 0, 0, 0, [])), (72, (.getfield 37, 75, v_i 0, 7, 2, 0, [])), (75, (.iload_n 3, 76, v_i 0, 0, 0, 0, [])), (76, (.iastore, 77, v_i 0, 0, 0, 0, [])), (77, (.return_, 78, v_i 0, 0, 0, 0, []))]
def L_Co_name : List (Nat × List Nat) := [(29, [0, 1, 2, 3, 4, 5])]
def D_Co_name : c_M0 := (T_Co_name, L_Co_name, 0, 2, ⟨R_Co, "name", "(LFrameBench$Tape;II)V"⟩, prog_4_method_10_code, 6, none)
set_option maxRecDepth 100000 in
theorem k_Co_name : ∀ q ∈ T_Co_name, ck_e 2 prog_4_method_10_code q = true := by decide +kernel
def T_Co_add : List (Nat × c_E) := [(0, (.aload_n 0, 1, v_i 0, 0, 0, 0, [])), (1, (.getfield 37, 4, v_i 0, 7, 2, 0, [])), (4, (.ifCond .lt (12), 7, v_i 0, 16, 0, 0, [])), (7, (.aload_n 0, 8, v_i 0, 0, 0, 0, [])), (8, (.getfield 37, 11, v_i 0, 7, 2, 0, [])), (11, (.bipush (100), 13, v_i (100), 0, 0, 0, [])), (13, (.if_icmp .lt (4), 16, v_i 0, 17, 0, 0, [])), (16, (.return_, 17, v_i 0, 0, 0, 0, [])), (17, (.aload_n 0, 18, v_i 0, 0, 0, 0, [])), (18, (.getfield 21, 21, v_i 0, 3, 2, 0, [])), (21, (.aload_n 0, 22, v_i 0, 0, 0, 0, [])), (22, (.getfield 37, 25, v_i 0, 7, 2, 0, [])), (25, (.iload_n 1, 26, v_i 0, 0, 0, 0, [])), (26, (.iastore, 27, v_i 0, 0, 0, 0, [])), (27, (.aload_n 0, 28, v_i 0, 0, 0, 0, [])), (28, (.getfield 24, 31, v_i 0, 4, 2, 0, [])), (31, (.aload_n 0, 32, v_i 0, 0, 0, 0, [])), (32, (.getfield 37, 35, v_i 0, 7, 2, 0, [])), (35, (.iload_n 2, 36, v_i 0, 0, 0, 0, [])), (36, (.iastore, 37, v_i 0, 0, 0, 0, [])), (37, (.aload_n 0, 38, v_i 0, 0, 0, 0, [])), (38, (.getfield 27, 41, v_i 0, 5, 2, 0, [])), (41, (.aload_n 0, 42, v_i 0, 0, 0, 0, [])), (42, (.getfield 37, 45, v_i 0, 7, 2, 0, [])), (45, (.iload_n 3, 46, v_i 0, 0, 0, 0, [])), (46, (.iastore, 47, v_i 0, 0, 0, 0, [])), (47, (.aload_n 0, 48, v_i 0, 0, 0, 0, [])), (48, (.getfield 30, 51, v_i 0, 6, 2, 0, [])), (51, (.aload_n 0, 52, v_i 0, 0, 0, 0, [])), (52, (.getfield 37, 55, v_i 0, 7, 2, 0, [])), (55, (.iload 4, 57, v_i 0, 0, 0, 0, [])), (57, (.iastore, 58, v_i 0, 0, 0, 0, [])), (58, (.aload_n 0, 59, v_i 0, 0, 0, 0, [])), (59, (.dup, 60, v_i 0, 0, 0, 0, [])), (60, (.getfield 37, 63, v_i 0, 7, 2, 0, [])), (63, (.iconst (1), 64, v_i (1), 0, 0, 0, [])), (64, (.iadd, 65, v_i 0, 0, 0, 0, [])), (65, (.putfield 37, 68, v_i 0, 7, 2, 0, [])), (68, (.return_, 69, v_i 0, 0, 0, 0, []))]
def L_Co_add : List (Nat × List Nat) := []
def D_Co_add : c_M0 := (T_Co_add, L_Co_add, 0, 2, ⟨R_Co, "add", "(IIII)V"⟩, prog_4_method_11_code, 5, none)
set_option maxRecDepth 100000 in
theorem k_Co_add : ∀ q ∈ T_Co_add, ck_e 2 prog_4_method_11_code q = true := by decide +kernel
def T_Co_drop : List (Nat × c_E) := [(0, (.aload_n 0, 1, v_i 0, 0, 0, 0, [])), (1, (.getfield 37, 4, v_i 0, 7, 2, 0, [])), (4, (.iload_n 1, 5, v_i 0, 0, 0, 0, [])), (5, (.isub, 6, v_i 0, 0, 0, 0, [])), (6, (.istore_n 2, 7, v_i 0, 0, 0, 0, [])), (7, (.iload_n 1, 8, v_i 0, 0, 0, 0, [])), (8, (.ifCond .le (31), 11, v_i 0, 39, 0, 0, [])), (11, (.iload_n 2, 12, v_i 0, 0, 0, 0, [])), (12, (.ifCond .lt (27), 15, v_i 0, 39, 0, 0, [])), (15, (.iload_n 2, 16, v_i 0, 0, 0, 0, [])), (16, (.bipush (100), 18, v_i (100), 0, 0, 0, [])), (18, (.if_icmp .ge (21), 21, v_i 0, 39, 0, 0, [])), (21, (.aload_n 0, 22, v_i 0, 0, 0, 0, [])), (22, (.iload_n 2, 23, v_i 0, 0, 0, 0, [])), (23, (.putfield 37, 26, v_i 0, 7, 2, 0, [])), (26, (.aload_n 0, 27, v_i 0, 0, 0, 0, [])), (27, (.getfield 33, 30, v_i 0, 0, 2, 0, [])), (30, (.aload_n 0, 31, v_i 0, 0, 0, 0, [])), (31, (.getfield 30, 34, v_i 0, 6, 2, 0, [])), (34, (.iload_n 2, 35, v_i 0, 0, 0, 0, [])), (35, (.iaload, 36, v_i 0, 0, 0, 0, [])), (36, (.invokevirtual 56, 39, v_r 2, 169, 0, 6, [])), (39, (.return_, 40, v_i 0, 0, 0, 0, []))]
def L_Co_drop : List (Nat × List Nat) := []
def D_Co_drop : c_M0 := (T_Co_drop, L_Co_drop, 0, 2, ⟨R_Co, "drop", "(I)V"⟩, prog_4_method_12_code, 3, none)
set_option maxRecDepth 100000 in
theorem k_Co_drop : ∀ q ∈ T_Co_drop, ck_e 2 prog_4_method_12_code q = true := by decide +kernel
def T_Co_find : List (Nat × c_E) := [(0, (.iconst (0), 1, v_i (0), 0, 0, 0, [])), (1, (.istore 4, 3, v_i 0, 0, 0, 0, [])), (3, (.iload 4, 5, v_i 0, 0, 0, 0, [])), (5, (.aload_n 0, 6, v_i 0, 0, 0, 0, [])), (6, (.getfield 37, 9, v_i 0, 7, 2, 0, [])), (9, (.if_icmp .ge (33), 12, v_i 0, 42, 0, 0, [])), (12, (.aload_n 0, 13, v_i 0, 0, 0, 0, [])), (13, (.iload 4, 15, v_i 0, 0, 0, 0, [])), (15, (.invokevirtual 60, 18, v_r 2, 136, 1, 2, [])), (18, (.iload_n 3, 19, v_i 0, 0, 0, 0, [])), (19, (.if_icmp .ne (17), 22, v_i 0, 36, 0, 0, [])), (22, (.aload_n 0, 23, v_i 0, 0, 0, 0, [])), (23, (.iload 4, 25, v_i 0, 0, 0, 0, [])), (25, (.aload_n 1, 26, v_i 0, 0, 0, 0, [])), (26, (.iload_n 2, 27, v_i 0, 0, 0, 0, [])), (27, (.invokevirtual 63, 30, v_r 4, 142, 1, 2, [])), (30, (.ifCond .eq (6), 33, v_i 0, 36, 0, 0, [])), (33, (.iload 4, 35, v_i 0, 0, 0, 0, [])), (35, (.ireturn, 36, v_i 0, 0, 0, 0, [])), (36, (.iinc 4 (1), 39, v_i (1), 0, 0, 0, [])), (39, (.goto (-36), 42, v_i 0, 3, 0, 0, [])), (42, (.iconst (-1), 43, v_i (-1), 0, 0, 0, [])), (43, (.ireturn, 44, v_i 0, 0, 0, 0, []))]
def L_Co_find : List (Nat × List Nat) := [(3, [0, 1, 2, 3, 4])]
def D_Co_find : c_M0 := (T_Co_find, L_Co_find, 1, 2, ⟨R_Co, "find", "(LFrameBench$Tape;II)I"⟩, prog_4_method_13_code, 5, some .int)
set_option maxRecDepth 100000 in
theorem k_Co_find : ∀ q ∈ T_Co_find, ck_e 2 prog_4_method_13_code q = true := by decide +kernel
def T_Co_isNamed : List (Nat × c_E) := [(0, (.iconst (0), 1, v_i (0), 0, 0, 0, [])), (1, (.istore 4, 3, v_i 0, 0, 0, 0, [])), (3, (.iload 4, 5, v_i 0, 0, 0, 0, [])), (5, (.aload_n 0, 6, v_i 0, 0, 0, 0, [])), (6, (.iload_n 1, 7, v_i 0, 0, 0, 0, [])), (7, (.invokevirtual 60, 10, v_r 2, 136, 1, 2, [])), (10, (.if_icmp .ge (29), 13, v_i 0, 39, 0, 0, [])), (13, (.aload_n 0, 14, v_i 0, 0, 0, 0, [])), (14, (.iload_n 1, 15, v_i 0, 0, 0, 0, [])), (15, (.iload 4, 17, v_i 0, 0, 0, 0, [])), (17, (.invokevirtual 67, 20, v_r 3, 137, 1, 2, [])), (20, (.aload_n 2, 21, v_i 0, 0, 0, 0, [])), (21, (.iload_n 3, 22, v_i 0, 0, 0, 0, [])), (22, (.iload 4, 24, v_i 0, 0, 0, 0, [])), (24, (.iadd, 25, v_i 0, 0, 0, 0, [])), (25, (.invokevirtual 53, 28, v_r 2, 215, 1, 9, [])), (28, (.if_icmp .eq (5), 31, v_i 0, 33, 0, 0, [])), (31, (.iconst (0), 32, v_i (0), 0, 0, 0, [])), (32, (.ireturn, 33, v_i 0, 0, 0, 0, [])), (33, (.iinc 4 (1), 36, v_i (1), 0, 0, 0, [])), (36, (.goto (-33), 39, v_i 0, 3, 0, 0, [])), (39, (.iconst (1), 40, v_i (1), 0, 0, 0, [])), (40, (.ireturn, 41, v_i 0, 0, 0, 0, []))]
def L_Co_isNamed : List (Nat × List Nat) := [(3, [0, 1, 2, 3, 4])]
def D_Co_isNamed : c_M0 := (T_Co_isNamed, L_Co_isNamed, 2, 2, ⟨R_Co, "isNamed", "(ILFrameBench$Tape;I)Z"⟩, prog_4_method_14_code, 5, some .boolean)
set_option maxRecDepth 100000 in
theorem k_Co_isNamed : ∀ q ∈ T_Co_isNamed, ck_e 2 prog_4_method_14_code q = true := by decide +kernel
def T_Co_fewestXs : List (Nat × c_E) := [(0, (.iconst (1), 1, v_i (1), 0, 0, 0, [])), (1, (.istore_n 1, 2, v_i 0, 0, 0, 0, [])), (2, (.iload_n 1, 3, v_i 0, 0, 0, 0, [])), (3, (.bipush (12), 5, v_i (12), 0, 0, 0, [])), (5, (.if_icmp .gt (17), 8, v_i 0, 22, 0, 0, [])), (8, (.aload_n 0, 9, v_i 0, 0, 0, 0, [])), (9, (.iload_n 1, 10, v_i 0, 0, 0, 0, [])), (10, (.invokevirtual 71, 13, v_r 2, 144, 1, 2, [])), (13, (.ifCond .eq (9), 16, v_i 0, 22, 0, 0, [])), (16, (.iinc 1 (1), 19, v_i (1), 0, 0, 0, [])), (19, (.goto (-17), 22, v_i 0, 2, 0, 0, [])), (22, (.iload_n 1, 23, v_i 0, 0, 0, 0, [])), (23, (.ireturn, 24, v_i 0, 0, 0, 0, []))]
def L_Co_fewestXs : List (Nat × List Nat) := [(2, [0, 1])]
def D_Co_fewestXs : c_M0 := (T_Co_fewestXs, L_Co_fewestXs, 1, 2, ⟨R_Co, "fewestXs", "()I"⟩, prog_4_method_15_code, 2, some .int)
set_option maxRecDepth 100000 in
theorem k_Co_fewestXs : ∀ q ∈ T_Co_fewestXs, ck_e 2 prog_4_method_15_code q = true := by decide +kernel
def T_Co_anyIsXsAndNumber : List (Nat × c_E) := [(0, (.iconst (0), 1, v_i (0), 0, 0, 0, [])), (1, (.istore_n 2, 2, v_i 0, 0, 0, 0, [])), (2, (.iload_n 2, 3, v_i 0, 0, 0, 0, [])), (3, (.aload_n 0, 4, v_i 0, 0, 0, 0, [])), (4, (.getfield 37, 7, v_i 0, 7, 2, 0, [])), (7, (.if_icmp .ge (20), 10, v_i 0, 27, 0, 0, [])), (10, (.aload_n 0, 11, v_i 0, 0, 0, 0, [])), (11, (.iload_n 2, 12, v_i 0, 0, 0, 0, [])), (12, (.iload_n 1, 13, v_i 0, 0, 0, 0, [])), (13, (.invokevirtual 75, 16, v_r 3, 145, 1, 2, [])), (16, (.ifCond .eq (5), 19, v_i 0, 21, 0, 0, [])), (19, (.iconst (1), 20, v_i (1), 0, 0, 0, [])), (20, (.ireturn, 21, v_i 0, 0, 0, 0, [])), (21, (.iinc 2 (1), 24, v_i (1), 0, 0, 0, [])), (24, (.goto (-22), 27, v_i 0, 2, 0, 0, [])), (27, (.iconst (0), 28, v_i (0), 0, 0, 0, [])), (28, (.ireturn, 29, v_i 0, 0, 0, 0, []))]
def L_Co_anyIsXsAndNumber : List (Nat × List Nat) := [(2, [0, 1, 2])]
def D_Co_anyIsXsAndNumber : c_M0 := (T_Co_anyIsXsAndNumber, L_Co_anyIsXsAndNumber, 2, 2, ⟨R_Co, "anyIsXsAndNumber", "(I)Z"⟩, prog_4_method_16_code, 3, some .boolean)
set_option maxRecDepth 100000 in
theorem k_Co_anyIsXsAndNumber : ∀ q ∈ T_Co_anyIsXsAndNumber, ck_e 2 prog_4_method_16_code q = true := by decide +kernel
def T_Co_isXsAndNumber : List (Nat × c_E) := [(0, (.aload_n 0, 1, v_i 0, 0, 0, 0, [])), (1, (.iload_n 1, 2, v_i 0, 0, 0, 0, [])), (2, (.invokevirtual 60, 5, v_r 2, 136, 1, 2, [])), (5, (.istore_n 3, 6, v_i 0, 0, 0, 0, [])), (6, (.iload_n 3, 7, v_i 0, 0, 0, 0, [])), (7, (.iload_n 2, 8, v_i 0, 0, 0, 0, [])), (8, (.if_icmp .gt (5), 11, v_i 0, 13, 0, 0, [])), (11, (.iconst (0), 12, v_i (0), 0, 0, 0, [])), (12, (.ireturn, 13, v_i 0, 0, 0, 0, [])), (13, (.iconst (0), 14, v_i (0), 0, 0, 0, [])), (14, (.istore 4, 16, v_i 0, 0, 0, 0, [])), (16, (.iload 4, 18, v_i 0, 0, 0, 0, [])), (18, (.iload_n 3, 19, v_i 0, 0, 0, 0, [])), (19, (.if_icmp .ge (54), 22, v_i 0, 73, 0, 0, [])), (22, (.iload 4, 24, v_i 0, 0, 0, 0, [])), (24, (.iload_n 2, 25, v_i 0, 0, 0, 0, [])), (25, (.if_icmp .ge (23), 28, v_i 0, 48, 0, 0, [])), (28, (.aload_n 0, 29, v_i 0, 0, 0, 0, [])), (29, (.iload_n 1, 30, v_i 0, 0, 0, 0, [])), (30, (.iload 4, 32, v_i 0, 0, 0, 0, [])), (32, (.invokevirtual 67, 35, v_r 3, 137, 1, 2, [])), (35, (.bipush (120), 37, v_i (120), 0, 0, 0, [])), (37, (.if_icmp .ne (7), 40, v_i 0, 44, 0, 0, [])), (40, (.iconst (1), 41, v_i (1), 0, 0, 0, [])), (41, (.goto (17), 44, v_i 0, 58, 0, 0, [])), (44, (.iconst (0), 45, v_i (0), 0, 0, 0, [])), (45, (.goto (13), 48, v_i 0, 58, 0, 0, [])), (48, (.aload_n 0, 49, v_i 0, 0, 0, 0, [])), (49, (.iload_n 1, 50, v_i 0, 0, 0, 0, [])), (50, (.iload 4, 52, v_i 0, 0, 0, 0, [])), (52, (.invokevirtual 67, 55, v_r 3, 137, 1, 2, [])), (55, (.invokestatic 79, 58, v_r 1, 17, 1, 0, [])), (58, (.istore 5, 60, v_i 0, 0, 0, 0, [])), (60, (.iload 5, 62, v_i 0, 0, 0, 0, [])), (62, (.ifCond .ne (5), 65, v_i 0, 67, 0, 0, [])), (65, (.iconst (0), 66, v_i (0), 0, 0, 0, [])), (66, (.ireturn, 67, v_i 0, 0, 0, 0, [])), (67, (.iinc 4 (1), 70, v_i (1), 0, 0, 0, [])), (70, (.goto (-54), 73, v_i 0, 16, 0, 0, [])), (73, (.iload_n 3, 74, v_i 0, 0, 0, 0, [])), (74, (.iload_n 2, 75, v_i 0, 0, 0, 0, [])), (75, (.iconst (1), 76, v_i (1), 0, 0, 0, [])), (76, (.iadd, 77, v_i 0, 0, 0, 0, [])), (77, (.if_icmp .eq (14), 80, v_i 0, 91, 0, 0, [])), (80, (.aload_n 0, 81, v_i 0, 0, 0, 0, [])), (81, (.iload_n 1, 82, v_i 0, 0, 0, 0, [])), (82, (.iload_n 2, 83, v_i 0, 0, 0, 0, [])), (83, (.invokevirtual 67, 86, v_r 3, 137, 1, 2, [])), (86, (.bipush (48), 88, v_i (48), 0, 0, 0, [])), (88, (.if_icmp .eq (7), 91, v_i 0, 95, 0, 0, [])), (91, (.iconst (1), 92, v_i (1), 0, 0, 0, [])), (92, (.goto (4), 95, v_i 0, 96, 0, 0, [])), (95, (.iconst (0), 96, v_i (0), 0, 0, 0, [])), (96, (.ireturn, 97, v_i 0, 0, 0, 0, []))]
def L_Co_isXsAndNumber : List (Nat × List Nat) := [(16, [0, 1, 2, 3, 4])]
def D_Co_isXsAndNumber : c_M0 := (T_Co_isXsAndNumber, L_Co_isXsAndNumber, 2, 2, ⟨R_Co, "isXsAndNumber", "(II)Z"⟩, prog_4_method_17_code, 6, some .boolean)
set_option maxRecDepth 100000 in
theorem k_Co_isXsAndNumber : ∀ q ∈ T_Co_isXsAndNumber, ck_e 2 prog_4_method_17_code q = true := by decide +kernel
def T_Ju_sameObjects : List (Nat × c_E) := [(0, (.aload_n 0, 1, v_i 0, 0, 0, 0, [])), (1, (.iload_n 1, 2, v_i 0, 0, 0, 0, [])), (2, (.aload_n 0, 3, v_i 0, 0, 0, 0, [])), (3, (.getfield 21, 6, v_i 0, 3, 3, 0, [])), (6, (.iload_n 1, 7, v_i 0, 0, 0, 0, [])), (7, (.iconst (0), 8, v_i (0), 0, 0, 0, [])), (8, (.invokevirtual 29, 11, v_r 3, 104, 1, 0, [])), (11, (.aload_n 0, 12, v_i 0, 0, 0, 0, [])), (12, (.getfield 21, 15, v_i 0, 3, 3, 0, [])), (15, (.iload_n 2, 16, v_i 0, 0, 0, 0, [])), (16, (.iconst (0), 17, v_i (0), 0, 0, 0, [])), (17, (.invokevirtual 29, 20, v_r 3, 104, 1, 0, [])), (20, (.iconst (1), 21, v_i (1), 0, 0, 0, [])), (21, (.invokevirtual 35, 24, v_r 5, 149, 1, 3, [])), (24, (.ifCond .eq (32), 27, v_i 0, 56, 0, 0, [])), (27, (.aload_n 0, 28, v_i 0, 0, 0, 0, [])), (28, (.aload_n 0, 29, v_i 0, 0, 0, 0, [])), (29, (.getfield 39, 32, v_i 0, 7, 3, 0, [])), (32, (.aload_n 0, 33, v_i 0, 0, 0, 0, [])), (33, (.getfield 43, 36, v_i 0, 5, 3, 0, [])), (36, (.aload_n 0, 37, v_i 0, 0, 0, 0, [])), (37, (.getfield 46, 40, v_i 0, 6, 3, 0, [])), (40, (.aload_n 0, 41, v_i 0, 0, 0, 0, [])), (41, (.getfield 49, 44, v_i 0, 8, 3, 0, [])), (44, (.iconst (1), 45, v_i (1), 0, 0, 0, [])), (45, (.iadd, 46, v_i 0, 0, 0, 0, [])), (46, (.invokevirtual 52, 49, v_r 5, 148, 1, 3, [])), (49, (.ifCond .eq (7), 52, v_i 0, 56, 0, 0, [])), (52, (.iconst (1), 53, v_i (1), 0, 0, 0, [])), (53, (.goto (4), 56, v_i 0, 57, 0, 0, [])), (56, (.iconst (0), 57, v_i (0), 0, 0, 0, [])), (57, (.ireturn, 58, v_i 0, 0, 0, 0, []))]
def L_Ju_sameObjects : List (Nat × List Nat) := []
def D_Ju_sameObjects : c_M0 := (T_Ju_sameObjects, L_Ju_sameObjects, 2, 3, ⟨R_Ju, "sameObjects", "(II)Z"⟩, prog_5_method_2_code, 3, some .boolean)
set_option maxRecDepth 100000 in
theorem k_Ju_sameObjects : ∀ q ∈ T_Ju_sameObjects, ck_e 3 prog_5_method_2_code q = true := by decide +kernel
def T_Ju_families : List (Nat × c_E) := [(0, (.iload_n 1, 1, v_i 0, 0, 0, 0, [])), (1, (.istore 6, 3, v_i 0, 0, 0, 0, [])), (3, (.iload_n 2, 4, v_i 0, 0, 0, 0, [])), (4, (.istore 7, 6, v_i 0, 0, 0, 0, [])), (6, (.iload_n 3, 7, v_i 0, 0, 0, 0, [])), (7, (.istore 8, 9, v_i 0, 0, 0, 0, [])), (9, (.iload 4, 11, v_i 0, 0, 0, 0, [])), (11, (.istore 9, 13, v_i 0, 0, 0, 0, [])), (13, (.iload 5, 15, v_i 0, 0, 0, 0, [])), (15, (.istore 10, 17, v_i 0, 0, 0, 0, [])), (17, (.iconst (0), 18, v_i (0), 0, 0, 0, [])), (18, (.istore 11, 20, v_i 0, 0, 0, 0, [])), (20, (.iload 11, 22, v_i 0, 0, 0, 0, [])), (22, (.bipush (100), 24, v_i (100), 0, 0, 0, [])), (24, (.if_icmp .gt (237), 27, v_i 0, 261, 0, 0, [])), (27, (.aload_n 0, 28, v_i 0, 0, 0, 0, [])), (28, (.getfield 17, 31, v_i 0, 2, 3, 0, [])), (31, (.iload 10, 33, v_i 0, 0, 0, 0, [])), (33, (.invokevirtual 57, 36, v_r 2, 167, 1, 5, [])), (36, (.ifCond .ne (5), 39, v_i 0, 41, 0, 0, [])), (39, (.iconst (0), 40, v_i (0), 0, 0, 0, [])), (40, (.ireturn, 41, v_i 0, 0, 0, 0, [])), (41, (.aload_n 0, 42, v_i 0, 0, 0, 0, [])), (42, (.getfield 25, 45, v_i 0, 4, 3, 0, [])), (45, (.iload 6, 47, v_i 0, 0, 0, 0, [])), (47, (.iload 7, 49, v_i 0, 0, 0, 0, [])), (49, (.invokevirtual 61, 52, v_r 3, 158, 0, 4, [])), (52, (.aload_n 0, 53, v_i 0, 0, 0, 0, [])), (53, (.getfield 25, 56, v_i 0, 4, 3, 0, [])), (56, (.invokevirtual 67, 59, v_r 1, 151, 1, 4, [])), (59, (.istore 6, 61, v_i 0, 0, 0, 0, [])), (61, (.aload_n 0, 62, v_i 0, 0, 0, 0, [])), (62, (.getfield 25, 65, v_i 0, 4, 3, 0, [])), (65, (.invokevirtual 71, 68, v_r 1, 152, 1, 4, [])), (68, (.istore 7, 70, v_i 0, 0, 0, 0, [])), (70, (.aload_n 0, 71, v_i 0, 0, 0, 0, [])), (71, (.getfield 25, 74, v_i 0, 4, 3, 0, [])), (74, (.iload 8, 76, v_i 0, 0, 0, 0, [])), (76, (.iload 9, 78, v_i 0, 0, 0, 0, [])), (78, (.invokevirtual 61, 81, v_r 3, 158, 0, 4, [])), (81, (.aload_n 0, 82, v_i 0, 0, 0, 0, [])), (82, (.getfield 25, 85, v_i 0, 4, 3, 0, [])), (85, (.invokevirtual 67, 88, v_r 1, 151, 1, 4, [])), (88, (.istore 8, 90, v_i 0, 0, 0, 0, [])), (90, (.aload_n 0, 91, v_i 0, 0, 0, 0, [])), (91, (.getfield 25, 94, v_i 0, 4, 3, 0, [])), (94, (.invokevirtual 71, 97, v_r 1, 152, 1, 4, [])), (97, (.istore 9, 99, v_i 0, 0, 0, 0, [])), (99, (.aload_n 0, 100, v_i 0, 0, 0, 0, [])), (100, (.getfield 7, 103, v_i 0, 0, 3, 0, [])), (103, (.iload 6, 105, v_i 0, 0, 0, 0, [])), (105, (.invokevirtual 74, 108, v_r 2, 180, 1, 6, [])), (108, (.ifCond .eq (153), 111, v_i 0, 261, 0, 0, [])), (111, (.aload_n 0, 112, v_i 0, 0, 0, 0, [])), (112, (.getfield 7, 115, v_i 0, 0, 3, 0, [])), (115, (.iload 8, 117, v_i 0, 0, 0, 0, [])), (117, (.invokevirtual 74, 120, v_r 2, 180, 1, 6, [])), (120, (.ifCond .ne (6), 123, v_i 0, 126, 0, 0, [])), (123, (.goto (138), 126, v_i 0, 261, 0, 0, [])), (126, (.aload_n 0, 127, v_i 0, 0, 0, 0, [])), (127, (.getfield 21, 130, v_i 0, 3, 3, 0, [])), (130, (.invokevirtual 79, 133, v_r 1, 102, 1, 0, [])), (133, (.istore 12, 135, v_i 0, 0, 0, 0, [])), (135, (.aload_n 0, 136, v_i 0, 0, 0, 0, [])), (136, (.aload_n 0, 137, v_i 0, 0, 0, 0, [])), (137, (.getfield 7, 140, v_i 0, 0, 3, 0, [])), (140, (.iload 6, 142, v_i 0, 0, 0, 0, [])), (142, (.invokevirtual 82, 145, v_r 2, 173, 1, 6, [])), (145, (.iload 7, 147, v_i 0, 0, 0, 0, [])), (147, (.aload_n 0, 148, v_i 0, 0, 0, 0, [])), (148, (.getfield 7, 151, v_i 0, 0, 3, 0, [])), (151, (.iload 8, 153, v_i 0, 0, 0, 0, [])), (153, (.invokevirtual 82, 156, v_r 2, 173, 1, 6, [])), (156, (.iload 9, 158, v_i 0, 0, 0, 0, [])), (158, (.iload 10, 160, v_i 0, 0, 0, 0, [])), (160, (.iconst (1), 161, v_i (1), 0, 0, 0, [])), (161, (.iadd, 162, v_i 0, 0, 0, 0, [])), (162, (.invokevirtual 86, 165, v_r 6, 147, 1, 3, [])), (165, (.ifCond .ne (5), 168, v_i 0, 170, 0, 0, [])), (168, (.iconst (0), 169, v_i (0), 0, 0, 0, [])), (169, (.ireturn, 170, v_i 0, 0, 0, 0, [])), (170, (.aload_n 0, 171, v_i 0, 0, 0, 0, [])), (171, (.getfield 21, 174, v_i 0, 3, 3, 0, [])), (174, (.iload 12, 176, v_i 0, 0, 0, 0, [])), (176, (.invokevirtual 90, 179, v_r 2, 103, 0, 0, [])), (179, (.aload_n 0, 180, v_i 0, 0, 0, 0, [])), (180, (.getfield 21, 183, v_i 0, 3, 3, 0, [])), (183, (.aload_n 0, 184, v_i 0, 0, 0, 0, [])), (184, (.getfield 7, 187, v_i 0, 0, 3, 0, [])), (187, (.iload 6, 189, v_i 0, 0, 0, 0, [])), (189, (.invokevirtual 82, 192, v_r 2, 173, 1, 6, [])), (192, (.iload 7, 194, v_i 0, 0, 0, 0, [])), (194, (.iconst (0), 195, v_i (0), 0, 0, 0, [])), (195, (.invokevirtual 94, 198, v_r 4, 111, 1, 0, [])), (198, (.istore 13, 200, v_i 0, 0, 0, 0, [])), (200, (.aload_n 0, 201, v_i 0, 0, 0, 0, [])), (201, (.getfield 21, 204, v_i 0, 3, 3, 0, [])), (204, (.iload 6, 206, v_i 0, 0, 0, 0, [])), (206, (.iload 7, 208, v_i 0, 0, 0, 0, [])), (208, (.iload 13, 210, v_i 0, 0, 0, 0, [])), (210, (.invokevirtual 98, 213, v_r 4, 113, 1, 0, [])), (213, (.istore 7, 215, v_i 0, 0, 0, 0, [])), (215, (.aload_n 0, 216, v_i 0, 0, 0, 0, [])), (216, (.getfield 7, 219, v_i 0, 0, 3, 0, [])), (219, (.iload 6, 221, v_i 0, 0, 0, 0, [])), (221, (.invokevirtual 101, 224, v_r 2, 174, 1, 6, [])), (224, (.istore 6, 226, v_i 0, 0, 0, 0, [])), (226, (.aload_n 0, 227, v_i 0, 0, 0, 0, [])), (227, (.getfield 21, 230, v_i 0, 3, 3, 0, [])), (230, (.iload 8, 232, v_i 0, 0, 0, 0, [])), (232, (.iload 9, 234, v_i 0, 0, 0, 0, [])), (234, (.iload 13, 236, v_i 0, 0, 0, 0, [])), (236, (.invokevirtual 98, 239, v_r 4, 113, 1, 0, [])), (239, (.istore 9, 241, v_i 0, 0, 0, 0, [])), (241, (.aload_n 0, 242, v_i 0, 0, 0, 0, [])), (242, (.getfield 7, 245, v_i 0, 0, 3, 0, [])), (245, (.iload 8, 247, v_i 0, 0, 0, 0, [])), (247, (.invokevirtual 101, 250, v_r 2, 174, 1, 6, [])), (250, (.istore 8, 252, v_i 0, 0, 0, 0, [])), (252, (.iinc 10 (1), 255, v_i (1), 0, 0, 0, [])), (255, (.iinc 11 (1), 258, v_i (1), 0, 0, 0, [])), (258, (.goto (-238), 261, v_i 0, 20, 0, 0, [])), (261, (.aload_n 0, 262, v_i 0, 0, 0, 0, [])), (262, (.getfield 7, 265, v_i 0, 0, 3, 0, [])), (265, (.iload 6, 267, v_i 0, 0, 0, 0, [])), (267, (.invokevirtual 104, 270, v_r 2, 172, 1, 6, [])), (270, (.bipush (8), 272, v_i (8), 0, 0, 0, [])), (272, (.if_icmp .ne (42), 275, v_i 0, 314, 0, 0, [])), (275, (.aload_n 0, 276, v_i 0, 0, 0, 0, [])), (276, (.getfield 7, 279, v_i 0, 0, 3, 0, [])), (279, (.iload 8, 281, v_i 0, 0, 0, 0, [])), (281, (.invokevirtual 104, 284, v_r 2, 172, 1, 6, [])), (284, (.bipush (8), 286, v_i (8), 0, 0, 0, [])), (286, (.if_icmp .ne (28), 289, v_i 0, 314, 0, 0, [])), (289, (.aload_n 0, 290, v_i 0, 0, 0, 0, [])), (290, (.getfield 7, 293, v_i 0, 0, 3, 0, [])), (293, (.iload 6, 295, v_i 0, 0, 0, 0, [])), (295, (.invokevirtual 82, 298, v_r 2, 173, 1, 6, [])), (298, (.aload_n 0, 299, v_i 0, 0, 0, 0, [])), (299, (.getfield 7, 302, v_i 0, 0, 3, 0, [])), (302, (.iload 8, 304, v_i 0, 0, 0, 0, [])), (304, (.invokevirtual 82, 307, v_r 2, 173, 1, 6, [])), (307, (.if_icmp .ne (7), 310, v_i 0, 314, 0, 0, [])), (310, (.iconst (1), 311, v_i (1), 0, 0, 0, [])), (311, (.goto (4), 314, v_i 0, 315, 0, 0, [])), (314, (.iconst (0), 315, v_i (0), 0, 0, 0, [])), (315, (.istore 11, 317, v_i 0, 0, 0, 0, [])), (317, (.iload 11, 319, v_i 0, 0, 0, 0, [])), (319, (.ifCond .eq (58), 322, v_i 0, 377, 0, 0, [])), (322, (.aload_n 0, 323, v_i 0, 0, 0, 0, [])), (323, (.aload_n 0, 324, v_i 0, 0, 0, 0, [])), (324, (.getfield 13, 327, v_i 0, 1, 3, 0, [])), (327, (.aload_n 0, 328, v_i 0, 0, 0, 0, [])), (328, (.getfield 7, 331, v_i 0, 0, 3, 0, [])), (331, (.iload 6, 333, v_i 0, 0, 0, 0, [])), (333, (.invokevirtual 82, 336, v_r 2, 173, 1, 6, [])), (336, (.invokevirtual 107, 339, v_r 2, 133, 1, 2, [])), (339, (.aload_n 0, 340, v_i 0, 0, 0, 0, [])), (340, (.getfield 25, 343, v_i 0, 4, 3, 0, [])), (343, (.iload 6, 345, v_i 0, 0, 0, 0, [])), (345, (.iload 7, 347, v_i 0, 0, 0, 0, [])), (347, (.iconst (0), 348, v_i (0), 0, 0, 0, [])), (348, (.invokevirtual 112, 351, v_r 4, 157, 1, 4, [])), (351, (.aload_n 0, 352, v_i 0, 0, 0, 0, [])), (352, (.getfield 25, 355, v_i 0, 4, 3, 0, [])), (355, (.iload 8, 357, v_i 0, 0, 0, 0, [])), (357, (.iload 9, 359, v_i 0, 0, 0, 0, [])), (359, (.iconst (0), 360, v_i (0), 0, 0, 0, [])), (360, (.invokevirtual 112, 363, v_r 4, 157, 1, 4, [])), (363, (.iload 10, 365, v_i 0, 0, 0, 0, [])), (365, (.iconst (1), 366, v_i (1), 0, 0, 0, [])), (366, (.iadd, 367, v_i 0, 0, 0, 0, [])), (367, (.invokevirtual 52, 370, v_r 5, 148, 1, 3, [])), (370, (.ifCond .eq (7), 373, v_i 0, 377, 0, 0, [])), (373, (.iconst (1), 374, v_i (1), 0, 0, 0, [])), (374, (.goto (4), 377, v_i 0, 378, 0, 0, [])), (377, (.iconst (0), 378, v_i (0), 0, 0, 0, [])), (378, (.ireturn, 379, v_i 0, 0, 0, 0, []))]
def L_Ju_families : List (Nat × List Nat) := [(20, [0, 6, 7, 8, 9, 10, 11]), (261, [0, 6, 7, 8, 9, 10]), (315, [0, 6, 7, 8, 9, 10])]
def D_Ju_families : c_M0 := (T_Ju_families, L_Ju_families, 2, 3, ⟨R_Ju, "families", "(IIIII)Z"⟩, prog_5_method_3_code, 14, some .boolean)
set_option maxRecDepth 100000 in
theorem k_Ju_families : ∀ q ∈ T_Ju_families, ck_e 3 prog_5_method_3_code q = true := by decide +kernel
def T_Ju_rows : List (Nat × c_E) := [(0, (.iload_n 1, 1, v_i 0, 0, 0, 0, [])), (1, (.istore 5, 3, v_i 0, 0, 0, 0, [])), (3, (.iload_n 2, 4, v_i 0, 0, 0, 0, [])), (4, (.istore 6, 6, v_i 0, 0, 0, 0, [])), (6, (.iload_n 3, 7, v_i 0, 0, 0, 0, [])), (7, (.istore 7, 9, v_i 0, 0, 0, 0, [])), (9, (.iconst (0), 10, v_i (0), 0, 0, 0, [])), (10, (.istore 8, 12, v_i 0, 0, 0, 0, [])), (12, (.iload 8, 14, v_i 0, 0, 0, 0, [])), (14, (.ldc 115, 16, v_i (32768), 0, 0, 0, [])), (16, (.if_icmp .ge (127), 19, v_i 0, 143, 0, 0, [])), (19, (.iload 6, 21, v_i 0, 0, 0, 0, [])), (21, (.ifCond .eq (122), 24, v_i 0, 143, 0, 0, [])), (24, (.iload 7, 26, v_i 0, 0, 0, 0, [])), (26, (.ifCond .eq (117), 29, v_i 0, 143, 0, 0, [])), (29, (.aload_n 0, 30, v_i 0, 0, 0, 0, [])), (30, (.getfield 21, 33, v_i 0, 3, 3, 0, [])), (33, (.invokevirtual 79, 36, v_r 1, 102, 1, 0, [])), (36, (.istore 9, 38, v_i 0, 0, 0, 0, [])), (38, (.aload_n 0, 39, v_i 0, 0, 0, 0, [])), (39, (.getfield 21, 42, v_i 0, 3, 3, 0, [])), (42, (.iload 6, 44, v_i 0, 0, 0, 0, [])), (44, (.invokevirtual 116, 47, v_r 2, 107, 1, 0, [])), (47, (.istore 10, 49, v_i 0, 0, 0, 0, [])), (49, (.aload_n 0, 50, v_i 0, 0, 0, 0, [])), (50, (.getfield 21, 53, v_i 0, 3, 3, 0, [])), (53, (.iload 7, 55, v_i 0, 0, 0, 0, [])), (55, (.invokevirtual 116, 58, v_r 2, 107, 1, 0, [])), (58, (.istore 11, 60, v_i 0, 0, 0, 0, [])), (60, (.aload_n 0, 61, v_i 0, 0, 0, 0, [])), (61, (.aload_n 0, 62, v_i 0, 0, 0, 0, [])), (62, (.getfield 7, 65, v_i 0, 0, 3, 0, [])), (65, (.iload 5, 67, v_i 0, 0, 0, 0, [])), (67, (.invokevirtual 82, 70, v_r 2, 173, 1, 6, [])), (70, (.iload 6, 72, v_i 0, 0, 0, 0, [])), (72, (.iload 7, 74, v_i 0, 0, 0, 0, [])), (74, (.iload 4, 76, v_i 0, 0, 0, 0, [])), (76, (.invokevirtual 35, 79, v_r 5, 149, 1, 3, [])), (79, (.ifCond .eq (28), 82, v_i 0, 107, 0, 0, [])), (82, (.aload_n 0, 83, v_i 0, 0, 0, 0, [])), (83, (.aload_n 0, 84, v_i 0, 0, 0, 0, [])), (84, (.getfield 39, 87, v_i 0, 7, 3, 0, [])), (87, (.aload_n 0, 88, v_i 0, 0, 0, 0, [])), (88, (.getfield 43, 91, v_i 0, 5, 3, 0, [])), (91, (.aload_n 0, 92, v_i 0, 0, 0, 0, [])), (92, (.getfield 46, 95, v_i 0, 6, 3, 0, [])), (95, (.aload_n 0, 96, v_i 0, 0, 0, 0, [])), (96, (.getfield 49, 99, v_i 0, 8, 3, 0, [])), (99, (.iconst (1), 100, v_i (1), 0, 0, 0, [])), (100, (.iadd, 101, v_i 0, 0, 0, 0, [])), (101, (.invokevirtual 52, 104, v_r 5, 148, 1, 3, [])), (104, (.ifCond .ne (5), 107, v_i 0, 109, 0, 0, [])), (107, (.iconst (0), 108, v_i (0), 0, 0, 0, [])), (108, (.ireturn, 109, v_i 0, 0, 0, 0, [])), (109, (.aload_n 0, 110, v_i 0, 0, 0, 0, [])), (110, (.getfield 21, 113, v_i 0, 3, 3, 0, [])), (113, (.iload 9, 115, v_i 0, 0, 0, 0, [])), (115, (.invokevirtual 90, 118, v_r 2, 103, 0, 0, [])), (118, (.iload 10, 120, v_i 0, 0, 0, 0, [])), (120, (.istore 6, 122, v_i 0, 0, 0, 0, [])), (122, (.iload 11, 124, v_i 0, 0, 0, 0, [])), (124, (.istore 7, 126, v_i 0, 0, 0, 0, [])), (126, (.aload_n 0, 127, v_i 0, 0, 0, 0, [])), (127, (.getfield 7, 130, v_i 0, 0, 3, 0, [])), (130, (.iload 5, 132, v_i 0, 0, 0, 0, [])), (132, (.invokevirtual 101, 135, v_r 2, 174, 1, 6, [])), (135, (.istore 5, 137, v_i 0, 0, 0, 0, [])), (137, (.iinc 8 (1), 140, v_i (1), 0, 0, 0, [])), (140, (.goto (-128), 143, v_i 0, 12, 0, 0, [])), (143, (.iload 6, 145, v_i 0, 0, 0, 0, [])), (145, (.ifCond .ne (22), 148, v_i 0, 167, 0, 0, [])), (148, (.iload 7, 150, v_i 0, 0, 0, 0, [])), (150, (.ifCond .ne (17), 153, v_i 0, 167, 0, 0, [])), (153, (.aload_n 0, 154, v_i 0, 0, 0, 0, [])), (154, (.getfield 17, 157, v_i 0, 2, 3, 0, [])), (157, (.invokevirtual 119, 160, v_r 1, 164, 1, 5, [])), (160, (.ifCond .ne (7), 163, v_i 0, 167, 0, 0, [])), (163, (.iconst (1), 164, v_i (1), 0, 0, 0, [])), (164, (.goto (4), 167, v_i 0, 168, 0, 0, [])), (167, (.iconst (0), 168, v_i (0), 0, 0, 0, [])), (168, (.ireturn, 169, v_i 0, 0, 0, 0, []))]
def L_Ju_rows : List (Nat × List Nat) := [(12, [0, 4, 5, 6, 7, 8]), (143, [0, 6, 7])]
def D_Ju_rows : c_M0 := (T_Ju_rows, L_Ju_rows, 2, 3, ⟨R_Ju, "rows", "(IIII)Z"⟩, prog_5_method_4_code, 12, some .boolean)
set_option maxRecDepth 100000 in
theorem k_Ju_rows : ∀ q ∈ T_Ju_rows, ck_e 3 prog_5_method_4_code q = true := by decide +kernel
def T_Ju_meet : List (Nat × c_E) := [(0, (.iload_n 1, 1, v_i 0, 0, 0, 0, [])), (1, (.istore 5, 3, v_i 0, 0, 0, 0, [])), (3, (.iconst (0), 4, v_i (0), 0, 0, 0, [])), (4, (.istore 6, 6, v_i 0, 0, 0, 0, [])), (6, (.iload 4, 8, v_i 0, 0, 0, 0, [])), (8, (.istore 7, 10, v_i 0, 0, 0, 0, [])), (10, (.iconst (0), 11, v_i (0), 0, 0, 0, [])), (11, (.istore 8, 13, v_i 0, 0, 0, 0, [])), (13, (.iconst (0), 14, v_i (0), 0, 0, 0, [])), (14, (.istore 9, 16, v_i 0, 0, 0, 0, [])), (16, (.iconst (0), 17, v_i (0), 0, 0, 0, [])), (17, (.istore 10, 19, v_i 0, 0, 0, 0, [])), (19, (.iload 10, 21, v_i 0, 0, 0, 0, [])), (21, (.bipush (100), 23, v_i (100), 0, 0, 0, [])), (23, (.if_icmp .gt (143), 26, v_i 0, 166, 0, 0, [])), (26, (.aload_n 0, 27, v_i 0, 0, 0, 0, [])), (27, (.getfield 17, 30, v_i 0, 2, 3, 0, [])), (30, (.iload 7, 32, v_i 0, 0, 0, 0, [])), (32, (.invokevirtual 57, 35, v_r 2, 167, 1, 5, [])), (35, (.ifCond .ne (5), 38, v_i 0, 40, 0, 0, [])), (38, (.iconst (0), 39, v_i (0), 0, 0, 0, [])), (39, (.ireturn, 40, v_i 0, 0, 0, 0, [])), (40, (.aload_n 0, 41, v_i 0, 0, 0, 0, [])), (41, (.getfield 25, 44, v_i 0, 4, 3, 0, [])), (44, (.iload 5, 46, v_i 0, 0, 0, 0, [])), (46, (.iload 6, 48, v_i 0, 0, 0, 0, [])), (48, (.invokevirtual 61, 51, v_r 3, 158, 0, 4, [])), (51, (.aload_n 0, 52, v_i 0, 0, 0, 0, [])), (52, (.getfield 25, 55, v_i 0, 4, 3, 0, [])), (55, (.invokevirtual 67, 58, v_r 1, 151, 1, 4, [])), (58, (.istore 5, 60, v_i 0, 0, 0, 0, [])), (60, (.aload_n 0, 61, v_i 0, 0, 0, 0, [])), (61, (.getfield 25, 64, v_i 0, 4, 3, 0, [])), (64, (.invokevirtual 71, 67, v_r 1, 152, 1, 4, [])), (67, (.istore 6, 69, v_i 0, 0, 0, 0, [])), (69, (.aload_n 0, 70, v_i 0, 0, 0, 0, [])), (70, (.getfield 7, 73, v_i 0, 0, 3, 0, [])), (73, (.iload 5, 75, v_i 0, 0, 0, 0, [])), (75, (.invokevirtual 74, 78, v_r 2, 180, 1, 6, [])), (78, (.ifCond .ne (6), 81, v_i 0, 84, 0, 0, [])), (81, (.goto (85), 84, v_i 0, 166, 0, 0, [])), (84, (.aload_n 0, 85, v_i 0, 0, 0, 0, [])), (85, (.getfield 21, 88, v_i 0, 3, 3, 0, [])), (88, (.aload_n 0, 89, v_i 0, 0, 0, 0, [])), (89, (.getfield 7, 92, v_i 0, 0, 3, 0, [])), (92, (.iload 5, 94, v_i 0, 0, 0, 0, [])), (94, (.invokevirtual 82, 97, v_r 2, 173, 1, 6, [])), (97, (.iload 6, 99, v_i 0, 0, 0, 0, [])), (99, (.iconst (0), 100, v_i (0), 0, 0, 0, [])), (100, (.invokevirtual 94, 103, v_r 4, 111, 1, 0, [])), (103, (.istore 11, 105, v_i 0, 0, 0, 0, [])), (105, (.aload_n 0, 106, v_i 0, 0, 0, 0, [])), (106, (.getfield 21, 109, v_i 0, 3, 3, 0, [])), (109, (.iload 8, 111, v_i 0, 0, 0, 0, [])), (111, (.iload 11, 113, v_i 0, 0, 0, 0, [])), (113, (.invokevirtual 122, 116, v_r 3, 114, 1, 0, [])), (116, (.istore 8, 118, v_i 0, 0, 0, 0, [])), (118, (.aload_n 0, 119, v_i 0, 0, 0, 0, [])), (119, (.getfield 21, 122, v_i 0, 3, 3, 0, [])), (122, (.iload 9, 124, v_i 0, 0, 0, 0, [])), (124, (.iload 11, 126, v_i 0, 0, 0, 0, [])), (126, (.invokevirtual 122, 129, v_r 3, 114, 1, 0, [])), (129, (.istore 9, 131, v_i 0, 0, 0, 0, [])), (131, (.aload_n 0, 132, v_i 0, 0, 0, 0, [])), (132, (.getfield 21, 135, v_i 0, 3, 3, 0, [])), (135, (.iload 5, 137, v_i 0, 0, 0, 0, [])), (137, (.iload 6, 139, v_i 0, 0, 0, 0, [])), (139, (.iload 11, 141, v_i 0, 0, 0, 0, [])), (141, (.invokevirtual 98, 144, v_r 4, 113, 1, 0, [])), (144, (.istore 6, 146, v_i 0, 0, 0, 0, [])), (146, (.aload_n 0, 147, v_i 0, 0, 0, 0, [])), (147, (.getfield 7, 150, v_i 0, 0, 3, 0, [])), (150, (.iload 5, 152, v_i 0, 0, 0, 0, [])), (152, (.invokevirtual 101, 155, v_r 2, 174, 1, 6, [])), (155, (.istore 5, 157, v_i 0, 0, 0, 0, [])), (157, (.iinc 7 (1), 160, v_i (1), 0, 0, 0, [])), (160, (.iinc 10 (1), 163, v_i (1), 0, 0, 0, [])), (163, (.goto (-144), 166, v_i 0, 19, 0, 0, [])), (166, (.aload_n 0, 167, v_i 0, 0, 0, 0, [])), (167, (.getfield 25, 170, v_i 0, 4, 3, 0, [])), (170, (.aload_n 0, 171, v_i 0, 0, 0, 0, [])), (171, (.getfield 21, 174, v_i 0, 3, 3, 0, [])), (174, (.iload_n 2, 175, v_i 0, 0, 0, 0, [])), (175, (.invokevirtual 125, 178, v_r 2, 105, 1, 0, [])), (178, (.aload_n 0, 179, v_i 0, 0, 0, 0, [])), (179, (.getfield 21, 182, v_i 0, 3, 3, 0, [])), (182, (.iload_n 2, 183, v_i 0, 0, 0, 0, [])), (183, (.invokevirtual 128, 186, v_r 2, 106, 1, 0, [])), (186, (.iload 8, 188, v_i 0, 0, 0, 0, [])), (188, (.invokevirtual 131, 191, v_r 4, 159, 1, 4, [])), (191, (.ifCond .ne (5), 194, v_i 0, 196, 0, 0, [])), (194, (.iconst (0), 195, v_i (0), 0, 0, 0, [])), (195, (.ireturn, 196, v_i 0, 0, 0, 0, [])), (196, (.aload_n 0, 197, v_i 0, 0, 0, 0, [])), (197, (.getfield 25, 200, v_i 0, 4, 3, 0, [])), (200, (.invokevirtual 135, 203, v_r 1, 153, 1, 4, [])), (203, (.istore 10, 205, v_i 0, 0, 0, 0, [])), (205, (.aload_n 0, 206, v_i 0, 0, 0, 0, [])), (206, (.aload_n 0, 207, v_i 0, 0, 0, 0, [])), (207, (.getfield 25, 210, v_i 0, 4, 3, 0, [])), (210, (.invokevirtual 138, 213, v_r 1, 154, 1, 4, [])), (213, (.putfield 43, 216, v_i 0, 5, 3, 0, [])), (216, (.aload_n 0, 217, v_i 0, 0, 0, 0, [])), (217, (.getfield 25, 220, v_i 0, 4, 3, 0, [])), (220, (.aload_n 0, 221, v_i 0, 0, 0, 0, [])), (221, (.getfield 21, 224, v_i 0, 3, 3, 0, [])), (224, (.iload_n 3, 225, v_i 0, 0, 0, 0, [])), (225, (.invokevirtual 125, 228, v_r 2, 105, 1, 0, [])), (228, (.aload_n 0, 229, v_i 0, 0, 0, 0, [])), (229, (.getfield 21, 232, v_i 0, 3, 3, 0, [])), (232, (.iload_n 3, 233, v_i 0, 0, 0, 0, [])), (233, (.invokevirtual 128, 236, v_r 2, 106, 1, 0, [])), (236, (.iload 9, 238, v_i 0, 0, 0, 0, [])), (238, (.invokevirtual 131, 241, v_r 4, 159, 1, 4, [])), (241, (.ifCond .ne (5), 244, v_i 0, 246, 0, 0, [])), (244, (.iconst (0), 245, v_i (0), 0, 0, 0, [])), (245, (.ireturn, 246, v_i 0, 0, 0, 0, [])), (246, (.aload_n 0, 247, v_i 0, 0, 0, 0, [])), (247, (.aload_n 0, 248, v_i 0, 0, 0, 0, [])), (248, (.getfield 25, 251, v_i 0, 4, 3, 0, [])), (251, (.invokevirtual 138, 254, v_r 1, 154, 1, 4, [])), (254, (.putfield 46, 257, v_i 0, 6, 3, 0, [])), (257, (.aload_n 0, 258, v_i 0, 0, 0, 0, [])), (258, (.aload_n 0, 259, v_i 0, 0, 0, 0, [])), (259, (.getfield 25, 262, v_i 0, 4, 3, 0, [])), (262, (.invokevirtual 141, 265, v_r 1, 155, 1, 4, [])), (265, (.putfield 39, 268, v_i 0, 7, 3, 0, [])), (268, (.aload_n 0, 269, v_i 0, 0, 0, 0, [])), (269, (.iload 7, 271, v_i 0, 0, 0, 0, [])), (271, (.putfield 49, 274, v_i 0, 8, 3, 0, [])), (274, (.iload 10, 276, v_i 0, 0, 0, 0, [])), (276, (.aload_n 0, 277, v_i 0, 0, 0, 0, [])), (277, (.getfield 25, 280, v_i 0, 4, 3, 0, [])), (280, (.invokevirtual 135, 283, v_r 1, 153, 1, 4, [])), (283, (.if_icmp .ne (22), 286, v_i 0, 305, 0, 0, [])), (286, (.aload_n 0, 287, v_i 0, 0, 0, 0, [])), (287, (.aload_n 0, 288, v_i 0, 0, 0, 0, [])), (288, (.getfield 43, 291, v_i 0, 5, 3, 0, [])), (291, (.aload_n 0, 292, v_i 0, 0, 0, 0, [])), (292, (.getfield 46, 295, v_i 0, 6, 3, 0, [])), (295, (.invokevirtual 144, 298, v_r 3, 150, 1, 3, [])), (298, (.ifCond .eq (7), 301, v_i 0, 305, 0, 0, [])), (301, (.iconst (1), 302, v_i (1), 0, 0, 0, [])), (302, (.goto (4), 305, v_i 0, 306, 0, 0, [])), (305, (.iconst (0), 306, v_i (0), 0, 0, 0, [])), (306, (.ireturn, 307, v_i 0, 0, 0, 0, []))]
def L_Ju_meet : List (Nat × List Nat) := [(19, [0, 2, 3, 5, 6, 7, 8, 9, 10]), (166, [0, 2, 3, 7, 8, 9])]
def D_Ju_meet : c_M0 := (T_Ju_meet, L_Ju_meet, 2, 3, ⟨R_Ju, "meet", "(IIII)Z"⟩, prog_5_method_5_code, 12, some .boolean)
set_option maxRecDepth 100000 in
theorem k_Ju_meet : ∀ q ∈ T_Ju_meet, ck_e 3 prog_5_method_5_code q = true := by decide +kernel
def T_Ju_sameLength : List (Nat × c_E) := [(0, (.iload_n 1, 1, v_i 0, 0, 0, 0, [])), (1, (.istore_n 3, 2, v_i 0, 0, 0, 0, [])), (2, (.iload_n 2, 3, v_i 0, 0, 0, 0, [])), (3, (.istore 4, 5, v_i 0, 0, 0, 0, [])), (5, (.iconst (0), 6, v_i (0), 0, 0, 0, [])), (6, (.istore 5, 8, v_i 0, 0, 0, 0, [])), (8, (.iload 5, 10, v_i 0, 0, 0, 0, [])), (10, (.ldc 115, 12, v_i (32768), 0, 0, 0, [])), (12, (.if_icmp .ge (38), 15, v_i 0, 50, 0, 0, [])), (15, (.iload_n 3, 16, v_i 0, 0, 0, 0, [])), (16, (.ifCond .eq (34), 19, v_i 0, 50, 0, 0, [])), (19, (.iload 4, 21, v_i 0, 0, 0, 0, [])), (21, (.ifCond .eq (29), 24, v_i 0, 50, 0, 0, [])), (24, (.aload_n 0, 25, v_i 0, 0, 0, 0, [])), (25, (.getfield 21, 28, v_i 0, 3, 3, 0, [])), (28, (.iload_n 3, 29, v_i 0, 0, 0, 0, [])), (29, (.invokevirtual 116, 32, v_r 2, 107, 1, 0, [])), (32, (.istore_n 3, 33, v_i 0, 0, 0, 0, [])), (33, (.aload_n 0, 34, v_i 0, 0, 0, 0, [])), (34, (.getfield 21, 37, v_i 0, 3, 3, 0, [])), (37, (.iload 4, 39, v_i 0, 0, 0, 0, [])), (39, (.invokevirtual 116, 42, v_r 2, 107, 1, 0, [])), (42, (.istore 4, 44, v_i 0, 0, 0, 0, [])), (44, (.iinc 5 (1), 47, v_i (1), 0, 0, 0, [])), (47, (.goto (-39), 50, v_i 0, 8, 0, 0, [])), (50, (.iload_n 3, 51, v_i 0, 0, 0, 0, [])), (51, (.ifCond .ne (12), 54, v_i 0, 63, 0, 0, [])), (54, (.iload 4, 56, v_i 0, 0, 0, 0, [])), (56, (.ifCond .ne (7), 59, v_i 0, 63, 0, 0, [])), (59, (.iconst (1), 60, v_i (1), 0, 0, 0, [])), (60, (.goto (4), 63, v_i 0, 64, 0, 0, [])), (63, (.iconst (0), 64, v_i (0), 0, 0, 0, [])), (64, (.ireturn, 65, v_i 0, 0, 0, 0, []))]
def L_Ju_sameLength : List (Nat × List Nat) := [(8, [0, 3, 4, 5])]
def D_Ju_sameLength : c_M0 := (T_Ju_sameLength, L_Ju_sameLength, 2, 3, ⟨R_Ju, "sameLength", "(II)Z"⟩, prog_5_method_6_code, 6, some .boolean)
set_option maxRecDepth 100000 in
theorem k_Ju_sameLength : ∀ q ∈ T_Ju_sameLength, ck_e 3 prog_5_method_6_code q = true := by decide +kernel
def T_Ma_shape : List (Nat × c_E) := [(0, (.aload_n 0, 1, v_i 0, 0, 0, 0, [])), (1, (.getfield 27, 4, v_i 0, 4, 4, 0, [])), (4, (.ireturn, 5, v_i 0, 0, 0, 0, []))]
def L_Ma_shape : List (Nat × List Nat) := []
def D_Ma_shape : c_M0 := (T_Ma_shape, L_Ma_shape, 1, 4, ⟨R_Ma, "shape", "()I"⟩, prog_6_method_2_code, 1, some .int)
set_option maxRecDepth 100000 in
theorem k_Ma_shape : ∀ q ∈ T_Ma_shape, ck_e 4 prog_6_method_2_code q = true := by decide +kernel
def T_Ma_shapeScope : List (Nat × c_E) := [(0, (.aload_n 0, 1, v_i 0, 0, 0, 0, [])), (1, (.getfield 31, 4, v_i 0, 5, 4, 0, [])), (4, (.ireturn, 5, v_i 0, 0, 0, 0, []))]
def L_Ma_shapeScope : List (Nat × List Nat) := []
def D_Ma_shapeScope : c_M0 := (T_Ma_shapeScope, L_Ma_shapeScope, 1, 4, ⟨R_Ma, "shapeScope", "()I"⟩, prog_6_method_3_code, 1, some .int)
set_option maxRecDepth 100000 in
theorem k_Ma_shapeScope : ∀ q ∈ T_Ma_shapeScope, ck_e 4 prog_6_method_3_code q = true := by decide +kernel
def T_Ma_head : List (Nat × c_E) := [(0, (.aload_n 0, 1, v_i 0, 0, 0, 0, [])), (1, (.getfield 34, 4, v_i 0, 6, 4, 0, [])), (4, (.ireturn, 5, v_i 0, 0, 0, 0, []))]
def L_Ma_head : List (Nat × List Nat) := []
def D_Ma_head : c_M0 := (T_Ma_head, L_Ma_head, 1, 4, ⟨R_Ma, "head", "()I"⟩, prog_6_method_4_code, 1, some .int)
set_option maxRecDepth 100000 in
theorem k_Ma_head : ∀ q ∈ T_Ma_head, ck_e 4 prog_6_method_4_code q = true := by decide +kernel
def T_Ma_row : List (Nat × c_E) := [(0, (.aload_n 0, 1, v_i 0, 0, 0, 0, [])), (1, (.getfield 37, 4, v_i 0, 7, 4, 0, [])), (4, (.ireturn, 5, v_i 0, 0, 0, 0, []))]
def L_Ma_row : List (Nat × List Nat) := []
def D_Ma_row : c_M0 := (T_Ma_row, L_Ma_row, 1, 4, ⟨R_Ma, "row", "()I"⟩, prog_6_method_5_code, 1, some .int)
set_option maxRecDepth 100000 in
theorem k_Ma_row : ∀ q ∈ T_Ma_row, ck_e 4 prog_6_method_5_code q = true := by decide +kernel
def T_Ma_headType : List (Nat × c_E) := [(0, (.aload_n 0, 1, v_i 0, 0, 0, 0, [])), (1, (.getfield 34, 4, v_i 0, 6, 4, 0, [])), (4, (.ifCond .ge (18), 7, v_i 0, 22, 0, 0, [])), (7, (.aload_n 0, 8, v_i 0, 0, 0, 0, [])), (8, (.getfield 23, 11, v_i 0, 3, 4, 0, [])), (11, (.aload_n 0, 12, v_i 0, 0, 0, 0, [])), (12, (.getfield 34, 15, v_i 0, 6, 4, 0, [])), (15, (.ineg, 16, v_i 0, 0, 0, 0, [])), (16, (.invokevirtual 40, 19, v_r 2, 105, 1, 0, [])), (19, (.goto (14), 22, v_i 0, 33, 0, 0, [])), (22, (.aload_n 0, 23, v_i 0, 0, 0, 0, [])), (23, (.getfield 15, 26, v_i 0, 1, 4, 0, [])), (26, (.aload_n 0, 27, v_i 0, 0, 0, 0, [])), (27, (.getfield 34, 30, v_i 0, 6, 4, 0, [])), (30, (.invokevirtual 44, 33, v_r 2, 133, 1, 2, [])), (33, (.ireturn, 34, v_i 0, 0, 0, 0, []))]
def L_Ma_headType : List (Nat × List Nat) := []
def D_Ma_headType : c_M0 := (T_Ma_headType, L_Ma_headType, 1, 4, ⟨R_Ma, "headType", "()I"⟩, prog_6_method_6_code, 1, some .int)
set_option maxRecDepth 100000 in
theorem k_Ma_headType : ∀ q ∈ T_Ma_headType, ck_e 4 prog_6_method_6_code q = true := by decide +kernel
def T_Ma_headTypeScope : List (Nat × c_E) := [(0, (.aload_n 0, 1, v_i 0, 0, 0, 0, [])), (1, (.getfield 34, 4, v_i 0, 6, 4, 0, [])), (4, (.ifCond .ge (18), 7, v_i 0, 22, 0, 0, [])), (7, (.aload_n 0, 8, v_i 0, 0, 0, 0, [])), (8, (.getfield 23, 11, v_i 0, 3, 4, 0, [])), (11, (.aload_n 0, 12, v_i 0, 0, 0, 0, [])), (12, (.getfield 34, 15, v_i 0, 6, 4, 0, [])), (15, (.ineg, 16, v_i 0, 0, 0, 0, [])), (16, (.invokevirtual 49, 19, v_r 2, 106, 1, 0, [])), (19, (.goto (4), 22, v_i 0, 23, 0, 0, [])), (22, (.iconst (0), 23, v_i (0), 0, 0, 0, [])), (23, (.ireturn, 24, v_i 0, 0, 0, 0, []))]
def L_Ma_headTypeScope : List (Nat × List Nat) := []
def D_Ma_headTypeScope : c_M0 := (T_Ma_headTypeScope, L_Ma_headTypeScope, 1, 4, ⟨R_Ma, "headTypeScope", "()I"⟩, prog_6_method_7_code, 1, some .int)
set_option maxRecDepth 100000 in
theorem k_Ma_headTypeScope : ∀ q ∈ T_Ma_headTypeScope, ck_e 4 prog_6_method_7_code q = true := by decide +kernel
def T_Ma_push : List (Nat × c_E) := [(0, (.iconst (0), 1, v_i (0), 0, 0, 0, [])), (1, (.istore 4, 3, v_i 0, 0, 0, 0, [])), (3, (.iconst (0), 4, v_i (0), 0, 0, 0, [])), (4, (.istore 5, 6, v_i 0, 0, 0, 0, [])), (6, (.aload_n 0, 7, v_i 0, 0, 0, 0, [])), (7, (.getfield 9, 10, v_i 0, 0, 4, 0, [])), (10, (.iload_n 1, 11, v_i 0, 0, 0, 0, [])), (11, (.invokevirtual 52, 14, v_r 2, 174, 1, 6, [])), (14, (.istore 6, 16, v_i 0, 0, 0, 0, [])), (16, (.iconst (0), 17, v_i (0), 0, 0, 0, [])), (17, (.istore 7, 19, v_i 0, 0, 0, 0, [])), (19, (.iload 7, 21, v_i 0, 0, 0, 0, [])), (21, (.sipush (12800), 24, v_i (12800), 0, 0, 0, [])), (24, (.if_icmp .ge (145), 27, v_i 0, 169, 0, 0, [])), (27, (.iload 6, 29, v_i 0, 0, 0, 0, [])), (29, (.ifCond .eq (140), 32, v_i 0, 169, 0, 0, [])), (32, (.aload_n 0, 33, v_i 0, 0, 0, 0, [])), (33, (.getfield 9, 36, v_i 0, 0, 4, 0, [])), (36, (.iload 6, 38, v_i 0, 0, 0, 0, [])), (38, (.invokevirtual 57, 41, v_r 2, 172, 1, 6, [])), (41, (.iconst (4), 42, v_i (4), 0, 0, 0, [])), (42, (.if_icmp .ne (7), 45, v_i 0, 49, 0, 0, [])), (45, (.iconst (1), 46, v_i (1), 0, 0, 0, [])), (46, (.goto (4), 49, v_i 0, 50, 0, 0, [])), (49, (.iconst (0), 50, v_i (0), 0, 0, 0, [])), (50, (.istore 8, 52, v_i 0, 0, 0, 0, [])), (52, (.iload 8, 54, v_i 0, 0, 0, 0, [])), (54, (.ifCond .eq (23), 57, v_i 0, 77, 0, 0, [])), (57, (.aload_n 0, 58, v_i 0, 0, 0, 0, [])), (58, (.getfield 23, 61, v_i 0, 3, 4, 0, [])), (61, (.iload_n 2, 62, v_i 0, 0, 0, 0, [])), (62, (.aload_n 0, 63, v_i 0, 0, 0, 0, [])), (63, (.getfield 9, 66, v_i 0, 0, 4, 0, [])), (66, (.iload 6, 68, v_i 0, 0, 0, 0, [])), (68, (.invokevirtual 60, 71, v_r 2, 173, 1, 6, [])), (71, (.invokevirtual 63, 74, v_r 3, 115, 1, 0, [])), (74, (.goto (4), 77, v_i 0, 78, 0, 0, [])), (77, (.iconst (0), 78, v_i (0), 0, 0, 0, [])), (78, (.istore 9, 80, v_i 0, 0, 0, 0, [])), (80, (.iload 8, 82, v_i 0, 0, 0, 0, [])), (82, (.ifCond .eq (31), 85, v_i 0, 113, 0, 0, [])), (85, (.aload_n 0, 86, v_i 0, 0, 0, 0, [])), (86, (.getfield 23, 89, v_i 0, 3, 4, 0, [])), (89, (.aload_n 0, 90, v_i 0, 0, 0, 0, [])), (90, (.getfield 23, 93, v_i 0, 3, 4, 0, [])), (93, (.iload 9, 95, v_i 0, 0, 0, 0, [])), (95, (.invokevirtual 40, 98, v_r 2, 105, 1, 0, [])), (98, (.aload_n 0, 99, v_i 0, 0, 0, 0, [])), (99, (.getfield 23, 102, v_i 0, 3, 4, 0, [])), (102, (.iload 9, 104, v_i 0, 0, 0, 0, [])), (104, (.invokevirtual 49, 107, v_r 2, 106, 1, 0, [])), (107, (.invokevirtual 67, 110, v_r 3, 104, 1, 0, [])), (110, (.goto (13), 113, v_i 0, 123, 0, 0, [])), (113, (.aload_n 0, 114, v_i 0, 0, 0, 0, [])), (114, (.getfield 23, 117, v_i 0, 3, 4, 0, [])), (117, (.iload 6, 119, v_i 0, 0, 0, 0, [])), (119, (.iload_n 2, 120, v_i 0, 0, 0, 0, [])), (120, (.invokevirtual 67, 123, v_r 3, 104, 1, 0, [])), (123, (.istore 10, 125, v_i 0, 0, 0, 0, [])), (125, (.iload 4, 127, v_i 0, 0, 0, 0, [])), (127, (.ifCond .ne (10), 130, v_i 0, 137, 0, 0, [])), (130, (.iload 10, 132, v_i 0, 0, 0, 0, [])), (132, (.istore 4, 134, v_i 0, 0, 0, 0, [])), (134, (.goto (14), 137, v_i 0, 148, 0, 0, [])), (137, (.aload_n 0, 138, v_i 0, 0, 0, 0, [])), (138, (.getfield 23, 141, v_i 0, 3, 4, 0, [])), (141, (.iload 5, 143, v_i 0, 0, 0, 0, [])), (143, (.iload 10, 145, v_i 0, 0, 0, 0, [])), (145, (.invokevirtual 70, 148, v_r 3, 109, 0, 0, [])), (148, (.iload 10, 150, v_i 0, 0, 0, 0, [])), (150, (.istore 5, 152, v_i 0, 0, 0, 0, [])), (152, (.aload_n 0, 153, v_i 0, 0, 0, 0, [])), (153, (.getfield 9, 156, v_i 0, 0, 4, 0, [])), (156, (.iload 6, 158, v_i 0, 0, 0, 0, [])), (158, (.invokevirtual 74, 161, v_r 2, 175, 1, 6, [])), (161, (.istore 6, 163, v_i 0, 0, 0, 0, [])), (163, (.iinc 7 (1), 166, v_i (1), 0, 0, 0, [])), (166, (.goto (-147), 169, v_i 0, 19, 0, 0, [])), (169, (.iload 4, 171, v_i 0, 0, 0, 0, [])), (171, (.ifCond .ne (5), 174, v_i 0, 176, 0, 0, [])), (174, (.iload_n 3, 175, v_i 0, 0, 0, 0, [])), (175, (.ireturn, 176, v_i 0, 0, 0, 0, [])), (176, (.aload_n 0, 177, v_i 0, 0, 0, 0, [])), (177, (.getfield 23, 180, v_i 0, 3, 4, 0, [])), (180, (.iload 5, 182, v_i 0, 0, 0, 0, [])), (182, (.iload_n 3, 183, v_i 0, 0, 0, 0, [])), (183, (.invokevirtual 70, 186, v_r 3, 109, 0, 0, [])), (186, (.iload 4, 188, v_i 0, 0, 0, 0, [])), (188, (.ireturn, 189, v_i 0, 0, 0, 0, []))]
def L_Ma_push : List (Nat × List Nat) := [(19, [0, 2, 3, 4, 5, 6, 7]), (50, [0, 2, 3, 4, 5, 6, 7]), (78, [0, 2, 3, 4, 5, 6, 7, 8]), (123, [0, 2, 3, 4, 5, 6, 7]), (148, [0, 2, 3, 4, 6, 7, 10]), (169, [0, 3, 4, 5])]
def D_Ma_push : c_M0 := (T_Ma_push, L_Ma_push, 1, 4, ⟨R_Ma, "push", "(III)I"⟩, prog_6_method_8_code, 11, some .int)
set_option maxRecDepth 100000 in
theorem k_Ma_push : ∀ q ∈ T_Ma_push, ck_e 4 prog_6_method_8_code q = true := by decide +kernel
def T_Ma_expose : List (Nat × c_E) := [(0, (.iload_n 1, 1, v_i 0, 0, 0, 0, [])), (1, (.istore_n 3, 2, v_i 0, 0, 0, 0, [])), (2, (.iload_n 2, 3, v_i 0, 0, 0, 0, [])), (3, (.istore 4, 5, v_i 0, 0, 0, 0, [])), (5, (.iconst (0), 6, v_i (0), 0, 0, 0, [])), (6, (.istore 5, 8, v_i 0, 0, 0, 0, [])), (8, (.iconst (0), 9, v_i (0), 0, 0, 0, [])), (9, (.istore 6, 11, v_i 0, 0, 0, 0, [])), (11, (.iload 6, 13, v_i 0, 0, 0, 0, [])), (13, (.ldc 77, 15, v_i (1000000), 0, 0, 0, [])), (15, (.if_icmp .ge (187), 18, v_i 0, 202, 0, 0, [])), (18, (.aload_n 0, 19, v_i 0, 0, 0, 0, [])), (19, (.getfield 9, 22, v_i 0, 0, 4, 0, [])), (22, (.iload_n 3, 23, v_i 0, 0, 0, 0, [])), (23, (.invokevirtual 57, 26, v_r 2, 172, 1, 6, [])), (26, (.istore 7, 28, v_i 0, 0, 0, 0, [])), (28, (.iload 7, 30, v_i 0, 0, 0, 0, [])), (30, (.bipush (7), 32, v_i (7), 0, 0, 0, [])), (32, (.if_icmp .ne (26), 35, v_i 0, 58, 0, 0, [])), (35, (.aload_n 0, 36, v_i 0, 0, 0, 0, [])), (36, (.iload_n 3, 37, v_i 0, 0, 0, 0, [])), (37, (.iload 4, 39, v_i 0, 0, 0, 0, [])), (39, (.iload 5, 41, v_i 0, 0, 0, 0, [])), (41, (.invokevirtual 78, 44, v_r 4, 157, 1, 4, [])), (44, (.istore 5, 46, v_i 0, 0, 0, 0, [])), (46, (.aload_n 0, 47, v_i 0, 0, 0, 0, [])), (47, (.getfield 9, 50, v_i 0, 0, 4, 0, [])), (50, (.iload_n 3, 51, v_i 0, 0, 0, 0, [])), (51, (.invokevirtual 60, 54, v_r 2, 173, 1, 6, [])), (54, (.istore_n 3, 55, v_i 0, 0, 0, 0, [])), (55, (.goto (141), 58, v_i 0, 196, 0, 0, [])), (58, (.iload 7, 60, v_i 0, 0, 0, 0, [])), (60, (.iconst (4), 61, v_i (4), 0, 0, 0, [])), (61, (.if_icmp .ne (53), 64, v_i 0, 114, 0, 0, [])), (64, (.aload_n 0, 65, v_i 0, 0, 0, 0, [])), (65, (.getfield 23, 68, v_i 0, 3, 4, 0, [])), (68, (.iload 4, 70, v_i 0, 0, 0, 0, [])), (70, (.aload_n 0, 71, v_i 0, 0, 0, 0, [])), (71, (.getfield 9, 74, v_i 0, 0, 4, 0, [])), (74, (.iload_n 3, 75, v_i 0, 0, 0, 0, [])), (75, (.invokevirtual 60, 78, v_r 2, 173, 1, 6, [])), (78, (.invokevirtual 63, 81, v_r 3, 115, 1, 0, [])), (81, (.istore 8, 83, v_i 0, 0, 0, 0, [])), (83, (.aload_n 0, 84, v_i 0, 0, 0, 0, [])), (84, (.getfield 9, 87, v_i 0, 0, 4, 0, [])), (87, (.aload_n 0, 88, v_i 0, 0, 0, 0, [])), (88, (.getfield 23, 91, v_i 0, 3, 4, 0, [])), (91, (.iload 8, 93, v_i 0, 0, 0, 0, [])), (93, (.invokevirtual 82, 96, v_r 2, 108, 1, 0, [])), (96, (.invokevirtual 60, 99, v_r 2, 173, 1, 6, [])), (99, (.istore_n 3, 100, v_i 0, 0, 0, 0, [])), (100, (.aload_n 0, 101, v_i 0, 0, 0, 0, [])), (101, (.getfield 23, 104, v_i 0, 3, 4, 0, [])), (104, (.iload 8, 106, v_i 0, 0, 0, 0, [])), (106, (.invokevirtual 85, 109, v_r 2, 107, 1, 0, [])), (109, (.istore 4, 111, v_i 0, 0, 0, 0, [])), (111, (.goto (85), 114, v_i 0, 196, 0, 0, [])), (114, (.iload 7, 116, v_i 0, 0, 0, 0, [])), (116, (.iconst (5), 117, v_i (5), 0, 0, 0, [])), (117, (.if_icmp .ne (25), 120, v_i 0, 142, 0, 0, [])), (120, (.aload_n 0, 121, v_i 0, 0, 0, 0, [])), (121, (.getfield 15, 124, v_i 0, 1, 4, 0, [])), (124, (.aload_n 0, 125, v_i 0, 0, 0, 0, [])), (125, (.getfield 9, 128, v_i 0, 0, 4, 0, [])), (128, (.iload_n 3, 129, v_i 0, 0, 0, 0, [])), (129, (.invokevirtual 60, 132, v_r 2, 173, 1, 6, [])), (132, (.invokevirtual 44, 135, v_r 2, 133, 1, 2, [])), (135, (.istore_n 3, 136, v_i 0, 0, 0, 0, [])), (136, (.iconst (0), 137, v_i (0), 0, 0, 0, [])), (137, (.istore 4, 139, v_i 0, 0, 0, 0, [])), (139, (.goto (57), 142, v_i 0, 196, 0, 0, [])), (142, (.iload 5, 144, v_i 0, 0, 0, 0, [])), (144, (.ifCond .eq (58), 147, v_i 0, 202, 0, 0, [])), (147, (.aload_n 0, 148, v_i 0, 0, 0, 0, [])), (148, (.getfield 9, 151, v_i 0, 0, 4, 0, [])), (151, (.iload_n 3, 152, v_i 0, 0, 0, 0, [])), (152, (.invokevirtual 88, 155, v_r 2, 180, 1, 6, [])), (155, (.ifCond .eq (47), 158, v_i 0, 202, 0, 0, [])), (158, (.aload_n 0, 159, v_i 0, 0, 0, 0, [])), (159, (.getfield 23, 162, v_i 0, 3, 4, 0, [])), (162, (.iload 5, 164, v_i 0, 0, 0, 0, [])), (164, (.invokevirtual 85, 167, v_r 2, 107, 1, 0, [])), (167, (.istore 8, 169, v_i 0, 0, 0, 0, [])), (169, (.aload_n 0, 170, v_i 0, 0, 0, 0, [])), (170, (.getfield 23, 173, v_i 0, 3, 4, 0, [])), (173, (.iload 5, 175, v_i 0, 0, 0, 0, [])), (175, (.iload_n 3, 176, v_i 0, 0, 0, 0, [])), (176, (.iload 4, 178, v_i 0, 0, 0, 0, [])), (178, (.invokevirtual 92, 181, v_r 4, 110, 1, 0, [])), (181, (.istore 4, 183, v_i 0, 0, 0, 0, [])), (183, (.aload_n 0, 184, v_i 0, 0, 0, 0, [])), (184, (.getfield 9, 187, v_i 0, 0, 4, 0, [])), (187, (.iload_n 3, 188, v_i 0, 0, 0, 0, [])), (188, (.invokevirtual 52, 191, v_r 2, 174, 1, 6, [])), (191, (.istore_n 3, 192, v_i 0, 0, 0, 0, [])), (192, (.iload 8, 194, v_i 0, 0, 0, 0, [])), (194, (.istore 5, 196, v_i 0, 0, 0, 0, [])), (196, (.iinc 6 (1), 199, v_i (1), 0, 0, 0, [])), (199, (.goto (-188), 202, v_i 0, 11, 0, 0, [])), (202, (.aload_n 0, 203, v_i 0, 0, 0, 0, [])), (203, (.iload_n 3, 204, v_i 0, 0, 0, 0, [])), (204, (.putfield 27, 207, v_i 0, 4, 4, 0, [])), (207, (.aload_n 0, 208, v_i 0, 0, 0, 0, [])), (208, (.iload 4, 210, v_i 0, 0, 0, 0, [])), (210, (.putfield 31, 213, v_i 0, 5, 4, 0, [])), (213, (.return_, 214, v_i 0, 0, 0, 0, []))]
def L_Ma_expose : List (Nat × List Nat) := [(11, [0, 3, 4, 5, 6])]
def D_Ma_expose : c_M0 := (T_Ma_expose, L_Ma_expose, 0, 4, ⟨R_Ma, "expose", "(II)V"⟩, prog_6_method_9_code, 9, none)
set_option maxRecDepth 100000 in
theorem k_Ma_expose : ∀ q ∈ T_Ma_expose, ck_e 4 prog_6_method_9_code q = true := by decide +kernel
def T_Ma_headForm : List (Nat × c_E) := [(0, (.iload_n 1, 1, v_i 0, 0, 0, 0, [])), (1, (.istore 4, 3, v_i 0, 0, 0, 0, [])), (3, (.iload_n 2, 4, v_i 0, 0, 0, 0, [])), (4, (.istore 5, 6, v_i 0, 0, 0, 0, [])), (6, (.aload_n 0, 7, v_i 0, 0, 0, 0, [])), (7, (.iload_n 3, 8, v_i 0, 0, 0, 0, [])), (8, (.putfield 37, 11, v_i 0, 7, 4, 0, [])), (11, (.aload_n 0, 12, v_i 0, 0, 0, 0, [])), (12, (.sipush (-32768), 15, v_i (-32768), 0, 0, 0, [])), (15, (.putfield 34, 18, v_i 0, 6, 4, 0, [])), (18, (.iconst (0), 19, v_i (0), 0, 0, 0, [])), (19, (.istore 6, 21, v_i 0, 0, 0, 0, [])), (21, (.iload 6, 23, v_i 0, 0, 0, 0, [])), (23, (.ldc 77, 25, v_i (1000000), 0, 0, 0, [])), (25, (.if_icmp .ge (280), 28, v_i 0, 305, 0, 0, [])), (28, (.iload 4, 30, v_i 0, 0, 0, 0, [])), (30, (.ifCond .le (275), 33, v_i 0, 305, 0, 0, [])), (33, (.aload_n 0, 34, v_i 0, 0, 0, 0, [])), (34, (.getfield 9, 37, v_i 0, 0, 4, 0, [])), (37, (.iload 4, 39, v_i 0, 0, 0, 0, [])), (39, (.invokevirtual 57, 42, v_r 2, 172, 1, 6, [])), (42, (.istore 7, 44, v_i 0, 0, 0, 0, [])), (44, (.iload 7, 46, v_i 0, 0, 0, 0, [])), (46, (.bipush (7), 48, v_i (7), 0, 0, 0, [])), (48, (.if_icmp .ne (33), 51, v_i 0, 81, 0, 0, [])), (51, (.aload_n 0, 52, v_i 0, 0, 0, 0, [])), (52, (.aload_n 0, 53, v_i 0, 0, 0, 0, [])), (53, (.iload 4, 55, v_i 0, 0, 0, 0, [])), (55, (.iload 5, 57, v_i 0, 0, 0, 0, [])), (57, (.aload_n 0, 58, v_i 0, 0, 0, 0, [])), (58, (.getfield 37, 61, v_i 0, 7, 4, 0, [])), (61, (.invokevirtual 78, 64, v_r 4, 157, 1, 4, [])), (64, (.putfield 37, 67, v_i 0, 7, 4, 0, [])), (67, (.aload_n 0, 68, v_i 0, 0, 0, 0, [])), (68, (.getfield 9, 71, v_i 0, 0, 4, 0, [])), (71, (.iload 4, 73, v_i 0, 0, 0, 0, [])), (73, (.invokevirtual 60, 76, v_r 2, 173, 1, 6, [])), (76, (.istore 4, 78, v_i 0, 0, 0, 0, [])), (78, (.goto (221), 81, v_i 0, 299, 0, 0, [])), (81, (.iload 7, 83, v_i 0, 0, 0, 0, [])), (83, (.iconst (4), 84, v_i (4), 0, 0, 0, [])), (84, (.if_icmp .ne (48), 87, v_i 0, 132, 0, 0, [])), (87, (.aload_n 0, 88, v_i 0, 0, 0, 0, [])), (88, (.getfield 23, 91, v_i 0, 3, 4, 0, [])), (91, (.iload 5, 93, v_i 0, 0, 0, 0, [])), (93, (.aload_n 0, 94, v_i 0, 0, 0, 0, [])), (94, (.getfield 9, 97, v_i 0, 0, 4, 0, [])), (97, (.iload 4, 99, v_i 0, 0, 0, 0, [])), (99, (.invokevirtual 60, 102, v_r 2, 173, 1, 6, [])), (102, (.invokevirtual 63, 105, v_r 3, 115, 1, 0, [])), (105, (.istore 8, 107, v_i 0, 0, 0, 0, [])), (107, (.aload_n 0, 108, v_i 0, 0, 0, 0, [])), (108, (.getfield 23, 111, v_i 0, 3, 4, 0, [])), (111, (.iload 8, 113, v_i 0, 0, 0, 0, [])), (113, (.invokevirtual 40, 116, v_r 2, 105, 1, 0, [])), (116, (.istore 4, 118, v_i 0, 0, 0, 0, [])), (118, (.aload_n 0, 119, v_i 0, 0, 0, 0, [])), (119, (.getfield 23, 122, v_i 0, 3, 4, 0, [])), (122, (.iload 8, 124, v_i 0, 0, 0, 0, [])), (124, (.invokevirtual 49, 127, v_r 2, 106, 1, 0, [])), (127, (.istore 5, 129, v_i 0, 0, 0, 0, [])), (129, (.goto (170), 132, v_i 0, 299, 0, 0, [])), (132, (.iload 7, 134, v_i 0, 0, 0, 0, [])), (134, (.iconst (3), 135, v_i (3), 0, 0, 0, [])), (135, (.if_icmp .ne (72), 138, v_i 0, 207, 0, 0, [])), (138, (.aload_n 0, 139, v_i 0, 0, 0, 0, [])), (139, (.getfield 37, 142, v_i 0, 7, 4, 0, [])), (142, (.ifCond .eq (65), 145, v_i 0, 207, 0, 0, [])), (145, (.aload_n 0, 146, v_i 0, 0, 0, 0, [])), (146, (.getfield 19, 149, v_i 0, 2, 4, 0, [])), (149, (.invokevirtual 95, 152, v_r 1, 166, 1, 5, [])), (152, (.ifCond .ne (5), 155, v_i 0, 157, 0, 0, [])), (155, (.iconst (0), 156, v_i (0), 0, 0, 0, [])), (156, (.ireturn, 157, v_i 0, 0, 0, 0, [])), (157, (.aload_n 0, 158, v_i 0, 0, 0, 0, [])), (158, (.getfield 23, 161, v_i 0, 3, 4, 0, [])), (161, (.aload_n 0, 162, v_i 0, 0, 0, 0, [])), (162, (.getfield 37, 165, v_i 0, 7, 4, 0, [])), (165, (.invokevirtual 85, 168, v_r 2, 107, 1, 0, [])), (168, (.istore 8, 170, v_i 0, 0, 0, 0, [])), (170, (.aload_n 0, 171, v_i 0, 0, 0, 0, [])), (171, (.getfield 23, 174, v_i 0, 3, 4, 0, [])), (174, (.aload_n 0, 175, v_i 0, 0, 0, 0, [])), (175, (.getfield 37, 178, v_i 0, 7, 4, 0, [])), (178, (.iload 4, 180, v_i 0, 0, 0, 0, [])), (180, (.iload 5, 182, v_i 0, 0, 0, 0, [])), (182, (.invokevirtual 92, 185, v_r 4, 110, 1, 0, [])), (185, (.istore 5, 187, v_i 0, 0, 0, 0, [])), (187, (.aload_n 0, 188, v_i 0, 0, 0, 0, [])), (188, (.getfield 9, 191, v_i 0, 0, 4, 0, [])), (191, (.iload 4, 193, v_i 0, 0, 0, 0, [])), (193, (.invokevirtual 52, 196, v_r 2, 174, 1, 6, [])), (196, (.istore 4, 198, v_i 0, 0, 0, 0, [])), (198, (.aload_n 0, 199, v_i 0, 0, 0, 0, [])), (199, (.iload 8, 201, v_i 0, 0, 0, 0, [])), (201, (.putfield 37, 204, v_i 0, 7, 4, 0, [])), (204, (.goto (95), 207, v_i 0, 299, 0, 0, [])), (207, (.iload 7, 209, v_i 0, 0, 0, 0, [])), (209, (.iconst (5), 210, v_i (5), 0, 0, 0, [])), (210, (.if_icmp .ne (48), 213, v_i 0, 258, 0, 0, [])), (213, (.aload_n 0, 214, v_i 0, 0, 0, 0, [])), (214, (.iload 4, 216, v_i 0, 0, 0, 0, [])), (216, (.invokevirtual 101, 219, v_r 2, 160, 1, 4, [])), (219, (.ifCond .eq (39), 222, v_i 0, 258, 0, 0, [])), (222, (.aload_n 0, 223, v_i 0, 0, 0, 0, [])), (223, (.getfield 19, 226, v_i 0, 2, 4, 0, [])), (226, (.invokevirtual 95, 229, v_r 1, 166, 1, 5, [])), (229, (.ifCond .ne (5), 232, v_i 0, 234, 0, 0, [])), (232, (.iconst (0), 233, v_i (0), 0, 0, 0, [])), (233, (.ireturn, 234, v_i 0, 0, 0, 0, [])), (234, (.aload_n 0, 235, v_i 0, 0, 0, 0, [])), (235, (.getfield 15, 238, v_i 0, 1, 4, 0, [])), (238, (.aload_n 0, 239, v_i 0, 0, 0, 0, [])), (239, (.getfield 9, 242, v_i 0, 0, 4, 0, [])), (242, (.iload 4, 244, v_i 0, 0, 0, 0, [])), (244, (.invokevirtual 60, 247, v_r 2, 173, 1, 6, [])), (247, (.invokevirtual 104, 250, v_r 2, 134, 1, 2, [])), (250, (.istore 4, 252, v_i 0, 0, 0, 0, [])), (252, (.iconst (0), 253, v_i (0), 0, 0, 0, [])), (253, (.istore 5, 255, v_i 0, 0, 0, 0, [])), (255, (.goto (44), 258, v_i 0, 299, 0, 0, [])), (258, (.aload_n 0, 259, v_i 0, 0, 0, 0, [])), (259, (.iload 7, 261, v_i 0, 0, 0, 0, [])), (261, (.iconst (5), 262, v_i (5), 0, 0, 0, [])), (262, (.if_icmp .ne (15), 265, v_i 0, 277, 0, 0, [])), (265, (.aload_n 0, 266, v_i 0, 0, 0, 0, [])), (266, (.getfield 9, 269, v_i 0, 0, 4, 0, [])), (269, (.iload 4, 271, v_i 0, 0, 0, 0, [])), (271, (.invokevirtual 60, 274, v_r 2, 173, 1, 6, [])), (274, (.goto (6), 277, v_i 0, 280, 0, 0, [])), (277, (.sipush (-32768), 280, v_i (-32768), 0, 0, 0, [])), (280, (.putfield 34, 283, v_i 0, 6, 4, 0, [])), (283, (.aload_n 0, 284, v_i 0, 0, 0, 0, [])), (284, (.getfield 19, 287, v_i 0, 2, 4, 0, [])), (287, (.invokevirtual 107, 290, v_r 1, 164, 1, 5, [])), (290, (.ifCond .ne (7), 293, v_i 0, 297, 0, 0, [])), (293, (.iconst (1), 294, v_i (1), 0, 0, 0, [])), (294, (.goto (4), 297, v_i 0, 298, 0, 0, [])), (297, (.iconst (0), 298, v_i (0), 0, 0, 0, [])), (298, (.ireturn, 299, v_i 0, 0, 0, 0, [])), (299, (.iinc 6 (1), 302, v_i (1), 0, 0, 0, [])), (302, (.goto (-281), 305, v_i 0, 21, 0, 0, [])), (305, (.aload_n 0, 306, v_i 0, 0, 0, 0, [])), (306, (.iload 4, 308, v_i 0, 0, 0, 0, [])), (308, (.ifCond .ge (8), 311, v_i 0, 316, 0, 0, [])), (311, (.iload 4, 313, v_i 0, 0, 0, 0, [])), (313, (.goto (6), 316, v_i 0, 319, 0, 0, [])), (316, (.sipush (-32768), 319, v_i (-32768), 0, 0, 0, [])), (319, (.putfield 34, 322, v_i 0, 6, 4, 0, [])), (322, (.aload_n 0, 323, v_i 0, 0, 0, 0, [])), (323, (.getfield 19, 326, v_i 0, 2, 4, 0, [])), (326, (.invokevirtual 107, 329, v_r 1, 164, 1, 5, [])), (329, (.ifCond .ne (7), 332, v_i 0, 336, 0, 0, [])), (332, (.iconst (1), 333, v_i (1), 0, 0, 0, [])), (333, (.goto (4), 336, v_i 0, 337, 0, 0, [])), (336, (.iconst (0), 337, v_i (0), 0, 0, 0, [])), (337, (.ireturn, 338, v_i 0, 0, 0, 0, []))]
def L_Ma_headForm : List (Nat × List Nat) := [(21, [0, 4, 5, 6]), (207, [0, 4, 6, 7]), (258, [0, 4, 7]), (280, [0]), (319, [0])]
def D_Ma_headForm : c_M0 := (T_Ma_headForm, L_Ma_headForm, 2, 4, ⟨R_Ma, "headForm", "(III)Z"⟩, prog_6_method_10_code, 9, some .boolean)
set_option maxRecDepth 100000 in
theorem k_Ma_headForm : ∀ q ∈ T_Ma_headForm, ck_e 4 prog_6_method_10_code q = true := by decide +kernel
def T_Ma_isDefinition : List (Nat × c_E) := [(0, (.aload_n 0, 1, v_i 0, 0, 0, 0, [])), (1, (.getfield 15, 4, v_i 0, 1, 4, 0, [])), (4, (.aload_n 0, 5, v_i 0, 0, 0, 0, [])), (5, (.getfield 9, 8, v_i 0, 0, 4, 0, [])), (8, (.iload_n 1, 9, v_i 0, 0, 0, 0, [])), (9, (.invokevirtual 60, 12, v_r 2, 173, 1, 6, [])), (12, (.invokevirtual 111, 15, v_r 2, 132, 1, 2, [])), (15, (.iconst (2), 16, v_i (2), 0, 0, 0, [])), (16, (.if_icmp .ne (7), 19, v_i 0, 23, 0, 0, [])), (19, (.iconst (1), 20, v_i (1), 0, 0, 0, [])), (20, (.goto (4), 23, v_i 0, 24, 0, 0, [])), (23, (.iconst (0), 24, v_i (0), 0, 0, 0, [])), (24, (.ireturn, 25, v_i 0, 0, 0, 0, []))]
def L_Ma_isDefinition : List (Nat × List Nat) := []
def D_Ma_isDefinition : c_M0 := (T_Ma_isDefinition, L_Ma_isDefinition, 2, 4, ⟨R_Ma, "isDefinition", "(I)Z"⟩, prog_6_method_11_code, 2, some .boolean)
set_option maxRecDepth 100000 in
theorem k_Ma_isDefinition : ∀ q ∈ T_Ma_isDefinition, ck_e 4 prog_6_method_11_code q = true := by decide +kernel
def T_Me_begin : List (Nat × c_E) := [(0, (.aload_n 0, 1, v_i 0, 0, 0, 0, [])), (1, (.iconst (0), 2, v_i (0), 0, 0, 0, [])), (2, (.putfield 9, 5, v_i 0, 1, 5, 0, [])), (5, (.aload_n 0, 6, v_i 0, 0, 0, 0, [])), (6, (.iconst (0), 7, v_i (0), 0, 0, 0, [])), (7, (.putfield 15, 10, v_i 0, 2, 5, 0, [])), (10, (.return_, 11, v_i 0, 0, 0, 0, []))]
def L_Me_begin : List (Nat × List Nat) := []
def D_Me_begin : c_M0 := (T_Me_begin, L_Me_begin, 0, 5, ⟨R_Me, "begin", "()V"⟩, prog_7_method_2_code, 1, none)
set_option maxRecDepth 100000 in
theorem k_Me_begin : ∀ q ∈ T_Me_begin, ck_e 5 prog_7_method_2_code q = true := by decide +kernel
def T_Me_stepsInAll : List (Nat × c_E) := [(0, (.aload_n 0, 1, v_i 0, 0, 0, 0, [])), (1, (.getfield 18, 4, v_i 0, 0, 5, 0, [])), (4, (.ireturn, 5, v_i 0, 0, 0, 0, []))]
def L_Me_stepsInAll : List (Nat × List Nat) := []
def D_Me_stepsInAll : c_M0 := (T_Me_stepsInAll, L_Me_stepsInAll, 1, 5, ⟨R_Me, "stepsInAll", "()I"⟩, prog_7_method_3_code, 1, some .int)
set_option maxRecDepth 100000 in
theorem k_Me_stepsInAll : ∀ q ∈ T_Me_stepsInAll, ck_e 5 prog_7_method_3_code q = true := by decide +kernel
def T_Me_stepsOfLatest : List (Nat × c_E) := [(0, (.aload_n 0, 1, v_i 0, 0, 0, 0, [])), (1, (.getfield 9, 4, v_i 0, 1, 5, 0, [])), (4, (.ireturn, 5, v_i 0, 0, 0, 0, []))]
def L_Me_stepsOfLatest : List (Nat × List Nat) := []
def D_Me_stepsOfLatest : c_M0 := (T_Me_stepsOfLatest, L_Me_stepsOfLatest, 1, 5, ⟨R_Me, "stepsOfLatest", "()I"⟩, prog_7_method_4_code, 1, some .int)
set_option maxRecDepth 100000 in
theorem k_Me_stepsOfLatest : ∀ q ∈ T_Me_stepsOfLatest, ck_e 5 prog_7_method_4_code q = true := by decide +kernel
def T_Me_trouble : List (Nat × c_E) := [(0, (.aload_n 0, 1, v_i 0, 0, 0, 0, [])), (1, (.getfield 15, 4, v_i 0, 2, 5, 0, [])), (4, (.ireturn, 5, v_i 0, 0, 0, 0, []))]
def L_Me_trouble : List (Nat × List Nat) := []
def D_Me_trouble : c_M0 := (T_Me_trouble, L_Me_trouble, 1, 5, ⟨R_Me, "trouble", "()I"⟩, prog_7_method_5_code, 1, some .int)
set_option maxRecDepth 100000 in
theorem k_Me_trouble : ∀ q ∈ T_Me_trouble, ck_e 5 prog_7_method_5_code q = true := by decide +kernel
def T_Me_stop : List (Nat × c_E) := [(0, (.aload_n 0, 1, v_i 0, 0, 0, 0, [])), (1, (.getfield 15, 4, v_i 0, 2, 5, 0, [])), (4, (.ifCond .ne (8), 7, v_i 0, 12, 0, 0, [])), (7, (.aload_n 0, 8, v_i 0, 0, 0, 0, [])), (8, (.iload_n 1, 9, v_i 0, 0, 0, 0, [])), (9, (.putfield 15, 12, v_i 0, 2, 5, 0, [])), (12, (.return_, 13, v_i 0, 0, 0, 0, []))]
def L_Me_stop : List (Nat × List Nat) := []
def D_Me_stop : c_M0 := (T_Me_stop, L_Me_stop, 0, 5, ⟨R_Me, "stop", "(I)V"⟩, prog_7_method_6_code, 2, none)
set_option maxRecDepth 100000 in
theorem k_Me_stop : ∀ q ∈ T_Me_stop, ck_e 5 prog_7_method_6_code q = true := by decide +kernel
def T_Me_step : List (Nat × c_E) := [(0, (.aload_n 0, 1, v_i 0, 0, 0, 0, [])), (1, (.getfield 9, 4, v_i 0, 1, 5, 0, [])), (4, (.sipush (20000), 7, v_i (20000), 0, 0, 0, [])), (7, (.if_icmp .ge (12), 10, v_i 0, 19, 0, 0, [])), (10, (.aload_n 0, 11, v_i 0, 0, 0, 0, [])), (11, (.getfield 18, 14, v_i 0, 0, 5, 0, [])), (14, (.ldc 21, 16, v_i (60000), 0, 0, 0, [])), (16, (.if_icmp .lt (9), 19, v_i 0, 25, 0, 0, [])), (19, (.aload_n 0, 20, v_i 0, 0, 0, 0, [])), (20, (.bipush (9), 22, v_i (9), 0, 0, 0, [])), (22, (.invokevirtual 22, 25, v_r 2, 165, 0, 5, [])), (25, (.aload_n 0, 26, v_i 0, 0, 0, 0, [])), (26, (.getfield 15, 29, v_i 0, 2, 5, 0, [])), (29, (.ifCond .eq (5), 32, v_i 0, 34, 0, 0, [])), (32, (.iconst (0), 33, v_i (0), 0, 0, 0, [])), (33, (.ireturn, 34, v_i 0, 0, 0, 0, [])), (34, (.aload_n 0, 35, v_i 0, 0, 0, 0, [])), (35, (.dup, 36, v_i 0, 0, 0, 0, [])), (36, (.getfield 9, 39, v_i 0, 1, 5, 0, [])), (39, (.iconst (1), 40, v_i (1), 0, 0, 0, [])), (40, (.iadd, 41, v_i 0, 0, 0, 0, [])), (41, (.putfield 9, 44, v_i 0, 1, 5, 0, [])), (44, (.aload_n 0, 45, v_i 0, 0, 0, 0, [])), (45, (.dup, 46, v_i 0, 0, 0, 0, [])), (46, (.getfield 18, 49, v_i 0, 0, 5, 0, [])), (49, (.iconst (1), 50, v_i (1), 0, 0, 0, [])), (50, (.iadd, 51, v_i 0, 0, 0, 0, [])), (51, (.putfield 18, 54, v_i 0, 0, 5, 0, [])), (54, (.iconst (1), 55, v_i (1), 0, 0, 0, [])), (55, (.ireturn, 56, v_i 0, 0, 0, 0, []))]
def L_Me_step : List (Nat × List Nat) := [(19, [0]), (25, [0])]
def D_Me_step : c_M0 := (T_Me_step, L_Me_step, 2, 5, ⟨R_Me, "step", "()Z"⟩, prog_7_method_7_code, 1, some .boolean)
set_option maxRecDepth 100000 in
theorem k_Me_step : ∀ q ∈ T_Me_step, ck_e 5 prog_7_method_7_code q = true := by decide +kernel
def T_Me_question : List (Nat × c_E) := [(0, (.iload_n 1, 1, v_i 0, 0, 0, 0, [])), (1, (.bipush (100), 3, v_i (100), 0, 0, 0, [])), (3, (.if_icmp .le (9), 6, v_i 0, 12, 0, 0, [])), (6, (.aload_n 0, 7, v_i 0, 0, 0, 0, [])), (7, (.bipush (10), 9, v_i (10), 0, 0, 0, [])), (9, (.invokevirtual 22, 12, v_r 2, 165, 0, 5, [])), (12, (.aload_n 0, 13, v_i 0, 0, 0, 0, [])), (13, (.invokevirtual 26, 16, v_r 1, 166, 1, 5, [])), (16, (.ireturn, 17, v_i 0, 0, 0, 0, []))]
def L_Me_question : List (Nat × List Nat) := [(12, [0])]
def D_Me_question : c_M0 := (T_Me_question, L_Me_question, 2, 5, ⟨R_Me, "question", "(I)Z"⟩, prog_7_method_8_code, 2, some .boolean)
set_option maxRecDepth 100000 in
theorem k_Me_question : ∀ q ∈ T_Me_question, ck_e 5 prog_7_method_8_code q = true := by decide +kernel
def T_No_mark : List (Nat × c_E) := [(0, (.aload_n 0, 1, v_i 0, 0, 0, 0, [])), (1, (.getfield 31, 4, v_i 0, 7, 6, 0, [])), (4, (.ireturn, 5, v_i 0, 0, 0, 0, []))]
def L_No_mark : List (Nat × List Nat) := []
def D_No_mark : c_M0 := (T_No_mark, L_No_mark, 1, 6, ⟨R_No, "mark", "()I"⟩, prog_8_method_2_code, 1, some .int)
set_option maxRecDepth 100000 in
theorem k_No_mark : ∀ q ∈ T_No_mark, ck_e 6 prog_8_method_2_code q = true := by decide +kernel
def T_No_release : List (Nat × c_E) := [(0, (.iload_n 1, 1, v_i 0, 0, 0, 0, [])), (1, (.iconst (1), 2, v_i (1), 0, 0, 0, [])), (2, (.if_icmp .lt (16), 5, v_i 0, 18, 0, 0, [])), (5, (.iload_n 1, 6, v_i 0, 0, 0, 0, [])), (6, (.aload_n 0, 7, v_i 0, 0, 0, 0, [])), (7, (.getfield 31, 10, v_i 0, 7, 6, 0, [])), (10, (.if_icmp .ge (8), 13, v_i 0, 18, 0, 0, [])), (13, (.aload_n 0, 14, v_i 0, 0, 0, 0, [])), (14, (.iload_n 1, 15, v_i 0, 0, 0, 0, [])), (15, (.putfield 31, 18, v_i 0, 7, 6, 0, [])), (18, (.return_, 19, v_i 0, 0, 0, 0, []))]
def L_No_release : List (Nat × List Nat) := []
def D_No_release : c_M0 := (T_No_release, L_No_release, 0, 6, ⟨R_No, "release", "(I)V"⟩, prog_8_method_3_code, 2, none)
set_option maxRecDepth 100000 in
theorem k_No_release : ∀ q ∈ T_No_release, ck_e 6 prog_8_method_3_code q = true := by decide +kernel
def T_No_full : List (Nat × c_E) := [(0, (.aload_n 0, 1, v_i 0, 0, 0, 0, [])), (1, (.getfield 31, 4, v_i 0, 7, 6, 0, [])), (4, (.sipush (12800), 7, v_i (12800), 0, 0, 0, [])), (7, (.if_icmp .lt (7), 10, v_i 0, 14, 0, 0, [])), (10, (.iconst (1), 11, v_i (1), 0, 0, 0, [])), (11, (.goto (4), 14, v_i 0, 15, 0, 0, [])), (14, (.iconst (0), 15, v_i (0), 0, 0, 0, [])), (15, (.ireturn, 16, v_i 0, 0, 0, 0, []))]
def L_No_full : List (Nat × List Nat) := []
def D_No_full : c_M0 := (T_No_full, L_No_full, 2, 6, ⟨R_No, "full", "()Z"⟩, prog_8_method_4_code, 1, some .boolean)
set_option maxRecDepth 100000 in
theorem k_No_full : ∀ q ∈ T_No_full, ck_e 6 prog_8_method_4_code q = true := by decide +kernel
def T_No_make : List (Nat × c_E) := [(0, (.aload_n 0, 1, v_i 0, 0, 0, 0, [])), (1, (.getfield 31, 4, v_i 0, 7, 6, 0, [])), (4, (.iconst (1), 5, v_i (1), 0, 0, 0, [])), (5, (.if_icmp .lt (13), 8, v_i 0, 18, 0, 0, [])), (8, (.aload_n 0, 9, v_i 0, 0, 0, 0, [])), (9, (.getfield 31, 12, v_i 0, 7, 6, 0, [])), (12, (.sipush (12800), 15, v_i (12800), 0, 0, 0, [])), (15, (.if_icmp .lt (5), 18, v_i 0, 20, 0, 0, [])), (18, (.iconst (0), 19, v_i (0), 0, 0, 0, [])), (19, (.ireturn, 20, v_i 0, 0, 0, 0, [])), (20, (.aload_n 0, 21, v_i 0, 0, 0, 0, [])), (21, (.getfield 31, 24, v_i 0, 7, 6, 0, [])), (24, (.istore 6, 26, v_i 0, 0, 0, 0, [])), (26, (.aload_n 0, 27, v_i 0, 0, 0, 0, [])), (27, (.dup, 28, v_i 0, 0, 0, 0, [])), (28, (.getfield 31, 31, v_i 0, 7, 6, 0, [])), (31, (.iconst (1), 32, v_i (1), 0, 0, 0, [])), (32, (.iadd, 33, v_i 0, 0, 0, 0, [])), (33, (.putfield 31, 36, v_i 0, 7, 6, 0, [])), (36, (.aload_n 0, 37, v_i 0, 0, 0, 0, [])), (37, (.getfield 9, 40, v_i 0, 0, 6, 0, [])), (40, (.iload 6, 42, v_i 0, 0, 0, 0, [])), (42, (.iload_n 1, 43, v_i 0, 0, 0, 0, [])), (43, (.iastore, 44, v_i 0, 0, 0, 0, [])), (44, (.aload_n 0, 45, v_i 0, 0, 0, 0, [])), (45, (.getfield 13, 48, v_i 0, 1, 6, 0, [])), (48, (.iload 6, 50, v_i 0, 0, 0, 0, [])), (50, (.iload_n 2, 51, v_i 0, 0, 0, 0, [])), (51, (.iastore, 52, v_i 0, 0, 0, 0, [])), (52, (.aload_n 0, 53, v_i 0, 0, 0, 0, [])), (53, (.getfield 16, 56, v_i 0, 2, 6, 0, [])), (56, (.iload 6, 58, v_i 0, 0, 0, 0, [])), (58, (.iload_n 3, 59, v_i 0, 0, 0, 0, [])), (59, (.iastore, 60, v_i 0, 0, 0, 0, [])), (60, (.aload_n 0, 61, v_i 0, 0, 0, 0, [])), (61, (.getfield 19, 64, v_i 0, 3, 6, 0, [])), (64, (.iload 6, 66, v_i 0, 0, 0, 0, [])), (66, (.iconst (0), 67, v_i (0), 0, 0, 0, [])), (67, (.iastore, 68, v_i 0, 0, 0, 0, [])), (68, (.aload_n 0, 69, v_i 0, 0, 0, 0, [])), (69, (.getfield 22, 72, v_i 0, 4, 6, 0, [])), (72, (.iload 6, 74, v_i 0, 0, 0, 0, [])), (74, (.iload 4, 76, v_i 0, 0, 0, 0, [])), (76, (.iastore, 77, v_i 0, 0, 0, 0, [])), (77, (.aload_n 0, 78, v_i 0, 0, 0, 0, [])), (78, (.getfield 25, 81, v_i 0, 5, 6, 0, [])), (81, (.iload 6, 83, v_i 0, 0, 0, 0, [])), (83, (.iload 5, 85, v_i 0, 0, 0, 0, [])), (85, (.iastore, 86, v_i 0, 0, 0, 0, [])), (86, (.aload_n 0, 87, v_i 0, 0, 0, 0, [])), (87, (.getfield 28, 90, v_i 0, 6, 6, 0, [])), (90, (.iload 6, 92, v_i 0, 0, 0, 0, [])), (92, (.iload 5, 94, v_i 0, 0, 0, 0, [])), (94, (.iastore, 95, v_i 0, 0, 0, 0, [])), (95, (.iload 6, 97, v_i 0, 0, 0, 0, [])), (97, (.ireturn, 98, v_i 0, 0, 0, 0, []))]
def L_No_make : List (Nat × List Nat) := []
def D_No_make : c_M0 := (T_No_make, L_No_make, 1, 6, ⟨R_No, "make", "(IIIII)I"⟩, prog_8_method_5_code, 7, some .int)
set_option maxRecDepth 100000 in
theorem k_No_make : ∀ q ∈ T_No_make, ck_e 6 prog_8_method_5_code q = true := by decide +kernel
def T_No_kind : List (Nat × c_E) := [(0, (.iload_n 1, 1, v_i 0, 0, 0, 0, [])), (1, (.ifCond .le (19), 4, v_i 0, 20, 0, 0, [])), (4, (.iload_n 1, 5, v_i 0, 0, 0, 0, [])), (5, (.sipush (12800), 8, v_i (12800), 0, 0, 0, [])), (8, (.if_icmp .ge (12), 11, v_i 0, 20, 0, 0, [])), (11, (.aload_n 0, 12, v_i 0, 0, 0, 0, [])), (12, (.getfield 9, 15, v_i 0, 0, 6, 0, [])), (15, (.iload_n 1, 16, v_i 0, 0, 0, 0, [])), (16, (.iaload, 17, v_i 0, 0, 0, 0, [])), (17, (.goto (4), 20, v_i 0, 21, 0, 0, [])), (20, (.iconst (0), 21, v_i (0), 0, 0, 0, [])), (21, (.ireturn, 22, v_i 0, 0, 0, 0, []))]
def L_No_kind : List (Nat × List Nat) := []
def D_No_kind : c_M0 := (T_No_kind, L_No_kind, 1, 6, ⟨R_No, "kind", "(I)I"⟩, prog_8_method_6_code, 2, some .int)
set_option maxRecDepth 100000 in
theorem k_No_kind : ∀ q ∈ T_No_kind, ck_e 6 prog_8_method_6_code q = true := by decide +kernel
def T_No_left : List (Nat × c_E) := [(0, (.iload_n 1, 1, v_i 0, 0, 0, 0, [])), (1, (.ifCond .le (19), 4, v_i 0, 20, 0, 0, [])), (4, (.iload_n 1, 5, v_i 0, 0, 0, 0, [])), (5, (.sipush (12800), 8, v_i (12800), 0, 0, 0, [])), (8, (.if_icmp .ge (12), 11, v_i 0, 20, 0, 0, [])), (11, (.aload_n 0, 12, v_i 0, 0, 0, 0, [])), (12, (.getfield 13, 15, v_i 0, 1, 6, 0, [])), (15, (.iload_n 1, 16, v_i 0, 0, 0, 0, [])), (16, (.iaload, 17, v_i 0, 0, 0, 0, [])), (17, (.goto (4), 20, v_i 0, 21, 0, 0, [])), (20, (.iconst (0), 21, v_i (0), 0, 0, 0, [])), (21, (.ireturn, 22, v_i 0, 0, 0, 0, []))]
def L_No_left : List (Nat × List Nat) := []
def D_No_left : c_M0 := (T_No_left, L_No_left, 1, 6, ⟨R_No, "left", "(I)I"⟩, prog_8_method_7_code, 2, some .int)
set_option maxRecDepth 100000 in
theorem k_No_left : ∀ q ∈ T_No_left, ck_e 6 prog_8_method_7_code q = true := by decide +kernel
def T_No_right : List (Nat × c_E) := [(0, (.iload_n 1, 1, v_i 0, 0, 0, 0, [])), (1, (.ifCond .le (19), 4, v_i 0, 20, 0, 0, [])), (4, (.iload_n 1, 5, v_i 0, 0, 0, 0, [])), (5, (.sipush (12800), 8, v_i (12800), 0, 0, 0, [])), (8, (.if_icmp .ge (12), 11, v_i 0, 20, 0, 0, [])), (11, (.aload_n 0, 12, v_i 0, 0, 0, 0, [])), (12, (.getfield 16, 15, v_i 0, 2, 6, 0, [])), (15, (.iload_n 1, 16, v_i 0, 0, 0, 0, [])), (16, (.iaload, 17, v_i 0, 0, 0, 0, [])), (17, (.goto (4), 20, v_i 0, 21, 0, 0, [])), (20, (.iconst (0), 21, v_i (0), 0, 0, 0, [])), (21, (.ireturn, 22, v_i 0, 0, 0, 0, []))]
def L_No_right : List (Nat × List Nat) := []
def D_No_right : c_M0 := (T_No_right, L_No_right, 1, 6, ⟨R_No, "right", "(I)I"⟩, prog_8_method_8_code, 2, some .int)
set_option maxRecDepth 100000 in
theorem k_No_right : ∀ q ∈ T_No_right, ck_e 6 prog_8_method_8_code q = true := by decide +kernel
def T_No_sibling : List (Nat × c_E) := [(0, (.iload_n 1, 1, v_i 0, 0, 0, 0, [])), (1, (.ifCond .le (19), 4, v_i 0, 20, 0, 0, [])), (4, (.iload_n 1, 5, v_i 0, 0, 0, 0, [])), (5, (.sipush (12800), 8, v_i (12800), 0, 0, 0, [])), (8, (.if_icmp .ge (12), 11, v_i 0, 20, 0, 0, [])), (11, (.aload_n 0, 12, v_i 0, 0, 0, 0, [])), (12, (.getfield 19, 15, v_i 0, 3, 6, 0, [])), (15, (.iload_n 1, 16, v_i 0, 0, 0, 0, [])), (16, (.iaload, 17, v_i 0, 0, 0, 0, [])), (17, (.goto (4), 20, v_i 0, 21, 0, 0, [])), (20, (.iconst (0), 21, v_i (0), 0, 0, 0, [])), (21, (.ireturn, 22, v_i 0, 0, 0, 0, []))]
def L_No_sibling : List (Nat × List Nat) := []
def D_No_sibling : c_M0 := (T_No_sibling, L_No_sibling, 1, 6, ⟨R_No, "sibling", "(I)I"⟩, prog_8_method_9_code, 2, some .int)
set_option maxRecDepth 100000 in
theorem k_No_sibling : ∀ q ∈ T_No_sibling, ck_e 6 prog_8_method_9_code q = true := by decide +kernel
def T_No_token : List (Nat × c_E) := [(0, (.iload_n 1, 1, v_i 0, 0, 0, 0, [])), (1, (.ifCond .le (19), 4, v_i 0, 20, 0, 0, [])), (4, (.iload_n 1, 5, v_i 0, 0, 0, 0, [])), (5, (.sipush (12800), 8, v_i (12800), 0, 0, 0, [])), (8, (.if_icmp .ge (12), 11, v_i 0, 20, 0, 0, [])), (11, (.aload_n 0, 12, v_i 0, 0, 0, 0, [])), (12, (.getfield 22, 15, v_i 0, 4, 6, 0, [])), (15, (.iload_n 1, 16, v_i 0, 0, 0, 0, [])), (16, (.iaload, 17, v_i 0, 0, 0, 0, [])), (17, (.goto (4), 20, v_i 0, 21, 0, 0, [])), (20, (.iconst (0), 21, v_i (0), 0, 0, 0, [])), (21, (.ireturn, 22, v_i 0, 0, 0, 0, []))]
def L_No_token : List (Nat × List Nat) := []
def D_No_token : c_M0 := (T_No_token, L_No_token, 1, 6, ⟨R_No, "token", "(I)I"⟩, prog_8_method_10_code, 2, some .int)
set_option maxRecDepth 100000 in
theorem k_No_token : ∀ q ∈ T_No_token, ck_e 6 prog_8_method_10_code q = true := by decide +kernel
def T_No_first : List (Nat × c_E) := [(0, (.iload_n 1, 1, v_i 0, 0, 0, 0, [])), (1, (.ifCond .le (19), 4, v_i 0, 20, 0, 0, [])), (4, (.iload_n 1, 5, v_i 0, 0, 0, 0, [])), (5, (.sipush (12800), 8, v_i (12800), 0, 0, 0, [])), (8, (.if_icmp .ge (12), 11, v_i 0, 20, 0, 0, [])), (11, (.aload_n 0, 12, v_i 0, 0, 0, 0, [])), (12, (.getfield 25, 15, v_i 0, 5, 6, 0, [])), (15, (.iload_n 1, 16, v_i 0, 0, 0, 0, [])), (16, (.iaload, 17, v_i 0, 0, 0, 0, [])), (17, (.goto (4), 20, v_i 0, 21, 0, 0, [])), (20, (.iconst (0), 21, v_i (0), 0, 0, 0, [])), (21, (.ireturn, 22, v_i 0, 0, 0, 0, []))]
def L_No_first : List (Nat × List Nat) := []
def D_No_first : c_M0 := (T_No_first, L_No_first, 1, 6, ⟨R_No, "first", "(I)I"⟩, prog_8_method_11_code, 2, some .int)
set_option maxRecDepth 100000 in
theorem k_No_first : ∀ q ∈ T_No_first, ck_e 6 prog_8_method_11_code q = true := by decide +kernel
def T_No_place : List (Nat × c_E) := [(0, (.iload_n 1, 1, v_i 0, 0, 0, 0, [])), (1, (.ifCond .le (19), 4, v_i 0, 20, 0, 0, [])), (4, (.iload_n 1, 5, v_i 0, 0, 0, 0, [])), (5, (.sipush (12800), 8, v_i (12800), 0, 0, 0, [])), (8, (.if_icmp .ge (12), 11, v_i 0, 20, 0, 0, [])), (11, (.aload_n 0, 12, v_i 0, 0, 0, 0, [])), (12, (.getfield 28, 15, v_i 0, 6, 6, 0, [])), (15, (.iload_n 1, 16, v_i 0, 0, 0, 0, [])), (16, (.iaload, 17, v_i 0, 0, 0, 0, [])), (17, (.goto (4), 20, v_i 0, 21, 0, 0, [])), (20, (.iconst (0), 21, v_i (0), 0, 0, 0, [])), (21, (.ireturn, 22, v_i 0, 0, 0, 0, []))]
def L_No_place : List (Nat × List Nat) := []
def D_No_place : c_M0 := (T_No_place, L_No_place, 1, 6, ⟨R_No, "place", "(I)I"⟩, prog_8_method_12_code, 2, some .int)
set_option maxRecDepth 100000 in
theorem k_No_place : ∀ q ∈ T_No_place, ck_e 6 prog_8_method_12_code q = true := by decide +kernel
def T_No_inBrackets : List (Nat × c_E) := [(0, (.aload_n 0, 1, v_i 0, 0, 0, 0, [])), (1, (.iload_n 1, 2, v_i 0, 0, 0, 0, [])), (2, (.invokevirtual 35, 5, v_r 2, 178, 1, 6, [])), (5, (.aload_n 0, 6, v_i 0, 0, 0, 0, [])), (6, (.iload_n 1, 7, v_i 0, 0, 0, 0, [])), (7, (.invokevirtual 39, 10, v_r 2, 177, 1, 6, [])), (10, (.if_icmp .eq (7), 13, v_i 0, 17, 0, 0, [])), (13, (.iconst (1), 14, v_i (1), 0, 0, 0, [])), (14, (.goto (4), 17, v_i 0, 18, 0, 0, [])), (17, (.iconst (0), 18, v_i (0), 0, 0, 0, [])), (18, (.ireturn, 19, v_i 0, 0, 0, 0, []))]
def L_No_inBrackets : List (Nat × List Nat) := []
def D_No_inBrackets : c_M0 := (T_No_inBrackets, L_No_inBrackets, 2, 6, ⟨R_No, "inBrackets", "(I)Z"⟩, prog_8_method_13_code, 2, some .boolean)
set_option maxRecDepth 100000 in
theorem k_No_inBrackets : ∀ q ∈ T_No_inBrackets, ck_e 6 prog_8_method_13_code q = true := by decide +kernel
def T_No_isArrow : List (Nat × c_E) := [(0, (.aload_n 0, 1, v_i 0, 0, 0, 0, [])), (1, (.iload_n 1, 2, v_i 0, 0, 0, 0, [])), (2, (.invokevirtual 42, 5, v_r 2, 172, 1, 6, [])), (5, (.istore_n 2, 6, v_i 0, 0, 0, 0, [])), (6, (.iload_n 2, 7, v_i 0, 0, 0, 0, [])), (7, (.iconst (2), 8, v_i (2), 0, 0, 0, [])), (8, (.if_icmp .eq (8), 11, v_i 0, 16, 0, 0, [])), (11, (.iload_n 2, 12, v_i 0, 0, 0, 0, [])), (12, (.iconst (3), 13, v_i (3), 0, 0, 0, [])), (13, (.if_icmp .ne (7), 16, v_i 0, 20, 0, 0, [])), (16, (.iconst (1), 17, v_i (1), 0, 0, 0, [])), (17, (.goto (4), 20, v_i 0, 21, 0, 0, [])), (20, (.iconst (0), 21, v_i (0), 0, 0, 0, [])), (21, (.ireturn, 22, v_i 0, 0, 0, 0, []))]
def L_No_isArrow : List (Nat × List Nat) := []
def D_No_isArrow : c_M0 := (T_No_isArrow, L_No_isArrow, 2, 6, ⟨R_No, "isArrow", "(I)Z"⟩, prog_8_method_14_code, 3, some .boolean)
set_option maxRecDepth 100000 in
theorem k_No_isArrow : ∀ q ∈ T_No_isArrow, ck_e 6 prog_8_method_14_code q = true := by decide +kernel
def T_No_setPlace : List (Nat × c_E) := [(0, (.iload_n 1, 1, v_i 0, 0, 0, 0, [])), (1, (.ifCond .le (17), 4, v_i 0, 18, 0, 0, [])), (4, (.iload_n 1, 5, v_i 0, 0, 0, 0, [])), (5, (.sipush (12800), 8, v_i (12800), 0, 0, 0, [])), (8, (.if_icmp .ge (10), 11, v_i 0, 18, 0, 0, [])), (11, (.aload_n 0, 12, v_i 0, 0, 0, 0, [])), (12, (.getfield 28, 15, v_i 0, 6, 6, 0, [])), (15, (.iload_n 1, 16, v_i 0, 0, 0, 0, [])), (16, (.iload_n 2, 17, v_i 0, 0, 0, 0, [])), (17, (.iastore, 18, v_i 0, 0, 0, 0, [])), (18, (.return_, 19, v_i 0, 0, 0, 0, []))]
def L_No_setPlace : List (Nat × List Nat) := []
def D_No_setPlace : c_M0 := (T_No_setPlace, L_No_setPlace, 0, 6, ⟨R_No, "setPlace", "(II)V"⟩, prog_8_method_15_code, 3, none)
set_option maxRecDepth 100000 in
theorem k_No_setPlace : ∀ q ∈ T_No_setPlace, ck_e 6 prog_8_method_15_code q = true := by decide +kernel
def T_No_setSibling : List (Nat × c_E) := [(0, (.iload_n 1, 1, v_i 0, 0, 0, 0, [])), (1, (.ifCond .le (17), 4, v_i 0, 18, 0, 0, [])), (4, (.iload_n 1, 5, v_i 0, 0, 0, 0, [])), (5, (.sipush (12800), 8, v_i (12800), 0, 0, 0, [])), (8, (.if_icmp .ge (10), 11, v_i 0, 18, 0, 0, [])), (11, (.aload_n 0, 12, v_i 0, 0, 0, 0, [])), (12, (.getfield 19, 15, v_i 0, 3, 6, 0, [])), (15, (.iload_n 1, 16, v_i 0, 0, 0, 0, [])), (16, (.iload_n 2, 17, v_i 0, 0, 0, 0, [])), (17, (.iastore, 18, v_i 0, 0, 0, 0, [])), (18, (.return_, 19, v_i 0, 0, 0, 0, []))]
def L_No_setSibling : List (Nat × List Nat) := []
def D_No_setSibling : c_M0 := (T_No_setSibling, L_No_setSibling, 0, 6, ⟨R_No, "setSibling", "(II)V"⟩, prog_8_method_16_code, 3, none)
set_option maxRecDepth 100000 in
theorem k_No_setSibling : ∀ q ∈ T_No_setSibling, ck_e 6 prog_8_method_16_code q = true := by decide +kernel
def T_No_becomeFamily : List (Nat × c_E) := [(0, (.iload_n 1, 1, v_i 0, 0, 0, 0, [])), (1, (.ifCond .le (25), 4, v_i 0, 26, 0, 0, [])), (4, (.iload_n 1, 5, v_i 0, 0, 0, 0, [])), (5, (.sipush (12800), 8, v_i (12800), 0, 0, 0, [])), (8, (.if_icmp .ge (18), 11, v_i 0, 26, 0, 0, [])), (11, (.aload_n 0, 12, v_i 0, 0, 0, 0, [])), (12, (.getfield 9, 15, v_i 0, 0, 6, 0, [])), (15, (.iload_n 1, 16, v_i 0, 0, 0, 0, [])), (16, (.bipush (8), 18, v_i (8), 0, 0, 0, [])), (18, (.iastore, 19, v_i 0, 0, 0, 0, [])), (19, (.aload_n 0, 20, v_i 0, 0, 0, 0, [])), (20, (.getfield 13, 23, v_i 0, 1, 6, 0, [])), (23, (.iload_n 1, 24, v_i 0, 0, 0, 0, [])), (24, (.iload_n 2, 25, v_i 0, 0, 0, 0, [])), (25, (.iastore, 26, v_i 0, 0, 0, 0, [])), (26, (.return_, 27, v_i 0, 0, 0, 0, []))]
def L_No_becomeFamily : List (Nat × List Nat) := []
def D_No_becomeFamily : c_M0 := (T_No_becomeFamily, L_No_becomeFamily, 0, 6, ⟨R_No, "becomeFamily", "(II)V"⟩, prog_8_method_17_code, 3, none)
set_option maxRecDepth 100000 in
theorem k_No_becomeFamily : ∀ q ∈ T_No_becomeFamily, ck_e 6 prog_8_method_17_code q = true := by decide +kernel
def T_Pa_length : List (Nat × c_E) := [(0, (.aload_n 0, 1, v_i 0, 0, 0, 0, [])), (1, (.getfield 22, 4, v_i 0, 3, 7, 0, [])), (4, (.ireturn, 5, v_i 0, 0, 0, 0, []))]
def L_Pa_length : List (Nat × List Nat) := []
def D_Pa_length : c_M0 := (T_Pa_length, L_Pa_length, 1, 7, ⟨R_Pa, "length", "()I"⟩, prog_9_method_2_code, 1, some .int)
set_option maxRecDepth 100000 in
theorem k_Pa_length : ∀ q ∈ T_Pa_length, ck_e 7 prog_9_method_2_code q = true := by decide +kernel
def T_Pa_signAt : List (Nat × c_E) := [(0, (.iload_n 1, 1, v_i 0, 0, 0, 0, [])), (1, (.ifCond .lt (27), 4, v_i 0, 28, 0, 0, [])), (4, (.iload_n 1, 5, v_i 0, 0, 0, 0, [])), (5, (.aload_n 0, 6, v_i 0, 0, 0, 0, [])), (6, (.getfield 22, 9, v_i 0, 3, 7, 0, [])), (9, (.if_icmp .ge (19), 12, v_i 0, 28, 0, 0, [])), (12, (.iload_n 1, 13, v_i 0, 0, 0, 0, [])), (13, (.sipush (2000), 16, v_i (2000), 0, 0, 0, [])), (16, (.if_icmp .ge (12), 19, v_i 0, 28, 0, 0, [])), (19, (.aload_n 0, 20, v_i 0, 0, 0, 0, [])), (20, (.getfield 11, 23, v_i 0, 1, 7, 0, [])), (23, (.iload_n 1, 24, v_i 0, 0, 0, 0, [])), (24, (.caload, 25, v_i 0, 0, 0, 0, [])), (25, (.goto (4), 28, v_i 0, 29, 0, 0, [])), (28, (.iconst (-1), 29, v_i (-1), 0, 0, 0, [])), (29, (.ireturn, 30, v_i 0, 0, 0, 0, []))]
def L_Pa_signAt : List (Nat × List Nat) := []
def D_Pa_signAt : c_M0 := (T_Pa_signAt, L_Pa_signAt, 1, 7, ⟨R_Pa, "signAt", "(I)I"⟩, prog_9_method_3_code, 2, some .int)
set_option maxRecDepth 100000 in
theorem k_Pa_signAt : ∀ q ∈ T_Pa_signAt, ck_e 7 prog_9_method_3_code q = true := by decide +kernel
def T_Pa_beginDraft : List (Nat × c_E) := [(0, (.aload_n 0, 1, v_i 0, 0, 0, 0, [])), (1, (.iconst (0), 2, v_i (0), 0, 0, 0, [])), (2, (.putfield 26, 5, v_i 0, 4, 7, 0, [])), (5, (.return_, 6, v_i 0, 0, 0, 0, []))]
def L_Pa_beginDraft : List (Nat × List Nat) := []
def D_Pa_beginDraft : c_M0 := (T_Pa_beginDraft, L_Pa_beginDraft, 0, 7, ⟨R_Pa, "beginDraft", "()V"⟩, prog_9_method_4_code, 1, none)
set_option maxRecDepth 100000 in
theorem k_Pa_beginDraft : ∀ q ∈ T_Pa_beginDraft, ck_e 7 prog_9_method_4_code q = true := by decide +kernel
def T_Pa_put : List (Nat × c_E) := [(0, (.aload_n 0, 1, v_i 0, 0, 0, 0, [])), (1, (.getfield 26, 4, v_i 0, 4, 7, 0, [])), (4, (.ifCond .lt (13), 7, v_i 0, 17, 0, 0, [])), (7, (.aload_n 0, 8, v_i 0, 0, 0, 0, [])), (8, (.getfield 26, 11, v_i 0, 4, 7, 0, [])), (11, (.sipush (2000), 14, v_i (2000), 0, 0, 0, [])), (14, (.if_icmp .lt (12), 17, v_i 0, 26, 0, 0, [])), (17, (.aload_n 0, 18, v_i 0, 0, 0, 0, [])), (18, (.getfield 18, 21, v_i 0, 0, 7, 0, [])), (21, (.bipush (11), 23, v_i (11), 0, 0, 0, [])), (23, (.invokevirtual 29, 26, v_r 2, 165, 0, 5, [])), (26, (.aload_n 0, 27, v_i 0, 0, 0, 0, [])), (27, (.getfield 18, 30, v_i 0, 0, 7, 0, [])), (30, (.invokevirtual 35, 33, v_r 1, 164, 1, 5, [])), (33, (.ifCond .ne (24), 36, v_i 0, 57, 0, 0, [])), (36, (.aload_n 0, 37, v_i 0, 0, 0, 0, [])), (37, (.getfield 15, 40, v_i 0, 2, 7, 0, [])), (40, (.aload_n 0, 41, v_i 0, 0, 0, 0, [])), (41, (.getfield 26, 44, v_i 0, 4, 7, 0, [])), (44, (.iload_n 1, 45, v_i 0, 0, 0, 0, [])), (45, (.i2c, 46, v_i 0, 0, 0, 0, [])), (46, (.castore, 47, v_i 0, 0, 0, 0, [])), (47, (.aload_n 0, 48, v_i 0, 0, 0, 0, [])), (48, (.dup, 49, v_i 0, 0, 0, 0, [])), (49, (.getfield 26, 52, v_i 0, 4, 7, 0, [])), (52, (.iconst (1), 53, v_i (1), 0, 0, 0, [])), (53, (.iadd, 54, v_i 0, 0, 0, 0, [])), (54, (.putfield 26, 57, v_i 0, 4, 7, 0, [])), (57, (.return_, 58, v_i 0, 0, 0, 0, []))]
def L_Pa_put : List (Nat × List Nat) := [(17, [0, 1]), (26, [0, 1])]
def D_Pa_put : c_M0 := (T_Pa_put, L_Pa_put, 0, 7, ⟨R_Pa, "put", "(I)V"⟩, prog_9_method_5_code, 2, none)
set_option maxRecDepth 100000 in
theorem k_Pa_put : ∀ q ∈ T_Pa_put, ck_e 7 prog_9_method_5_code q = true := by decide +kernel
def T_Pa_keepDraft : List (Nat × c_E) := [(0, (.iconst (0), 1, v_i (0), 0, 0, 0, [])), (1, (.istore_n 1, 2, v_i 0, 0, 0, 0, [])), (2, (.iload_n 1, 3, v_i 0, 0, 0, 0, [])), (3, (.aload_n 0, 4, v_i 0, 0, 0, 0, [])), (4, (.getfield 26, 7, v_i 0, 4, 7, 0, [])), (7, (.if_icmp .ge (28), 10, v_i 0, 35, 0, 0, [])), (10, (.iload_n 1, 11, v_i 0, 0, 0, 0, [])), (11, (.sipush (2000), 14, v_i (2000), 0, 0, 0, [])), (14, (.if_icmp .ge (21), 17, v_i 0, 35, 0, 0, [])), (17, (.aload_n 0, 18, v_i 0, 0, 0, 0, [])), (18, (.getfield 11, 21, v_i 0, 1, 7, 0, [])), (21, (.iload_n 1, 22, v_i 0, 0, 0, 0, [])), (22, (.aload_n 0, 23, v_i 0, 0, 0, 0, [])), (23, (.getfield 15, 26, v_i 0, 2, 7, 0, [])), (26, (.iload_n 1, 27, v_i 0, 0, 0, 0, [])), (27, (.caload, 28, v_i 0, 0, 0, 0, [])), (28, (.castore, 29, v_i 0, 0, 0, 0, [])), (29, (.iinc 1 (1), 32, v_i (1), 0, 0, 0, [])), (32, (.goto (-30), 35, v_i 0, 2, 0, 0, [])), (35, (.aload_n 0, 36, v_i 0, 0, 0, 0, [])), (36, (.aload_n 0, 37, v_i 0, 0, 0, 0, [])), (37, (.getfield 26, 40, v_i 0, 4, 7, 0, [])), (40, (.putfield 22, 43, v_i 0, 3, 7, 0, [])), (43, (.return_, 44, v_i 0, 0, 0, 0, []))]
def L_Pa_keepDraft : List (Nat × List Nat) := [(2, [0, 1])]
def D_Pa_keepDraft : c_M0 := (T_Pa_keepDraft, L_Pa_keepDraft, 0, 7, ⟨R_Pa, "keepDraft", "()V"⟩, prog_9_method_6_code, 2, none)
set_option maxRecDepth 100000 in
theorem k_Pa_keepDraft : ∀ q ∈ T_Pa_keepDraft, ck_e 7 prog_9_method_6_code q = true := by decide +kernel
def T_Re_begin : List (Nat × c_E) := [(0, (.aload_n 0, 1, v_i 0, 0, 0, 0, [])), (1, (.iconst (0), 2, v_i (0), 0, 0, 0, [])), (2, (.putfield 30, 5, v_i 0, 7, 8, 0, [])), (5, (.aload_n 0, 6, v_i 0, 0, 0, 0, [])), (6, (.getfield 18, 9, v_i 0, 0, 8, 0, [])), (9, (.invokevirtual 34, 12, v_r 1, 220, 0, 9, [])), (12, (.return_, 13, v_i 0, 0, 0, 0, []))]
def L_Re_begin : List (Nat × List Nat) := []
def D_Re_begin : c_M0 := (T_Re_begin, L_Re_begin, 0, 8, ⟨R_Re, "begin", "()V"⟩, prog_10_method_2_code, 1, none)
set_option maxRecDepth 100000 in
theorem k_Re_begin : ∀ q ∈ T_Re_begin, ck_e 8 prog_10_method_2_code q = true := by decide +kernel
def T_Re_fault : List (Nat × c_E) := [(0, (.aload_n 0, 1, v_i 0, 0, 0, 0, [])), (1, (.getfield 30, 4, v_i 0, 7, 8, 0, [])), (4, (.ireturn, 5, v_i 0, 0, 0, 0, []))]
def L_Re_fault : List (Nat × List Nat) := []
def D_Re_fault : c_M0 := (T_Re_fault, L_Re_fault, 1, 8, ⟨R_Re, "fault", "()I"⟩, prog_10_method_3_code, 1, some .int)
set_option maxRecDepth 100000 in
theorem k_Re_fault : ∀ q ∈ T_Re_fault, ck_e 8 prog_10_method_3_code q = true := by decide +kernel
def T_Re_namePlace : List (Nat × c_E) := [(0, (.aload_n 0, 1, v_i 0, 0, 0, 0, [])), (1, (.getfield 39, 4, v_i 0, 8, 8, 0, [])), (4, (.ireturn, 5, v_i 0, 0, 0, 0, []))]
def L_Re_namePlace : List (Nat × List Nat) := []
def D_Re_namePlace : c_M0 := (T_Re_namePlace, L_Re_namePlace, 1, 8, ⟨R_Re, "namePlace", "()I"⟩, prog_10_method_4_code, 1, some .int)
set_option maxRecDepth 100000 in
theorem k_Re_namePlace : ∀ q ∈ T_Re_namePlace, ck_e 8 prog_10_method_4_code q = true := by decide +kernel
def T_Re_nameLength : List (Nat × c_E) := [(0, (.aload_n 0, 1, v_i 0, 0, 0, 0, [])), (1, (.getfield 42, 4, v_i 0, 9, 8, 0, [])), (4, (.ireturn, 5, v_i 0, 0, 0, 0, []))]
def L_Re_nameLength : List (Nat × List Nat) := []
def D_Re_nameLength : c_M0 := (T_Re_nameLength, L_Re_nameLength, 1, 8, ⟨R_Re, "nameLength", "()I"⟩, prog_10_method_5_code, 1, some .int)
set_option maxRecDepth 100000 in
theorem k_Re_nameLength : ∀ q ∈ T_Re_nameLength, ck_e 8 prog_10_method_5_code q = true := by decide +kernel
def T_Re_typeRoot : List (Nat × c_E) := [(0, (.aload_n 0, 1, v_i 0, 0, 0, 0, [])), (1, (.getfield 45, 4, v_i 0, 10, 8, 0, [])), (4, (.ireturn, 5, v_i 0, 0, 0, 0, []))]
def L_Re_typeRoot : List (Nat × List Nat) := []
def D_Re_typeRoot : c_M0 := (T_Re_typeRoot, L_Re_typeRoot, 1, 8, ⟨R_Re, "typeRoot", "()I"⟩, prog_10_method_6_code, 1, some .int)
set_option maxRecDepth 100000 in
theorem k_Re_typeRoot : ∀ q ∈ T_Re_typeRoot, ck_e 8 prog_10_method_6_code q = true := by decide +kernel
def T_Re_bodyRoot : List (Nat × c_E) := [(0, (.aload_n 0, 1, v_i 0, 0, 0, 0, [])), (1, (.getfield 48, 4, v_i 0, 11, 8, 0, [])), (4, (.ireturn, 5, v_i 0, 0, 0, 0, []))]
def L_Re_bodyRoot : List (Nat × List Nat) := []
def D_Re_bodyRoot : c_M0 := (T_Re_bodyRoot, L_Re_bodyRoot, 1, 8, ⟨R_Re, "bodyRoot", "()I"⟩, prog_10_method_7_code, 1, some .int)
set_option maxRecDepth 100000 in
theorem k_Re_bodyRoot : ∀ q ∈ T_Re_bodyRoot, ck_e 8 prog_10_method_7_code q = true := by decide +kernel
def T_Re_faultOfDeclaration : List (Nat × c_E) := [(0, (.aload_n 0, 1, v_i 0, 0, 0, 0, [])), (1, (.iconst (0), 2, v_i (0), 0, 0, 0, [])), (2, (.putfield 48, 5, v_i 0, 11, 8, 0, [])), (5, (.aload_n 0, 6, v_i 0, 0, 0, 0, [])), (6, (.invokevirtual 51, 9, v_r 1, 197, 0, 8, [])), (9, (.aload_n 0, 10, v_i 0, 0, 0, 0, [])), (10, (.bipush (58), 12, v_i (58), 0, 0, 0, [])), (12, (.invokevirtual 54, 15, v_r 2, 198, 0, 8, [])), (15, (.aload_n 0, 16, v_i 0, 0, 0, 0, [])), (16, (.aload_n 0, 17, v_i 0, 0, 0, 0, [])), (17, (.invokevirtual 58, 20, v_r 1, 200, 1, 8, [])), (20, (.putfield 45, 23, v_i 0, 10, 8, 0, [])), (23, (.aload_n 0, 24, v_i 0, 0, 0, 0, [])), (24, (.getfield 30, 27, v_i 0, 7, 8, 0, [])), (27, (.ifCond .ne (30), 30, v_i 0, 57, 0, 0, [])), (30, (.aload_n 0, 31, v_i 0, 0, 0, 0, [])), (31, (.getfield 18, 34, v_i 0, 0, 8, 0, [])), (34, (.invokevirtual 62, 37, v_r 1, 216, 1, 9, [])), (37, (.bipush (61), 39, v_i (61), 0, 0, 0, [])), (39, (.if_icmp .ne (18), 42, v_i 0, 57, 0, 0, [])), (42, (.aload_n 0, 43, v_i 0, 0, 0, 0, [])), (43, (.getfield 18, 46, v_i 0, 0, 8, 0, [])), (46, (.invokevirtual 65, 49, v_r 1, 221, 0, 9, [])), (49, (.aload_n 0, 50, v_i 0, 0, 0, 0, [])), (50, (.aload_n 0, 51, v_i 0, 0, 0, 0, [])), (51, (.invokevirtual 58, 54, v_r 1, 200, 1, 8, [])), (54, (.putfield 48, 57, v_i 0, 11, 8, 0, [])), (57, (.aload_n 0, 58, v_i 0, 0, 0, 0, [])), (58, (.bipush (46), 60, v_i (46), 0, 0, 0, [])), (60, (.invokevirtual 54, 63, v_r 2, 198, 0, 8, [])), (63, (.aload_n 0, 64, v_i 0, 0, 0, 0, [])), (64, (.getfield 30, 67, v_i 0, 7, 8, 0, [])), (67, (.ireturn, 68, v_i 0, 0, 0, 0, []))]
def L_Re_faultOfDeclaration : List (Nat × List Nat) := [(57, [0])]
def D_Re_faultOfDeclaration : c_M0 := (T_Re_faultOfDeclaration, L_Re_faultOfDeclaration, 1, 8, ⟨R_Re, "faultOfDeclaration", "()I"⟩, prog_10_method_8_code, 1, some .int)
set_option maxRecDepth 100000 in
theorem k_Re_faultOfDeclaration : ∀ q ∈ T_Re_faultOfDeclaration, ck_e 8 prog_10_method_8_code q = true := by decide +kernel
def T_Re_expressionBefore : List (Nat × c_E) := [(0, (.aload_n 0, 1, v_i 0, 0, 0, 0, [])), (1, (.invokevirtual 58, 4, v_r 1, 200, 1, 8, [])), (4, (.istore_n 2, 5, v_i 0, 0, 0, 0, [])), (5, (.aload_n 0, 6, v_i 0, 0, 0, 0, [])), (6, (.iload_n 1, 7, v_i 0, 0, 0, 0, [])), (7, (.invokevirtual 54, 10, v_r 2, 198, 0, 8, [])), (10, (.iload_n 2, 11, v_i 0, 0, 0, 0, [])), (11, (.ireturn, 12, v_i 0, 0, 0, 0, []))]
def L_Re_expressionBefore : List (Nat × List Nat) := []
def D_Re_expressionBefore : c_M0 := (T_Re_expressionBefore, L_Re_expressionBefore, 1, 8, ⟨R_Re, "expressionBefore", "(I)I"⟩, prog_10_method_9_code, 3, some .int)
set_option maxRecDepth 100000 in
theorem k_Re_expressionBefore : ∀ q ∈ T_Re_expressionBefore, ck_e 8 prog_10_method_9_code q = true := by decide +kernel
def T_Re_readNewName : List (Nat × c_E) := [(0, (.aload_n 0, 1, v_i 0, 0, 0, 0, [])), (1, (.aload_n 0, 2, v_i 0, 0, 0, 0, [])), (2, (.getfield 18, 5, v_i 0, 0, 8, 0, [])), (5, (.invokevirtual 68, 8, v_r 1, 217, 1, 9, [])), (8, (.putfield 39, 11, v_i 0, 8, 8, 0, [])), (11, (.aload_n 0, 12, v_i 0, 0, 0, 0, [])), (12, (.aload_n 0, 13, v_i 0, 0, 0, 0, [])), (13, (.getfield 18, 16, v_i 0, 0, 8, 0, [])), (16, (.invokevirtual 71, 19, v_r 1, 218, 1, 9, [])), (19, (.putfield 42, 22, v_i 0, 9, 8, 0, [])), (22, (.aload_n 0, 23, v_i 0, 0, 0, 0, [])), (23, (.getfield 18, 26, v_i 0, 0, 8, 0, [])), (26, (.invokevirtual 62, 29, v_r 1, 216, 1, 9, [])), (29, (.iconst (1), 30, v_i (1), 0, 0, 0, [])), (30, (.if_icmp .eq (12), 33, v_i 0, 42, 0, 0, [])), (33, (.aload_n 0, 34, v_i 0, 0, 0, 0, [])), (34, (.iconst (1), 35, v_i (1), 0, 0, 0, [])), (35, (.invokevirtual 74, 38, v_r 2, 199, 1, 8, [])), (38, (.pop, 39, v_i 0, 0, 0, 0, [])), (39, (.goto (61), 42, v_i 0, 100, 0, 0, [])), (42, (.aload_n 0, 43, v_i 0, 0, 0, 0, [])), (43, (.getfield 26, 46, v_i 0, 2, 8, 0, [])), (46, (.aload_n 0, 47, v_i 0, 0, 0, 0, [])), (47, (.getfield 18, 50, v_i 0, 0, 8, 0, [])), (50, (.aload_n 0, 51, v_i 0, 0, 0, 0, [])), (51, (.getfield 39, 54, v_i 0, 8, 8, 0, [])), (54, (.aload_n 0, 55, v_i 0, 0, 0, 0, [])), (55, (.getfield 42, 58, v_i 0, 9, 8, 0, [])), (58, (.invokevirtual 78, 61, v_r 4, 141, 1, 2, [])), (61, (.iconst (-1), 62, v_i (-1), 0, 0, 0, [])), (62, (.if_icmp .eq (12), 65, v_i 0, 74, 0, 0, [])), (65, (.aload_n 0, 66, v_i 0, 0, 0, 0, [])), (66, (.iconst (3), 67, v_i (3), 0, 0, 0, [])), (67, (.invokevirtual 74, 70, v_r 2, 199, 1, 8, [])), (70, (.pop, 71, v_i 0, 0, 0, 0, [])), (71, (.goto (29), 74, v_i 0, 100, 0, 0, [])), (74, (.aload_n 0, 75, v_i 0, 0, 0, 0, [])), (75, (.getfield 26, 78, v_i 0, 2, 8, 0, [])), (78, (.invokevirtual 84, 81, v_r 1, 131, 1, 2, [])), (81, (.ifCond .eq (12), 84, v_i 0, 93, 0, 0, [])), (84, (.aload_n 0, 85, v_i 0, 0, 0, 0, [])), (85, (.iconst (5), 86, v_i (5), 0, 0, 0, [])), (86, (.invokevirtual 74, 89, v_r 2, 199, 1, 8, [])), (89, (.pop, 90, v_i 0, 0, 0, 0, [])), (90, (.goto (10), 93, v_i 0, 100, 0, 0, [])), (93, (.aload_n 0, 94, v_i 0, 0, 0, 0, [])), (94, (.getfield 18, 97, v_i 0, 0, 8, 0, [])), (97, (.invokevirtual 65, 100, v_r 1, 221, 0, 9, [])), (100, (.return_, 101, v_i 0, 0, 0, 0, []))]
def L_Re_readNewName : List (Nat × List Nat) := []
def D_Re_readNewName : c_M0 := (T_Re_readNewName, L_Re_readNewName, 0, 8, ⟨R_Re, "readNewName", "()V"⟩, prog_10_method_10_code, 1, none)
set_option maxRecDepth 100000 in
theorem k_Re_readNewName : ∀ q ∈ T_Re_readNewName, ck_e 8 prog_10_method_10_code q = true := by decide +kernel
def T_Re_take : List (Nat × c_E) := [(0, (.aload_n 0, 1, v_i 0, 0, 0, 0, [])), (1, (.getfield 30, 4, v_i 0, 7, 8, 0, [])), (4, (.ifCond .eq (4), 7, v_i 0, 8, 0, 0, [])), (7, (.return_, 8, v_i 0, 0, 0, 0, [])), (8, (.aload_n 0, 9, v_i 0, 0, 0, 0, [])), (9, (.getfield 18, 12, v_i 0, 0, 8, 0, [])), (12, (.invokevirtual 62, 15, v_r 1, 216, 1, 9, [])), (15, (.iload_n 1, 16, v_i 0, 0, 0, 0, [])), (16, (.if_icmp .ne (13), 19, v_i 0, 29, 0, 0, [])), (19, (.aload_n 0, 20, v_i 0, 0, 0, 0, [])), (20, (.getfield 18, 23, v_i 0, 0, 8, 0, [])), (23, (.invokevirtual 65, 26, v_r 1, 221, 0, 9, [])), (26, (.goto (9), 29, v_i 0, 35, 0, 0, [])), (29, (.aload_n 0, 30, v_i 0, 0, 0, 0, [])), (30, (.iconst (1), 31, v_i (1), 0, 0, 0, [])), (31, (.invokevirtual 74, 34, v_r 2, 199, 1, 8, [])), (34, (.pop, 35, v_i 0, 0, 0, 0, [])), (35, (.return_, 36, v_i 0, 0, 0, 0, []))]
def L_Re_take : List (Nat × List Nat) := []
def D_Re_take : c_M0 := (T_Re_take, L_Re_take, 0, 8, ⟨R_Re, "take", "(I)V"⟩, prog_10_method_11_code, 2, none)
set_option maxRecDepth 100000 in
theorem k_Re_take : ∀ q ∈ T_Re_take, ck_e 8 prog_10_method_11_code q = true := by decide +kernel
def T_Re_refuse : List (Nat × c_E) := [(0, (.aload_n 0, 1, v_i 0, 0, 0, 0, [])), (1, (.getfield 30, 4, v_i 0, 7, 8, 0, [])), (4, (.ifCond .ne (18), 7, v_i 0, 22, 0, 0, [])), (7, (.aload_n 0, 8, v_i 0, 0, 0, 0, [])), (8, (.iload_n 1, 9, v_i 0, 0, 0, 0, [])), (9, (.aload_n 0, 10, v_i 0, 0, 0, 0, [])), (10, (.getfield 18, 13, v_i 0, 0, 8, 0, [])), (13, (.invokevirtual 68, 16, v_r 1, 217, 1, 9, [])), (16, (.invokestatic 88, 19, v_r 2, 15, 1, 0, [])), (19, (.putfield 30, 22, v_i 0, 7, 8, 0, [])), (22, (.iconst (0), 23, v_i (0), 0, 0, 0, [])), (23, (.ireturn, 24, v_i 0, 0, 0, 0, []))]
def L_Re_refuse : List (Nat × List Nat) := []
def D_Re_refuse : c_M0 := (T_Re_refuse, L_Re_refuse, 1, 8, ⟨R_Re, "refuse", "(I)I"⟩, prog_10_method_12_code, 2, some .int)
set_option maxRecDepth 100000 in
theorem k_Re_refuse : ∀ q ∈ T_Re_refuse, ck_e 8 prog_10_method_12_code q = true := by decide +kernel
def T_Re_wholeExpression : List (Nat × c_E) := [(0, (.aload_n 0, 1, v_i 0, 0, 0, 0, [])), (1, (.iconst (0), 2, v_i (0), 0, 0, 0, [])), (2, (.putfield 92, 5, v_i 0, 6, 8, 0, [])), (5, (.aload_n 0, 6, v_i 0, 0, 0, 0, [])), (6, (.iconst (0), 7, v_i (0), 0, 0, 0, [])), (7, (.putfield 95, 10, v_i 0, 5, 8, 0, [])), (10, (.aload_n 0, 11, v_i 0, 0, 0, 0, [])), (11, (.iconst (0), 12, v_i (0), 0, 0, 0, [])), (12, (.invokevirtual 98, 15, v_r 2, 201, 1, 8, [])), (15, (.ireturn, 16, v_i 0, 0, 0, 0, []))]
def L_Re_wholeExpression : List (Nat × List Nat) := []
def D_Re_wholeExpression : c_M0 := (T_Re_wholeExpression, L_Re_wholeExpression, 1, 8, ⟨R_Re, "wholeExpression", "()I"⟩, prog_10_method_13_code, 1, some .int)
set_option maxRecDepth 100000 in
theorem k_Re_wholeExpression : ∀ q ∈ T_Re_wholeExpression, ck_e 8 prog_10_method_13_code q = true := by decide +kernel
def T_Re_expression : List (Nat × c_E) := [(0, (.aload_n 0, 1, v_i 0, 0, 0, 0, [])), (1, (.getfield 30, 4, v_i 0, 7, 8, 0, [])), (4, (.ifCond .eq (5), 7, v_i 0, 9, 0, 0, [])), (7, (.iconst (0), 8, v_i (0), 0, 0, 0, [])), (8, (.ireturn, 9, v_i 0, 0, 0, 0, [])), (9, (.aload_n 0, 10, v_i 0, 0, 0, 0, [])), (10, (.getfield 18, 13, v_i 0, 0, 8, 0, [])), (13, (.invokevirtual 62, 16, v_r 1, 216, 1, 9, [])), (16, (.istore_n 2, 17, v_i 0, 0, 0, 0, [])), (17, (.iload_n 2, 18, v_i 0, 0, 0, 0, [])), (18, (.bipush (123), 20, v_i (123), 0, 0, 0, [])), (20, (.if_icmp .eq (9), 23, v_i 0, 29, 0, 0, [])), (23, (.iload_n 2, 24, v_i 0, 0, 0, 0, [])), (24, (.bipush (91), 26, v_i (91), 0, 0, 0, [])), (26, (.if_icmp .ne (7), 29, v_i 0, 33, 0, 0, [])), (29, (.iconst (1), 30, v_i (1), 0, 0, 0, [])), (30, (.goto (4), 33, v_i 0, 34, 0, 0, [])), (33, (.iconst (0), 34, v_i (0), 0, 0, 0, [])), (34, (.istore_n 3, 35, v_i 0, 0, 0, 0, [])), (35, (.iload_n 3, 36, v_i 0, 0, 0, 0, [])), (36, (.ifCond .ne (16), 39, v_i 0, 52, 0, 0, [])), (39, (.aload_n 0, 40, v_i 0, 0, 0, 0, [])), (40, (.invokevirtual 101, 43, v_r 1, 206, 1, 8, [])), (43, (.ifCond .ne (9), 46, v_i 0, 52, 0, 0, [])), (46, (.aload_n 0, 47, v_i 0, 0, 0, 0, [])), (47, (.iconst (1), 48, v_i (1), 0, 0, 0, [])), (48, (.invokevirtual 74, 51, v_r 2, 199, 1, 8, [])), (51, (.ireturn, 52, v_i 0, 0, 0, 0, [])), (52, (.iload_n 1, 53, v_i 0, 0, 0, 0, [])), (53, (.bipush (40), 55, v_i (40), 0, 0, 0, [])), (55, (.if_icmp .lt (9), 58, v_i 0, 64, 0, 0, [])), (58, (.aload_n 0, 59, v_i 0, 0, 0, 0, [])), (59, (.iconst (5), 60, v_i (5), 0, 0, 0, [])), (60, (.invokevirtual 74, 63, v_r 2, 199, 1, 8, [])), (63, (.ireturn, 64, v_i 0, 0, 0, 0, [])), (64, (.iload_n 3, 65, v_i 0, 0, 0, 0, [])), (65, (.ifCond .eq (11), 68, v_i 0, 76, 0, 0, [])), (68, (.aload_n 0, 69, v_i 0, 0, 0, 0, [])), (69, (.iload_n 1, 70, v_i 0, 0, 0, 0, [])), (70, (.invokevirtual 104, 73, v_r 2, 202, 1, 8, [])), (73, (.goto (8), 76, v_i 0, 81, 0, 0, [])), (76, (.aload_n 0, 77, v_i 0, 0, 0, 0, [])), (77, (.iload_n 1, 78, v_i 0, 0, 0, 0, [])), (78, (.invokevirtual 107, 81, v_r 2, 203, 1, 8, [])), (81, (.ireturn, 82, v_i 0, 0, 0, 0, []))]
def L_Re_expression : List (Nat × List Nat) := [(34, [0, 1]), (52, [0, 1, 3])]
def D_Re_expression : c_M0 := (T_Re_expression, L_Re_expression, 1, 8, ⟨R_Re, "expression", "(I)I"⟩, prog_10_method_14_code, 4, some .int)
set_option maxRecDepth 100000 in
theorem k_Re_expression : ∀ q ∈ T_Re_expression, ck_e 8 prog_10_method_14_code q = true := by decide +kernel
def T_Re_binding : List (Nat × c_E) := [(0, (.aload_n 0, 1, v_i 0, 0, 0, 0, [])), (1, (.getfield 18, 4, v_i 0, 0, 8, 0, [])), (4, (.invokevirtual 62, 7, v_r 1, 216, 1, 9, [])), (7, (.bipush (123), 9, v_i (123), 0, 0, 0, [])), (9, (.if_icmp .ne (7), 12, v_i 0, 16, 0, 0, [])), (12, (.iconst (1), 13, v_i (1), 0, 0, 0, [])), (13, (.goto (4), 16, v_i 0, 17, 0, 0, [])), (16, (.iconst (0), 17, v_i (0), 0, 0, 0, [])), (17, (.istore_n 2, 18, v_i 0, 0, 0, 0, [])), (18, (.aload_n 0, 19, v_i 0, 0, 0, 0, [])), (19, (.getfield 18, 22, v_i 0, 0, 8, 0, [])), (22, (.invokevirtual 68, 25, v_r 1, 217, 1, 9, [])), (25, (.istore_n 3, 26, v_i 0, 0, 0, 0, [])), (26, (.aload_n 0, 27, v_i 0, 0, 0, 0, [])), (27, (.invokevirtual 110, 30, v_r 1, 207, 1, 8, [])), (30, (.ifCond .ne (5), 33, v_i 0, 35, 0, 0, [])), (33, (.iconst (0), 34, v_i (0), 0, 0, 0, [])), (34, (.ireturn, 35, v_i 0, 0, 0, 0, [])), (35, (.aload_n 0, 36, v_i 0, 0, 0, 0, [])), (36, (.getfield 18, 39, v_i 0, 0, 8, 0, [])), (39, (.invokevirtual 65, 42, v_r 1, 221, 0, 9, [])), (42, (.aload_n 0, 43, v_i 0, 0, 0, 0, [])), (43, (.getfield 18, 46, v_i 0, 0, 8, 0, [])), (46, (.invokevirtual 68, 49, v_r 1, 217, 1, 9, [])), (49, (.istore 4, 51, v_i 0, 0, 0, 0, [])), (51, (.aload_n 0, 52, v_i 0, 0, 0, 0, [])), (52, (.getfield 18, 55, v_i 0, 0, 8, 0, [])), (55, (.invokevirtual 71, 58, v_r 1, 218, 1, 9, [])), (58, (.istore 5, 60, v_i 0, 0, 0, 0, [])), (60, (.aload_n 0, 61, v_i 0, 0, 0, 0, [])), (61, (.iconst (1), 62, v_i (1), 0, 0, 0, [])), (62, (.invokevirtual 54, 65, v_r 2, 198, 0, 8, [])), (65, (.aload_n 0, 66, v_i 0, 0, 0, 0, [])), (66, (.bipush (58), 68, v_i (58), 0, 0, 0, [])), (68, (.invokevirtual 54, 71, v_r 2, 198, 0, 8, [])), (71, (.aload_n 0, 72, v_i 0, 0, 0, 0, [])), (72, (.iload_n 1, 73, v_i 0, 0, 0, 0, [])), (73, (.iconst (1), 74, v_i (1), 0, 0, 0, [])), (74, (.iadd, 75, v_i 0, 0, 0, 0, [])), (75, (.invokevirtual 98, 78, v_r 2, 201, 1, 8, [])), (78, (.istore 6, 80, v_i 0, 0, 0, 0, [])), (80, (.aload_n 0, 81, v_i 0, 0, 0, 0, [])), (81, (.iload_n 2, 82, v_i 0, 0, 0, 0, [])), (82, (.ifCond .eq (8), 85, v_i 0, 90, 0, 0, [])), (85, (.bipush (125), 87, v_i (125), 0, 0, 0, [])), (87, (.goto (5), 90, v_i 0, 92, 0, 0, [])), (90, (.bipush (93), 92, v_i (93), 0, 0, 0, [])), (92, (.invokevirtual 54, 95, v_r 2, 198, 0, 8, [])), (95, (.aload_n 0, 96, v_i 0, 0, 0, 0, [])), (96, (.iload 4, 98, v_i 0, 0, 0, 0, [])), (98, (.iload 5, 100, v_i 0, 0, 0, 0, [])), (100, (.invokevirtual 113, 103, v_r 3, 210, 0, 8, [])), (103, (.aload_n 0, 104, v_i 0, 0, 0, 0, [])), (104, (.iload_n 1, 105, v_i 0, 0, 0, 0, [])), (105, (.iconst (1), 106, v_i (1), 0, 0, 0, [])), (106, (.iadd, 107, v_i 0, 0, 0, 0, [])), (107, (.invokevirtual 98, 110, v_r 2, 201, 1, 8, [])), (110, (.istore 7, 112, v_i 0, 0, 0, 0, [])), (112, (.aload_n 0, 113, v_i 0, 0, 0, 0, [])), (113, (.invokevirtual 117, 116, v_r 1, 211, 0, 8, [])), (116, (.aload_n 0, 117, v_i 0, 0, 0, 0, [])), (117, (.iload_n 2, 118, v_i 0, 0, 0, 0, [])), (118, (.ifCond .eq (7), 121, v_i 0, 125, 0, 0, [])), (121, (.iconst (2), 122, v_i (2), 0, 0, 0, [])), (122, (.goto (4), 125, v_i 0, 126, 0, 0, [])), (125, (.iconst (3), 126, v_i (3), 0, 0, 0, [])), (126, (.iload 6, 128, v_i 0, 0, 0, 0, [])), (128, (.iload 7, 130, v_i 0, 0, 0, 0, [])), (130, (.iload_n 3, 131, v_i 0, 0, 0, 0, [])), (131, (.iload_n 3, 132, v_i 0, 0, 0, 0, [])), (132, (.invokevirtual 122, 135, v_r 6, 209, 1, 8, [])), (135, (.ireturn, 136, v_i 0, 0, 0, 0, []))]
def L_Re_binding : List (Nat × List Nat) := [(17, [0, 1]), (92, [0, 1, 2, 3, 4, 5, 6]), (126, [3, 6, 7])]
def D_Re_binding : c_M0 := (T_Re_binding, L_Re_binding, 1, 8, ⟨R_Re, "binding", "(I)I"⟩, prog_10_method_15_code, 8, some .int)
set_option maxRecDepth 100000 in
theorem k_Re_binding : ∀ q ∈ T_Re_binding, ck_e 8 prog_10_method_15_code q = true := by decide +kernel
def T_Re_arrow : List (Nat × c_E) := [(0, (.aload_n 0, 1, v_i 0, 0, 0, 0, [])), (1, (.getfield 18, 4, v_i 0, 0, 8, 0, [])), (4, (.invokevirtual 68, 7, v_r 1, 217, 1, 9, [])), (7, (.istore_n 2, 8, v_i 0, 0, 0, 0, [])), (8, (.aload_n 0, 9, v_i 0, 0, 0, 0, [])), (9, (.iload_n 1, 10, v_i 0, 0, 0, 0, [])), (10, (.invokevirtual 126, 13, v_r 2, 204, 1, 8, [])), (13, (.istore_n 3, 14, v_i 0, 0, 0, 0, [])), (14, (.aload_n 0, 15, v_i 0, 0, 0, 0, [])), (15, (.getfield 30, 18, v_i 0, 7, 8, 0, [])), (18, (.ifCond .ne (15), 21, v_i 0, 33, 0, 0, [])), (21, (.aload_n 0, 22, v_i 0, 0, 0, 0, [])), (22, (.getfield 18, 25, v_i 0, 0, 8, 0, [])), (25, (.invokevirtual 62, 28, v_r 1, 216, 1, 9, [])), (28, (.bipush (62), 30, v_i (62), 0, 0, 0, [])), (30, (.if_icmp .eq (5), 33, v_i 0, 35, 0, 0, [])), (33, (.iload_n 3, 34, v_i 0, 0, 0, 0, [])), (34, (.ireturn, 35, v_i 0, 0, 0, 0, [])), (35, (.aload_n 0, 36, v_i 0, 0, 0, 0, [])), (36, (.getfield 18, 39, v_i 0, 0, 8, 0, [])), (39, (.invokevirtual 68, 42, v_r 1, 217, 1, 9, [])), (42, (.istore 4, 44, v_i 0, 0, 0, 0, [])), (44, (.aload_n 0, 45, v_i 0, 0, 0, 0, [])), (45, (.invokevirtual 110, 48, v_r 1, 207, 1, 8, [])), (48, (.ifCond .ne (5), 51, v_i 0, 53, 0, 0, [])), (51, (.iconst (0), 52, v_i (0), 0, 0, 0, [])), (52, (.ireturn, 53, v_i 0, 0, 0, 0, [])), (53, (.aload_n 0, 54, v_i 0, 0, 0, 0, [])), (54, (.getfield 18, 57, v_i 0, 0, 8, 0, [])), (57, (.invokevirtual 65, 60, v_r 1, 221, 0, 9, [])), (60, (.aload_n 0, 61, v_i 0, 0, 0, 0, [])), (61, (.iload 4, 63, v_i 0, 0, 0, 0, [])), (63, (.iconst (0), 64, v_i (0), 0, 0, 0, [])), (64, (.invokevirtual 113, 67, v_r 3, 210, 0, 8, [])), (67, (.aload_n 0, 68, v_i 0, 0, 0, 0, [])), (68, (.iload_n 1, 69, v_i 0, 0, 0, 0, [])), (69, (.iconst (1), 70, v_i (1), 0, 0, 0, [])), (70, (.iadd, 71, v_i 0, 0, 0, 0, [])), (71, (.invokevirtual 98, 74, v_r 2, 201, 1, 8, [])), (74, (.istore 5, 76, v_i 0, 0, 0, 0, [])), (76, (.aload_n 0, 77, v_i 0, 0, 0, 0, [])), (77, (.invokevirtual 117, 80, v_r 1, 211, 0, 8, [])), (80, (.aload_n 0, 81, v_i 0, 0, 0, 0, [])), (81, (.iconst (2), 82, v_i (2), 0, 0, 0, [])), (82, (.iload_n 3, 83, v_i 0, 0, 0, 0, [])), (83, (.iload 5, 85, v_i 0, 0, 0, 0, [])), (85, (.iload 4, 87, v_i 0, 0, 0, 0, [])), (87, (.iload_n 2, 88, v_i 0, 0, 0, 0, [])), (88, (.invokevirtual 122, 91, v_r 6, 209, 1, 8, [])), (91, (.ireturn, 92, v_i 0, 0, 0, 0, []))]
def L_Re_arrow : List (Nat × List Nat) := []
def D_Re_arrow : c_M0 := (T_Re_arrow, L_Re_arrow, 1, 8, ⟨R_Re, "arrow", "(I)I"⟩, prog_10_method_16_code, 6, some .int)
set_option maxRecDepth 100000 in
theorem k_Re_arrow : ∀ q ∈ T_Re_arrow, ck_e 8 prog_10_method_16_code q = true := by decide +kernel
def T_Re_application : List (Nat × c_E) := [(0, (.aload_n 0, 1, v_i 0, 0, 0, 0, [])), (1, (.iload_n 1, 2, v_i 0, 0, 0, 0, [])), (2, (.iconst (1), 3, v_i (1), 0, 0, 0, [])), (3, (.iadd, 4, v_i 0, 0, 0, 0, [])), (4, (.invokevirtual 129, 7, v_r 2, 205, 1, 8, [])), (7, (.istore_n 2, 8, v_i 0, 0, 0, 0, [])), (8, (.iconst (0), 9, v_i (0), 0, 0, 0, [])), (9, (.istore_n 3, 10, v_i 0, 0, 0, 0, [])), (10, (.iconst (0), 11, v_i (0), 0, 0, 0, [])), (11, (.istore 4, 13, v_i 0, 0, 0, 0, [])), (13, (.iconst (0), 14, v_i (0), 0, 0, 0, [])), (14, (.istore 5, 16, v_i 0, 0, 0, 0, [])), (16, (.iload 5, 18, v_i 0, 0, 0, 0, [])), (18, (.sipush (600), 21, v_i (600), 0, 0, 0, [])), (21, (.if_icmp .ge (57), 24, v_i 0, 78, 0, 0, [])), (24, (.aload_n 0, 25, v_i 0, 0, 0, 0, [])), (25, (.getfield 30, 28, v_i 0, 7, 8, 0, [])), (28, (.ifCond .ne (50), 31, v_i 0, 78, 0, 0, [])), (31, (.aload_n 0, 32, v_i 0, 0, 0, 0, [])), (32, (.invokevirtual 101, 35, v_r 1, 206, 1, 8, [])), (35, (.ifCond .eq (43), 38, v_i 0, 78, 0, 0, [])), (38, (.aload_n 0, 39, v_i 0, 0, 0, 0, [])), (39, (.iload_n 1, 40, v_i 0, 0, 0, 0, [])), (40, (.iconst (1), 41, v_i (1), 0, 0, 0, [])), (41, (.iadd, 42, v_i 0, 0, 0, 0, [])), (42, (.invokevirtual 129, 45, v_r 2, 205, 1, 8, [])), (45, (.istore 6, 47, v_i 0, 0, 0, 0, [])), (47, (.iload_n 3, 48, v_i 0, 0, 0, 0, [])), (48, (.ifCond .ne (9), 51, v_i 0, 57, 0, 0, [])), (51, (.iload 6, 53, v_i 0, 0, 0, 0, [])), (53, (.istore_n 3, 54, v_i 0, 0, 0, 0, [])), (54, (.goto (14), 57, v_i 0, 68, 0, 0, [])), (57, (.aload_n 0, 58, v_i 0, 0, 0, 0, [])), (58, (.getfield 22, 61, v_i 0, 1, 8, 0, [])), (61, (.iload 4, 63, v_i 0, 0, 0, 0, [])), (63, (.iload 6, 65, v_i 0, 0, 0, 0, [])), (65, (.invokevirtual 132, 68, v_r 3, 182, 0, 6, [])), (68, (.iload 6, 70, v_i 0, 0, 0, 0, [])), (70, (.istore 4, 72, v_i 0, 0, 0, 0, [])), (72, (.iinc 5 (1), 75, v_i (1), 0, 0, 0, [])), (75, (.goto (-59), 78, v_i 0, 16, 0, 0, [])), (78, (.aload_n 0, 79, v_i 0, 0, 0, 0, [])), (79, (.getfield 30, 82, v_i 0, 7, 8, 0, [])), (82, (.ifCond .ne (7), 85, v_i 0, 89, 0, 0, [])), (85, (.iload_n 3, 86, v_i 0, 0, 0, 0, [])), (86, (.ifCond .ne (5), 89, v_i 0, 91, 0, 0, [])), (89, (.iload_n 2, 90, v_i 0, 0, 0, 0, [])), (90, (.ireturn, 91, v_i 0, 0, 0, 0, [])), (91, (.aload_n 0, 92, v_i 0, 0, 0, 0, [])), (92, (.bipush (7), 94, v_i (7), 0, 0, 0, [])), (94, (.iload_n 2, 95, v_i 0, 0, 0, 0, [])), (95, (.iload_n 3, 96, v_i 0, 0, 0, 0, [])), (96, (.aload_n 0, 97, v_i 0, 0, 0, 0, [])), (97, (.getfield 22, 100, v_i 0, 1, 8, 0, [])), (100, (.iload_n 2, 101, v_i 0, 0, 0, 0, [])), (101, (.invokevirtual 135, 104, v_r 2, 178, 1, 6, [])), (104, (.aload_n 0, 105, v_i 0, 0, 0, 0, [])), (105, (.getfield 22, 108, v_i 0, 1, 8, 0, [])), (108, (.iload_n 2, 109, v_i 0, 0, 0, 0, [])), (109, (.invokevirtual 135, 112, v_r 2, 178, 1, 6, [])), (112, (.invokevirtual 122, 115, v_r 6, 209, 1, 8, [])), (115, (.ireturn, 116, v_i 0, 0, 0, 0, []))]
def L_Re_application : List (Nat × List Nat) := [(16, [0, 1, 2, 3, 4, 5]), (78, [0, 2, 3])]
def D_Re_application : c_M0 := (T_Re_application, L_Re_application, 1, 8, ⟨R_Re, "application", "(I)I"⟩, prog_10_method_17_code, 7, some .int)
set_option maxRecDepth 100000 in
theorem k_Re_application : ∀ q ∈ T_Re_application, ck_e 8 prog_10_method_17_code q = true := by decide +kernel
def T_Re_part : List (Nat × c_E) := [(0, (.iload_n 1, 1, v_i 0, 0, 0, 0, [])), (1, (.bipush (40), 3, v_i (40), 0, 0, 0, [])), (3, (.if_icmp .lt (9), 6, v_i 0, 12, 0, 0, [])), (6, (.aload_n 0, 7, v_i 0, 0, 0, 0, [])), (7, (.iconst (5), 8, v_i (5), 0, 0, 0, [])), (8, (.invokevirtual 74, 11, v_r 2, 199, 1, 8, [])), (11, (.ireturn, 12, v_i 0, 0, 0, 0, [])), (12, (.aload_n 0, 13, v_i 0, 0, 0, 0, [])), (13, (.invokevirtual 110, 16, v_r 1, 207, 1, 8, [])), (16, (.ifCond .ne (5), 19, v_i 0, 21, 0, 0, [])), (19, (.iconst (0), 20, v_i (0), 0, 0, 0, [])), (20, (.ireturn, 21, v_i 0, 0, 0, 0, [])), (21, (.aload_n 0, 22, v_i 0, 0, 0, 0, [])), (22, (.getfield 18, 25, v_i 0, 0, 8, 0, [])), (25, (.invokevirtual 68, 28, v_r 1, 217, 1, 9, [])), (28, (.istore_n 2, 29, v_i 0, 0, 0, 0, [])), (29, (.aload_n 0, 30, v_i 0, 0, 0, 0, [])), (30, (.getfield 18, 33, v_i 0, 0, 8, 0, [])), (33, (.invokevirtual 62, 36, v_r 1, 216, 1, 9, [])), (36, (.bipush (40), 38, v_i (40), 0, 0, 0, [])), (38, (.if_icmp .ne (35), 41, v_i 0, 73, 0, 0, [])), (41, (.aload_n 0, 42, v_i 0, 0, 0, 0, [])), (42, (.getfield 18, 45, v_i 0, 0, 8, 0, [])), (45, (.invokevirtual 65, 48, v_r 1, 221, 0, 9, [])), (48, (.aload_n 0, 49, v_i 0, 0, 0, 0, [])), (49, (.iload_n 1, 50, v_i 0, 0, 0, 0, [])), (50, (.iconst (1), 51, v_i (1), 0, 0, 0, [])), (51, (.iadd, 52, v_i 0, 0, 0, 0, [])), (52, (.invokevirtual 98, 55, v_r 2, 201, 1, 8, [])), (55, (.istore_n 3, 56, v_i 0, 0, 0, 0, [])), (56, (.aload_n 0, 57, v_i 0, 0, 0, 0, [])), (57, (.bipush (41), 59, v_i (41), 0, 0, 0, [])), (59, (.invokevirtual 54, 62, v_r 2, 198, 0, 8, [])), (62, (.aload_n 0, 63, v_i 0, 0, 0, 0, [])), (63, (.getfield 22, 66, v_i 0, 1, 8, 0, [])), (66, (.iload_n 3, 67, v_i 0, 0, 0, 0, [])), (67, (.iload_n 2, 68, v_i 0, 0, 0, 0, [])), (68, (.invokevirtual 137, 71, v_r 3, 181, 0, 6, [])), (71, (.iload_n 3, 72, v_i 0, 0, 0, 0, [])), (72, (.ireturn, 73, v_i 0, 0, 0, 0, [])), (73, (.aload_n 0, 74, v_i 0, 0, 0, 0, [])), (74, (.getfield 18, 77, v_i 0, 0, 8, 0, [])), (77, (.invokevirtual 62, 80, v_r 1, 216, 1, 9, [])), (80, (.iconst (2), 81, v_i (2), 0, 0, 0, [])), (81, (.if_icmp .ne (15), 84, v_i 0, 96, 0, 0, [])), (84, (.aload_n 0, 85, v_i 0, 0, 0, 0, [])), (85, (.iconst (1), 86, v_i (1), 0, 0, 0, [])), (86, (.iconst (0), 87, v_i (0), 0, 0, 0, [])), (87, (.iconst (0), 88, v_i (0), 0, 0, 0, [])), (88, (.iload_n 2, 89, v_i 0, 0, 0, 0, [])), (89, (.iload_n 2, 90, v_i 0, 0, 0, 0, [])), (90, (.invokevirtual 122, 93, v_r 6, 209, 1, 8, [])), (93, (.goto (8), 96, v_i 0, 101, 0, 0, [])), (96, (.aload_n 0, 97, v_i 0, 0, 0, 0, [])), (97, (.iload_n 2, 98, v_i 0, 0, 0, 0, [])), (98, (.invokevirtual 140, 101, v_r 2, 208, 1, 8, [])), (101, (.istore_n 3, 102, v_i 0, 0, 0, 0, [])), (102, (.aload_n 0, 103, v_i 0, 0, 0, 0, [])), (103, (.getfield 18, 106, v_i 0, 0, 8, 0, [])), (106, (.invokevirtual 65, 109, v_r 1, 221, 0, 9, [])), (109, (.iload_n 3, 110, v_i 0, 0, 0, 0, [])), (110, (.ireturn, 111, v_i 0, 0, 0, 0, []))]
def L_Re_part : List (Nat × List Nat) := [(101, [0])]
def D_Re_part : c_M0 := (T_Re_part, L_Re_part, 1, 8, ⟨R_Re, "part", "(I)I"⟩, prog_10_method_18_code, 4, some .int)
set_option maxRecDepth 100000 in
theorem k_Re_part : ∀ q ∈ T_Re_part, ck_e 8 prog_10_method_18_code q = true := by decide +kernel
def T_Re_startsPart : List (Nat × c_E) := [(0, (.aload_n 0, 1, v_i 0, 0, 0, 0, [])), (1, (.getfield 18, 4, v_i 0, 0, 8, 0, [])), (4, (.invokevirtual 62, 7, v_r 1, 216, 1, 9, [])), (7, (.istore_n 1, 8, v_i 0, 0, 0, 0, [])), (8, (.iload_n 1, 9, v_i 0, 0, 0, 0, [])), (9, (.iconst (1), 10, v_i (1), 0, 0, 0, [])), (10, (.if_icmp .eq (14), 13, v_i 0, 24, 0, 0, [])), (13, (.iload_n 1, 14, v_i 0, 0, 0, 0, [])), (14, (.iconst (2), 15, v_i (2), 0, 0, 0, [])), (15, (.if_icmp .eq (9), 18, v_i 0, 24, 0, 0, [])), (18, (.iload_n 1, 19, v_i 0, 0, 0, 0, [])), (19, (.bipush (40), 21, v_i (40), 0, 0, 0, [])), (21, (.if_icmp .ne (7), 24, v_i 0, 28, 0, 0, [])), (24, (.iconst (1), 25, v_i (1), 0, 0, 0, [])), (25, (.goto (4), 28, v_i 0, 29, 0, 0, [])), (28, (.iconst (0), 29, v_i (0), 0, 0, 0, [])), (29, (.ireturn, 30, v_i 0, 0, 0, 0, []))]
def L_Re_startsPart : List (Nat × List Nat) := []
def D_Re_startsPart : c_M0 := (T_Re_startsPart, L_Re_startsPart, 2, 8, ⟨R_Re, "startsPart", "()Z"⟩, prog_10_method_19_code, 2, some .boolean)
set_option maxRecDepth 100000 in
theorem k_Re_startsPart : ∀ q ∈ T_Re_startsPart, ck_e 8 prog_10_method_19_code q = true := by decide +kernel
def T_Re_countPart : List (Nat × c_E) := [(0, (.aload_n 0, 1, v_i 0, 0, 0, 0, [])), (1, (.dup, 2, v_i 0, 0, 0, 0, [])), (2, (.getfield 92, 5, v_i 0, 6, 8, 0, [])), (5, (.iconst (1), 6, v_i (1), 0, 0, 0, [])), (6, (.iadd, 7, v_i 0, 0, 0, 0, [])), (7, (.putfield 92, 10, v_i 0, 6, 8, 0, [])), (10, (.aload_n 0, 11, v_i 0, 0, 0, 0, [])), (11, (.getfield 92, 14, v_i 0, 6, 8, 0, [])), (14, (.sipush (600), 17, v_i (600), 0, 0, 0, [])), (17, (.if_icmp .le (9), 20, v_i 0, 26, 0, 0, [])), (20, (.aload_n 0, 21, v_i 0, 0, 0, 0, [])), (21, (.iconst (5), 22, v_i (5), 0, 0, 0, [])), (22, (.invokevirtual 74, 25, v_r 2, 199, 1, 8, [])), (25, (.pop, 26, v_i 0, 0, 0, 0, [])), (26, (.aload_n 0, 27, v_i 0, 0, 0, 0, [])), (27, (.getfield 30, 30, v_i 0, 7, 8, 0, [])), (30, (.ifCond .ne (7), 33, v_i 0, 37, 0, 0, [])), (33, (.iconst (1), 34, v_i (1), 0, 0, 0, [])), (34, (.goto (4), 37, v_i 0, 38, 0, 0, [])), (37, (.iconst (0), 38, v_i (0), 0, 0, 0, [])), (38, (.ireturn, 39, v_i 0, 0, 0, 0, []))]
def L_Re_countPart : List (Nat × List Nat) := []
def D_Re_countPart : c_M0 := (T_Re_countPart, L_Re_countPart, 2, 8, ⟨R_Re, "countPart", "()Z"⟩, prog_10_method_20_code, 1, some .boolean)
set_option maxRecDepth 100000 in
theorem k_Re_countPart : ∀ q ∈ T_Re_countPart, ck_e 8 prog_10_method_20_code q = true := by decide +kernel
def T_Re_nameNode : List (Nat × c_E) := [(0, (.aload_n 0, 1, v_i 0, 0, 0, 0, [])), (1, (.getfield 18, 4, v_i 0, 0, 8, 0, [])), (4, (.invokevirtual 71, 7, v_r 1, 218, 1, 9, [])), (7, (.istore_n 2, 8, v_i 0, 0, 0, 0, [])), (8, (.aload_n 0, 9, v_i 0, 0, 0, 0, [])), (9, (.getfield 95, 12, v_i 0, 5, 8, 0, [])), (12, (.bipush (40), 14, v_i (40), 0, 0, 0, [])), (14, (.invokestatic 143, 17, v_r 2, 0, 0, 1, [])), (17, (.iconst (1), 18, v_i (1), 0, 0, 0, [])), (18, (.isub, 19, v_i 0, 0, 0, 0, [])), (19, (.istore_n 3, 20, v_i 0, 0, 0, 0, [])), (20, (.iload_n 3, 21, v_i 0, 0, 0, 0, [])), (21, (.istore 4, 23, v_i 0, 0, 0, 0, [])), (23, (.iload 4, 25, v_i 0, 0, 0, 0, [])), (25, (.ifCond .lt (52), 28, v_i 0, 77, 0, 0, [])), (28, (.aload_n 0, 29, v_i 0, 0, 0, 0, [])), (29, (.getfield 15, 32, v_i 0, 4, 8, 0, [])), (32, (.iload 4, 34, v_i 0, 0, 0, 0, [])), (34, (.iaload, 35, v_i 0, 0, 0, 0, [])), (35, (.iload_n 2, 36, v_i 0, 0, 0, 0, [])), (36, (.if_icmp .ne (35), 39, v_i 0, 71, 0, 0, [])), (39, (.aload_n 0, 40, v_i 0, 0, 0, 0, [])), (40, (.getfield 18, 43, v_i 0, 0, 8, 0, [])), (43, (.aload_n 0, 44, v_i 0, 0, 0, 0, [])), (44, (.getfield 11, 47, v_i 0, 3, 8, 0, [])), (47, (.iload 4, 49, v_i 0, 0, 0, 0, [])), (49, (.iaload, 50, v_i 0, 0, 0, 0, [])), (50, (.iload_n 1, 51, v_i 0, 0, 0, 0, [])), (51, (.iload_n 2, 52, v_i 0, 0, 0, 0, [])), (52, (.invokevirtual 148, 55, v_r 4, 223, 1, 9, [])), (55, (.ifCond .eq (16), 58, v_i 0, 71, 0, 0, [])), (58, (.aload_n 0, 59, v_i 0, 0, 0, 0, [])), (59, (.iconst (4), 60, v_i (4), 0, 0, 0, [])), (60, (.iload_n 3, 61, v_i 0, 0, 0, 0, [])), (61, (.iload 4, 63, v_i 0, 0, 0, 0, [])), (63, (.isub, 64, v_i 0, 0, 0, 0, [])), (64, (.iconst (0), 65, v_i (0), 0, 0, 0, [])), (65, (.iload_n 1, 66, v_i 0, 0, 0, 0, [])), (66, (.iload_n 1, 67, v_i 0, 0, 0, 0, [])), (67, (.invokevirtual 122, 70, v_r 6, 209, 1, 8, [])), (70, (.ireturn, 71, v_i 0, 0, 0, 0, [])), (71, (.iinc 4 (-1), 74, v_i (-1), 0, 0, 0, [])), (74, (.goto (-51), 77, v_i 0, 23, 0, 0, [])), (77, (.aload_n 0, 78, v_i 0, 0, 0, 0, [])), (78, (.getfield 26, 81, v_i 0, 2, 8, 0, [])), (81, (.aload_n 0, 82, v_i 0, 0, 0, 0, [])), (82, (.getfield 18, 85, v_i 0, 0, 8, 0, [])), (85, (.iload_n 1, 86, v_i 0, 0, 0, 0, [])), (86, (.iload_n 2, 87, v_i 0, 0, 0, 0, [])), (87, (.invokevirtual 78, 90, v_r 4, 141, 1, 2, [])), (90, (.istore 4, 92, v_i 0, 0, 0, 0, [])), (92, (.aload_n 0, 93, v_i 0, 0, 0, 0, [])), (93, (.iload 4, 95, v_i 0, 0, 0, 0, [])), (95, (.iconst (-1), 96, v_i (-1), 0, 0, 0, [])), (96, (.if_icmp .ne (8), 99, v_i 0, 104, 0, 0, [])), (99, (.bipush (6), 101, v_i (6), 0, 0, 0, [])), (101, (.goto (4), 104, v_i 0, 105, 0, 0, [])), (104, (.iconst (5), 105, v_i (5), 0, 0, 0, [])), (105, (.iload 4, 107, v_i 0, 0, 0, 0, [])), (107, (.iconst (0), 108, v_i (0), 0, 0, 0, [])), (108, (.iload_n 1, 109, v_i 0, 0, 0, 0, [])), (109, (.iload_n 1, 110, v_i 0, 0, 0, 0, [])), (110, (.invokevirtual 122, 113, v_r 6, 209, 1, 8, [])), (113, (.ireturn, 114, v_i 0, 0, 0, 0, []))]
def L_Re_nameNode : List (Nat × List Nat) := [(23, [0, 1, 2, 3, 4]), (105, [1, 4])]
def D_Re_nameNode : c_M0 := (T_Re_nameNode, L_Re_nameNode, 1, 8, ⟨R_Re, "nameNode", "(I)I"⟩, prog_10_method_21_code, 5, some .int)
set_option maxRecDepth 100000 in
theorem k_Re_nameNode : ∀ q ∈ T_Re_nameNode, ck_e 8 prog_10_method_21_code q = true := by decide +kernel
def T_Re_node : List (Nat × c_E) := [(0, (.aload_n 0, 1, v_i 0, 0, 0, 0, [])), (1, (.getfield 22, 4, v_i 0, 1, 8, 0, [])), (4, (.invokevirtual 152, 7, v_r 1, 170, 1, 6, [])), (7, (.ifCond .eq (9), 10, v_i 0, 16, 0, 0, [])), (10, (.aload_n 0, 11, v_i 0, 0, 0, 0, [])), (11, (.iconst (5), 12, v_i (5), 0, 0, 0, [])), (12, (.invokevirtual 74, 15, v_r 2, 199, 1, 8, [])), (15, (.ireturn, 16, v_i 0, 0, 0, 0, [])), (16, (.aload_n 0, 17, v_i 0, 0, 0, 0, [])), (17, (.getfield 30, 20, v_i 0, 7, 8, 0, [])), (20, (.ifCond .ne (20), 23, v_i 0, 40, 0, 0, [])), (23, (.aload_n 0, 24, v_i 0, 0, 0, 0, [])), (24, (.getfield 22, 27, v_i 0, 1, 8, 0, [])), (27, (.iload_n 1, 28, v_i 0, 0, 0, 0, [])), (28, (.iload_n 2, 29, v_i 0, 0, 0, 0, [])), (29, (.iload_n 3, 30, v_i 0, 0, 0, 0, [])), (30, (.iload 4, 32, v_i 0, 0, 0, 0, [])), (32, (.iload 5, 34, v_i 0, 0, 0, 0, [])), (34, (.invokevirtual 153, 37, v_r 6, 171, 1, 6, [])), (37, (.goto (4), 40, v_i 0, 41, 0, 0, [])), (40, (.iconst (0), 41, v_i (0), 0, 0, 0, [])), (41, (.ireturn, 42, v_i 0, 0, 0, 0, []))]
def L_Re_node : List (Nat × List Nat) := []
def D_Re_node : c_M0 := (T_Re_node, L_Re_node, 1, 8, ⟨R_Re, "node", "(IIIII)I"⟩, prog_10_method_22_code, 6, some .int)
set_option maxRecDepth 100000 in
theorem k_Re_node : ∀ q ∈ T_Re_node, ck_e 8 prog_10_method_22_code q = true := by decide +kernel
def T_Re_enterScope : List (Nat × c_E) := [(0, (.aload_n 0, 1, v_i 0, 0, 0, 0, [])), (1, (.getfield 95, 4, v_i 0, 5, 8, 0, [])), (4, (.ifCond .lt (32), 7, v_i 0, 36, 0, 0, [])), (7, (.aload_n 0, 8, v_i 0, 0, 0, 0, [])), (8, (.getfield 95, 11, v_i 0, 5, 8, 0, [])), (11, (.bipush (40), 13, v_i (40), 0, 0, 0, [])), (13, (.if_icmp .ge (23), 16, v_i 0, 36, 0, 0, [])), (16, (.aload_n 0, 17, v_i 0, 0, 0, 0, [])), (17, (.getfield 11, 20, v_i 0, 3, 8, 0, [])), (20, (.aload_n 0, 21, v_i 0, 0, 0, 0, [])), (21, (.getfield 95, 24, v_i 0, 5, 8, 0, [])), (24, (.iload_n 1, 25, v_i 0, 0, 0, 0, [])), (25, (.iastore, 26, v_i 0, 0, 0, 0, [])), (26, (.aload_n 0, 27, v_i 0, 0, 0, 0, [])), (27, (.getfield 15, 30, v_i 0, 4, 8, 0, [])), (30, (.aload_n 0, 31, v_i 0, 0, 0, 0, [])), (31, (.getfield 95, 34, v_i 0, 5, 8, 0, [])), (34, (.iload_n 2, 35, v_i 0, 0, 0, 0, [])), (35, (.iastore, 36, v_i 0, 0, 0, 0, [])), (36, (.aload_n 0, 37, v_i 0, 0, 0, 0, [])), (37, (.dup, 38, v_i 0, 0, 0, 0, [])), (38, (.getfield 95, 41, v_i 0, 5, 8, 0, [])), (41, (.iconst (1), 42, v_i (1), 0, 0, 0, [])), (42, (.iadd, 43, v_i 0, 0, 0, 0, [])), (43, (.putfield 95, 46, v_i 0, 5, 8, 0, [])), (46, (.return_, 47, v_i 0, 0, 0, 0, []))]
def L_Re_enterScope : List (Nat × List Nat) := []
def D_Re_enterScope : c_M0 := (T_Re_enterScope, L_Re_enterScope, 0, 8, ⟨R_Re, "enterScope", "(II)V"⟩, prog_10_method_23_code, 3, none)
set_option maxRecDepth 100000 in
theorem k_Re_enterScope : ∀ q ∈ T_Re_enterScope, ck_e 8 prog_10_method_23_code q = true := by decide +kernel
def T_Re_leaveScope : List (Nat × c_E) := [(0, (.aload_n 0, 1, v_i 0, 0, 0, 0, [])), (1, (.dup, 2, v_i 0, 0, 0, 0, [])), (2, (.getfield 95, 5, v_i 0, 5, 8, 0, [])), (5, (.iconst (1), 6, v_i (1), 0, 0, 0, [])), (6, (.isub, 7, v_i 0, 0, 0, 0, [])), (7, (.putfield 95, 10, v_i 0, 5, 8, 0, [])), (10, (.return_, 11, v_i 0, 0, 0, 0, []))]
def L_Re_leaveScope : List (Nat × List Nat) := []
def D_Re_leaveScope : c_M0 := (T_Re_leaveScope, L_Re_leaveScope, 0, 8, ⟨R_Re, "leaveScope", "()V"⟩, prog_10_method_24_code, 1, none)
set_option maxRecDepth 100000 in
theorem k_Re_leaveScope : ∀ q ∈ T_Re_leaveScope, ck_e 8 prog_10_method_24_code q = true := by decide +kernel
def T_Ta_append : List (Nat × c_E) := [(0, (.bipush (56), 2, v_i (56), 0, 0, 0, [])), (2, (.istore_n 3, 3, v_i 0, 0, 0, 0, [])), (3, (.iload_n 3, 4, v_i 0, 0, 0, 0, [])), (4, (.ifCond .lt (91), 7, v_i 0, 95, 0, 0, [])), (7, (.lload_n 1, 8, v_i 0, 0, 0, 0, [])), (8, (.iload_n 3, 9, v_i 0, 0, 0, 0, [])), (9, (.lushr, 10, v_i 0, 0, 0, 0, [])), (10, (.ldc2_w 13, 13, v_l (255), 0, 0, 0, [])), (13, (.land, 14, v_i 0, 0, 0, 0, [])), (14, (.l2i, 15, v_i 0, 0, 0, 0, [])), (15, (.istore 4, 17, v_i 0, 0, 0, 0, [])), (17, (.iload 4, 19, v_i 0, 0, 0, 0, [])), (19, (.bipush (10), 21, v_i (10), 0, 0, 0, [])), (21, (.if_icmp .eq (17), 24, v_i 0, 38, 0, 0, [])), (24, (.iload 4, 26, v_i 0, 0, 0, 0, [])), (26, (.bipush (32), 28, v_i (32), 0, 0, 0, [])), (28, (.if_icmp .lt (14), 31, v_i 0, 42, 0, 0, [])), (31, (.iload 4, 33, v_i 0, 0, 0, 0, [])), (33, (.bipush (126), 35, v_i (126), 0, 0, 0, [])), (35, (.if_icmp .gt (7), 38, v_i 0, 42, 0, 0, [])), (38, (.iconst (1), 39, v_i (1), 0, 0, 0, [])), (39, (.goto (4), 42, v_i 0, 43, 0, 0, [])), (42, (.iconst (0), 43, v_i (0), 0, 0, 0, [])), (43, (.istore 5, 45, v_i 0, 0, 0, 0, [])), (45, (.iload 5, 47, v_i 0, 0, 0, 0, [])), (47, (.ifCond .eq (42), 50, v_i 0, 89, 0, 0, [])), (50, (.aload_n 0, 51, v_i 0, 0, 0, 0, [])), (51, (.getfield 15, 54, v_i 0, 1, 9, 0, [])), (54, (.ifCond .lt (35), 57, v_i 0, 89, 0, 0, [])), (57, (.aload_n 0, 58, v_i 0, 0, 0, 0, [])), (58, (.getfield 15, 61, v_i 0, 1, 9, 0, [])), (61, (.sipush (4000), 64, v_i (4000), 0, 0, 0, [])), (64, (.if_icmp .ge (25), 67, v_i 0, 89, 0, 0, [])), (67, (.aload_n 0, 68, v_i 0, 0, 0, 0, [])), (68, (.getfield 9, 71, v_i 0, 0, 9, 0, [])), (71, (.aload_n 0, 72, v_i 0, 0, 0, 0, [])), (72, (.getfield 15, 75, v_i 0, 1, 9, 0, [])), (75, (.iload 4, 77, v_i 0, 0, 0, 0, [])), (77, (.i2c, 78, v_i 0, 0, 0, 0, [])), (78, (.castore, 79, v_i 0, 0, 0, 0, [])), (79, (.aload_n 0, 80, v_i 0, 0, 0, 0, [])), (80, (.dup, 81, v_i 0, 0, 0, 0, [])), (81, (.getfield 15, 84, v_i 0, 1, 9, 0, [])), (84, (.iconst (1), 85, v_i (1), 0, 0, 0, [])), (85, (.iadd, 86, v_i 0, 0, 0, 0, [])), (86, (.putfield 15, 89, v_i 0, 1, 9, 0, [])), (89, (.iinc 3 (-8), 92, v_i (-8), 0, 0, 0, [])), (92, (.goto (-89), 95, v_i 0, 3, 0, 0, [])), (95, (.return_, 96, v_i 0, 0, 0, 0, []))]
def L_Ta_append : List (Nat × List Nat) := [(3, [0, 1, 3]), (43, [0, 1, 3, 4])]
def D_Ta_append : c_M0 := (T_Ta_append, L_Ta_append, 0, 9, ⟨R_Ta, "append", "(J)V"⟩, prog_11_method_2_code, 6, none)
set_option maxRecDepth 100000 in
theorem k_Ta_append : ∀ q ∈ T_Ta_append, ck_e 9 prog_11_method_2_code q = true := by decide +kernel
def T_Ta_length : List (Nat × c_E) := [(0, (.aload_n 0, 1, v_i 0, 0, 0, 0, [])), (1, (.getfield 15, 4, v_i 0, 1, 9, 0, [])), (4, (.ireturn, 5, v_i 0, 0, 0, 0, []))]
def L_Ta_length : List (Nat × List Nat) := []
def D_Ta_length : c_M0 := (T_Ta_length, L_Ta_length, 1, 9, ⟨R_Ta, "length", "()I"⟩, prog_11_method_3_code, 1, some .int)
set_option maxRecDepth 100000 in
theorem k_Ta_length : ∀ q ∈ T_Ta_length, ck_e 9 prog_11_method_3_code q = true := by decide +kernel
def T_Ta_empty : List (Nat × c_E) := [(0, (.aload_n 0, 1, v_i 0, 0, 0, 0, [])), (1, (.iconst (0), 2, v_i (0), 0, 0, 0, [])), (2, (.putfield 15, 5, v_i 0, 1, 9, 0, [])), (5, (.return_, 6, v_i 0, 0, 0, 0, []))]
def L_Ta_empty : List (Nat × List Nat) := []
def D_Ta_empty : c_M0 := (T_Ta_empty, L_Ta_empty, 0, 9, ⟨R_Ta, "empty", "()V"⟩, prog_11_method_4_code, 1, none)
set_option maxRecDepth 100000 in
theorem k_Ta_empty : ∀ q ∈ T_Ta_empty, ck_e 9 prog_11_method_4_code q = true := by decide +kernel
def T_Ta_signAt : List (Nat × c_E) := [(0, (.iload_n 1, 1, v_i 0, 0, 0, 0, [])), (1, (.ifCond .lt (27), 4, v_i 0, 28, 0, 0, [])), (4, (.iload_n 1, 5, v_i 0, 0, 0, 0, [])), (5, (.aload_n 0, 6, v_i 0, 0, 0, 0, [])), (6, (.getfield 15, 9, v_i 0, 1, 9, 0, [])), (9, (.if_icmp .ge (19), 12, v_i 0, 28, 0, 0, [])), (12, (.iload_n 1, 13, v_i 0, 0, 0, 0, [])), (13, (.sipush (4000), 16, v_i (4000), 0, 0, 0, [])), (16, (.if_icmp .ge (12), 19, v_i 0, 28, 0, 0, [])), (19, (.aload_n 0, 20, v_i 0, 0, 0, 0, [])), (20, (.getfield 9, 23, v_i 0, 0, 9, 0, [])), (23, (.iload_n 1, 24, v_i 0, 0, 0, 0, [])), (24, (.caload, 25, v_i 0, 0, 0, 0, [])), (25, (.goto (4), 28, v_i 0, 29, 0, 0, [])), (28, (.iconst (0), 29, v_i (0), 0, 0, 0, [])), (29, (.ireturn, 30, v_i 0, 0, 0, 0, []))]
def L_Ta_signAt : List (Nat × List Nat) := []
def D_Ta_signAt : c_M0 := (T_Ta_signAt, L_Ta_signAt, 1, 9, ⟨R_Ta, "signAt", "(I)I"⟩, prog_11_method_5_code, 2, some .int)
set_option maxRecDepth 100000 in
theorem k_Ta_signAt : ∀ q ∈ T_Ta_signAt, ck_e 9 prog_11_method_5_code q = true := by decide +kernel
def T_Ta_token : List (Nat × c_E) := [(0, (.aload_n 0, 1, v_i 0, 0, 0, 0, [])), (1, (.getfield 19, 4, v_i 0, 2, 9, 0, [])), (4, (.ireturn, 5, v_i 0, 0, 0, 0, []))]
def L_Ta_token : List (Nat × List Nat) := []
def D_Ta_token : c_M0 := (T_Ta_token, L_Ta_token, 1, 9, ⟨R_Ta, "token", "()I"⟩, prog_11_method_6_code, 1, some .int)
set_option maxRecDepth 100000 in
theorem k_Ta_token : ∀ q ∈ T_Ta_token, ck_e 9 prog_11_method_6_code q = true := by decide +kernel
def T_Ta_place : List (Nat × c_E) := [(0, (.aload_n 0, 1, v_i 0, 0, 0, 0, [])), (1, (.getfield 22, 4, v_i 0, 3, 9, 0, [])), (4, (.ireturn, 5, v_i 0, 0, 0, 0, []))]
def L_Ta_place : List (Nat × List Nat) := []
def D_Ta_place : c_M0 := (T_Ta_place, L_Ta_place, 1, 9, ⟨R_Ta, "place", "()I"⟩, prog_11_method_7_code, 1, some .int)
set_option maxRecDepth 100000 in
theorem k_Ta_place : ∀ q ∈ T_Ta_place, ck_e 9 prog_11_method_7_code q = true := by decide +kernel
def T_Ta_wordLength : List (Nat × c_E) := [(0, (.aload_n 0, 1, v_i 0, 0, 0, 0, [])), (1, (.getfield 25, 4, v_i 0, 4, 9, 0, [])), (4, (.aload_n 0, 5, v_i 0, 0, 0, 0, [])), (5, (.getfield 22, 8, v_i 0, 3, 9, 0, [])), (8, (.isub, 9, v_i 0, 0, 0, 0, [])), (9, (.ireturn, 10, v_i 0, 0, 0, 0, []))]
def L_Ta_wordLength : List (Nat × List Nat) := []
def D_Ta_wordLength : c_M0 := (T_Ta_wordLength, L_Ta_wordLength, 1, 9, ⟨R_Ta, "wordLength", "()I"⟩, prog_11_method_8_code, 1, some .int)
set_option maxRecDepth 100000 in
theorem k_Ta_wordLength : ∀ q ∈ T_Ta_wordLength, ck_e 9 prog_11_method_8_code q = true := by decide +kernel
def T_Ta_atEnd : List (Nat × c_E) := [(0, (.aload_n 0, 1, v_i 0, 0, 0, 0, [])), (1, (.getfield 19, 4, v_i 0, 2, 9, 0, [])), (4, (.ifCond .ne (7), 7, v_i 0, 11, 0, 0, [])), (7, (.iconst (1), 8, v_i (1), 0, 0, 0, [])), (8, (.goto (4), 11, v_i 0, 12, 0, 0, [])), (11, (.iconst (0), 12, v_i (0), 0, 0, 0, [])), (12, (.ireturn, 13, v_i 0, 0, 0, 0, []))]
def L_Ta_atEnd : List (Nat × List Nat) := []
def D_Ta_atEnd : c_M0 := (T_Ta_atEnd, L_Ta_atEnd, 2, 9, ⟨R_Ta, "atEnd", "()Z"⟩, prog_11_method_9_code, 1, some .boolean)
set_option maxRecDepth 100000 in
theorem k_Ta_atEnd : ∀ q ∈ T_Ta_atEnd, ck_e 9 prog_11_method_9_code q = true := by decide +kernel
def T_Ta_rewind : List (Nat × c_E) := [(0, (.aload_n 0, 1, v_i 0, 0, 0, 0, [])), (1, (.iconst (0), 2, v_i (0), 0, 0, 0, [])), (2, (.putfield 25, 5, v_i 0, 4, 9, 0, [])), (5, (.aload_n 0, 6, v_i 0, 0, 0, 0, [])), (6, (.invokevirtual 28, 9, v_r 1, 221, 0, 9, [])), (9, (.return_, 10, v_i 0, 0, 0, 0, []))]
def L_Ta_rewind : List (Nat × List Nat) := []
def D_Ta_rewind : c_M0 := (T_Ta_rewind, L_Ta_rewind, 0, 9, ⟨R_Ta, "rewind", "()V"⟩, prog_11_method_10_code, 1, none)
set_option maxRecDepth 100000 in
theorem k_Ta_rewind : ∀ q ∈ T_Ta_rewind, ck_e 9 prog_11_method_10_code q = true := by decide +kernel
def T_Ta_advance : List (Nat × c_E) := [(0, (.aload_n 0, 1, v_i 0, 0, 0, 0, [])), (1, (.getfield 25, 4, v_i 0, 4, 9, 0, [])), (4, (.istore_n 1, 5, v_i 0, 0, 0, 0, [])), (5, (.iload_n 1, 6, v_i 0, 0, 0, 0, [])), (6, (.aload_n 0, 7, v_i 0, 0, 0, 0, [])), (7, (.getfield 15, 10, v_i 0, 1, 9, 0, [])), (10, (.if_icmp .ge (20), 13, v_i 0, 30, 0, 0, [])), (13, (.aload_n 0, 14, v_i 0, 0, 0, 0, [])), (14, (.iload_n 1, 15, v_i 0, 0, 0, 0, [])), (15, (.invokevirtual 31, 18, v_r 2, 215, 1, 9, [])), (18, (.invokestatic 35, 21, v_r 1, 224, 1, 0, [])), (21, (.ifCond .eq (9), 24, v_i 0, 30, 0, 0, [])), (24, (.iinc 1 (1), 27, v_i (1), 0, 0, 0, [])), (27, (.goto (-22), 30, v_i 0, 5, 0, 0, [])), (30, (.aload_n 0, 31, v_i 0, 0, 0, 0, [])), (31, (.iload_n 1, 32, v_i 0, 0, 0, 0, [])), (32, (.putfield 22, 35, v_i 0, 3, 9, 0, [])), (35, (.iload_n 1, 36, v_i 0, 0, 0, 0, [])), (36, (.aload_n 0, 37, v_i 0, 0, 0, 0, [])), (37, (.getfield 15, 40, v_i 0, 1, 9, 0, [])), (40, (.if_icmp .lt (16), 43, v_i 0, 56, 0, 0, [])), (43, (.aload_n 0, 44, v_i 0, 0, 0, 0, [])), (44, (.iconst (0), 45, v_i (0), 0, 0, 0, [])), (45, (.putfield 19, 48, v_i 0, 2, 9, 0, [])), (48, (.aload_n 0, 49, v_i 0, 0, 0, 0, [])), (49, (.iload_n 1, 50, v_i 0, 0, 0, 0, [])), (50, (.putfield 25, 53, v_i 0, 4, 9, 0, [])), (53, (.goto (52), 56, v_i 0, 105, 0, 0, [])), (56, (.aload_n 0, 57, v_i 0, 0, 0, 0, [])), (57, (.iload_n 1, 58, v_i 0, 0, 0, 0, [])), (58, (.invokevirtual 31, 61, v_r 2, 215, 1, 9, [])), (61, (.invokestatic 39, 64, v_r 1, 16, 1, 0, [])), (64, (.ifCond .eq (10), 67, v_i 0, 74, 0, 0, [])), (67, (.aload_n 0, 68, v_i 0, 0, 0, 0, [])), (68, (.invokevirtual 44, 71, v_r 1, 222, 0, 9, [])), (71, (.goto (34), 74, v_i 0, 105, 0, 0, [])), (74, (.aload_n 0, 75, v_i 0, 0, 0, 0, [])), (75, (.aload_n 0, 76, v_i 0, 0, 0, 0, [])), (76, (.iload_n 1, 77, v_i 0, 0, 0, 0, [])), (77, (.invokevirtual 31, 80, v_r 2, 215, 1, 9, [])), (80, (.invokestatic 47, 83, v_r 1, 225, 1, 0, [])), (83, (.ifCond .eq (11), 86, v_i 0, 94, 0, 0, [])), (86, (.aload_n 0, 87, v_i 0, 0, 0, 0, [])), (87, (.iload_n 1, 88, v_i 0, 0, 0, 0, [])), (88, (.invokevirtual 31, 91, v_r 2, 215, 1, 9, [])), (91, (.goto (4), 94, v_i 0, 95, 0, 0, [])), (94, (.iconst (3), 95, v_i (3), 0, 0, 0, [])), (95, (.putfield 19, 98, v_i 0, 2, 9, 0, [])), (98, (.aload_n 0, 99, v_i 0, 0, 0, 0, [])), (99, (.iload_n 1, 100, v_i 0, 0, 0, 0, [])), (100, (.iconst (1), 101, v_i (1), 0, 0, 0, [])), (101, (.iadd, 102, v_i 0, 0, 0, 0, [])), (102, (.putfield 25, 105, v_i 0, 4, 9, 0, [])), (105, (.return_, 106, v_i 0, 0, 0, 0, []))]
def L_Ta_advance : List (Nat × List Nat) := [(5, [0, 1]), (30, [0, 1])]
def D_Ta_advance : c_M0 := (T_Ta_advance, L_Ta_advance, 0, 9, ⟨R_Ta, "advance", "()V"⟩, prog_11_method_11_code, 2, none)
set_option maxRecDepth 100000 in
theorem k_Ta_advance : ∀ q ∈ T_Ta_advance, ck_e 9 prog_11_method_11_code q = true := by decide +kernel
def T_Ta_readWord : List (Nat × c_E) := [(0, (.aload_n 0, 1, v_i 0, 0, 0, 0, [])), (1, (.getfield 22, 4, v_i 0, 3, 9, 0, [])), (4, (.istore_n 1, 5, v_i 0, 0, 0, 0, [])), (5, (.iload_n 1, 6, v_i 0, 0, 0, 0, [])), (6, (.aload_n 0, 7, v_i 0, 0, 0, 0, [])), (7, (.getfield 15, 10, v_i 0, 1, 9, 0, [])), (10, (.if_icmp .ge (31), 13, v_i 0, 41, 0, 0, [])), (13, (.aload_n 0, 14, v_i 0, 0, 0, 0, [])), (14, (.iload_n 1, 15, v_i 0, 0, 0, 0, [])), (15, (.invokevirtual 31, 18, v_r 2, 215, 1, 9, [])), (18, (.invokestatic 39, 21, v_r 1, 16, 1, 0, [])), (21, (.ifCond .ne (14), 24, v_i 0, 35, 0, 0, [])), (24, (.aload_n 0, 25, v_i 0, 0, 0, 0, [])), (25, (.iload_n 1, 26, v_i 0, 0, 0, 0, [])), (26, (.invokevirtual 31, 29, v_r 2, 215, 1, 9, [])), (29, (.invokestatic 50, 32, v_r 1, 17, 1, 0, [])), (32, (.ifCond .eq (9), 35, v_i 0, 41, 0, 0, [])), (35, (.iinc 1 (1), 38, v_i (1), 0, 0, 0, [])), (38, (.goto (-33), 41, v_i 0, 5, 0, 0, [])), (41, (.aload_n 0, 42, v_i 0, 0, 0, 0, [])), (42, (.iload_n 1, 43, v_i 0, 0, 0, 0, [])), (43, (.putfield 25, 46, v_i 0, 4, 9, 0, [])), (46, (.iload_n 1, 47, v_i 0, 0, 0, 0, [])), (47, (.aload_n 0, 48, v_i 0, 0, 0, 0, [])), (48, (.getfield 22, 51, v_i 0, 3, 9, 0, [])), (51, (.iconst (4), 52, v_i (4), 0, 0, 0, [])), (52, (.iadd, 53, v_i 0, 0, 0, 0, [])), (53, (.if_icmp .ne (65), 56, v_i 0, 118, 0, 0, [])), (56, (.aload_n 0, 57, v_i 0, 0, 0, 0, [])), (57, (.aload_n 0, 58, v_i 0, 0, 0, 0, [])), (58, (.getfield 22, 61, v_i 0, 3, 9, 0, [])), (61, (.invokevirtual 31, 64, v_r 2, 215, 1, 9, [])), (64, (.bipush (116), 66, v_i (116), 0, 0, 0, [])), (66, (.if_icmp .ne (52), 69, v_i 0, 118, 0, 0, [])), (69, (.aload_n 0, 70, v_i 0, 0, 0, 0, [])), (70, (.aload_n 0, 71, v_i 0, 0, 0, 0, [])), (71, (.getfield 22, 74, v_i 0, 3, 9, 0, [])), (74, (.iconst (1), 75, v_i (1), 0, 0, 0, [])), (75, (.iadd, 76, v_i 0, 0, 0, 0, [])), (76, (.invokevirtual 31, 79, v_r 2, 215, 1, 9, [])), (79, (.bipush (121), 81, v_i (121), 0, 0, 0, [])), (81, (.if_icmp .ne (37), 84, v_i 0, 118, 0, 0, [])), (84, (.aload_n 0, 85, v_i 0, 0, 0, 0, [])), (85, (.aload_n 0, 86, v_i 0, 0, 0, 0, [])), (86, (.getfield 22, 89, v_i 0, 3, 9, 0, [])), (89, (.iconst (2), 90, v_i (2), 0, 0, 0, [])), (90, (.iadd, 91, v_i 0, 0, 0, 0, [])), (91, (.invokevirtual 31, 94, v_r 2, 215, 1, 9, [])), (94, (.bipush (112), 96, v_i (112), 0, 0, 0, [])), (96, (.if_icmp .ne (22), 99, v_i 0, 118, 0, 0, [])), (99, (.aload_n 0, 100, v_i 0, 0, 0, 0, [])), (100, (.aload_n 0, 101, v_i 0, 0, 0, 0, [])), (101, (.getfield 22, 104, v_i 0, 3, 9, 0, [])), (104, (.iconst (3), 105, v_i (3), 0, 0, 0, [])), (105, (.iadd, 106, v_i 0, 0, 0, 0, [])), (106, (.invokevirtual 31, 109, v_r 2, 215, 1, 9, [])), (109, (.bipush (101), 111, v_i (101), 0, 0, 0, [])), (111, (.if_icmp .ne (7), 114, v_i 0, 118, 0, 0, [])), (114, (.iconst (1), 115, v_i (1), 0, 0, 0, [])), (115, (.goto (4), 118, v_i 0, 119, 0, 0, [])), (118, (.iconst (0), 119, v_i (0), 0, 0, 0, [])), (119, (.istore_n 2, 120, v_i 0, 0, 0, 0, [])), (120, (.iload_n 1, 121, v_i 0, 0, 0, 0, [])), (121, (.aload_n 0, 122, v_i 0, 0, 0, 0, [])), (122, (.getfield 22, 125, v_i 0, 3, 9, 0, [])), (125, (.isub, 126, v_i 0, 0, 0, 0, [])), (126, (.bipush (12), 128, v_i (12), 0, 0, 0, [])), (128, (.if_icmp .le (11), 131, v_i 0, 139, 0, 0, [])), (131, (.aload_n 0, 132, v_i 0, 0, 0, 0, [])), (132, (.iconst (3), 133, v_i (3), 0, 0, 0, [])), (133, (.putfield 19, 136, v_i 0, 2, 9, 0, [])), (136, (.goto (16), 139, v_i 0, 152, 0, 0, [])), (139, (.aload_n 0, 140, v_i 0, 0, 0, 0, [])), (140, (.iload_n 2, 141, v_i 0, 0, 0, 0, [])), (141, (.ifCond .eq (7), 144, v_i 0, 148, 0, 0, [])), (144, (.iconst (2), 145, v_i (2), 0, 0, 0, [])), (145, (.goto (4), 148, v_i 0, 149, 0, 0, [])), (148, (.iconst (1), 149, v_i (1), 0, 0, 0, [])), (149, (.putfield 19, 152, v_i 0, 2, 9, 0, [])), (152, (.return_, 153, v_i 0, 0, 0, 0, []))]
def L_Ta_readWord : List (Nat × List Nat) := [(5, [0, 1]), (41, [0, 1]), (119, [0, 1])]
def D_Ta_readWord : c_M0 := (T_Ta_readWord, L_Ta_readWord, 0, 9, ⟨R_Ta, "readWord", "()V"⟩, prog_11_method_12_code, 3, none)
set_option maxRecDepth 100000 in
theorem k_Ta_readWord : ∀ q ∈ T_Ta_readWord, ck_e 9 prog_11_method_12_code q = true := by decide +kernel
def T_Ta_sameSigns : List (Nat × c_E) := [(0, (.iconst (0), 1, v_i (0), 0, 0, 0, [])), (1, (.istore 4, 3, v_i 0, 0, 0, 0, [])), (3, (.iload 4, 5, v_i 0, 0, 0, 0, [])), (5, (.iload_n 3, 6, v_i 0, 0, 0, 0, [])), (6, (.if_icmp .ge (30), 9, v_i 0, 36, 0, 0, [])), (9, (.aload_n 0, 10, v_i 0, 0, 0, 0, [])), (10, (.iload_n 1, 11, v_i 0, 0, 0, 0, [])), (11, (.iload 4, 13, v_i 0, 0, 0, 0, [])), (13, (.iadd, 14, v_i 0, 0, 0, 0, [])), (14, (.invokevirtual 31, 17, v_r 2, 215, 1, 9, [])), (17, (.aload_n 0, 18, v_i 0, 0, 0, 0, [])), (18, (.iload_n 2, 19, v_i 0, 0, 0, 0, [])), (19, (.iload 4, 21, v_i 0, 0, 0, 0, [])), (21, (.iadd, 22, v_i 0, 0, 0, 0, [])), (22, (.invokevirtual 31, 25, v_r 2, 215, 1, 9, [])), (25, (.if_icmp .eq (5), 28, v_i 0, 30, 0, 0, [])), (28, (.iconst (0), 29, v_i (0), 0, 0, 0, [])), (29, (.ireturn, 30, v_i 0, 0, 0, 0, [])), (30, (.iinc 4 (1), 33, v_i (1), 0, 0, 0, [])), (33, (.goto (-30), 36, v_i 0, 3, 0, 0, [])), (36, (.iconst (1), 37, v_i (1), 0, 0, 0, [])), (37, (.ireturn, 38, v_i 0, 0, 0, 0, []))]
def L_Ta_sameSigns : List (Nat × List Nat) := [(3, [0, 1, 2, 3, 4])]
def D_Ta_sameSigns : c_M0 := (T_Ta_sameSigns, L_Ta_sameSigns, 2, 9, ⟨R_Ta, "sameSigns", "(III)Z"⟩, prog_11_method_13_code, 5, some .boolean)
set_option maxRecDepth 100000 in
theorem k_Ta_sameSigns : ∀ q ∈ T_Ta_sameSigns, ck_e 9 prog_11_method_13_code q = true := by decide +kernel
def T_Ta_isBlank : List (Nat × c_E) := [(0, (.iload_n 0, 1, v_i 0, 0, 0, 0, [])), (1, (.bipush (10), 3, v_i (10), 0, 0, 0, [])), (3, (.if_icmp .eq (9), 6, v_i 0, 12, 0, 0, [])), (6, (.iload_n 0, 7, v_i 0, 0, 0, 0, [])), (7, (.bipush (32), 9, v_i (32), 0, 0, 0, [])), (9, (.if_icmp .ne (7), 12, v_i 0, 16, 0, 0, [])), (12, (.iconst (1), 13, v_i (1), 0, 0, 0, [])), (13, (.goto (4), 16, v_i 0, 17, 0, 0, [])), (16, (.iconst (0), 17, v_i (0), 0, 0, 0, [])), (17, (.ireturn, 18, v_i 0, 0, 0, 0, []))]
def L_Ta_isBlank : List (Nat × List Nat) := []
def D_Ta_isBlank : c_M0 := (T_Ta_isBlank, L_Ta_isBlank, 2, 9, ⟨R_Ta, "isBlank", "(I)Z"⟩, prog_11_method_14_code, 1, some .boolean)
set_option maxRecDepth 100000 in
theorem k_Ta_isBlank : ∀ q ∈ T_Ta_isBlank, ck_e 9 prog_11_method_14_code q = true := by decide +kernel
def T_Ta_isMark : List (Nat × c_E) := [(0, (.iload_n 0, 1, v_i 0, 0, 0, 0, [])), (1, (.lookupswitch (101) #[(40, 99), (41, 99), (46, 99), (58, 99), (59, 99), (61, 99), (62, 99), (91, 99), (93, 99), (123, 99), (125, 99)], 100, v_i 0, 102, 0, 0, [(40, 100), (41, 100), (46, 100), (58, 100), (59, 100), (61, 100), (62, 100), (91, 100), (93, 100), (123, 100), (125, 100)])), (100, (.iconst (1), 101, v_i (1), 0, 0, 0, [])), (101, (.ireturn, 102, v_i 0, 0, 0, 0, [])), (102, (.iconst (0), 103, v_i (0), 0, 0, 0, [])), (103, (.ireturn, 104, v_i 0, 0, 0, 0, []))]
def L_Ta_isMark : List (Nat × List Nat) := []
def D_Ta_isMark : c_M0 := (T_Ta_isMark, L_Ta_isMark, 2, 9, ⟨R_Ta, "isMark", "(I)Z"⟩, prog_11_method_15_code, 1, some .boolean)
set_option maxRecDepth 100000 in
theorem k_Ta_isMark : ∀ q ∈ T_Ta_isMark, ck_e 9 prog_11_method_15_code q = true := by decide +kernel
def T_Wr_write : List (Nat × c_E) := [(0, (.aload_n 0, 1, v_i 0, 0, 0, 0, [])), (1, (.aload_n 0, 2, v_i 0, 0, 0, 0, [])), (2, (.getfield 13, 5, v_i 0, 1, 10, 0, [])), (5, (.invokevirtual 33, 8, v_r 1, 143, 1, 2, [])), (8, (.putfield 39, 11, v_i 0, 6, 10, 0, [])), (11, (.aload_n 0, 12, v_i 0, 0, 0, 0, [])), (12, (.getfield 29, 15, v_i 0, 5, 10, 0, [])), (15, (.invokevirtual 43, 18, v_r 1, 186, 0, 7, [])), (18, (.iload_n 2, 19, v_i 0, 0, 0, 0, [])), (19, (.ifCond .eq (14), 22, v_i 0, 33, 0, 0, [])), (22, (.aload_n 0, 23, v_i 0, 0, 0, 0, [])), (23, (.iload_n 1, 24, v_i 0, 0, 0, 0, [])), (24, (.iconst (0), 25, v_i (0), 0, 0, 0, [])), (25, (.iconst (1), 26, v_i (1), 0, 0, 0, [])), (26, (.iconst (0), 27, v_i (0), 0, 0, 0, [])), (27, (.invokevirtual 48, 30, v_r 5, 227, 0, 10, [])), (30, (.goto (21), 33, v_i 0, 51, 0, 0, [])), (33, (.aload_n 0, 34, v_i 0, 0, 0, 0, [])), (34, (.iload_n 1, 35, v_i 0, 0, 0, 0, [])), (35, (.iconst (0), 36, v_i (0), 0, 0, 0, [])), (36, (.aload_n 0, 37, v_i 0, 0, 0, 0, [])), (37, (.getfield 21, 40, v_i 0, 3, 10, 0, [])), (40, (.iload_n 1, 41, v_i 0, 0, 0, 0, [])), (41, (.iconst (0), 42, v_i (0), 0, 0, 0, [])), (42, (.invokevirtual 52, 45, v_r 3, 104, 1, 0, [])), (45, (.iconst (1), 46, v_i (1), 0, 0, 0, [])), (46, (.iconst (0), 47, v_i (0), 0, 0, 0, [])), (47, (.iconst (0), 48, v_i (0), 0, 0, 0, [])), (48, (.invokevirtual 58, 51, v_r 7, 229, 0, 10, [])), (51, (.aload_n 0, 52, v_i 0, 0, 0, 0, [])), (52, (.getfield 17, 55, v_i 0, 2, 10, 0, [])), (55, (.invokevirtual 62, 58, v_r 1, 164, 1, 5, [])), (58, (.ifCond .ne (10), 61, v_i 0, 68, 0, 0, [])), (61, (.aload_n 0, 62, v_i 0, 0, 0, 0, [])), (62, (.getfield 29, 65, v_i 0, 5, 10, 0, [])), (65, (.invokevirtual 67, 68, v_r 1, 188, 0, 7, [])), (68, (.return_, 69, v_i 0, 0, 0, 0, []))]
def L_Wr_write : List (Nat × List Nat) := [(51, [0])]
def D_Wr_write : c_M0 := (T_Wr_write, L_Wr_write, 0, 10, ⟨R_Wr, "write", "(IZ)V"⟩, prog_12_method_2_code, 3, none)
set_option maxRecDepth 100000 in
theorem k_Wr_write : ∀ q ∈ T_Wr_write, ck_e 10 prog_12_method_2_code q = true := by decide +kernel
def T_Wr_family : List (Nat × c_E) := [(0, (.iload_n 1, 1, v_i 0, 0, 0, 0, [])), (1, (.istore 5, 3, v_i 0, 0, 0, 0, [])), (3, (.iload_n 2, 4, v_i 0, 0, 0, 0, [])), (4, (.istore 6, 6, v_i 0, 0, 0, 0, [])), (6, (.iload_n 3, 7, v_i 0, 0, 0, 0, [])), (7, (.istore 7, 9, v_i 0, 0, 0, 0, [])), (9, (.iload 4, 11, v_i 0, 0, 0, 0, [])), (11, (.istore 8, 13, v_i 0, 0, 0, 0, [])), (13, (.iconst (0), 14, v_i (0), 0, 0, 0, [])), (14, (.istore 9, 16, v_i 0, 0, 0, 0, [])), (16, (.iload 9, 18, v_i 0, 0, 0, 0, [])), (18, (.bipush (100), 20, v_i (100), 0, 0, 0, [])), (20, (.if_icmp .gt (155), 23, v_i 0, 175, 0, 0, [])), (23, (.aload_n 0, 24, v_i 0, 0, 0, 0, [])), (24, (.getfield 17, 27, v_i 0, 2, 10, 0, [])), (27, (.iload 7, 29, v_i 0, 0, 0, 0, [])), (29, (.invokevirtual 70, 32, v_r 2, 167, 1, 5, [])), (32, (.ifCond .ne (4), 35, v_i 0, 36, 0, 0, [])), (35, (.return_, 36, v_i 0, 0, 0, 0, [])), (36, (.aload_n 0, 37, v_i 0, 0, 0, 0, [])), (37, (.getfield 25, 40, v_i 0, 4, 10, 0, [])), (40, (.iload 5, 42, v_i 0, 0, 0, 0, [])), (42, (.iload 6, 44, v_i 0, 0, 0, 0, [])), (44, (.invokevirtual 74, 47, v_r 3, 158, 0, 4, [])), (47, (.aload_n 0, 48, v_i 0, 0, 0, 0, [])), (48, (.getfield 25, 51, v_i 0, 4, 10, 0, [])), (51, (.invokevirtual 80, 54, v_r 1, 151, 1, 4, [])), (54, (.istore 5, 56, v_i 0, 0, 0, 0, [])), (56, (.aload_n 0, 57, v_i 0, 0, 0, 0, [])), (57, (.getfield 25, 60, v_i 0, 4, 10, 0, [])), (60, (.invokevirtual 83, 63, v_r 1, 152, 1, 4, [])), (63, (.istore 6, 65, v_i 0, 0, 0, 0, [])), (65, (.aload_n 0, 66, v_i 0, 0, 0, 0, [])), (66, (.getfield 7, 69, v_i 0, 0, 10, 0, [])), (69, (.iload 5, 71, v_i 0, 0, 0, 0, [])), (71, (.invokevirtual 86, 74, v_r 2, 180, 1, 6, [])), (74, (.ifCond .ne (6), 77, v_i 0, 80, 0, 0, [])), (77, (.goto (98), 80, v_i 0, 175, 0, 0, [])), (80, (.aload_n 0, 81, v_i 0, 0, 0, 0, [])), (81, (.getfield 29, 84, v_i 0, 5, 10, 0, [])), (84, (.bipush (123), 86, v_i (123), 0, 0, 0, [])), (86, (.invokevirtual 91, 89, v_r 2, 187, 0, 7, [])), (89, (.aload_n 0, 90, v_i 0, 0, 0, 0, [])), (90, (.aload_n 0, 91, v_i 0, 0, 0, 0, [])), (91, (.getfield 7, 94, v_i 0, 0, 10, 0, [])), (94, (.iload 5, 96, v_i 0, 0, 0, 0, [])), (96, (.invokevirtual 95, 99, v_r 2, 173, 1, 6, [])), (99, (.iload 6, 101, v_i 0, 0, 0, 0, [])), (101, (.iload 7, 103, v_i 0, 0, 0, 0, [])), (103, (.iconst (1), 104, v_i (1), 0, 0, 0, [])), (104, (.iadd, 105, v_i 0, 0, 0, 0, [])), (105, (.iload 8, 107, v_i 0, 0, 0, 0, [])), (107, (.invokevirtual 99, 110, v_r 5, 228, 0, 10, [])), (110, (.aload_n 0, 111, v_i 0, 0, 0, 0, [])), (111, (.getfield 29, 114, v_i 0, 5, 10, 0, [])), (114, (.bipush (125), 116, v_i (125), 0, 0, 0, [])), (116, (.invokevirtual 91, 119, v_r 2, 187, 0, 7, [])), (119, (.aload_n 0, 120, v_i 0, 0, 0, 0, [])), (120, (.getfield 21, 123, v_i 0, 3, 10, 0, [])), (123, (.iload 5, 125, v_i 0, 0, 0, 0, [])), (125, (.iload 6, 127, v_i 0, 0, 0, 0, [])), (127, (.aload_n 0, 128, v_i 0, 0, 0, 0, [])), (128, (.getfield 21, 131, v_i 0, 3, 10, 0, [])), (131, (.aload_n 0, 132, v_i 0, 0, 0, 0, [])), (132, (.getfield 7, 135, v_i 0, 0, 10, 0, [])), (135, (.iload 5, 137, v_i 0, 0, 0, 0, [])), (137, (.invokevirtual 95, 140, v_r 2, 173, 1, 6, [])), (140, (.iload 6, 142, v_i 0, 0, 0, 0, [])), (142, (.iload 8, 144, v_i 0, 0, 0, 0, [])), (144, (.invokevirtual 102, 147, v_r 4, 111, 1, 0, [])), (147, (.invokevirtual 106, 150, v_r 4, 113, 1, 0, [])), (150, (.istore 6, 152, v_i 0, 0, 0, 0, [])), (152, (.aload_n 0, 153, v_i 0, 0, 0, 0, [])), (153, (.getfield 7, 156, v_i 0, 0, 10, 0, [])), (156, (.iload 5, 158, v_i 0, 0, 0, 0, [])), (158, (.invokevirtual 109, 161, v_r 2, 174, 1, 6, [])), (161, (.istore 5, 163, v_i 0, 0, 0, 0, [])), (163, (.iinc 7 (1), 166, v_i (1), 0, 0, 0, [])), (166, (.iinc 8 (1), 169, v_i (1), 0, 0, 0, [])), (169, (.iinc 9 (1), 172, v_i (1), 0, 0, 0, [])), (172, (.goto (-156), 175, v_i 0, 16, 0, 0, [])), (175, (.aload_n 0, 176, v_i 0, 0, 0, 0, [])), (176, (.getfield 7, 179, v_i 0, 0, 10, 0, [])), (179, (.iload 5, 181, v_i 0, 0, 0, 0, [])), (181, (.invokevirtual 95, 184, v_r 2, 173, 1, 6, [])), (184, (.istore 9, 186, v_i 0, 0, 0, 0, [])), (186, (.aload_n 0, 187, v_i 0, 0, 0, 0, [])), (187, (.iload 9, 189, v_i 0, 0, 0, 0, [])), (189, (.invokevirtual 112, 192, v_r 2, 232, 0, 10, [])), (192, (.aload_n 0, 193, v_i 0, 0, 0, 0, [])), (193, (.aload_n 0, 194, v_i 0, 0, 0, 0, [])), (194, (.getfield 13, 197, v_i 0, 1, 10, 0, [])), (197, (.iload 9, 199, v_i 0, 0, 0, 0, [])), (199, (.invokevirtual 115, 202, v_r 2, 133, 1, 2, [])), (202, (.iconst (0), 203, v_i (0), 0, 0, 0, [])), (203, (.aload_n 0, 204, v_i 0, 0, 0, 0, [])), (204, (.getfield 25, 207, v_i 0, 4, 10, 0, [])), (207, (.iload 5, 209, v_i 0, 0, 0, 0, [])), (209, (.iload 6, 211, v_i 0, 0, 0, 0, [])), (211, (.iconst (0), 212, v_i (0), 0, 0, 0, [])), (212, (.invokevirtual 118, 215, v_r 4, 157, 1, 4, [])), (215, (.iload 7, 217, v_i 0, 0, 0, 0, [])), (217, (.iconst (1), 218, v_i (1), 0, 0, 0, [])), (218, (.iadd, 219, v_i 0, 0, 0, 0, [])), (219, (.iload 8, 221, v_i 0, 0, 0, 0, [])), (221, (.invokevirtual 121, 224, v_r 6, 231, 0, 10, [])), (224, (.return_, 225, v_i 0, 0, 0, 0, []))]
def L_Wr_family : List (Nat × List Nat) := [(16, [0, 5, 6, 7, 8, 9]), (175, [0, 5, 6, 7, 8])]
def D_Wr_family : c_M0 := (T_Wr_family, L_Wr_family, 0, 10, ⟨R_Wr, "family", "(IIII)V"⟩, prog_12_method_3_code, 10, none)
set_option maxRecDepth 100000 in
theorem k_Wr_family : ∀ q ∈ T_Wr_family, ck_e 10 prog_12_method_3_code q = true := by decide +kernel
def T_Wr_binding : List (Nat × c_E) := [(0, (.aload_n 0, 1, v_i 0, 0, 0, 0, [])), (1, (.getfield 21, 4, v_i 0, 3, 10, 0, [])), (4, (.invokevirtual 125, 7, v_r 1, 102, 1, 0, [])), (7, (.istore 5, 9, v_i 0, 0, 0, 0, [])), (9, (.aload_n 0, 10, v_i 0, 0, 0, 0, [])), (10, (.iload 4, 12, v_i 0, 0, 0, 0, [])), (12, (.invokevirtual 128, 15, v_r 2, 233, 0, 10, [])), (15, (.aload_n 0, 16, v_i 0, 0, 0, 0, [])), (16, (.getfield 29, 19, v_i 0, 5, 10, 0, [])), (19, (.bipush (58), 21, v_i (58), 0, 0, 0, [])), (21, (.invokevirtual 91, 24, v_r 2, 187, 0, 7, [])), (24, (.aload_n 0, 25, v_i 0, 0, 0, 0, [])), (25, (.iload_n 1, 26, v_i 0, 0, 0, 0, [])), (26, (.iload_n 2, 27, v_i 0, 0, 0, 0, [])), (27, (.iload_n 3, 28, v_i 0, 0, 0, 0, [])), (28, (.iload 4, 30, v_i 0, 0, 0, 0, [])), (30, (.invokevirtual 48, 33, v_r 5, 227, 0, 10, [])), (33, (.aload_n 0, 34, v_i 0, 0, 0, 0, [])), (34, (.getfield 21, 37, v_i 0, 3, 10, 0, [])), (37, (.iload 5, 39, v_i 0, 0, 0, 0, [])), (39, (.invokevirtual 131, 42, v_r 2, 103, 0, 0, [])), (42, (.return_, 43, v_i 0, 0, 0, 0, []))]
def L_Wr_binding : List (Nat × List Nat) := []
def D_Wr_binding : c_M0 := (T_Wr_binding, L_Wr_binding, 0, 10, ⟨R_Wr, "binding", "(IIII)V"⟩, prog_12_method_4_code, 6, none)
set_option maxRecDepth 100000 in
theorem k_Wr_binding : ∀ q ∈ T_Wr_binding, ck_e 10 prog_12_method_4_code q = true := by decide +kernel
def T_Wr_object : List (Nat × c_E) := [(0, (.iload_n 1, 1, v_i 0, 0, 0, 0, [])), (1, (.istore 7, 3, v_i 0, 0, 0, 0, [])), (3, (.iload_n 2, 4, v_i 0, 0, 0, 0, [])), (4, (.istore 8, 6, v_i 0, 0, 0, 0, [])), (6, (.iload 4, 8, v_i 0, 0, 0, 0, [])), (8, (.istore 9, 10, v_i 0, 0, 0, 0, [])), (10, (.iload 5, 12, v_i 0, 0, 0, 0, [])), (12, (.istore 10, 14, v_i 0, 0, 0, 0, [])), (14, (.iconst (0), 15, v_i (0), 0, 0, 0, [])), (15, (.istore 11, 17, v_i 0, 0, 0, 0, [])), (17, (.iconst (0), 18, v_i (0), 0, 0, 0, [])), (18, (.istore 12, 20, v_i 0, 0, 0, 0, [])), (20, (.iload 12, 22, v_i 0, 0, 0, 0, [])), (22, (.bipush (100), 24, v_i (100), 0, 0, 0, [])), (24, (.if_icmp .gt (191), 27, v_i 0, 215, 0, 0, [])), (27, (.aload_n 0, 28, v_i 0, 0, 0, 0, [])), (28, (.getfield 17, 31, v_i 0, 2, 10, 0, [])), (31, (.iload 9, 33, v_i 0, 0, 0, 0, [])), (33, (.invokevirtual 70, 36, v_r 2, 167, 1, 5, [])), (36, (.ifCond .ne (4), 39, v_i 0, 40, 0, 0, [])), (39, (.return_, 40, v_i 0, 0, 0, 0, [])), (40, (.aload_n 0, 41, v_i 0, 0, 0, 0, [])), (41, (.getfield 25, 44, v_i 0, 4, 10, 0, [])), (44, (.iload 7, 46, v_i 0, 0, 0, 0, [])), (46, (.iload 8, 48, v_i 0, 0, 0, 0, [])), (48, (.invokevirtual 74, 51, v_r 3, 158, 0, 4, [])), (51, (.aload_n 0, 52, v_i 0, 0, 0, 0, [])), (52, (.getfield 25, 55, v_i 0, 4, 10, 0, [])), (55, (.invokevirtual 80, 58, v_r 1, 151, 1, 4, [])), (58, (.istore 7, 60, v_i 0, 0, 0, 0, [])), (60, (.aload_n 0, 61, v_i 0, 0, 0, 0, [])), (61, (.getfield 25, 64, v_i 0, 4, 10, 0, [])), (64, (.invokevirtual 83, 67, v_r 1, 152, 1, 4, [])), (67, (.istore 8, 69, v_i 0, 0, 0, 0, [])), (69, (.aload_n 0, 70, v_i 0, 0, 0, 0, [])), (70, (.getfield 7, 73, v_i 0, 0, 10, 0, [])), (73, (.iload 7, 75, v_i 0, 0, 0, 0, [])), (75, (.invokevirtual 86, 78, v_r 2, 180, 1, 6, [])), (78, (.ifCond .ne (6), 81, v_i 0, 84, 0, 0, [])), (81, (.goto (134), 84, v_i 0, 215, 0, 0, [])), (84, (.iload 6, 86, v_i 0, 0, 0, 0, [])), (86, (.ifCond .eq (17), 89, v_i 0, 103, 0, 0, [])), (89, (.iload 12, 91, v_i 0, 0, 0, 0, [])), (91, (.ifCond .ne (12), 94, v_i 0, 103, 0, 0, [])), (94, (.aload_n 0, 95, v_i 0, 0, 0, 0, [])), (95, (.getfield 29, 98, v_i 0, 5, 10, 0, [])), (98, (.bipush (40), 100, v_i (40), 0, 0, 0, [])), (100, (.invokevirtual 91, 103, v_r 2, 187, 0, 7, [])), (103, (.aload_n 0, 104, v_i 0, 0, 0, 0, [])), (104, (.getfield 29, 107, v_i 0, 5, 10, 0, [])), (107, (.bipush (91), 109, v_i (91), 0, 0, 0, [])), (109, (.invokevirtual 91, 112, v_r 2, 187, 0, 7, [])), (112, (.aload_n 0, 113, v_i 0, 0, 0, 0, [])), (113, (.aload_n 0, 114, v_i 0, 0, 0, 0, [])), (114, (.getfield 7, 117, v_i 0, 0, 10, 0, [])), (117, (.iload 7, 119, v_i 0, 0, 0, 0, [])), (119, (.invokevirtual 95, 122, v_r 2, 173, 1, 6, [])), (122, (.iload 8, 124, v_i 0, 0, 0, 0, [])), (124, (.iload 9, 126, v_i 0, 0, 0, 0, [])), (126, (.iconst (1), 127, v_i (1), 0, 0, 0, [])), (127, (.iadd, 128, v_i 0, 0, 0, 0, [])), (128, (.iload 10, 130, v_i 0, 0, 0, 0, [])), (130, (.invokevirtual 99, 133, v_r 5, 228, 0, 10, [])), (133, (.aload_n 0, 134, v_i 0, 0, 0, 0, [])), (134, (.getfield 29, 137, v_i 0, 5, 10, 0, [])), (137, (.bipush (93), 139, v_i (93), 0, 0, 0, [])), (139, (.invokevirtual 91, 142, v_r 2, 187, 0, 7, [])), (142, (.aload_n 0, 143, v_i 0, 0, 0, 0, [])), (143, (.getfield 21, 146, v_i 0, 3, 10, 0, [])), (146, (.aload_n 0, 147, v_i 0, 0, 0, 0, [])), (147, (.getfield 7, 150, v_i 0, 0, 10, 0, [])), (150, (.iload 7, 152, v_i 0, 0, 0, 0, [])), (152, (.invokevirtual 95, 155, v_r 2, 173, 1, 6, [])), (155, (.iload 8, 157, v_i 0, 0, 0, 0, [])), (157, (.iload 10, 159, v_i 0, 0, 0, 0, [])), (159, (.invokevirtual 102, 162, v_r 4, 111, 1, 0, [])), (162, (.istore 13, 164, v_i 0, 0, 0, 0, [])), (164, (.aload_n 0, 165, v_i 0, 0, 0, 0, [])), (165, (.getfield 21, 168, v_i 0, 3, 10, 0, [])), (168, (.iload 11, 170, v_i 0, 0, 0, 0, [])), (170, (.iload 13, 172, v_i 0, 0, 0, 0, [])), (172, (.invokevirtual 134, 175, v_r 3, 114, 1, 0, [])), (175, (.istore 11, 177, v_i 0, 0, 0, 0, [])), (177, (.aload_n 0, 178, v_i 0, 0, 0, 0, [])), (178, (.getfield 21, 181, v_i 0, 3, 10, 0, [])), (181, (.iload 7, 183, v_i 0, 0, 0, 0, [])), (183, (.iload 8, 185, v_i 0, 0, 0, 0, [])), (185, (.iload 13, 187, v_i 0, 0, 0, 0, [])), (187, (.invokevirtual 106, 190, v_r 4, 113, 1, 0, [])), (190, (.istore 8, 192, v_i 0, 0, 0, 0, [])), (192, (.aload_n 0, 193, v_i 0, 0, 0, 0, [])), (193, (.getfield 7, 196, v_i 0, 0, 10, 0, [])), (196, (.iload 7, 198, v_i 0, 0, 0, 0, [])), (198, (.invokevirtual 109, 201, v_r 2, 174, 1, 6, [])), (201, (.istore 7, 203, v_i 0, 0, 0, 0, [])), (203, (.iinc 9 (1), 206, v_i (1), 0, 0, 0, [])), (206, (.iinc 10 (1), 209, v_i (1), 0, 0, 0, [])), (209, (.iinc 12 (1), 212, v_i (1), 0, 0, 0, [])), (212, (.goto (-192), 215, v_i 0, 20, 0, 0, [])), (215, (.aload_n 0, 216, v_i 0, 0, 0, 0, [])), (216, (.getfield 25, 219, v_i 0, 4, 10, 0, [])), (219, (.aload_n 0, 220, v_i 0, 0, 0, 0, [])), (220, (.getfield 21, 223, v_i 0, 3, 10, 0, [])), (223, (.iload_n 3, 224, v_i 0, 0, 0, 0, [])), (224, (.invokevirtual 137, 227, v_r 2, 105, 1, 0, [])), (227, (.aload_n 0, 228, v_i 0, 0, 0, 0, [])), (228, (.getfield 21, 231, v_i 0, 3, 10, 0, [])), (231, (.iload_n 3, 232, v_i 0, 0, 0, 0, [])), (232, (.invokevirtual 140, 235, v_r 2, 106, 1, 0, [])), (235, (.iload 11, 237, v_i 0, 0, 0, 0, [])), (237, (.invokevirtual 143, 240, v_r 4, 159, 1, 4, [])), (240, (.ifCond .ne (4), 243, v_i 0, 244, 0, 0, [])), (243, (.return_, 244, v_i 0, 0, 0, 0, [])), (244, (.iload 10, 246, v_i 0, 0, 0, 0, [])), (246, (.iload 5, 248, v_i 0, 0, 0, 0, [])), (248, (.if_icmp .le (7), 251, v_i 0, 255, 0, 0, [])), (251, (.iconst (1), 252, v_i (1), 0, 0, 0, [])), (252, (.goto (4), 255, v_i 0, 256, 0, 0, [])), (255, (.iconst (0), 256, v_i (0), 0, 0, 0, [])), (256, (.istore 12, 258, v_i 0, 0, 0, 0, [])), (258, (.iload 6, 260, v_i 0, 0, 0, 0, [])), (260, (.ifCond .eq (22), 263, v_i 0, 282, 0, 0, [])), (263, (.iload 12, 265, v_i 0, 0, 0, 0, [])), (265, (.ifCond .ne (13), 268, v_i 0, 278, 0, 0, [])), (268, (.aload_n 0, 269, v_i 0, 0, 0, 0, [])), (269, (.getfield 25, 272, v_i 0, 4, 10, 0, [])), (272, (.invokevirtual 147, 275, v_r 1, 154, 1, 4, [])), (275, (.ifCond .eq (7), 278, v_i 0, 282, 0, 0, [])), (278, (.iconst (1), 279, v_i (1), 0, 0, 0, [])), (279, (.goto (4), 282, v_i 0, 283, 0, 0, [])), (282, (.iconst (0), 283, v_i (0), 0, 0, 0, [])), (283, (.istore 13, 285, v_i 0, 0, 0, 0, [])), (285, (.iload 13, 287, v_i 0, 0, 0, 0, [])), (287, (.ifCond .eq (17), 290, v_i 0, 304, 0, 0, [])), (290, (.iload 12, 292, v_i 0, 0, 0, 0, [])), (292, (.ifCond .ne (12), 295, v_i 0, 304, 0, 0, [])), (295, (.aload_n 0, 296, v_i 0, 0, 0, 0, [])), (296, (.getfield 29, 299, v_i 0, 5, 10, 0, [])), (299, (.bipush (40), 301, v_i (40), 0, 0, 0, [])), (301, (.invokevirtual 91, 304, v_r 2, 187, 0, 7, [])), (304, (.aload_n 0, 305, v_i 0, 0, 0, 0, [])), (305, (.aload_n 0, 306, v_i 0, 0, 0, 0, [])), (306, (.getfield 25, 309, v_i 0, 4, 10, 0, [])), (309, (.invokevirtual 150, 312, v_r 1, 153, 1, 4, [])), (312, (.invokevirtual 153, 315, v_r 2, 230, 0, 10, [])), (315, (.aload_n 0, 316, v_i 0, 0, 0, 0, [])), (316, (.aload_n 0, 317, v_i 0, 0, 0, 0, [])), (317, (.getfield 25, 320, v_i 0, 4, 10, 0, [])), (320, (.invokevirtual 156, 323, v_r 1, 155, 1, 4, [])), (323, (.aload_n 0, 324, v_i 0, 0, 0, 0, [])), (324, (.getfield 25, 327, v_i 0, 4, 10, 0, [])), (327, (.invokevirtual 159, 330, v_r 1, 156, 1, 4, [])), (330, (.aload_n 0, 331, v_i 0, 0, 0, 0, [])), (331, (.getfield 25, 334, v_i 0, 4, 10, 0, [])), (334, (.invokevirtual 147, 337, v_r 1, 154, 1, 4, [])), (337, (.iload 9, 339, v_i 0, 0, 0, 0, [])), (339, (.iconst (1), 340, v_i (1), 0, 0, 0, [])), (340, (.iadd, 341, v_i 0, 0, 0, 0, [])), (341, (.iload 10, 343, v_i 0, 0, 0, 0, [])), (343, (.invokevirtual 121, 346, v_r 6, 231, 0, 10, [])), (346, (.iload 13, 348, v_i 0, 0, 0, 0, [])), (348, (.ifCond .eq (12), 351, v_i 0, 360, 0, 0, [])), (351, (.aload_n 0, 352, v_i 0, 0, 0, 0, [])), (352, (.getfield 29, 355, v_i 0, 5, 10, 0, [])), (355, (.bipush (41), 357, v_i (41), 0, 0, 0, [])), (357, (.invokevirtual 91, 360, v_r 2, 187, 0, 7, [])), (360, (.return_, 361, v_i 0, 0, 0, 0, []))]
def L_Wr_object : List (Nat × List Nat) := [(20, [0, 3, 5, 6, 7, 8, 9, 10, 11, 12]), (103, [0, 3, 5, 6, 7, 8, 9, 10, 11, 12]), (215, [0, 3, 5, 6, 9, 10, 11]), (256, [0, 6, 9, 10]), (283, [0, 9, 10, 12]), (304, [0, 9, 10, 13])]
def D_Wr_object : c_M0 := (T_Wr_object, L_Wr_object, 0, 10, ⟨R_Wr, "object", "(IIIIIZ)V"⟩, prog_12_method_5_code, 14, none)
set_option maxRecDepth 100000 in
theorem k_Wr_object : ∀ q ∈ T_Wr_object, ck_e 10 prog_12_method_5_code q = true := by decide +kernel
def T_Wr_putHead : List (Nat × c_E) := [(0, (.iload_n 1, 1, v_i 0, 0, 0, 0, [])), (1, (.ifCond .ge (19), 4, v_i 0, 20, 0, 0, [])), (4, (.aload_n 0, 5, v_i 0, 0, 0, 0, [])), (5, (.aload_n 0, 6, v_i 0, 0, 0, 0, [])), (6, (.getfield 21, 9, v_i 0, 3, 10, 0, [])), (9, (.iload_n 1, 10, v_i 0, 0, 0, 0, [])), (10, (.ineg, 11, v_i 0, 0, 0, 0, [])), (11, (.invokevirtual 162, 14, v_r 2, 112, 1, 0, [])), (14, (.invokevirtual 128, 17, v_r 2, 233, 0, 10, [])), (17, (.goto (8), 20, v_i 0, 25, 0, 0, [])), (20, (.aload_n 0, 21, v_i 0, 0, 0, 0, [])), (21, (.iload_n 1, 22, v_i 0, 0, 0, 0, [])), (22, (.invokevirtual 112, 25, v_r 2, 232, 0, 10, [])), (25, (.return_, 26, v_i 0, 0, 0, 0, []))]
def L_Wr_putHead : List (Nat × List Nat) := []
def D_Wr_putHead : c_M0 := (T_Wr_putHead, L_Wr_putHead, 0, 10, ⟨R_Wr, "putHead", "(I)V"⟩, prog_12_method_6_code, 2, none)
set_option maxRecDepth 100000 in
theorem k_Wr_putHead : ∀ q ∈ T_Wr_putHead, ck_e 10 prog_12_method_6_code q = true := by decide +kernel
def T_Wr_objects : List (Nat × c_E) := [(0, (.iload_n 1, 1, v_i 0, 0, 0, 0, [])), (1, (.istore 6, 3, v_i 0, 0, 0, 0, [])), (3, (.iload_n 2, 4, v_i 0, 0, 0, 0, [])), (4, (.istore 7, 6, v_i 0, 0, 0, 0, [])), (6, (.iload_n 3, 7, v_i 0, 0, 0, 0, [])), (7, (.istore 8, 9, v_i 0, 0, 0, 0, [])), (9, (.iconst (0), 10, v_i (0), 0, 0, 0, [])), (10, (.istore 9, 12, v_i 0, 0, 0, 0, [])), (12, (.iload 9, 14, v_i 0, 0, 0, 0, [])), (14, (.ldc 165, 16, v_i (32768), 0, 0, 0, [])), (16, (.if_icmp .ge (114), 19, v_i 0, 130, 0, 0, [])), (19, (.iload 8, 21, v_i 0, 0, 0, 0, [])), (21, (.ifCond .eq (109), 24, v_i 0, 130, 0, 0, [])), (24, (.aload_n 0, 25, v_i 0, 0, 0, 0, [])), (25, (.getfield 17, 28, v_i 0, 2, 10, 0, [])), (28, (.invokevirtual 62, 31, v_r 1, 164, 1, 5, [])), (31, (.ifCond .ne (99), 34, v_i 0, 130, 0, 0, [])), (34, (.aload_n 0, 35, v_i 0, 0, 0, 0, [])), (35, (.getfield 21, 38, v_i 0, 3, 10, 0, [])), (38, (.iload 8, 40, v_i 0, 0, 0, 0, [])), (40, (.invokevirtual 166, 43, v_r 2, 107, 1, 0, [])), (43, (.istore 10, 45, v_i 0, 0, 0, 0, [])), (45, (.aload_n 0, 46, v_i 0, 0, 0, 0, [])), (46, (.getfield 21, 49, v_i 0, 3, 10, 0, [])), (49, (.invokevirtual 125, 52, v_r 1, 102, 1, 0, [])), (52, (.istore 11, 54, v_i 0, 0, 0, 0, [])), (54, (.aload_n 0, 55, v_i 0, 0, 0, 0, [])), (55, (.getfield 29, 58, v_i 0, 5, 10, 0, [])), (58, (.bipush (32), 60, v_i (32), 0, 0, 0, [])), (60, (.invokevirtual 91, 63, v_r 2, 187, 0, 7, [])), (63, (.aload_n 0, 64, v_i 0, 0, 0, 0, [])), (64, (.aload_n 0, 65, v_i 0, 0, 0, 0, [])), (65, (.getfield 7, 68, v_i 0, 0, 10, 0, [])), (68, (.iload 6, 70, v_i 0, 0, 0, 0, [])), (70, (.invokevirtual 95, 73, v_r 2, 173, 1, 6, [])), (73, (.iload 7, 75, v_i 0, 0, 0, 0, [])), (75, (.iload 8, 77, v_i 0, 0, 0, 0, [])), (77, (.iload 4, 79, v_i 0, 0, 0, 0, [])), (79, (.iload 5, 81, v_i 0, 0, 0, 0, [])), (81, (.iconst (1), 82, v_i (1), 0, 0, 0, [])), (82, (.invokevirtual 58, 85, v_r 7, 229, 0, 10, [])), (85, (.aload_n 0, 86, v_i 0, 0, 0, 0, [])), (86, (.getfield 21, 89, v_i 0, 3, 10, 0, [])), (89, (.iload 11, 91, v_i 0, 0, 0, 0, [])), (91, (.invokevirtual 131, 94, v_r 2, 103, 0, 0, [])), (94, (.aload_n 0, 95, v_i 0, 0, 0, 0, [])), (95, (.getfield 21, 98, v_i 0, 3, 10, 0, [])), (98, (.iload 8, 100, v_i 0, 0, 0, 0, [])), (100, (.iload 6, 102, v_i 0, 0, 0, 0, [])), (102, (.iload 7, 104, v_i 0, 0, 0, 0, [])), (104, (.invokevirtual 169, 107, v_r 4, 110, 1, 0, [])), (107, (.istore 7, 109, v_i 0, 0, 0, 0, [])), (109, (.aload_n 0, 110, v_i 0, 0, 0, 0, [])), (110, (.getfield 7, 113, v_i 0, 0, 10, 0, [])), (113, (.iload 6, 115, v_i 0, 0, 0, 0, [])), (115, (.invokevirtual 109, 118, v_r 2, 174, 1, 6, [])), (118, (.istore 6, 120, v_i 0, 0, 0, 0, [])), (120, (.iload 10, 122, v_i 0, 0, 0, 0, [])), (122, (.istore 8, 124, v_i 0, 0, 0, 0, [])), (124, (.iinc 9 (1), 127, v_i (1), 0, 0, 0, [])), (127, (.goto (-115), 130, v_i 0, 12, 0, 0, [])), (130, (.return_, 131, v_i 0, 0, 0, 0, []))]
def L_Wr_objects : List (Nat × List Nat) := [(12, [0, 4, 5, 6, 7, 8, 9])]
def D_Wr_objects : c_M0 := (T_Wr_objects, L_Wr_objects, 0, 10, ⟨R_Wr, "objects", "(IIIII)V"⟩, prog_12_method_7_code, 12, none)
set_option maxRecDepth 100000 in
theorem k_Wr_objects : ∀ q ∈ T_Wr_objects, ck_e 10 prog_12_method_7_code q = true := by decide +kernel
def T_Wr_putName : List (Nat × c_E) := [(0, (.iconst (0), 1, v_i (0), 0, 0, 0, [])), (1, (.istore_n 2, 2, v_i 0, 0, 0, 0, [])), (2, (.iload_n 2, 3, v_i 0, 0, 0, 0, [])), (3, (.aload_n 0, 4, v_i 0, 0, 0, 0, [])), (4, (.getfield 13, 7, v_i 0, 1, 10, 0, [])), (7, (.iload_n 1, 8, v_i 0, 0, 0, 0, [])), (8, (.invokevirtual 172, 11, v_r 2, 136, 1, 2, [])), (11, (.if_icmp .ge (25), 14, v_i 0, 36, 0, 0, [])), (14, (.aload_n 0, 15, v_i 0, 0, 0, 0, [])), (15, (.getfield 29, 18, v_i 0, 5, 10, 0, [])), (18, (.aload_n 0, 19, v_i 0, 0, 0, 0, [])), (19, (.getfield 13, 22, v_i 0, 1, 10, 0, [])), (22, (.iload_n 1, 23, v_i 0, 0, 0, 0, [])), (23, (.iload_n 2, 24, v_i 0, 0, 0, 0, [])), (24, (.invokevirtual 175, 27, v_r 3, 137, 1, 2, [])), (27, (.invokevirtual 91, 30, v_r 2, 187, 0, 7, [])), (30, (.iinc 2 (1), 33, v_i (1), 0, 0, 0, [])), (33, (.goto (-31), 36, v_i 0, 2, 0, 0, [])), (36, (.return_, 37, v_i 0, 0, 0, 0, []))]
def L_Wr_putName : List (Nat × List Nat) := [(2, [0, 1, 2])]
def D_Wr_putName : c_M0 := (T_Wr_putName, L_Wr_putName, 0, 10, ⟨R_Wr, "putName", "(I)V"⟩, prog_12_method_8_code, 3, none)
set_option maxRecDepth 100000 in
theorem k_Wr_putName : ∀ q ∈ T_Wr_putName, ck_e 10 prog_12_method_8_code q = true := by decide +kernel
def T_Wr_putVariable : List (Nat × c_E) := [(0, (.iconst (0), 1, v_i (0), 0, 0, 0, [])), (1, (.istore_n 2, 2, v_i 0, 0, 0, 0, [])), (2, (.iload_n 2, 3, v_i 0, 0, 0, 0, [])), (3, (.aload_n 0, 4, v_i 0, 0, 0, 0, [])), (4, (.getfield 39, 7, v_i 0, 6, 10, 0, [])), (7, (.if_icmp .ge (18), 10, v_i 0, 25, 0, 0, [])), (10, (.aload_n 0, 11, v_i 0, 0, 0, 0, [])), (11, (.getfield 29, 14, v_i 0, 5, 10, 0, [])), (14, (.bipush (120), 16, v_i (120), 0, 0, 0, [])), (16, (.invokevirtual 91, 19, v_r 2, 187, 0, 7, [])), (19, (.iinc 2 (1), 22, v_i (1), 0, 0, 0, [])), (22, (.goto (-20), 25, v_i 0, 2, 0, 0, [])), (25, (.iload_n 1, 26, v_i 0, 0, 0, 0, [])), (26, (.bipush (10), 28, v_i (10), 0, 0, 0, [])), (28, (.if_icmp .lt (20), 31, v_i 0, 48, 0, 0, [])), (31, (.aload_n 0, 32, v_i 0, 0, 0, 0, [])), (32, (.getfield 29, 35, v_i 0, 5, 10, 0, [])), (35, (.bipush (48), 37, v_i (48), 0, 0, 0, [])), (37, (.iload_n 1, 38, v_i 0, 0, 0, 0, [])), (38, (.bipush (10), 40, v_i (10), 0, 0, 0, [])), (40, (.idiv, 41, v_i 0, 0, 0, 0, [])), (41, (.bipush (10), 43, v_i (10), 0, 0, 0, [])), (43, (.irem, 44, v_i 0, 0, 0, 0, [])), (44, (.iadd, 45, v_i 0, 0, 0, 0, [])), (45, (.invokevirtual 91, 48, v_r 2, 187, 0, 7, [])), (48, (.aload_n 0, 49, v_i 0, 0, 0, 0, [])), (49, (.getfield 29, 52, v_i 0, 5, 10, 0, [])), (52, (.bipush (48), 54, v_i (48), 0, 0, 0, [])), (54, (.iload_n 1, 55, v_i 0, 0, 0, 0, [])), (55, (.bipush (10), 57, v_i (10), 0, 0, 0, [])), (57, (.irem, 58, v_i 0, 0, 0, 0, [])), (58, (.iadd, 59, v_i 0, 0, 0, 0, [])), (59, (.invokevirtual 91, 62, v_r 2, 187, 0, 7, [])), (62, (.return_, 63, v_i 0, 0, 0, 0, []))]
def L_Wr_putVariable : List (Nat × List Nat) := [(2, [0, 1, 2]), (48, [0, 1])]
def D_Wr_putVariable : c_M0 := (T_Wr_putVariable, L_Wr_putVariable, 0, 10, ⟨R_Wr, "putVariable", "(I)V"⟩, prog_12_method_9_code, 3, none)
set_option maxRecDepth 100000 in
theorem k_Wr_putVariable : ∀ q ∈ T_Wr_putVariable, ck_e 10 prog_12_method_9_code q = true := by decide +kernel
end
section
def T_Rm_feed : List (Nat × c_E) := [(0, (.aload_n 0, 1, v_i 0, 0, 0, 0, [])), (1, (.iconst (0), 2, v_i (0), 0, 0, 0, [])), (2, (.putfield 119, 5, v_i 0, 0, 12, 0, [])), (5, (.aload_n 0, 6, v_i 0, 0, 0, 0, [])), (6, (.lload_n 1, 7, v_i 0, 0, 0, 0, [])), (7, (.invokevirtual 123, 10, v_r 2, 19, 0, 12, [])), (10, (.aload_n 0, 11, v_i 0, 0, 0, 0, [])), (11, (.lload_n 3, 12, v_i 0, 0, 0, 0, [])), (12, (.invokevirtual 123, 15, v_r 2, 19, 0, 12, [])), (15, (.aload_n 0, 16, v_i 0, 0, 0, 0, [])), (16, (.lload 5, 18, v_i 0, 0, 0, 0, [])), (18, (.invokevirtual 123, 21, v_r 2, 19, 0, 12, [])), (21, (.aload_n 0, 22, v_i 0, 0, 0, 0, [])), (22, (.getfield 127, 25, v_i 0, 2, 12, 0, [])), (25, (.ireturn, 26, v_i 0, 0, 0, 0, []))]
def L_Rm_feed : List (Nat × List Nat) := []
def D_Rm_feed : c_M0 := (T_Rm_feed, L_Rm_feed, 1, 12, ⟨R_Rm, "feed", "(JJJ)I"⟩, prog_14_method_3_code, 7, some .int)
set_option maxRecDepth 100000 in
theorem k_Rm_feed : ∀ q ∈ T_Rm_feed, ck_e 12 prog_14_method_3_code q = true := by decide +kernel
def T_Rm_lay : List (Nat × c_E) := [(0, (.bipush (56), 2, v_i (56), 0, 0, 0, [])), (2, (.istore_n 3, 3, v_i 0, 0, 0, 0, [])), (3, (.iload_n 3, 4, v_i 0, 0, 0, 0, [])), (4, (.ifCond .lt (71), 7, v_i 0, 75, 0, 0, [])), (7, (.lload_n 1, 8, v_i 0, 0, 0, 0, [])), (8, (.iload_n 3, 9, v_i 0, 0, 0, 0, [])), (9, (.lshr, 10, v_i 0, 0, 0, 0, [])), (10, (.l2i, 11, v_i 0, 0, 0, 0, [])), (11, (.sipush (255), 14, v_i (255), 0, 0, 0, [])), (14, (.iand, 15, v_i 0, 0, 0, 0, [])), (15, (.istore 4, 17, v_i 0, 0, 0, 0, [])), (17, (.iload 4, 19, v_i 0, 0, 0, 0, [])), (19, (.bipush (10), 21, v_i (10), 0, 0, 0, [])), (21, (.if_icmp .eq (17), 24, v_i 0, 38, 0, 0, [])), (24, (.iload 4, 26, v_i 0, 0, 0, 0, [])), (26, (.bipush (32), 28, v_i (32), 0, 0, 0, [])), (28, (.if_icmp .lt (41), 31, v_i 0, 69, 0, 0, [])), (31, (.iload 4, 33, v_i 0, 0, 0, 0, [])), (33, (.bipush (126), 35, v_i (126), 0, 0, 0, [])), (35, (.if_icmp .gt (34), 38, v_i 0, 69, 0, 0, [])), (38, (.aload_n 0, 39, v_i 0, 0, 0, 0, [])), (39, (.getfield 127, 42, v_i 0, 2, 12, 0, [])), (42, (.sipush (4000), 45, v_i (4000), 0, 0, 0, [])), (45, (.if_icmp .ge (24), 48, v_i 0, 69, 0, 0, [])), (48, (.aload_n 0, 49, v_i 0, 0, 0, 0, [])), (49, (.getfield 7, 52, v_i 0, 1, 12, 0, [])), (52, (.aload_n 0, 53, v_i 0, 0, 0, 0, [])), (53, (.getfield 127, 56, v_i 0, 2, 12, 0, [])), (56, (.iload 4, 58, v_i 0, 0, 0, 0, [])), (58, (.iastore, 59, v_i 0, 0, 0, 0, [])), (59, (.aload_n 0, 60, v_i 0, 0, 0, 0, [])), (60, (.dup, 61, v_i 0, 0, 0, 0, [])), (61, (.getfield 127, 64, v_i 0, 2, 12, 0, [])), (64, (.iconst (1), 65, v_i (1), 0, 0, 0, [])), (65, (.iadd, 66, v_i 0, 0, 0, 0, [])), (66, (.putfield 127, 69, v_i 0, 2, 12, 0, [])), (69, (.iinc 3 (-8), 72, v_i (-8), 0, 0, 0, [])), (72, (.goto (-69), 75, v_i 0, 3, 0, 0, [])), (75, (.return_, 76, v_i 0, 0, 0, 0, []))]
def L_Rm_lay : List (Nat × List Nat) := [(3, [0, 1, 3]), (38, [0, 1, 3, 4])]
def D_Rm_lay : c_M0 := (T_Rm_lay, L_Rm_lay, 0, 12, ⟨R_Rm, "lay", "(J)V"⟩, prog_14_method_4_code, 5, none)
set_option maxRecDepth 100000 in
theorem k_Rm_lay : ∀ q ∈ T_Rm_lay, ck_e 12 prog_14_method_4_code q = true := by decide +kernel
def T_Rm_isLetter : List (Nat × c_E) := [(0, (.iload_n 0, 1, v_i 0, 0, 0, 0, [])), (1, (.bipush (97), 3, v_i (97), 0, 0, 0, [])), (3, (.if_icmp .lt (9), 6, v_i 0, 12, 0, 0, [])), (6, (.iload_n 0, 7, v_i 0, 0, 0, 0, [])), (7, (.bipush (122), 9, v_i (122), 0, 0, 0, [])), (9, (.if_icmp .le (15), 12, v_i 0, 24, 0, 0, [])), (12, (.iload_n 0, 13, v_i 0, 0, 0, 0, [])), (13, (.bipush (65), 15, v_i (65), 0, 0, 0, [])), (15, (.if_icmp .lt (13), 18, v_i 0, 28, 0, 0, [])), (18, (.iload_n 0, 19, v_i 0, 0, 0, 0, [])), (19, (.bipush (90), 21, v_i (90), 0, 0, 0, [])), (21, (.if_icmp .gt (7), 24, v_i 0, 28, 0, 0, [])), (24, (.iconst (1), 25, v_i (1), 0, 0, 0, [])), (25, (.goto (4), 28, v_i 0, 29, 0, 0, [])), (28, (.iconst (0), 29, v_i (0), 0, 0, 0, [])), (29, (.ireturn, 30, v_i 0, 0, 0, 0, []))]
def L_Rm_isLetter : List (Nat × List Nat) := []
def D_Rm_isLetter : c_M0 := (T_Rm_isLetter, L_Rm_isLetter, 2, 12, ⟨R_Rm, "isLetter", "(I)Z"⟩, prog_14_method_5_code, 1, some .boolean)
set_option maxRecDepth 100000 in
theorem k_Rm_isLetter : ∀ q ∈ T_Rm_isLetter, ck_e 12 prog_14_method_5_code q = true := by decide +kernel
def T_Rm_isDigit : List (Nat × c_E) := [(0, (.iload_n 0, 1, v_i 0, 0, 0, 0, [])), (1, (.bipush (48), 3, v_i (48), 0, 0, 0, [])), (3, (.if_icmp .lt (13), 6, v_i 0, 16, 0, 0, [])), (6, (.iload_n 0, 7, v_i 0, 0, 0, 0, [])), (7, (.bipush (57), 9, v_i (57), 0, 0, 0, [])), (9, (.if_icmp .gt (7), 12, v_i 0, 16, 0, 0, [])), (12, (.iconst (1), 13, v_i (1), 0, 0, 0, [])), (13, (.goto (4), 16, v_i 0, 17, 0, 0, [])), (16, (.iconst (0), 17, v_i (0), 0, 0, 0, [])), (17, (.ireturn, 18, v_i 0, 0, 0, 0, []))]
def L_Rm_isDigit : List (Nat × List Nat) := []
def D_Rm_isDigit : c_M0 := (T_Rm_isDigit, L_Rm_isDigit, 2, 12, ⟨R_Rm, "isDigit", "(I)Z"⟩, prog_14_method_6_code, 1, some .boolean)
set_option maxRecDepth 100000 in
theorem k_Rm_isDigit : ∀ q ∈ T_Rm_isDigit, ck_e 12 prog_14_method_6_code q = true := by decide +kernel
def T_Rm_rank : List (Nat × c_E) := [(0, (.iload_n 0, 1, v_i 0, 0, 0, 0, [])), (1, (.bipush (97), 3, v_i (97), 0, 0, 0, [])), (3, (.if_icmp .lt (12), 6, v_i 0, 15, 0, 0, [])), (6, (.iload_n 0, 7, v_i 0, 0, 0, 0, [])), (7, (.bipush (97), 9, v_i (97), 0, 0, 0, [])), (9, (.isub, 10, v_i 0, 0, 0, 0, [])), (10, (.iconst (1), 11, v_i (1), 0, 0, 0, [])), (11, (.iadd, 12, v_i 0, 0, 0, 0, [])), (12, (.goto (26), 15, v_i 0, 38, 0, 0, [])), (15, (.iload_n 0, 16, v_i 0, 0, 0, 0, [])), (16, (.bipush (65), 18, v_i (65), 0, 0, 0, [])), (18, (.if_icmp .lt (13), 21, v_i 0, 31, 0, 0, [])), (21, (.iload_n 0, 22, v_i 0, 0, 0, 0, [])), (22, (.bipush (65), 24, v_i (65), 0, 0, 0, [])), (24, (.isub, 25, v_i 0, 0, 0, 0, [])), (25, (.bipush (27), 27, v_i (27), 0, 0, 0, [])), (27, (.iadd, 28, v_i 0, 0, 0, 0, [])), (28, (.goto (10), 31, v_i 0, 38, 0, 0, [])), (31, (.iload_n 0, 32, v_i 0, 0, 0, 0, [])), (32, (.bipush (48), 34, v_i (48), 0, 0, 0, [])), (34, (.isub, 35, v_i 0, 0, 0, 0, [])), (35, (.bipush (53), 37, v_i (53), 0, 0, 0, [])), (37, (.iadd, 38, v_i 0, 0, 0, 0, [])), (38, (.ireturn, 39, v_i 0, 0, 0, 0, []))]
def L_Rm_rank : List (Nat × List Nat) := []
def D_Rm_rank : c_M0 := (T_Rm_rank, L_Rm_rank, 1, 12, ⟨R_Rm, "rank", "(I)I"⟩, prog_14_method_7_code, 1, some .int)
set_option maxRecDepth 100000 in
theorem k_Rm_rank : ∀ q ∈ T_Rm_rank, ck_e 12 prog_14_method_7_code q = true := by decide +kernel
def T_Rm_isSignOf : List (Nat × c_E) := [(0, (.iload_n 0, 1, v_i 0, 0, 0, 0, [])), (1, (.bipush (123), 3, v_i (123), 0, 0, 0, [])), (3, (.if_icmp .eq (63), 6, v_i 0, 66, 0, 0, [])), (6, (.iload_n 0, 7, v_i 0, 0, 0, 0, [])), (7, (.bipush (125), 9, v_i (125), 0, 0, 0, [])), (9, (.if_icmp .eq (57), 12, v_i 0, 66, 0, 0, [])), (12, (.iload_n 0, 13, v_i 0, 0, 0, 0, [])), (13, (.bipush (91), 15, v_i (91), 0, 0, 0, [])), (15, (.if_icmp .eq (51), 18, v_i 0, 66, 0, 0, [])), (18, (.iload_n 0, 19, v_i 0, 0, 0, 0, [])), (19, (.bipush (93), 21, v_i (93), 0, 0, 0, [])), (21, (.if_icmp .eq (45), 24, v_i 0, 66, 0, 0, [])), (24, (.iload_n 0, 25, v_i 0, 0, 0, 0, [])), (25, (.bipush (40), 27, v_i (40), 0, 0, 0, [])), (27, (.if_icmp .eq (39), 30, v_i 0, 66, 0, 0, [])), (30, (.iload_n 0, 31, v_i 0, 0, 0, 0, [])), (31, (.bipush (41), 33, v_i (41), 0, 0, 0, [])), (33, (.if_icmp .eq (33), 36, v_i 0, 66, 0, 0, [])), (36, (.iload_n 0, 37, v_i 0, 0, 0, 0, [])), (37, (.bipush (58), 39, v_i (58), 0, 0, 0, [])), (39, (.if_icmp .eq (27), 42, v_i 0, 66, 0, 0, [])), (42, (.iload_n 0, 43, v_i 0, 0, 0, 0, [])), (43, (.bipush (46), 45, v_i (46), 0, 0, 0, [])), (45, (.if_icmp .eq (21), 48, v_i 0, 66, 0, 0, [])), (48, (.iload_n 0, 49, v_i 0, 0, 0, 0, [])), (49, (.bipush (61), 51, v_i (61), 0, 0, 0, [])), (51, (.if_icmp .eq (15), 54, v_i 0, 66, 0, 0, [])), (54, (.iload_n 0, 55, v_i 0, 0, 0, 0, [])), (55, (.bipush (59), 57, v_i (59), 0, 0, 0, [])), (57, (.if_icmp .eq (9), 60, v_i 0, 66, 0, 0, [])), (60, (.iload_n 0, 61, v_i 0, 0, 0, 0, [])), (61, (.bipush (62), 63, v_i (62), 0, 0, 0, [])), (63, (.if_icmp .ne (7), 66, v_i 0, 70, 0, 0, [])), (66, (.iconst (1), 67, v_i (1), 0, 0, 0, [])), (67, (.goto (4), 70, v_i 0, 71, 0, 0, [])), (70, (.iconst (0), 71, v_i (0), 0, 0, 0, [])), (71, (.ireturn, 72, v_i 0, 0, 0, 0, []))]
def L_Rm_isSignOf : List (Nat × List Nat) := []
def D_Rm_isSignOf : c_M0 := (T_Rm_isSignOf, L_Rm_isSignOf, 2, 12, ⟨R_Rm, "isSignOf", "(I)Z"⟩, prog_14_method_8_code, 1, some .boolean)
set_option maxRecDepth 100000 in
theorem k_Rm_isSignOf : ∀ q ∈ T_Rm_isSignOf, ck_e 12 prog_14_method_8_code q = true := by decide +kernel
def T_Rm_cutAll : List (Nat × c_E) := [(0, (.aload_n 0, 1, v_i 0, 0, 0, 0, [])), (1, (.aload_n 0, 2, v_i 0, 0, 0, 0, [])), (2, (.getfield 127, 5, v_i 0, 2, 12, 0, [])), (5, (.putfield 130, 8, v_i 0, 3, 12, 0, [])), (8, (.aload_n 0, 9, v_i 0, 0, 0, 0, [])), (9, (.iconst (0), 10, v_i (0), 0, 0, 0, [])), (10, (.putfield 127, 13, v_i 0, 2, 12, 0, [])), (13, (.iconst (0), 14, v_i (0), 0, 0, 0, [])), (14, (.istore_n 1, 15, v_i 0, 0, 0, 0, [])), (15, (.iconst (0), 16, v_i (0), 0, 0, 0, [])), (16, (.istore_n 2, 17, v_i 0, 0, 0, 0, [])), (17, (.iload_n 2, 18, v_i 0, 0, 0, 0, [])), (18, (.aload_n 0, 19, v_i 0, 0, 0, 0, [])), (19, (.getfield 130, 22, v_i 0, 3, 12, 0, [])), (22, (.if_icmp .ge (249), 25, v_i 0, 271, 0, 0, [])), (25, (.aload_n 0, 26, v_i 0, 0, 0, 0, [])), (26, (.getfield 7, 29, v_i 0, 1, 12, 0, [])), (29, (.iload_n 2, 30, v_i 0, 0, 0, 0, [])), (30, (.iaload, 31, v_i 0, 0, 0, 0, [])), (31, (.istore_n 3, 32, v_i 0, 0, 0, 0, [])), (32, (.iload_n 3, 33, v_i 0, 0, 0, 0, [])), (33, (.bipush (10), 35, v_i (10), 0, 0, 0, [])), (35, (.if_icmp .eq (9), 38, v_i 0, 44, 0, 0, [])), (38, (.iload_n 3, 39, v_i 0, 0, 0, 0, [])), (39, (.bipush (32), 41, v_i (32), 0, 0, 0, [])), (41, (.if_icmp .ne (9), 44, v_i 0, 50, 0, 0, [])), (44, (.iinc 2 (1), 47, v_i (1), 0, 0, 0, [])), (47, (.goto (-30), 50, v_i 0, 17, 0, 0, [])), (50, (.iload_n 2, 51, v_i 0, 0, 0, 0, [])), (51, (.istore 4, 53, v_i 0, 0, 0, 0, [])), (53, (.aload_n 0, 54, v_i 0, 0, 0, 0, [])), (54, (.getfield 16, 57, v_i 0, 5, 12, 0, [])), (57, (.iload_n 1, 58, v_i 0, 0, 0, 0, [])), (58, (.iload_n 2, 59, v_i 0, 0, 0, 0, [])), (59, (.iastore, 60, v_i 0, 0, 0, 0, [])), (60, (.aload_n 0, 61, v_i 0, 0, 0, 0, [])), (61, (.getfield 23, 64, v_i 0, 7, 12, 0, [])), (64, (.iload_n 1, 65, v_i 0, 0, 0, 0, [])), (65, (.lconst 0, 66, v_l 0, 0, 0, 0, [])), (66, (.lastore, 67, v_i 0, 0, 0, 0, [])), (67, (.iload_n 3, 68, v_i 0, 0, 0, 0, [])), (68, (.invokestatic 133, 71, v_r 1, 20, 1, 0, [])), (71, (.ifCond .eq (165), 74, v_i 0, 236, 0, 0, [])), (74, (.lconst 0, 75, v_l 0, 0, 0, 0, [])), (75, (.lstore 5, 77, v_i 0, 0, 0, 0, [])), (77, (.iload_n 2, 78, v_i 0, 0, 0, 0, [])), (78, (.aload_n 0, 79, v_i 0, 0, 0, 0, [])), (79, (.getfield 130, 82, v_i 0, 3, 12, 0, [])), (82, (.if_icmp .ge (66), 85, v_i 0, 148, 0, 0, [])), (85, (.aload_n 0, 86, v_i 0, 0, 0, 0, [])), (86, (.getfield 7, 89, v_i 0, 1, 12, 0, [])), (89, (.iload_n 2, 90, v_i 0, 0, 0, 0, [])), (90, (.iaload, 91, v_i 0, 0, 0, 0, [])), (91, (.invokestatic 133, 94, v_r 1, 20, 1, 0, [])), (94, (.ifCond .ne (15), 97, v_i 0, 109, 0, 0, [])), (97, (.aload_n 0, 98, v_i 0, 0, 0, 0, [])), (98, (.getfield 7, 101, v_i 0, 1, 12, 0, [])), (101, (.iload_n 2, 102, v_i 0, 0, 0, 0, [])), (102, (.iaload, 103, v_i 0, 0, 0, 0, [])), (103, (.invokestatic 137, 106, v_r 1, 21, 1, 0, [])), (106, (.ifCond .eq (42), 109, v_i 0, 148, 0, 0, [])), (109, (.iload_n 2, 110, v_i 0, 0, 0, 0, [])), (110, (.iload 4, 112, v_i 0, 0, 0, 0, [])), (112, (.isub, 113, v_i 0, 0, 0, 0, [])), (113, (.bipush (9), 115, v_i (9), 0, 0, 0, [])), (115, (.if_icmp .ge (23), 118, v_i 0, 138, 0, 0, [])), (118, (.ldc2_w 140, 121, v_l (64), 0, 0, 0, [])), (121, (.lload 5, 123, v_i 0, 0, 0, 0, [])), (123, (.lmul, 124, v_i 0, 0, 0, 0, [])), (124, (.aload_n 0, 125, v_i 0, 0, 0, 0, [])), (125, (.getfield 7, 128, v_i 0, 1, 12, 0, [])), (128, (.iload_n 2, 129, v_i 0, 0, 0, 0, [])), (129, (.iaload, 130, v_i 0, 0, 0, 0, [])), (130, (.invokestatic 142, 133, v_r 1, 22, 1, 0, [])), (133, (.i2l, 134, v_i 0, 0, 0, 0, [])), (134, (.ladd, 135, v_i 0, 0, 0, 0, [])), (135, (.goto (5), 138, v_i 0, 140, 0, 0, [])), (138, (.lload 5, 140, v_i 0, 0, 0, 0, [])), (140, (.lstore 5, 142, v_i 0, 0, 0, 0, [])), (142, (.iinc 2 (1), 145, v_i (1), 0, 0, 0, [])), (145, (.goto (-68), 148, v_i 0, 77, 0, 0, [])), (148, (.iload 4, 150, v_i 0, 0, 0, 0, [])), (150, (.bipush (9), 152, v_i (9), 0, 0, 0, [])), (152, (.iadd, 153, v_i 0, 0, 0, 0, [])), (153, (.istore 7, 155, v_i 0, 0, 0, 0, [])), (155, (.iload 7, 157, v_i 0, 0, 0, 0, [])), (157, (.iload_n 2, 158, v_i 0, 0, 0, 0, [])), (158, (.if_icmp .ge (47), 161, v_i 0, 205, 0, 0, [])), (161, (.iload 7, 163, v_i 0, 0, 0, 0, [])), (163, (.iload 4, 165, v_i 0, 0, 0, 0, [])), (165, (.bipush (12), 167, v_i (12), 0, 0, 0, [])), (167, (.iadd, 168, v_i 0, 0, 0, 0, [])), (168, (.if_icmp .ge (37), 171, v_i 0, 205, 0, 0, [])), (171, (.aload_n 0, 172, v_i 0, 0, 0, 0, [])), (172, (.getfield 23, 175, v_i 0, 7, 12, 0, [])), (175, (.iload_n 1, 176, v_i 0, 0, 0, 0, [])), (176, (.ldc2_w 140, 179, v_l (64), 0, 0, 0, [])), (179, (.aload_n 0, 180, v_i 0, 0, 0, 0, [])), (180, (.getfield 23, 183, v_i 0, 7, 12, 0, [])), (183, (.iload_n 1, 184, v_i 0, 0, 0, 0, [])), (184, (.laload, 185, v_i 0, 0, 0, 0, [])), (185, (.lmul, 186, v_i 0, 0, 0, 0, [])), (186, (.aload_n 0, 187, v_i 0, 0, 0, 0, [])), (187, (.getfield 7, 190, v_i 0, 1, 12, 0, [])), (190, (.iload 7, 192, v_i 0, 0, 0, 0, [])), (192, (.iaload, 193, v_i 0, 0, 0, 0, [])), (193, (.invokestatic 142, 196, v_r 1, 22, 1, 0, [])), (196, (.i2l, 197, v_i 0, 0, 0, 0, [])), (197, (.ladd, 198, v_i 0, 0, 0, 0, [])), (198, (.lastore, 199, v_i 0, 0, 0, 0, [])), (199, (.iinc 7 (1), 202, v_i (1), 0, 0, 0, [])), (202, (.goto (-47), 205, v_i 0, 155, 0, 0, [])), (205, (.aload_n 0, 206, v_i 0, 0, 0, 0, [])), (206, (.getfield 19, 209, v_i 0, 6, 12, 0, [])), (209, (.iload_n 1, 210, v_i 0, 0, 0, 0, [])), (210, (.lload 5, 212, v_i 0, 0, 0, 0, [])), (212, (.lastore, 213, v_i 0, 0, 0, 0, [])), (213, (.aload_n 0, 214, v_i 0, 0, 0, 0, [])), (214, (.getfield 13, 217, v_i 0, 4, 12, 0, [])), (217, (.iload_n 1, 218, v_i 0, 0, 0, 0, [])), (218, (.iload_n 2, 219, v_i 0, 0, 0, 0, [])), (219, (.iload 4, 221, v_i 0, 0, 0, 0, [])), (221, (.isub, 222, v_i 0, 0, 0, 0, [])), (222, (.bipush (12), 224, v_i (12), 0, 0, 0, [])), (224, (.if_icmp .le (7), 227, v_i 0, 231, 0, 0, [])), (227, (.iconst (4), 228, v_i (4), 0, 0, 0, [])), (228, (.goto (4), 231, v_i 0, 232, 0, 0, [])), (231, (.iconst (1), 232, v_i (1), 0, 0, 0, [])), (232, (.iastore, 233, v_i 0, 0, 0, 0, [])), (233, (.goto (32), 236, v_i 0, 265, 0, 0, [])), (236, (.aload_n 0, 237, v_i 0, 0, 0, 0, [])), (237, (.getfield 13, 240, v_i 0, 4, 12, 0, [])), (240, (.iload_n 1, 241, v_i 0, 0, 0, 0, [])), (241, (.iload_n 3, 242, v_i 0, 0, 0, 0, [])), (242, (.invokestatic 146, 245, v_r 1, 23, 1, 0, [])), (245, (.ifCond .eq (7), 248, v_i 0, 252, 0, 0, [])), (248, (.iconst (3), 249, v_i (3), 0, 0, 0, [])), (249, (.goto (4), 252, v_i 0, 253, 0, 0, [])), (252, (.iconst (4), 253, v_i (4), 0, 0, 0, [])), (253, (.iastore, 254, v_i 0, 0, 0, 0, [])), (254, (.aload_n 0, 255, v_i 0, 0, 0, 0, [])), (255, (.getfield 19, 258, v_i 0, 6, 12, 0, [])), (258, (.iload_n 1, 259, v_i 0, 0, 0, 0, [])), (259, (.iload_n 3, 260, v_i 0, 0, 0, 0, [])), (260, (.i2l, 261, v_i 0, 0, 0, 0, [])), (261, (.lastore, 262, v_i 0, 0, 0, 0, [])), (262, (.iinc 2 (1), 265, v_i (1), 0, 0, 0, [])), (265, (.iinc 1 (1), 268, v_i (1), 0, 0, 0, [])), (268, (.goto (-251), 271, v_i 0, 17, 0, 0, [])), (271, (.aload_n 0, 272, v_i 0, 0, 0, 0, [])), (272, (.getfield 13, 275, v_i 0, 4, 12, 0, [])), (275, (.iload_n 1, 276, v_i 0, 0, 0, 0, [])), (276, (.iconst (0), 277, v_i (0), 0, 0, 0, [])), (277, (.iastore, 278, v_i 0, 0, 0, 0, [])), (278, (.aload_n 0, 279, v_i 0, 0, 0, 0, [])), (279, (.getfield 16, 282, v_i 0, 5, 12, 0, [])), (282, (.iload_n 1, 283, v_i 0, 0, 0, 0, [])), (283, (.aload_n 0, 284, v_i 0, 0, 0, 0, [])), (284, (.getfield 130, 287, v_i 0, 3, 12, 0, [])), (287, (.iastore, 288, v_i 0, 0, 0, 0, [])), (288, (.aload_n 0, 289, v_i 0, 0, 0, 0, [])), (289, (.iconst (0), 290, v_i (0), 0, 0, 0, [])), (290, (.putfield 149, 293, v_i 0, 8, 12, 0, [])), (293, (.aload_n 0, 294, v_i 0, 0, 0, 0, [])), (294, (.iconst (0), 295, v_i (0), 0, 0, 0, [])), (295, (.putfield 152, 298, v_i 0, 9, 12, 0, [])), (298, (.return_, 299, v_i 0, 0, 0, 0, []))]
def L_Rm_cutAll : List (Nat × List Nat) := [(17, [0, 1, 2]), (77, [0, 1, 2, 4, 5]), (109, [0, 1, 2, 4, 5]), (155, [0, 1, 2, 4, 5, 7]), (205, [0, 1, 2, 4, 5])]
def D_Rm_cutAll : c_M0 := (T_Rm_cutAll, L_Rm_cutAll, 0, 12, ⟨R_Rm, "cutAll", "()V"⟩, prog_14_method_9_code, 8, none)
set_option maxRecDepth 100000 in
theorem k_Rm_cutAll : ∀ q ∈ T_Rm_cutAll, ck_e 12 prog_14_method_9_code q = true := by decide +kernel
def T_Rm_wrong : List (Nat × c_E) := [(0, (.aload_n 0, 1, v_i 0, 0, 0, 0, [])), (1, (.getfield 152, 4, v_i 0, 9, 12, 0, [])), (4, (.ifCond .ne (18), 7, v_i 0, 22, 0, 0, [])), (7, (.aload_n 0, 8, v_i 0, 0, 0, 0, [])), (8, (.iload_n 1, 9, v_i 0, 0, 0, 0, [])), (9, (.bipush (16), 11, v_i (16), 0, 0, 0, [])), (11, (.aload_n 0, 12, v_i 0, 0, 0, 0, [])), (12, (.getfield 16, 15, v_i 0, 5, 12, 0, [])), (15, (.iload_n 2, 16, v_i 0, 0, 0, 0, [])), (16, (.iaload, 17, v_i 0, 0, 0, 0, [])), (17, (.imul, 18, v_i 0, 0, 0, 0, [])), (18, (.iadd, 19, v_i 0, 0, 0, 0, [])), (19, (.putfield 152, 22, v_i 0, 9, 12, 0, [])), (22, (.return_, 23, v_i 0, 0, 0, 0, []))]
def L_Rm_wrong : List (Nat × List Nat) := []
def D_Rm_wrong : c_M0 := (T_Rm_wrong, L_Rm_wrong, 0, 12, ⟨R_Rm, "wrong", "(II)V"⟩, prog_14_method_10_code, 3, none)
set_option maxRecDepth 100000 in
theorem k_Rm_wrong : ∀ q ∈ T_Rm_wrong, ck_e 12 prog_14_method_10_code q = true := by decide +kernel
def T_Rm_isSign : List (Nat × c_E) := [(0, (.aload_n 0, 1, v_i 0, 0, 0, 0, [])), (1, (.getfield 152, 4, v_i 0, 9, 12, 0, [])), (4, (.ifCond .ne (35), 7, v_i 0, 39, 0, 0, [])), (7, (.aload_n 0, 8, v_i 0, 0, 0, 0, [])), (8, (.getfield 13, 11, v_i 0, 4, 12, 0, [])), (11, (.aload_n 0, 12, v_i 0, 0, 0, 0, [])), (12, (.getfield 149, 15, v_i 0, 8, 12, 0, [])), (15, (.iaload, 16, v_i 0, 0, 0, 0, [])), (16, (.iconst (3), 17, v_i (3), 0, 0, 0, [])), (17, (.if_icmp .ne (22), 20, v_i 0, 39, 0, 0, [])), (20, (.aload_n 0, 21, v_i 0, 0, 0, 0, [])), (21, (.getfield 19, 24, v_i 0, 6, 12, 0, [])), (24, (.aload_n 0, 25, v_i 0, 0, 0, 0, [])), (25, (.getfield 149, 28, v_i 0, 8, 12, 0, [])), (28, (.laload, 29, v_i 0, 0, 0, 0, [])), (29, (.iload_n 1, 30, v_i 0, 0, 0, 0, [])), (30, (.i2l, 31, v_i 0, 0, 0, 0, [])), (31, (.lcmp, 32, v_i 0, 0, 0, 0, [])), (32, (.ifCond .ne (7), 35, v_i 0, 39, 0, 0, [])), (35, (.iconst (1), 36, v_i (1), 0, 0, 0, [])), (36, (.goto (4), 39, v_i 0, 40, 0, 0, [])), (39, (.iconst (0), 40, v_i (0), 0, 0, 0, [])), (40, (.ireturn, 41, v_i 0, 0, 0, 0, []))]
def L_Rm_isSign : List (Nat × List Nat) := []
def D_Rm_isSign : c_M0 := (T_Rm_isSign, L_Rm_isSign, 2, 12, ⟨R_Rm, "isSign", "(I)Z"⟩, prog_14_method_11_code, 2, some .boolean)
set_option maxRecDepth 100000 in
theorem k_Rm_isSign : ∀ q ∈ T_Rm_isSign, ck_e 12 prog_14_method_11_code q = true := by decide +kernel
def T_Rm_isType : List (Nat × c_E) := [(0, (.aload_n 0, 1, v_i 0, 0, 0, 0, [])), (1, (.getfield 152, 4, v_i 0, 9, 12, 0, [])), (4, (.ifCond .ne (50), 7, v_i 0, 54, 0, 0, [])), (7, (.aload_n 0, 8, v_i 0, 0, 0, 0, [])), (8, (.getfield 13, 11, v_i 0, 4, 12, 0, [])), (11, (.aload_n 0, 12, v_i 0, 0, 0, 0, [])), (12, (.getfield 149, 15, v_i 0, 8, 12, 0, [])), (15, (.iaload, 16, v_i 0, 0, 0, 0, [])), (16, (.iconst (1), 17, v_i (1), 0, 0, 0, [])), (17, (.if_icmp .ne (37), 20, v_i 0, 54, 0, 0, [])), (20, (.aload_n 0, 21, v_i 0, 0, 0, 0, [])), (21, (.getfield 19, 24, v_i 0, 6, 12, 0, [])), (24, (.aload_n 0, 25, v_i 0, 0, 0, 0, [])), (25, (.getfield 149, 28, v_i 0, 8, 12, 0, [])), (28, (.laload, 29, v_i 0, 0, 0, 0, [])), (29, (.ldc2_w 155, 32, v_l (5346309), 0, 0, 0, [])), (32, (.lcmp, 33, v_i 0, 0, 0, 0, [])), (33, (.ifCond .ne (21), 36, v_i 0, 54, 0, 0, [])), (36, (.aload_n 0, 37, v_i 0, 0, 0, 0, [])), (37, (.getfield 23, 40, v_i 0, 7, 12, 0, [])), (40, (.aload_n 0, 41, v_i 0, 0, 0, 0, [])), (41, (.getfield 149, 44, v_i 0, 8, 12, 0, [])), (44, (.laload, 45, v_i 0, 0, 0, 0, [])), (45, (.lconst 0, 46, v_l 0, 0, 0, 0, [])), (46, (.lcmp, 47, v_i 0, 0, 0, 0, [])), (47, (.ifCond .ne (7), 50, v_i 0, 54, 0, 0, [])), (50, (.iconst (1), 51, v_i (1), 0, 0, 0, [])), (51, (.goto (4), 54, v_i 0, 55, 0, 0, [])), (54, (.iconst (0), 55, v_i (0), 0, 0, 0, [])), (55, (.ireturn, 56, v_i 0, 0, 0, 0, []))]
def L_Rm_isType : List (Nat × List Nat) := []
def D_Rm_isType : c_M0 := (T_Rm_isType, L_Rm_isType, 2, 12, ⟨R_Rm, "isType", "()Z"⟩, prog_14_method_12_code, 1, some .boolean)
set_option maxRecDepth 100000 in
theorem k_Rm_isType : ∀ q ∈ T_Rm_isType, ck_e 12 prog_14_method_12_code q = true := by decide +kernel
def T_Rm_isName : List (Nat × c_E) := [(0, (.aload_n 0, 1, v_i 0, 0, 0, 0, [])), (1, (.getfield 152, 4, v_i 0, 9, 12, 0, [])), (4, (.ifCond .ne (50), 7, v_i 0, 54, 0, 0, [])), (7, (.aload_n 0, 8, v_i 0, 0, 0, 0, [])), (8, (.getfield 13, 11, v_i 0, 4, 12, 0, [])), (11, (.aload_n 0, 12, v_i 0, 0, 0, 0, [])), (12, (.getfield 149, 15, v_i 0, 8, 12, 0, [])), (15, (.iaload, 16, v_i 0, 0, 0, 0, [])), (16, (.iconst (1), 17, v_i (1), 0, 0, 0, [])), (17, (.if_icmp .ne (37), 20, v_i 0, 54, 0, 0, [])), (20, (.aload_n 0, 21, v_i 0, 0, 0, 0, [])), (21, (.getfield 19, 24, v_i 0, 6, 12, 0, [])), (24, (.aload_n 0, 25, v_i 0, 0, 0, 0, [])), (25, (.getfield 149, 28, v_i 0, 8, 12, 0, [])), (28, (.laload, 29, v_i 0, 0, 0, 0, [])), (29, (.ldc2_w 155, 32, v_l (5346309), 0, 0, 0, [])), (32, (.lcmp, 33, v_i 0, 0, 0, 0, [])), (33, (.ifCond .ne (17), 36, v_i 0, 50, 0, 0, [])), (36, (.aload_n 0, 37, v_i 0, 0, 0, 0, [])), (37, (.getfield 23, 40, v_i 0, 7, 12, 0, [])), (40, (.aload_n 0, 41, v_i 0, 0, 0, 0, [])), (41, (.getfield 149, 44, v_i 0, 8, 12, 0, [])), (44, (.laload, 45, v_i 0, 0, 0, 0, [])), (45, (.lconst 0, 46, v_l 0, 0, 0, 0, [])), (46, (.lcmp, 47, v_i 0, 0, 0, 0, [])), (47, (.ifCond .eq (7), 50, v_i 0, 54, 0, 0, [])), (50, (.iconst (1), 51, v_i (1), 0, 0, 0, [])), (51, (.goto (4), 54, v_i 0, 55, 0, 0, [])), (54, (.iconst (0), 55, v_i (0), 0, 0, 0, [])), (55, (.ireturn, 56, v_i 0, 0, 0, 0, []))]
def L_Rm_isName : List (Nat × List Nat) := []
def D_Rm_isName : c_M0 := (T_Rm_isName, L_Rm_isName, 2, 12, ⟨R_Rm, "isName", "()Z"⟩, prog_14_method_13_code, 1, some .boolean)
set_option maxRecDepth 100000 in
theorem k_Rm_isName : ∀ q ∈ T_Rm_isName, ck_e 12 prog_14_method_13_code q = true := by decide +kernel
def T_Rm_takeSign : List (Nat × c_E) := [(0, (.aload_n 0, 1, v_i 0, 0, 0, 0, [])), (1, (.iload_n 1, 2, v_i 0, 0, 0, 0, [])), (2, (.invokevirtual 157, 5, v_r 2, 26, 1, 12, [])), (5, (.ifCond .eq (16), 8, v_i 0, 21, 0, 0, [])), (8, (.aload_n 0, 9, v_i 0, 0, 0, 0, [])), (9, (.dup, 10, v_i 0, 0, 0, 0, [])), (10, (.getfield 149, 13, v_i 0, 8, 12, 0, [])), (13, (.iconst (1), 14, v_i (1), 0, 0, 0, [])), (14, (.iadd, 15, v_i 0, 0, 0, 0, [])), (15, (.putfield 149, 18, v_i 0, 8, 12, 0, [])), (18, (.goto (12), 21, v_i 0, 30, 0, 0, [])), (21, (.aload_n 0, 22, v_i 0, 0, 0, 0, [])), (22, (.iconst (1), 23, v_i (1), 0, 0, 0, [])), (23, (.aload_n 0, 24, v_i 0, 0, 0, 0, [])), (24, (.getfield 149, 27, v_i 0, 8, 12, 0, [])), (27, (.invokevirtual 160, 30, v_r 3, 25, 0, 12, [])), (30, (.return_, 31, v_i 0, 0, 0, 0, []))]
def L_Rm_takeSign : List (Nat × List Nat) := []
def D_Rm_takeSign : c_M0 := (T_Rm_takeSign, L_Rm_takeSign, 0, 12, ⟨R_Rm, "takeSign", "(I)V"⟩, prog_14_method_14_code, 2, none)
set_option maxRecDepth 100000 in
theorem k_Rm_takeSign : ∀ q ∈ T_Rm_takeSign, ck_e 12 prog_14_method_14_code q = true := by decide +kernel
def T_Rm_node : List (Nat × c_E) := [(0, (.aload_n 0, 1, v_i 0, 0, 0, 0, [])), (1, (.getfield 164, 4, v_i 0, 16, 12, 0, [])), (4, (.istore 6, 6, v_i 0, 0, 0, 0, [])), (6, (.aload_n 0, 7, v_i 0, 0, 0, 0, [])), (7, (.getfield 27, 10, v_i 0, 10, 12, 0, [])), (10, (.iload 6, 12, v_i 0, 0, 0, 0, [])), (12, (.iload_n 1, 13, v_i 0, 0, 0, 0, [])), (13, (.iastore, 14, v_i 0, 0, 0, 0, [])), (14, (.aload_n 0, 15, v_i 0, 0, 0, 0, [])), (15, (.getfield 30, 18, v_i 0, 11, 12, 0, [])), (18, (.iload 6, 20, v_i 0, 0, 0, 0, [])), (20, (.iload_n 2, 21, v_i 0, 0, 0, 0, [])), (21, (.iastore, 22, v_i 0, 0, 0, 0, [])), (22, (.aload_n 0, 23, v_i 0, 0, 0, 0, [])), (23, (.getfield 33, 26, v_i 0, 12, 12, 0, [])), (26, (.iload 6, 28, v_i 0, 0, 0, 0, [])), (28, (.iload_n 3, 29, v_i 0, 0, 0, 0, [])), (29, (.iastore, 30, v_i 0, 0, 0, 0, [])), (30, (.aload_n 0, 31, v_i 0, 0, 0, 0, [])), (31, (.getfield 36, 34, v_i 0, 13, 12, 0, [])), (34, (.iload 6, 36, v_i 0, 0, 0, 0, [])), (36, (.iload 4, 38, v_i 0, 0, 0, 0, [])), (38, (.iastore, 39, v_i 0, 0, 0, 0, [])), (39, (.aload_n 0, 40, v_i 0, 0, 0, 0, [])), (40, (.getfield 39, 43, v_i 0, 14, 12, 0, [])), (43, (.iload 6, 45, v_i 0, 0, 0, 0, [])), (45, (.iload 5, 47, v_i 0, 0, 0, 0, [])), (47, (.iastore, 48, v_i 0, 0, 0, 0, [])), (48, (.aload_n 0, 49, v_i 0, 0, 0, 0, [])), (49, (.getfield 42, 52, v_i 0, 15, 12, 0, [])), (52, (.iload 6, 54, v_i 0, 0, 0, 0, [])), (54, (.iconst (-1), 55, v_i (-1), 0, 0, 0, [])), (55, (.iastore, 56, v_i 0, 0, 0, 0, [])), (56, (.aload_n 0, 57, v_i 0, 0, 0, 0, [])), (57, (.dup, 58, v_i 0, 0, 0, 0, [])), (58, (.getfield 164, 61, v_i 0, 16, 12, 0, [])), (61, (.iconst (1), 62, v_i (1), 0, 0, 0, [])), (62, (.iadd, 63, v_i 0, 0, 0, 0, [])), (63, (.putfield 164, 66, v_i 0, 16, 12, 0, [])), (66, (.iload 6, 68, v_i 0, 0, 0, 0, [])), (68, (.ireturn, 69, v_i 0, 0, 0, 0, []))]
def L_Rm_node : List (Nat × List Nat) := []
def D_Rm_node : c_M0 := (T_Rm_node, L_Rm_node, 1, 12, ⟨R_Rm, "node", "(IIIII)I"⟩, prog_14_method_15_code, 7, some .int)
set_option maxRecDepth 100000 in
theorem k_Rm_node : ∀ q ∈ T_Rm_node, ck_e 12 prog_14_method_15_code q = true := by decide +kernel
def T_Rm_typeNode : List (Nat × c_E) := [(0, (.aload_n 0, 1, v_i 0, 0, 0, 0, [])), (1, (.getfield 167, 4, v_i 0, 17, 12, 0, [])), (4, (.istore 4, 6, v_i 0, 0, 0, 0, [])), (6, (.aload_n 0, 7, v_i 0, 0, 0, 0, [])), (7, (.getfield 27, 10, v_i 0, 10, 12, 0, [])), (10, (.iload 4, 12, v_i 0, 0, 0, 0, [])), (12, (.iload_n 1, 13, v_i 0, 0, 0, 0, [])), (13, (.iastore, 14, v_i 0, 0, 0, 0, [])), (14, (.aload_n 0, 15, v_i 0, 0, 0, 0, [])), (15, (.getfield 30, 18, v_i 0, 11, 12, 0, [])), (18, (.iload 4, 20, v_i 0, 0, 0, 0, [])), (20, (.iload_n 2, 21, v_i 0, 0, 0, 0, [])), (21, (.iastore, 22, v_i 0, 0, 0, 0, [])), (22, (.aload_n 0, 23, v_i 0, 0, 0, 0, [])), (23, (.getfield 33, 26, v_i 0, 12, 12, 0, [])), (26, (.iload 4, 28, v_i 0, 0, 0, 0, [])), (28, (.iload_n 3, 29, v_i 0, 0, 0, 0, [])), (29, (.iastore, 30, v_i 0, 0, 0, 0, [])), (30, (.aload_n 0, 31, v_i 0, 0, 0, 0, [])), (31, (.dup, 32, v_i 0, 0, 0, 0, [])), (32, (.getfield 167, 35, v_i 0, 17, 12, 0, [])), (35, (.iconst (1), 36, v_i (1), 0, 0, 0, [])), (36, (.iadd, 37, v_i 0, 0, 0, 0, [])), (37, (.putfield 167, 40, v_i 0, 17, 12, 0, [])), (40, (.iload 4, 42, v_i 0, 0, 0, 0, [])), (42, (.ireturn, 43, v_i 0, 0, 0, 0, []))]
def L_Rm_typeNode : List (Nat × List Nat) := []
def D_Rm_typeNode : c_M0 := (T_Rm_typeNode, L_Rm_typeNode, 1, 12, ⟨R_Rm, "typeNode", "(III)I"⟩, prog_14_method_16_code, 5, some .int)
set_option maxRecDepth 100000 in
theorem k_Rm_typeNode : ∀ q ∈ T_Rm_typeNode, ck_e 12 prog_14_method_16_code q = true := by decide +kernel
def T_Rm_within : List (Nat × c_E) := [(0, (.aload_n 0, 1, v_i 0, 0, 0, 0, [])), (1, (.getfield 152, 4, v_i 0, 9, 12, 0, [])), (4, (.ifCond .ne (21), 7, v_i 0, 25, 0, 0, [])), (7, (.aload_n 0, 8, v_i 0, 0, 0, 0, [])), (8, (.getfield 170, 11, v_i 0, 18, 12, 0, [])), (11, (.bipush (40), 13, v_i (40), 0, 0, 0, [])), (13, (.if_icmp .ne (12), 16, v_i 0, 25, 0, 0, [])), (16, (.aload_n 0, 17, v_i 0, 0, 0, 0, [])), (17, (.iconst (5), 18, v_i (5), 0, 0, 0, [])), (18, (.aload_n 0, 19, v_i 0, 0, 0, 0, [])), (19, (.getfield 149, 22, v_i 0, 8, 12, 0, [])), (22, (.invokevirtual 160, 25, v_r 3, 25, 0, 12, [])), (25, (.aload_n 0, 26, v_i 0, 0, 0, 0, [])), (26, (.dup, 27, v_i 0, 0, 0, 0, [])), (27, (.getfield 170, 30, v_i 0, 18, 12, 0, [])), (30, (.iconst (1), 31, v_i (1), 0, 0, 0, [])), (31, (.iadd, 32, v_i 0, 0, 0, 0, [])), (32, (.putfield 170, 35, v_i 0, 18, 12, 0, [])), (35, (.return_, 36, v_i 0, 0, 0, 0, []))]
def L_Rm_within : List (Nat × List Nat) := []
def D_Rm_within : c_M0 := (T_Rm_within, L_Rm_within, 0, 12, ⟨R_Rm, "within", "()V"⟩, prog_14_method_17_code, 1, none)
set_option maxRecDepth 100000 in
theorem k_Rm_within : ∀ q ∈ T_Rm_within, ck_e 12 prog_14_method_17_code q = true := by decide +kernel
def T_Rm_counts : List (Nat × c_E) := [(0, (.aload_n 0, 1, v_i 0, 0, 0, 0, [])), (1, (.getfield 152, 4, v_i 0, 9, 12, 0, [])), (4, (.ifCond .ne (22), 7, v_i 0, 26, 0, 0, [])), (7, (.aload_n 0, 8, v_i 0, 0, 0, 0, [])), (8, (.getfield 173, 11, v_i 0, 19, 12, 0, [])), (11, (.sipush (600), 14, v_i (600), 0, 0, 0, [])), (14, (.if_icmp .ne (12), 17, v_i 0, 26, 0, 0, [])), (17, (.aload_n 0, 18, v_i 0, 0, 0, 0, [])), (18, (.iconst (5), 19, v_i (5), 0, 0, 0, [])), (19, (.aload_n 0, 20, v_i 0, 0, 0, 0, [])), (20, (.getfield 149, 23, v_i 0, 8, 12, 0, [])), (23, (.invokevirtual 160, 26, v_r 3, 25, 0, 12, [])), (26, (.aload_n 0, 27, v_i 0, 0, 0, 0, [])), (27, (.dup, 28, v_i 0, 0, 0, 0, [])), (28, (.getfield 173, 31, v_i 0, 19, 12, 0, [])), (31, (.iconst (1), 32, v_i (1), 0, 0, 0, [])), (32, (.iadd, 33, v_i 0, 0, 0, 0, [])), (33, (.putfield 173, 36, v_i 0, 19, 12, 0, [])), (36, (.return_, 37, v_i 0, 0, 0, 0, []))]
def L_Rm_counts : List (Nat × List Nat) := []
def D_Rm_counts : c_M0 := (T_Rm_counts, L_Rm_counts, 0, 12, ⟨R_Rm, "counts", "()V"⟩, prog_14_method_18_code, 1, none)
set_option maxRecDepth 100000 in
theorem k_Rm_counts : ∀ q ∈ T_Rm_counts, ck_e 12 prog_14_method_18_code q = true := by decide +kernel
def T_Rm_readWhole : List (Nat × c_E) := [(0, (.aload_n 0, 1, v_i 0, 0, 0, 0, [])), (1, (.iconst (0), 2, v_i (0), 0, 0, 0, [])), (2, (.putfield 170, 5, v_i 0, 18, 12, 0, [])), (5, (.aload_n 0, 6, v_i 0, 0, 0, 0, [])), (6, (.iconst (0), 7, v_i (0), 0, 0, 0, [])), (7, (.putfield 173, 10, v_i 0, 19, 12, 0, [])), (10, (.aload_n 0, 11, v_i 0, 0, 0, 0, [])), (11, (.invokevirtual 176, 14, v_r 1, 36, 1, 12, [])), (14, (.ireturn, 15, v_i 0, 0, 0, 0, []))]
def L_Rm_readWhole : List (Nat × List Nat) := []
def D_Rm_readWhole : c_M0 := (T_Rm_readWhole, L_Rm_readWhole, 1, 12, ⟨R_Rm, "readWhole", "()I"⟩, prog_14_method_19_code, 1, some .int)
set_option maxRecDepth 100000 in
theorem k_Rm_readWhole : ∀ q ∈ T_Rm_readWhole, ck_e 12 prog_14_method_19_code q = true := by decide +kernel
def T_Rm_isP : List (Nat × c_E) := [(0, (.aload_n 0, 1, v_i 0, 0, 0, 0, [])), (1, (.getfield 152, 4, v_i 0, 9, 12, 0, [])), (4, (.ifCond .ne (29), 7, v_i 0, 33, 0, 0, [])), (7, (.aload_n 0, 8, v_i 0, 0, 0, 0, [])), (8, (.getfield 13, 11, v_i 0, 4, 12, 0, [])), (11, (.aload_n 0, 12, v_i 0, 0, 0, 0, [])), (12, (.getfield 149, 15, v_i 0, 8, 12, 0, [])), (15, (.iaload, 16, v_i 0, 0, 0, 0, [])), (16, (.iconst (1), 17, v_i (1), 0, 0, 0, [])), (17, (.if_icmp .eq (12), 20, v_i 0, 29, 0, 0, [])), (20, (.aload_n 0, 21, v_i 0, 0, 0, 0, [])), (21, (.bipush (40), 23, v_i (40), 0, 0, 0, [])), (23, (.invokevirtual 157, 26, v_r 2, 26, 1, 12, [])), (26, (.ifCond .eq (7), 29, v_i 0, 33, 0, 0, [])), (29, (.iconst (1), 30, v_i (1), 0, 0, 0, [])), (30, (.goto (4), 33, v_i 0, 34, 0, 0, [])), (33, (.iconst (0), 34, v_i (0), 0, 0, 0, [])), (34, (.ireturn, 35, v_i 0, 0, 0, 0, []))]
def L_Rm_isP : List (Nat × List Nat) := []
def D_Rm_isP : c_M0 := (T_Rm_isP, L_Rm_isP, 2, 12, ⟨R_Rm, "isP", "()Z"⟩, prog_14_method_20_code, 1, some .boolean)
set_option maxRecDepth 100000 in
theorem k_Rm_isP : ∀ q ∈ T_Rm_isP, ck_e 12 prog_14_method_20_code q = true := by decide +kernel
def T_Rm_readE : List (Nat × c_E) := [(0, (.aload_n 0, 1, v_i 0, 0, 0, 0, [])), (1, (.getfield 152, 4, v_i 0, 9, 12, 0, [])), (4, (.ifCond .le (5), 7, v_i 0, 9, 0, 0, [])), (7, (.iconst (-1), 8, v_i (-1), 0, 0, 0, [])), (8, (.ireturn, 9, v_i 0, 0, 0, 0, [])), (9, (.aload_n 0, 10, v_i 0, 0, 0, 0, [])), (10, (.invokevirtual 180, 13, v_r 1, 35, 1, 12, [])), (13, (.ifCond .ne (32), 16, v_i 0, 45, 0, 0, [])), (16, (.aload_n 0, 17, v_i 0, 0, 0, 0, [])), (17, (.bipush (123), 19, v_i (123), 0, 0, 0, [])), (19, (.invokevirtual 157, 22, v_r 2, 26, 1, 12, [])), (22, (.ifCond .ne (23), 25, v_i 0, 45, 0, 0, [])), (25, (.aload_n 0, 26, v_i 0, 0, 0, 0, [])), (26, (.bipush (91), 28, v_i (91), 0, 0, 0, [])), (28, (.invokevirtual 157, 31, v_r 2, 26, 1, 12, [])), (31, (.ifCond .ne (14), 34, v_i 0, 45, 0, 0, [])), (34, (.aload_n 0, 35, v_i 0, 0, 0, 0, [])), (35, (.iconst (1), 36, v_i (1), 0, 0, 0, [])), (36, (.aload_n 0, 37, v_i 0, 0, 0, 0, [])), (37, (.getfield 149, 40, v_i 0, 8, 12, 0, [])), (40, (.invokevirtual 160, 43, v_r 3, 25, 0, 12, [])), (43, (.iconst (-1), 44, v_i (-1), 0, 0, 0, [])), (44, (.ireturn, 45, v_i 0, 0, 0, 0, [])), (45, (.aload_n 0, 46, v_i 0, 0, 0, 0, [])), (46, (.invokevirtual 184, 49, v_r 1, 32, 0, 12, [])), (49, (.aload_n 0, 50, v_i 0, 0, 0, 0, [])), (50, (.bipush (123), 52, v_i (123), 0, 0, 0, [])), (52, (.invokevirtual 157, 55, v_r 2, 26, 1, 12, [])), (55, (.ifCond .ne (12), 58, v_i 0, 67, 0, 0, [])), (58, (.aload_n 0, 59, v_i 0, 0, 0, 0, [])), (59, (.bipush (91), 61, v_i (91), 0, 0, 0, [])), (61, (.invokevirtual 157, 64, v_r 2, 26, 1, 12, [])), (64, (.ifCond .eq (17), 67, v_i 0, 81, 0, 0, [])), (67, (.aload_n 0, 68, v_i 0, 0, 0, 0, [])), (68, (.aload_n 0, 69, v_i 0, 0, 0, 0, [])), (69, (.bipush (123), 71, v_i (123), 0, 0, 0, [])), (71, (.invokevirtual 157, 74, v_r 2, 26, 1, 12, [])), (74, (.invokevirtual 187, 77, v_r 2, 37, 1, 12, [])), (77, (.istore_n 1, 78, v_i 0, 0, 0, 0, [])), (78, (.goto (8), 81, v_i 0, 86, 0, 0, [])), (81, (.aload_n 0, 82, v_i 0, 0, 0, 0, [])), (82, (.invokevirtual 191, 85, v_r 1, 38, 1, 12, [])), (85, (.istore_n 1, 86, v_i 0, 0, 0, 0, [])), (86, (.aload_n 0, 87, v_i 0, 0, 0, 0, [])), (87, (.dup, 88, v_i 0, 0, 0, 0, [])), (88, (.getfield 170, 91, v_i 0, 18, 12, 0, [])), (91, (.iconst (1), 92, v_i (1), 0, 0, 0, [])), (92, (.isub, 93, v_i 0, 0, 0, 0, [])), (93, (.putfield 170, 96, v_i 0, 18, 12, 0, [])), (96, (.iload_n 1, 97, v_i 0, 0, 0, 0, [])), (97, (.ireturn, 98, v_i 0, 0, 0, 0, []))]
def L_Rm_readE : List (Nat × List Nat) := [(45, [0]), (67, [0])]
def D_Rm_readE : c_M0 := (T_Rm_readE, L_Rm_readE, 1, 12, ⟨R_Rm, "readE", "()I"⟩, prog_14_method_21_code, 2, some .int)
set_option maxRecDepth 100000 in
theorem k_Rm_readE : ∀ q ∈ T_Rm_readE, ck_e 12 prog_14_method_21_code q = true := by decide +kernel
def T_Rm_readBinder : List (Nat × c_E) := [(0, (.aload_n 0, 1, v_i 0, 0, 0, 0, [])), (1, (.getfield 149, 4, v_i 0, 8, 12, 0, [])), (4, (.istore_n 2, 5, v_i 0, 0, 0, 0, [])), (5, (.aload_n 0, 6, v_i 0, 0, 0, 0, [])), (6, (.invokevirtual 194, 9, v_r 1, 33, 0, 12, [])), (9, (.aload_n 0, 10, v_i 0, 0, 0, 0, [])), (10, (.getfield 152, 13, v_i 0, 9, 12, 0, [])), (13, (.ifCond .le (5), 16, v_i 0, 18, 0, 0, [])), (16, (.iconst (-1), 17, v_i (-1), 0, 0, 0, [])), (17, (.ireturn, 18, v_i 0, 0, 0, 0, [])), (18, (.aload_n 0, 19, v_i 0, 0, 0, 0, [])), (19, (.dup, 20, v_i 0, 0, 0, 0, [])), (20, (.getfield 149, 23, v_i 0, 8, 12, 0, [])), (23, (.iconst (1), 24, v_i (1), 0, 0, 0, [])), (24, (.iadd, 25, v_i 0, 0, 0, 0, [])), (25, (.putfield 149, 28, v_i 0, 8, 12, 0, [])), (28, (.aload_n 0, 29, v_i 0, 0, 0, 0, [])), (29, (.getfield 149, 32, v_i 0, 8, 12, 0, [])), (32, (.istore_n 3, 33, v_i 0, 0, 0, 0, [])), (33, (.aload_n 0, 34, v_i 0, 0, 0, 0, [])), (34, (.invokevirtual 197, 37, v_r 1, 28, 1, 12, [])), (37, (.ifCond .ne (12), 40, v_i 0, 49, 0, 0, [])), (40, (.aload_n 0, 41, v_i 0, 0, 0, 0, [])), (41, (.iconst (1), 42, v_i (1), 0, 0, 0, [])), (42, (.aload_n 0, 43, v_i 0, 0, 0, 0, [])), (43, (.getfield 149, 46, v_i 0, 8, 12, 0, [])), (46, (.invokevirtual 160, 49, v_r 3, 25, 0, 12, [])), (49, (.aload_n 0, 50, v_i 0, 0, 0, 0, [])), (50, (.dup, 51, v_i 0, 0, 0, 0, [])), (51, (.getfield 149, 54, v_i 0, 8, 12, 0, [])), (54, (.iconst (1), 55, v_i (1), 0, 0, 0, [])), (55, (.iadd, 56, v_i 0, 0, 0, 0, [])), (56, (.putfield 149, 59, v_i 0, 8, 12, 0, [])), (59, (.aload_n 0, 60, v_i 0, 0, 0, 0, [])), (60, (.bipush (58), 62, v_i (58), 0, 0, 0, [])), (62, (.invokevirtual 200, 65, v_r 2, 29, 0, 12, [])), (65, (.aload_n 0, 66, v_i 0, 0, 0, 0, [])), (66, (.invokevirtual 176, 69, v_r 1, 36, 1, 12, [])), (69, (.istore 4, 71, v_i 0, 0, 0, 0, [])), (71, (.aload_n 0, 72, v_i 0, 0, 0, 0, [])), (72, (.iload_n 1, 73, v_i 0, 0, 0, 0, [])), (73, (.ifCond .eq (8), 76, v_i 0, 81, 0, 0, [])), (76, (.bipush (125), 78, v_i (125), 0, 0, 0, [])), (78, (.goto (5), 81, v_i 0, 83, 0, 0, [])), (81, (.bipush (93), 83, v_i (93), 0, 0, 0, [])), (83, (.invokevirtual 200, 86, v_r 2, 29, 0, 12, [])), (86, (.aload_n 0, 87, v_i 0, 0, 0, 0, [])), (87, (.invokevirtual 176, 90, v_r 1, 36, 1, 12, [])), (90, (.istore 5, 92, v_i 0, 0, 0, 0, [])), (92, (.aload_n 0, 93, v_i 0, 0, 0, 0, [])), (93, (.getfield 152, 96, v_i 0, 9, 12, 0, [])), (96, (.ifCond .le (5), 99, v_i 0, 101, 0, 0, [])), (99, (.iconst (-1), 100, v_i (-1), 0, 0, 0, [])), (100, (.ireturn, 101, v_i 0, 0, 0, 0, [])), (101, (.aload_n 0, 102, v_i 0, 0, 0, 0, [])), (102, (.iload_n 1, 103, v_i 0, 0, 0, 0, [])), (103, (.ifCond .eq (7), 106, v_i 0, 110, 0, 0, [])), (106, (.iconst (5), 107, v_i (5), 0, 0, 0, [])), (107, (.goto (4), 110, v_i 0, 111, 0, 0, [])), (110, (.iconst (4), 111, v_i (4), 0, 0, 0, [])), (111, (.iload 4, 113, v_i 0, 0, 0, 0, [])), (113, (.iload 5, 115, v_i 0, 0, 0, 0, [])), (115, (.iload_n 2, 116, v_i 0, 0, 0, 0, [])), (116, (.iload_n 2, 117, v_i 0, 0, 0, 0, [])), (117, (.invokevirtual 204, 120, v_r 6, 30, 1, 12, [])), (120, (.istore 6, 122, v_i 0, 0, 0, 0, [])), (122, (.aload_n 0, 123, v_i 0, 0, 0, 0, [])), (123, (.getfield 45, 126, v_i 0, 20, 12, 0, [])), (126, (.iload 6, 128, v_i 0, 0, 0, 0, [])), (128, (.iload_n 3, 129, v_i 0, 0, 0, 0, [])), (129, (.iastore, 130, v_i 0, 0, 0, 0, [])), (130, (.iload 6, 132, v_i 0, 0, 0, 0, [])), (132, (.ireturn, 133, v_i 0, 0, 0, 0, []))]
def L_Rm_readBinder : List (Nat × List Nat) := [(49, [0, 1, 2, 3]), (83, [0, 1, 2, 3, 4]), (111, [0, 2, 3, 4, 5])]
def D_Rm_readBinder : c_M0 := (T_Rm_readBinder, L_Rm_readBinder, 1, 12, ⟨R_Rm, "readBinder", "(Z)I"⟩, prog_14_method_22_code, 7, some .int)
set_option maxRecDepth 100000 in
theorem k_Rm_readBinder : ∀ q ∈ T_Rm_readBinder, ck_e 12 prog_14_method_22_code q = true := by decide +kernel
def T_Rm_readA : List (Nat × c_E) := [(0, (.aload_n 0, 1, v_i 0, 0, 0, 0, [])), (1, (.getfield 149, 4, v_i 0, 8, 12, 0, [])), (4, (.istore_n 1, 5, v_i 0, 0, 0, 0, [])), (5, (.aload_n 0, 6, v_i 0, 0, 0, 0, [])), (6, (.invokevirtual 208, 9, v_r 1, 39, 1, 12, [])), (9, (.istore_n 2, 10, v_i 0, 0, 0, 0, [])), (10, (.aload_n 0, 11, v_i 0, 0, 0, 0, [])), (11, (.invokevirtual 180, 14, v_r 1, 35, 1, 12, [])), (14, (.ifCond .eq (36), 17, v_i 0, 50, 0, 0, [])), (17, (.aload_n 0, 18, v_i 0, 0, 0, 0, [])), (18, (.getfield 149, 21, v_i 0, 8, 12, 0, [])), (21, (.istore_n 3, 22, v_i 0, 0, 0, 0, [])), (22, (.aload_n 0, 23, v_i 0, 0, 0, 0, [])), (23, (.invokevirtual 208, 26, v_r 1, 39, 1, 12, [])), (26, (.istore 4, 28, v_i 0, 0, 0, 0, [])), (28, (.aload_n 0, 29, v_i 0, 0, 0, 0, [])), (29, (.getfield 152, 32, v_i 0, 9, 12, 0, [])), (32, (.ifCond .ne (15), 35, v_i 0, 47, 0, 0, [])), (35, (.aload_n 0, 36, v_i 0, 0, 0, 0, [])), (36, (.bipush (6), 38, v_i (6), 0, 0, 0, [])), (38, (.iload_n 2, 39, v_i 0, 0, 0, 0, [])), (39, (.iload 4, 41, v_i 0, 0, 0, 0, [])), (41, (.iload_n 1, 42, v_i 0, 0, 0, 0, [])), (42, (.iload_n 3, 43, v_i 0, 0, 0, 0, [])), (43, (.invokevirtual 204, 46, v_r 6, 30, 1, 12, [])), (46, (.istore_n 2, 47, v_i 0, 0, 0, 0, [])), (47, (.goto (-37), 50, v_i 0, 10, 0, 0, [])), (50, (.aload_n 0, 51, v_i 0, 0, 0, 0, [])), (51, (.bipush (62), 53, v_i (62), 0, 0, 0, [])), (53, (.invokevirtual 157, 56, v_r 2, 26, 1, 12, [])), (56, (.ifCond .eq (64), 59, v_i 0, 120, 0, 0, [])), (59, (.aload_n 0, 60, v_i 0, 0, 0, 0, [])), (60, (.getfield 149, 63, v_i 0, 8, 12, 0, [])), (63, (.istore_n 3, 64, v_i 0, 0, 0, 0, [])), (64, (.aload_n 0, 65, v_i 0, 0, 0, 0, [])), (65, (.invokevirtual 194, 68, v_r 1, 33, 0, 12, [])), (68, (.aload_n 0, 69, v_i 0, 0, 0, 0, [])), (69, (.getfield 152, 72, v_i 0, 9, 12, 0, [])), (72, (.ifCond .le (5), 75, v_i 0, 77, 0, 0, [])), (75, (.iconst (-1), 76, v_i (-1), 0, 0, 0, [])), (76, (.ireturn, 77, v_i 0, 0, 0, 0, [])), (77, (.aload_n 0, 78, v_i 0, 0, 0, 0, [])), (78, (.dup, 79, v_i 0, 0, 0, 0, [])), (79, (.getfield 149, 82, v_i 0, 8, 12, 0, [])), (82, (.iconst (1), 83, v_i (1), 0, 0, 0, [])), (83, (.iadd, 84, v_i 0, 0, 0, 0, [])), (84, (.putfield 149, 87, v_i 0, 8, 12, 0, [])), (87, (.aload_n 0, 88, v_i 0, 0, 0, 0, [])), (88, (.invokevirtual 176, 91, v_r 1, 36, 1, 12, [])), (91, (.istore 4, 93, v_i 0, 0, 0, 0, [])), (93, (.aload_n 0, 94, v_i 0, 0, 0, 0, [])), (94, (.getfield 152, 97, v_i 0, 9, 12, 0, [])), (97, (.ifCond .le (5), 100, v_i 0, 102, 0, 0, [])), (100, (.iconst (-1), 101, v_i (-1), 0, 0, 0, [])), (101, (.ireturn, 102, v_i 0, 0, 0, 0, [])), (102, (.aload_n 0, 103, v_i 0, 0, 0, 0, [])), (103, (.iconst (5), 104, v_i (5), 0, 0, 0, [])), (104, (.iload_n 2, 105, v_i 0, 0, 0, 0, [])), (105, (.iload 4, 107, v_i 0, 0, 0, 0, [])), (107, (.iload_n 1, 108, v_i 0, 0, 0, 0, [])), (108, (.iload_n 3, 109, v_i 0, 0, 0, 0, [])), (109, (.invokevirtual 204, 112, v_r 6, 30, 1, 12, [])), (112, (.istore_n 2, 113, v_i 0, 0, 0, 0, [])), (113, (.aload_n 0, 114, v_i 0, 0, 0, 0, [])), (114, (.getfield 45, 117, v_i 0, 20, 12, 0, [])), (117, (.iload_n 2, 118, v_i 0, 0, 0, 0, [])), (118, (.iconst (-1), 119, v_i (-1), 0, 0, 0, [])), (119, (.iastore, 120, v_i 0, 0, 0, 0, [])), (120, (.iload_n 2, 121, v_i 0, 0, 0, 0, [])), (121, (.ireturn, 122, v_i 0, 0, 0, 0, []))]
def L_Rm_readA : List (Nat × List Nat) := [(10, [0, 1, 2])]
def D_Rm_readA : c_M0 := (T_Rm_readA, L_Rm_readA, 1, 12, ⟨R_Rm, "readA", "()I"⟩, prog_14_method_23_code, 5, some .int)
set_option maxRecDepth 100000 in
theorem k_Rm_readA : ∀ q ∈ T_Rm_readA, ck_e 12 prog_14_method_23_code q = true := by decide +kernel
def T_Rm_readP : List (Nat × c_E) := [(0, (.aload_n 0, 1, v_i 0, 0, 0, 0, [])), (1, (.invokevirtual 184, 4, v_r 1, 32, 0, 12, [])), (4, (.aload_n 0, 5, v_i 0, 0, 0, 0, [])), (5, (.invokevirtual 194, 8, v_r 1, 33, 0, 12, [])), (8, (.aload_n 0, 9, v_i 0, 0, 0, 0, [])), (9, (.getfield 152, 12, v_i 0, 9, 12, 0, [])), (12, (.ifCond .le (5), 15, v_i 0, 17, 0, 0, [])), (15, (.iconst (-1), 16, v_i (-1), 0, 0, 0, [])), (16, (.ireturn, 17, v_i 0, 0, 0, 0, [])), (17, (.aload_n 0, 18, v_i 0, 0, 0, 0, [])), (18, (.bipush (40), 20, v_i (40), 0, 0, 0, [])), (20, (.invokevirtual 157, 23, v_r 2, 26, 1, 12, [])), (23, (.ifCond .eq (46), 26, v_i 0, 69, 0, 0, [])), (26, (.aload_n 0, 27, v_i 0, 0, 0, 0, [])), (27, (.getfield 149, 30, v_i 0, 8, 12, 0, [])), (30, (.istore_n 2, 31, v_i 0, 0, 0, 0, [])), (31, (.aload_n 0, 32, v_i 0, 0, 0, 0, [])), (32, (.dup, 33, v_i 0, 0, 0, 0, [])), (33, (.getfield 149, 36, v_i 0, 8, 12, 0, [])), (36, (.iconst (1), 37, v_i (1), 0, 0, 0, [])), (37, (.iadd, 38, v_i 0, 0, 0, 0, [])), (38, (.putfield 149, 41, v_i 0, 8, 12, 0, [])), (41, (.aload_n 0, 42, v_i 0, 0, 0, 0, [])), (42, (.invokevirtual 176, 45, v_r 1, 36, 1, 12, [])), (45, (.istore_n 1, 46, v_i 0, 0, 0, 0, [])), (46, (.aload_n 0, 47, v_i 0, 0, 0, 0, [])), (47, (.bipush (41), 49, v_i (41), 0, 0, 0, [])), (49, (.invokevirtual 200, 52, v_r 2, 29, 0, 12, [])), (52, (.aload_n 0, 53, v_i 0, 0, 0, 0, [])), (53, (.getfield 152, 56, v_i 0, 9, 12, 0, [])), (56, (.ifCond .ne (10), 59, v_i 0, 66, 0, 0, [])), (59, (.aload_n 0, 60, v_i 0, 0, 0, 0, [])), (60, (.getfield 42, 63, v_i 0, 15, 12, 0, [])), (63, (.iload_n 1, 64, v_i 0, 0, 0, 0, [])), (64, (.iload_n 2, 65, v_i 0, 0, 0, 0, [])), (65, (.iastore, 66, v_i 0, 0, 0, 0, [])), (66, (.goto (40), 69, v_i 0, 106, 0, 0, [])), (69, (.aload_n 0, 70, v_i 0, 0, 0, 0, [])), (70, (.aload_n 0, 71, v_i 0, 0, 0, 0, [])), (71, (.invokevirtual 211, 74, v_r 1, 27, 1, 12, [])), (74, (.ifCond .eq (7), 77, v_i 0, 81, 0, 0, [])), (77, (.iconst (1), 78, v_i (1), 0, 0, 0, [])), (78, (.goto (4), 81, v_i 0, 82, 0, 0, [])), (81, (.iconst (0), 82, v_i (0), 0, 0, 0, [])), (82, (.iconst (-1), 83, v_i (-1), 0, 0, 0, [])), (83, (.iconst (-1), 84, v_i (-1), 0, 0, 0, [])), (84, (.aload_n 0, 85, v_i 0, 0, 0, 0, [])), (85, (.getfield 149, 88, v_i 0, 8, 12, 0, [])), (88, (.aload_n 0, 89, v_i 0, 0, 0, 0, [])), (89, (.getfield 149, 92, v_i 0, 8, 12, 0, [])), (92, (.invokevirtual 204, 95, v_r 6, 30, 1, 12, [])), (95, (.istore_n 1, 96, v_i 0, 0, 0, 0, [])), (96, (.aload_n 0, 97, v_i 0, 0, 0, 0, [])), (97, (.dup, 98, v_i 0, 0, 0, 0, [])), (98, (.getfield 149, 101, v_i 0, 8, 12, 0, [])), (101, (.iconst (1), 102, v_i (1), 0, 0, 0, [])), (102, (.iadd, 103, v_i 0, 0, 0, 0, [])), (103, (.putfield 149, 106, v_i 0, 8, 12, 0, [])), (106, (.aload_n 0, 107, v_i 0, 0, 0, 0, [])), (107, (.dup, 108, v_i 0, 0, 0, 0, [])), (108, (.getfield 170, 111, v_i 0, 18, 12, 0, [])), (111, (.iconst (1), 112, v_i (1), 0, 0, 0, [])), (112, (.isub, 113, v_i 0, 0, 0, 0, [])), (113, (.putfield 170, 116, v_i 0, 18, 12, 0, [])), (116, (.iload_n 1, 117, v_i 0, 0, 0, 0, [])), (117, (.ireturn, 118, v_i 0, 0, 0, 0, []))]
def L_Rm_readP : List (Nat × List Nat) := [(82, [0])]
def D_Rm_readP : c_M0 := (T_Rm_readP, L_Rm_readP, 1, 12, ⟨R_Rm, "readP", "()I"⟩, prog_14_method_24_code, 3, some .int)
set_option maxRecDepth 100000 in
theorem k_Rm_readP : ∀ q ∈ T_Rm_readP, ck_e 12 prog_14_method_24_code q = true := by decide +kernel
def T_Rm_constantOf : List (Nat × c_E) := [(0, (.iconst (-1), 1, v_i (-1), 0, 0, 0, [])), (1, (.istore_n 2, 2, v_i 0, 0, 0, 0, [])), (2, (.iconst (0), 3, v_i (0), 0, 0, 0, [])), (3, (.istore_n 3, 4, v_i 0, 0, 0, 0, [])), (4, (.iload_n 3, 5, v_i 0, 0, 0, 0, [])), (5, (.aload_n 0, 6, v_i 0, 0, 0, 0, [])), (6, (.getfield 214, 9, v_i 0, 21, 12, 0, [])), (9, (.if_icmp .ge (47), 12, v_i 0, 56, 0, 0, [])), (12, (.aload_n 0, 13, v_i 0, 0, 0, 0, [])), (13, (.getfield 48, 16, v_i 0, 22, 12, 0, [])), (16, (.iload_n 3, 17, v_i 0, 0, 0, 0, [])), (17, (.laload, 18, v_i 0, 0, 0, 0, [])), (18, (.aload_n 0, 19, v_i 0, 0, 0, 0, [])), (19, (.getfield 19, 22, v_i 0, 6, 12, 0, [])), (22, (.iload_n 1, 23, v_i 0, 0, 0, 0, [])), (23, (.laload, 24, v_i 0, 0, 0, 0, [])), (24, (.lcmp, 25, v_i 0, 0, 0, 0, [])), (25, (.ifCond .ne (23), 28, v_i 0, 48, 0, 0, [])), (28, (.aload_n 0, 29, v_i 0, 0, 0, 0, [])), (29, (.getfield 51, 32, v_i 0, 23, 12, 0, [])), (32, (.iload_n 3, 33, v_i 0, 0, 0, 0, [])), (33, (.laload, 34, v_i 0, 0, 0, 0, [])), (34, (.aload_n 0, 35, v_i 0, 0, 0, 0, [])), (35, (.getfield 23, 38, v_i 0, 7, 12, 0, [])), (38, (.iload_n 1, 39, v_i 0, 0, 0, 0, [])), (39, (.laload, 40, v_i 0, 0, 0, 0, [])), (40, (.lcmp, 41, v_i 0, 0, 0, 0, [])), (41, (.ifCond .ne (7), 44, v_i 0, 48, 0, 0, [])), (44, (.iload_n 3, 45, v_i 0, 0, 0, 0, [])), (45, (.goto (4), 48, v_i 0, 49, 0, 0, [])), (48, (.iload_n 2, 49, v_i 0, 0, 0, 0, [])), (49, (.istore_n 2, 50, v_i 0, 0, 0, 0, [])), (50, (.iinc 3 (1), 53, v_i (1), 0, 0, 0, [])), (53, (.goto (-49), 56, v_i 0, 4, 0, 0, [])), (56, (.iload_n 2, 57, v_i 0, 0, 0, 0, [])), (57, (.ireturn, 58, v_i 0, 0, 0, 0, []))]
def L_Rm_constantOf : List (Nat × List Nat) := [(4, [0, 1, 2, 3])]
def D_Rm_constantOf : c_M0 := (T_Rm_constantOf, L_Rm_constantOf, 1, 12, ⟨R_Rm, "constantOf", "(I)I"⟩, prog_14_method_25_code, 4, some .int)
set_option maxRecDepth 100000 in
theorem k_Rm_constantOf : ∀ q ∈ T_Rm_constantOf, ck_e 12 prog_14_method_25_code q = true := by decide +kernel
def T_Rm_closure : List (Nat × c_E) := [(0, (.aload_n 0, 1, v_i 0, 0, 0, 0, [])), (1, (.getfield 68, 4, v_i 0, 28, 12, 0, [])), (4, (.aload_n 0, 5, v_i 0, 0, 0, 0, [])), (5, (.getfield 217, 8, v_i 0, 30, 12, 0, [])), (8, (.iload_n 1, 9, v_i 0, 0, 0, 0, [])), (9, (.iastore, 10, v_i 0, 0, 0, 0, [])), (10, (.aload_n 0, 11, v_i 0, 0, 0, 0, [])), (11, (.getfield 71, 14, v_i 0, 29, 12, 0, [])), (14, (.aload_n 0, 15, v_i 0, 0, 0, 0, [])), (15, (.getfield 217, 18, v_i 0, 30, 12, 0, [])), (18, (.iload_n 2, 19, v_i 0, 0, 0, 0, [])), (19, (.iastore, 20, v_i 0, 0, 0, 0, [])), (20, (.aload_n 0, 21, v_i 0, 0, 0, 0, [])), (21, (.dup, 22, v_i 0, 0, 0, 0, [])), (22, (.getfield 217, 25, v_i 0, 30, 12, 0, [])), (25, (.iconst (1), 26, v_i (1), 0, 0, 0, [])), (26, (.iadd, 27, v_i 0, 0, 0, 0, [])), (27, (.putfield 217, 30, v_i 0, 30, 12, 0, [])), (30, (.aload_n 0, 31, v_i 0, 0, 0, 0, [])), (31, (.getfield 217, 34, v_i 0, 30, 12, 0, [])), (34, (.iconst (1), 35, v_i (1), 0, 0, 0, [])), (35, (.isub, 36, v_i 0, 0, 0, 0, [])), (36, (.ireturn, 37, v_i 0, 0, 0, 0, []))]
def L_Rm_closure : List (Nat × List Nat) := []
def D_Rm_closure : c_M0 := (T_Rm_closure, L_Rm_closure, 1, 12, ⟨R_Rm, "closure", "(II)I"⟩, prog_14_method_26_code, 3, some .int)
set_option maxRecDepth 100000 in
theorem k_Rm_closure : ∀ q ∈ T_Rm_closure, ck_e 12 prog_14_method_26_code q = true := by decide +kernel
def T_Rm_list : List (Nat × c_E) := [(0, (.aload_n 0, 1, v_i 0, 0, 0, 0, [])), (1, (.getfield 74, 4, v_i 0, 31, 12, 0, [])), (4, (.aload_n 0, 5, v_i 0, 0, 0, 0, [])), (5, (.getfield 220, 8, v_i 0, 33, 12, 0, [])), (8, (.iload_n 1, 9, v_i 0, 0, 0, 0, [])), (9, (.iastore, 10, v_i 0, 0, 0, 0, [])), (10, (.aload_n 0, 11, v_i 0, 0, 0, 0, [])), (11, (.getfield 77, 14, v_i 0, 32, 12, 0, [])), (14, (.aload_n 0, 15, v_i 0, 0, 0, 0, [])), (15, (.getfield 220, 18, v_i 0, 33, 12, 0, [])), (18, (.iload_n 2, 19, v_i 0, 0, 0, 0, [])), (19, (.iastore, 20, v_i 0, 0, 0, 0, [])), (20, (.aload_n 0, 21, v_i 0, 0, 0, 0, [])), (21, (.dup, 22, v_i 0, 0, 0, 0, [])), (22, (.getfield 220, 25, v_i 0, 33, 12, 0, [])), (25, (.iconst (1), 26, v_i (1), 0, 0, 0, [])), (26, (.iadd, 27, v_i 0, 0, 0, 0, [])), (27, (.putfield 220, 30, v_i 0, 33, 12, 0, [])), (30, (.aload_n 0, 31, v_i 0, 0, 0, 0, [])), (31, (.getfield 220, 34, v_i 0, 33, 12, 0, [])), (34, (.iconst (1), 35, v_i (1), 0, 0, 0, [])), (35, (.isub, 36, v_i 0, 0, 0, 0, [])), (36, (.ireturn, 37, v_i 0, 0, 0, 0, []))]
def L_Rm_list : List (Nat × List Nat) := []
def D_Rm_list : c_M0 := (T_Rm_list, L_Rm_list, 1, 12, ⟨R_Rm, "list", "(II)I"⟩, prog_14_method_27_code, 3, some .int)
set_option maxRecDepth 100000 in
theorem k_Rm_list : ∀ q ∈ T_Rm_list, ck_e 12 prog_14_method_27_code q = true := by decide +kernel
def T_Rm_behind : List (Nat × c_E) := [(0, (.aload_n 0, 1, v_i 0, 0, 0, 0, [])), (1, (.getfield 80, 4, v_i 0, 34, 12, 0, [])), (4, (.aload_n 0, 5, v_i 0, 0, 0, 0, [])), (5, (.getfield 223, 8, v_i 0, 36, 12, 0, [])), (8, (.iload_n 1, 9, v_i 0, 0, 0, 0, [])), (9, (.iastore, 10, v_i 0, 0, 0, 0, [])), (10, (.aload_n 0, 11, v_i 0, 0, 0, 0, [])), (11, (.getfield 83, 14, v_i 0, 35, 12, 0, [])), (14, (.aload_n 0, 15, v_i 0, 0, 0, 0, [])), (15, (.getfield 223, 18, v_i 0, 36, 12, 0, [])), (18, (.iload_n 2, 19, v_i 0, 0, 0, 0, [])), (19, (.iastore, 20, v_i 0, 0, 0, 0, [])), (20, (.aload_n 0, 21, v_i 0, 0, 0, 0, [])), (21, (.dup, 22, v_i 0, 0, 0, 0, [])), (22, (.getfield 223, 25, v_i 0, 36, 12, 0, [])), (25, (.iconst (1), 26, v_i (1), 0, 0, 0, [])), (26, (.iadd, 27, v_i 0, 0, 0, 0, [])), (27, (.putfield 223, 30, v_i 0, 36, 12, 0, [])), (30, (.aload_n 0, 31, v_i 0, 0, 0, 0, [])), (31, (.getfield 223, 34, v_i 0, 36, 12, 0, [])), (34, (.iconst (1), 35, v_i (1), 0, 0, 0, [])), (35, (.isub, 36, v_i 0, 0, 0, 0, [])), (36, (.ireturn, 37, v_i 0, 0, 0, 0, []))]
def L_Rm_behind : List (Nat × List Nat) := []
def D_Rm_behind : c_M0 := (T_Rm_behind, L_Rm_behind, 1, 12, ⟨R_Rm, "behind", "(II)I"⟩, prog_14_method_28_code, 3, some .int)
set_option maxRecDepth 100000 in
theorem k_Rm_behind : ∀ q ∈ T_Rm_behind, ck_e 12 prog_14_method_28_code q = true := by decide +kernel
def T_Rm_newVar : List (Nat × c_E) := [(0, (.aload_n 0, 1, v_i 0, 0, 0, 0, [])), (1, (.getfield 86, 4, v_i 0, 37, 12, 0, [])), (4, (.aload_n 0, 5, v_i 0, 0, 0, 0, [])), (5, (.getfield 226, 8, v_i 0, 40, 12, 0, [])), (8, (.iload_n 1, 9, v_i 0, 0, 0, 0, [])), (9, (.iastore, 10, v_i 0, 0, 0, 0, [])), (10, (.aload_n 0, 11, v_i 0, 0, 0, 0, [])), (11, (.getfield 89, 14, v_i 0, 38, 12, 0, [])), (14, (.aload_n 0, 15, v_i 0, 0, 0, 0, [])), (15, (.getfield 226, 18, v_i 0, 40, 12, 0, [])), (18, (.iload_n 2, 19, v_i 0, 0, 0, 0, [])), (19, (.iastore, 20, v_i 0, 0, 0, 0, [])), (20, (.aload_n 0, 21, v_i 0, 0, 0, 0, [])), (21, (.getfield 92, 24, v_i 0, 39, 12, 0, [])), (24, (.aload_n 0, 25, v_i 0, 0, 0, 0, [])), (25, (.getfield 226, 28, v_i 0, 40, 12, 0, [])), (28, (.iload_n 3, 29, v_i 0, 0, 0, 0, [])), (29, (.iastore, 30, v_i 0, 0, 0, 0, [])), (30, (.aload_n 0, 31, v_i 0, 0, 0, 0, [])), (31, (.dup, 32, v_i 0, 0, 0, 0, [])), (32, (.getfield 226, 35, v_i 0, 40, 12, 0, [])), (35, (.iconst (1), 36, v_i (1), 0, 0, 0, [])), (36, (.iadd, 37, v_i 0, 0, 0, 0, [])), (37, (.putfield 226, 40, v_i 0, 40, 12, 0, [])), (40, (.aload_n 0, 41, v_i 0, 0, 0, 0, [])), (41, (.aload_n 0, 42, v_i 0, 0, 0, 0, [])), (42, (.getfield 226, 45, v_i 0, 40, 12, 0, [])), (45, (.ineg, 46, v_i 0, 0, 0, 0, [])), (46, (.iconst (-1), 47, v_i (-1), 0, 0, 0, [])), (47, (.invokevirtual 229, 50, v_r 3, 41, 1, 12, [])), (50, (.ireturn, 51, v_i 0, 0, 0, 0, []))]
def L_Rm_newVar : List (Nat × List Nat) := []
def D_Rm_newVar : c_M0 := (T_Rm_newVar, L_Rm_newVar, 1, 12, ⟨R_Rm, "newVar", "(III)I"⟩, prog_14_method_29_code, 4, some .int)
set_option maxRecDepth 100000 in
theorem k_Rm_newVar : ∀ q ∈ T_Rm_newVar, ck_e 12 prog_14_method_29_code q = true := by decide +kernel
def T_Rm_step : List (Nat × c_E) := [(0, (.aload_n 0, 1, v_i 0, 0, 0, 0, [])), (1, (.getfield 233, 4, v_i 0, 42, 12, 0, [])), (4, (.sipush (20000), 7, v_i (20000), 0, 0, 0, [])), (7, (.if_icmp .eq (12), 10, v_i 0, 19, 0, 0, [])), (10, (.aload_n 0, 11, v_i 0, 0, 0, 0, [])), (11, (.getfield 236, 14, v_i 0, 41, 12, 0, [])), (14, (.ldc 239, 16, v_i (60000), 0, 0, 0, [])), (16, (.if_icmp .ne (5), 19, v_i 0, 21, 0, 0, [])), (19, (.iconst (0), 20, v_i (0), 0, 0, 0, [])), (20, (.ireturn, 21, v_i 0, 0, 0, 0, [])), (21, (.aload_n 0, 22, v_i 0, 0, 0, 0, [])), (22, (.dup, 23, v_i 0, 0, 0, 0, [])), (23, (.getfield 233, 26, v_i 0, 42, 12, 0, [])), (26, (.iconst (1), 27, v_i (1), 0, 0, 0, [])), (27, (.iadd, 28, v_i 0, 0, 0, 0, [])), (28, (.putfield 233, 31, v_i 0, 42, 12, 0, [])), (31, (.aload_n 0, 32, v_i 0, 0, 0, 0, [])), (32, (.dup, 33, v_i 0, 0, 0, 0, [])), (33, (.getfield 236, 36, v_i 0, 41, 12, 0, [])), (36, (.iconst (1), 37, v_i (1), 0, 0, 0, [])), (37, (.iadd, 38, v_i 0, 0, 0, 0, [])), (38, (.putfield 236, 41, v_i 0, 41, 12, 0, [])), (41, (.iconst (1), 42, v_i (1), 0, 0, 0, [])), (42, (.ireturn, 43, v_i 0, 0, 0, 0, []))]
def L_Rm_step : List (Nat × List Nat) := []
def D_Rm_step : c_M0 := (T_Rm_step, L_Rm_step, 2, 12, ⟨R_Rm, "step", "()Z"⟩, prog_14_method_30_code, 1, some .boolean)
set_option maxRecDepth 100000 in
theorem k_Rm_step : ∀ q ∈ T_Rm_step, ck_e 12 prog_14_method_30_code q = true := by decide +kernel
def T_Rm_stepAt : List (Nat × c_E) := [(0, (.aload_n 0, 1, v_i 0, 0, 0, 0, [])), (1, (.getfield 152, 4, v_i 0, 9, 12, 0, [])), (4, (.ifCond .ne (17), 7, v_i 0, 21, 0, 0, [])), (7, (.aload_n 0, 8, v_i 0, 0, 0, 0, [])), (8, (.invokevirtual 240, 11, v_r 1, 45, 1, 12, [])), (11, (.ifCond .ne (10), 14, v_i 0, 21, 0, 0, [])), (14, (.aload_n 0, 15, v_i 0, 0, 0, 0, [])), (15, (.bipush (9), 17, v_i (9), 0, 0, 0, [])), (17, (.iload_n 1, 18, v_i 0, 0, 0, 0, [])), (18, (.invokevirtual 160, 21, v_r 3, 25, 0, 12, [])), (21, (.return_, 22, v_i 0, 0, 0, 0, []))]
def L_Rm_stepAt : List (Nat × List Nat) := []
def D_Rm_stepAt : c_M0 := (T_Rm_stepAt, L_Rm_stepAt, 0, 12, ⟨R_Rm, "stepAt", "(I)V"⟩, prog_14_method_31_code, 2, none)
set_option maxRecDepth 100000 in
theorem k_Rm_stepAt : ∀ q ∈ T_Rm_stepAt, ck_e 12 prog_14_method_31_code q = true := by decide +kernel
def T_Rm_begins : List (Nat × c_E) := [(0, (.aload_n 0, 1, v_i 0, 0, 0, 0, [])), (1, (.iconst (0), 2, v_i (0), 0, 0, 0, [])), (2, (.putfield 233, 5, v_i 0, 42, 12, 0, [])), (5, (.aload_n 0, 6, v_i 0, 0, 0, 0, [])), (6, (.iconst (0), 7, v_i (0), 0, 0, 0, [])), (7, (.putfield 217, 10, v_i 0, 30, 12, 0, [])), (10, (.aload_n 0, 11, v_i 0, 0, 0, 0, [])), (11, (.iconst (0), 12, v_i (0), 0, 0, 0, [])), (12, (.putfield 220, 15, v_i 0, 33, 12, 0, [])), (15, (.aload_n 0, 16, v_i 0, 0, 0, 0, [])), (16, (.iconst (0), 17, v_i (0), 0, 0, 0, [])), (17, (.putfield 223, 20, v_i 0, 36, 12, 0, [])), (20, (.aload_n 0, 21, v_i 0, 0, 0, 0, [])), (21, (.iconst (0), 22, v_i (0), 0, 0, 0, [])), (22, (.putfield 226, 25, v_i 0, 40, 12, 0, [])), (25, (.aload_n 0, 26, v_i 0, 0, 0, 0, [])), (26, (.iconst (-1), 27, v_i (-1), 0, 0, 0, [])), (27, (.putfield 243, 30, v_i 0, 54, 12, 0, [])), (30, (.aload_n 0, 31, v_i 0, 0, 0, 0, [])), (31, (.iconst (0), 32, v_i (0), 0, 0, 0, [])), (32, (.putfield 246, 35, v_i 0, 55, 12, 0, [])), (35, (.aload_n 0, 36, v_i 0, 0, 0, 0, [])), (36, (.ldc 249, 38, v_i (120000), 0, 0, 0, [])), (38, (.putfield 167, 41, v_i 0, 17, 12, 0, [])), (41, (.aload_n 0, 42, v_i 0, 0, 0, 0, [])), (42, (.invokevirtual 250, 45, v_r 1, 24, 0, 12, [])), (45, (.return_, 46, v_i 0, 0, 0, 0, []))]
def L_Rm_begins : List (Nat × List Nat) := []
def D_Rm_begins : c_M0 := (T_Rm_begins, L_Rm_begins, 0, 12, ⟨R_Rm, "begins", "()V"⟩, prog_14_method_32_code, 1, none)
set_option maxRecDepth 100000 in
theorem k_Rm_begins : ∀ q ∈ T_Rm_begins, ck_e 12 prog_14_method_32_code q = true := by decide +kernel
def T_Rm_shows : List (Nat × c_E) := [(0, (.iload_n 1, 1, v_i 0, 0, 0, 0, [])), (1, (.istore_n 3, 2, v_i 0, 0, 0, 0, [])), (2, (.iload_n 2, 3, v_i 0, 0, 0, 0, [])), (3, (.istore 4, 5, v_i 0, 0, 0, 0, [])), (5, (.iconst (0), 6, v_i (0), 0, 0, 0, [])), (6, (.istore 5, 8, v_i 0, 0, 0, 0, [])), (8, (.aload_n 0, 9, v_i 0, 0, 0, 0, [])), (9, (.getfield 27, 12, v_i 0, 10, 12, 0, [])), (12, (.iload_n 3, 13, v_i 0, 0, 0, 0, [])), (13, (.iaload, 14, v_i 0, 0, 0, 0, [])), (14, (.bipush (7), 16, v_i (7), 0, 0, 0, [])), (16, (.if_icmp .ne (27), 19, v_i 0, 43, 0, 0, [])), (19, (.aload_n 0, 20, v_i 0, 0, 0, 0, [])), (20, (.iload 4, 22, v_i 0, 0, 0, 0, [])), (22, (.aload_n 0, 23, v_i 0, 0, 0, 0, [])), (23, (.getfield 30, 26, v_i 0, 11, 12, 0, [])), (26, (.iload_n 3, 27, v_i 0, 0, 0, 0, [])), (27, (.iaload, 28, v_i 0, 0, 0, 0, [])), (28, (.invokevirtual 253, 31, v_r 3, 50, 1, 12, [])), (31, (.istore 4, 33, v_i 0, 0, 0, 0, [])), (33, (.aload_n 0, 34, v_i 0, 0, 0, 0, [])), (34, (.getfield 33, 37, v_i 0, 12, 12, 0, [])), (37, (.iload_n 3, 38, v_i 0, 0, 0, 0, [])), (38, (.iaload, 39, v_i 0, 0, 0, 0, [])), (39, (.istore_n 3, 40, v_i 0, 0, 0, 0, [])), (40, (.goto (-32), 43, v_i 0, 8, 0, 0, [])), (43, (.aload_n 0, 44, v_i 0, 0, 0, 0, [])), (44, (.getfield 27, 47, v_i 0, 10, 12, 0, [])), (47, (.iload_n 3, 48, v_i 0, 0, 0, 0, [])), (48, (.iaload, 49, v_i 0, 0, 0, 0, [])), (49, (.bipush (8), 51, v_i (8), 0, 0, 0, [])), (51, (.if_icmp .ne (21), 54, v_i 0, 72, 0, 0, [])), (54, (.iconst (-1), 55, v_i (-1), 0, 0, 0, [])), (55, (.istore 4, 57, v_i 0, 0, 0, 0, [])), (57, (.aload_n 0, 58, v_i 0, 0, 0, 0, [])), (58, (.getfield 58, 61, v_i 0, 25, 12, 0, [])), (61, (.aload_n 0, 62, v_i 0, 0, 0, 0, [])), (62, (.getfield 30, 65, v_i 0, 11, 12, 0, [])), (65, (.iload_n 3, 66, v_i 0, 0, 0, 0, [])), (66, (.iaload, 67, v_i 0, 0, 0, 0, [])), (67, (.iaload, 68, v_i 0, 0, 0, 0, [])), (68, (.istore_n 3, 69, v_i 0, 0, 0, 0, [])), (69, (.goto (-61), 72, v_i 0, 8, 0, 0, [])), (72, (.aload_n 0, 73, v_i 0, 0, 0, 0, [])), (73, (.getfield 27, 76, v_i 0, 10, 12, 0, [])), (76, (.iload_n 3, 77, v_i 0, 0, 0, 0, [])), (77, (.iaload, 78, v_i 0, 0, 0, 0, [])), (78, (.bipush (10), 80, v_i (10), 0, 0, 0, [])), (80, (.if_icmp .ne (38), 83, v_i 0, 118, 0, 0, [])), (83, (.aload_n 0, 84, v_i 0, 0, 0, 0, [])), (84, (.getfield 95, 87, v_i 0, 49, 12, 0, [])), (87, (.iload 5, 89, v_i 0, 0, 0, 0, [])), (89, (.aload_n 0, 90, v_i 0, 0, 0, 0, [])), (90, (.getfield 33, 93, v_i 0, 12, 12, 0, [])), (93, (.iload_n 3, 94, v_i 0, 0, 0, 0, [])), (94, (.iaload, 95, v_i 0, 0, 0, 0, [])), (95, (.iastore, 96, v_i 0, 0, 0, 0, [])), (96, (.aload_n 0, 97, v_i 0, 0, 0, 0, [])), (97, (.getfield 98, 100, v_i 0, 50, 12, 0, [])), (100, (.iload 5, 102, v_i 0, 0, 0, 0, [])), (102, (.iload 4, 104, v_i 0, 0, 0, 0, [])), (104, (.iastore, 105, v_i 0, 0, 0, 0, [])), (105, (.iinc 5 (1), 108, v_i (1), 0, 0, 0, [])), (108, (.aload_n 0, 109, v_i 0, 0, 0, 0, [])), (109, (.getfield 30, 112, v_i 0, 11, 12, 0, [])), (112, (.iload_n 3, 113, v_i 0, 0, 0, 0, [])), (113, (.iaload, 114, v_i 0, 0, 0, 0, [])), (114, (.istore_n 3, 115, v_i 0, 0, 0, 0, [])), (115, (.goto (-107), 118, v_i 0, 8, 0, 0, [])), (118, (.iload 5, 120, v_i 0, 0, 0, 0, [])), (120, (.ifCond .le (42), 123, v_i 0, 162, 0, 0, [])), (123, (.iinc 5 (-1), 126, v_i (-1), 0, 0, 0, [])), (126, (.aload_n 0, 127, v_i 0, 0, 0, 0, [])), (127, (.aload_n 0, 128, v_i 0, 0, 0, 0, [])), (128, (.aload_n 0, 129, v_i 0, 0, 0, 0, [])), (129, (.getfield 95, 132, v_i 0, 49, 12, 0, [])), (132, (.iload 5, 134, v_i 0, 0, 0, 0, [])), (134, (.iaload, 135, v_i 0, 0, 0, 0, [])), (135, (.aload_n 0, 136, v_i 0, 0, 0, 0, [])), (136, (.getfield 98, 139, v_i 0, 50, 12, 0, [])), (139, (.iload 5, 141, v_i 0, 0, 0, 0, [])), (141, (.iaload, 142, v_i 0, 0, 0, 0, [])), (142, (.invokevirtual 229, 145, v_r 3, 41, 1, 12, [])), (145, (.iload 4, 147, v_i 0, 0, 0, 0, [])), (147, (.invokevirtual 256, 150, v_r 3, 42, 1, 12, [])), (150, (.istore 4, 152, v_i 0, 0, 0, 0, [])), (152, (.aload_n 0, 153, v_i 0, 0, 0, 0, [])), (153, (.getfield 33, 156, v_i 0, 12, 12, 0, [])), (156, (.iload_n 3, 157, v_i 0, 0, 0, 0, [])), (157, (.iaload, 158, v_i 0, 0, 0, 0, [])), (158, (.istore_n 3, 159, v_i 0, 0, 0, 0, [])), (159, (.goto (-151), 162, v_i 0, 8, 0, 0, [])), (162, (.aload_n 0, 163, v_i 0, 0, 0, 0, [])), (163, (.iload_n 3, 164, v_i 0, 0, 0, 0, [])), (164, (.iload 4, 166, v_i 0, 0, 0, 0, [])), (166, (.invokevirtual 259, 169, v_r 3, 49, 1, 12, [])), (169, (.ireturn, 170, v_i 0, 0, 0, 0, []))]
def L_Rm_shows : List (Nat × List Nat) := [(8, [0, 3, 4, 5])]
def D_Rm_shows : c_M0 := (T_Rm_shows, L_Rm_shows, 2, 12, ⟨R_Rm, "shows", "(II)Z"⟩, prog_14_method_33_code, 6, some .boolean)
set_option maxRecDepth 100000 in
theorem k_Rm_shows : ∀ q ∈ T_Rm_shows, ck_e 12 prog_14_method_33_code q = true := by decide +kernel
def T_Rm_shown : List (Nat × c_E) := [(0, (.aload_n 0, 1, v_i 0, 0, 0, 0, [])), (1, (.getfield 27, 4, v_i 0, 10, 12, 0, [])), (4, (.iload_n 1, 5, v_i 0, 0, 0, 0, [])), (5, (.iaload, 6, v_i 0, 0, 0, 0, [])), (6, (.iconst (5), 7, v_i (5), 0, 0, 0, [])), (7, (.if_icmp .eq (26), 10, v_i 0, 33, 0, 0, [])), (10, (.aload_n 0, 11, v_i 0, 0, 0, 0, [])), (11, (.getfield 27, 14, v_i 0, 10, 12, 0, [])), (14, (.iload_n 1, 15, v_i 0, 0, 0, 0, [])), (15, (.iaload, 16, v_i 0, 0, 0, 0, [])), (16, (.bipush (9), 18, v_i (9), 0, 0, 0, [])), (18, (.if_icmp .eq (15), 21, v_i 0, 33, 0, 0, [])), (21, (.aload_n 0, 22, v_i 0, 0, 0, 0, [])), (22, (.iload_n 1, 23, v_i 0, 0, 0, 0, [])), (23, (.putfield 263, 26, v_i 0, 47, 12, 0, [])), (26, (.aload_n 0, 27, v_i 0, 0, 0, 0, [])), (27, (.iload_n 2, 28, v_i 0, 0, 0, 0, [])), (28, (.putfield 266, 31, v_i 0, 48, 12, 0, [])), (31, (.iconst (0), 32, v_i (0), 0, 0, 0, [])), (32, (.ireturn, 33, v_i 0, 0, 0, 0, [])), (33, (.aload_n 0, 34, v_i 0, 0, 0, 0, [])), (34, (.aload_n 0, 35, v_i 0, 0, 0, 0, [])), (35, (.getfield 30, 38, v_i 0, 11, 12, 0, [])), (38, (.iload_n 1, 39, v_i 0, 0, 0, 0, [])), (39, (.iaload, 40, v_i 0, 0, 0, 0, [])), (40, (.putfield 269, 43, v_i 0, 43, 12, 0, [])), (43, (.aload_n 0, 44, v_i 0, 0, 0, 0, [])), (44, (.iload_n 2, 45, v_i 0, 0, 0, 0, [])), (45, (.putfield 272, 48, v_i 0, 44, 12, 0, [])), (48, (.aload_n 0, 49, v_i 0, 0, 0, 0, [])), (49, (.aload_n 0, 50, v_i 0, 0, 0, 0, [])), (50, (.getfield 33, 53, v_i 0, 12, 12, 0, [])), (53, (.iload_n 1, 54, v_i 0, 0, 0, 0, [])), (54, (.iaload, 55, v_i 0, 0, 0, 0, [])), (55, (.putfield 275, 58, v_i 0, 45, 12, 0, [])), (58, (.aload_n 0, 59, v_i 0, 0, 0, 0, [])), (59, (.iload_n 2, 60, v_i 0, 0, 0, 0, [])), (60, (.putfield 278, 63, v_i 0, 46, 12, 0, [])), (63, (.iconst (1), 64, v_i (1), 0, 0, 0, [])), (64, (.ireturn, 65, v_i 0, 0, 0, 0, []))]
def L_Rm_shown : List (Nat × List Nat) := [(33, [0, 1, 2])]
def D_Rm_shown : c_M0 := (T_Rm_shown, L_Rm_shown, 2, 12, ⟨R_Rm, "shown", "(II)Z"⟩, prog_14_method_34_code, 3, some .boolean)
set_option maxRecDepth 100000 in
theorem k_Rm_shown : ∀ q ∈ T_Rm_shown, ck_e 12 prog_14_method_34_code q = true := by decide +kernel
def T_Rm_without : List (Nat × c_E) := [(0, (.iload_n 1, 1, v_i 0, 0, 0, 0, [])), (1, (.istore_n 3, 2, v_i 0, 0, 0, 0, [])), (2, (.iconst (0), 3, v_i (0), 0, 0, 0, [])), (3, (.istore 4, 5, v_i 0, 0, 0, 0, [])), (5, (.iload 4, 7, v_i 0, 0, 0, 0, [])), (7, (.iload_n 2, 8, v_i 0, 0, 0, 0, [])), (8, (.if_icmp .ge (16), 11, v_i 0, 24, 0, 0, [])), (11, (.aload_n 0, 12, v_i 0, 0, 0, 0, [])), (12, (.getfield 77, 15, v_i 0, 32, 12, 0, [])), (15, (.iload_n 3, 16, v_i 0, 0, 0, 0, [])), (16, (.iaload, 17, v_i 0, 0, 0, 0, [])), (17, (.istore_n 3, 18, v_i 0, 0, 0, 0, [])), (18, (.iinc 4 (1), 21, v_i (1), 0, 0, 0, [])), (21, (.goto (-16), 24, v_i 0, 5, 0, 0, [])), (24, (.iload_n 3, 25, v_i 0, 0, 0, 0, [])), (25, (.ireturn, 26, v_i 0, 0, 0, 0, []))]
def L_Rm_without : List (Nat × List Nat) := [(5, [0, 2, 3, 4])]
def D_Rm_without : c_M0 := (T_Rm_without, L_Rm_without, 1, 12, ⟨R_Rm, "without", "(II)I"⟩, prog_14_method_35_code, 5, some .int)
set_option maxRecDepth 100000 in
theorem k_Rm_without : ∀ q ∈ T_Rm_without, ck_e 12 prog_14_method_35_code q = true := by decide +kernel
def T_Rm_heads : List (Nat × c_E) := [(0, (.aload_n 0, 1, v_i 0, 0, 0, 0, [])), (1, (.getfield 68, 4, v_i 0, 28, 12, 0, [])), (4, (.iload_n 1, 5, v_i 0, 0, 0, 0, [])), (5, (.iaload, 6, v_i 0, 0, 0, 0, [])), (6, (.istore_n 3, 7, v_i 0, 0, 0, 0, [])), (7, (.aload_n 0, 8, v_i 0, 0, 0, 0, [])), (8, (.getfield 71, 11, v_i 0, 29, 12, 0, [])), (11, (.iload_n 1, 12, v_i 0, 0, 0, 0, [])), (12, (.iaload, 13, v_i 0, 0, 0, 0, [])), (13, (.istore 4, 15, v_i 0, 0, 0, 0, [])), (15, (.iload_n 2, 16, v_i 0, 0, 0, 0, [])), (16, (.istore 5, 18, v_i 0, 0, 0, 0, [])), (18, (.iload_n 3, 19, v_i 0, 0, 0, 0, [])), (19, (.ifCond .lt (207), 22, v_i 0, 226, 0, 0, [])), (22, (.aload_n 0, 23, v_i 0, 0, 0, 0, [])), (23, (.getfield 27, 26, v_i 0, 10, 12, 0, [])), (26, (.iload_n 3, 27, v_i 0, 0, 0, 0, [])), (27, (.iaload, 28, v_i 0, 0, 0, 0, [])), (28, (.bipush (6), 30, v_i (6), 0, 0, 0, [])), (30, (.if_icmp .ne (33), 33, v_i 0, 63, 0, 0, [])), (33, (.aload_n 0, 34, v_i 0, 0, 0, 0, [])), (34, (.aload_n 0, 35, v_i 0, 0, 0, 0, [])), (35, (.aload_n 0, 36, v_i 0, 0, 0, 0, [])), (36, (.getfield 33, 39, v_i 0, 12, 12, 0, [])), (39, (.iload_n 3, 40, v_i 0, 0, 0, 0, [])), (40, (.iaload, 41, v_i 0, 0, 0, 0, [])), (41, (.iload 4, 43, v_i 0, 0, 0, 0, [])), (43, (.invokevirtual 229, 46, v_r 3, 41, 1, 12, [])), (46, (.iload 5, 48, v_i 0, 0, 0, 0, [])), (48, (.invokevirtual 281, 51, v_r 3, 43, 1, 12, [])), (51, (.istore 5, 53, v_i 0, 0, 0, 0, [])), (53, (.aload_n 0, 54, v_i 0, 0, 0, 0, [])), (54, (.getfield 30, 57, v_i 0, 11, 12, 0, [])), (57, (.iload_n 3, 58, v_i 0, 0, 0, 0, [])), (58, (.iaload, 59, v_i 0, 0, 0, 0, [])), (59, (.istore_n 3, 60, v_i 0, 0, 0, 0, [])), (60, (.goto (-42), 63, v_i 0, 18, 0, 0, [])), (63, (.aload_n 0, 64, v_i 0, 0, 0, 0, [])), (64, (.getfield 27, 67, v_i 0, 10, 12, 0, [])), (67, (.iload_n 3, 68, v_i 0, 0, 0, 0, [])), (68, (.iaload, 69, v_i 0, 0, 0, 0, [])), (69, (.iconst (2), 70, v_i (2), 0, 0, 0, [])), (70, (.if_icmp .ne (42), 73, v_i 0, 112, 0, 0, [])), (73, (.aload_n 0, 74, v_i 0, 0, 0, 0, [])), (74, (.getfield 74, 77, v_i 0, 31, 12, 0, [])), (77, (.aload_n 0, 78, v_i 0, 0, 0, 0, [])), (78, (.iload 4, 80, v_i 0, 0, 0, 0, [])), (80, (.aload_n 0, 81, v_i 0, 0, 0, 0, [])), (81, (.getfield 30, 84, v_i 0, 11, 12, 0, [])), (84, (.iload_n 3, 85, v_i 0, 0, 0, 0, [])), (85, (.iaload, 86, v_i 0, 0, 0, 0, [])), (86, (.invokevirtual 253, 89, v_r 3, 50, 1, 12, [])), (89, (.iaload, 90, v_i 0, 0, 0, 0, [])), (90, (.istore 6, 92, v_i 0, 0, 0, 0, [])), (92, (.aload_n 0, 93, v_i 0, 0, 0, 0, [])), (93, (.getfield 68, 96, v_i 0, 28, 12, 0, [])), (96, (.iload 6, 98, v_i 0, 0, 0, 0, [])), (98, (.iaload, 99, v_i 0, 0, 0, 0, [])), (99, (.istore_n 3, 100, v_i 0, 0, 0, 0, [])), (100, (.aload_n 0, 101, v_i 0, 0, 0, 0, [])), (101, (.getfield 71, 104, v_i 0, 29, 12, 0, [])), (104, (.iload 6, 106, v_i 0, 0, 0, 0, [])), (106, (.iaload, 107, v_i 0, 0, 0, 0, [])), (107, (.istore 4, 109, v_i 0, 0, 0, 0, [])), (109, (.goto (-91), 112, v_i 0, 18, 0, 0, [])), (112, (.aload_n 0, 113, v_i 0, 0, 0, 0, [])), (113, (.getfield 27, 116, v_i 0, 10, 12, 0, [])), (116, (.iload_n 3, 117, v_i 0, 0, 0, 0, [])), (117, (.iaload, 118, v_i 0, 0, 0, 0, [])), (118, (.iconst (4), 119, v_i (4), 0, 0, 0, [])), (119, (.if_icmp .ne (47), 122, v_i 0, 166, 0, 0, [])), (122, (.aload_n 0, 123, v_i 0, 0, 0, 0, [])), (123, (.invokevirtual 240, 126, v_r 1, 45, 1, 12, [])), (126, (.ifCond .ne (6), 129, v_i 0, 132, 0, 0, [])), (129, (.bipush (9), 131, v_i (9), 0, 0, 0, [])), (131, (.ireturn, 132, v_i 0, 0, 0, 0, [])), (132, (.aload_n 0, 133, v_i 0, 0, 0, 0, [])), (133, (.aload_n 0, 134, v_i 0, 0, 0, 0, [])), (134, (.getfield 80, 137, v_i 0, 34, 12, 0, [])), (137, (.iload 5, 139, v_i 0, 0, 0, 0, [])), (139, (.iaload, 140, v_i 0, 0, 0, 0, [])), (140, (.iload 4, 142, v_i 0, 0, 0, 0, [])), (142, (.invokevirtual 256, 145, v_r 3, 42, 1, 12, [])), (145, (.istore 4, 147, v_i 0, 0, 0, 0, [])), (147, (.aload_n 0, 148, v_i 0, 0, 0, 0, [])), (148, (.getfield 83, 151, v_i 0, 35, 12, 0, [])), (151, (.iload 5, 153, v_i 0, 0, 0, 0, [])), (153, (.iaload, 154, v_i 0, 0, 0, 0, [])), (154, (.istore 5, 156, v_i 0, 0, 0, 0, [])), (156, (.aload_n 0, 157, v_i 0, 0, 0, 0, [])), (157, (.getfield 33, 160, v_i 0, 12, 12, 0, [])), (160, (.iload_n 3, 161, v_i 0, 0, 0, 0, [])), (161, (.iaload, 162, v_i 0, 0, 0, 0, [])), (162, (.istore_n 3, 163, v_i 0, 0, 0, 0, [])), (163, (.goto (-145), 166, v_i 0, 18, 0, 0, [])), (166, (.aload_n 0, 167, v_i 0, 0, 0, 0, [])), (167, (.getfield 61, 170, v_i 0, 26, 12, 0, [])), (170, (.aload_n 0, 171, v_i 0, 0, 0, 0, [])), (171, (.getfield 30, 174, v_i 0, 11, 12, 0, [])), (174, (.iload_n 3, 175, v_i 0, 0, 0, 0, [])), (175, (.iaload, 176, v_i 0, 0, 0, 0, [])), (176, (.iaload, 177, v_i 0, 0, 0, 0, [])), (177, (.ifCond .lt (31), 180, v_i 0, 208, 0, 0, [])), (180, (.aload_n 0, 181, v_i 0, 0, 0, 0, [])), (181, (.invokevirtual 240, 184, v_r 1, 45, 1, 12, [])), (184, (.ifCond .ne (6), 187, v_i 0, 190, 0, 0, [])), (187, (.bipush (9), 189, v_i (9), 0, 0, 0, [])), (189, (.ireturn, 190, v_i 0, 0, 0, 0, [])), (190, (.aload_n 0, 191, v_i 0, 0, 0, 0, [])), (191, (.getfield 61, 194, v_i 0, 26, 12, 0, [])), (194, (.aload_n 0, 195, v_i 0, 0, 0, 0, [])), (195, (.getfield 30, 198, v_i 0, 11, 12, 0, [])), (198, (.iload_n 3, 199, v_i 0, 0, 0, 0, [])), (199, (.iaload, 200, v_i 0, 0, 0, 0, [])), (200, (.iaload, 201, v_i 0, 0, 0, 0, [])), (201, (.istore_n 3, 202, v_i 0, 0, 0, 0, [])), (202, (.iconst (-1), 203, v_i (-1), 0, 0, 0, [])), (203, (.istore 4, 205, v_i 0, 0, 0, 0, [])), (205, (.goto (-187), 208, v_i 0, 18, 0, 0, [])), (208, (.aload_n 0, 209, v_i 0, 0, 0, 0, [])), (209, (.aload_n 0, 210, v_i 0, 0, 0, 0, [])), (210, (.getfield 30, 213, v_i 0, 11, 12, 0, [])), (213, (.iload_n 3, 214, v_i 0, 0, 0, 0, [])), (214, (.iaload, 215, v_i 0, 0, 0, 0, [])), (215, (.putfield 284, 218, v_i 0, 51, 12, 0, [])), (218, (.aload_n 0, 219, v_i 0, 0, 0, 0, [])), (219, (.iload 5, 221, v_i 0, 0, 0, 0, [])), (221, (.putfield 287, 224, v_i 0, 52, 12, 0, [])), (224, (.iconst (0), 225, v_i (0), 0, 0, 0, [])), (225, (.ireturn, 226, v_i 0, 0, 0, 0, [])), (226, (.aload_n 0, 227, v_i 0, 0, 0, 0, [])), (227, (.iload_n 3, 228, v_i 0, 0, 0, 0, [])), (228, (.putfield 284, 231, v_i 0, 51, 12, 0, [])), (231, (.aload_n 0, 232, v_i 0, 0, 0, 0, [])), (232, (.iload 5, 234, v_i 0, 0, 0, 0, [])), (234, (.putfield 287, 237, v_i 0, 52, 12, 0, [])), (237, (.iconst (0), 238, v_i (0), 0, 0, 0, [])), (238, (.ireturn, 239, v_i 0, 0, 0, 0, []))]
def L_Rm_heads : List (Nat × List Nat) := [(18, [0, 3, 4, 5])]
def D_Rm_heads : c_M0 := (T_Rm_heads, L_Rm_heads, 1, 12, ⟨R_Rm, "heads", "(II)I"⟩, prog_14_method_36_code, 7, some .int)
set_option maxRecDepth 100000 in
theorem k_Rm_heads : ∀ q ∈ T_Rm_heads, ck_e 12 prog_14_method_36_code q = true := by decide +kernel
def T_Rm_manyBehind : List (Nat × c_E) := [(0, (.iconst (0), 1, v_i (0), 0, 0, 0, [])), (1, (.istore_n 2, 2, v_i 0, 0, 0, 0, [])), (2, (.iload_n 1, 3, v_i 0, 0, 0, 0, [])), (3, (.istore_n 3, 4, v_i 0, 0, 0, 0, [])), (4, (.iload_n 3, 5, v_i 0, 0, 0, 0, [])), (5, (.ifCond .lt (16), 8, v_i 0, 21, 0, 0, [])), (8, (.iinc 2 (1), 11, v_i (1), 0, 0, 0, [])), (11, (.aload_n 0, 12, v_i 0, 0, 0, 0, [])), (12, (.getfield 83, 15, v_i 0, 35, 12, 0, [])), (15, (.iload_n 3, 16, v_i 0, 0, 0, 0, [])), (16, (.iaload, 17, v_i 0, 0, 0, 0, [])), (17, (.istore_n 3, 18, v_i 0, 0, 0, 0, [])), (18, (.goto (-14), 21, v_i 0, 4, 0, 0, [])), (21, (.iload_n 2, 22, v_i 0, 0, 0, 0, [])), (22, (.ireturn, 23, v_i 0, 0, 0, 0, []))]
def L_Rm_manyBehind : List (Nat × List Nat) := [(4, [0, 2, 3])]
def D_Rm_manyBehind : c_M0 := (T_Rm_manyBehind, L_Rm_manyBehind, 1, 12, ⟨R_Rm, "manyBehind", "(I)I"⟩, prog_14_method_37_code, 4, some .int)
set_option maxRecDepth 100000 in
theorem k_Rm_manyBehind : ∀ q ∈ T_Rm_manyBehind, ck_e 12 prog_14_method_37_code q = true := by decide +kernel
def T_Rm_asks : List (Nat × c_E) := [(0, (.aload_n 0, 1, v_i 0, 0, 0, 0, [])), (1, (.getfield 290, 4, v_i 0, 53, 12, 0, [])), (4, (.bipush (100), 6, v_i (100), 0, 0, 0, [])), (6, (.if_icmp .ne (6), 9, v_i 0, 12, 0, 0, [])), (9, (.bipush (10), 11, v_i (10), 0, 0, 0, [])), (11, (.ireturn, 12, v_i 0, 0, 0, 0, [])), (12, (.aload_n 0, 13, v_i 0, 0, 0, 0, [])), (13, (.invokevirtual 240, 16, v_r 1, 45, 1, 12, [])), (16, (.ifCond .ne (6), 19, v_i 0, 22, 0, 0, [])), (19, (.bipush (9), 21, v_i (9), 0, 0, 0, [])), (21, (.ireturn, 22, v_i 0, 0, 0, 0, [])), (22, (.aload_n 0, 23, v_i 0, 0, 0, 0, [])), (23, (.dup, 24, v_i 0, 0, 0, 0, [])), (24, (.getfield 290, 27, v_i 0, 53, 12, 0, [])), (27, (.iconst (1), 28, v_i (1), 0, 0, 0, [])), (28, (.iadd, 29, v_i 0, 0, 0, 0, [])), (29, (.putfield 290, 32, v_i 0, 53, 12, 0, [])), (32, (.iconst (1), 33, v_i (1), 0, 0, 0, [])), (33, (.ireturn, 34, v_i 0, 0, 0, 0, []))]
def L_Rm_asks : List (Nat × List Nat) := []
def D_Rm_asks : c_M0 := (T_Rm_asks, L_Rm_asks, 1, 12, ⟨R_Rm, "asks", "()I"⟩, prog_14_method_38_code, 1, some .int)
set_option maxRecDepth 100000 in
theorem k_Rm_asks : ∀ q ∈ T_Rm_asks, ck_e 12 prog_14_method_38_code q = true := by decide +kernel
def T_Rm_sameFamilies : List (Nat × c_E) := [(0, (.aload_n 0, 1, v_i 0, 0, 0, 0, [])), (1, (.invokevirtual 293, 4, v_r 1, 53, 1, 12, [])), (4, (.istore 5, 6, v_i 0, 0, 0, 0, [])), (6, (.iload 5, 8, v_i 0, 0, 0, 0, [])), (8, (.iconst (1), 9, v_i (1), 0, 0, 0, [])), (9, (.if_icmp .eq (6), 12, v_i 0, 15, 0, 0, [])), (12, (.iload 5, 14, v_i 0, 0, 0, 0, [])), (14, (.ireturn, 15, v_i 0, 0, 0, 0, [])), (15, (.aload_n 0, 16, v_i 0, 0, 0, 0, [])), (16, (.iload_n 1, 17, v_i 0, 0, 0, 0, [])), (17, (.iload_n 2, 18, v_i 0, 0, 0, 0, [])), (18, (.iload_n 3, 19, v_i 0, 0, 0, 0, [])), (19, (.iload 4, 21, v_i 0, 0, 0, 0, [])), (21, (.invokevirtual 296, 24, v_r 5, 55, 1, 12, [])), (24, (.istore 5, 26, v_i 0, 0, 0, 0, [])), (26, (.aload_n 0, 27, v_i 0, 0, 0, 0, [])), (27, (.dup, 28, v_i 0, 0, 0, 0, [])), (28, (.getfield 290, 31, v_i 0, 53, 12, 0, [])), (31, (.iconst (1), 32, v_i (1), 0, 0, 0, [])), (32, (.isub, 33, v_i 0, 0, 0, 0, [])), (33, (.putfield 290, 36, v_i 0, 53, 12, 0, [])), (36, (.iload 5, 38, v_i 0, 0, 0, 0, [])), (38, (.ireturn, 39, v_i 0, 0, 0, 0, []))]
def L_Rm_sameFamilies : List (Nat × List Nat) := []
def D_Rm_sameFamilies : c_M0 := (T_Rm_sameFamilies, L_Rm_sameFamilies, 1, 12, ⟨R_Rm, "sameFamilies", "(IIII)I"⟩, prog_14_method_39_code, 6, some .int)
set_option maxRecDepth 100000 in
theorem k_Rm_sameFamilies : ∀ q ∈ T_Rm_sameFamilies, ck_e 12 prog_14_method_39_code q = true := by decide +kernel
def T_Rm_sameAsked : List (Nat × c_E) := [(0, (.aload_n 0, 1, v_i 0, 0, 0, 0, [])), (1, (.iload_n 1, 2, v_i 0, 0, 0, 0, [])), (2, (.iload_n 2, 3, v_i 0, 0, 0, 0, [])), (3, (.invokevirtual 300, 6, v_r 3, 48, 1, 12, [])), (6, (.istore 5, 8, v_i 0, 0, 0, 0, [])), (8, (.aload_n 0, 9, v_i 0, 0, 0, 0, [])), (9, (.getfield 269, 12, v_i 0, 43, 12, 0, [])), (12, (.istore 6, 14, v_i 0, 0, 0, 0, [])), (14, (.aload_n 0, 15, v_i 0, 0, 0, 0, [])), (15, (.getfield 272, 18, v_i 0, 44, 12, 0, [])), (18, (.istore 7, 20, v_i 0, 0, 0, 0, [])), (20, (.aload_n 0, 21, v_i 0, 0, 0, 0, [])), (21, (.getfield 275, 24, v_i 0, 45, 12, 0, [])), (24, (.istore 8, 26, v_i 0, 0, 0, 0, [])), (26, (.aload_n 0, 27, v_i 0, 0, 0, 0, [])), (27, (.getfield 278, 30, v_i 0, 46, 12, 0, [])), (30, (.istore 9, 32, v_i 0, 0, 0, 0, [])), (32, (.aload_n 0, 33, v_i 0, 0, 0, 0, [])), (33, (.getfield 263, 36, v_i 0, 47, 12, 0, [])), (36, (.istore 10, 38, v_i 0, 0, 0, 0, [])), (38, (.aload_n 0, 39, v_i 0, 0, 0, 0, [])), (39, (.getfield 266, 42, v_i 0, 48, 12, 0, [])), (42, (.istore 11, 44, v_i 0, 0, 0, 0, [])), (44, (.aload_n 0, 45, v_i 0, 0, 0, 0, [])), (45, (.iload_n 3, 46, v_i 0, 0, 0, 0, [])), (46, (.iload 4, 48, v_i 0, 0, 0, 0, [])), (48, (.invokevirtual 300, 51, v_r 3, 48, 1, 12, [])), (51, (.istore 12, 53, v_i 0, 0, 0, 0, [])), (53, (.iload 5, 55, v_i 0, 0, 0, 0, [])), (55, (.iload 12, 57, v_i 0, 0, 0, 0, [])), (57, (.if_icmp .eq (5), 60, v_i 0, 62, 0, 0, [])), (60, (.iconst (0), 61, v_i (0), 0, 0, 0, [])), (61, (.ireturn, 62, v_i 0, 0, 0, 0, [])), (62, (.iload 5, 64, v_i 0, 0, 0, 0, [])), (64, (.ifCond .ne (20), 67, v_i 0, 84, 0, 0, [])), (67, (.aload_n 0, 68, v_i 0, 0, 0, 0, [])), (68, (.iload 10, 70, v_i 0, 0, 0, 0, [])), (70, (.iload 11, 72, v_i 0, 0, 0, 0, [])), (72, (.aload_n 0, 73, v_i 0, 0, 0, 0, [])), (73, (.getfield 263, 76, v_i 0, 47, 12, 0, [])), (76, (.aload_n 0, 77, v_i 0, 0, 0, 0, [])), (77, (.getfield 266, 80, v_i 0, 48, 12, 0, [])), (80, (.invokevirtual 303, 83, v_r 5, 57, 1, 12, [])), (83, (.ireturn, 84, v_i 0, 0, 0, 0, [])), (84, (.aload_n 0, 85, v_i 0, 0, 0, 0, [])), (85, (.getfield 275, 88, v_i 0, 45, 12, 0, [])), (88, (.istore 13, 90, v_i 0, 0, 0, 0, [])), (90, (.aload_n 0, 91, v_i 0, 0, 0, 0, [])), (91, (.getfield 278, 94, v_i 0, 46, 12, 0, [])), (94, (.istore 14, 96, v_i 0, 0, 0, 0, [])), (96, (.aload_n 0, 97, v_i 0, 0, 0, 0, [])), (97, (.iload 6, 99, v_i 0, 0, 0, 0, [])), (99, (.iload 7, 101, v_i 0, 0, 0, 0, [])), (101, (.aload_n 0, 102, v_i 0, 0, 0, 0, [])), (102, (.getfield 269, 105, v_i 0, 43, 12, 0, [])), (105, (.aload_n 0, 106, v_i 0, 0, 0, 0, [])), (106, (.getfield 272, 109, v_i 0, 44, 12, 0, [])), (109, (.invokevirtual 306, 112, v_r 5, 54, 1, 12, [])), (112, (.istore 15, 114, v_i 0, 0, 0, 0, [])), (114, (.iload 15, 116, v_i 0, 0, 0, 0, [])), (116, (.iconst (1), 117, v_i (1), 0, 0, 0, [])), (117, (.if_icmp .eq (6), 120, v_i 0, 123, 0, 0, [])), (120, (.iload 15, 122, v_i 0, 0, 0, 0, [])), (122, (.ireturn, 123, v_i 0, 0, 0, 0, [])), (123, (.aload_n 0, 124, v_i 0, 0, 0, 0, [])), (124, (.iload 6, 126, v_i 0, 0, 0, 0, [])), (126, (.iload 7, 128, v_i 0, 0, 0, 0, [])), (128, (.iconst (0), 129, v_i (0), 0, 0, 0, [])), (129, (.invokevirtual 309, 132, v_r 4, 44, 1, 12, [])), (132, (.istore 16, 134, v_i 0, 0, 0, 0, [])), (134, (.aload_n 0, 135, v_i 0, 0, 0, 0, [])), (135, (.iload 8, 137, v_i 0, 0, 0, 0, [])), (137, (.aload_n 0, 138, v_i 0, 0, 0, 0, [])), (138, (.iload 16, 140, v_i 0, 0, 0, 0, [])), (140, (.iload 9, 142, v_i 0, 0, 0, 0, [])), (142, (.invokevirtual 256, 145, v_r 3, 42, 1, 12, [])), (145, (.iload 13, 147, v_i 0, 0, 0, 0, [])), (147, (.aload_n 0, 148, v_i 0, 0, 0, 0, [])), (148, (.iload 16, 150, v_i 0, 0, 0, 0, [])), (150, (.iload 14, 152, v_i 0, 0, 0, 0, [])), (152, (.invokevirtual 256, 155, v_r 3, 42, 1, 12, [])), (155, (.invokevirtual 306, 158, v_r 5, 54, 1, 12, [])), (158, (.ireturn, 159, v_i 0, 0, 0, 0, []))]
def L_Rm_sameAsked : List (Nat × List Nat) := []
def D_Rm_sameAsked : c_M0 := (T_Rm_sameAsked, L_Rm_sameAsked, 1, 12, ⟨R_Rm, "sameAsked", "(IIII)I"⟩, prog_14_method_40_code, 17, some .int)
set_option maxRecDepth 100000 in
theorem k_Rm_sameAsked : ∀ q ∈ T_Rm_sameAsked, ck_e 12 prog_14_method_40_code q = true := by decide +kernel
def T_Rm_behindOf : List (Nat × c_E) := [(0, (.iconst (-1), 1, v_i (-1), 0, 0, 0, [])), (1, (.istore_n 3, 2, v_i 0, 0, 0, 0, [])), (2, (.iload_n 1, 3, v_i 0, 0, 0, 0, [])), (3, (.istore 4, 5, v_i 0, 0, 0, 0, [])), (5, (.aload_n 0, 6, v_i 0, 0, 0, 0, [])), (6, (.getfield 27, 9, v_i 0, 10, 12, 0, [])), (9, (.iload 4, 11, v_i 0, 0, 0, 0, [])), (11, (.iaload, 12, v_i 0, 0, 0, 0, [])), (12, (.bipush (6), 14, v_i (6), 0, 0, 0, [])), (14, (.if_icmp .ne (33), 17, v_i 0, 47, 0, 0, [])), (17, (.aload_n 0, 18, v_i 0, 0, 0, 0, [])), (18, (.aload_n 0, 19, v_i 0, 0, 0, 0, [])), (19, (.aload_n 0, 20, v_i 0, 0, 0, 0, [])), (20, (.getfield 33, 23, v_i 0, 12, 12, 0, [])), (23, (.iload 4, 25, v_i 0, 0, 0, 0, [])), (25, (.iaload, 26, v_i 0, 0, 0, 0, [])), (26, (.iload_n 2, 27, v_i 0, 0, 0, 0, [])), (27, (.invokevirtual 229, 30, v_r 3, 41, 1, 12, [])), (30, (.iload_n 3, 31, v_i 0, 0, 0, 0, [])), (31, (.invokevirtual 281, 34, v_r 3, 43, 1, 12, [])), (34, (.istore_n 3, 35, v_i 0, 0, 0, 0, [])), (35, (.aload_n 0, 36, v_i 0, 0, 0, 0, [])), (36, (.getfield 30, 39, v_i 0, 11, 12, 0, [])), (39, (.iload 4, 41, v_i 0, 0, 0, 0, [])), (41, (.iaload, 42, v_i 0, 0, 0, 0, [])), (42, (.istore 4, 44, v_i 0, 0, 0, 0, [])), (44, (.goto (-39), 47, v_i 0, 5, 0, 0, [])), (47, (.aload_n 0, 48, v_i 0, 0, 0, 0, [])), (48, (.aload_n 0, 49, v_i 0, 0, 0, 0, [])), (49, (.getfield 30, 52, v_i 0, 11, 12, 0, [])), (52, (.iload 4, 54, v_i 0, 0, 0, 0, [])), (54, (.iaload, 55, v_i 0, 0, 0, 0, [])), (55, (.putfield 284, 58, v_i 0, 51, 12, 0, [])), (58, (.iload_n 3, 59, v_i 0, 0, 0, 0, [])), (59, (.ireturn, 60, v_i 0, 0, 0, 0, []))]
def L_Rm_behindOf : List (Nat × List Nat) := [(5, [0, 2, 3, 4])]
def D_Rm_behindOf : c_M0 := (T_Rm_behindOf, L_Rm_behindOf, 1, 12, ⟨R_Rm, "behindOf", "(II)I"⟩, prog_14_method_41_code, 5, some .int)
set_option maxRecDepth 100000 in
theorem k_Rm_behindOf : ∀ q ∈ T_Rm_behindOf, ck_e 12 prog_14_method_41_code q = true := by decide +kernel
def T_Rm_sameSpines : List (Nat × c_E) := [(0, (.aload_n 0, 1, v_i 0, 0, 0, 0, [])), (1, (.iload_n 1, 2, v_i 0, 0, 0, 0, [])), (2, (.iload_n 2, 3, v_i 0, 0, 0, 0, [])), (3, (.invokevirtual 313, 6, v_r 3, 56, 1, 12, [])), (6, (.istore 5, 8, v_i 0, 0, 0, 0, [])), (8, (.aload_n 0, 9, v_i 0, 0, 0, 0, [])), (9, (.getfield 284, 12, v_i 0, 51, 12, 0, [])), (12, (.istore 6, 14, v_i 0, 0, 0, 0, [])), (14, (.aload_n 0, 15, v_i 0, 0, 0, 0, [])), (15, (.iload_n 3, 16, v_i 0, 0, 0, 0, [])), (16, (.iload 4, 18, v_i 0, 0, 0, 0, [])), (18, (.invokevirtual 313, 21, v_r 3, 56, 1, 12, [])), (21, (.istore 7, 23, v_i 0, 0, 0, 0, [])), (23, (.aload_n 0, 24, v_i 0, 0, 0, 0, [])), (24, (.getfield 284, 27, v_i 0, 51, 12, 0, [])), (27, (.iload 6, 29, v_i 0, 0, 0, 0, [])), (29, (.if_icmp .eq (5), 32, v_i 0, 34, 0, 0, [])), (32, (.iconst (0), 33, v_i (0), 0, 0, 0, [])), (33, (.ireturn, 34, v_i 0, 0, 0, 0, [])), (34, (.aload_n 0, 35, v_i 0, 0, 0, 0, [])), (35, (.aload_n 0, 36, v_i 0, 0, 0, 0, [])), (36, (.getfield 58, 39, v_i 0, 25, 12, 0, [])), (39, (.iload 6, 41, v_i 0, 0, 0, 0, [])), (41, (.iaload, 42, v_i 0, 0, 0, 0, [])), (42, (.iconst (-1), 43, v_i (-1), 0, 0, 0, [])), (43, (.iload 5, 45, v_i 0, 0, 0, 0, [])), (45, (.iload 7, 47, v_i 0, 0, 0, 0, [])), (47, (.invokevirtual 316, 50, v_r 5, 58, 1, 12, [])), (50, (.ireturn, 51, v_i 0, 0, 0, 0, []))]
def L_Rm_sameSpines : List (Nat × List Nat) := []
def D_Rm_sameSpines : c_M0 := (T_Rm_sameSpines, L_Rm_sameSpines, 1, 12, ⟨R_Rm, "sameSpines", "(IIII)I"⟩, prog_14_method_42_code, 8, some .int)
set_option maxRecDepth 100000 in
theorem k_Rm_sameSpines : ∀ q ∈ T_Rm_sameSpines, ck_e 12 prog_14_method_42_code q = true := by decide +kernel
def T_Rm_sameBehind : List (Nat × c_E) := [(0, (.iload_n 1, 1, v_i 0, 0, 0, 0, [])), (1, (.istore 5, 3, v_i 0, 0, 0, 0, [])), (3, (.iload_n 2, 4, v_i 0, 0, 0, 0, [])), (4, (.istore 6, 6, v_i 0, 0, 0, 0, [])), (6, (.iload_n 3, 7, v_i 0, 0, 0, 0, [])), (7, (.istore 7, 9, v_i 0, 0, 0, 0, [])), (9, (.iload 4, 11, v_i 0, 0, 0, 0, [])), (11, (.istore 8, 13, v_i 0, 0, 0, 0, [])), (13, (.iload 7, 15, v_i 0, 0, 0, 0, [])), (15, (.ifCond .lt (103), 18, v_i 0, 118, 0, 0, [])), (18, (.aload_n 0, 19, v_i 0, 0, 0, 0, [])), (19, (.iload 5, 21, v_i 0, 0, 0, 0, [])), (21, (.iload 6, 23, v_i 0, 0, 0, 0, [])), (23, (.invokevirtual 300, 26, v_r 3, 48, 1, 12, [])), (26, (.istore 9, 28, v_i 0, 0, 0, 0, [])), (28, (.aload_n 0, 29, v_i 0, 0, 0, 0, [])), (29, (.getfield 275, 32, v_i 0, 45, 12, 0, [])), (32, (.istore 10, 34, v_i 0, 0, 0, 0, [])), (34, (.aload_n 0, 35, v_i 0, 0, 0, 0, [])), (35, (.getfield 278, 38, v_i 0, 46, 12, 0, [])), (38, (.istore 11, 40, v_i 0, 0, 0, 0, [])), (40, (.aload_n 0, 41, v_i 0, 0, 0, 0, [])), (41, (.getfield 80, 44, v_i 0, 34, 12, 0, [])), (44, (.iload 7, 46, v_i 0, 0, 0, 0, [])), (46, (.iaload, 47, v_i 0, 0, 0, 0, [])), (47, (.istore 12, 49, v_i 0, 0, 0, 0, [])), (49, (.aload_n 0, 50, v_i 0, 0, 0, 0, [])), (50, (.iload 12, 52, v_i 0, 0, 0, 0, [])), (52, (.iconst (-1), 53, v_i (-1), 0, 0, 0, [])), (53, (.aload_n 0, 54, v_i 0, 0, 0, 0, [])), (54, (.getfield 80, 57, v_i 0, 34, 12, 0, [])), (57, (.iload 8, 59, v_i 0, 0, 0, 0, [])), (59, (.iaload, 60, v_i 0, 0, 0, 0, [])), (60, (.iconst (-1), 61, v_i (-1), 0, 0, 0, [])), (61, (.aload_n 0, 62, v_i 0, 0, 0, 0, [])), (62, (.getfield 269, 65, v_i 0, 43, 12, 0, [])), (65, (.aload_n 0, 66, v_i 0, 0, 0, 0, [])), (66, (.getfield 272, 69, v_i 0, 44, 12, 0, [])), (69, (.invokevirtual 319, 72, v_r 7, 60, 1, 12, [])), (72, (.istore 13, 74, v_i 0, 0, 0, 0, [])), (74, (.iload 13, 76, v_i 0, 0, 0, 0, [])), (76, (.iconst (1), 77, v_i (1), 0, 0, 0, [])), (77, (.if_icmp .eq (6), 80, v_i 0, 83, 0, 0, [])), (80, (.iload 13, 82, v_i 0, 0, 0, 0, [])), (82, (.ireturn, 83, v_i 0, 0, 0, 0, [])), (83, (.iload 10, 85, v_i 0, 0, 0, 0, [])), (85, (.istore 5, 87, v_i 0, 0, 0, 0, [])), (87, (.aload_n 0, 88, v_i 0, 0, 0, 0, [])), (88, (.iload 12, 90, v_i 0, 0, 0, 0, [])), (90, (.iload 11, 92, v_i 0, 0, 0, 0, [])), (92, (.invokevirtual 256, 95, v_r 3, 42, 1, 12, [])), (95, (.istore 6, 97, v_i 0, 0, 0, 0, [])), (97, (.aload_n 0, 98, v_i 0, 0, 0, 0, [])), (98, (.getfield 83, 101, v_i 0, 35, 12, 0, [])), (101, (.iload 7, 103, v_i 0, 0, 0, 0, [])), (103, (.iaload, 104, v_i 0, 0, 0, 0, [])), (104, (.istore 7, 106, v_i 0, 0, 0, 0, [])), (106, (.aload_n 0, 107, v_i 0, 0, 0, 0, [])), (107, (.getfield 83, 110, v_i 0, 35, 12, 0, [])), (110, (.iload 8, 112, v_i 0, 0, 0, 0, [])), (112, (.iaload, 113, v_i 0, 0, 0, 0, [])), (113, (.istore 8, 115, v_i 0, 0, 0, 0, [])), (115, (.goto (-102), 118, v_i 0, 13, 0, 0, [])), (118, (.iconst (1), 119, v_i (1), 0, 0, 0, [])), (119, (.ireturn, 120, v_i 0, 0, 0, 0, []))]
def L_Rm_sameBehind : List (Nat × List Nat) := [(13, [0, 5, 6, 7, 8])]
def D_Rm_sameBehind : c_M0 := (T_Rm_sameBehind, L_Rm_sameBehind, 1, 12, ⟨R_Rm, "sameBehind", "(IIII)I"⟩, prog_14_method_43_code, 14, some .int)
set_option maxRecDepth 100000 in
theorem k_Rm_sameBehind : ∀ q ∈ T_Rm_sameBehind, ck_e 12 prog_14_method_43_code q = true := by decide +kernel
def T_Rm_append : List (Nat × c_E) := [(0, (.iload_n 1, 1, v_i 0, 0, 0, 0, [])), (1, (.ifCond .ge (10), 4, v_i 0, 11, 0, 0, [])), (4, (.aload_n 0, 5, v_i 0, 0, 0, 0, [])), (5, (.iload_n 2, 6, v_i 0, 0, 0, 0, [])), (6, (.iconst (-1), 7, v_i (-1), 0, 0, 0, [])), (7, (.invokevirtual 281, 10, v_r 3, 43, 1, 12, [])), (10, (.ireturn, 11, v_i 0, 0, 0, 0, [])), (11, (.aload_n 0, 12, v_i 0, 0, 0, 0, [])), (12, (.aload_n 0, 13, v_i 0, 0, 0, 0, [])), (13, (.getfield 80, 16, v_i 0, 34, 12, 0, [])), (16, (.iload_n 1, 17, v_i 0, 0, 0, 0, [])), (17, (.iaload, 18, v_i 0, 0, 0, 0, [])), (18, (.aload_n 0, 19, v_i 0, 0, 0, 0, [])), (19, (.aload_n 0, 20, v_i 0, 0, 0, 0, [])), (20, (.getfield 83, 23, v_i 0, 35, 12, 0, [])), (23, (.iload_n 1, 24, v_i 0, 0, 0, 0, [])), (24, (.iaload, 25, v_i 0, 0, 0, 0, [])), (25, (.iload_n 2, 26, v_i 0, 0, 0, 0, [])), (26, (.invokevirtual 323, 29, v_r 3, 59, 1, 12, [])), (29, (.invokevirtual 281, 32, v_r 3, 43, 1, 12, [])), (32, (.ireturn, 33, v_i 0, 0, 0, 0, []))]
def L_Rm_append : List (Nat × List Nat) := []
def D_Rm_append : c_M0 := (T_Rm_append, L_Rm_append, 1, 12, ⟨R_Rm, "append", "(II)I"⟩, prog_14_method_44_code, 3, some .int)
set_option maxRecDepth 100000 in
theorem k_Rm_append : ∀ q ∈ T_Rm_append, ck_e 12 prog_14_method_44_code q = true := by decide +kernel
def T_Rm_sameObjects : List (Nat × c_E) := [(0, (.aload_n 0, 1, v_i 0, 0, 0, 0, [])), (1, (.invokevirtual 293, 4, v_r 1, 53, 1, 12, [])), (4, (.istore 7, 6, v_i 0, 0, 0, 0, [])), (6, (.iload 7, 8, v_i 0, 0, 0, 0, [])), (8, (.iconst (1), 9, v_i (1), 0, 0, 0, [])), (9, (.if_icmp .eq (6), 12, v_i 0, 15, 0, 0, [])), (12, (.iload 7, 14, v_i 0, 0, 0, 0, [])), (14, (.ireturn, 15, v_i 0, 0, 0, 0, [])), (15, (.aload_n 0, 16, v_i 0, 0, 0, 0, [])), (16, (.iload_n 1, 17, v_i 0, 0, 0, 0, [])), (17, (.iload_n 2, 18, v_i 0, 0, 0, 0, [])), (18, (.iload_n 3, 19, v_i 0, 0, 0, 0, [])), (19, (.iload 4, 21, v_i 0, 0, 0, 0, [])), (21, (.iload 5, 23, v_i 0, 0, 0, 0, [])), (23, (.iload 6, 25, v_i 0, 0, 0, 0, [])), (25, (.invokevirtual 326, 28, v_r 7, 61, 1, 12, [])), (28, (.istore 7, 30, v_i 0, 0, 0, 0, [])), (30, (.aload_n 0, 31, v_i 0, 0, 0, 0, [])), (31, (.dup, 32, v_i 0, 0, 0, 0, [])), (32, (.getfield 290, 35, v_i 0, 53, 12, 0, [])), (35, (.iconst (1), 36, v_i (1), 0, 0, 0, [])), (36, (.isub, 37, v_i 0, 0, 0, 0, [])), (37, (.putfield 290, 40, v_i 0, 53, 12, 0, [])), (40, (.iload 7, 42, v_i 0, 0, 0, 0, [])), (42, (.ireturn, 43, v_i 0, 0, 0, 0, []))]
def L_Rm_sameObjects : List (Nat × List Nat) := []
def D_Rm_sameObjects : c_M0 := (T_Rm_sameObjects, L_Rm_sameObjects, 1, 12, ⟨R_Rm, "sameObjects", "(IIIIII)I"⟩, prog_14_method_45_code, 8, some .int)
set_option maxRecDepth 100000 in
theorem k_Rm_sameObjects : ∀ q ∈ T_Rm_sameObjects, ck_e 12 prog_14_method_45_code q = true := by decide +kernel
def T_Rm_sameObjectsAsked : List (Nat × c_E) := [(0, (.aload_n 0, 1, v_i 0, 0, 0, 0, [])), (1, (.iload 5, 3, v_i 0, 0, 0, 0, [])), (3, (.iload 6, 5, v_i 0, 0, 0, 0, [])), (5, (.invokevirtual 300, 8, v_r 3, 48, 1, 12, [])), (8, (.ifCond .eq (62), 11, v_i 0, 70, 0, 0, [])), (11, (.aload_n 0, 12, v_i 0, 0, 0, 0, [])), (12, (.getfield 275, 15, v_i 0, 45, 12, 0, [])), (15, (.istore 7, 17, v_i 0, 0, 0, 0, [])), (17, (.aload_n 0, 18, v_i 0, 0, 0, 0, [])), (18, (.getfield 278, 21, v_i 0, 46, 12, 0, [])), (21, (.istore 8, 23, v_i 0, 0, 0, 0, [])), (23, (.aload_n 0, 24, v_i 0, 0, 0, 0, [])), (24, (.aload_n 0, 25, v_i 0, 0, 0, 0, [])), (25, (.getfield 269, 28, v_i 0, 43, 12, 0, [])), (28, (.aload_n 0, 29, v_i 0, 0, 0, 0, [])), (29, (.getfield 272, 32, v_i 0, 44, 12, 0, [])), (32, (.iconst (0), 33, v_i (0), 0, 0, 0, [])), (33, (.invokevirtual 309, 36, v_r 4, 44, 1, 12, [])), (36, (.istore 9, 38, v_i 0, 0, 0, 0, [])), (38, (.aload_n 0, 39, v_i 0, 0, 0, 0, [])), (39, (.iload_n 1, 40, v_i 0, 0, 0, 0, [])), (40, (.aload_n 0, 41, v_i 0, 0, 0, 0, [])), (41, (.iload_n 2, 42, v_i 0, 0, 0, 0, [])), (42, (.iload 9, 44, v_i 0, 0, 0, 0, [])), (44, (.invokevirtual 323, 47, v_r 3, 59, 1, 12, [])), (47, (.iload_n 3, 48, v_i 0, 0, 0, 0, [])), (48, (.aload_n 0, 49, v_i 0, 0, 0, 0, [])), (49, (.iload 4, 51, v_i 0, 0, 0, 0, [])), (51, (.iload 9, 53, v_i 0, 0, 0, 0, [])), (53, (.invokevirtual 323, 56, v_r 3, 59, 1, 12, [])), (56, (.iload 7, 58, v_i 0, 0, 0, 0, [])), (58, (.aload_n 0, 59, v_i 0, 0, 0, 0, [])), (59, (.iload 9, 61, v_i 0, 0, 0, 0, [])), (61, (.iload 8, 63, v_i 0, 0, 0, 0, [])), (63, (.invokevirtual 256, 66, v_r 3, 42, 1, 12, [])), (66, (.invokevirtual 319, 69, v_r 7, 60, 1, 12, [])), (69, (.ireturn, 70, v_i 0, 0, 0, 0, [])), (70, (.aload_n 0, 71, v_i 0, 0, 0, 0, [])), (71, (.iload_n 1, 72, v_i 0, 0, 0, 0, [])), (72, (.iload_n 2, 73, v_i 0, 0, 0, 0, [])), (73, (.invokevirtual 329, 76, v_r 3, 51, 1, 12, [])), (76, (.istore 7, 78, v_i 0, 0, 0, 0, [])), (78, (.iload 7, 80, v_i 0, 0, 0, 0, [])), (80, (.ifCond .le (6), 83, v_i 0, 86, 0, 0, [])), (83, (.iload 7, 85, v_i 0, 0, 0, 0, [])), (85, (.ireturn, 86, v_i 0, 0, 0, 0, [])), (86, (.aload_n 0, 87, v_i 0, 0, 0, 0, [])), (87, (.getfield 284, 90, v_i 0, 51, 12, 0, [])), (90, (.istore 8, 92, v_i 0, 0, 0, 0, [])), (92, (.aload_n 0, 93, v_i 0, 0, 0, 0, [])), (93, (.getfield 287, 96, v_i 0, 52, 12, 0, [])), (96, (.istore 9, 98, v_i 0, 0, 0, 0, [])), (98, (.aload_n 0, 99, v_i 0, 0, 0, 0, [])), (99, (.iload_n 3, 100, v_i 0, 0, 0, 0, [])), (100, (.iload 4, 102, v_i 0, 0, 0, 0, [])), (102, (.invokevirtual 329, 105, v_r 3, 51, 1, 12, [])), (105, (.istore 7, 107, v_i 0, 0, 0, 0, [])), (107, (.iload 7, 109, v_i 0, 0, 0, 0, [])), (109, (.ifCond .le (6), 112, v_i 0, 115, 0, 0, [])), (112, (.iload 7, 114, v_i 0, 0, 0, 0, [])), (114, (.ireturn, 115, v_i 0, 0, 0, 0, [])), (115, (.iload 8, 117, v_i 0, 0, 0, 0, [])), (117, (.aload_n 0, 118, v_i 0, 0, 0, 0, [])), (118, (.getfield 284, 121, v_i 0, 51, 12, 0, [])), (121, (.if_icmp .ne (20), 124, v_i 0, 141, 0, 0, [])), (124, (.aload_n 0, 125, v_i 0, 0, 0, 0, [])), (125, (.iload 9, 127, v_i 0, 0, 0, 0, [])), (127, (.invokevirtual 332, 130, v_r 2, 52, 1, 12, [])), (130, (.aload_n 0, 131, v_i 0, 0, 0, 0, [])), (131, (.aload_n 0, 132, v_i 0, 0, 0, 0, [])), (132, (.getfield 287, 135, v_i 0, 52, 12, 0, [])), (135, (.invokevirtual 332, 138, v_r 2, 52, 1, 12, [])), (138, (.if_icmp .eq (5), 141, v_i 0, 143, 0, 0, [])), (141, (.iconst (0), 142, v_i (0), 0, 0, 0, [])), (142, (.ireturn, 143, v_i 0, 0, 0, 0, [])), (143, (.iload 8, 145, v_i 0, 0, 0, 0, [])), (145, (.ifCond .ge (36), 148, v_i 0, 181, 0, 0, [])), (148, (.aload_n 0, 149, v_i 0, 0, 0, 0, [])), (149, (.aload_n 0, 150, v_i 0, 0, 0, 0, [])), (150, (.getfield 86, 153, v_i 0, 37, 12, 0, [])), (153, (.iload 8, 155, v_i 0, 0, 0, 0, [])), (155, (.ineg, 156, v_i 0, 0, 0, 0, [])), (156, (.iconst (1), 157, v_i (1), 0, 0, 0, [])), (157, (.isub, 158, v_i 0, 0, 0, 0, [])), (158, (.iaload, 159, v_i 0, 0, 0, 0, [])), (159, (.aload_n 0, 160, v_i 0, 0, 0, 0, [])), (160, (.getfield 89, 163, v_i 0, 38, 12, 0, [])), (163, (.iload 8, 165, v_i 0, 0, 0, 0, [])), (165, (.ineg, 166, v_i 0, 0, 0, 0, [])), (166, (.iconst (1), 167, v_i (1), 0, 0, 0, [])), (167, (.isub, 168, v_i 0, 0, 0, 0, [])), (168, (.iaload, 169, v_i 0, 0, 0, 0, [])), (169, (.iload 9, 171, v_i 0, 0, 0, 0, [])), (171, (.aload_n 0, 172, v_i 0, 0, 0, 0, [])), (172, (.getfield 287, 175, v_i 0, 52, 12, 0, [])), (175, (.invokevirtual 316, 178, v_r 5, 58, 1, 12, [])), (178, (.goto (21), 181, v_i 0, 199, 0, 0, [])), (181, (.aload_n 0, 182, v_i 0, 0, 0, 0, [])), (182, (.aload_n 0, 183, v_i 0, 0, 0, 0, [])), (183, (.getfield 58, 186, v_i 0, 25, 12, 0, [])), (186, (.iload 8, 188, v_i 0, 0, 0, 0, [])), (188, (.iaload, 189, v_i 0, 0, 0, 0, [])), (189, (.iconst (-1), 190, v_i (-1), 0, 0, 0, [])), (190, (.iload 9, 192, v_i 0, 0, 0, 0, [])), (192, (.aload_n 0, 193, v_i 0, 0, 0, 0, [])), (193, (.getfield 287, 196, v_i 0, 52, 12, 0, [])), (196, (.invokevirtual 316, 199, v_r 5, 58, 1, 12, [])), (199, (.ireturn, 200, v_i 0, 0, 0, 0, []))]
def L_Rm_sameObjectsAsked : List (Nat × List Nat) := []
def D_Rm_sameObjectsAsked : c_M0 := (T_Rm_sameObjectsAsked, L_Rm_sameObjectsAsked, 1, 12, ⟨R_Rm, "sameObjectsAsked", "(IIIIII)I"⟩, prog_14_method_46_code, 10, some .int)
set_option maxRecDepth 100000 in
theorem k_Rm_sameObjectsAsked : ∀ q ∈ T_Rm_sameObjectsAsked, ck_e 12 prog_14_method_46_code q = true := by decide +kernel
def T_Rm_equalFamilies : List (Nat × c_E) := [(0, (.aload_n 0, 1, v_i 0, 0, 0, 0, [])), (1, (.getfield 217, 4, v_i 0, 30, 12, 0, [])), (4, (.istore 5, 6, v_i 0, 0, 0, 0, [])), (6, (.aload_n 0, 7, v_i 0, 0, 0, 0, [])), (7, (.getfield 220, 10, v_i 0, 33, 12, 0, [])), (10, (.istore 6, 12, v_i 0, 0, 0, 0, [])), (12, (.aload_n 0, 13, v_i 0, 0, 0, 0, [])), (13, (.getfield 223, 16, v_i 0, 36, 12, 0, [])), (16, (.istore 7, 18, v_i 0, 0, 0, 0, [])), (18, (.aload_n 0, 19, v_i 0, 0, 0, 0, [])), (19, (.getfield 226, 22, v_i 0, 40, 12, 0, [])), (22, (.istore 8, 24, v_i 0, 0, 0, 0, [])), (24, (.aload_n 0, 25, v_i 0, 0, 0, 0, [])), (25, (.iconst (0), 26, v_i (0), 0, 0, 0, [])), (26, (.putfield 290, 29, v_i 0, 53, 12, 0, [])), (29, (.aload_n 0, 30, v_i 0, 0, 0, 0, [])), (30, (.iload_n 1, 31, v_i 0, 0, 0, 0, [])), (31, (.iload_n 2, 32, v_i 0, 0, 0, 0, [])), (32, (.iload_n 3, 33, v_i 0, 0, 0, 0, [])), (33, (.iload 4, 35, v_i 0, 0, 0, 0, [])), (35, (.invokevirtual 306, 38, v_r 5, 54, 1, 12, [])), (38, (.istore 9, 40, v_i 0, 0, 0, 0, [])), (40, (.aload_n 0, 41, v_i 0, 0, 0, 0, [])), (41, (.iload 5, 43, v_i 0, 0, 0, 0, [])), (43, (.putfield 217, 46, v_i 0, 30, 12, 0, [])), (46, (.aload_n 0, 47, v_i 0, 0, 0, 0, [])), (47, (.iload 6, 49, v_i 0, 0, 0, 0, [])), (49, (.putfield 220, 52, v_i 0, 33, 12, 0, [])), (52, (.aload_n 0, 53, v_i 0, 0, 0, 0, [])), (53, (.iload 7, 55, v_i 0, 0, 0, 0, [])), (55, (.putfield 223, 58, v_i 0, 36, 12, 0, [])), (58, (.aload_n 0, 59, v_i 0, 0, 0, 0, [])), (59, (.iload 8, 61, v_i 0, 0, 0, 0, [])), (61, (.putfield 226, 64, v_i 0, 40, 12, 0, [])), (64, (.iload 9, 66, v_i 0, 0, 0, 0, [])), (66, (.ireturn, 67, v_i 0, 0, 0, 0, []))]
def L_Rm_equalFamilies : List (Nat × List Nat) := []
def D_Rm_equalFamilies : c_M0 := (T_Rm_equalFamilies, L_Rm_equalFamilies, 1, 12, ⟨R_Rm, "equalFamilies", "(IIII)I"⟩, prog_14_method_47_code, 10, some .int)
set_option maxRecDepth 100000 in
theorem k_Rm_equalFamilies : ∀ q ∈ T_Rm_equalFamilies, ck_e 12 prog_14_method_47_code q = true := by decide +kernel
def T_Rm_wanted : List (Nat × c_E) := [(0, (.aload_n 0, 1, v_i 0, 0, 0, 0, [])), (1, (.iload_n 1, 2, v_i 0, 0, 0, 0, [])), (2, (.iload_n 2, 3, v_i 0, 0, 0, 0, [])), (3, (.iload_n 3, 4, v_i 0, 0, 0, 0, [])), (4, (.iload 4, 6, v_i 0, 0, 0, 0, [])), (6, (.invokevirtual 335, 9, v_r 5, 62, 1, 12, [])), (9, (.istore 6, 11, v_i 0, 0, 0, 0, [])), (11, (.iload 6, 13, v_i 0, 0, 0, 0, [])), (13, (.iconst (1), 14, v_i (1), 0, 0, 0, [])), (14, (.if_icmp .eq (21), 17, v_i 0, 35, 0, 0, [])), (17, (.aload_n 0, 18, v_i 0, 0, 0, 0, [])), (18, (.iload 6, 20, v_i 0, 0, 0, 0, [])), (20, (.ifCond .ne (8), 23, v_i 0, 28, 0, 0, [])), (23, (.bipush (7), 25, v_i (7), 0, 0, 0, [])), (25, (.goto (5), 28, v_i 0, 30, 0, 0, [])), (28, (.iload 6, 30, v_i 0, 0, 0, 0, [])), (30, (.iload 5, 32, v_i 0, 0, 0, 0, [])), (32, (.invokevirtual 160, 35, v_r 3, 25, 0, 12, [])), (35, (.return_, 36, v_i 0, 0, 0, 0, []))]
def L_Rm_wanted : List (Nat × List Nat) := [(30, [5])]
def D_Rm_wanted : c_M0 := (T_Rm_wanted, L_Rm_wanted, 0, 12, ⟨R_Rm, "wanted", "(IIIII)V"⟩, prog_14_method_48_code, 7, none)
set_option maxRecDepth 100000 in
theorem k_Rm_wanted : ∀ q ∈ T_Rm_wanted, ck_e 12 prog_14_method_48_code q = true := by decide +kernel
def T_Rm_bind : List (Nat × c_E) := [(0, (.aload_n 0, 1, v_i 0, 0, 0, 0, [])), (1, (.getfield 101, 4, v_i 0, 56, 12, 0, [])), (4, (.aload_n 0, 5, v_i 0, 0, 0, 0, [])), (5, (.getfield 246, 8, v_i 0, 55, 12, 0, [])), (8, (.aload_n 0, 9, v_i 0, 0, 0, 0, [])), (9, (.getfield 45, 12, v_i 0, 20, 12, 0, [])), (12, (.iload_n 1, 13, v_i 0, 0, 0, 0, [])), (13, (.iaload, 14, v_i 0, 0, 0, 0, [])), (14, (.iastore, 15, v_i 0, 0, 0, 0, [])), (15, (.aload_n 0, 16, v_i 0, 0, 0, 0, [])), (16, (.getfield 104, 19, v_i 0, 57, 12, 0, [])), (19, (.aload_n 0, 20, v_i 0, 0, 0, 0, [])), (20, (.getfield 246, 23, v_i 0, 55, 12, 0, [])), (23, (.aload_n 0, 24, v_i 0, 0, 0, 0, [])), (24, (.getfield 30, 27, v_i 0, 11, 12, 0, [])), (27, (.iload_n 1, 28, v_i 0, 0, 0, 0, [])), (28, (.iaload, 29, v_i 0, 0, 0, 0, [])), (29, (.iastore, 30, v_i 0, 0, 0, 0, [])), (30, (.aload_n 0, 31, v_i 0, 0, 0, 0, [])), (31, (.dup, 32, v_i 0, 0, 0, 0, [])), (32, (.getfield 246, 35, v_i 0, 55, 12, 0, [])), (35, (.iconst (1), 36, v_i (1), 0, 0, 0, [])), (36, (.iadd, 37, v_i 0, 0, 0, 0, [])), (37, (.putfield 246, 40, v_i 0, 55, 12, 0, [])), (40, (.aload_n 0, 41, v_i 0, 0, 0, 0, [])), (41, (.aload_n 0, 42, v_i 0, 0, 0, 0, [])), (42, (.aload_n 0, 43, v_i 0, 0, 0, 0, [])), (43, (.aload_n 0, 44, v_i 0, 0, 0, 0, [])), (44, (.getfield 30, 47, v_i 0, 11, 12, 0, [])), (47, (.iload_n 1, 48, v_i 0, 0, 0, 0, [])), (48, (.iaload, 49, v_i 0, 0, 0, 0, [])), (49, (.aload_n 0, 50, v_i 0, 0, 0, 0, [])), (50, (.getfield 243, 53, v_i 0, 54, 12, 0, [])), (53, (.iconst (0), 54, v_i (0), 0, 0, 0, [])), (54, (.invokevirtual 309, 57, v_r 4, 44, 1, 12, [])), (57, (.aload_n 0, 58, v_i 0, 0, 0, 0, [])), (58, (.getfield 243, 61, v_i 0, 54, 12, 0, [])), (61, (.invokevirtual 256, 64, v_r 3, 42, 1, 12, [])), (64, (.putfield 243, 67, v_i 0, 54, 12, 0, [])), (67, (.return_, 68, v_i 0, 0, 0, 0, []))]
def L_Rm_bind : List (Nat × List Nat) := []
def D_Rm_bind : c_M0 := (T_Rm_bind, L_Rm_bind, 0, 12, ⟨R_Rm, "bind", "(I)V"⟩, prog_14_method_49_code, 2, none)
set_option maxRecDepth 100000 in
theorem k_Rm_bind : ∀ q ∈ T_Rm_bind, ck_e 12 prog_14_method_49_code q = true := by decide +kernel
def T_Rm_unbind : List (Nat × c_E) := [(0, (.aload_n 0, 1, v_i 0, 0, 0, 0, [])), (1, (.dup, 2, v_i 0, 0, 0, 0, [])), (2, (.getfield 246, 5, v_i 0, 55, 12, 0, [])), (5, (.iconst (1), 6, v_i (1), 0, 0, 0, [])), (6, (.isub, 7, v_i 0, 0, 0, 0, [])), (7, (.putfield 246, 10, v_i 0, 55, 12, 0, [])), (10, (.aload_n 0, 11, v_i 0, 0, 0, 0, [])), (11, (.aload_n 0, 12, v_i 0, 0, 0, 0, [])), (12, (.getfield 77, 15, v_i 0, 32, 12, 0, [])), (15, (.aload_n 0, 16, v_i 0, 0, 0, 0, [])), (16, (.getfield 243, 19, v_i 0, 54, 12, 0, [])), (19, (.iaload, 20, v_i 0, 0, 0, 0, [])), (20, (.putfield 243, 23, v_i 0, 54, 12, 0, [])), (23, (.return_, 24, v_i 0, 0, 0, 0, []))]
def L_Rm_unbind : List (Nat × List Nat) := []
def D_Rm_unbind : c_M0 := (T_Rm_unbind, L_Rm_unbind, 0, 12, ⟨R_Rm, "unbind", "()V"⟩, prog_14_method_50_code, 1, none)
set_option maxRecDepth 100000 in
theorem k_Rm_unbind : ∀ q ∈ T_Rm_unbind, ck_e 12 prog_14_method_50_code q = true := by decide +kernel
def T_Rm_find : List (Nat × c_E) := [(0, (.aload_n 0, 1, v_i 0, 0, 0, 0, [])), (1, (.aload_n 0, 2, v_i 0, 0, 0, 0, [])), (2, (.getfield 36, 5, v_i 0, 13, 12, 0, [])), (5, (.iload_n 1, 6, v_i 0, 0, 0, 0, [])), (6, (.iaload, 7, v_i 0, 0, 0, 0, [])), (7, (.invokevirtual 338, 10, v_r 2, 46, 0, 12, [])), (10, (.aload_n 0, 11, v_i 0, 0, 0, 0, [])), (11, (.getfield 152, 14, v_i 0, 9, 12, 0, [])), (14, (.ifCond .le (4), 17, v_i 0, 18, 0, 0, [])), (17, (.return_, 18, v_i 0, 0, 0, 0, [])), (18, (.aload_n 0, 19, v_i 0, 0, 0, 0, [])), (19, (.getfield 36, 22, v_i 0, 13, 12, 0, [])), (22, (.iload_n 1, 23, v_i 0, 0, 0, 0, [])), (23, (.iaload, 24, v_i 0, 0, 0, 0, [])), (24, (.istore_n 2, 25, v_i 0, 0, 0, 0, [])), (25, (.aload_n 0, 26, v_i 0, 0, 0, 0, [])), (26, (.getfield 246, 29, v_i 0, 55, 12, 0, [])), (29, (.iconst (1), 30, v_i (1), 0, 0, 0, [])), (30, (.isub, 31, v_i 0, 0, 0, 0, [])), (31, (.istore_n 3, 32, v_i 0, 0, 0, 0, [])), (32, (.iload_n 3, 33, v_i 0, 0, 0, 0, [])), (33, (.ifCond .lt (78), 36, v_i 0, 111, 0, 0, [])), (36, (.aload_n 0, 37, v_i 0, 0, 0, 0, [])), (37, (.getfield 101, 40, v_i 0, 56, 12, 0, [])), (40, (.iload_n 3, 41, v_i 0, 0, 0, 0, [])), (41, (.iaload, 42, v_i 0, 0, 0, 0, [])), (42, (.istore 4, 44, v_i 0, 0, 0, 0, [])), (44, (.iload 4, 46, v_i 0, 0, 0, 0, [])), (46, (.ifCond .lt (59), 49, v_i 0, 105, 0, 0, [])), (49, (.aload_n 0, 50, v_i 0, 0, 0, 0, [])), (50, (.getfield 19, 53, v_i 0, 6, 12, 0, [])), (53, (.iload 4, 55, v_i 0, 0, 0, 0, [])), (55, (.laload, 56, v_i 0, 0, 0, 0, [])), (56, (.aload_n 0, 57, v_i 0, 0, 0, 0, [])), (57, (.getfield 19, 60, v_i 0, 6, 12, 0, [])), (60, (.iload_n 2, 61, v_i 0, 0, 0, 0, [])), (61, (.laload, 62, v_i 0, 0, 0, 0, [])), (62, (.lcmp, 63, v_i 0, 0, 0, 0, [])), (63, (.ifCond .ne (42), 66, v_i 0, 105, 0, 0, [])), (66, (.aload_n 0, 67, v_i 0, 0, 0, 0, [])), (67, (.getfield 23, 70, v_i 0, 7, 12, 0, [])), (70, (.iload 4, 72, v_i 0, 0, 0, 0, [])), (72, (.laload, 73, v_i 0, 0, 0, 0, [])), (73, (.aload_n 0, 74, v_i 0, 0, 0, 0, [])), (74, (.getfield 23, 77, v_i 0, 7, 12, 0, [])), (77, (.iload_n 2, 78, v_i 0, 0, 0, 0, [])), (78, (.laload, 79, v_i 0, 0, 0, 0, [])), (79, (.lcmp, 80, v_i 0, 0, 0, 0, [])), (80, (.ifCond .ne (25), 83, v_i 0, 105, 0, 0, [])), (83, (.aload_n 0, 84, v_i 0, 0, 0, 0, [])), (84, (.getfield 27, 87, v_i 0, 10, 12, 0, [])), (87, (.iload_n 1, 88, v_i 0, 0, 0, 0, [])), (88, (.iconst (2), 89, v_i (2), 0, 0, 0, [])), (89, (.iastore, 90, v_i 0, 0, 0, 0, [])), (90, (.aload_n 0, 91, v_i 0, 0, 0, 0, [])), (91, (.getfield 30, 94, v_i 0, 11, 12, 0, [])), (94, (.iload_n 1, 95, v_i 0, 0, 0, 0, [])), (95, (.aload_n 0, 96, v_i 0, 0, 0, 0, [])), (96, (.getfield 246, 99, v_i 0, 55, 12, 0, [])), (99, (.iconst (1), 100, v_i (1), 0, 0, 0, [])), (100, (.isub, 101, v_i 0, 0, 0, 0, [])), (101, (.iload_n 3, 102, v_i 0, 0, 0, 0, [])), (102, (.isub, 103, v_i 0, 0, 0, 0, [])), (103, (.iastore, 104, v_i 0, 0, 0, 0, [])), (104, (.return_, 105, v_i 0, 0, 0, 0, [])), (105, (.iinc 3 (-1), 108, v_i (-1), 0, 0, 0, [])), (108, (.goto (-76), 111, v_i 0, 32, 0, 0, [])), (111, (.aload_n 0, 112, v_i 0, 0, 0, 0, [])), (112, (.iload_n 2, 113, v_i 0, 0, 0, 0, [])), (113, (.invokevirtual 341, 116, v_r 2, 40, 1, 12, [])), (116, (.istore_n 3, 117, v_i 0, 0, 0, 0, [])), (117, (.iload_n 3, 118, v_i 0, 0, 0, 0, [])), (118, (.ifCond .ge (10), 121, v_i 0, 128, 0, 0, [])), (121, (.aload_n 0, 122, v_i 0, 0, 0, 0, [])), (122, (.iconst (2), 123, v_i (2), 0, 0, 0, [])), (123, (.iload_n 2, 124, v_i 0, 0, 0, 0, [])), (124, (.invokevirtual 160, 127, v_r 3, 25, 0, 12, [])), (127, (.return_, 128, v_i 0, 0, 0, 0, [])), (128, (.aload_n 0, 129, v_i 0, 0, 0, 0, [])), (129, (.getfield 27, 132, v_i 0, 10, 12, 0, [])), (132, (.iload_n 1, 133, v_i 0, 0, 0, 0, [])), (133, (.iconst (3), 134, v_i (3), 0, 0, 0, [])), (134, (.iastore, 135, v_i 0, 0, 0, 0, [])), (135, (.aload_n 0, 136, v_i 0, 0, 0, 0, [])), (136, (.getfield 30, 139, v_i 0, 11, 12, 0, [])), (139, (.iload_n 1, 140, v_i 0, 0, 0, 0, [])), (140, (.iload_n 3, 141, v_i 0, 0, 0, 0, [])), (141, (.iastore, 142, v_i 0, 0, 0, 0, [])), (142, (.return_, 143, v_i 0, 0, 0, 0, []))]
def L_Rm_find : List (Nat × List Nat) := [(32, [0, 1, 2, 3])]
def D_Rm_find : c_M0 := (T_Rm_find, L_Rm_find, 0, 12, ⟨R_Rm, "find", "(I)V"⟩, prog_14_method_51_code, 5, none)
set_option maxRecDepth 100000 in
theorem k_Rm_find : ∀ q ∈ T_Rm_find, ck_e 12 prog_14_method_51_code q = true := by decide +kernel
def T_Rm_isFamilyNode : List (Nat × c_E) := [(0, (.aload_n 0, 1, v_i 0, 0, 0, 0, [])), (1, (.getfield 27, 4, v_i 0, 10, 12, 0, [])), (4, (.iload_n 1, 5, v_i 0, 0, 0, 0, [])), (5, (.iaload, 6, v_i 0, 0, 0, 0, [])), (6, (.iconst (3), 7, v_i (3), 0, 0, 0, [])), (7, (.if_icmp .ne (21), 10, v_i 0, 28, 0, 0, [])), (10, (.aload_n 0, 11, v_i 0, 0, 0, 0, [])), (11, (.getfield 54, 14, v_i 0, 24, 12, 0, [])), (14, (.aload_n 0, 15, v_i 0, 0, 0, 0, [])), (15, (.getfield 30, 18, v_i 0, 11, 12, 0, [])), (18, (.iload_n 1, 19, v_i 0, 0, 0, 0, [])), (19, (.iaload, 20, v_i 0, 0, 0, 0, [])), (20, (.baload, 21, v_i 0, 0, 0, 0, [])), (21, (.ifCond .eq (7), 24, v_i 0, 28, 0, 0, [])), (24, (.iconst (1), 25, v_i (1), 0, 0, 0, [])), (25, (.goto (4), 28, v_i 0, 29, 0, 0, [])), (28, (.iconst (0), 29, v_i (0), 0, 0, 0, [])), (29, (.ireturn, 30, v_i 0, 0, 0, 0, []))]
def L_Rm_isFamilyNode : List (Nat × List Nat) := []
def D_Rm_isFamilyNode : c_M0 := (T_Rm_isFamilyNode, L_Rm_isFamilyNode, 2, 12, ⟨R_Rm, "isFamilyNode", "(I)Z"⟩, prog_14_method_52_code, 2, some .boolean)
set_option maxRecDepth 100000 in
theorem k_Rm_isFamilyNode : ∀ q ∈ T_Rm_isFamilyNode, ck_e 12 prog_14_method_52_code q = true := by decide +kernel
def T_Rm_family : List (Nat × c_E) := [(0, (.aload_n 0, 1, v_i 0, 0, 0, 0, [])), (1, (.getfield 152, 4, v_i 0, 9, 12, 0, [])), (4, (.ifCond .le (4), 7, v_i 0, 8, 0, 0, [])), (7, (.return_, 8, v_i 0, 0, 0, 0, [])), (8, (.aload_n 0, 9, v_i 0, 0, 0, 0, [])), (9, (.getfield 27, 12, v_i 0, 10, 12, 0, [])), (12, (.iload_n 1, 13, v_i 0, 0, 0, 0, [])), (13, (.iaload, 14, v_i 0, 0, 0, 0, [])), (14, (.tableswitch (143) (1) (6) #[110, 143, 143, 87, 38, 137], 52, v_i 0, 157, 0, 0, [(1, 124), (2, 157), (3, 157), (4, 101), (5, 52), (6, 151)])), (52, (.aload_n 0, 53, v_i 0, 0, 0, 0, [])), (53, (.aload_n 0, 54, v_i 0, 0, 0, 0, [])), (54, (.getfield 39, 57, v_i 0, 14, 12, 0, [])), (57, (.iload_n 1, 58, v_i 0, 0, 0, 0, [])), (58, (.iaload, 59, v_i 0, 0, 0, 0, [])), (59, (.invokevirtual 338, 62, v_r 2, 46, 0, 12, [])), (62, (.aload_n 0, 63, v_i 0, 0, 0, 0, [])), (63, (.aload_n 0, 64, v_i 0, 0, 0, 0, [])), (64, (.getfield 30, 67, v_i 0, 11, 12, 0, [])), (67, (.iload_n 1, 68, v_i 0, 0, 0, 0, [])), (68, (.iaload, 69, v_i 0, 0, 0, 0, [])), (69, (.iconst (0), 70, v_i (0), 0, 0, 0, [])), (70, (.invokevirtual 344, 73, v_r 3, 68, 0, 12, [])), (73, (.aload_n 0, 74, v_i 0, 0, 0, 0, [])), (74, (.getfield 152, 77, v_i 0, 9, 12, 0, [])), (77, (.ifCond .ne (23), 80, v_i 0, 100, 0, 0, [])), (80, (.aload_n 0, 81, v_i 0, 0, 0, 0, [])), (81, (.iload_n 1, 82, v_i 0, 0, 0, 0, [])), (82, (.invokevirtual 348, 85, v_r 2, 64, 0, 12, [])), (85, (.aload_n 0, 86, v_i 0, 0, 0, 0, [])), (86, (.aload_n 0, 87, v_i 0, 0, 0, 0, [])), (87, (.getfield 33, 90, v_i 0, 12, 12, 0, [])), (90, (.iload_n 1, 91, v_i 0, 0, 0, 0, [])), (91, (.iaload, 92, v_i 0, 0, 0, 0, [])), (92, (.iload_n 2, 93, v_i 0, 0, 0, 0, [])), (93, (.invokevirtual 344, 96, v_r 3, 68, 0, 12, [])), (96, (.aload_n 0, 97, v_i 0, 0, 0, 0, [])), (97, (.invokevirtual 351, 100, v_r 1, 65, 0, 12, [])), (100, (.return_, 101, v_i 0, 0, 0, 0, [])), (101, (.aload_n 0, 102, v_i 0, 0, 0, 0, [])), (102, (.aload_n 0, 103, v_i 0, 0, 0, 0, [])), (103, (.getfield 39, 106, v_i 0, 14, 12, 0, [])), (106, (.iload_n 1, 107, v_i 0, 0, 0, 0, [])), (107, (.iaload, 108, v_i 0, 0, 0, 0, [])), (108, (.invokevirtual 338, 111, v_r 2, 46, 0, 12, [])), (111, (.aload_n 0, 112, v_i 0, 0, 0, 0, [])), (112, (.bipush (6), 114, v_i (6), 0, 0, 0, [])), (114, (.aload_n 0, 115, v_i 0, 0, 0, 0, [])), (115, (.getfield 36, 118, v_i 0, 13, 12, 0, [])), (118, (.iload_n 1, 119, v_i 0, 0, 0, 0, [])), (119, (.iaload, 120, v_i 0, 0, 0, 0, [])), (120, (.invokevirtual 160, 123, v_r 3, 25, 0, 12, [])), (123, (.return_, 124, v_i 0, 0, 0, 0, [])), (124, (.aload_n 0, 125, v_i 0, 0, 0, 0, [])), (125, (.aload_n 0, 126, v_i 0, 0, 0, 0, [])), (126, (.getfield 36, 129, v_i 0, 13, 12, 0, [])), (129, (.iload_n 1, 130, v_i 0, 0, 0, 0, [])), (130, (.iaload, 131, v_i 0, 0, 0, 0, [])), (131, (.invokevirtual 338, 134, v_r 2, 46, 0, 12, [])), (134, (.iload_n 2, 135, v_i 0, 0, 0, 0, [])), (135, (.ifCond .ne (15), 138, v_i 0, 150, 0, 0, [])), (138, (.aload_n 0, 139, v_i 0, 0, 0, 0, [])), (139, (.bipush (6), 141, v_i (6), 0, 0, 0, [])), (141, (.aload_n 0, 142, v_i 0, 0, 0, 0, [])), (142, (.getfield 36, 145, v_i 0, 13, 12, 0, [])), (145, (.iload_n 1, 146, v_i 0, 0, 0, 0, [])), (146, (.iaload, 147, v_i 0, 0, 0, 0, [])), (147, (.invokevirtual 160, 150, v_r 3, 25, 0, 12, [])), (150, (.return_, 151, v_i 0, 0, 0, 0, [])), (151, (.aload_n 0, 152, v_i 0, 0, 0, 0, [])), (152, (.iload_n 1, 153, v_i 0, 0, 0, 0, [])), (153, (.invokevirtual 354, 156, v_r 2, 69, 0, 12, [])), (156, (.return_, 157, v_i 0, 0, 0, 0, [])), (157, (.aload_n 0, 158, v_i 0, 0, 0, 0, [])), (158, (.iload_n 1, 159, v_i 0, 0, 0, 0, [])), (159, (.invokevirtual 357, 162, v_r 2, 66, 0, 12, [])), (162, (.aload_n 0, 163, v_i 0, 0, 0, 0, [])), (163, (.getfield 152, 166, v_i 0, 9, 12, 0, [])), (166, (.ifCond .ne (23), 169, v_i 0, 189, 0, 0, [])), (169, (.aload_n 0, 170, v_i 0, 0, 0, 0, [])), (170, (.iload_n 1, 171, v_i 0, 0, 0, 0, [])), (171, (.invokevirtual 360, 174, v_r 2, 67, 1, 12, [])), (174, (.ifCond .ne (15), 177, v_i 0, 189, 0, 0, [])), (177, (.aload_n 0, 178, v_i 0, 0, 0, 0, [])), (178, (.bipush (6), 180, v_i (6), 0, 0, 0, [])), (180, (.aload_n 0, 181, v_i 0, 0, 0, 0, [])), (181, (.getfield 36, 184, v_i 0, 13, 12, 0, [])), (184, (.iload_n 1, 185, v_i 0, 0, 0, 0, [])), (185, (.iaload, 186, v_i 0, 0, 0, 0, [])), (186, (.invokevirtual 160, 189, v_r 3, 25, 0, 12, [])), (189, (.aload_n 0, 190, v_i 0, 0, 0, 0, [])), (190, (.getfield 152, 193, v_i 0, 9, 12, 0, [])), (193, (.ifCond .ne (34), 196, v_i 0, 227, 0, 0, [])), (196, (.aload_n 0, 197, v_i 0, 0, 0, 0, [])), (197, (.getfield 27, 200, v_i 0, 10, 12, 0, [])), (200, (.aload_n 0, 201, v_i 0, 0, 0, 0, [])), (201, (.getfield 58, 204, v_i 0, 25, 12, 0, [])), (204, (.aload_n 0, 205, v_i 0, 0, 0, 0, [])), (205, (.getfield 30, 208, v_i 0, 11, 12, 0, [])), (208, (.iload_n 1, 209, v_i 0, 0, 0, 0, [])), (209, (.iaload, 210, v_i 0, 0, 0, 0, [])), (210, (.iaload, 211, v_i 0, 0, 0, 0, [])), (211, (.iaload, 212, v_i 0, 0, 0, 0, [])), (212, (.iconst (5), 213, v_i (5), 0, 0, 0, [])), (213, (.if_icmp .ne (14), 216, v_i 0, 227, 0, 0, [])), (216, (.aload_n 0, 217, v_i 0, 0, 0, 0, [])), (217, (.iconst (4), 218, v_i (4), 0, 0, 0, [])), (218, (.aload_n 0, 219, v_i 0, 0, 0, 0, [])), (219, (.getfield 36, 222, v_i 0, 13, 12, 0, [])), (222, (.iload_n 1, 223, v_i 0, 0, 0, 0, [])), (223, (.iaload, 224, v_i 0, 0, 0, 0, [])), (224, (.invokevirtual 160, 227, v_r 3, 25, 0, 12, [])), (227, (.return_, 228, v_i 0, 0, 0, 0, []))]
def L_Rm_family : List (Nat × List Nat) := [(189, [0, 1])]
def D_Rm_family : c_M0 := (T_Rm_family, L_Rm_family, 0, 12, ⟨R_Rm, "family", "(IZ)V"⟩, prog_14_method_53_code, 3, none)
set_option maxRecDepth 100000 in
theorem k_Rm_family : ∀ q ∈ T_Rm_family, ck_e 12 prog_14_method_53_code q = true := by decide +kernel
def T_Rm_familyBehind : List (Nat × c_E) := [(0, (.iload_n 1, 1, v_i 0, 0, 0, 0, [])), (1, (.istore_n 2, 2, v_i 0, 0, 0, 0, [])), (2, (.aload_n 0, 3, v_i 0, 0, 0, 0, [])), (3, (.getfield 363, 6, v_i 0, 59, 12, 0, [])), (6, (.istore_n 3, 7, v_i 0, 0, 0, 0, [])), (7, (.aload_n 0, 8, v_i 0, 0, 0, 0, [])), (8, (.getfield 27, 11, v_i 0, 10, 12, 0, [])), (11, (.iload_n 2, 12, v_i 0, 0, 0, 0, [])), (12, (.iaload, 13, v_i 0, 0, 0, 0, [])), (13, (.bipush (6), 15, v_i (6), 0, 0, 0, [])), (15, (.if_icmp .ne (47), 18, v_i 0, 62, 0, 0, [])), (18, (.iload_n 2, 19, v_i 0, 0, 0, 0, [])), (19, (.iload_n 1, 20, v_i 0, 0, 0, 0, [])), (20, (.if_icmp .eq (12), 23, v_i 0, 32, 0, 0, [])), (23, (.aload_n 0, 24, v_i 0, 0, 0, 0, [])), (24, (.getfield 42, 27, v_i 0, 15, 12, 0, [])), (27, (.iload_n 2, 28, v_i 0, 0, 0, 0, [])), (28, (.iaload, 29, v_i 0, 0, 0, 0, [])), (29, (.ifCond .ge (33), 32, v_i 0, 62, 0, 0, [])), (32, (.aload_n 0, 33, v_i 0, 0, 0, 0, [])), (33, (.getfield 107, 36, v_i 0, 58, 12, 0, [])), (36, (.aload_n 0, 37, v_i 0, 0, 0, 0, [])), (37, (.getfield 363, 40, v_i 0, 59, 12, 0, [])), (40, (.iload_n 2, 41, v_i 0, 0, 0, 0, [])), (41, (.iastore, 42, v_i 0, 0, 0, 0, [])), (42, (.aload_n 0, 43, v_i 0, 0, 0, 0, [])), (43, (.dup, 44, v_i 0, 0, 0, 0, [])), (44, (.getfield 363, 47, v_i 0, 59, 12, 0, [])), (47, (.iconst (1), 48, v_i (1), 0, 0, 0, [])), (48, (.iadd, 49, v_i 0, 0, 0, 0, [])), (49, (.putfield 363, 52, v_i 0, 59, 12, 0, [])), (52, (.aload_n 0, 53, v_i 0, 0, 0, 0, [])), (53, (.getfield 30, 56, v_i 0, 11, 12, 0, [])), (56, (.iload_n 2, 57, v_i 0, 0, 0, 0, [])), (57, (.iaload, 58, v_i 0, 0, 0, 0, [])), (58, (.istore_n 2, 59, v_i 0, 0, 0, 0, [])), (59, (.goto (-52), 62, v_i 0, 7, 0, 0, [])), (62, (.aload_n 0, 63, v_i 0, 0, 0, 0, [])), (63, (.getfield 42, 66, v_i 0, 15, 12, 0, [])), (66, (.iload_n 2, 67, v_i 0, 0, 0, 0, [])), (67, (.iaload, 68, v_i 0, 0, 0, 0, [])), (68, (.ifCond .lt (21), 71, v_i 0, 89, 0, 0, [])), (71, (.iload_n 2, 72, v_i 0, 0, 0, 0, [])), (72, (.iload_n 1, 73, v_i 0, 0, 0, 0, [])), (73, (.if_icmp .eq (16), 76, v_i 0, 89, 0, 0, [])), (76, (.aload_n 0, 77, v_i 0, 0, 0, 0, [])), (77, (.bipush (6), 79, v_i (6), 0, 0, 0, [])), (79, (.aload_n 0, 80, v_i 0, 0, 0, 0, [])), (80, (.getfield 42, 83, v_i 0, 15, 12, 0, [])), (83, (.iload_n 2, 84, v_i 0, 0, 0, 0, [])), (84, (.iaload, 85, v_i 0, 0, 0, 0, [])), (85, (.invokevirtual 160, 88, v_r 3, 25, 0, 12, [])), (88, (.return_, 89, v_i 0, 0, 0, 0, [])), (89, (.aload_n 0, 90, v_i 0, 0, 0, 0, [])), (90, (.getfield 27, 93, v_i 0, 10, 12, 0, [])), (93, (.iload_n 2, 94, v_i 0, 0, 0, 0, [])), (94, (.iaload, 95, v_i 0, 0, 0, 0, [])), (95, (.iconst (1), 96, v_i (1), 0, 0, 0, [])), (96, (.if_icmp .ne (26), 99, v_i 0, 122, 0, 0, [])), (99, (.aload_n 0, 100, v_i 0, 0, 0, 0, [])), (100, (.aload_n 0, 101, v_i 0, 0, 0, 0, [])), (101, (.getfield 36, 104, v_i 0, 13, 12, 0, [])), (104, (.iload_n 2, 105, v_i 0, 0, 0, 0, [])), (105, (.iaload, 106, v_i 0, 0, 0, 0, [])), (106, (.invokevirtual 338, 109, v_r 2, 46, 0, 12, [])), (109, (.aload_n 0, 110, v_i 0, 0, 0, 0, [])), (110, (.bipush (6), 112, v_i (6), 0, 0, 0, [])), (112, (.aload_n 0, 113, v_i 0, 0, 0, 0, [])), (113, (.getfield 36, 116, v_i 0, 13, 12, 0, [])), (116, (.iload_n 2, 117, v_i 0, 0, 0, 0, [])), (117, (.iaload, 118, v_i 0, 0, 0, 0, [])), (118, (.invokevirtual 160, 121, v_r 3, 25, 0, 12, [])), (121, (.return_, 122, v_i 0, 0, 0, 0, [])), (122, (.aload_n 0, 123, v_i 0, 0, 0, 0, [])), (123, (.iload_n 2, 124, v_i 0, 0, 0, 0, [])), (124, (.invokevirtual 357, 127, v_r 2, 66, 0, 12, [])), (127, (.aload_n 0, 128, v_i 0, 0, 0, 0, [])), (128, (.getfield 152, 131, v_i 0, 9, 12, 0, [])), (131, (.ifCond .ne (23), 134, v_i 0, 154, 0, 0, [])), (134, (.aload_n 0, 135, v_i 0, 0, 0, 0, [])), (135, (.iload_n 2, 136, v_i 0, 0, 0, 0, [])), (136, (.invokevirtual 360, 139, v_r 2, 67, 1, 12, [])), (139, (.ifCond .ne (15), 142, v_i 0, 154, 0, 0, [])), (142, (.aload_n 0, 143, v_i 0, 0, 0, 0, [])), (143, (.bipush (6), 145, v_i (6), 0, 0, 0, [])), (145, (.aload_n 0, 146, v_i 0, 0, 0, 0, [])), (146, (.getfield 36, 149, v_i 0, 13, 12, 0, [])), (149, (.iload_n 2, 150, v_i 0, 0, 0, 0, [])), (150, (.iaload, 151, v_i 0, 0, 0, 0, [])), (151, (.invokevirtual 160, 154, v_r 3, 25, 0, 12, [])), (154, (.aload_n 0, 155, v_i 0, 0, 0, 0, [])), (155, (.getfield 152, 158, v_i 0, 9, 12, 0, [])), (158, (.ifCond .le (4), 161, v_i 0, 162, 0, 0, [])), (161, (.return_, 162, v_i 0, 0, 0, 0, [])), (162, (.aload_n 0, 163, v_i 0, 0, 0, 0, [])), (163, (.getfield 58, 166, v_i 0, 25, 12, 0, [])), (166, (.aload_n 0, 167, v_i 0, 0, 0, 0, [])), (167, (.getfield 30, 170, v_i 0, 11, 12, 0, [])), (170, (.iload_n 2, 171, v_i 0, 0, 0, 0, [])), (171, (.iaload, 172, v_i 0, 0, 0, 0, [])), (172, (.iaload, 173, v_i 0, 0, 0, 0, [])), (173, (.istore 4, 175, v_i 0, 0, 0, 0, [])), (175, (.iconst (-1), 176, v_i (-1), 0, 0, 0, [])), (176, (.istore 5, 178, v_i 0, 0, 0, 0, [])), (178, (.aload_n 0, 179, v_i 0, 0, 0, 0, [])), (179, (.getfield 363, 182, v_i 0, 59, 12, 0, [])), (182, (.iload_n 3, 183, v_i 0, 0, 0, 0, [])), (183, (.if_icmp .le (169), 186, v_i 0, 352, 0, 0, [])), (186, (.aload_n 0, 187, v_i 0, 0, 0, 0, [])), (187, (.getfield 152, 190, v_i 0, 9, 12, 0, [])), (190, (.ifCond .ne (162), 193, v_i 0, 352, 0, 0, [])), (193, (.aload_n 0, 194, v_i 0, 0, 0, 0, [])), (194, (.getfield 107, 197, v_i 0, 58, 12, 0, [])), (197, (.aload_n 0, 198, v_i 0, 0, 0, 0, [])), (198, (.getfield 363, 201, v_i 0, 59, 12, 0, [])), (201, (.iconst (1), 202, v_i (1), 0, 0, 0, [])), (202, (.isub, 203, v_i 0, 0, 0, 0, [])), (203, (.iaload, 204, v_i 0, 0, 0, 0, [])), (204, (.istore 6, 206, v_i 0, 0, 0, 0, [])), (206, (.aload_n 0, 207, v_i 0, 0, 0, 0, [])), (207, (.dup, 208, v_i 0, 0, 0, 0, [])), (208, (.getfield 363, 211, v_i 0, 59, 12, 0, [])), (211, (.iconst (1), 212, v_i (1), 0, 0, 0, [])), (212, (.isub, 213, v_i 0, 0, 0, 0, [])), (213, (.putfield 363, 216, v_i 0, 59, 12, 0, [])), (216, (.aload_n 0, 217, v_i 0, 0, 0, 0, [])), (217, (.aload_n 0, 218, v_i 0, 0, 0, 0, [])), (218, (.getfield 39, 221, v_i 0, 14, 12, 0, [])), (221, (.iload 6, 223, v_i 0, 0, 0, 0, [])), (223, (.iaload, 224, v_i 0, 0, 0, 0, [])), (224, (.invokevirtual 338, 227, v_r 2, 46, 0, 12, [])), (227, (.aload_n 0, 228, v_i 0, 0, 0, 0, [])), (228, (.getfield 152, 231, v_i 0, 9, 12, 0, [])), (231, (.ifCond .ne (26), 234, v_i 0, 257, 0, 0, [])), (234, (.aload_n 0, 235, v_i 0, 0, 0, 0, [])), (235, (.iload 4, 237, v_i 0, 0, 0, 0, [])), (237, (.iload 5, 239, v_i 0, 0, 0, 0, [])), (239, (.invokevirtual 300, 242, v_r 3, 48, 1, 12, [])), (242, (.ifCond .ne (15), 245, v_i 0, 257, 0, 0, [])), (245, (.aload_n 0, 246, v_i 0, 0, 0, 0, [])), (246, (.iconst (4), 247, v_i (4), 0, 0, 0, [])), (247, (.aload_n 0, 248, v_i 0, 0, 0, 0, [])), (248, (.getfield 39, 251, v_i 0, 14, 12, 0, [])), (251, (.iload 6, 253, v_i 0, 0, 0, 0, [])), (253, (.iaload, 254, v_i 0, 0, 0, 0, [])), (254, (.invokevirtual 160, 257, v_r 3, 25, 0, 12, [])), (257, (.aload_n 0, 258, v_i 0, 0, 0, 0, [])), (258, (.getfield 269, 261, v_i 0, 43, 12, 0, [])), (261, (.istore 7, 263, v_i 0, 0, 0, 0, [])), (263, (.aload_n 0, 264, v_i 0, 0, 0, 0, [])), (264, (.getfield 272, 267, v_i 0, 44, 12, 0, [])), (267, (.istore 8, 269, v_i 0, 0, 0, 0, [])), (269, (.aload_n 0, 270, v_i 0, 0, 0, 0, [])), (270, (.getfield 275, 273, v_i 0, 45, 12, 0, [])), (273, (.istore 9, 275, v_i 0, 0, 0, 0, [])), (275, (.aload_n 0, 276, v_i 0, 0, 0, 0, [])), (276, (.getfield 278, 279, v_i 0, 46, 12, 0, [])), (279, (.istore 10, 281, v_i 0, 0, 0, 0, [])), (281, (.aload_n 0, 282, v_i 0, 0, 0, 0, [])), (282, (.aload_n 0, 283, v_i 0, 0, 0, 0, [])), (283, (.getfield 33, 286, v_i 0, 12, 12, 0, [])), (286, (.iload 6, 288, v_i 0, 0, 0, 0, [])), (288, (.iaload, 289, v_i 0, 0, 0, 0, [])), (289, (.invokevirtual 366, 292, v_r 2, 71, 0, 12, [])), (292, (.aload_n 0, 293, v_i 0, 0, 0, 0, [])), (293, (.getfield 152, 296, v_i 0, 9, 12, 0, [])), (296, (.ifCond .ne (53), 299, v_i 0, 349, 0, 0, [])), (299, (.aload_n 0, 300, v_i 0, 0, 0, 0, [])), (300, (.aload_n 0, 301, v_i 0, 0, 0, 0, [])), (301, (.getfield 369, 304, v_i 0, 60, 12, 0, [])), (304, (.aload_n 0, 305, v_i 0, 0, 0, 0, [])), (305, (.getfield 372, 308, v_i 0, 61, 12, 0, [])), (308, (.iload 7, 310, v_i 0, 0, 0, 0, [])), (310, (.iload 8, 312, v_i 0, 0, 0, 0, [])), (312, (.aload_n 0, 313, v_i 0, 0, 0, 0, [])), (313, (.getfield 39, 316, v_i 0, 14, 12, 0, [])), (316, (.iload 6, 318, v_i 0, 0, 0, 0, [])), (318, (.iaload, 319, v_i 0, 0, 0, 0, [])), (319, (.invokevirtual 375, 322, v_r 6, 63, 0, 12, [])), (322, (.iload 9, 324, v_i 0, 0, 0, 0, [])), (324, (.istore 4, 326, v_i 0, 0, 0, 0, [])), (326, (.aload_n 0, 327, v_i 0, 0, 0, 0, [])), (327, (.aload_n 0, 328, v_i 0, 0, 0, 0, [])), (328, (.aload_n 0, 329, v_i 0, 0, 0, 0, [])), (329, (.getfield 33, 332, v_i 0, 12, 12, 0, [])), (332, (.iload 6, 334, v_i 0, 0, 0, 0, [])), (334, (.iaload, 335, v_i 0, 0, 0, 0, [])), (335, (.aload_n 0, 336, v_i 0, 0, 0, 0, [])), (336, (.getfield 243, 339, v_i 0, 54, 12, 0, [])), (339, (.invokevirtual 229, 342, v_r 3, 41, 1, 12, [])), (342, (.iload 10, 344, v_i 0, 0, 0, 0, [])), (344, (.invokevirtual 256, 347, v_r 3, 42, 1, 12, [])), (347, (.istore 5, 349, v_i 0, 0, 0, 0, [])), (349, (.goto (-171), 352, v_i 0, 178, 0, 0, [])), (352, (.aload_n 0, 353, v_i 0, 0, 0, 0, [])), (353, (.getfield 152, 356, v_i 0, 9, 12, 0, [])), (356, (.ifCond .ne (25), 359, v_i 0, 381, 0, 0, [])), (359, (.aload_n 0, 360, v_i 0, 0, 0, 0, [])), (360, (.iload 4, 362, v_i 0, 0, 0, 0, [])), (362, (.iload 5, 364, v_i 0, 0, 0, 0, [])), (364, (.invokevirtual 300, 367, v_r 3, 48, 1, 12, [])), (367, (.ifCond .eq (14), 370, v_i 0, 381, 0, 0, [])), (370, (.aload_n 0, 371, v_i 0, 0, 0, 0, [])), (371, (.iconst (4), 372, v_i (4), 0, 0, 0, [])), (372, (.aload_n 0, 373, v_i 0, 0, 0, 0, [])), (373, (.getfield 36, 376, v_i 0, 13, 12, 0, [])), (376, (.iload_n 2, 377, v_i 0, 0, 0, 0, [])), (377, (.iaload, 378, v_i 0, 0, 0, 0, [])), (378, (.invokevirtual 160, 381, v_r 3, 25, 0, 12, [])), (381, (.return_, 382, v_i 0, 0, 0, 0, []))]
def L_Rm_familyBehind : List (Nat × List Nat) := [(7, [0, 1, 2, 3]), (32, [0, 1, 2, 3]), (62, [0, 1, 2, 3]), (89, [0, 2, 3]), (154, [0, 2, 3]), (178, [0, 2, 3, 4, 5]), (257, [0, 2, 3, 4, 5, 6]), (352, [0, 2, 4, 5])]
def D_Rm_familyBehind : c_M0 := (T_Rm_familyBehind, L_Rm_familyBehind, 0, 12, ⟨R_Rm, "familyBehind", "(I)V"⟩, prog_14_method_54_code, 11, none)
set_option maxRecDepth 100000 in
theorem k_Rm_familyBehind : ∀ q ∈ T_Rm_familyBehind, ck_e 12 prog_14_method_54_code q = true := by decide +kernel
def T_Rm_is : List (Nat × c_E) := [(0, (.aload_n 0, 1, v_i 0, 0, 0, 0, [])), (1, (.iload_n 1, 2, v_i 0, 0, 0, 0, [])), (2, (.putfield 369, 5, v_i 0, 60, 12, 0, [])), (5, (.aload_n 0, 6, v_i 0, 0, 0, 0, [])), (6, (.iload_n 2, 7, v_i 0, 0, 0, 0, [])), (7, (.putfield 372, 10, v_i 0, 61, 12, 0, [])), (10, (.aload_n 0, 11, v_i 0, 0, 0, 0, [])), (11, (.iload_n 3, 12, v_i 0, 0, 0, 0, [])), (12, (.putfield 379, 15, v_i 0, 62, 12, 0, [])), (15, (.return_, 16, v_i 0, 0, 0, 0, []))]
def L_Rm_is : List (Nat × List Nat) := []
def D_Rm_is : c_M0 := (T_Rm_is, L_Rm_is, 0, 12, ⟨R_Rm, "is", "(III)V"⟩, prog_14_method_55_code, 4, none)
set_option maxRecDepth 100000 in
theorem k_Rm_is : ∀ q ∈ T_Rm_is, ck_e 12 prog_14_method_55_code q = true := by decide +kernel
def T_Rm_object : List (Nat × c_E) := [(0, (.aload_n 0, 1, v_i 0, 0, 0, 0, [])), (1, (.getfield 152, 4, v_i 0, 9, 12, 0, [])), (4, (.ifCond .le (4), 7, v_i 0, 8, 0, 0, [])), (7, (.return_, 8, v_i 0, 0, 0, 0, [])), (8, (.aload_n 0, 9, v_i 0, 0, 0, 0, [])), (9, (.getfield 27, 12, v_i 0, 10, 12, 0, [])), (12, (.iload_n 1, 13, v_i 0, 0, 0, 0, [])), (13, (.iaload, 14, v_i 0, 0, 0, 0, [])), (14, (.tableswitch (96) (1) (6) #[61, 96, 96, 84, 38, 90], 52, v_i 0, 110, 0, 0, [(1, 75), (2, 110), (3, 110), (4, 98), (5, 52), (6, 104)])), (52, (.aload_n 0, 53, v_i 0, 0, 0, 0, [])), (53, (.aload_n 0, 54, v_i 0, 0, 0, 0, [])), (54, (.getfield 39, 57, v_i 0, 14, 12, 0, [])), (57, (.iload_n 1, 58, v_i 0, 0, 0, 0, [])), (58, (.iaload, 59, v_i 0, 0, 0, 0, [])), (59, (.invokevirtual 338, 62, v_r 2, 46, 0, 12, [])), (62, (.aload_n 0, 63, v_i 0, 0, 0, 0, [])), (63, (.bipush (6), 65, v_i (6), 0, 0, 0, [])), (65, (.aload_n 0, 66, v_i 0, 0, 0, 0, [])), (66, (.getfield 36, 69, v_i 0, 13, 12, 0, [])), (69, (.iload_n 1, 70, v_i 0, 0, 0, 0, [])), (70, (.iaload, 71, v_i 0, 0, 0, 0, [])), (71, (.invokevirtual 160, 74, v_r 3, 25, 0, 12, [])), (74, (.return_, 75, v_i 0, 0, 0, 0, [])), (75, (.aload_n 0, 76, v_i 0, 0, 0, 0, [])), (76, (.aload_n 0, 77, v_i 0, 0, 0, 0, [])), (77, (.getfield 36, 80, v_i 0, 13, 12, 0, [])), (80, (.iload_n 1, 81, v_i 0, 0, 0, 0, [])), (81, (.iaload, 82, v_i 0, 0, 0, 0, [])), (82, (.invokevirtual 338, 85, v_r 2, 46, 0, 12, [])), (85, (.aload_n 0, 86, v_i 0, 0, 0, 0, [])), (86, (.bipush (6), 88, v_i (6), 0, 0, 0, [])), (88, (.aload_n 0, 89, v_i 0, 0, 0, 0, [])), (89, (.getfield 36, 92, v_i 0, 13, 12, 0, [])), (92, (.iload_n 1, 93, v_i 0, 0, 0, 0, [])), (93, (.iaload, 94, v_i 0, 0, 0, 0, [])), (94, (.invokevirtual 160, 97, v_r 3, 25, 0, 12, [])), (97, (.return_, 98, v_i 0, 0, 0, 0, [])), (98, (.aload_n 0, 99, v_i 0, 0, 0, 0, [])), (99, (.iload_n 1, 100, v_i 0, 0, 0, 0, [])), (100, (.invokevirtual 382, 103, v_r 2, 73, 0, 12, [])), (103, (.return_, 104, v_i 0, 0, 0, 0, [])), (104, (.aload_n 0, 105, v_i 0, 0, 0, 0, [])), (105, (.iload_n 1, 106, v_i 0, 0, 0, 0, [])), (106, (.invokevirtual 385, 109, v_r 2, 74, 0, 12, [])), (109, (.return_, 110, v_i 0, 0, 0, 0, [])), (110, (.aload_n 0, 111, v_i 0, 0, 0, 0, [])), (111, (.iload_n 1, 112, v_i 0, 0, 0, 0, [])), (112, (.invokevirtual 357, 115, v_r 2, 66, 0, 12, [])), (115, (.aload_n 0, 116, v_i 0, 0, 0, 0, [])), (116, (.iload_n 1, 117, v_i 0, 0, 0, 0, [])), (117, (.invokevirtual 388, 120, v_r 2, 72, 0, 12, [])), (120, (.return_, 121, v_i 0, 0, 0, 0, []))]
def L_Rm_object : List (Nat × List Nat) := []
def D_Rm_object : c_M0 := (T_Rm_object, L_Rm_object, 0, 12, ⟨R_Rm, "object", "(I)V"⟩, prog_14_method_56_code, 2, none)
set_option maxRecDepth 100000 in
theorem k_Rm_object : ∀ q ∈ T_Rm_object, ck_e 12 prog_14_method_56_code q = true := by decide +kernel
def T_Rm_name : List (Nat × c_E) := [(0, (.aload_n 0, 1, v_i 0, 0, 0, 0, [])), (1, (.getfield 152, 4, v_i 0, 9, 12, 0, [])), (4, (.ifCond .le (4), 7, v_i 0, 8, 0, 0, [])), (7, (.return_, 8, v_i 0, 0, 0, 0, [])), (8, (.aload_n 0, 9, v_i 0, 0, 0, 0, [])), (9, (.iload_n 1, 10, v_i 0, 0, 0, 0, [])), (10, (.invokevirtual 360, 13, v_r 2, 67, 1, 12, [])), (13, (.ifCond .eq (16), 16, v_i 0, 29, 0, 0, [])), (16, (.aload_n 0, 17, v_i 0, 0, 0, 0, [])), (17, (.bipush (6), 19, v_i (6), 0, 0, 0, [])), (19, (.aload_n 0, 20, v_i 0, 0, 0, 0, [])), (20, (.getfield 36, 23, v_i 0, 13, 12, 0, [])), (23, (.iload_n 1, 24, v_i 0, 0, 0, 0, [])), (24, (.iaload, 25, v_i 0, 0, 0, 0, [])), (25, (.invokevirtual 160, 28, v_r 3, 25, 0, 12, [])), (28, (.return_, 29, v_i 0, 0, 0, 0, [])), (29, (.aload_n 0, 30, v_i 0, 0, 0, 0, [])), (30, (.getfield 27, 33, v_i 0, 10, 12, 0, [])), (33, (.iload_n 1, 34, v_i 0, 0, 0, 0, [])), (34, (.iaload, 35, v_i 0, 0, 0, 0, [])), (35, (.iconst (2), 36, v_i (2), 0, 0, 0, [])), (36, (.if_icmp .ne (38), 39, v_i 0, 74, 0, 0, [])), (39, (.aload_n 0, 40, v_i 0, 0, 0, 0, [])), (40, (.bipush (7), 42, v_i (7), 0, 0, 0, [])), (42, (.aload_n 0, 43, v_i 0, 0, 0, 0, [])), (43, (.getfield 30, 46, v_i 0, 11, 12, 0, [])), (46, (.iload_n 1, 47, v_i 0, 0, 0, 0, [])), (47, (.iaload, 48, v_i 0, 0, 0, 0, [])), (48, (.iconst (1), 49, v_i (1), 0, 0, 0, [])), (49, (.iadd, 50, v_i 0, 0, 0, 0, [])), (50, (.aload_n 0, 51, v_i 0, 0, 0, 0, [])), (51, (.getfield 104, 54, v_i 0, 57, 12, 0, [])), (54, (.aload_n 0, 55, v_i 0, 0, 0, 0, [])), (55, (.getfield 246, 58, v_i 0, 55, 12, 0, [])), (58, (.iconst (1), 59, v_i (1), 0, 0, 0, [])), (59, (.isub, 60, v_i 0, 0, 0, 0, [])), (60, (.aload_n 0, 61, v_i 0, 0, 0, 0, [])), (61, (.getfield 30, 64, v_i 0, 11, 12, 0, [])), (64, (.iload_n 1, 65, v_i 0, 0, 0, 0, [])), (65, (.iaload, 66, v_i 0, 0, 0, 0, [])), (66, (.isub, 67, v_i 0, 0, 0, 0, [])), (67, (.iaload, 68, v_i 0, 0, 0, 0, [])), (68, (.invokevirtual 391, 71, v_r 4, 31, 1, 12, [])), (71, (.goto (16), 74, v_i 0, 87, 0, 0, [])), (74, (.aload_n 0, 75, v_i 0, 0, 0, 0, [])), (75, (.bipush (8), 77, v_i (8), 0, 0, 0, [])), (77, (.aload_n 0, 78, v_i 0, 0, 0, 0, [])), (78, (.getfield 30, 81, v_i 0, 11, 12, 0, [])), (81, (.iload_n 1, 82, v_i 0, 0, 0, 0, [])), (82, (.iaload, 83, v_i 0, 0, 0, 0, [])), (83, (.iconst (-1), 84, v_i (-1), 0, 0, 0, [])), (84, (.invokevirtual 391, 87, v_r 4, 31, 1, 12, [])), (87, (.istore_n 2, 88, v_i 0, 0, 0, 0, [])), (88, (.aload_n 0, 89, v_i 0, 0, 0, 0, [])), (89, (.iload_n 2, 90, v_i 0, 0, 0, 0, [])), (90, (.aload_n 0, 91, v_i 0, 0, 0, 0, [])), (91, (.getfield 243, 94, v_i 0, 54, 12, 0, [])), (94, (.iload_n 2, 95, v_i 0, 0, 0, 0, [])), (95, (.invokevirtual 394, 98, v_r 4, 70, 0, 12, [])), (98, (.return_, 99, v_i 0, 0, 0, 0, []))]
def L_Rm_name : List (Nat × List Nat) := [(87, [0])]
def D_Rm_name : c_M0 := (T_Rm_name, L_Rm_name, 0, 12, ⟨R_Rm, "name", "(I)V"⟩, prog_14_method_57_code, 3, none)
set_option maxRecDepth 100000 in
theorem k_Rm_name : ∀ q ∈ T_Rm_name, ck_e 12 prog_14_method_57_code q = true := by decide +kernel
def T_Rm_lambda : List (Nat × c_E) := [(0, (.aload_n 0, 1, v_i 0, 0, 0, 0, [])), (1, (.aload_n 0, 2, v_i 0, 0, 0, 0, [])), (2, (.getfield 39, 5, v_i 0, 14, 12, 0, [])), (5, (.iload_n 1, 6, v_i 0, 0, 0, 0, [])), (6, (.iaload, 7, v_i 0, 0, 0, 0, [])), (7, (.invokevirtual 338, 10, v_r 2, 46, 0, 12, [])), (10, (.aload_n 0, 11, v_i 0, 0, 0, 0, [])), (11, (.aload_n 0, 12, v_i 0, 0, 0, 0, [])), (12, (.getfield 30, 15, v_i 0, 11, 12, 0, [])), (15, (.iload_n 1, 16, v_i 0, 0, 0, 0, [])), (16, (.iaload, 17, v_i 0, 0, 0, 0, [])), (17, (.iconst (0), 18, v_i (0), 0, 0, 0, [])), (18, (.invokevirtual 344, 21, v_r 3, 68, 0, 12, [])), (21, (.aload_n 0, 22, v_i 0, 0, 0, 0, [])), (22, (.getfield 152, 25, v_i 0, 9, 12, 0, [])), (25, (.ifCond .le (4), 28, v_i 0, 29, 0, 0, [])), (28, (.return_, 29, v_i 0, 0, 0, 0, [])), (29, (.aload_n 0, 30, v_i 0, 0, 0, 0, [])), (30, (.iload_n 1, 31, v_i 0, 0, 0, 0, [])), (31, (.invokevirtual 348, 34, v_r 2, 64, 0, 12, [])), (34, (.aload_n 0, 35, v_i 0, 0, 0, 0, [])), (35, (.aload_n 0, 36, v_i 0, 0, 0, 0, [])), (36, (.getfield 33, 39, v_i 0, 12, 12, 0, [])), (39, (.iload_n 1, 40, v_i 0, 0, 0, 0, [])), (40, (.iaload, 41, v_i 0, 0, 0, 0, [])), (41, (.invokevirtual 366, 44, v_r 2, 71, 0, 12, [])), (44, (.aload_n 0, 45, v_i 0, 0, 0, 0, [])), (45, (.invokevirtual 351, 48, v_r 1, 65, 0, 12, [])), (48, (.aload_n 0, 49, v_i 0, 0, 0, 0, [])), (49, (.getfield 152, 52, v_i 0, 9, 12, 0, [])), (52, (.ifCond .ne (30), 55, v_i 0, 82, 0, 0, [])), (55, (.aload_n 0, 56, v_i 0, 0, 0, 0, [])), (56, (.bipush (9), 58, v_i (9), 0, 0, 0, [])), (58, (.aload_n 0, 59, v_i 0, 0, 0, 0, [])), (59, (.getfield 30, 62, v_i 0, 11, 12, 0, [])), (62, (.iload_n 1, 63, v_i 0, 0, 0, 0, [])), (63, (.iaload, 64, v_i 0, 0, 0, 0, [])), (64, (.aload_n 0, 65, v_i 0, 0, 0, 0, [])), (65, (.getfield 379, 68, v_i 0, 62, 12, 0, [])), (68, (.invokevirtual 391, 71, v_r 4, 31, 1, 12, [])), (71, (.istore_n 2, 72, v_i 0, 0, 0, 0, [])), (72, (.aload_n 0, 73, v_i 0, 0, 0, 0, [])), (73, (.iload_n 2, 74, v_i 0, 0, 0, 0, [])), (74, (.aload_n 0, 75, v_i 0, 0, 0, 0, [])), (75, (.getfield 243, 78, v_i 0, 54, 12, 0, [])), (78, (.iload_n 2, 79, v_i 0, 0, 0, 0, [])), (79, (.invokevirtual 394, 82, v_r 4, 70, 0, 12, [])), (82, (.return_, 83, v_i 0, 0, 0, 0, []))]
def L_Rm_lambda : List (Nat × List Nat) := []
def D_Rm_lambda : c_M0 := (T_Rm_lambda, L_Rm_lambda, 0, 12, ⟨R_Rm, "lambda", "(I)V"⟩, prog_14_method_58_code, 3, none)
set_option maxRecDepth 100000 in
theorem k_Rm_lambda : ∀ q ∈ T_Rm_lambda, ck_e 12 prog_14_method_58_code q = true := by decide +kernel
def T_Rm_objectBehind : List (Nat × c_E) := [(0, (.iload_n 1, 1, v_i 0, 0, 0, 0, [])), (1, (.istore_n 2, 2, v_i 0, 0, 0, 0, [])), (2, (.aload_n 0, 3, v_i 0, 0, 0, 0, [])), (3, (.getfield 363, 6, v_i 0, 59, 12, 0, [])), (6, (.istore_n 3, 7, v_i 0, 0, 0, 0, [])), (7, (.aload_n 0, 8, v_i 0, 0, 0, 0, [])), (8, (.getfield 27, 11, v_i 0, 10, 12, 0, [])), (11, (.iload_n 2, 12, v_i 0, 0, 0, 0, [])), (12, (.iaload, 13, v_i 0, 0, 0, 0, [])), (13, (.bipush (6), 15, v_i (6), 0, 0, 0, [])), (15, (.if_icmp .ne (33), 18, v_i 0, 48, 0, 0, [])), (18, (.aload_n 0, 19, v_i 0, 0, 0, 0, [])), (19, (.getfield 107, 22, v_i 0, 58, 12, 0, [])), (22, (.aload_n 0, 23, v_i 0, 0, 0, 0, [])), (23, (.getfield 363, 26, v_i 0, 59, 12, 0, [])), (26, (.iload_n 2, 27, v_i 0, 0, 0, 0, [])), (27, (.iastore, 28, v_i 0, 0, 0, 0, [])), (28, (.aload_n 0, 29, v_i 0, 0, 0, 0, [])), (29, (.dup, 30, v_i 0, 0, 0, 0, [])), (30, (.getfield 363, 33, v_i 0, 59, 12, 0, [])), (33, (.iconst (1), 34, v_i (1), 0, 0, 0, [])), (34, (.iadd, 35, v_i 0, 0, 0, 0, [])), (35, (.putfield 363, 38, v_i 0, 59, 12, 0, [])), (38, (.aload_n 0, 39, v_i 0, 0, 0, 0, [])), (39, (.getfield 30, 42, v_i 0, 11, 12, 0, [])), (42, (.iload_n 2, 43, v_i 0, 0, 0, 0, [])), (43, (.iaload, 44, v_i 0, 0, 0, 0, [])), (44, (.istore_n 2, 45, v_i 0, 0, 0, 0, [])), (45, (.goto (-38), 48, v_i 0, 7, 0, 0, [])), (48, (.aload_n 0, 49, v_i 0, 0, 0, 0, [])), (49, (.iload_n 2, 50, v_i 0, 0, 0, 0, [])), (50, (.invokevirtual 366, 53, v_r 2, 71, 0, 12, [])), (53, (.aload_n 0, 54, v_i 0, 0, 0, 0, [])), (54, (.getfield 363, 57, v_i 0, 59, 12, 0, [])), (57, (.iload_n 3, 58, v_i 0, 0, 0, 0, [])), (58, (.if_icmp .le (36), 61, v_i 0, 94, 0, 0, [])), (61, (.aload_n 0, 62, v_i 0, 0, 0, 0, [])), (62, (.dup, 63, v_i 0, 0, 0, 0, [])), (63, (.getfield 363, 66, v_i 0, 59, 12, 0, [])), (66, (.iconst (1), 67, v_i (1), 0, 0, 0, [])), (67, (.isub, 68, v_i 0, 0, 0, 0, [])), (68, (.putfield 363, 71, v_i 0, 59, 12, 0, [])), (71, (.aload_n 0, 72, v_i 0, 0, 0, 0, [])), (72, (.getfield 152, 75, v_i 0, 9, 12, 0, [])), (75, (.ifCond .ne (-22), 78, v_i 0, 53, 0, 0, [])), (78, (.aload_n 0, 79, v_i 0, 0, 0, 0, [])), (79, (.aload_n 0, 80, v_i 0, 0, 0, 0, [])), (80, (.getfield 107, 83, v_i 0, 58, 12, 0, [])), (83, (.aload_n 0, 84, v_i 0, 0, 0, 0, [])), (84, (.getfield 363, 87, v_i 0, 59, 12, 0, [])), (87, (.iaload, 88, v_i 0, 0, 0, 0, [])), (88, (.invokevirtual 398, 91, v_r 2, 75, 0, 12, [])), (91, (.goto (-38), 94, v_i 0, 53, 0, 0, [])), (94, (.return_, 95, v_i 0, 0, 0, 0, []))]
def L_Rm_objectBehind : List (Nat × List Nat) := [(7, [0, 2, 3]), (53, [0, 3])]
def D_Rm_objectBehind : c_M0 := (T_Rm_objectBehind, L_Rm_objectBehind, 0, 12, ⟨R_Rm, "objectBehind", "(I)V"⟩, prog_14_method_59_code, 4, none)
set_option maxRecDepth 100000 in
theorem k_Rm_objectBehind : ∀ q ∈ T_Rm_objectBehind, ck_e 12 prog_14_method_59_code q = true := by decide +kernel
def T_Rm_oneBehind : List (Nat × c_E) := [(0, (.aload_n 0, 1, v_i 0, 0, 0, 0, [])), (1, (.aload_n 0, 2, v_i 0, 0, 0, 0, [])), (2, (.getfield 39, 5, v_i 0, 14, 12, 0, [])), (5, (.iload_n 1, 6, v_i 0, 0, 0, 0, [])), (6, (.iaload, 7, v_i 0, 0, 0, 0, [])), (7, (.invokevirtual 338, 10, v_r 2, 46, 0, 12, [])), (10, (.aload_n 0, 11, v_i 0, 0, 0, 0, [])), (11, (.getfield 152, 14, v_i 0, 9, 12, 0, [])), (14, (.ifCond .le (4), 17, v_i 0, 18, 0, 0, [])), (17, (.return_, 18, v_i 0, 0, 0, 0, [])), (18, (.aload_n 0, 19, v_i 0, 0, 0, 0, [])), (19, (.getfield 379, 22, v_i 0, 62, 12, 0, [])), (22, (.istore_n 2, 23, v_i 0, 0, 0, 0, [])), (23, (.aload_n 0, 24, v_i 0, 0, 0, 0, [])), (24, (.aload_n 0, 25, v_i 0, 0, 0, 0, [])), (25, (.getfield 369, 28, v_i 0, 60, 12, 0, [])), (28, (.aload_n 0, 29, v_i 0, 0, 0, 0, [])), (29, (.getfield 372, 32, v_i 0, 61, 12, 0, [])), (32, (.invokevirtual 300, 35, v_r 3, 48, 1, 12, [])), (35, (.ifCond .ne (16), 38, v_i 0, 51, 0, 0, [])), (38, (.aload_n 0, 39, v_i 0, 0, 0, 0, [])), (39, (.bipush (8), 41, v_i (8), 0, 0, 0, [])), (41, (.aload_n 0, 42, v_i 0, 0, 0, 0, [])), (42, (.getfield 39, 45, v_i 0, 14, 12, 0, [])), (45, (.iload_n 1, 46, v_i 0, 0, 0, 0, [])), (46, (.iaload, 47, v_i 0, 0, 0, 0, [])), (47, (.invokevirtual 160, 50, v_r 3, 25, 0, 12, [])), (50, (.return_, 51, v_i 0, 0, 0, 0, [])), (51, (.aload_n 0, 52, v_i 0, 0, 0, 0, [])), (52, (.getfield 269, 55, v_i 0, 43, 12, 0, [])), (55, (.istore_n 3, 56, v_i 0, 0, 0, 0, [])), (56, (.aload_n 0, 57, v_i 0, 0, 0, 0, [])), (57, (.getfield 272, 60, v_i 0, 44, 12, 0, [])), (60, (.istore 4, 62, v_i 0, 0, 0, 0, [])), (62, (.aload_n 0, 63, v_i 0, 0, 0, 0, [])), (63, (.getfield 275, 66, v_i 0, 45, 12, 0, [])), (66, (.istore 5, 68, v_i 0, 0, 0, 0, [])), (68, (.aload_n 0, 69, v_i 0, 0, 0, 0, [])), (69, (.getfield 278, 72, v_i 0, 46, 12, 0, [])), (72, (.istore 6, 74, v_i 0, 0, 0, 0, [])), (74, (.aload_n 0, 75, v_i 0, 0, 0, 0, [])), (75, (.aload_n 0, 76, v_i 0, 0, 0, 0, [])), (76, (.getfield 33, 79, v_i 0, 12, 12, 0, [])), (79, (.iload_n 1, 80, v_i 0, 0, 0, 0, [])), (80, (.iaload, 81, v_i 0, 0, 0, 0, [])), (81, (.invokevirtual 366, 84, v_r 2, 71, 0, 12, [])), (84, (.aload_n 0, 85, v_i 0, 0, 0, 0, [])), (85, (.getfield 152, 88, v_i 0, 9, 12, 0, [])), (88, (.ifCond .le (4), 91, v_i 0, 92, 0, 0, [])), (91, (.return_, 92, v_i 0, 0, 0, 0, [])), (92, (.aload_n 0, 93, v_i 0, 0, 0, 0, [])), (93, (.aload_n 0, 94, v_i 0, 0, 0, 0, [])), (94, (.getfield 369, 97, v_i 0, 60, 12, 0, [])), (97, (.aload_n 0, 98, v_i 0, 0, 0, 0, [])), (98, (.getfield 372, 101, v_i 0, 61, 12, 0, [])), (101, (.iload_n 3, 102, v_i 0, 0, 0, 0, [])), (102, (.iload 4, 104, v_i 0, 0, 0, 0, [])), (104, (.aload_n 0, 105, v_i 0, 0, 0, 0, [])), (105, (.getfield 39, 108, v_i 0, 14, 12, 0, [])), (108, (.iload_n 1, 109, v_i 0, 0, 0, 0, [])), (109, (.iaload, 110, v_i 0, 0, 0, 0, [])), (110, (.invokevirtual 375, 113, v_r 6, 63, 0, 12, [])), (113, (.aload_n 0, 114, v_i 0, 0, 0, 0, [])), (114, (.iload 5, 116, v_i 0, 0, 0, 0, [])), (116, (.aload_n 0, 117, v_i 0, 0, 0, 0, [])), (117, (.aload_n 0, 118, v_i 0, 0, 0, 0, [])), (118, (.aload_n 0, 119, v_i 0, 0, 0, 0, [])), (119, (.getfield 33, 122, v_i 0, 12, 12, 0, [])), (122, (.iload_n 1, 123, v_i 0, 0, 0, 0, [])), (123, (.iaload, 124, v_i 0, 0, 0, 0, [])), (124, (.aload_n 0, 125, v_i 0, 0, 0, 0, [])), (125, (.getfield 243, 128, v_i 0, 54, 12, 0, [])), (128, (.invokevirtual 229, 131, v_r 3, 41, 1, 12, [])), (131, (.iload 6, 133, v_i 0, 0, 0, 0, [])), (133, (.invokevirtual 256, 136, v_r 3, 42, 1, 12, [])), (136, (.aload_n 0, 137, v_i 0, 0, 0, 0, [])), (137, (.bipush (10), 139, v_i (10), 0, 0, 0, [])), (139, (.iload_n 2, 140, v_i 0, 0, 0, 0, [])), (140, (.aload_n 0, 141, v_i 0, 0, 0, 0, [])), (141, (.getfield 33, 144, v_i 0, 12, 12, 0, [])), (144, (.iload_n 1, 145, v_i 0, 0, 0, 0, [])), (145, (.iaload, 146, v_i 0, 0, 0, 0, [])), (146, (.invokevirtual 391, 149, v_r 4, 31, 1, 12, [])), (149, (.invokevirtual 394, 152, v_r 4, 70, 0, 12, [])), (152, (.return_, 153, v_i 0, 0, 0, 0, []))]
def L_Rm_oneBehind : List (Nat × List Nat) := []
def D_Rm_oneBehind : c_M0 := (T_Rm_oneBehind, L_Rm_oneBehind, 0, 12, ⟨R_Rm, "oneBehind", "(I)V"⟩, prog_14_method_60_code, 7, none)
set_option maxRecDepth 100000 in
theorem k_Rm_oneBehind : ∀ q ∈ T_Rm_oneBehind, ck_e 12 prog_14_method_60_code q = true := by decide +kernel
def T_Rm_declare : List (Nat × c_E) := [(0, (.aload_n 0, 1, v_i 0, 0, 0, 0, [])), (1, (.iconst (0), 2, v_i (0), 0, 0, 0, [])), (2, (.putfield 119, 5, v_i 0, 0, 12, 0, [])), (5, (.aload_n 0, 6, v_i 0, 0, 0, 0, [])), (6, (.invokevirtual 401, 9, v_r 1, 47, 0, 12, [])), (9, (.aload_n 0, 10, v_i 0, 0, 0, 0, [])), (10, (.getfield 152, 13, v_i 0, 9, 12, 0, [])), (13, (.ifCond .ne (22), 16, v_i 0, 35, 0, 0, [])), (16, (.aload_n 0, 17, v_i 0, 0, 0, 0, [])), (17, (.getfield 13, 20, v_i 0, 4, 12, 0, [])), (20, (.aload_n 0, 21, v_i 0, 0, 0, 0, [])), (21, (.getfield 149, 24, v_i 0, 8, 12, 0, [])), (24, (.iaload, 25, v_i 0, 0, 0, 0, [])), (25, (.ifCond .eq (10), 28, v_i 0, 35, 0, 0, [])), (28, (.aload_n 0, 29, v_i 0, 0, 0, 0, [])), (29, (.invokevirtual 404, 32, v_r 1, 77, 0, 12, [])), (32, (.goto (-23), 35, v_i 0, 9, 0, 0, [])), (35, (.aload_n 0, 36, v_i 0, 0, 0, 0, [])), (36, (.getfield 152, 39, v_i 0, 9, 12, 0, [])), (39, (.ireturn, 40, v_i 0, 0, 0, 0, []))]
def L_Rm_declare : List (Nat × List Nat) := [(9, [0])]
def D_Rm_declare : c_M0 := (T_Rm_declare, L_Rm_declare, 1, 12, ⟨R_Rm, "declare", "()I"⟩, prog_14_method_61_code, 1, some .int)
set_option maxRecDepth 100000 in
theorem k_Rm_declare : ∀ q ∈ T_Rm_declare, ck_e 12 prog_14_method_61_code q = true := by decide +kernel
def T_Rm_declaration : List (Nat × c_E) := [(0, (.aload_n 0, 1, v_i 0, 0, 0, 0, [])), (1, (.getfield 149, 4, v_i 0, 8, 12, 0, [])), (4, (.istore_n 1, 5, v_i 0, 0, 0, 0, [])), (5, (.aload_n 0, 6, v_i 0, 0, 0, 0, [])), (6, (.invokevirtual 197, 9, v_r 1, 28, 1, 12, [])), (9, (.ifCond .ne (15), 12, v_i 0, 24, 0, 0, [])), (12, (.aload_n 0, 13, v_i 0, 0, 0, 0, [])), (13, (.iconst (1), 14, v_i (1), 0, 0, 0, [])), (14, (.aload_n 0, 15, v_i 0, 0, 0, 0, [])), (15, (.getfield 149, 18, v_i 0, 8, 12, 0, [])), (18, (.invokevirtual 160, 21, v_r 3, 25, 0, 12, [])), (21, (.goto (41), 24, v_i 0, 62, 0, 0, [])), (24, (.aload_n 0, 25, v_i 0, 0, 0, 0, [])), (25, (.iload_n 1, 26, v_i 0, 0, 0, 0, [])), (26, (.invokevirtual 341, 29, v_r 2, 40, 1, 12, [])), (29, (.ifCond .lt (15), 32, v_i 0, 44, 0, 0, [])), (32, (.aload_n 0, 33, v_i 0, 0, 0, 0, [])), (33, (.iconst (3), 34, v_i (3), 0, 0, 0, [])), (34, (.aload_n 0, 35, v_i 0, 0, 0, 0, [])), (35, (.getfield 149, 38, v_i 0, 8, 12, 0, [])), (38, (.invokevirtual 160, 41, v_r 3, 25, 0, 12, [])), (41, (.goto (21), 44, v_i 0, 62, 0, 0, [])), (44, (.aload_n 0, 45, v_i 0, 0, 0, 0, [])), (45, (.getfield 214, 48, v_i 0, 21, 12, 0, [])), (48, (.bipush (100), 50, v_i (100), 0, 0, 0, [])), (50, (.if_icmp .ne (12), 53, v_i 0, 62, 0, 0, [])), (53, (.aload_n 0, 54, v_i 0, 0, 0, 0, [])), (54, (.iconst (5), 55, v_i (5), 0, 0, 0, [])), (55, (.aload_n 0, 56, v_i 0, 0, 0, 0, [])), (56, (.getfield 149, 59, v_i 0, 8, 12, 0, [])), (59, (.invokevirtual 160, 62, v_r 3, 25, 0, 12, [])), (62, (.aload_n 0, 63, v_i 0, 0, 0, 0, [])), (63, (.dup, 64, v_i 0, 0, 0, 0, [])), (64, (.getfield 149, 67, v_i 0, 8, 12, 0, [])), (67, (.iconst (1), 68, v_i (1), 0, 0, 0, [])), (68, (.iadd, 69, v_i 0, 0, 0, 0, [])), (69, (.putfield 149, 72, v_i 0, 8, 12, 0, [])), (72, (.aload_n 0, 73, v_i 0, 0, 0, 0, [])), (73, (.bipush (58), 75, v_i (58), 0, 0, 0, [])), (75, (.invokevirtual 200, 78, v_r 2, 29, 0, 12, [])), (78, (.aload_n 0, 79, v_i 0, 0, 0, 0, [])), (79, (.getfield 64, 82, v_i 0, 27, 12, 0, [])), (82, (.aload_n 0, 83, v_i 0, 0, 0, 0, [])), (83, (.getfield 214, 86, v_i 0, 21, 12, 0, [])), (86, (.aload_n 0, 87, v_i 0, 0, 0, 0, [])), (87, (.getfield 164, 90, v_i 0, 16, 12, 0, [])), (90, (.iastore, 91, v_i 0, 0, 0, 0, [])), (91, (.aload_n 0, 92, v_i 0, 0, 0, 0, [])), (92, (.invokevirtual 407, 95, v_r 1, 34, 1, 12, [])), (95, (.istore_n 2, 96, v_i 0, 0, 0, 0, [])), (96, (.iconst (-1), 97, v_i (-1), 0, 0, 0, [])), (97, (.istore_n 3, 98, v_i 0, 0, 0, 0, [])), (98, (.aload_n 0, 99, v_i 0, 0, 0, 0, [])), (99, (.getfield 149, 102, v_i 0, 8, 12, 0, [])), (102, (.istore 4, 104, v_i 0, 0, 0, 0, [])), (104, (.aload_n 0, 105, v_i 0, 0, 0, 0, [])), (105, (.bipush (61), 107, v_i (61), 0, 0, 0, [])), (107, (.invokevirtual 157, 110, v_r 2, 26, 1, 12, [])), (110, (.istore 5, 112, v_i 0, 0, 0, 0, [])), (112, (.iload 5, 114, v_i 0, 0, 0, 0, [])), (114, (.ifCond .eq (24), 117, v_i 0, 138, 0, 0, [])), (117, (.aload_n 0, 118, v_i 0, 0, 0, 0, [])), (118, (.dup, 119, v_i 0, 0, 0, 0, [])), (119, (.getfield 149, 122, v_i 0, 8, 12, 0, [])), (122, (.iconst (1), 123, v_i (1), 0, 0, 0, [])), (123, (.iadd, 124, v_i 0, 0, 0, 0, [])), (124, (.putfield 149, 127, v_i 0, 8, 12, 0, [])), (127, (.aload_n 0, 128, v_i 0, 0, 0, 0, [])), (128, (.getfield 149, 131, v_i 0, 8, 12, 0, [])), (131, (.istore 4, 133, v_i 0, 0, 0, 0, [])), (133, (.aload_n 0, 134, v_i 0, 0, 0, 0, [])), (134, (.invokevirtual 407, 137, v_r 1, 34, 1, 12, [])), (137, (.istore_n 3, 138, v_i 0, 0, 0, 0, [])), (138, (.aload_n 0, 139, v_i 0, 0, 0, 0, [])), (139, (.bipush (46), 141, v_i (46), 0, 0, 0, [])), (141, (.invokevirtual 200, 144, v_r 2, 29, 0, 12, [])), (144, (.aload_n 0, 145, v_i 0, 0, 0, 0, [])), (145, (.ldc 249, 147, v_i (120000), 0, 0, 0, [])), (147, (.putfield 167, 150, v_i 0, 17, 12, 0, [])), (150, (.aload_n 0, 151, v_i 0, 0, 0, 0, [])), (151, (.iconst (0), 152, v_i (0), 0, 0, 0, [])), (152, (.putfield 363, 155, v_i 0, 59, 12, 0, [])), (155, (.aload_n 0, 156, v_i 0, 0, 0, 0, [])), (156, (.getfield 152, 159, v_i 0, 9, 12, 0, [])), (159, (.ifCond .ne (18), 162, v_i 0, 177, 0, 0, [])), (162, (.aload_n 0, 163, v_i 0, 0, 0, 0, [])), (163, (.iload_n 2, 164, v_i 0, 0, 0, 0, [])), (164, (.iload 5, 166, v_i 0, 0, 0, 0, [])), (166, (.ifCond .ne (7), 169, v_i 0, 173, 0, 0, [])), (169, (.iconst (1), 170, v_i (1), 0, 0, 0, [])), (170, (.goto (4), 173, v_i 0, 174, 0, 0, [])), (173, (.iconst (0), 174, v_i (0), 0, 0, 0, [])), (174, (.invokevirtual 344, 177, v_r 3, 68, 0, 12, [])), (177, (.aload_n 0, 178, v_i 0, 0, 0, 0, [])), (178, (.getfield 152, 181, v_i 0, 9, 12, 0, [])), (181, (.ifCond .ne (39), 184, v_i 0, 220, 0, 0, [])), (184, (.iload 5, 186, v_i 0, 0, 0, 0, [])), (186, (.ifCond .eq (34), 189, v_i 0, 220, 0, 0, [])), (189, (.aload_n 0, 190, v_i 0, 0, 0, 0, [])), (190, (.iload_n 3, 191, v_i 0, 0, 0, 0, [])), (191, (.invokevirtual 366, 194, v_r 2, 71, 0, 12, [])), (194, (.aload_n 0, 195, v_i 0, 0, 0, 0, [])), (195, (.getfield 152, 198, v_i 0, 9, 12, 0, [])), (198, (.ifCond .ne (22), 201, v_i 0, 220, 0, 0, [])), (201, (.aload_n 0, 202, v_i 0, 0, 0, 0, [])), (202, (.aload_n 0, 203, v_i 0, 0, 0, 0, [])), (203, (.getfield 369, 206, v_i 0, 60, 12, 0, [])), (206, (.aload_n 0, 207, v_i 0, 0, 0, 0, [])), (207, (.getfield 372, 210, v_i 0, 61, 12, 0, [])), (210, (.iload_n 2, 211, v_i 0, 0, 0, 0, [])), (211, (.aload_n 0, 212, v_i 0, 0, 0, 0, [])), (212, (.getfield 243, 215, v_i 0, 54, 12, 0, [])), (215, (.iload 4, 217, v_i 0, 0, 0, 0, [])), (217, (.invokevirtual 375, 220, v_r 6, 63, 0, 12, [])), (220, (.aload_n 0, 221, v_i 0, 0, 0, 0, [])), (221, (.getfield 152, 224, v_i 0, 9, 12, 0, [])), (224, (.ifCond .le (17), 227, v_i 0, 241, 0, 0, [])), (227, (.aload_n 0, 228, v_i 0, 0, 0, 0, [])), (228, (.aload_n 0, 229, v_i 0, 0, 0, 0, [])), (229, (.getfield 64, 232, v_i 0, 27, 12, 0, [])), (232, (.aload_n 0, 233, v_i 0, 0, 0, 0, [])), (233, (.getfield 214, 236, v_i 0, 21, 12, 0, [])), (236, (.iaload, 237, v_i 0, 0, 0, 0, [])), (237, (.putfield 164, 240, v_i 0, 16, 12, 0, [])), (240, (.return_, 241, v_i 0, 0, 0, 0, [])), (241, (.aload_n 0, 242, v_i 0, 0, 0, 0, [])), (242, (.getfield 48, 245, v_i 0, 22, 12, 0, [])), (245, (.aload_n 0, 246, v_i 0, 0, 0, 0, [])), (246, (.getfield 214, 249, v_i 0, 21, 12, 0, [])), (249, (.aload_n 0, 250, v_i 0, 0, 0, 0, [])), (250, (.getfield 19, 253, v_i 0, 6, 12, 0, [])), (253, (.iload_n 1, 254, v_i 0, 0, 0, 0, [])), (254, (.laload, 255, v_i 0, 0, 0, 0, [])), (255, (.lastore, 256, v_i 0, 0, 0, 0, [])), (256, (.aload_n 0, 257, v_i 0, 0, 0, 0, [])), (257, (.getfield 51, 260, v_i 0, 23, 12, 0, [])), (260, (.aload_n 0, 261, v_i 0, 0, 0, 0, [])), (261, (.getfield 214, 264, v_i 0, 21, 12, 0, [])), (264, (.aload_n 0, 265, v_i 0, 0, 0, 0, [])), (265, (.getfield 23, 268, v_i 0, 7, 12, 0, [])), (268, (.iload_n 1, 269, v_i 0, 0, 0, 0, [])), (269, (.laload, 270, v_i 0, 0, 0, 0, [])), (270, (.lastore, 271, v_i 0, 0, 0, 0, [])), (271, (.aload_n 0, 272, v_i 0, 0, 0, 0, [])), (272, (.getfield 58, 275, v_i 0, 25, 12, 0, [])), (275, (.aload_n 0, 276, v_i 0, 0, 0, 0, [])), (276, (.getfield 214, 279, v_i 0, 21, 12, 0, [])), (279, (.iload_n 2, 280, v_i 0, 0, 0, 0, [])), (280, (.iastore, 281, v_i 0, 0, 0, 0, [])), (281, (.aload_n 0, 282, v_i 0, 0, 0, 0, [])), (282, (.getfield 61, 285, v_i 0, 26, 12, 0, [])), (285, (.aload_n 0, 286, v_i 0, 0, 0, 0, [])), (286, (.getfield 214, 289, v_i 0, 21, 12, 0, [])), (289, (.iload_n 3, 290, v_i 0, 0, 0, 0, [])), (290, (.iastore, 291, v_i 0, 0, 0, 0, [])), (291, (.iload_n 2, 292, v_i 0, 0, 0, 0, [])), (292, (.istore 6, 294, v_i 0, 0, 0, 0, [])), (294, (.aload_n 0, 295, v_i 0, 0, 0, 0, [])), (295, (.getfield 27, 298, v_i 0, 10, 12, 0, [])), (298, (.iload 6, 300, v_i 0, 0, 0, 0, [])), (300, (.iaload, 301, v_i 0, 0, 0, 0, [])), (301, (.iconst (5), 302, v_i (5), 0, 0, 0, [])), (302, (.if_icmp .ne (15), 305, v_i 0, 317, 0, 0, [])), (305, (.aload_n 0, 306, v_i 0, 0, 0, 0, [])), (306, (.getfield 33, 309, v_i 0, 12, 12, 0, [])), (309, (.iload 6, 311, v_i 0, 0, 0, 0, [])), (311, (.iaload, 312, v_i 0, 0, 0, 0, [])), (312, (.istore 6, 314, v_i 0, 0, 0, 0, [])), (314, (.goto (-20), 317, v_i 0, 294, 0, 0, [])), (317, (.aload_n 0, 318, v_i 0, 0, 0, 0, [])), (318, (.getfield 54, 321, v_i 0, 24, 12, 0, [])), (321, (.aload_n 0, 322, v_i 0, 0, 0, 0, [])), (322, (.getfield 214, 325, v_i 0, 21, 12, 0, [])), (325, (.aload_n 0, 326, v_i 0, 0, 0, 0, [])), (326, (.getfield 27, 329, v_i 0, 10, 12, 0, [])), (329, (.iload 6, 331, v_i 0, 0, 0, 0, [])), (331, (.iaload, 332, v_i 0, 0, 0, 0, [])), (332, (.iconst (1), 333, v_i (1), 0, 0, 0, [])), (333, (.if_icmp .ne (7), 336, v_i 0, 340, 0, 0, [])), (336, (.iconst (1), 337, v_i (1), 0, 0, 0, [])), (337, (.goto (4), 340, v_i 0, 341, 0, 0, [])), (340, (.iconst (0), 341, v_i (0), 0, 0, 0, [])), (341, (.bastore, 342, v_i 0, 0, 0, 0, [])), (342, (.aload_n 0, 343, v_i 0, 0, 0, 0, [])), (343, (.dup, 344, v_i 0, 0, 0, 0, [])), (344, (.getfield 214, 347, v_i 0, 21, 12, 0, [])), (347, (.iconst (1), 348, v_i (1), 0, 0, 0, [])), (348, (.iadd, 349, v_i 0, 0, 0, 0, [])), (349, (.putfield 214, 352, v_i 0, 21, 12, 0, [])), (352, (.return_, 353, v_i 0, 0, 0, 0, []))]
def L_Rm_declaration : List (Nat × List Nat) := [(62, [0, 1]), (138, [0, 1, 2, 3, 4, 5]), (177, [0, 1, 2, 3, 4, 5]), (220, [0, 1, 2, 3]), (294, [0, 6])]
def D_Rm_declaration : c_M0 := (T_Rm_declaration, L_Rm_declaration, 0, 12, ⟨R_Rm, "declaration", "()V"⟩, prog_14_method_62_code, 7, none)
set_option maxRecDepth 100000 in
theorem k_Rm_declaration : ∀ q ∈ T_Rm_declaration, ck_e 12 prog_14_method_62_code q = true := by decide +kernel
def T_Rm_say : List (Nat × c_E) := [(0, (.aload_n 0, 1, v_i 0, 0, 0, 0, [])), (1, (.getfield 410, 4, v_i 0, 64, 12, 0, [])), (4, (.sipush (2000), 7, v_i (2000), 0, 0, 0, [])), (7, (.if_icmp .ne (9), 10, v_i 0, 16, 0, 0, [])), (10, (.aload_n 0, 11, v_i 0, 0, 0, 0, [])), (11, (.iconst (1), 12, v_i (1), 0, 0, 0, [])), (12, (.putfield 413, 15, v_i 0, 66, 12, 0, [])), (15, (.return_, 16, v_i 0, 0, 0, 0, [])), (16, (.aload_n 0, 17, v_i 0, 0, 0, 0, [])), (17, (.getfield 110, 20, v_i 0, 63, 12, 0, [])), (20, (.aload_n 0, 21, v_i 0, 0, 0, 0, [])), (21, (.getfield 410, 24, v_i 0, 64, 12, 0, [])), (24, (.iload_n 1, 25, v_i 0, 0, 0, 0, [])), (25, (.iastore, 26, v_i 0, 0, 0, 0, [])), (26, (.aload_n 0, 27, v_i 0, 0, 0, 0, [])), (27, (.dup, 28, v_i 0, 0, 0, 0, [])), (28, (.getfield 410, 31, v_i 0, 64, 12, 0, [])), (31, (.iconst (1), 32, v_i (1), 0, 0, 0, [])), (32, (.iadd, 33, v_i 0, 0, 0, 0, [])), (33, (.putfield 410, 36, v_i 0, 64, 12, 0, [])), (36, (.return_, 37, v_i 0, 0, 0, 0, []))]
def L_Rm_say : List (Nat × List Nat) := []
def D_Rm_say : c_M0 := (T_Rm_say, L_Rm_say, 0, 12, ⟨R_Rm, "say", "(I)V"⟩, prog_14_method_63_code, 2, none)
set_option maxRecDepth 100000 in
theorem k_Rm_say : ∀ q ∈ T_Rm_say, ck_e 12 prog_14_method_63_code q = true := by decide +kernel
def T_Rm_signOf : List (Nat × c_E) := [(0, (.iload_n 0, 1, v_i 0, 0, 0, 0, [])), (1, (.bipush (27), 3, v_i (27), 0, 0, 0, [])), (3, (.if_icmp .ge (12), 6, v_i 0, 15, 0, 0, [])), (6, (.bipush (97), 8, v_i (97), 0, 0, 0, [])), (8, (.iload_n 0, 9, v_i 0, 0, 0, 0, [])), (9, (.iadd, 10, v_i 0, 0, 0, 0, [])), (10, (.iconst (1), 11, v_i (1), 0, 0, 0, [])), (11, (.isub, 12, v_i 0, 0, 0, 0, [])), (12, (.goto (26), 15, v_i 0, 38, 0, 0, [])), (15, (.iload_n 0, 16, v_i 0, 0, 0, 0, [])), (16, (.bipush (53), 18, v_i (53), 0, 0, 0, [])), (18, (.if_icmp .ge (13), 21, v_i 0, 31, 0, 0, [])), (21, (.bipush (65), 23, v_i (65), 0, 0, 0, [])), (23, (.iload_n 0, 24, v_i 0, 0, 0, 0, [])), (24, (.iadd, 25, v_i 0, 0, 0, 0, [])), (25, (.bipush (27), 27, v_i (27), 0, 0, 0, [])), (27, (.isub, 28, v_i 0, 0, 0, 0, [])), (28, (.goto (10), 31, v_i 0, 38, 0, 0, [])), (31, (.bipush (48), 33, v_i (48), 0, 0, 0, [])), (33, (.iload_n 0, 34, v_i 0, 0, 0, 0, [])), (34, (.iadd, 35, v_i 0, 0, 0, 0, [])), (35, (.bipush (53), 37, v_i (53), 0, 0, 0, [])), (37, (.isub, 38, v_i 0, 0, 0, 0, [])), (38, (.ireturn, 39, v_i 0, 0, 0, 0, []))]
def L_Rm_signOf : List (Nat × List Nat) := []
def D_Rm_signOf : c_M0 := (T_Rm_signOf, L_Rm_signOf, 1, 12, ⟨R_Rm, "signOf", "(I)I"⟩, prog_14_method_64_code, 1, some .int)
set_option maxRecDepth 100000 in
theorem k_Rm_signOf : ∀ q ∈ T_Rm_signOf, ck_e 12 prog_14_method_64_code q = true := by decide +kernel
def T_Rm_sayPart : List (Nat × c_E) := [(0, (.lconst 1, 1, v_l 1, 0, 0, 0, [])), (1, (.lstore_n 3, 2, v_i 0, 0, 0, 0, [])), (2, (.lload_n 3, 3, v_i 0, 0, 0, 0, [])), (3, (.lload_n 1, 4, v_i 0, 0, 0, 0, [])), (4, (.ldc2_w 140, 7, v_l (64), 0, 0, 0, [])), (7, (.ldiv, 8, v_i 0, 0, 0, 0, [])), (8, (.lcmp, 9, v_i 0, 0, 0, 0, [])), (9, (.ifCond .gt (12), 12, v_i 0, 21, 0, 0, [])), (12, (.lload_n 3, 13, v_i 0, 0, 0, 0, [])), (13, (.ldc2_w 140, 16, v_l (64), 0, 0, 0, [])), (16, (.lmul, 17, v_i 0, 0, 0, 0, [])), (17, (.lstore_n 3, 18, v_i 0, 0, 0, 0, [])), (18, (.goto (-16), 21, v_i 0, 2, 0, 0, [])), (21, (.lload_n 1, 22, v_i 0, 0, 0, 0, [])), (22, (.lstore 5, 24, v_i 0, 0, 0, 0, [])), (24, (.lload_n 3, 25, v_i 0, 0, 0, 0, [])), (25, (.lconst 0, 26, v_l 0, 0, 0, 0, [])), (26, (.lcmp, 27, v_i 0, 0, 0, 0, [])), (27, (.ifCond .le (36), 30, v_i 0, 63, 0, 0, [])), (30, (.lload_n 1, 31, v_i 0, 0, 0, 0, [])), (31, (.lconst 0, 32, v_l 0, 0, 0, 0, [])), (32, (.lcmp, 33, v_i 0, 0, 0, 0, [])), (33, (.ifCond .le (30), 36, v_i 0, 63, 0, 0, [])), (36, (.aload_n 0, 37, v_i 0, 0, 0, 0, [])), (37, (.lload 5, 39, v_i 0, 0, 0, 0, [])), (39, (.lload_n 3, 40, v_i 0, 0, 0, 0, [])), (40, (.ldiv, 41, v_i 0, 0, 0, 0, [])), (41, (.l2i, 42, v_i 0, 0, 0, 0, [])), (42, (.invokestatic 417, 45, v_r 1, 79, 1, 0, [])), (45, (.invokevirtual 420, 48, v_r 2, 78, 0, 12, [])), (48, (.lload 5, 50, v_i 0, 0, 0, 0, [])), (50, (.lload_n 3, 51, v_i 0, 0, 0, 0, [])), (51, (.lrem, 52, v_i 0, 0, 0, 0, [])), (52, (.lstore 5, 54, v_i 0, 0, 0, 0, [])), (54, (.lload_n 3, 55, v_i 0, 0, 0, 0, [])), (55, (.ldc2_w 140, 58, v_l (64), 0, 0, 0, [])), (58, (.ldiv, 59, v_i 0, 0, 0, 0, [])), (59, (.lstore_n 3, 60, v_i 0, 0, 0, 0, [])), (60, (.goto (-36), 63, v_i 0, 24, 0, 0, [])), (63, (.return_, 64, v_i 0, 0, 0, 0, []))]
def L_Rm_sayPart : List (Nat × List Nat) := [(2, [0, 1, 3]), (24, [0, 1, 3, 5])]
def D_Rm_sayPart : c_M0 := (T_Rm_sayPart, L_Rm_sayPart, 0, 12, ⟨R_Rm, "sayPart", "(J)V"⟩, prog_14_method_65_code, 7, none)
set_option maxRecDepth 100000 in
theorem k_Rm_sayPart : ∀ q ∈ T_Rm_sayPart, ck_e 12 prog_14_method_65_code q = true := by decide +kernel
def T_Rm_sayVar : List (Nat × c_E) := [(0, (.iconst (0), 1, v_i (0), 0, 0, 0, [])), (1, (.istore_n 2, 2, v_i 0, 0, 0, 0, [])), (2, (.iload_n 2, 3, v_i 0, 0, 0, 0, [])), (3, (.aload_n 0, 4, v_i 0, 0, 0, 0, [])), (4, (.getfield 423, 7, v_i 0, 65, 12, 0, [])), (7, (.if_icmp .ge (15), 10, v_i 0, 22, 0, 0, [])), (10, (.aload_n 0, 11, v_i 0, 0, 0, 0, [])), (11, (.bipush (120), 13, v_i (120), 0, 0, 0, [])), (13, (.invokevirtual 420, 16, v_r 2, 78, 0, 12, [])), (16, (.iinc 2 (1), 19, v_i (1), 0, 0, 0, [])), (19, (.goto (-17), 22, v_i 0, 2, 0, 0, [])), (22, (.iload_n 1, 23, v_i 0, 0, 0, 0, [])), (23, (.bipush (99), 25, v_i (99), 0, 0, 0, [])), (25, (.if_icmp .le (14), 28, v_i 0, 39, 0, 0, [])), (28, (.aload_n 0, 29, v_i 0, 0, 0, 0, [])), (29, (.bipush (48), 31, v_i (48), 0, 0, 0, [])), (31, (.iload_n 1, 32, v_i 0, 0, 0, 0, [])), (32, (.bipush (100), 34, v_i (100), 0, 0, 0, [])), (34, (.idiv, 35, v_i 0, 0, 0, 0, [])), (35, (.iadd, 36, v_i 0, 0, 0, 0, [])), (36, (.invokevirtual 420, 39, v_r 2, 78, 0, 12, [])), (39, (.iload_n 1, 40, v_i 0, 0, 0, 0, [])), (40, (.bipush (9), 42, v_i (9), 0, 0, 0, [])), (42, (.if_icmp .le (17), 45, v_i 0, 59, 0, 0, [])), (45, (.aload_n 0, 46, v_i 0, 0, 0, 0, [])), (46, (.bipush (48), 48, v_i (48), 0, 0, 0, [])), (48, (.iload_n 1, 49, v_i 0, 0, 0, 0, [])), (49, (.bipush (10), 51, v_i (10), 0, 0, 0, [])), (51, (.idiv, 52, v_i 0, 0, 0, 0, [])), (52, (.bipush (10), 54, v_i (10), 0, 0, 0, [])), (54, (.irem, 55, v_i 0, 0, 0, 0, [])), (55, (.iadd, 56, v_i 0, 0, 0, 0, [])), (56, (.invokevirtual 420, 59, v_r 2, 78, 0, 12, [])), (59, (.aload_n 0, 60, v_i 0, 0, 0, 0, [])), (60, (.bipush (48), 62, v_i (48), 0, 0, 0, [])), (62, (.iload_n 1, 63, v_i 0, 0, 0, 0, [])), (63, (.bipush (10), 65, v_i (10), 0, 0, 0, [])), (65, (.irem, 66, v_i 0, 0, 0, 0, [])), (66, (.iadd, 67, v_i 0, 0, 0, 0, [])), (67, (.invokevirtual 420, 70, v_r 2, 78, 0, 12, [])), (70, (.return_, 71, v_i 0, 0, 0, 0, []))]
def L_Rm_sayVar : List (Nat × List Nat) := [(2, [0, 1, 2]), (39, [0, 1]), (59, [0, 1])]
def D_Rm_sayVar : c_M0 := (T_Rm_sayVar, L_Rm_sayVar, 0, 12, ⟨R_Rm, "sayVar", "(I)V"⟩, prog_14_method_66_code, 3, none)
set_option maxRecDepth 100000 in
theorem k_Rm_sayVar : ∀ q ∈ T_Rm_sayVar, ck_e 12 prog_14_method_66_code q = true := by decide +kernel
def T_Rm_countXs : List (Nat × c_E) := [(0, (.aload_n 0, 1, v_i 0, 0, 0, 0, [])), (1, (.iconst (1), 2, v_i (1), 0, 0, 0, [])), (2, (.putfield 423, 5, v_i 0, 65, 12, 0, [])), (5, (.iconst (1), 6, v_i (1), 0, 0, 0, [])), (6, (.istore_n 1, 7, v_i 0, 0, 0, 0, [])), (7, (.iload_n 1, 8, v_i 0, 0, 0, 0, [])), (8, (.ifCond .eq (60), 11, v_i 0, 68, 0, 0, [])), (11, (.iconst (0), 12, v_i (0), 0, 0, 0, [])), (12, (.istore_n 1, 13, v_i 0, 0, 0, 0, [])), (13, (.iconst (0), 14, v_i (0), 0, 0, 0, [])), (14, (.istore_n 2, 15, v_i 0, 0, 0, 0, [])), (15, (.iload_n 2, 16, v_i 0, 0, 0, 0, [])), (16, (.aload_n 0, 17, v_i 0, 0, 0, 0, [])), (17, (.getfield 214, 20, v_i 0, 21, 12, 0, [])), (20, (.if_icmp .ge (27), 23, v_i 0, 47, 0, 0, [])), (23, (.iload_n 1, 24, v_i 0, 0, 0, 0, [])), (24, (.ifCond .ne (11), 27, v_i 0, 35, 0, 0, [])), (27, (.aload_n 0, 28, v_i 0, 0, 0, 0, [])), (28, (.iload_n 2, 29, v_i 0, 0, 0, 0, [])), (29, (.invokevirtual 426, 32, v_r 2, 83, 1, 12, [])), (32, (.ifCond .eq (7), 35, v_i 0, 39, 0, 0, [])), (35, (.iconst (1), 36, v_i (1), 0, 0, 0, [])), (36, (.goto (4), 39, v_i 0, 40, 0, 0, [])), (39, (.iconst (0), 40, v_i (0), 0, 0, 0, [])), (40, (.istore_n 1, 41, v_i 0, 0, 0, 0, [])), (41, (.iinc 2 (1), 44, v_i (1), 0, 0, 0, [])), (44, (.goto (-29), 47, v_i 0, 15, 0, 0, [])), (47, (.aload_n 0, 48, v_i 0, 0, 0, 0, [])), (48, (.dup, 49, v_i 0, 0, 0, 0, [])), (49, (.getfield 423, 52, v_i 0, 65, 12, 0, [])), (52, (.iload_n 1, 53, v_i 0, 0, 0, 0, [])), (53, (.ifCond .eq (7), 56, v_i 0, 60, 0, 0, [])), (56, (.iconst (1), 57, v_i (1), 0, 0, 0, [])), (57, (.goto (4), 60, v_i 0, 61, 0, 0, [])), (60, (.iconst (0), 61, v_i (0), 0, 0, 0, [])), (61, (.iadd, 62, v_i 0, 0, 0, 0, [])), (62, (.putfield 423, 65, v_i 0, 65, 12, 0, [])), (65, (.goto (-58), 68, v_i 0, 7, 0, 0, [])), (68, (.return_, 69, v_i 0, 0, 0, 0, []))]
def L_Rm_countXs : List (Nat × List Nat) := [(7, [0, 1]), (15, [0, 1, 2])]
def D_Rm_countXs : c_M0 := (T_Rm_countXs, L_Rm_countXs, 0, 12, ⟨R_Rm, "countXs", "()V"⟩, prog_14_method_67_code, 3, none)
set_option maxRecDepth 100000 in
theorem k_Rm_countXs : ∀ q ∈ T_Rm_countXs, ck_e 12 prog_14_method_67_code q = true := by decide +kernel
def T_Rm_isXs : List (Nat × c_E) := [(0, (.aload_n 0, 1, v_i 0, 0, 0, 0, [])), (1, (.iconst (0), 2, v_i (0), 0, 0, 0, [])), (2, (.putfield 429, 5, v_i 0, 68, 12, 0, [])), (5, (.aload_n 0, 6, v_i 0, 0, 0, 0, [])), (6, (.aload_n 0, 7, v_i 0, 0, 0, 0, [])), (7, (.getfield 48, 10, v_i 0, 22, 12, 0, [])), (10, (.iload_n 1, 11, v_i 0, 0, 0, 0, [])), (11, (.laload, 12, v_i 0, 0, 0, 0, [])), (12, (.invokevirtual 432, 15, v_r 2, 84, 0, 12, [])), (15, (.aload_n 0, 16, v_i 0, 0, 0, 0, [])), (16, (.aload_n 0, 17, v_i 0, 0, 0, 0, [])), (17, (.getfield 51, 20, v_i 0, 23, 12, 0, [])), (20, (.iload_n 1, 21, v_i 0, 0, 0, 0, [])), (21, (.laload, 22, v_i 0, 0, 0, 0, [])), (22, (.invokevirtual 432, 25, v_r 2, 84, 0, 12, [])), (25, (.aload_n 0, 26, v_i 0, 0, 0, 0, [])), (26, (.getfield 429, 29, v_i 0, 68, 12, 0, [])), (29, (.aload_n 0, 30, v_i 0, 0, 0, 0, [])), (30, (.getfield 423, 33, v_i 0, 65, 12, 0, [])), (33, (.if_icmp .le (7), 36, v_i 0, 40, 0, 0, [])), (36, (.iconst (1), 37, v_i (1), 0, 0, 0, [])), (37, (.goto (4), 40, v_i 0, 41, 0, 0, [])), (40, (.iconst (0), 41, v_i (0), 0, 0, 0, [])), (41, (.istore_n 2, 42, v_i 0, 0, 0, 0, [])), (42, (.iconst (0), 43, v_i (0), 0, 0, 0, [])), (43, (.istore_n 3, 44, v_i 0, 0, 0, 0, [])), (44, (.iload_n 3, 45, v_i 0, 0, 0, 0, [])), (45, (.aload_n 0, 46, v_i 0, 0, 0, 0, [])), (46, (.getfield 429, 49, v_i 0, 68, 12, 0, [])), (49, (.if_icmp .ge (57), 52, v_i 0, 106, 0, 0, [])), (52, (.iload_n 2, 53, v_i 0, 0, 0, 0, [])), (53, (.ifCond .eq (53), 56, v_i 0, 106, 0, 0, [])), (56, (.iload_n 3, 57, v_i 0, 0, 0, 0, [])), (57, (.aload_n 0, 58, v_i 0, 0, 0, 0, [])), (58, (.getfield 423, 61, v_i 0, 65, 12, 0, [])), (61, (.if_icmp .ge (22), 64, v_i 0, 83, 0, 0, [])), (64, (.aload_n 0, 65, v_i 0, 0, 0, 0, [])), (65, (.getfield 113, 68, v_i 0, 67, 12, 0, [])), (68, (.iload_n 3, 69, v_i 0, 0, 0, 0, [])), (69, (.iaload, 70, v_i 0, 0, 0, 0, [])), (70, (.bipush (24), 72, v_i (24), 0, 0, 0, [])), (72, (.if_icmp .ne (7), 75, v_i 0, 79, 0, 0, [])), (75, (.iconst (1), 76, v_i (1), 0, 0, 0, [])), (76, (.goto (23), 79, v_i 0, 99, 0, 0, [])), (79, (.iconst (0), 80, v_i (0), 0, 0, 0, [])), (80, (.goto (19), 83, v_i 0, 99, 0, 0, [])), (83, (.aload_n 0, 84, v_i 0, 0, 0, 0, [])), (84, (.getfield 113, 87, v_i 0, 67, 12, 0, [])), (87, (.iload_n 3, 88, v_i 0, 0, 0, 0, [])), (88, (.iaload, 89, v_i 0, 0, 0, 0, [])), (89, (.bipush (52), 91, v_i (52), 0, 0, 0, [])), (91, (.if_icmp .le (7), 94, v_i 0, 98, 0, 0, [])), (94, (.iconst (1), 95, v_i (1), 0, 0, 0, [])), (95, (.goto (4), 98, v_i 0, 99, 0, 0, [])), (98, (.iconst (0), 99, v_i (0), 0, 0, 0, [])), (99, (.istore_n 2, 100, v_i 0, 0, 0, 0, [])), (100, (.iinc 3 (1), 103, v_i (1), 0, 0, 0, [])), (103, (.goto (-59), 106, v_i 0, 44, 0, 0, [])), (106, (.iload_n 2, 107, v_i 0, 0, 0, 0, [])), (107, (.ireturn, 108, v_i 0, 0, 0, 0, []))]
def L_Rm_isXs : List (Nat × List Nat) := [(44, [0, 2, 3])]
def D_Rm_isXs : c_M0 := (T_Rm_isXs, L_Rm_isXs, 2, 12, ⟨R_Rm, "isXs", "(I)Z"⟩, prog_14_method_68_code, 4, some .boolean)
set_option maxRecDepth 100000 in
theorem k_Rm_isXs : ∀ q ∈ T_Rm_isXs, ck_e 12 prog_14_method_68_code q = true := by decide +kernel
def T_Rm_takeLetters : List (Nat × c_E) := [(0, (.lconst 1, 1, v_l 1, 0, 0, 0, [])), (1, (.lstore_n 3, 2, v_i 0, 0, 0, 0, [])), (2, (.lload_n 3, 3, v_i 0, 0, 0, 0, [])), (3, (.lload_n 1, 4, v_i 0, 0, 0, 0, [])), (4, (.ldc2_w 140, 7, v_l (64), 0, 0, 0, [])), (7, (.ldiv, 8, v_i 0, 0, 0, 0, [])), (8, (.lcmp, 9, v_i 0, 0, 0, 0, [])), (9, (.ifCond .gt (12), 12, v_i 0, 21, 0, 0, [])), (12, (.lload_n 3, 13, v_i 0, 0, 0, 0, [])), (13, (.ldc2_w 140, 16, v_l (64), 0, 0, 0, [])), (16, (.lmul, 17, v_i 0, 0, 0, 0, [])), (17, (.lstore_n 3, 18, v_i 0, 0, 0, 0, [])), (18, (.goto (-16), 21, v_i 0, 2, 0, 0, [])), (21, (.lload_n 1, 22, v_i 0, 0, 0, 0, [])), (22, (.lstore 5, 24, v_i 0, 0, 0, 0, [])), (24, (.lload_n 3, 25, v_i 0, 0, 0, 0, [])), (25, (.lconst 0, 26, v_l 0, 0, 0, 0, [])), (26, (.lcmp, 27, v_i 0, 0, 0, 0, [])), (27, (.ifCond .le (48), 30, v_i 0, 75, 0, 0, [])), (30, (.lload_n 1, 31, v_i 0, 0, 0, 0, [])), (31, (.lconst 0, 32, v_l 0, 0, 0, 0, [])), (32, (.lcmp, 33, v_i 0, 0, 0, 0, [])), (33, (.ifCond .le (42), 36, v_i 0, 75, 0, 0, [])), (36, (.aload_n 0, 37, v_i 0, 0, 0, 0, [])), (37, (.getfield 113, 40, v_i 0, 67, 12, 0, [])), (40, (.aload_n 0, 41, v_i 0, 0, 0, 0, [])), (41, (.getfield 429, 44, v_i 0, 68, 12, 0, [])), (44, (.lload 5, 46, v_i 0, 0, 0, 0, [])), (46, (.lload_n 3, 47, v_i 0, 0, 0, 0, [])), (47, (.ldiv, 48, v_i 0, 0, 0, 0, [])), (48, (.l2i, 49, v_i 0, 0, 0, 0, [])), (49, (.iastore, 50, v_i 0, 0, 0, 0, [])), (50, (.aload_n 0, 51, v_i 0, 0, 0, 0, [])), (51, (.dup, 52, v_i 0, 0, 0, 0, [])), (52, (.getfield 429, 55, v_i 0, 68, 12, 0, [])), (55, (.iconst (1), 56, v_i (1), 0, 0, 0, [])), (56, (.iadd, 57, v_i 0, 0, 0, 0, [])), (57, (.putfield 429, 60, v_i 0, 68, 12, 0, [])), (60, (.lload 5, 62, v_i 0, 0, 0, 0, [])), (62, (.lload_n 3, 63, v_i 0, 0, 0, 0, [])), (63, (.lrem, 64, v_i 0, 0, 0, 0, [])), (64, (.lstore 5, 66, v_i 0, 0, 0, 0, [])), (66, (.lload_n 3, 67, v_i 0, 0, 0, 0, [])), (67, (.ldc2_w 140, 70, v_l (64), 0, 0, 0, [])), (70, (.ldiv, 71, v_i 0, 0, 0, 0, [])), (71, (.lstore_n 3, 72, v_i 0, 0, 0, 0, [])), (72, (.goto (-48), 75, v_i 0, 24, 0, 0, [])), (75, (.return_, 76, v_i 0, 0, 0, 0, []))]
def L_Rm_takeLetters : List (Nat × List Nat) := [(2, [0, 1, 3]), (24, [0, 1, 3, 5])]
def D_Rm_takeLetters : c_M0 := (T_Rm_takeLetters, L_Rm_takeLetters, 0, 12, ⟨R_Rm, "takeLetters", "(J)V"⟩, prog_14_method_69_code, 7, none)
set_option maxRecDepth 100000 in
theorem k_Rm_takeLetters : ∀ q ∈ T_Rm_takeLetters, ck_e 12 prog_14_method_69_code q = true := by decide +kernel
def T_Rm_ended : List (Nat × c_E) := [(0, (.iload_n 1, 1, v_i 0, 0, 0, 0, [])), (1, (.iconst (1), 2, v_i (1), 0, 0, 0, [])), (2, (.if_icmp .ne (15), 5, v_i 0, 17, 0, 0, [])), (5, (.aload_n 0, 6, v_i 0, 0, 0, 0, [])), (6, (.getfield 413, 9, v_i 0, 66, 12, 0, [])), (9, (.ifCond .eq (8), 12, v_i 0, 17, 0, 0, [])), (12, (.bipush (11), 14, v_i (11), 0, 0, 0, [])), (14, (.goto (4), 17, v_i 0, 18, 0, 0, [])), (17, (.iload_n 1, 18, v_i 0, 0, 0, 0, [])), (18, (.ireturn, 19, v_i 0, 0, 0, 0, []))]
def L_Rm_ended : List (Nat × List Nat) := []
def D_Rm_ended : c_M0 := (T_Rm_ended, L_Rm_ended, 1, 12, ⟨R_Rm, "ended", "(I)I"⟩, prog_14_method_70_code, 2, some .int)
set_option maxRecDepth 100000 in
theorem k_Rm_ended : ∀ q ∈ T_Rm_ended, ck_e 12 prog_14_method_70_code q = true := by decide +kernel
def T_Rm_tellFamily : List (Nat × c_E) := [(0, (.aload_n 0, 1, v_i 0, 0, 0, 0, [])), (1, (.invokevirtual 293, 4, v_r 1, 53, 1, 12, [])), (4, (.istore 4, 6, v_i 0, 0, 0, 0, [])), (6, (.iload 4, 8, v_i 0, 0, 0, 0, [])), (8, (.iconst (1), 9, v_i (1), 0, 0, 0, [])), (9, (.if_icmp .eq (6), 12, v_i 0, 15, 0, 0, [])), (12, (.iload 4, 14, v_i 0, 0, 0, 0, [])), (14, (.ireturn, 15, v_i 0, 0, 0, 0, [])), (15, (.aload_n 0, 16, v_i 0, 0, 0, 0, [])), (16, (.iload_n 1, 17, v_i 0, 0, 0, 0, [])), (17, (.iload_n 2, 18, v_i 0, 0, 0, 0, [])), (18, (.invokevirtual 300, 21, v_r 3, 48, 1, 12, [])), (21, (.ifCond .eq (127), 24, v_i 0, 148, 0, 0, [])), (24, (.aload_n 0, 25, v_i 0, 0, 0, 0, [])), (25, (.getfield 269, 28, v_i 0, 43, 12, 0, [])), (28, (.istore 5, 30, v_i 0, 0, 0, 0, [])), (30, (.aload_n 0, 31, v_i 0, 0, 0, 0, [])), (31, (.getfield 272, 34, v_i 0, 44, 12, 0, [])), (34, (.istore 6, 36, v_i 0, 0, 0, 0, [])), (36, (.aload_n 0, 37, v_i 0, 0, 0, 0, [])), (37, (.getfield 275, 40, v_i 0, 45, 12, 0, [])), (40, (.istore 7, 42, v_i 0, 0, 0, 0, [])), (42, (.aload_n 0, 43, v_i 0, 0, 0, 0, [])), (43, (.getfield 278, 46, v_i 0, 46, 12, 0, [])), (46, (.istore 8, 48, v_i 0, 0, 0, 0, [])), (48, (.aload_n 0, 49, v_i 0, 0, 0, 0, [])), (49, (.bipush (123), 51, v_i (123), 0, 0, 0, [])), (51, (.invokevirtual 420, 54, v_r 2, 78, 0, 12, [])), (54, (.aload_n 0, 55, v_i 0, 0, 0, 0, [])), (55, (.iload_n 3, 56, v_i 0, 0, 0, 0, [])), (56, (.invokevirtual 435, 59, v_r 2, 81, 0, 12, [])), (59, (.aload_n 0, 60, v_i 0, 0, 0, 0, [])), (60, (.bipush (58), 62, v_i (58), 0, 0, 0, [])), (62, (.invokevirtual 420, 65, v_r 2, 78, 0, 12, [])), (65, (.aload_n 0, 66, v_i 0, 0, 0, 0, [])), (66, (.iconst (1), 67, v_i (1), 0, 0, 0, [])), (67, (.invokevirtual 438, 70, v_r 2, 85, 1, 12, [])), (70, (.istore 4, 72, v_i 0, 0, 0, 0, [])), (72, (.iload 4, 74, v_i 0, 0, 0, 0, [])), (74, (.iconst (1), 75, v_i (1), 0, 0, 0, [])), (75, (.if_icmp .ne (15), 78, v_i 0, 90, 0, 0, [])), (78, (.aload_n 0, 79, v_i 0, 0, 0, 0, [])), (79, (.iload 5, 81, v_i 0, 0, 0, 0, [])), (81, (.iload 6, 83, v_i 0, 0, 0, 0, [])), (83, (.iload_n 3, 84, v_i 0, 0, 0, 0, [])), (84, (.invokevirtual 441, 87, v_r 4, 86, 1, 12, [])), (87, (.goto (5), 90, v_i 0, 92, 0, 0, [])), (90, (.iload 4, 92, v_i 0, 0, 0, 0, [])), (92, (.istore 4, 94, v_i 0, 0, 0, 0, [])), (94, (.aload_n 0, 95, v_i 0, 0, 0, 0, [])), (95, (.bipush (125), 97, v_i (125), 0, 0, 0, [])), (97, (.invokevirtual 420, 100, v_r 2, 78, 0, 12, [])), (100, (.aload_n 0, 101, v_i 0, 0, 0, 0, [])), (101, (.iload 4, 103, v_i 0, 0, 0, 0, [])), (103, (.invokevirtual 438, 106, v_r 2, 85, 1, 12, [])), (106, (.istore 4, 108, v_i 0, 0, 0, 0, [])), (108, (.iload 4, 110, v_i 0, 0, 0, 0, [])), (110, (.iconst (1), 111, v_i (1), 0, 0, 0, [])), (111, (.if_icmp .ne (30), 114, v_i 0, 141, 0, 0, [])), (114, (.aload_n 0, 115, v_i 0, 0, 0, 0, [])), (115, (.iload 7, 117, v_i 0, 0, 0, 0, [])), (117, (.aload_n 0, 118, v_i 0, 0, 0, 0, [])), (118, (.aload_n 0, 119, v_i 0, 0, 0, 0, [])), (119, (.iload 5, 121, v_i 0, 0, 0, 0, [])), (121, (.iload 6, 123, v_i 0, 0, 0, 0, [])), (123, (.iload_n 3, 124, v_i 0, 0, 0, 0, [])), (124, (.invokevirtual 309, 127, v_r 4, 44, 1, 12, [])), (127, (.iload 8, 129, v_i 0, 0, 0, 0, [])), (129, (.invokevirtual 256, 132, v_r 3, 42, 1, 12, [])), (132, (.iload_n 3, 133, v_i 0, 0, 0, 0, [])), (133, (.iconst (1), 134, v_i (1), 0, 0, 0, [])), (134, (.iadd, 135, v_i 0, 0, 0, 0, [])), (135, (.invokevirtual 441, 138, v_r 4, 86, 1, 12, [])), (138, (.goto (5), 141, v_i 0, 143, 0, 0, [])), (141, (.iload 4, 143, v_i 0, 0, 0, 0, [])), (143, (.istore 4, 145, v_i 0, 0, 0, 0, [])), (145, (.goto (80), 148, v_i 0, 225, 0, 0, [])), (148, (.aload_n 0, 149, v_i 0, 0, 0, 0, [])), (149, (.aload_n 0, 150, v_i 0, 0, 0, 0, [])), (150, (.getfield 263, 153, v_i 0, 47, 12, 0, [])), (153, (.aload_n 0, 154, v_i 0, 0, 0, 0, [])), (154, (.getfield 266, 157, v_i 0, 48, 12, 0, [])), (157, (.invokevirtual 313, 160, v_r 3, 56, 1, 12, [])), (160, (.istore 5, 162, v_i 0, 0, 0, 0, [])), (162, (.aload_n 0, 163, v_i 0, 0, 0, 0, [])), (163, (.getfield 284, 166, v_i 0, 51, 12, 0, [])), (166, (.istore 6, 168, v_i 0, 0, 0, 0, [])), (168, (.aload_n 0, 169, v_i 0, 0, 0, 0, [])), (169, (.aload_n 0, 170, v_i 0, 0, 0, 0, [])), (170, (.getfield 48, 173, v_i 0, 22, 12, 0, [])), (173, (.iload 6, 175, v_i 0, 0, 0, 0, [])), (175, (.laload, 176, v_i 0, 0, 0, 0, [])), (176, (.invokevirtual 444, 179, v_r 2, 80, 0, 12, [])), (179, (.aload_n 0, 180, v_i 0, 0, 0, 0, [])), (180, (.aload_n 0, 181, v_i 0, 0, 0, 0, [])), (181, (.getfield 51, 184, v_i 0, 23, 12, 0, [])), (184, (.iload 6, 186, v_i 0, 0, 0, 0, [])), (186, (.laload, 187, v_i 0, 0, 0, 0, [])), (187, (.invokevirtual 444, 190, v_r 2, 80, 0, 12, [])), (190, (.aload_n 0, 191, v_i 0, 0, 0, 0, [])), (191, (.iconst (1), 192, v_i (1), 0, 0, 0, [])), (192, (.invokevirtual 438, 195, v_r 2, 85, 1, 12, [])), (195, (.istore 4, 197, v_i 0, 0, 0, 0, [])), (197, (.iload 4, 199, v_i 0, 0, 0, 0, [])), (199, (.iconst (1), 200, v_i (1), 0, 0, 0, [])), (200, (.if_icmp .ne (21), 203, v_i 0, 221, 0, 0, [])), (203, (.aload_n 0, 204, v_i 0, 0, 0, 0, [])), (204, (.aload_n 0, 205, v_i 0, 0, 0, 0, [])), (205, (.getfield 58, 208, v_i 0, 25, 12, 0, [])), (208, (.iload 6, 210, v_i 0, 0, 0, 0, [])), (210, (.iaload, 211, v_i 0, 0, 0, 0, [])), (211, (.iconst (-1), 212, v_i (-1), 0, 0, 0, [])), (212, (.iload 5, 214, v_i 0, 0, 0, 0, [])), (214, (.iload_n 3, 215, v_i 0, 0, 0, 0, [])), (215, (.invokevirtual 447, 218, v_r 5, 87, 1, 12, [])), (218, (.goto (5), 221, v_i 0, 223, 0, 0, [])), (221, (.iload 4, 223, v_i 0, 0, 0, 0, [])), (223, (.istore 4, 225, v_i 0, 0, 0, 0, [])), (225, (.aload_n 0, 226, v_i 0, 0, 0, 0, [])), (226, (.dup, 227, v_i 0, 0, 0, 0, [])), (227, (.getfield 290, 230, v_i 0, 53, 12, 0, [])), (230, (.iconst (1), 231, v_i (1), 0, 0, 0, [])), (231, (.isub, 232, v_i 0, 0, 0, 0, [])), (232, (.putfield 290, 235, v_i 0, 53, 12, 0, [])), (235, (.iload 4, 237, v_i 0, 0, 0, 0, [])), (237, (.ireturn, 238, v_i 0, 0, 0, 0, []))]
def L_Rm_tellFamily : List (Nat × List Nat) := [(92, [0, 3, 5, 6, 7, 8])]
def D_Rm_tellFamily : c_M0 := (T_Rm_tellFamily, L_Rm_tellFamily, 1, 12, ⟨R_Rm, "tellFamily", "(III)I"⟩, prog_14_method_71_code, 9, some .int)
set_option maxRecDepth 100000 in
theorem k_Rm_tellFamily : ∀ q ∈ T_Rm_tellFamily, ck_e 12 prog_14_method_71_code q = true := by decide +kernel
def T_Rm_tellBehind : List (Nat × c_E) := [(0, (.iload_n 1, 1, v_i 0, 0, 0, 0, [])), (1, (.istore 5, 3, v_i 0, 0, 0, 0, [])), (3, (.iload_n 2, 4, v_i 0, 0, 0, 0, [])), (4, (.istore 6, 6, v_i 0, 0, 0, 0, [])), (6, (.iconst (1), 7, v_i (1), 0, 0, 0, [])), (7, (.istore 7, 9, v_i 0, 0, 0, 0, [])), (9, (.iload_n 3, 10, v_i 0, 0, 0, 0, [])), (10, (.istore 8, 12, v_i 0, 0, 0, 0, [])), (12, (.iload 8, 14, v_i 0, 0, 0, 0, [])), (14, (.ifCond .lt (110), 17, v_i 0, 124, 0, 0, [])), (17, (.iload 7, 19, v_i 0, 0, 0, 0, [])), (19, (.iconst (1), 20, v_i (1), 0, 0, 0, [])), (20, (.if_icmp .ne (104), 23, v_i 0, 124, 0, 0, [])), (23, (.aload_n 0, 24, v_i 0, 0, 0, 0, [])), (24, (.iload 5, 26, v_i 0, 0, 0, 0, [])), (26, (.iload 6, 28, v_i 0, 0, 0, 0, [])), (28, (.invokevirtual 300, 31, v_r 3, 48, 1, 12, [])), (31, (.istore 9, 33, v_i 0, 0, 0, 0, [])), (33, (.aload_n 0, 34, v_i 0, 0, 0, 0, [])), (34, (.getfield 275, 37, v_i 0, 45, 12, 0, [])), (37, (.istore 10, 39, v_i 0, 0, 0, 0, [])), (39, (.aload_n 0, 40, v_i 0, 0, 0, 0, [])), (40, (.getfield 278, 43, v_i 0, 46, 12, 0, [])), (43, (.istore 11, 45, v_i 0, 0, 0, 0, [])), (45, (.aload_n 0, 46, v_i 0, 0, 0, 0, [])), (46, (.getfield 80, 49, v_i 0, 34, 12, 0, [])), (49, (.iload 8, 51, v_i 0, 0, 0, 0, [])), (51, (.iaload, 52, v_i 0, 0, 0, 0, [])), (52, (.istore 12, 54, v_i 0, 0, 0, 0, [])), (54, (.aload_n 0, 55, v_i 0, 0, 0, 0, [])), (55, (.bipush (32), 57, v_i (32), 0, 0, 0, [])), (57, (.invokevirtual 420, 60, v_r 2, 78, 0, 12, [])), (60, (.aload_n 0, 61, v_i 0, 0, 0, 0, [])), (61, (.iconst (1), 62, v_i (1), 0, 0, 0, [])), (62, (.invokevirtual 438, 65, v_r 2, 85, 1, 12, [])), (65, (.istore 7, 67, v_i 0, 0, 0, 0, [])), (67, (.iload 7, 69, v_i 0, 0, 0, 0, [])), (69, (.iconst (1), 70, v_i (1), 0, 0, 0, [])), (70, (.if_icmp .ne (24), 73, v_i 0, 94, 0, 0, [])), (73, (.aload_n 0, 74, v_i 0, 0, 0, 0, [])), (74, (.iload 12, 76, v_i 0, 0, 0, 0, [])), (76, (.iconst (-1), 77, v_i (-1), 0, 0, 0, [])), (77, (.aload_n 0, 78, v_i 0, 0, 0, 0, [])), (78, (.getfield 269, 81, v_i 0, 43, 12, 0, [])), (81, (.aload_n 0, 82, v_i 0, 0, 0, 0, [])), (82, (.getfield 272, 85, v_i 0, 44, 12, 0, [])), (85, (.iload 4, 87, v_i 0, 0, 0, 0, [])), (87, (.iconst (1), 88, v_i (1), 0, 0, 0, [])), (88, (.invokevirtual 450, 91, v_r 7, 88, 1, 12, [])), (91, (.goto (5), 94, v_i 0, 96, 0, 0, [])), (94, (.iload 7, 96, v_i 0, 0, 0, 0, [])), (96, (.istore 7, 98, v_i 0, 0, 0, 0, [])), (98, (.iload 10, 100, v_i 0, 0, 0, 0, [])), (100, (.istore 5, 102, v_i 0, 0, 0, 0, [])), (102, (.aload_n 0, 103, v_i 0, 0, 0, 0, [])), (103, (.iload 12, 105, v_i 0, 0, 0, 0, [])), (105, (.iload 11, 107, v_i 0, 0, 0, 0, [])), (107, (.invokevirtual 256, 110, v_r 3, 42, 1, 12, [])), (110, (.istore 6, 112, v_i 0, 0, 0, 0, [])), (112, (.aload_n 0, 113, v_i 0, 0, 0, 0, [])), (113, (.getfield 83, 116, v_i 0, 35, 12, 0, [])), (116, (.iload 8, 118, v_i 0, 0, 0, 0, [])), (118, (.iaload, 119, v_i 0, 0, 0, 0, [])), (119, (.istore 8, 121, v_i 0, 0, 0, 0, [])), (121, (.goto (-109), 124, v_i 0, 12, 0, 0, [])), (124, (.iload 7, 126, v_i 0, 0, 0, 0, [])), (126, (.ireturn, 127, v_i 0, 0, 0, 0, []))]
def L_Rm_tellBehind : List (Nat × List Nat) := [(12, [0, 4, 5, 6, 7, 8]), (96, [0, 4, 8, 10, 11, 12])]
def D_Rm_tellBehind : c_M0 := (T_Rm_tellBehind, L_Rm_tellBehind, 1, 12, ⟨R_Rm, "tellBehind", "(IIII)I"⟩, prog_14_method_72_code, 13, some .int)
set_option maxRecDepth 100000 in
theorem k_Rm_tellBehind : ∀ q ∈ T_Rm_tellBehind, ck_e 12 prog_14_method_72_code q = true := by decide +kernel
def T_Rm_tellObject : List (Nat × c_E) := [(0, (.aload_n 0, 1, v_i 0, 0, 0, 0, [])), (1, (.invokevirtual 293, 4, v_r 1, 53, 1, 12, [])), (4, (.istore 7, 6, v_i 0, 0, 0, 0, [])), (6, (.iload 7, 8, v_i 0, 0, 0, 0, [])), (8, (.iconst (1), 9, v_i (1), 0, 0, 0, [])), (9, (.if_icmp .eq (6), 12, v_i 0, 15, 0, 0, [])), (12, (.iload 7, 14, v_i 0, 0, 0, 0, [])), (14, (.ireturn, 15, v_i 0, 0, 0, 0, [])), (15, (.aload_n 0, 16, v_i 0, 0, 0, 0, [])), (16, (.iload_n 3, 17, v_i 0, 0, 0, 0, [])), (17, (.iload 4, 19, v_i 0, 0, 0, 0, [])), (19, (.invokevirtual 300, 22, v_r 3, 48, 1, 12, [])), (22, (.ifCond .eq (18), 25, v_i 0, 40, 0, 0, [])), (25, (.aload_n 0, 26, v_i 0, 0, 0, 0, [])), (26, (.iload_n 1, 27, v_i 0, 0, 0, 0, [])), (27, (.iload_n 2, 28, v_i 0, 0, 0, 0, [])), (28, (.iload 5, 30, v_i 0, 0, 0, 0, [])), (30, (.iload 6, 32, v_i 0, 0, 0, 0, [])), (32, (.invokevirtual 454, 35, v_r 5, 89, 1, 12, [])), (35, (.istore 7, 37, v_i 0, 0, 0, 0, [])), (37, (.goto (15), 40, v_i 0, 52, 0, 0, [])), (40, (.aload_n 0, 41, v_i 0, 0, 0, 0, [])), (41, (.iload_n 1, 42, v_i 0, 0, 0, 0, [])), (42, (.iload_n 2, 43, v_i 0, 0, 0, 0, [])), (43, (.iload 5, 45, v_i 0, 0, 0, 0, [])), (45, (.iload 6, 47, v_i 0, 0, 0, 0, [])), (47, (.invokevirtual 458, 50, v_r 5, 90, 1, 12, [])), (50, (.istore 7, 52, v_i 0, 0, 0, 0, [])), (52, (.aload_n 0, 53, v_i 0, 0, 0, 0, [])), (53, (.dup, 54, v_i 0, 0, 0, 0, [])), (54, (.getfield 290, 57, v_i 0, 53, 12, 0, [])), (57, (.iconst (1), 58, v_i (1), 0, 0, 0, [])), (58, (.isub, 59, v_i 0, 0, 0, 0, [])), (59, (.putfield 290, 62, v_i 0, 53, 12, 0, [])), (62, (.iload 7, 64, v_i 0, 0, 0, 0, [])), (64, (.ireturn, 65, v_i 0, 0, 0, 0, []))]
def L_Rm_tellObject : List (Nat × List Nat) := []
def D_Rm_tellObject : c_M0 := (T_Rm_tellObject, L_Rm_tellObject, 1, 12, ⟨R_Rm, "tellObject", "(IIIIIZ)I"⟩, prog_14_method_73_code, 8, some .int)
set_option maxRecDepth 100000 in
theorem k_Rm_tellObject : ∀ q ∈ T_Rm_tellObject, ck_e 12 prog_14_method_73_code q = true := by decide +kernel
def T_Rm_tellLambda : List (Nat × c_E) := [(0, (.aload_n 0, 1, v_i 0, 0, 0, 0, [])), (1, (.getfield 269, 4, v_i 0, 43, 12, 0, [])), (4, (.istore 5, 6, v_i 0, 0, 0, 0, [])), (6, (.aload_n 0, 7, v_i 0, 0, 0, 0, [])), (7, (.getfield 272, 10, v_i 0, 44, 12, 0, [])), (10, (.istore 6, 12, v_i 0, 0, 0, 0, [])), (12, (.aload_n 0, 13, v_i 0, 0, 0, 0, [])), (13, (.getfield 275, 16, v_i 0, 45, 12, 0, [])), (16, (.istore 7, 18, v_i 0, 0, 0, 0, [])), (18, (.aload_n 0, 19, v_i 0, 0, 0, 0, [])), (19, (.getfield 278, 22, v_i 0, 46, 12, 0, [])), (22, (.istore 8, 24, v_i 0, 0, 0, 0, [])), (24, (.iload 4, 26, v_i 0, 0, 0, 0, [])), (26, (.ifCond .eq (9), 29, v_i 0, 35, 0, 0, [])), (29, (.aload_n 0, 30, v_i 0, 0, 0, 0, [])), (30, (.bipush (40), 32, v_i (40), 0, 0, 0, [])), (32, (.invokevirtual 420, 35, v_r 2, 78, 0, 12, [])), (35, (.aload_n 0, 36, v_i 0, 0, 0, 0, [])), (36, (.bipush (91), 38, v_i (91), 0, 0, 0, [])), (38, (.invokevirtual 420, 41, v_r 2, 78, 0, 12, [])), (41, (.aload_n 0, 42, v_i 0, 0, 0, 0, [])), (42, (.iload_n 3, 43, v_i 0, 0, 0, 0, [])), (43, (.invokevirtual 435, 46, v_r 2, 81, 0, 12, [])), (46, (.aload_n 0, 47, v_i 0, 0, 0, 0, [])), (47, (.bipush (58), 49, v_i (58), 0, 0, 0, [])), (49, (.invokevirtual 420, 52, v_r 2, 78, 0, 12, [])), (52, (.aload_n 0, 53, v_i 0, 0, 0, 0, [])), (53, (.iconst (1), 54, v_i (1), 0, 0, 0, [])), (54, (.invokevirtual 438, 57, v_r 2, 85, 1, 12, [])), (57, (.istore 9, 59, v_i 0, 0, 0, 0, [])), (59, (.iload 9, 61, v_i 0, 0, 0, 0, [])), (61, (.iconst (1), 62, v_i (1), 0, 0, 0, [])), (62, (.if_icmp .ne (15), 65, v_i 0, 77, 0, 0, [])), (65, (.aload_n 0, 66, v_i 0, 0, 0, 0, [])), (66, (.iload 5, 68, v_i 0, 0, 0, 0, [])), (68, (.iload 6, 70, v_i 0, 0, 0, 0, [])), (70, (.iload_n 3, 71, v_i 0, 0, 0, 0, [])), (71, (.invokevirtual 441, 74, v_r 4, 86, 1, 12, [])), (74, (.goto (5), 77, v_i 0, 79, 0, 0, [])), (77, (.iload 9, 79, v_i 0, 0, 0, 0, [])), (79, (.istore 9, 81, v_i 0, 0, 0, 0, [])), (81, (.aload_n 0, 82, v_i 0, 0, 0, 0, [])), (82, (.bipush (93), 84, v_i (93), 0, 0, 0, [])), (84, (.invokevirtual 420, 87, v_r 2, 78, 0, 12, [])), (87, (.aload_n 0, 88, v_i 0, 0, 0, 0, [])), (88, (.iload 9, 90, v_i 0, 0, 0, 0, [])), (90, (.invokevirtual 438, 93, v_r 2, 85, 1, 12, [])), (93, (.istore 9, 95, v_i 0, 0, 0, 0, [])), (95, (.iload 9, 97, v_i 0, 0, 0, 0, [])), (97, (.iconst (1), 98, v_i (1), 0, 0, 0, [])), (98, (.if_icmp .eq (6), 101, v_i 0, 104, 0, 0, [])), (101, (.iload 9, 103, v_i 0, 0, 0, 0, [])), (103, (.ireturn, 104, v_i 0, 0, 0, 0, [])), (104, (.aload_n 0, 105, v_i 0, 0, 0, 0, [])), (105, (.iload 5, 107, v_i 0, 0, 0, 0, [])), (107, (.iload 6, 109, v_i 0, 0, 0, 0, [])), (109, (.iload_n 3, 110, v_i 0, 0, 0, 0, [])), (110, (.invokevirtual 309, 113, v_r 4, 44, 1, 12, [])), (113, (.istore 10, 115, v_i 0, 0, 0, 0, [])), (115, (.aload_n 0, 116, v_i 0, 0, 0, 0, [])), (116, (.iload_n 1, 117, v_i 0, 0, 0, 0, [])), (117, (.aload_n 0, 118, v_i 0, 0, 0, 0, [])), (118, (.iload_n 2, 119, v_i 0, 0, 0, 0, [])), (119, (.iload 10, 121, v_i 0, 0, 0, 0, [])), (121, (.invokevirtual 323, 124, v_r 3, 59, 1, 12, [])), (124, (.iload 7, 126, v_i 0, 0, 0, 0, [])), (126, (.aload_n 0, 127, v_i 0, 0, 0, 0, [])), (127, (.iload 10, 129, v_i 0, 0, 0, 0, [])), (129, (.iload 8, 131, v_i 0, 0, 0, 0, [])), (131, (.invokevirtual 256, 134, v_r 3, 42, 1, 12, [])), (134, (.iload_n 3, 135, v_i 0, 0, 0, 0, [])), (135, (.iconst (1), 136, v_i (1), 0, 0, 0, [])), (136, (.iadd, 137, v_i 0, 0, 0, 0, [])), (137, (.iconst (0), 138, v_i (0), 0, 0, 0, [])), (138, (.invokevirtual 450, 141, v_r 7, 88, 1, 12, [])), (141, (.istore 9, 143, v_i 0, 0, 0, 0, [])), (143, (.iload 4, 145, v_i 0, 0, 0, 0, [])), (145, (.ifCond .eq (9), 148, v_i 0, 154, 0, 0, [])), (148, (.aload_n 0, 149, v_i 0, 0, 0, 0, [])), (149, (.bipush (41), 151, v_i (41), 0, 0, 0, [])), (151, (.invokevirtual 420, 154, v_r 2, 78, 0, 12, [])), (154, (.aload_n 0, 155, v_i 0, 0, 0, 0, [])), (155, (.iload 9, 157, v_i 0, 0, 0, 0, [])), (157, (.invokevirtual 438, 160, v_r 2, 85, 1, 12, [])), (160, (.ireturn, 161, v_i 0, 0, 0, 0, []))]
def L_Rm_tellLambda : List (Nat × List Nat) := [(35, [0, 1, 2, 3, 4, 5, 6, 7, 8]), (79, [0, 1, 2, 3, 4, 5, 6, 7, 8]), (154, [0, 9])]
def D_Rm_tellLambda : c_M0 := (T_Rm_tellLambda, L_Rm_tellLambda, 1, 12, ⟨R_Rm, "tellLambda", "(IIIZ)I"⟩, prog_14_method_74_code, 11, some .int)
set_option maxRecDepth 100000 in
theorem k_Rm_tellLambda : ∀ q ∈ T_Rm_tellLambda, ck_e 12 prog_14_method_74_code q = true := by decide +kernel
def T_Rm_tellHead : List (Nat × c_E) := [(0, (.aload_n 0, 1, v_i 0, 0, 0, 0, [])), (1, (.iload_n 1, 2, v_i 0, 0, 0, 0, [])), (2, (.iload_n 2, 3, v_i 0, 0, 0, 0, [])), (3, (.invokevirtual 329, 6, v_r 3, 51, 1, 12, [])), (6, (.istore 5, 8, v_i 0, 0, 0, 0, [])), (8, (.iload 5, 10, v_i 0, 0, 0, 0, [])), (10, (.ifCond .le (6), 13, v_i 0, 16, 0, 0, [])), (13, (.iload 5, 15, v_i 0, 0, 0, 0, [])), (15, (.ireturn, 16, v_i 0, 0, 0, 0, [])), (16, (.aload_n 0, 17, v_i 0, 0, 0, 0, [])), (17, (.getfield 284, 20, v_i 0, 51, 12, 0, [])), (20, (.istore 6, 22, v_i 0, 0, 0, 0, [])), (22, (.aload_n 0, 23, v_i 0, 0, 0, 0, [])), (23, (.getfield 287, 26, v_i 0, 52, 12, 0, [])), (26, (.istore 7, 28, v_i 0, 0, 0, 0, [])), (28, (.iload 4, 30, v_i 0, 0, 0, 0, [])), (30, (.ifCond .eq (12), 33, v_i 0, 42, 0, 0, [])), (33, (.iload 7, 35, v_i 0, 0, 0, 0, [])), (35, (.ifCond .lt (7), 38, v_i 0, 42, 0, 0, [])), (38, (.iconst (1), 39, v_i (1), 0, 0, 0, [])), (39, (.goto (4), 42, v_i 0, 43, 0, 0, [])), (42, (.iconst (0), 43, v_i (0), 0, 0, 0, [])), (43, (.istore 8, 45, v_i 0, 0, 0, 0, [])), (45, (.iload 8, 47, v_i 0, 0, 0, 0, [])), (47, (.ifCond .eq (9), 50, v_i 0, 56, 0, 0, [])), (50, (.aload_n 0, 51, v_i 0, 0, 0, 0, [])), (51, (.bipush (40), 53, v_i (40), 0, 0, 0, [])), (53, (.invokevirtual 420, 56, v_r 2, 78, 0, 12, [])), (56, (.iload 6, 58, v_i 0, 0, 0, 0, [])), (58, (.ifCond .ge (20), 61, v_i 0, 78, 0, 0, [])), (61, (.aload_n 0, 62, v_i 0, 0, 0, 0, [])), (62, (.aload_n 0, 63, v_i 0, 0, 0, 0, [])), (63, (.getfield 92, 66, v_i 0, 39, 12, 0, [])), (66, (.iload 6, 68, v_i 0, 0, 0, 0, [])), (68, (.ineg, 69, v_i 0, 0, 0, 0, [])), (69, (.iconst (1), 70, v_i (1), 0, 0, 0, [])), (70, (.isub, 71, v_i 0, 0, 0, 0, [])), (71, (.iaload, 72, v_i 0, 0, 0, 0, [])), (72, (.invokevirtual 435, 75, v_r 2, 81, 0, 12, [])), (75, (.goto (25), 78, v_i 0, 100, 0, 0, [])), (78, (.aload_n 0, 79, v_i 0, 0, 0, 0, [])), (79, (.aload_n 0, 80, v_i 0, 0, 0, 0, [])), (80, (.getfield 48, 83, v_i 0, 22, 12, 0, [])), (83, (.iload 6, 85, v_i 0, 0, 0, 0, [])), (85, (.laload, 86, v_i 0, 0, 0, 0, [])), (86, (.invokevirtual 444, 89, v_r 2, 80, 0, 12, [])), (89, (.aload_n 0, 90, v_i 0, 0, 0, 0, [])), (90, (.aload_n 0, 91, v_i 0, 0, 0, 0, [])), (91, (.getfield 51, 94, v_i 0, 23, 12, 0, [])), (94, (.iload 6, 96, v_i 0, 0, 0, 0, [])), (96, (.laload, 97, v_i 0, 0, 0, 0, [])), (97, (.invokevirtual 444, 100, v_r 2, 80, 0, 12, [])), (100, (.aload_n 0, 101, v_i 0, 0, 0, 0, [])), (101, (.iconst (1), 102, v_i (1), 0, 0, 0, [])), (102, (.invokevirtual 438, 105, v_r 2, 85, 1, 12, [])), (105, (.istore 5, 107, v_i 0, 0, 0, 0, [])), (107, (.iload 5, 109, v_i 0, 0, 0, 0, [])), (109, (.iconst (1), 110, v_i (1), 0, 0, 0, [])), (110, (.if_icmp .eq (8), 113, v_i 0, 118, 0, 0, [])), (113, (.iload 5, 115, v_i 0, 0, 0, 0, [])), (115, (.goto (53), 118, v_i 0, 168, 0, 0, [])), (118, (.iload 6, 120, v_i 0, 0, 0, 0, [])), (120, (.ifCond .ge (33), 123, v_i 0, 153, 0, 0, [])), (123, (.aload_n 0, 124, v_i 0, 0, 0, 0, [])), (124, (.aload_n 0, 125, v_i 0, 0, 0, 0, [])), (125, (.getfield 86, 128, v_i 0, 37, 12, 0, [])), (128, (.iload 6, 130, v_i 0, 0, 0, 0, [])), (130, (.ineg, 131, v_i 0, 0, 0, 0, [])), (131, (.iconst (1), 132, v_i (1), 0, 0, 0, [])), (132, (.isub, 133, v_i 0, 0, 0, 0, [])), (133, (.iaload, 134, v_i 0, 0, 0, 0, [])), (134, (.aload_n 0, 135, v_i 0, 0, 0, 0, [])), (135, (.getfield 89, 138, v_i 0, 38, 12, 0, [])), (138, (.iload 6, 140, v_i 0, 0, 0, 0, [])), (140, (.ineg, 141, v_i 0, 0, 0, 0, [])), (141, (.iconst (1), 142, v_i (1), 0, 0, 0, [])), (142, (.isub, 143, v_i 0, 0, 0, 0, [])), (143, (.iaload, 144, v_i 0, 0, 0, 0, [])), (144, (.iload 7, 146, v_i 0, 0, 0, 0, [])), (146, (.iload_n 3, 147, v_i 0, 0, 0, 0, [])), (147, (.invokevirtual 447, 150, v_r 5, 87, 1, 12, [])), (150, (.goto (18), 153, v_i 0, 168, 0, 0, [])), (153, (.aload_n 0, 154, v_i 0, 0, 0, 0, [])), (154, (.aload_n 0, 155, v_i 0, 0, 0, 0, [])), (155, (.getfield 58, 158, v_i 0, 25, 12, 0, [])), (158, (.iload 6, 160, v_i 0, 0, 0, 0, [])), (160, (.iaload, 161, v_i 0, 0, 0, 0, [])), (161, (.iconst (-1), 162, v_i (-1), 0, 0, 0, [])), (162, (.iload 7, 164, v_i 0, 0, 0, 0, [])), (164, (.iload_n 3, 165, v_i 0, 0, 0, 0, [])), (165, (.invokevirtual 447, 168, v_r 5, 87, 1, 12, [])), (168, (.istore 5, 170, v_i 0, 0, 0, 0, [])), (170, (.iload 8, 172, v_i 0, 0, 0, 0, [])), (172, (.ifCond .eq (9), 175, v_i 0, 181, 0, 0, [])), (175, (.aload_n 0, 176, v_i 0, 0, 0, 0, [])), (176, (.bipush (41), 178, v_i (41), 0, 0, 0, [])), (178, (.invokevirtual 420, 181, v_r 2, 78, 0, 12, [])), (181, (.aload_n 0, 182, v_i 0, 0, 0, 0, [])), (182, (.iload 5, 184, v_i 0, 0, 0, 0, [])), (184, (.invokevirtual 438, 187, v_r 2, 85, 1, 12, [])), (187, (.ireturn, 188, v_i 0, 0, 0, 0, []))]
def L_Rm_tellHead : List (Nat × List Nat) := [(43, [0, 3, 6, 7]), (56, [0, 3, 6, 7, 8]), (100, [0, 3, 6, 7, 8]), (168, [0, 8]), (181, [0, 5])]
def D_Rm_tellHead : c_M0 := (T_Rm_tellHead, L_Rm_tellHead, 1, 12, ⟨R_Rm, "tellHead", "(IIIZ)I"⟩, prog_14_method_75_code, 9, some .int)
set_option maxRecDepth 100000 in
theorem k_Rm_tellHead : ∀ q ∈ T_Rm_tellHead, ck_e 12 prog_14_method_75_code q = true := by decide +kernel
def T_Rm_askOne : List (Nat × c_E) := [(0, (.aload_n 0, 1, v_i 0, 0, 0, 0, [])), (1, (.invokevirtual 407, 4, v_r 1, 34, 1, 12, [])), (4, (.istore_n 1, 5, v_i 0, 0, 0, 0, [])), (5, (.aload_n 0, 6, v_i 0, 0, 0, 0, [])), (6, (.getfield 152, 9, v_i 0, 9, 12, 0, [])), (9, (.ifCond .ne (24), 12, v_i 0, 33, 0, 0, [])), (12, (.aload_n 0, 13, v_i 0, 0, 0, 0, [])), (13, (.getfield 13, 16, v_i 0, 4, 12, 0, [])), (16, (.aload_n 0, 17, v_i 0, 0, 0, 0, [])), (17, (.getfield 149, 20, v_i 0, 8, 12, 0, [])), (20, (.iaload, 21, v_i 0, 0, 0, 0, [])), (21, (.ifCond .eq (12), 24, v_i 0, 33, 0, 0, [])), (24, (.aload_n 0, 25, v_i 0, 0, 0, 0, [])), (25, (.iconst (1), 26, v_i (1), 0, 0, 0, [])), (26, (.aload_n 0, 27, v_i 0, 0, 0, 0, [])), (27, (.getfield 149, 30, v_i 0, 8, 12, 0, [])), (30, (.invokevirtual 160, 33, v_r 3, 25, 0, 12, [])), (33, (.aload_n 0, 34, v_i 0, 0, 0, 0, [])), (34, (.iconst (0), 35, v_i (0), 0, 0, 0, [])), (35, (.putfield 363, 38, v_i 0, 59, 12, 0, [])), (38, (.aload_n 0, 39, v_i 0, 0, 0, 0, [])), (39, (.getfield 152, 42, v_i 0, 9, 12, 0, [])), (42, (.ifCond .ne (8), 45, v_i 0, 50, 0, 0, [])), (45, (.aload_n 0, 46, v_i 0, 0, 0, 0, [])), (46, (.iload_n 1, 47, v_i 0, 0, 0, 0, [])), (47, (.invokevirtual 366, 50, v_r 2, 71, 0, 12, [])), (50, (.iload_n 1, 51, v_i 0, 0, 0, 0, [])), (51, (.ireturn, 52, v_i 0, 0, 0, 0, []))]
def L_Rm_askOne : List (Nat × List Nat) := [(33, [0, 1])]
def D_Rm_askOne : c_M0 := (T_Rm_askOne, L_Rm_askOne, 1, 12, ⟨R_Rm, "askOne", "()I"⟩, prog_14_method_76_code, 2, some .int)
set_option maxRecDepth 100000 in
theorem k_Rm_askOne : ∀ q ∈ T_Rm_askOne, ck_e 12 prog_14_method_76_code q = true := by decide +kernel
def T_Rm_tell : List (Nat × c_E) := [(0, (.aload_n 0, 1, v_i 0, 0, 0, 0, [])), (1, (.iconst (0), 2, v_i (0), 0, 0, 0, [])), (2, (.putfield 119, 5, v_i 0, 0, 12, 0, [])), (5, (.aload_n 0, 6, v_i 0, 0, 0, 0, [])), (6, (.invokevirtual 401, 9, v_r 1, 47, 0, 12, [])), (9, (.aload_n 0, 10, v_i 0, 0, 0, 0, [])), (10, (.getfield 164, 13, v_i 0, 16, 12, 0, [])), (13, (.istore_n 2, 14, v_i 0, 0, 0, 0, [])), (14, (.aload_n 0, 15, v_i 0, 0, 0, 0, [])), (15, (.invokevirtual 461, 18, v_r 1, 91, 1, 12, [])), (18, (.istore_n 3, 19, v_i 0, 0, 0, 0, [])), (19, (.aload_n 0, 20, v_i 0, 0, 0, 0, [])), (20, (.getfield 152, 23, v_i 0, 9, 12, 0, [])), (23, (.ifCond .ne (85), 26, v_i 0, 108, 0, 0, [])), (26, (.aload_n 0, 27, v_i 0, 0, 0, 0, [])), (27, (.invokevirtual 464, 30, v_r 1, 82, 0, 12, [])), (30, (.aload_n 0, 31, v_i 0, 0, 0, 0, [])), (31, (.iconst (0), 32, v_i (0), 0, 0, 0, [])), (32, (.putfield 410, 35, v_i 0, 64, 12, 0, [])), (35, (.aload_n 0, 36, v_i 0, 0, 0, 0, [])), (36, (.iconst (0), 37, v_i (0), 0, 0, 0, [])), (37, (.putfield 413, 40, v_i 0, 66, 12, 0, [])), (40, (.aload_n 0, 41, v_i 0, 0, 0, 0, [])), (41, (.iconst (0), 42, v_i (0), 0, 0, 0, [])), (42, (.putfield 290, 45, v_i 0, 53, 12, 0, [])), (45, (.iload_n 1, 46, v_i 0, 0, 0, 0, [])), (46, (.ifCond .eq (19), 49, v_i 0, 65, 0, 0, [])), (49, (.aload_n 0, 50, v_i 0, 0, 0, 0, [])), (50, (.aload_n 0, 51, v_i 0, 0, 0, 0, [])), (51, (.getfield 369, 54, v_i 0, 60, 12, 0, [])), (54, (.aload_n 0, 55, v_i 0, 0, 0, 0, [])), (55, (.getfield 372, 58, v_i 0, 61, 12, 0, [])), (58, (.iconst (0), 59, v_i (0), 0, 0, 0, [])), (59, (.invokevirtual 441, 62, v_r 4, 86, 1, 12, [])), (62, (.goto (24), 65, v_i 0, 86, 0, 0, [])), (65, (.aload_n 0, 66, v_i 0, 0, 0, 0, [])), (66, (.aload_n 0, 67, v_i 0, 0, 0, 0, [])), (67, (.iload_n 3, 68, v_i 0, 0, 0, 0, [])), (68, (.iconst (-1), 69, v_i (-1), 0, 0, 0, [])), (69, (.invokevirtual 229, 72, v_r 3, 41, 1, 12, [])), (72, (.iconst (-1), 73, v_i (-1), 0, 0, 0, [])), (73, (.aload_n 0, 74, v_i 0, 0, 0, 0, [])), (74, (.getfield 369, 77, v_i 0, 60, 12, 0, [])), (77, (.aload_n 0, 78, v_i 0, 0, 0, 0, [])), (78, (.getfield 372, 81, v_i 0, 61, 12, 0, [])), (81, (.iconst (0), 82, v_i (0), 0, 0, 0, [])), (82, (.iconst (0), 83, v_i (0), 0, 0, 0, [])), (83, (.invokevirtual 450, 86, v_r 7, 88, 1, 12, [])), (86, (.istore 4, 88, v_i 0, 0, 0, 0, [])), (88, (.iload 4, 90, v_i 0, 0, 0, 0, [])), (90, (.iconst (1), 91, v_i (1), 0, 0, 0, [])), (91, (.if_icmp .eq (17), 94, v_i 0, 108, 0, 0, [])), (94, (.aload_n 0, 95, v_i 0, 0, 0, 0, [])), (95, (.iload 4, 97, v_i 0, 0, 0, 0, [])), (97, (.bipush (16), 99, v_i (16), 0, 0, 0, [])), (99, (.aload_n 0, 100, v_i 0, 0, 0, 0, [])), (100, (.getfield 130, 103, v_i 0, 3, 12, 0, [])), (103, (.imul, 104, v_i 0, 0, 0, 0, [])), (104, (.iadd, 105, v_i 0, 0, 0, 0, [])), (105, (.putfield 152, 108, v_i 0, 9, 12, 0, [])), (108, (.aload_n 0, 109, v_i 0, 0, 0, 0, [])), (109, (.iload_n 2, 110, v_i 0, 0, 0, 0, [])), (110, (.putfield 164, 113, v_i 0, 16, 12, 0, [])), (113, (.aload_n 0, 114, v_i 0, 0, 0, 0, [])), (114, (.getfield 152, 117, v_i 0, 9, 12, 0, [])), (117, (.ifCond .ne (43), 120, v_i 0, 160, 0, 0, [])), (120, (.iconst (0), 121, v_i (0), 0, 0, 0, [])), (121, (.istore 4, 123, v_i 0, 0, 0, 0, [])), (123, (.iload 4, 125, v_i 0, 0, 0, 0, [])), (125, (.aload_n 0, 126, v_i 0, 0, 0, 0, [])), (126, (.getfield 410, 129, v_i 0, 64, 12, 0, [])), (129, (.if_icmp .ge (23), 132, v_i 0, 152, 0, 0, [])), (132, (.aload_n 0, 133, v_i 0, 0, 0, 0, [])), (133, (.getfield 116, 136, v_i 0, 69, 12, 0, [])), (136, (.iload 4, 138, v_i 0, 0, 0, 0, [])), (138, (.aload_n 0, 139, v_i 0, 0, 0, 0, [])), (139, (.getfield 110, 142, v_i 0, 63, 12, 0, [])), (142, (.iload 4, 144, v_i 0, 0, 0, 0, [])), (144, (.iaload, 145, v_i 0, 0, 0, 0, [])), (145, (.iastore, 146, v_i 0, 0, 0, 0, [])), (146, (.iinc 4 (1), 149, v_i (1), 0, 0, 0, [])), (149, (.goto (-26), 152, v_i 0, 123, 0, 0, [])), (152, (.aload_n 0, 153, v_i 0, 0, 0, 0, [])), (153, (.aload_n 0, 154, v_i 0, 0, 0, 0, [])), (154, (.getfield 410, 157, v_i 0, 64, 12, 0, [])), (157, (.putfield 467, 160, v_i 0, 70, 12, 0, [])), (160, (.aload_n 0, 161, v_i 0, 0, 0, 0, [])), (161, (.getfield 152, 164, v_i 0, 9, 12, 0, [])), (164, (.ireturn, 165, v_i 0, 0, 0, 0, []))]
def L_Rm_tell : List (Nat × List Nat) := [(86, [0, 2]), (108, [0, 2]), (123, [0, 4])]
def D_Rm_tell : c_M0 := (T_Rm_tell, L_Rm_tell, 1, 12, ⟨R_Rm, "tell", "(Z)I"⟩, prog_14_method_77_code, 5, some .int)
set_option maxRecDepth 100000 in
theorem k_Rm_tell : ∀ q ∈ T_Rm_tell, ck_e 12 prog_14_method_77_code q = true := by decide +kernel
def T_Rm_canon : List (Nat × c_E) := [(0, (.aload_n 0, 1, v_i 0, 0, 0, 0, [])), (1, (.iconst (0), 2, v_i (0), 0, 0, 0, [])), (2, (.invokevirtual 470, 5, v_r 2, 92, 1, 12, [])), (5, (.ireturn, 6, v_i 0, 0, 0, 0, []))]
def L_Rm_canon : List (Nat × List Nat) := []
def D_Rm_canon : c_M0 := (T_Rm_canon, L_Rm_canon, 1, 12, ⟨R_Rm, "canon", "()I"⟩, prog_14_method_78_code, 1, some .int)
set_option maxRecDepth 100000 in
theorem k_Rm_canon : ∀ q ∈ T_Rm_canon, ck_e 12 prog_14_method_78_code q = true := by decide +kernel
def T_Rm_type : List (Nat × c_E) := [(0, (.aload_n 0, 1, v_i 0, 0, 0, 0, [])), (1, (.iconst (1), 2, v_i (1), 0, 0, 0, [])), (2, (.invokevirtual 470, 5, v_r 2, 92, 1, 12, [])), (5, (.ireturn, 6, v_i 0, 0, 0, 0, []))]
def L_Rm_type : List (Nat × List Nat) := []
def D_Rm_type : c_M0 := (T_Rm_type, L_Rm_type, 1, 12, ⟨R_Rm, "type", "()I"⟩, prog_14_method_79_code, 1, some .int)
set_option maxRecDepth 100000 in
theorem k_Rm_type : ∀ q ∈ T_Rm_type, ck_e 12 prog_14_method_79_code q = true := by decide +kernel
def T_Rm_equal : List (Nat × c_E) := [(0, (.aload_n 0, 1, v_i 0, 0, 0, 0, [])), (1, (.iconst (0), 2, v_i (0), 0, 0, 0, [])), (2, (.putfield 119, 5, v_i 0, 0, 12, 0, [])), (5, (.aload_n 0, 6, v_i 0, 0, 0, 0, [])), (6, (.invokevirtual 401, 9, v_r 1, 47, 0, 12, [])), (9, (.aload_n 0, 10, v_i 0, 0, 0, 0, [])), (10, (.getfield 164, 13, v_i 0, 16, 12, 0, [])), (13, (.istore_n 1, 14, v_i 0, 0, 0, 0, [])), (14, (.aload_n 0, 15, v_i 0, 0, 0, 0, [])), (15, (.invokevirtual 407, 18, v_r 1, 34, 1, 12, [])), (18, (.istore_n 2, 19, v_i 0, 0, 0, 0, [])), (19, (.aload_n 0, 20, v_i 0, 0, 0, 0, [])), (20, (.bipush (59), 22, v_i (59), 0, 0, 0, [])), (22, (.invokevirtual 200, 25, v_r 2, 29, 0, 12, [])), (25, (.aload_n 0, 26, v_i 0, 0, 0, 0, [])), (26, (.getfield 152, 29, v_i 0, 9, 12, 0, [])), (29, (.ifCond .ne (10), 32, v_i 0, 39, 0, 0, [])), (32, (.aload_n 0, 33, v_i 0, 0, 0, 0, [])), (33, (.invokevirtual 407, 36, v_r 1, 34, 1, 12, [])), (36, (.goto (4), 39, v_i 0, 40, 0, 0, [])), (39, (.iconst (-1), 40, v_i (-1), 0, 0, 0, [])), (40, (.istore_n 3, 41, v_i 0, 0, 0, 0, [])), (41, (.aload_n 0, 42, v_i 0, 0, 0, 0, [])), (42, (.getfield 152, 45, v_i 0, 9, 12, 0, [])), (45, (.ifCond .ne (24), 48, v_i 0, 69, 0, 0, [])), (48, (.aload_n 0, 49, v_i 0, 0, 0, 0, [])), (49, (.getfield 13, 52, v_i 0, 4, 12, 0, [])), (52, (.aload_n 0, 53, v_i 0, 0, 0, 0, [])), (53, (.getfield 149, 56, v_i 0, 8, 12, 0, [])), (56, (.iaload, 57, v_i 0, 0, 0, 0, [])), (57, (.ifCond .eq (12), 60, v_i 0, 69, 0, 0, [])), (60, (.aload_n 0, 61, v_i 0, 0, 0, 0, [])), (61, (.iconst (1), 62, v_i (1), 0, 0, 0, [])), (62, (.aload_n 0, 63, v_i 0, 0, 0, 0, [])), (63, (.getfield 149, 66, v_i 0, 8, 12, 0, [])), (66, (.invokevirtual 160, 69, v_r 3, 25, 0, 12, [])), (69, (.aload_n 0, 70, v_i 0, 0, 0, 0, [])), (70, (.iconst (0), 71, v_i (0), 0, 0, 0, [])), (71, (.putfield 363, 74, v_i 0, 59, 12, 0, [])), (74, (.aload_n 0, 75, v_i 0, 0, 0, 0, [])), (75, (.getfield 152, 78, v_i 0, 9, 12, 0, [])), (78, (.ifCond .ne (8), 81, v_i 0, 86, 0, 0, [])), (81, (.aload_n 0, 82, v_i 0, 0, 0, 0, [])), (82, (.iload_n 2, 83, v_i 0, 0, 0, 0, [])), (83, (.invokevirtual 366, 86, v_r 2, 71, 0, 12, [])), (86, (.aload_n 0, 87, v_i 0, 0, 0, 0, [])), (87, (.getfield 369, 90, v_i 0, 60, 12, 0, [])), (90, (.istore 4, 92, v_i 0, 0, 0, 0, [])), (92, (.aload_n 0, 93, v_i 0, 0, 0, 0, [])), (93, (.getfield 372, 96, v_i 0, 61, 12, 0, [])), (96, (.istore 5, 98, v_i 0, 0, 0, 0, [])), (98, (.aload_n 0, 99, v_i 0, 0, 0, 0, [])), (99, (.getfield 152, 102, v_i 0, 9, 12, 0, [])), (102, (.ifCond .ne (8), 105, v_i 0, 110, 0, 0, [])), (105, (.aload_n 0, 106, v_i 0, 0, 0, 0, [])), (106, (.iload_n 3, 107, v_i 0, 0, 0, 0, [])), (107, (.invokevirtual 366, 110, v_r 2, 71, 0, 12, [])), (110, (.iconst (0), 111, v_i (0), 0, 0, 0, [])), (111, (.istore 6, 113, v_i 0, 0, 0, 0, [])), (113, (.aload_n 0, 114, v_i 0, 0, 0, 0, [])), (114, (.getfield 152, 117, v_i 0, 9, 12, 0, [])), (117, (.ifCond .ne (35), 120, v_i 0, 152, 0, 0, [])), (120, (.aload_n 0, 121, v_i 0, 0, 0, 0, [])), (121, (.iload 4, 123, v_i 0, 0, 0, 0, [])), (123, (.iload 5, 125, v_i 0, 0, 0, 0, [])), (125, (.aload_n 0, 126, v_i 0, 0, 0, 0, [])), (126, (.getfield 369, 129, v_i 0, 60, 12, 0, [])), (129, (.aload_n 0, 130, v_i 0, 0, 0, 0, [])), (130, (.getfield 372, 133, v_i 0, 61, 12, 0, [])), (133, (.invokevirtual 335, 136, v_r 5, 62, 1, 12, [])), (136, (.istore 6, 138, v_i 0, 0, 0, 0, [])), (138, (.iload 6, 140, v_i 0, 0, 0, 0, [])), (140, (.ifCond .ne (8), 143, v_i 0, 148, 0, 0, [])), (143, (.bipush (-2), 145, v_i (-2), 0, 0, 0, [])), (145, (.goto (5), 148, v_i 0, 150, 0, 0, [])), (148, (.iload 6, 150, v_i 0, 0, 0, 0, [])), (150, (.istore 6, 152, v_i 0, 0, 0, 0, [])), (152, (.aload_n 0, 153, v_i 0, 0, 0, 0, [])), (153, (.getfield 152, 156, v_i 0, 9, 12, 0, [])), (156, (.ifCond .ne (38), 159, v_i 0, 194, 0, 0, [])), (159, (.iload 6, 161, v_i 0, 0, 0, 0, [])), (161, (.iconst (1), 162, v_i (1), 0, 0, 0, [])), (162, (.if_icmp .ne (32), 165, v_i 0, 194, 0, 0, [])), (165, (.aload_n 0, 166, v_i 0, 0, 0, 0, [])), (166, (.iconst (0), 167, v_i (0), 0, 0, 0, [])), (167, (.putfield 290, 170, v_i 0, 53, 12, 0, [])), (170, (.aload_n 0, 171, v_i 0, 0, 0, 0, [])), (171, (.aload_n 0, 172, v_i 0, 0, 0, 0, [])), (172, (.iload_n 2, 173, v_i 0, 0, 0, 0, [])), (173, (.iconst (-1), 174, v_i (-1), 0, 0, 0, [])), (174, (.invokevirtual 229, 177, v_r 3, 41, 1, 12, [])), (177, (.iconst (-1), 178, v_i (-1), 0, 0, 0, [])), (178, (.aload_n 0, 179, v_i 0, 0, 0, 0, [])), (179, (.iload_n 3, 180, v_i 0, 0, 0, 0, [])), (180, (.iconst (-1), 181, v_i (-1), 0, 0, 0, [])), (181, (.invokevirtual 229, 184, v_r 3, 41, 1, 12, [])), (184, (.iconst (-1), 185, v_i (-1), 0, 0, 0, [])), (185, (.iload 4, 187, v_i 0, 0, 0, 0, [])), (187, (.iload 5, 189, v_i 0, 0, 0, 0, [])), (189, (.invokevirtual 319, 192, v_r 7, 60, 1, 12, [])), (192, (.istore 6, 194, v_i 0, 0, 0, 0, [])), (194, (.aload_n 0, 195, v_i 0, 0, 0, 0, [])), (195, (.iload_n 1, 196, v_i 0, 0, 0, 0, [])), (196, (.putfield 164, 199, v_i 0, 16, 12, 0, [])), (199, (.aload_n 0, 200, v_i 0, 0, 0, 0, [])), (200, (.getfield 152, 203, v_i 0, 9, 12, 0, [])), (203, (.ifCond .ne (23), 206, v_i 0, 226, 0, 0, [])), (206, (.iload 6, 208, v_i 0, 0, 0, 0, [])), (208, (.iconst (1), 209, v_i (1), 0, 0, 0, [])), (209, (.if_icmp .le (17), 212, v_i 0, 226, 0, 0, [])), (212, (.aload_n 0, 213, v_i 0, 0, 0, 0, [])), (213, (.iload 6, 215, v_i 0, 0, 0, 0, [])), (215, (.bipush (16), 217, v_i (16), 0, 0, 0, [])), (217, (.aload_n 0, 218, v_i 0, 0, 0, 0, [])), (218, (.getfield 130, 221, v_i 0, 3, 12, 0, [])), (221, (.imul, 222, v_i 0, 0, 0, 0, [])), (222, (.iadd, 223, v_i 0, 0, 0, 0, [])), (223, (.putfield 152, 226, v_i 0, 9, 12, 0, [])), (226, (.aload_n 0, 227, v_i 0, 0, 0, 0, [])), (227, (.getfield 152, 230, v_i 0, 9, 12, 0, [])), (230, (.ifCond .le (12), 233, v_i 0, 242, 0, 0, [])), (233, (.iconst (-1), 234, v_i (-1), 0, 0, 0, [])), (234, (.aload_n 0, 235, v_i 0, 0, 0, 0, [])), (235, (.getfield 152, 238, v_i 0, 9, 12, 0, [])), (238, (.isub, 239, v_i 0, 0, 0, 0, [])), (239, (.goto (5), 242, v_i 0, 244, 0, 0, [])), (242, (.iload 6, 244, v_i 0, 0, 0, 0, [])), (244, (.ireturn, 245, v_i 0, 0, 0, 0, []))]
def L_Rm_equal : List (Nat × List Nat) := [(40, [0, 1, 2]), (69, [0, 1, 2, 3]), (86, [0, 1, 2, 3]), (110, [0, 1, 2, 3, 4, 5]), (152, [0, 1, 2, 3, 4, 5, 6]), (194, [0, 1, 6])]
def D_Rm_equal : c_M0 := (T_Rm_equal, L_Rm_equal, 1, 12, ⟨R_Rm, "equal", "()I"⟩, prog_14_method_80_code, 7, some .int)
set_option maxRecDepth 100000 in
theorem k_Rm_equal : ∀ q ∈ T_Rm_equal, ck_e 12 prog_14_method_80_code q = true := by decide +kernel
def T_Rm_named : List (Nat × c_E) := [(0, (.aload_n 0, 1, v_i 0, 0, 0, 0, [])), (1, (.iconst (0), 2, v_i (0), 0, 0, 0, [])), (2, (.putfield 119, 5, v_i 0, 0, 12, 0, [])), (5, (.aload_n 0, 6, v_i 0, 0, 0, 0, [])), (6, (.invokevirtual 250, 9, v_r 1, 24, 0, 12, [])), (9, (.aload_n 0, 10, v_i 0, 0, 0, 0, [])), (10, (.invokevirtual 197, 13, v_r 1, 28, 1, 12, [])), (13, (.ifCond .eq (20), 16, v_i 0, 33, 0, 0, [])), (16, (.aload_n 0, 17, v_i 0, 0, 0, 0, [])), (17, (.getfield 13, 20, v_i 0, 4, 12, 0, [])), (20, (.iconst (1), 21, v_i (1), 0, 0, 0, [])), (21, (.iaload, 22, v_i 0, 0, 0, 0, [])), (22, (.ifCond .ne (11), 25, v_i 0, 33, 0, 0, [])), (25, (.aload_n 0, 26, v_i 0, 0, 0, 0, [])), (26, (.iconst (0), 27, v_i (0), 0, 0, 0, [])), (27, (.invokevirtual 341, 30, v_r 2, 40, 1, 12, [])), (30, (.goto (4), 33, v_i 0, 34, 0, 0, [])), (33, (.iconst (-1), 34, v_i (-1), 0, 0, 0, [])), (34, (.ireturn, 35, v_i 0, 0, 0, 0, []))]
def L_Rm_named : List (Nat × List Nat) := []
def D_Rm_named : c_M0 := (T_Rm_named, L_Rm_named, 1, 12, ⟨R_Rm, "named", "()I"⟩, prog_14_method_81_code, 1, some .int)
set_option maxRecDepth 100000 in
theorem k_Rm_named : ∀ q ∈ T_Rm_named, ck_e 12 prog_14_method_81_code q = true := by decide +kernel
def T_Rm_constant : List (Nat × c_E) := [(0, (.aload_n 0, 1, v_i 0, 0, 0, 0, [])), (1, (.iconst (0), 2, v_i (0), 0, 0, 0, [])), (2, (.putfield 119, 5, v_i 0, 0, 12, 0, [])), (5, (.iload_n 1, 6, v_i 0, 0, 0, 0, [])), (6, (.ifCond .lt (20), 9, v_i 0, 26, 0, 0, [])), (9, (.iload_n 1, 10, v_i 0, 0, 0, 0, [])), (10, (.aload_n 0, 11, v_i 0, 0, 0, 0, [])), (11, (.getfield 214, 14, v_i 0, 21, 12, 0, [])), (14, (.if_icmp .ge (12), 17, v_i 0, 26, 0, 0, [])), (17, (.iload_n 2, 18, v_i 0, 0, 0, 0, [])), (18, (.ifCond .lt (8), 21, v_i 0, 26, 0, 0, [])), (21, (.iload_n 2, 22, v_i 0, 0, 0, 0, [])), (22, (.iconst (1), 23, v_i (1), 0, 0, 0, [])), (23, (.if_icmp .le (5), 26, v_i 0, 28, 0, 0, [])), (26, (.iconst (-1), 27, v_i (-1), 0, 0, 0, [])), (27, (.ireturn, 28, v_i 0, 0, 0, 0, [])), (28, (.iconst (0), 29, v_i (0), 0, 0, 0, [])), (29, (.istore_n 3, 30, v_i 0, 0, 0, 0, [])), (30, (.aload_n 0, 31, v_i 0, 0, 0, 0, [])), (31, (.getfield 58, 34, v_i 0, 25, 12, 0, [])), (34, (.iload_n 1, 35, v_i 0, 0, 0, 0, [])), (35, (.iaload, 36, v_i 0, 0, 0, 0, [])), (36, (.istore 4, 38, v_i 0, 0, 0, 0, [])), (38, (.aload_n 0, 39, v_i 0, 0, 0, 0, [])), (39, (.getfield 27, 42, v_i 0, 10, 12, 0, [])), (42, (.iload 4, 44, v_i 0, 0, 0, 0, [])), (44, (.iaload, 45, v_i 0, 0, 0, 0, [])), (45, (.iconst (5), 46, v_i (5), 0, 0, 0, [])), (46, (.if_icmp .ne (18), 49, v_i 0, 64, 0, 0, [])), (49, (.iinc 3 (1), 52, v_i (1), 0, 0, 0, [])), (52, (.aload_n 0, 53, v_i 0, 0, 0, 0, [])), (53, (.getfield 33, 56, v_i 0, 12, 12, 0, [])), (56, (.iload 4, 58, v_i 0, 0, 0, 0, [])), (58, (.iaload, 59, v_i 0, 0, 0, 0, [])), (59, (.istore 4, 61, v_i 0, 0, 0, 0, [])), (61, (.goto (-23), 64, v_i 0, 38, 0, 0, [])), (64, (.iload_n 2, 65, v_i 0, 0, 0, 0, [])), (65, (.iconst (1), 66, v_i (1), 0, 0, 0, [])), (66, (.if_icmp .ne (7), 69, v_i 0, 73, 0, 0, [])), (69, (.iload_n 3, 70, v_i 0, 0, 0, 0, [])), (70, (.goto (30), 73, v_i 0, 100, 0, 0, [])), (73, (.aload_n 0, 74, v_i 0, 0, 0, 0, [])), (74, (.getfield 54, 77, v_i 0, 24, 12, 0, [])), (77, (.iload_n 1, 78, v_i 0, 0, 0, 0, [])), (78, (.baload, 79, v_i 0, 0, 0, 0, [])), (79, (.ifCond .eq (7), 82, v_i 0, 86, 0, 0, [])), (82, (.iconst (0), 83, v_i (0), 0, 0, 0, [])), (83, (.goto (17), 86, v_i 0, 100, 0, 0, [])), (86, (.aload_n 0, 87, v_i 0, 0, 0, 0, [])), (87, (.getfield 61, 90, v_i 0, 26, 12, 0, [])), (90, (.iload_n 1, 91, v_i 0, 0, 0, 0, [])), (91, (.iaload, 92, v_i 0, 0, 0, 0, [])), (92, (.ifCond .lt (7), 95, v_i 0, 99, 0, 0, [])), (95, (.iconst (2), 96, v_i (2), 0, 0, 0, [])), (96, (.goto (4), 99, v_i 0, 100, 0, 0, [])), (99, (.iconst (1), 100, v_i (1), 0, 0, 0, [])), (100, (.ireturn, 101, v_i 0, 0, 0, 0, []))]
def L_Rm_constant : List (Nat × List Nat) := [(38, [0, 1, 2, 3, 4])]
def D_Rm_constant : c_M0 := (T_Rm_constant, L_Rm_constant, 1, 12, ⟨R_Rm, "constant", "(II)I"⟩, prog_14_method_82_code, 5, some .int)
set_option maxRecDepth 100000 in
theorem k_Rm_constant : ∀ q ∈ T_Rm_constant, ck_e 12 prog_14_method_82_code q = true := by decide +kernel
def T_Rm_size : List (Nat × c_E) := [(0, (.aload_n 0, 1, v_i 0, 0, 0, 0, [])), (1, (.iconst (0), 2, v_i (0), 0, 0, 0, [])), (2, (.putfield 119, 5, v_i 0, 0, 12, 0, [])), (5, (.aload_n 0, 6, v_i 0, 0, 0, 0, [])), (6, (.getfield 467, 9, v_i 0, 70, 12, 0, [])), (9, (.ireturn, 10, v_i 0, 0, 0, 0, []))]
def L_Rm_size : List (Nat × List Nat) := []
def D_Rm_size : c_M0 := (T_Rm_size, L_Rm_size, 1, 12, ⟨R_Rm, "size", "()I"⟩, prog_14_method_83_code, 1, some .int)
set_option maxRecDepth 100000 in
theorem k_Rm_size : ∀ q ∈ T_Rm_size, ck_e 12 prog_14_method_83_code q = true := by decide +kernel
def T_Rm_out : List (Nat × c_E) := [(0, (.aload_n 0, 1, v_i 0, 0, 0, 0, [])), (1, (.iconst (0), 2, v_i (0), 0, 0, 0, [])), (2, (.putfield 119, 5, v_i 0, 0, 12, 0, [])), (5, (.iload_n 1, 6, v_i 0, 0, 0, 0, [])), (6, (.ifCond .lt (11), 9, v_i 0, 17, 0, 0, [])), (9, (.iload_n 1, 10, v_i 0, 0, 0, 0, [])), (10, (.aload_n 0, 11, v_i 0, 0, 0, 0, [])), (11, (.getfield 467, 14, v_i 0, 70, 12, 0, [])), (14, (.if_icmp .lt (7), 17, v_i 0, 21, 0, 0, [])), (17, (.iconst (-1), 18, v_i (-1), 0, 0, 0, [])), (18, (.goto (9), 21, v_i 0, 27, 0, 0, [])), (21, (.aload_n 0, 22, v_i 0, 0, 0, 0, [])), (22, (.getfield 116, 25, v_i 0, 69, 12, 0, [])), (25, (.iload_n 1, 26, v_i 0, 0, 0, 0, [])), (26, (.iaload, 27, v_i 0, 0, 0, 0, [])), (27, (.ireturn, 28, v_i 0, 0, 0, 0, []))]
def L_Rm_out : List (Nat × List Nat) := []
def D_Rm_out : c_M0 := (T_Rm_out, L_Rm_out, 1, 12, ⟨R_Rm, "out", "(I)I"⟩, prog_14_method_84_code, 2, some .int)
set_option maxRecDepth 100000 in
theorem k_Rm_out : ∀ q ∈ T_Rm_out, ck_e 12 prog_14_method_84_code q = true := by decide +kernel
def T_Rm_forget : List (Nat × c_E) := [(0, (.aload_n 0, 1, v_i 0, 0, 0, 0, [])), (1, (.iconst (0), 2, v_i (0), 0, 0, 0, [])), (2, (.putfield 119, 5, v_i 0, 0, 12, 0, [])), (5, (.iload_n 1, 6, v_i 0, 0, 0, 0, [])), (6, (.ifCond .lt (11), 9, v_i 0, 17, 0, 0, [])), (9, (.iload_n 1, 10, v_i 0, 0, 0, 0, [])), (10, (.aload_n 0, 11, v_i 0, 0, 0, 0, [])), (11, (.getfield 214, 14, v_i 0, 21, 12, 0, [])), (14, (.if_icmp .le (5), 17, v_i 0, 19, 0, 0, [])), (17, (.iconst (-1), 18, v_i (-1), 0, 0, 0, [])), (18, (.ireturn, 19, v_i 0, 0, 0, 0, [])), (19, (.aload_n 0, 20, v_i 0, 0, 0, 0, [])), (20, (.dup, 21, v_i 0, 0, 0, 0, [])), (21, (.getfield 214, 24, v_i 0, 21, 12, 0, [])), (24, (.iload_n 1, 25, v_i 0, 0, 0, 0, [])), (25, (.isub, 26, v_i 0, 0, 0, 0, [])), (26, (.putfield 214, 29, v_i 0, 21, 12, 0, [])), (29, (.aload_n 0, 30, v_i 0, 0, 0, 0, [])), (30, (.iload_n 1, 31, v_i 0, 0, 0, 0, [])), (31, (.ifCond .le (15), 34, v_i 0, 46, 0, 0, [])), (34, (.aload_n 0, 35, v_i 0, 0, 0, 0, [])), (35, (.getfield 64, 38, v_i 0, 27, 12, 0, [])), (38, (.aload_n 0, 39, v_i 0, 0, 0, 0, [])), (39, (.getfield 214, 42, v_i 0, 21, 12, 0, [])), (42, (.iaload, 43, v_i 0, 0, 0, 0, [])), (43, (.goto (7), 46, v_i 0, 50, 0, 0, [])), (46, (.aload_n 0, 47, v_i 0, 0, 0, 0, [])), (47, (.getfield 164, 50, v_i 0, 16, 12, 0, [])), (50, (.putfield 164, 53, v_i 0, 16, 12, 0, [])), (53, (.aload_n 0, 54, v_i 0, 0, 0, 0, [])), (54, (.getfield 214, 57, v_i 0, 21, 12, 0, [])), (57, (.ireturn, 58, v_i 0, 0, 0, 0, []))]
def L_Rm_forget : List (Nat × List Nat) := []
def D_Rm_forget : c_M0 := (T_Rm_forget, L_Rm_forget, 1, 12, ⟨R_Rm, "forget", "(I)I"⟩, prog_14_method_85_code, 2, some .int)
set_option maxRecDepth 100000 in
theorem k_Rm_forget : ∀ q ∈ T_Rm_forget, ck_e 12 prog_14_method_85_code q = true := by decide +kernel
def T_Rm_count : List (Nat × c_E) := [(0, (.aload_n 0, 1, v_i 0, 0, 0, 0, [])), (1, (.iconst (0), 2, v_i (0), 0, 0, 0, [])), (2, (.putfield 119, 5, v_i 0, 0, 12, 0, [])), (5, (.iload_n 1, 6, v_i 0, 0, 0, 0, [])), (6, (.tableswitch (50) (0) (3) #[30, 35, 40, 45], 36, v_i 0, 56, 0, 0, [(0, 36), (1, 41), (2, 46), (3, 51)])), (36, (.aload_n 0, 37, v_i 0, 0, 0, 0, [])), (37, (.getfield 214, 40, v_i 0, 21, 12, 0, [])), (40, (.ireturn, 41, v_i 0, 0, 0, 0, [])), (41, (.aload_n 0, 42, v_i 0, 0, 0, 0, [])), (42, (.getfield 236, 45, v_i 0, 41, 12, 0, [])), (45, (.ireturn, 46, v_i 0, 0, 0, 0, [])), (46, (.aload_n 0, 47, v_i 0, 0, 0, 0, [])), (47, (.getfield 233, 50, v_i 0, 42, 12, 0, [])), (50, (.ireturn, 51, v_i 0, 0, 0, 0, [])), (51, (.aload_n 0, 52, v_i 0, 0, 0, 0, [])), (52, (.getfield 127, 55, v_i 0, 2, 12, 0, [])), (55, (.ireturn, 56, v_i 0, 0, 0, 0, [])), (56, (.iconst (-1), 57, v_i (-1), 0, 0, 0, [])), (57, (.ireturn, 58, v_i 0, 0, 0, 0, []))]
def L_Rm_count : List (Nat × List Nat) := []
def D_Rm_count : c_M0 := (T_Rm_count, L_Rm_count, 1, 12, ⟨R_Rm, "count", "(I)I"⟩, prog_14_method_86_code, 2, some .int)
set_option maxRecDepth 100000 in
theorem k_Rm_count : ∀ q ∈ T_Rm_count, ck_e 12 prog_14_method_86_code q = true := by decide +kernel
end
section
def d_M : List c_M0 := [D_Fb_feed, D_Fb_declare, D_Fb_canon, D_Fb_type, D_Fb_equal, D_Fb_named, D_Fb_constant, D_Fb_size, D_Fb_out, D_Fb_forget, D_Fb_count, D_Fb_begin, D_Fb_writtenForm, D_Fb_comparison, D_Fb_troubleAtEnd, D_Fb_faultAt, D_Fb_isLetter, D_Fb_isDigit, D_Rm_feed, D_Rm_lay, D_Rm_isLetter, D_Rm_isDigit, D_Rm_rank, D_Rm_isSignOf, D_Rm_cutAll, D_Rm_wrong, D_Rm_isSign, D_Rm_isType, D_Rm_isName, D_Rm_takeSign, D_Rm_node, D_Rm_typeNode, D_Rm_within, D_Rm_counts, D_Rm_readWhole, D_Rm_isP, D_Rm_readE, D_Rm_readBinder, D_Rm_readA, D_Rm_readP, D_Rm_constantOf, D_Rm_closure, D_Rm_list, D_Rm_behind, D_Rm_newVar, D_Rm_step, D_Rm_stepAt, D_Rm_begins, D_Rm_shows, D_Rm_shown, D_Rm_without, D_Rm_heads, D_Rm_manyBehind, D_Rm_asks, D_Rm_sameFamilies, D_Rm_sameAsked, D_Rm_behindOf, D_Rm_sameSpines, D_Rm_sameBehind, D_Rm_append, D_Rm_sameObjects, D_Rm_sameObjectsAsked, D_Rm_equalFamilies, D_Rm_wanted, D_Rm_bind, D_Rm_unbind, D_Rm_find, D_Rm_isFamilyNode, D_Rm_family, D_Rm_familyBehind, D_Rm_is, D_Rm_object, D_Rm_name, D_Rm_lambda, D_Rm_objectBehind, D_Rm_oneBehind, D_Rm_declare, D_Rm_declaration, D_Rm_say, D_Rm_signOf, D_Rm_sayPart, D_Rm_sayVar, D_Rm_countXs, D_Rm_isXs, D_Rm_takeLetters, D_Rm_ended, D_Rm_tellFamily, D_Rm_tellBehind, D_Rm_tellObject, D_Rm_tellLambda, D_Rm_tellHead, D_Rm_askOne, D_Rm_tell, D_Rm_canon, D_Rm_type, D_Rm_equal, D_Rm_named, D_Rm_constant, D_Rm_size, D_Rm_out, D_Rm_forget, D_Rm_count, D_Ce_mark, D_Ce_release, D_Ce_make, D_Ce_term, D_Ce_scope, D_Ce_next, D_Ce_binder, D_Ce_link, D_Ce_bind, D_Ce_newVariable, D_Ce_numberOf, D_Ce_enter, D_Ce_append, D_Ce_outward, D_Ck_sort, D_Ck_faultOfDeclaration, D_Ck_faultOfObject, D_Ck_wrong, D_Ck_step, D_Ck_classifier, D_Ck_under, D_Ck_family, D_Ck_isFamilyName, D_Ck_objectsOfFamily, D_Ck_fitting, D_Ck_object, D_Ck_bareObject, D_Ck_applied, D_Co_number, D_Co_full, D_Co_sort, D_Co_typeRoot, D_Co_bodyRoot, D_Co_wanted, D_Co_nameLength, D_Co_nameSign, D_Co_name, D_Co_add, D_Co_drop, D_Co_find, D_Co_isNamed, D_Co_fewestXs, D_Co_anyIsXsAndNumber, D_Co_isXsAndNumber, D_Ju_sameObjects, D_Ju_families, D_Ju_rows, D_Ju_meet, D_Ju_sameLength, D_Ma_shape, D_Ma_shapeScope, D_Ma_head, D_Ma_row, D_Ma_headType, D_Ma_headTypeScope, D_Ma_push, D_Ma_expose, D_Ma_headForm, D_Ma_isDefinition, D_Me_begin, D_Me_stepsInAll, D_Me_stepsOfLatest, D_Me_trouble, D_Me_stop, D_Me_step, D_Me_question, D_No_mark, D_No_release, D_No_full, D_No_make, D_No_kind, D_No_left, D_No_right, D_No_sibling, D_No_token, D_No_first, D_No_place, D_No_inBrackets, D_No_isArrow, D_No_setPlace, D_No_setSibling, D_No_becomeFamily, D_Pa_length, D_Pa_signAt, D_Pa_beginDraft, D_Pa_put, D_Pa_keepDraft, D_Re_begin, D_Re_fault, D_Re_namePlace, D_Re_nameLength, D_Re_typeRoot, D_Re_bodyRoot, D_Re_faultOfDeclaration, D_Re_expressionBefore, D_Re_readNewName, D_Re_take, D_Re_refuse, D_Re_wholeExpression, D_Re_expression, D_Re_binding, D_Re_arrow, D_Re_application, D_Re_part, D_Re_startsPart, D_Re_countPart, D_Re_nameNode, D_Re_node, D_Re_enterScope, D_Re_leaveScope, D_Ta_append, D_Ta_length, D_Ta_empty, D_Ta_signAt, D_Ta_token, D_Ta_place, D_Ta_wordLength, D_Ta_atEnd, D_Ta_rewind, D_Ta_advance, D_Ta_readWord, D_Ta_sameSigns, D_Ta_isBlank, D_Ta_isMark, D_Wr_write, D_Wr_family, D_Wr_binding, D_Wr_object, D_Wr_putHead, D_Wr_objects, D_Wr_putName, D_Wr_putVariable]
def ck_ml (q : Nat × Nat × Nat × Nat × Nat × Nat × Nat × Nat) : Bool := match q with
  | (own, _, t, nest, stat, n, u, w) => match c_nth d_M t with
    | none => false
    | some (_, _, rb, ow, y, _, _, _) => decide (u = if rb = 0 then 0 else 1) && (match stat with
        | 0 => decide (w = ow) && decide ((parseMethodDescriptor y.desc).map (fun d => d.parameters.length + 1) = some n)
        | _ + 1 => (decide (nest ≠ 0) || decide (y.cls = d_nm own)) && decide ((parseMethodDescriptor y.desc).map (fun d => d.parameters.length) = some n))
/-- what a method's row says -/
def c_mok (q : c_M0) : Prop := (∀ r ∈ q.1, ck_e q.2.2.2.1 q.2.2.2.2.2.1 r = true) ∧ Cond.code q.2.2.2.2.1 q.2.2.2.2.2.1 q.2.2.2.2.2.2.1 q.2.2.2.2.2.2.2 ∈ lw_tbl ∧ plainName q.2.2.2.2.1.cls = true ∧ q.2.2.2.2.1.cls = d_nm q.2.2.2.1 ∧ (q.2.2.1 = 0 ∧ q.2.2.2.2.2.2.2 = none ∨ q.2.2.1 = 1 ∧ q.2.2.2.2.2.2.2 = some .int ∨ q.2.2.1 = 2 ∧ q.2.2.2.2.2.2.2 = some .boolean) ∧ (q.2.2.2.2.1.cls ≠ "java/lang/invoke/MethodHandle" ∧ q.2.2.2.2.1.cls ≠ "java/lang/invoke/VarHandle") ∧ q.2.2.2.2.2.2.1 ≤ 26 ∧ Cond.initialized q.2.2.2.2.1.cls ∈ lw_tbl ∧ q.2.2.2.1 < 13
/-- what a link's row says -/
def c_lok (q : Nat × Nat × Nat × Nat × Nat × Nat × Nat × Nat) : Prop := match c_nth d_M q.2.2.1 with
  | none => False
  | some m => (match q.2.2.2.1 with
      | 0 => Cond.methodLink (d_nm q.1) q.2.1 m.2.2.2.2.1 ∈ lw_tbl
      | _ + 1 => Cond.methodLinkNest (d_nm q.1) q.2.1 m.2.2.2.2.1 "FrameBench" ∈ lw_tbl) ∧ (match q.2.2.2.2.1 with
      | 0 => Cond.instanceMethod m.2.2.2.2.1 ∈ lw_tbl ∧ Cond.selects m.2.2.2.2.1.cls m.2.2.2.2.1 m.2.2.2.2.1 ∈ lw_tbl
      | _ + 1 => Cond.static m.2.2.2.2.1 ∈ lw_tbl)
theorem z_Ce : Cond.initialized R_Ce ∈ lw_tbl := List.mem_of_getElem? (i := 120) (by decide +kernel)
theorem z_Ck : Cond.initialized R_Ck ∈ lw_tbl := List.mem_of_getElem? (i := 125) (by decide +kernel)
theorem z_Co : Cond.initialized R_Co ∈ lw_tbl := List.mem_of_getElem? (i := 118) (by decide +kernel)
theorem z_Ju : Cond.initialized R_Ju ∈ lw_tbl := List.mem_of_getElem? (i := 124) (by decide +kernel)
theorem z_Ma : Cond.initialized R_Ma ∈ lw_tbl := List.mem_of_getElem? (i := 123) (by decide +kernel)
theorem z_Me : Cond.initialized R_Me ∈ lw_tbl := List.mem_of_getElem? (i := 119) (by decide +kernel)
theorem z_No : Cond.initialized R_No ∈ lw_tbl := List.mem_of_getElem? (i := 117) (by decide +kernel)
theorem z_Pa : Cond.initialized R_Pa ∈ lw_tbl := List.mem_of_getElem? (i := 121) (by decide +kernel)
theorem z_Re : Cond.initialized R_Re ∈ lw_tbl := List.mem_of_getElem? (i := 122) (by decide +kernel)
theorem z_Ta : Cond.initialized R_Ta ∈ lw_tbl := List.mem_of_getElem? (i := 116) (by decide +kernel)
theorem z_Wr : Cond.initialized R_Wr ∈ lw_tbl := List.mem_of_getElem? (i := 126) (by decide +kernel)
theorem z_Fb : Cond.initialized R_Fb ∈ lw_tbl := List.mem_of_getElem? (i := 115) (by decide +kernel)
theorem z_Rm : Cond.initialized R_Rm ∈ lw_tbl := List.mem_of_getElem? (i := 127) (by decide +kernel)
set_option maxRecDepth 100000 in
theorem o_Fb_feed : c_mok D_Fb_feed := ⟨k_Fb_feed, List.mem_of_getElem? (i := 488) rfl, by decide, rfl, Or.inr (Or.inl ⟨rfl, rfl⟩), by decide, by decide, z_Fb, by decide⟩
theorem y_Fb_feed : Cond.instanceMethod ⟨R_Fb, "feed", "(JJJ)I"⟩ ∈ lw_tbl ∧ Cond.selects R_Fb ⟨R_Fb, "feed", "(JJJ)I"⟩ ⟨R_Fb, "feed", "(JJJ)I"⟩ ∈ lw_tbl := ⟨List.mem_of_getElem? (i := 486) (by decide +kernel), List.mem_of_getElem? (i := 487) (by decide +kernel)⟩
set_option maxRecDepth 100000 in
theorem o_Fb_declare : c_mok D_Fb_declare := ⟨k_Fb_declare, List.mem_of_getElem? (i := 501) rfl, by decide, rfl, Or.inr (Or.inl ⟨rfl, rfl⟩), by decide, by decide, z_Fb, by decide⟩
theorem y_Fb_declare : Cond.instanceMethod ⟨R_Fb, "declare", "()I"⟩ ∈ lw_tbl ∧ Cond.selects R_Fb ⟨R_Fb, "declare", "()I"⟩ ⟨R_Fb, "declare", "()I"⟩ ∈ lw_tbl := ⟨List.mem_of_getElem? (i := 499) (by decide +kernel), List.mem_of_getElem? (i := 500) (by decide +kernel)⟩
set_option maxRecDepth 100000 in
theorem o_Fb_canon : c_mok D_Fb_canon := ⟨k_Fb_canon, List.mem_of_getElem? (i := 978) rfl, by decide, rfl, Or.inr (Or.inl ⟨rfl, rfl⟩), by decide, by decide, z_Fb, by decide⟩
theorem y_Fb_canon : Cond.instanceMethod ⟨R_Fb, "canon", "()I"⟩ ∈ lw_tbl ∧ Cond.selects R_Fb ⟨R_Fb, "canon", "()I"⟩ ⟨R_Fb, "canon", "()I"⟩ ∈ lw_tbl := ⟨List.mem_of_getElem? (i := 976) (by decide +kernel), List.mem_of_getElem? (i := 977) (by decide +kernel)⟩
set_option maxRecDepth 100000 in
theorem o_Fb_type : c_mok D_Fb_type := ⟨k_Fb_type, List.mem_of_getElem? (i := 1098) rfl, by decide, rfl, Or.inr (Or.inl ⟨rfl, rfl⟩), by decide, by decide, z_Fb, by decide⟩
theorem y_Fb_type : Cond.instanceMethod ⟨R_Fb, "type", "()I"⟩ ∈ lw_tbl ∧ Cond.selects R_Fb ⟨R_Fb, "type", "()I"⟩ ⟨R_Fb, "type", "()I"⟩ ∈ lw_tbl := ⟨List.mem_of_getElem? (i := 1096) (by decide +kernel), List.mem_of_getElem? (i := 1097) (by decide +kernel)⟩
set_option maxRecDepth 100000 in
theorem o_Fb_equal : c_mok D_Fb_equal := ⟨k_Fb_equal, List.mem_of_getElem? (i := 1102) rfl, by decide, rfl, Or.inr (Or.inl ⟨rfl, rfl⟩), by decide, by decide, z_Fb, by decide⟩
theorem y_Fb_equal : Cond.instanceMethod ⟨R_Fb, "equal", "()I"⟩ ∈ lw_tbl ∧ Cond.selects R_Fb ⟨R_Fb, "equal", "()I"⟩ ⟨R_Fb, "equal", "()I"⟩ ∈ lw_tbl := ⟨List.mem_of_getElem? (i := 1100) (by decide +kernel), List.mem_of_getElem? (i := 1101) (by decide +kernel)⟩
set_option maxRecDepth 100000 in
theorem o_Fb_named : c_mok D_Fb_named := ⟨k_Fb_named, List.mem_of_getElem? (i := 1116) rfl, by decide, rfl, Or.inr (Or.inl ⟨rfl, rfl⟩), by decide, by decide, z_Fb, by decide⟩
theorem y_Fb_named : Cond.instanceMethod ⟨R_Fb, "named", "()I"⟩ ∈ lw_tbl ∧ Cond.selects R_Fb ⟨R_Fb, "named", "()I"⟩ ⟨R_Fb, "named", "()I"⟩ ∈ lw_tbl := ⟨List.mem_of_getElem? (i := 1114) (by decide +kernel), List.mem_of_getElem? (i := 1115) (by decide +kernel)⟩
set_option maxRecDepth 100000 in
theorem o_Fb_constant : c_mok D_Fb_constant := ⟨k_Fb_constant, List.mem_of_getElem? (i := 1126) rfl, by decide, rfl, Or.inr (Or.inl ⟨rfl, rfl⟩), by decide, by decide, z_Fb, by decide⟩
theorem y_Fb_constant : Cond.instanceMethod ⟨R_Fb, "constant", "(II)I"⟩ ∈ lw_tbl ∧ Cond.selects R_Fb ⟨R_Fb, "constant", "(II)I"⟩ ⟨R_Fb, "constant", "(II)I"⟩ ∈ lw_tbl := ⟨List.mem_of_getElem? (i := 1124) (by decide +kernel), List.mem_of_getElem? (i := 1125) (by decide +kernel)⟩
set_option maxRecDepth 100000 in
theorem o_Fb_size : c_mok D_Fb_size := ⟨k_Fb_size, List.mem_of_getElem? (i := 1142) rfl, by decide, rfl, Or.inr (Or.inl ⟨rfl, rfl⟩), by decide, by decide, z_Fb, by decide⟩
theorem y_Fb_size : Cond.instanceMethod ⟨R_Fb, "size", "()I"⟩ ∈ lw_tbl ∧ Cond.selects R_Fb ⟨R_Fb, "size", "()I"⟩ ⟨R_Fb, "size", "()I"⟩ ∈ lw_tbl := ⟨List.mem_of_getElem? (i := 1140) (by decide +kernel), List.mem_of_getElem? (i := 1141) (by decide +kernel)⟩
set_option maxRecDepth 100000 in
theorem o_Fb_out : c_mok D_Fb_out := ⟨k_Fb_out, List.mem_of_getElem? (i := 1150) rfl, by decide, rfl, Or.inr (Or.inl ⟨rfl, rfl⟩), by decide, by decide, z_Fb, by decide⟩
theorem y_Fb_out : Cond.instanceMethod ⟨R_Fb, "out", "(I)I"⟩ ∈ lw_tbl ∧ Cond.selects R_Fb ⟨R_Fb, "out", "(I)I"⟩ ⟨R_Fb, "out", "(I)I"⟩ ∈ lw_tbl := ⟨List.mem_of_getElem? (i := 1148) (by decide +kernel), List.mem_of_getElem? (i := 1149) (by decide +kernel)⟩
set_option maxRecDepth 100000 in
theorem o_Fb_forget : c_mok D_Fb_forget := ⟨k_Fb_forget, List.mem_of_getElem? (i := 1158) rfl, by decide, rfl, Or.inr (Or.inl ⟨rfl, rfl⟩), by decide, by decide, z_Fb, by decide⟩
theorem y_Fb_forget : Cond.instanceMethod ⟨R_Fb, "forget", "(I)I"⟩ ∈ lw_tbl ∧ Cond.selects R_Fb ⟨R_Fb, "forget", "(I)I"⟩ ⟨R_Fb, "forget", "(I)I"⟩ ∈ lw_tbl := ⟨List.mem_of_getElem? (i := 1156) (by decide +kernel), List.mem_of_getElem? (i := 1157) (by decide +kernel)⟩
set_option maxRecDepth 100000 in
theorem o_Fb_count : c_mok D_Fb_count := ⟨k_Fb_count, List.mem_of_getElem? (i := 1167) rfl, by decide, rfl, Or.inr (Or.inl ⟨rfl, rfl⟩), by decide, by decide, z_Fb, by decide⟩
theorem y_Fb_count : Cond.instanceMethod ⟨R_Fb, "count", "(I)I"⟩ ∈ lw_tbl ∧ Cond.selects R_Fb ⟨R_Fb, "count", "(I)I"⟩ ⟨R_Fb, "count", "(I)I"⟩ ∈ lw_tbl := ⟨List.mem_of_getElem? (i := 1165) (by decide +kernel), List.mem_of_getElem? (i := 1166) (by decide +kernel)⟩
set_option maxRecDepth 100000 in
theorem o_Fb_begin : c_mok D_Fb_begin := ⟨k_Fb_begin, List.mem_of_getElem? (i := 505) rfl, by decide, rfl, Or.inl ⟨rfl, rfl⟩, by decide, by decide, z_Fb, by decide⟩
theorem y_Fb_begin : Cond.instanceMethod ⟨R_Fb, "begin", "()V"⟩ ∈ lw_tbl ∧ Cond.selects R_Fb ⟨R_Fb, "begin", "()V"⟩ ⟨R_Fb, "begin", "()V"⟩ ∈ lw_tbl := ⟨List.mem_of_getElem? (i := 504) (by decide +kernel), List.mem_of_getElem? (i := 0) (by decide +kernel)⟩
set_option maxRecDepth 100000 in
theorem o_Fb_writtenForm : c_mok D_Fb_writtenForm := ⟨k_Fb_writtenForm, List.mem_of_getElem? (i := 982) rfl, by decide, rfl, Or.inr (Or.inl ⟨rfl, rfl⟩), by decide, by decide, z_Fb, by decide⟩
theorem y_Fb_writtenForm : Cond.instanceMethod ⟨R_Fb, "writtenForm", "(Z)I"⟩ ∈ lw_tbl ∧ Cond.selects R_Fb ⟨R_Fb, "writtenForm", "(Z)I"⟩ ⟨R_Fb, "writtenForm", "(Z)I"⟩ ∈ lw_tbl := ⟨List.mem_of_getElem? (i := 981) (by decide +kernel), List.mem_of_getElem? (i := 34) (by decide +kernel)⟩
set_option maxRecDepth 100000 in
theorem o_Fb_comparison : c_mok D_Fb_comparison := ⟨k_Fb_comparison, List.mem_of_getElem? (i := 1106) rfl, by decide, rfl, Or.inr (Or.inl ⟨rfl, rfl⟩), by decide, by decide, z_Fb, by decide⟩
theorem y_Fb_comparison : Cond.instanceMethod ⟨R_Fb, "comparison", "(II)I"⟩ ∈ lw_tbl ∧ Cond.selects R_Fb ⟨R_Fb, "comparison", "(II)I"⟩ ⟨R_Fb, "comparison", "(II)I"⟩ ∈ lw_tbl := ⟨List.mem_of_getElem? (i := 1105) (by decide +kernel), List.mem_of_getElem? (i := 45) (by decide +kernel)⟩
set_option maxRecDepth 100000 in
theorem o_Fb_troubleAtEnd : c_mok D_Fb_troubleAtEnd := ⟨k_Fb_troubleAtEnd, List.mem_of_getElem? (i := 1092) rfl, by decide, rfl, Or.inr (Or.inl ⟨rfl, rfl⟩), by decide, by decide, z_Fb, by decide⟩
theorem y_Fb_troubleAtEnd : Cond.instanceMethod ⟨R_Fb, "troubleAtEnd", "()I"⟩ ∈ lw_tbl ∧ Cond.selects R_Fb ⟨R_Fb, "troubleAtEnd", "()I"⟩ ⟨R_Fb, "troubleAtEnd", "()I"⟩ ∈ lw_tbl := ⟨List.mem_of_getElem? (i := 1091) (by decide +kernel), List.mem_of_getElem? (i := 44) (by decide +kernel)⟩
set_option maxRecDepth 100000 in
theorem o_Fb_faultAt : c_mok D_Fb_faultAt := ⟨k_Fb_faultAt, List.mem_of_getElem? (i := 580) rfl, by decide, rfl, Or.inr (Or.inl ⟨rfl, rfl⟩), by decide, by decide, z_Fb, by decide⟩
theorem y_Fb_faultAt : Cond.static ⟨R_Fb, "faultAt", "(II)I"⟩ ∈ lw_tbl := List.mem_of_getElem? (i := 579) (by decide +kernel)
set_option maxRecDepth 100000 in
theorem o_Fb_isLetter : c_mok D_Fb_isLetter := ⟨k_Fb_isLetter, List.mem_of_getElem? (i := 535) rfl, by decide, rfl, Or.inr (Or.inr ⟨rfl, rfl⟩), by decide, by decide, z_Fb, by decide⟩
theorem y_Fb_isLetter : Cond.static ⟨R_Fb, "isLetter", "(I)Z"⟩ ∈ lw_tbl := List.mem_of_getElem? (i := 534) (by decide +kernel)
set_option maxRecDepth 100000 in
theorem o_Fb_isDigit : c_mok D_Fb_isDigit := ⟨k_Fb_isDigit, List.mem_of_getElem? (i := 542) rfl, by decide, rfl, Or.inr (Or.inr ⟨rfl, rfl⟩), by decide, by decide, z_Fb, by decide⟩
theorem y_Fb_isDigit : Cond.static ⟨R_Fb, "isDigit", "(I)Z"⟩ ∈ lw_tbl := List.mem_of_getElem? (i := 541) (by decide +kernel)
set_option maxRecDepth 100000 in
theorem o_Rm_feed : c_mok D_Rm_feed := ⟨k_Rm_feed, List.mem_of_getElem? (i := 1403) rfl, by decide, rfl, Or.inr (Or.inl ⟨rfl, rfl⟩), by decide, by decide, z_Rm, by decide⟩
theorem y_Rm_feed : Cond.instanceMethod ⟨R_Rm, "feed", "(JJJ)I"⟩ ∈ lw_tbl ∧ Cond.selects R_Rm ⟨R_Rm, "feed", "(JJJ)I"⟩ ⟨R_Rm, "feed", "(JJJ)I"⟩ ∈ lw_tbl := ⟨List.mem_of_getElem? (i := 1401) (by decide +kernel), List.mem_of_getElem? (i := 1402) (by decide +kernel)⟩
set_option maxRecDepth 100000 in
theorem o_Rm_lay : c_mok D_Rm_lay := ⟨k_Rm_lay, List.mem_of_getElem? (i := 1407) rfl, by decide, rfl, Or.inl ⟨rfl, rfl⟩, by decide, by decide, z_Rm, by decide⟩
theorem y_Rm_lay : Cond.instanceMethod ⟨R_Rm, "lay", "(J)V"⟩ ∈ lw_tbl ∧ Cond.selects R_Rm ⟨R_Rm, "lay", "(J)V"⟩ ⟨R_Rm, "lay", "(J)V"⟩ ∈ lw_tbl := ⟨List.mem_of_getElem? (i := 1406) (by decide +kernel), List.mem_of_getElem? (i := 46) (by decide +kernel)⟩
set_option maxRecDepth 100000 in
theorem o_Rm_isLetter : c_mok D_Rm_isLetter := ⟨k_Rm_isLetter, List.mem_of_getElem? (i := 1423) rfl, by decide, rfl, Or.inr (Or.inr ⟨rfl, rfl⟩), by decide, by decide, z_Rm, by decide⟩
theorem y_Rm_isLetter : Cond.static ⟨R_Rm, "isLetter", "(I)Z"⟩ ∈ lw_tbl := List.mem_of_getElem? (i := 1422) (by decide +kernel)
set_option maxRecDepth 100000 in
theorem o_Rm_isDigit : c_mok D_Rm_isDigit := ⟨k_Rm_isDigit, List.mem_of_getElem? (i := 1426) rfl, by decide, rfl, Or.inr (Or.inr ⟨rfl, rfl⟩), by decide, by decide, z_Rm, by decide⟩
theorem y_Rm_isDigit : Cond.static ⟨R_Rm, "isDigit", "(I)Z"⟩ ∈ lw_tbl := List.mem_of_getElem? (i := 1425) (by decide +kernel)
set_option maxRecDepth 100000 in
theorem o_Rm_rank : c_mok D_Rm_rank := ⟨k_Rm_rank, List.mem_of_getElem? (i := 1430) rfl, by decide, rfl, Or.inr (Or.inl ⟨rfl, rfl⟩), by decide, by decide, z_Rm, by decide⟩
theorem y_Rm_rank : Cond.static ⟨R_Rm, "rank", "(I)I"⟩ ∈ lw_tbl := List.mem_of_getElem? (i := 1429) (by decide +kernel)
set_option maxRecDepth 100000 in
theorem o_Rm_isSignOf : c_mok D_Rm_isSignOf := ⟨k_Rm_isSignOf, List.mem_of_getElem? (i := 1433) rfl, by decide, rfl, Or.inr (Or.inr ⟨rfl, rfl⟩), by decide, by decide, z_Rm, by decide⟩
theorem y_Rm_isSignOf : Cond.static ⟨R_Rm, "isSignOf", "(I)Z"⟩ ∈ lw_tbl := List.mem_of_getElem? (i := 1432) (by decide +kernel)
set_option maxRecDepth 100000 in
theorem o_Rm_cutAll : c_mok D_Rm_cutAll := ⟨k_Rm_cutAll, List.mem_of_getElem? (i := 1420) rfl, by decide, rfl, Or.inl ⟨rfl, rfl⟩, by decide, by decide, z_Rm, by decide⟩
theorem y_Rm_cutAll : Cond.instanceMethod ⟨R_Rm, "cutAll", "()V"⟩ ∈ lw_tbl ∧ Cond.selects R_Rm ⟨R_Rm, "cutAll", "()V"⟩ ⟨R_Rm, "cutAll", "()V"⟩ ∈ lw_tbl := ⟨List.mem_of_getElem? (i := 1419) (by decide +kernel), List.mem_of_getElem? (i := 48) (by decide +kernel)⟩
set_option maxRecDepth 100000 in
theorem o_Rm_wrong : c_mok D_Rm_wrong := ⟨k_Rm_wrong, List.mem_of_getElem? (i := 1446) rfl, by decide, rfl, Or.inl ⟨rfl, rfl⟩, by decide, by decide, z_Rm, by decide⟩
theorem y_Rm_wrong : Cond.instanceMethod ⟨R_Rm, "wrong", "(II)V"⟩ ∈ lw_tbl ∧ Cond.selects R_Rm ⟨R_Rm, "wrong", "(II)V"⟩ ⟨R_Rm, "wrong", "(II)V"⟩ ∈ lw_tbl := ⟨List.mem_of_getElem? (i := 1445) (by decide +kernel), List.mem_of_getElem? (i := 51) (by decide +kernel)⟩
set_option maxRecDepth 100000 in
theorem o_Rm_isSign : c_mok D_Rm_isSign := ⟨k_Rm_isSign, List.mem_of_getElem? (i := 1458) rfl, by decide, rfl, Or.inr (Or.inr ⟨rfl, rfl⟩), by decide, by decide, z_Rm, by decide⟩
theorem y_Rm_isSign : Cond.instanceMethod ⟨R_Rm, "isSign", "(I)Z"⟩ ∈ lw_tbl ∧ Cond.selects R_Rm ⟨R_Rm, "isSign", "(I)Z"⟩ ⟨R_Rm, "isSign", "(I)Z"⟩ ∈ lw_tbl := ⟨List.mem_of_getElem? (i := 1457) (by decide +kernel), List.mem_of_getElem? (i := 54) (by decide +kernel)⟩
set_option maxRecDepth 100000 in
theorem o_Rm_isType : c_mok D_Rm_isType := ⟨k_Rm_isType, List.mem_of_getElem? (i := 1498) rfl, by decide, rfl, Or.inr (Or.inr ⟨rfl, rfl⟩), by decide, by decide, z_Rm, by decide⟩
theorem y_Rm_isType : Cond.instanceMethod ⟨R_Rm, "isType", "()Z"⟩ ∈ lw_tbl ∧ Cond.selects R_Rm ⟨R_Rm, "isType", "()Z"⟩ ⟨R_Rm, "isType", "()Z"⟩ ∈ lw_tbl := ⟨List.mem_of_getElem? (i := 1497) (by decide +kernel), List.mem_of_getElem? (i := 64) (by decide +kernel)⟩
set_option maxRecDepth 100000 in
theorem o_Rm_isName : c_mok D_Rm_isName := ⟨k_Rm_isName, List.mem_of_getElem? (i := 1441) rfl, by decide, rfl, Or.inr (Or.inr ⟨rfl, rfl⟩), by decide, by decide, z_Rm, by decide⟩
theorem y_Rm_isName : Cond.instanceMethod ⟨R_Rm, "isName", "()Z"⟩ ∈ lw_tbl ∧ Cond.selects R_Rm ⟨R_Rm, "isName", "()Z"⟩ ⟨R_Rm, "isName", "()Z"⟩ ∈ lw_tbl := ⟨List.mem_of_getElem? (i := 1440) (by decide +kernel), List.mem_of_getElem? (i := 50) (by decide +kernel)⟩
set_option maxRecDepth 100000 in
theorem o_Rm_takeSign : c_mok D_Rm_takeSign := ⟨k_Rm_takeSign, List.mem_of_getElem? (i := 1454) rfl, by decide, rfl, Or.inl ⟨rfl, rfl⟩, by decide, by decide, z_Rm, by decide⟩
theorem y_Rm_takeSign : Cond.instanceMethod ⟨R_Rm, "takeSign", "(I)V"⟩ ∈ lw_tbl ∧ Cond.selects R_Rm ⟨R_Rm, "takeSign", "(I)V"⟩ ⟨R_Rm, "takeSign", "(I)V"⟩ ∈ lw_tbl := ⟨List.mem_of_getElem? (i := 1453) (by decide +kernel), List.mem_of_getElem? (i := 53) (by decide +kernel)⟩
set_option maxRecDepth 100000 in
theorem o_Rm_node : c_mok D_Rm_node := ⟨k_Rm_node, List.mem_of_getElem? (i := 1486) rfl, by decide, rfl, Or.inr (Or.inl ⟨rfl, rfl⟩), by decide, by decide, z_Rm, by decide⟩
theorem y_Rm_node : Cond.instanceMethod ⟨R_Rm, "node", "(IIIII)I"⟩ ∈ lw_tbl ∧ Cond.selects R_Rm ⟨R_Rm, "node", "(IIIII)I"⟩ ⟨R_Rm, "node", "(IIIII)I"⟩ ∈ lw_tbl := ⟨List.mem_of_getElem? (i := 1485) (by decide +kernel), List.mem_of_getElem? (i := 61) (by decide +kernel)⟩
set_option maxRecDepth 100000 in
theorem o_Rm_typeNode : c_mok D_Rm_typeNode := ⟨k_Rm_typeNode, List.mem_of_getElem? (i := 1567) rfl, by decide, rfl, Or.inr (Or.inl ⟨rfl, rfl⟩), by decide, by decide, z_Rm, by decide⟩
theorem y_Rm_typeNode : Cond.instanceMethod ⟨R_Rm, "typeNode", "(III)I"⟩ ∈ lw_tbl ∧ Cond.selects R_Rm ⟨R_Rm, "typeNode", "(III)I"⟩ ⟨R_Rm, "typeNode", "(III)I"⟩ ∈ lw_tbl := ⟨List.mem_of_getElem? (i := 1566) (by decide +kernel), List.mem_of_getElem? (i := 81) (by decide +kernel)⟩
set_option maxRecDepth 100000 in
theorem o_Rm_within : c_mok D_Rm_within := ⟨k_Rm_within, List.mem_of_getElem? (i := 1474) rfl, by decide, rfl, Or.inl ⟨rfl, rfl⟩, by decide, by decide, z_Rm, by decide⟩
theorem y_Rm_within : Cond.instanceMethod ⟨R_Rm, "within", "()V"⟩ ∈ lw_tbl ∧ Cond.selects R_Rm ⟨R_Rm, "within", "()V"⟩ ⟨R_Rm, "within", "()V"⟩ ∈ lw_tbl := ⟨List.mem_of_getElem? (i := 1473) (by decide +kernel), List.mem_of_getElem? (i := 58) (by decide +kernel)⟩
set_option maxRecDepth 100000 in
theorem o_Rm_counts : c_mok D_Rm_counts := ⟨k_Rm_counts, List.mem_of_getElem? (i := 1482) rfl, by decide, rfl, Or.inl ⟨rfl, rfl⟩, by decide, by decide, z_Rm, by decide⟩
theorem y_Rm_counts : Cond.instanceMethod ⟨R_Rm, "counts", "()V"⟩ ∈ lw_tbl ∧ Cond.selects R_Rm ⟨R_Rm, "counts", "()V"⟩ ⟨R_Rm, "counts", "()V"⟩ ∈ lw_tbl := ⟨List.mem_of_getElem? (i := 1481) (by decide +kernel), List.mem_of_getElem? (i := 60) (by decide +kernel)⟩
set_option maxRecDepth 100000 in
theorem o_Rm_readWhole : c_mok D_Rm_readWhole := ⟨k_Rm_readWhole, List.mem_of_getElem? (i := 1462) rfl, by decide, rfl, Or.inr (Or.inl ⟨rfl, rfl⟩), by decide, by decide, z_Rm, by decide⟩
theorem y_Rm_readWhole : Cond.instanceMethod ⟨R_Rm, "readWhole", "()I"⟩ ∈ lw_tbl ∧ Cond.selects R_Rm ⟨R_Rm, "readWhole", "()I"⟩ ⟨R_Rm, "readWhole", "()I"⟩ ∈ lw_tbl := ⟨List.mem_of_getElem? (i := 1461) (by decide +kernel), List.mem_of_getElem? (i := 55) (by decide +kernel)⟩
set_option maxRecDepth 100000 in
theorem o_Rm_isP : c_mok D_Rm_isP := ⟨k_Rm_isP, List.mem_of_getElem? (i := 1470) rfl, by decide, rfl, Or.inr (Or.inr ⟨rfl, rfl⟩), by decide, by decide, z_Rm, by decide⟩
theorem y_Rm_isP : Cond.instanceMethod ⟨R_Rm, "isP", "()Z"⟩ ∈ lw_tbl ∧ Cond.selects R_Rm ⟨R_Rm, "isP", "()Z"⟩ ⟨R_Rm, "isP", "()Z"⟩ ∈ lw_tbl := ⟨List.mem_of_getElem? (i := 1469) (by decide +kernel), List.mem_of_getElem? (i := 57) (by decide +kernel)⟩
set_option maxRecDepth 100000 in
theorem o_Rm_readE : c_mok D_Rm_readE := ⟨k_Rm_readE, List.mem_of_getElem? (i := 1466) rfl, by decide, rfl, Or.inr (Or.inl ⟨rfl, rfl⟩), by decide, by decide, z_Rm, by decide⟩
theorem y_Rm_readE : Cond.instanceMethod ⟨R_Rm, "readE", "()I"⟩ ∈ lw_tbl ∧ Cond.selects R_Rm ⟨R_Rm, "readE", "()I"⟩ ⟨R_Rm, "readE", "()I"⟩ ∈ lw_tbl := ⟨List.mem_of_getElem? (i := 1465) (by decide +kernel), List.mem_of_getElem? (i := 56) (by decide +kernel)⟩
set_option maxRecDepth 100000 in
theorem o_Rm_readBinder : c_mok D_Rm_readBinder := ⟨k_Rm_readBinder, List.mem_of_getElem? (i := 1478) rfl, by decide, rfl, Or.inr (Or.inl ⟨rfl, rfl⟩), by decide, by decide, z_Rm, by decide⟩
theorem y_Rm_readBinder : Cond.instanceMethod ⟨R_Rm, "readBinder", "(Z)I"⟩ ∈ lw_tbl ∧ Cond.selects R_Rm ⟨R_Rm, "readBinder", "(Z)I"⟩ ⟨R_Rm, "readBinder", "(Z)I"⟩ ∈ lw_tbl := ⟨List.mem_of_getElem? (i := 1477) (by decide +kernel), List.mem_of_getElem? (i := 59) (by decide +kernel)⟩
set_option maxRecDepth 100000 in
theorem o_Rm_readA : c_mok D_Rm_readA := ⟨k_Rm_readA, List.mem_of_getElem? (i := 1490) rfl, by decide, rfl, Or.inr (Or.inl ⟨rfl, rfl⟩), by decide, by decide, z_Rm, by decide⟩
theorem y_Rm_readA : Cond.instanceMethod ⟨R_Rm, "readA", "()I"⟩ ∈ lw_tbl ∧ Cond.selects R_Rm ⟨R_Rm, "readA", "()I"⟩ ⟨R_Rm, "readA", "()I"⟩ ∈ lw_tbl := ⟨List.mem_of_getElem? (i := 1489) (by decide +kernel), List.mem_of_getElem? (i := 62) (by decide +kernel)⟩
set_option maxRecDepth 100000 in
theorem o_Rm_readP : c_mok D_Rm_readP := ⟨k_Rm_readP, List.mem_of_getElem? (i := 1494) rfl, by decide, rfl, Or.inr (Or.inl ⟨rfl, rfl⟩), by decide, by decide, z_Rm, by decide⟩
theorem y_Rm_readP : Cond.instanceMethod ⟨R_Rm, "readP", "()I"⟩ ∈ lw_tbl ∧ Cond.selects R_Rm ⟨R_Rm, "readP", "()I"⟩ ⟨R_Rm, "readP", "()I"⟩ ∈ lw_tbl := ⟨List.mem_of_getElem? (i := 1493) (by decide +kernel), List.mem_of_getElem? (i := 63) (by decide +kernel)⟩
set_option maxRecDepth 100000 in
theorem o_Rm_constantOf : c_mok D_Rm_constantOf := ⟨k_Rm_constantOf, List.mem_of_getElem? (i := 1450) rfl, by decide, rfl, Or.inr (Or.inl ⟨rfl, rfl⟩), by decide, by decide, z_Rm, by decide⟩
theorem y_Rm_constantOf : Cond.instanceMethod ⟨R_Rm, "constantOf", "(I)I"⟩ ∈ lw_tbl ∧ Cond.selects R_Rm ⟨R_Rm, "constantOf", "(I)I"⟩ ⟨R_Rm, "constantOf", "(I)I"⟩ ∈ lw_tbl := ⟨List.mem_of_getElem? (i := 1449) (by decide +kernel), List.mem_of_getElem? (i := 52) (by decide +kernel)⟩
set_option maxRecDepth 100000 in
theorem o_Rm_closure : c_mok D_Rm_closure := ⟨k_Rm_closure, List.mem_of_getElem? (i := 1523) rfl, by decide, rfl, Or.inr (Or.inl ⟨rfl, rfl⟩), by decide, by decide, z_Rm, by decide⟩
theorem y_Rm_closure : Cond.instanceMethod ⟨R_Rm, "closure", "(II)I"⟩ ∈ lw_tbl ∧ Cond.selects R_Rm ⟨R_Rm, "closure", "(II)I"⟩ ⟨R_Rm, "closure", "(II)I"⟩ ∈ lw_tbl := ⟨List.mem_of_getElem? (i := 1522) (by decide +kernel), List.mem_of_getElem? (i := 70) (by decide +kernel)⟩
set_option maxRecDepth 100000 in
theorem o_Rm_list : c_mok D_Rm_list := ⟨k_Rm_list, List.mem_of_getElem? (i := 1527) rfl, by decide, rfl, Or.inr (Or.inl ⟨rfl, rfl⟩), by decide, by decide, z_Rm, by decide⟩
theorem y_Rm_list : Cond.instanceMethod ⟨R_Rm, "list", "(II)I"⟩ ∈ lw_tbl ∧ Cond.selects R_Rm ⟨R_Rm, "list", "(II)I"⟩ ⟨R_Rm, "list", "(II)I"⟩ ∈ lw_tbl := ⟨List.mem_of_getElem? (i := 1526) (by decide +kernel), List.mem_of_getElem? (i := 71) (by decide +kernel)⟩
set_option maxRecDepth 100000 in
theorem o_Rm_behind : c_mok D_Rm_behind := ⟨k_Rm_behind, List.mem_of_getElem? (i := 1611) rfl, by decide, rfl, Or.inr (Or.inl ⟨rfl, rfl⟩), by decide, by decide, z_Rm, by decide⟩
theorem y_Rm_behind : Cond.instanceMethod ⟨R_Rm, "behind", "(II)I"⟩ ∈ lw_tbl ∧ Cond.selects R_Rm ⟨R_Rm, "behind", "(II)I"⟩ ⟨R_Rm, "behind", "(II)I"⟩ ∈ lw_tbl := ⟨List.mem_of_getElem? (i := 1610) (by decide +kernel), List.mem_of_getElem? (i := 92) (by decide +kernel)⟩
set_option maxRecDepth 100000 in
theorem o_Rm_newVar : c_mok D_Rm_newVar := ⟨k_Rm_newVar, List.mem_of_getElem? (i := 1519) rfl, by decide, rfl, Or.inr (Or.inl ⟨rfl, rfl⟩), by decide, by decide, z_Rm, by decide⟩
theorem y_Rm_newVar : Cond.instanceMethod ⟨R_Rm, "newVar", "(III)I"⟩ ∈ lw_tbl ∧ Cond.selects R_Rm ⟨R_Rm, "newVar", "(III)I"⟩ ⟨R_Rm, "newVar", "(III)I"⟩ ∈ lw_tbl := ⟨List.mem_of_getElem? (i := 1518) (by decide +kernel), List.mem_of_getElem? (i := 69) (by decide +kernel)⟩
set_option maxRecDepth 100000 in
theorem o_Rm_step : c_mok D_Rm_step := ⟨k_Rm_step, List.mem_of_getElem? (i := 1510) rfl, by decide, rfl, Or.inr (Or.inr ⟨rfl, rfl⟩), by decide, by decide, z_Rm, by decide⟩
theorem y_Rm_step : Cond.instanceMethod ⟨R_Rm, "step", "()Z"⟩ ∈ lw_tbl ∧ Cond.selects R_Rm ⟨R_Rm, "step", "()Z"⟩ ⟨R_Rm, "step", "()Z"⟩ ∈ lw_tbl := ⟨List.mem_of_getElem? (i := 1509) (by decide +kernel), List.mem_of_getElem? (i := 67) (by decide +kernel)⟩
set_option maxRecDepth 100000 in
theorem o_Rm_stepAt : c_mok D_Rm_stepAt := ⟨k_Rm_stepAt, List.mem_of_getElem? (i := 1506) rfl, by decide, rfl, Or.inl ⟨rfl, rfl⟩, by decide, by decide, z_Rm, by decide⟩
theorem y_Rm_stepAt : Cond.instanceMethod ⟨R_Rm, "stepAt", "(I)V"⟩ ∈ lw_tbl ∧ Cond.selects R_Rm ⟨R_Rm, "stepAt", "(I)V"⟩ ⟨R_Rm, "stepAt", "(I)V"⟩ ∈ lw_tbl := ⟨List.mem_of_getElem? (i := 1505) (by decide +kernel), List.mem_of_getElem? (i := 66) (by decide +kernel)⟩
set_option maxRecDepth 100000 in
theorem o_Rm_begins : c_mok D_Rm_begins := ⟨k_Rm_begins, List.mem_of_getElem? (i := 1415) rfl, by decide, rfl, Or.inl ⟨rfl, rfl⟩, by decide, by decide, z_Rm, by decide⟩
theorem y_Rm_begins : Cond.instanceMethod ⟨R_Rm, "begins", "()V"⟩ ∈ lw_tbl ∧ Cond.selects R_Rm ⟨R_Rm, "begins", "()V"⟩ ⟨R_Rm, "begins", "()V"⟩ ∈ lw_tbl := ⟨List.mem_of_getElem? (i := 1414) (by decide +kernel), List.mem_of_getElem? (i := 47) (by decide +kernel)⟩
set_option maxRecDepth 100000 in
theorem o_Rm_shows : c_mok D_Rm_shows := ⟨k_Rm_shows, List.mem_of_getElem? (i := 1547) rfl, by decide, rfl, Or.inr (Or.inr ⟨rfl, rfl⟩), by decide, by decide, z_Rm, by decide⟩
theorem y_Rm_shows : Cond.instanceMethod ⟨R_Rm, "shows", "(II)Z"⟩ ∈ lw_tbl ∧ Cond.selects R_Rm ⟨R_Rm, "shows", "(II)Z"⟩ ⟨R_Rm, "shows", "(II)Z"⟩ ∈ lw_tbl := ⟨List.mem_of_getElem? (i := 1546) (by decide +kernel), List.mem_of_getElem? (i := 76) (by decide +kernel)⟩
set_option maxRecDepth 100000 in
theorem o_Rm_shown : c_mok D_Rm_shown := ⟨k_Rm_shown, List.mem_of_getElem? (i := 1555) rfl, by decide, rfl, Or.inr (Or.inr ⟨rfl, rfl⟩), by decide, by decide, z_Rm, by decide⟩
theorem y_Rm_shown : Cond.instanceMethod ⟨R_Rm, "shown", "(II)Z"⟩ ∈ lw_tbl ∧ Cond.selects R_Rm ⟨R_Rm, "shown", "(II)Z"⟩ ⟨R_Rm, "shown", "(II)Z"⟩ ∈ lw_tbl := ⟨List.mem_of_getElem? (i := 1554) (by decide +kernel), List.mem_of_getElem? (i := 78) (by decide +kernel)⟩
set_option maxRecDepth 100000 in
theorem o_Rm_without : c_mok D_Rm_without := ⟨k_Rm_without, List.mem_of_getElem? (i := 1551) rfl, by decide, rfl, Or.inr (Or.inl ⟨rfl, rfl⟩), by decide, by decide, z_Rm, by decide⟩
theorem y_Rm_without : Cond.instanceMethod ⟨R_Rm, "without", "(II)I"⟩ ∈ lw_tbl ∧ Cond.selects R_Rm ⟨R_Rm, "without", "(II)I"⟩ ⟨R_Rm, "without", "(II)I"⟩ ∈ lw_tbl := ⟨List.mem_of_getElem? (i := 1550) (by decide +kernel), List.mem_of_getElem? (i := 77) (by decide +kernel)⟩
set_option maxRecDepth 100000 in
theorem o_Rm_heads : c_mok D_Rm_heads := ⟨k_Rm_heads, List.mem_of_getElem? (i := 1631) rfl, by decide, rfl, Or.inr (Or.inl ⟨rfl, rfl⟩), by decide, by decide, z_Rm, by decide⟩
theorem y_Rm_heads : Cond.instanceMethod ⟨R_Rm, "heads", "(II)I"⟩ ∈ lw_tbl ∧ Cond.selects R_Rm ⟨R_Rm, "heads", "(II)I"⟩ ⟨R_Rm, "heads", "(II)I"⟩ ∈ lw_tbl := ⟨List.mem_of_getElem? (i := 1630) (by decide +kernel), List.mem_of_getElem? (i := 97) (by decide +kernel)⟩
set_option maxRecDepth 100000 in
theorem o_Rm_manyBehind : c_mok D_Rm_manyBehind := ⟨k_Rm_manyBehind, List.mem_of_getElem? (i := 1635) rfl, by decide, rfl, Or.inr (Or.inl ⟨rfl, rfl⟩), by decide, by decide, z_Rm, by decide⟩
theorem y_Rm_manyBehind : Cond.instanceMethod ⟨R_Rm, "manyBehind", "(I)I"⟩ ∈ lw_tbl ∧ Cond.selects R_Rm ⟨R_Rm, "manyBehind", "(I)I"⟩ ⟨R_Rm, "manyBehind", "(I)I"⟩ ∈ lw_tbl := ⟨List.mem_of_getElem? (i := 1634) (by decide +kernel), List.mem_of_getElem? (i := 98) (by decide +kernel)⟩
set_option maxRecDepth 100000 in
theorem o_Rm_asks : c_mok D_Rm_asks := ⟨k_Rm_asks, List.mem_of_getElem? (i := 1595) rfl, by decide, rfl, Or.inr (Or.inl ⟨rfl, rfl⟩), by decide, by decide, z_Rm, by decide⟩
theorem y_Rm_asks : Cond.instanceMethod ⟨R_Rm, "asks", "()I"⟩ ∈ lw_tbl ∧ Cond.selects R_Rm ⟨R_Rm, "asks", "()I"⟩ ⟨R_Rm, "asks", "()I"⟩ ∈ lw_tbl := ⟨List.mem_of_getElem? (i := 1594) (by decide +kernel), List.mem_of_getElem? (i := 88) (by decide +kernel)⟩
set_option maxRecDepth 100000 in
theorem o_Rm_sameFamilies : c_mok D_Rm_sameFamilies := ⟨k_Rm_sameFamilies, List.mem_of_getElem? (i := 1591) rfl, by decide, rfl, Or.inr (Or.inl ⟨rfl, rfl⟩), by decide, by decide, z_Rm, by decide⟩
theorem y_Rm_sameFamilies : Cond.instanceMethod ⟨R_Rm, "sameFamilies", "(IIII)I"⟩ ∈ lw_tbl ∧ Cond.selects R_Rm ⟨R_Rm, "sameFamilies", "(IIII)I"⟩ ⟨R_Rm, "sameFamilies", "(IIII)I"⟩ ∈ lw_tbl := ⟨List.mem_of_getElem? (i := 1590) (by decide +kernel), List.mem_of_getElem? (i := 87) (by decide +kernel)⟩
set_option maxRecDepth 100000 in
theorem o_Rm_sameAsked : c_mok D_Rm_sameAsked := ⟨k_Rm_sameAsked, List.mem_of_getElem? (i := 1599) rfl, by decide, rfl, Or.inr (Or.inl ⟨rfl, rfl⟩), by decide, by decide, z_Rm, by decide⟩
theorem y_Rm_sameAsked : Cond.instanceMethod ⟨R_Rm, "sameAsked", "(IIII)I"⟩ ∈ lw_tbl ∧ Cond.selects R_Rm ⟨R_Rm, "sameAsked", "(IIII)I"⟩ ⟨R_Rm, "sameAsked", "(IIII)I"⟩ ∈ lw_tbl := ⟨List.mem_of_getElem? (i := 1598) (by decide +kernel), List.mem_of_getElem? (i := 89) (by decide +kernel)⟩
set_option maxRecDepth 100000 in
theorem o_Rm_behindOf : c_mok D_Rm_behindOf := ⟨k_Rm_behindOf, List.mem_of_getElem? (i := 1607) rfl, by decide, rfl, Or.inr (Or.inl ⟨rfl, rfl⟩), by decide, by decide, z_Rm, by decide⟩
theorem y_Rm_behindOf : Cond.instanceMethod ⟨R_Rm, "behindOf", "(II)I"⟩ ∈ lw_tbl ∧ Cond.selects R_Rm ⟨R_Rm, "behindOf", "(II)I"⟩ ⟨R_Rm, "behindOf", "(II)I"⟩ ∈ lw_tbl := ⟨List.mem_of_getElem? (i := 1606) (by decide +kernel), List.mem_of_getElem? (i := 91) (by decide +kernel)⟩
set_option maxRecDepth 100000 in
theorem o_Rm_sameSpines : c_mok D_Rm_sameSpines := ⟨k_Rm_sameSpines, List.mem_of_getElem? (i := 1603) rfl, by decide, rfl, Or.inr (Or.inl ⟨rfl, rfl⟩), by decide, by decide, z_Rm, by decide⟩
theorem y_Rm_sameSpines : Cond.instanceMethod ⟨R_Rm, "sameSpines", "(IIII)I"⟩ ∈ lw_tbl ∧ Cond.selects R_Rm ⟨R_Rm, "sameSpines", "(IIII)I"⟩ ⟨R_Rm, "sameSpines", "(IIII)I"⟩ ∈ lw_tbl := ⟨List.mem_of_getElem? (i := 1602) (by decide +kernel), List.mem_of_getElem? (i := 90) (by decide +kernel)⟩
set_option maxRecDepth 100000 in
theorem o_Rm_sameBehind : c_mok D_Rm_sameBehind := ⟨k_Rm_sameBehind, List.mem_of_getElem? (i := 1615) rfl, by decide, rfl, Or.inr (Or.inl ⟨rfl, rfl⟩), by decide, by decide, z_Rm, by decide⟩
theorem y_Rm_sameBehind : Cond.instanceMethod ⟨R_Rm, "sameBehind", "(IIII)I"⟩ ∈ lw_tbl ∧ Cond.selects R_Rm ⟨R_Rm, "sameBehind", "(IIII)I"⟩ ⟨R_Rm, "sameBehind", "(IIII)I"⟩ ∈ lw_tbl := ⟨List.mem_of_getElem? (i := 1614) (by decide +kernel), List.mem_of_getElem? (i := 93) (by decide +kernel)⟩
set_option maxRecDepth 100000 in
theorem o_Rm_append : c_mok D_Rm_append := ⟨k_Rm_append, List.mem_of_getElem? (i := 1627) rfl, by decide, rfl, Or.inr (Or.inl ⟨rfl, rfl⟩), by decide, by decide, z_Rm, by decide⟩
theorem y_Rm_append : Cond.instanceMethod ⟨R_Rm, "append", "(II)I"⟩ ∈ lw_tbl ∧ Cond.selects R_Rm ⟨R_Rm, "append", "(II)I"⟩ ⟨R_Rm, "append", "(II)I"⟩ ∈ lw_tbl := ⟨List.mem_of_getElem? (i := 1626) (by decide +kernel), List.mem_of_getElem? (i := 96) (by decide +kernel)⟩
set_option maxRecDepth 100000 in
theorem o_Rm_sameObjects : c_mok D_Rm_sameObjects := ⟨k_Rm_sameObjects, List.mem_of_getElem? (i := 1619) rfl, by decide, rfl, Or.inr (Or.inl ⟨rfl, rfl⟩), by decide, by decide, z_Rm, by decide⟩
theorem y_Rm_sameObjects : Cond.instanceMethod ⟨R_Rm, "sameObjects", "(IIIIII)I"⟩ ∈ lw_tbl ∧ Cond.selects R_Rm ⟨R_Rm, "sameObjects", "(IIIIII)I"⟩ ⟨R_Rm, "sameObjects", "(IIIIII)I"⟩ ∈ lw_tbl := ⟨List.mem_of_getElem? (i := 1618) (by decide +kernel), List.mem_of_getElem? (i := 94) (by decide +kernel)⟩
set_option maxRecDepth 100000 in
theorem o_Rm_sameObjectsAsked : c_mok D_Rm_sameObjectsAsked := ⟨k_Rm_sameObjectsAsked, List.mem_of_getElem? (i := 1623) rfl, by decide, rfl, Or.inr (Or.inl ⟨rfl, rfl⟩), by decide, by decide, z_Rm, by decide⟩
theorem y_Rm_sameObjectsAsked : Cond.instanceMethod ⟨R_Rm, "sameObjectsAsked", "(IIIIII)I"⟩ ∈ lw_tbl ∧ Cond.selects R_Rm ⟨R_Rm, "sameObjectsAsked", "(IIIIII)I"⟩ ⟨R_Rm, "sameObjectsAsked", "(IIIIII)I"⟩ ∈ lw_tbl := ⟨List.mem_of_getElem? (i := 1622) (by decide +kernel), List.mem_of_getElem? (i := 95) (by decide +kernel)⟩
set_option maxRecDepth 100000 in
theorem o_Rm_equalFamilies : c_mok D_Rm_equalFamilies := ⟨k_Rm_equalFamilies, List.mem_of_getElem? (i := 1587) rfl, by decide, rfl, Or.inr (Or.inl ⟨rfl, rfl⟩), by decide, by decide, z_Rm, by decide⟩
theorem y_Rm_equalFamilies : Cond.instanceMethod ⟨R_Rm, "equalFamilies", "(IIII)I"⟩ ∈ lw_tbl ∧ Cond.selects R_Rm ⟨R_Rm, "equalFamilies", "(IIII)I"⟩ ⟨R_Rm, "equalFamilies", "(IIII)I"⟩ ∈ lw_tbl := ⟨List.mem_of_getElem? (i := 1586) (by decide +kernel), List.mem_of_getElem? (i := 86) (by decide +kernel)⟩
set_option maxRecDepth 100000 in
theorem o_Rm_wanted : c_mok D_Rm_wanted := ⟨k_Rm_wanted, List.mem_of_getElem? (i := 1583) rfl, by decide, rfl, Or.inl ⟨rfl, rfl⟩, by decide, by decide, z_Rm, by decide⟩
theorem y_Rm_wanted : Cond.instanceMethod ⟨R_Rm, "wanted", "(IIIII)V"⟩ ∈ lw_tbl ∧ Cond.selects R_Rm ⟨R_Rm, "wanted", "(IIIII)V"⟩ ⟨R_Rm, "wanted", "(IIIII)V"⟩ ∈ lw_tbl := ⟨List.mem_of_getElem? (i := 1582) (by decide +kernel), List.mem_of_getElem? (i := 85) (by decide +kernel)⟩
set_option maxRecDepth 100000 in
theorem o_Rm_bind : c_mok D_Rm_bind := ⟨k_Rm_bind, List.mem_of_getElem? (i := 1515) rfl, by decide, rfl, Or.inl ⟨rfl, rfl⟩, by decide, by decide, z_Rm, by decide⟩
theorem y_Rm_bind : Cond.instanceMethod ⟨R_Rm, "bind", "(I)V"⟩ ∈ lw_tbl ∧ Cond.selects R_Rm ⟨R_Rm, "bind", "(I)V"⟩ ⟨R_Rm, "bind", "(I)V"⟩ ∈ lw_tbl := ⟨List.mem_of_getElem? (i := 1514) (by decide +kernel), List.mem_of_getElem? (i := 68) (by decide +kernel)⟩
set_option maxRecDepth 100000 in
theorem o_Rm_unbind : c_mok D_Rm_unbind := ⟨k_Rm_unbind, List.mem_of_getElem? (i := 1531) rfl, by decide, rfl, Or.inl ⟨rfl, rfl⟩, by decide, by decide, z_Rm, by decide⟩
theorem y_Rm_unbind : Cond.instanceMethod ⟨R_Rm, "unbind", "()V"⟩ ∈ lw_tbl ∧ Cond.selects R_Rm ⟨R_Rm, "unbind", "()V"⟩ ⟨R_Rm, "unbind", "()V"⟩ ∈ lw_tbl := ⟨List.mem_of_getElem? (i := 1530) (by decide +kernel), List.mem_of_getElem? (i := 72) (by decide +kernel)⟩
set_option maxRecDepth 100000 in
theorem o_Rm_find : c_mok D_Rm_find := ⟨k_Rm_find, List.mem_of_getElem? (i := 1539) rfl, by decide, rfl, Or.inl ⟨rfl, rfl⟩, by decide, by decide, z_Rm, by decide⟩
theorem y_Rm_find : Cond.instanceMethod ⟨R_Rm, "find", "(I)V"⟩ ∈ lw_tbl ∧ Cond.selects R_Rm ⟨R_Rm, "find", "(I)V"⟩ ⟨R_Rm, "find", "(I)V"⟩ ∈ lw_tbl := ⟨List.mem_of_getElem? (i := 1538) (by decide +kernel), List.mem_of_getElem? (i := 74) (by decide +kernel)⟩
set_option maxRecDepth 100000 in
theorem o_Rm_isFamilyNode : c_mok D_Rm_isFamilyNode := ⟨k_Rm_isFamilyNode, List.mem_of_getElem? (i := 1543) rfl, by decide, rfl, Or.inr (Or.inr ⟨rfl, rfl⟩), by decide, by decide, z_Rm, by decide⟩
theorem y_Rm_isFamilyNode : Cond.instanceMethod ⟨R_Rm, "isFamilyNode", "(I)Z"⟩ ∈ lw_tbl ∧ Cond.selects R_Rm ⟨R_Rm, "isFamilyNode", "(I)Z"⟩ ⟨R_Rm, "isFamilyNode", "(I)Z"⟩ ∈ lw_tbl := ⟨List.mem_of_getElem? (i := 1542) (by decide +kernel), List.mem_of_getElem? (i := 75) (by decide +kernel)⟩
set_option maxRecDepth 100000 in
theorem o_Rm_family : c_mok D_Rm_family := ⟨k_Rm_family, List.mem_of_getElem? (i := 1502) rfl, by decide, rfl, Or.inl ⟨rfl, rfl⟩, by decide, by decide, z_Rm, by decide⟩
theorem y_Rm_family : Cond.instanceMethod ⟨R_Rm, "family", "(IZ)V"⟩ ∈ lw_tbl ∧ Cond.selects R_Rm ⟨R_Rm, "family", "(IZ)V"⟩ ⟨R_Rm, "family", "(IZ)V"⟩ ∈ lw_tbl := ⟨List.mem_of_getElem? (i := 1501) (by decide +kernel), List.mem_of_getElem? (i := 65) (by decide +kernel)⟩
set_option maxRecDepth 100000 in
theorem o_Rm_familyBehind : c_mok D_Rm_familyBehind := ⟨k_Rm_familyBehind, List.mem_of_getElem? (i := 1535) rfl, by decide, rfl, Or.inl ⟨rfl, rfl⟩, by decide, by decide, z_Rm, by decide⟩
theorem y_Rm_familyBehind : Cond.instanceMethod ⟨R_Rm, "familyBehind", "(I)V"⟩ ∈ lw_tbl ∧ Cond.selects R_Rm ⟨R_Rm, "familyBehind", "(I)V"⟩ ⟨R_Rm, "familyBehind", "(I)V"⟩ ∈ lw_tbl := ⟨List.mem_of_getElem? (i := 1534) (by decide +kernel), List.mem_of_getElem? (i := 73) (by decide +kernel)⟩
set_option maxRecDepth 100000 in
theorem o_Rm_is : c_mok D_Rm_is := ⟨k_Rm_is, List.mem_of_getElem? (i := 1571) rfl, by decide, rfl, Or.inl ⟨rfl, rfl⟩, by decide, by decide, z_Rm, by decide⟩
theorem y_Rm_is : Cond.instanceMethod ⟨R_Rm, "is", "(III)V"⟩ ∈ lw_tbl ∧ Cond.selects R_Rm ⟨R_Rm, "is", "(III)V"⟩ ⟨R_Rm, "is", "(III)V"⟩ ∈ lw_tbl := ⟨List.mem_of_getElem? (i := 1570) (by decide +kernel), List.mem_of_getElem? (i := 82) (by decide +kernel)⟩
set_option maxRecDepth 100000 in
theorem o_Rm_object : c_mok D_Rm_object := ⟨k_Rm_object, List.mem_of_getElem? (i := 1559) rfl, by decide, rfl, Or.inl ⟨rfl, rfl⟩, by decide, by decide, z_Rm, by decide⟩
theorem y_Rm_object : Cond.instanceMethod ⟨R_Rm, "object", "(I)V"⟩ ∈ lw_tbl ∧ Cond.selects R_Rm ⟨R_Rm, "object", "(I)V"⟩ ⟨R_Rm, "object", "(I)V"⟩ ∈ lw_tbl := ⟨List.mem_of_getElem? (i := 1558) (by decide +kernel), List.mem_of_getElem? (i := 79) (by decide +kernel)⟩
set_option maxRecDepth 100000 in
theorem o_Rm_name : c_mok D_Rm_name := ⟨k_Rm_name, List.mem_of_getElem? (i := 1639) rfl, by decide, rfl, Or.inl ⟨rfl, rfl⟩, by decide, by decide, z_Rm, by decide⟩
theorem y_Rm_name : Cond.instanceMethod ⟨R_Rm, "name", "(I)V"⟩ ∈ lw_tbl ∧ Cond.selects R_Rm ⟨R_Rm, "name", "(I)V"⟩ ⟨R_Rm, "name", "(I)V"⟩ ∈ lw_tbl := ⟨List.mem_of_getElem? (i := 1638) (by decide +kernel), List.mem_of_getElem? (i := 99) (by decide +kernel)⟩
set_option maxRecDepth 100000 in
theorem o_Rm_lambda : c_mok D_Rm_lambda := ⟨k_Rm_lambda, List.mem_of_getElem? (i := 1563) rfl, by decide, rfl, Or.inl ⟨rfl, rfl⟩, by decide, by decide, z_Rm, by decide⟩
theorem y_Rm_lambda : Cond.instanceMethod ⟨R_Rm, "lambda", "(I)V"⟩ ∈ lw_tbl ∧ Cond.selects R_Rm ⟨R_Rm, "lambda", "(I)V"⟩ ⟨R_Rm, "lambda", "(I)V"⟩ ∈ lw_tbl := ⟨List.mem_of_getElem? (i := 1562) (by decide +kernel), List.mem_of_getElem? (i := 80) (by decide +kernel)⟩
set_option maxRecDepth 100000 in
theorem o_Rm_objectBehind : c_mok D_Rm_objectBehind := ⟨k_Rm_objectBehind, List.mem_of_getElem? (i := 1575) rfl, by decide, rfl, Or.inl ⟨rfl, rfl⟩, by decide, by decide, z_Rm, by decide⟩
theorem y_Rm_objectBehind : Cond.instanceMethod ⟨R_Rm, "objectBehind", "(I)V"⟩ ∈ lw_tbl ∧ Cond.selects R_Rm ⟨R_Rm, "objectBehind", "(I)V"⟩ ⟨R_Rm, "objectBehind", "(I)V"⟩ ∈ lw_tbl := ⟨List.mem_of_getElem? (i := 1574) (by decide +kernel), List.mem_of_getElem? (i := 83) (by decide +kernel)⟩
set_option maxRecDepth 100000 in
theorem o_Rm_oneBehind : c_mok D_Rm_oneBehind := ⟨k_Rm_oneBehind, List.mem_of_getElem? (i := 1579) rfl, by decide, rfl, Or.inl ⟨rfl, rfl⟩, by decide, by decide, z_Rm, by decide⟩
theorem y_Rm_oneBehind : Cond.instanceMethod ⟨R_Rm, "oneBehind", "(I)V"⟩ ∈ lw_tbl ∧ Cond.selects R_Rm ⟨R_Rm, "oneBehind", "(I)V"⟩ ⟨R_Rm, "oneBehind", "(I)V"⟩ ∈ lw_tbl := ⟨List.mem_of_getElem? (i := 1578) (by decide +kernel), List.mem_of_getElem? (i := 84) (by decide +kernel)⟩
set_option maxRecDepth 100000 in
theorem o_Rm_declare : c_mok D_Rm_declare := ⟨k_Rm_declare, List.mem_of_getElem? (i := 1411) rfl, by decide, rfl, Or.inr (Or.inl ⟨rfl, rfl⟩), by decide, by decide, z_Rm, by decide⟩
theorem y_Rm_declare : Cond.instanceMethod ⟨R_Rm, "declare", "()I"⟩ ∈ lw_tbl ∧ Cond.selects R_Rm ⟨R_Rm, "declare", "()I"⟩ ⟨R_Rm, "declare", "()I"⟩ ∈ lw_tbl := ⟨List.mem_of_getElem? (i := 1409) (by decide +kernel), List.mem_of_getElem? (i := 1410) (by decide +kernel)⟩
set_option maxRecDepth 100000 in
theorem o_Rm_declaration : c_mok D_Rm_declaration := ⟨k_Rm_declaration, List.mem_of_getElem? (i := 1437) rfl, by decide, rfl, Or.inl ⟨rfl, rfl⟩, by decide, by decide, z_Rm, by decide⟩
theorem y_Rm_declaration : Cond.instanceMethod ⟨R_Rm, "declaration", "()V"⟩ ∈ lw_tbl ∧ Cond.selects R_Rm ⟨R_Rm, "declaration", "()V"⟩ ⟨R_Rm, "declaration", "()V"⟩ ∈ lw_tbl := ⟨List.mem_of_getElem? (i := 1436) (by decide +kernel), List.mem_of_getElem? (i := 49) (by decide +kernel)⟩
set_option maxRecDepth 100000 in
theorem o_Rm_say : c_mok D_Rm_say := ⟨k_Rm_say, List.mem_of_getElem? (i := 1671) rfl, by decide, rfl, Or.inl ⟨rfl, rfl⟩, by decide, by decide, z_Rm, by decide⟩
theorem y_Rm_say : Cond.instanceMethod ⟨R_Rm, "say", "(I)V"⟩ ∈ lw_tbl ∧ Cond.selects R_Rm ⟨R_Rm, "say", "(I)V"⟩ ⟨R_Rm, "say", "(I)V"⟩ ∈ lw_tbl := ⟨List.mem_of_getElem? (i := 1670) (by decide +kernel), List.mem_of_getElem? (i := 106) (by decide +kernel)⟩
set_option maxRecDepth 100000 in
theorem o_Rm_signOf : c_mok D_Rm_signOf := ⟨k_Rm_signOf, List.mem_of_getElem? (i := 1686) rfl, by decide, rfl, Or.inr (Or.inl ⟨rfl, rfl⟩), by decide, by decide, z_Rm, by decide⟩
theorem y_Rm_signOf : Cond.static ⟨R_Rm, "signOf", "(I)I"⟩ ∈ lw_tbl := List.mem_of_getElem? (i := 1685) (by decide +kernel)
set_option maxRecDepth 100000 in
theorem o_Rm_sayPart : c_mok D_Rm_sayPart := ⟨k_Rm_sayPart, List.mem_of_getElem? (i := 1683) rfl, by decide, rfl, Or.inl ⟨rfl, rfl⟩, by decide, by decide, z_Rm, by decide⟩
theorem y_Rm_sayPart : Cond.instanceMethod ⟨R_Rm, "sayPart", "(J)V"⟩ ∈ lw_tbl ∧ Cond.selects R_Rm ⟨R_Rm, "sayPart", "(J)V"⟩ ⟨R_Rm, "sayPart", "(J)V"⟩ ∈ lw_tbl := ⟨List.mem_of_getElem? (i := 1682) (by decide +kernel), List.mem_of_getElem? (i := 109) (by decide +kernel)⟩
set_option maxRecDepth 100000 in
theorem o_Rm_sayVar : c_mok D_Rm_sayVar := ⟨k_Rm_sayVar, List.mem_of_getElem? (i := 1675) rfl, by decide, rfl, Or.inl ⟨rfl, rfl⟩, by decide, by decide, z_Rm, by decide⟩
theorem y_Rm_sayVar : Cond.instanceMethod ⟨R_Rm, "sayVar", "(I)V"⟩ ∈ lw_tbl ∧ Cond.selects R_Rm ⟨R_Rm, "sayVar", "(I)V"⟩ ⟨R_Rm, "sayVar", "(I)V"⟩ ∈ lw_tbl := ⟨List.mem_of_getElem? (i := 1674) (by decide +kernel), List.mem_of_getElem? (i := 107) (by decide +kernel)⟩
set_option maxRecDepth 100000 in
theorem o_Rm_countXs : c_mok D_Rm_countXs := ⟨k_Rm_countXs, List.mem_of_getElem? (i := 1655) rfl, by decide, rfl, Or.inl ⟨rfl, rfl⟩, by decide, by decide, z_Rm, by decide⟩
theorem y_Rm_countXs : Cond.instanceMethod ⟨R_Rm, "countXs", "()V"⟩ ∈ lw_tbl ∧ Cond.selects R_Rm ⟨R_Rm, "countXs", "()V"⟩ ⟨R_Rm, "countXs", "()V"⟩ ∈ lw_tbl := ⟨List.mem_of_getElem? (i := 1654) (by decide +kernel), List.mem_of_getElem? (i := 102) (by decide +kernel)⟩
set_option maxRecDepth 100000 in
theorem o_Rm_isXs : c_mok D_Rm_isXs := ⟨k_Rm_isXs, List.mem_of_getElem? (i := 1659) rfl, by decide, rfl, Or.inr (Or.inr ⟨rfl, rfl⟩), by decide, by decide, z_Rm, by decide⟩
theorem y_Rm_isXs : Cond.instanceMethod ⟨R_Rm, "isXs", "(I)Z"⟩ ∈ lw_tbl ∧ Cond.selects R_Rm ⟨R_Rm, "isXs", "(I)Z"⟩ ⟨R_Rm, "isXs", "(I)Z"⟩ ∈ lw_tbl := ⟨List.mem_of_getElem? (i := 1658) (by decide +kernel), List.mem_of_getElem? (i := 103) (by decide +kernel)⟩
set_option maxRecDepth 100000 in
theorem o_Rm_takeLetters : c_mok D_Rm_takeLetters := ⟨k_Rm_takeLetters, List.mem_of_getElem? (i := 1663) rfl, by decide, rfl, Or.inl ⟨rfl, rfl⟩, by decide, by decide, z_Rm, by decide⟩
theorem y_Rm_takeLetters : Cond.instanceMethod ⟨R_Rm, "takeLetters", "(J)V"⟩ ∈ lw_tbl ∧ Cond.selects R_Rm ⟨R_Rm, "takeLetters", "(J)V"⟩ ⟨R_Rm, "takeLetters", "(J)V"⟩ ∈ lw_tbl := ⟨List.mem_of_getElem? (i := 1662) (by decide +kernel), List.mem_of_getElem? (i := 104) (by decide +kernel)⟩
set_option maxRecDepth 100000 in
theorem o_Rm_ended : c_mok D_Rm_ended := ⟨k_Rm_ended, List.mem_of_getElem? (i := 1679) rfl, by decide, rfl, Or.inr (Or.inl ⟨rfl, rfl⟩), by decide, by decide, z_Rm, by decide⟩
theorem y_Rm_ended : Cond.instanceMethod ⟨R_Rm, "ended", "(I)I"⟩ ∈ lw_tbl ∧ Cond.selects R_Rm ⟨R_Rm, "ended", "(I)I"⟩ ⟨R_Rm, "ended", "(I)I"⟩ ∈ lw_tbl := ⟨List.mem_of_getElem? (i := 1678) (by decide +kernel), List.mem_of_getElem? (i := 108) (by decide +kernel)⟩
set_option maxRecDepth 100000 in
theorem o_Rm_tellFamily : c_mok D_Rm_tellFamily := ⟨k_Rm_tellFamily, List.mem_of_getElem? (i := 1667) rfl, by decide, rfl, Or.inr (Or.inl ⟨rfl, rfl⟩), by decide, by decide, z_Rm, by decide⟩
theorem y_Rm_tellFamily : Cond.instanceMethod ⟨R_Rm, "tellFamily", "(III)I"⟩ ∈ lw_tbl ∧ Cond.selects R_Rm ⟨R_Rm, "tellFamily", "(III)I"⟩ ⟨R_Rm, "tellFamily", "(III)I"⟩ ∈ lw_tbl := ⟨List.mem_of_getElem? (i := 1666) (by decide +kernel), List.mem_of_getElem? (i := 105) (by decide +kernel)⟩
set_option maxRecDepth 100000 in
theorem o_Rm_tellBehind : c_mok D_Rm_tellBehind := ⟨k_Rm_tellBehind, List.mem_of_getElem? (i := 1690) rfl, by decide, rfl, Or.inr (Or.inl ⟨rfl, rfl⟩), by decide, by decide, z_Rm, by decide⟩
theorem y_Rm_tellBehind : Cond.instanceMethod ⟨R_Rm, "tellBehind", "(IIII)I"⟩ ∈ lw_tbl ∧ Cond.selects R_Rm ⟨R_Rm, "tellBehind", "(IIII)I"⟩ ⟨R_Rm, "tellBehind", "(IIII)I"⟩ ∈ lw_tbl := ⟨List.mem_of_getElem? (i := 1689) (by decide +kernel), List.mem_of_getElem? (i := 110) (by decide +kernel)⟩
set_option maxRecDepth 100000 in
theorem o_Rm_tellObject : c_mok D_Rm_tellObject := ⟨k_Rm_tellObject, List.mem_of_getElem? (i := 1694) rfl, by decide, rfl, Or.inr (Or.inl ⟨rfl, rfl⟩), by decide, by decide, z_Rm, by decide⟩
theorem y_Rm_tellObject : Cond.instanceMethod ⟨R_Rm, "tellObject", "(IIIIIZ)I"⟩ ∈ lw_tbl ∧ Cond.selects R_Rm ⟨R_Rm, "tellObject", "(IIIIIZ)I"⟩ ⟨R_Rm, "tellObject", "(IIIIIZ)I"⟩ ∈ lw_tbl := ⟨List.mem_of_getElem? (i := 1693) (by decide +kernel), List.mem_of_getElem? (i := 111) (by decide +kernel)⟩
set_option maxRecDepth 100000 in
theorem o_Rm_tellLambda : c_mok D_Rm_tellLambda := ⟨k_Rm_tellLambda, List.mem_of_getElem? (i := 1698) rfl, by decide, rfl, Or.inr (Or.inl ⟨rfl, rfl⟩), by decide, by decide, z_Rm, by decide⟩
theorem y_Rm_tellLambda : Cond.instanceMethod ⟨R_Rm, "tellLambda", "(IIIZ)I"⟩ ∈ lw_tbl ∧ Cond.selects R_Rm ⟨R_Rm, "tellLambda", "(IIIZ)I"⟩ ⟨R_Rm, "tellLambda", "(IIIZ)I"⟩ ∈ lw_tbl := ⟨List.mem_of_getElem? (i := 1697) (by decide +kernel), List.mem_of_getElem? (i := 112) (by decide +kernel)⟩
set_option maxRecDepth 100000 in
theorem o_Rm_tellHead : c_mok D_Rm_tellHead := ⟨k_Rm_tellHead, List.mem_of_getElem? (i := 1702) rfl, by decide, rfl, Or.inr (Or.inl ⟨rfl, rfl⟩), by decide, by decide, z_Rm, by decide⟩
theorem y_Rm_tellHead : Cond.instanceMethod ⟨R_Rm, "tellHead", "(IIIZ)I"⟩ ∈ lw_tbl ∧ Cond.selects R_Rm ⟨R_Rm, "tellHead", "(IIIZ)I"⟩ ⟨R_Rm, "tellHead", "(IIIZ)I"⟩ ∈ lw_tbl := ⟨List.mem_of_getElem? (i := 1701) (by decide +kernel), List.mem_of_getElem? (i := 113) (by decide +kernel)⟩
set_option maxRecDepth 100000 in
theorem o_Rm_askOne : c_mok D_Rm_askOne := ⟨k_Rm_askOne, List.mem_of_getElem? (i := 1651) rfl, by decide, rfl, Or.inr (Or.inl ⟨rfl, rfl⟩), by decide, by decide, z_Rm, by decide⟩
theorem y_Rm_askOne : Cond.instanceMethod ⟨R_Rm, "askOne", "()I"⟩ ∈ lw_tbl ∧ Cond.selects R_Rm ⟨R_Rm, "askOne", "()I"⟩ ⟨R_Rm, "askOne", "()I"⟩ ∈ lw_tbl := ⟨List.mem_of_getElem? (i := 1650) (by decide +kernel), List.mem_of_getElem? (i := 101) (by decide +kernel)⟩
set_option maxRecDepth 100000 in
theorem o_Rm_tell : c_mok D_Rm_tell := ⟨k_Rm_tell, List.mem_of_getElem? (i := 1647) rfl, by decide, rfl, Or.inr (Or.inl ⟨rfl, rfl⟩), by decide, by decide, z_Rm, by decide⟩
theorem y_Rm_tell : Cond.instanceMethod ⟨R_Rm, "tell", "(Z)I"⟩ ∈ lw_tbl ∧ Cond.selects R_Rm ⟨R_Rm, "tell", "(Z)I"⟩ ⟨R_Rm, "tell", "(Z)I"⟩ ∈ lw_tbl := ⟨List.mem_of_getElem? (i := 1646) (by decide +kernel), List.mem_of_getElem? (i := 100) (by decide +kernel)⟩
set_option maxRecDepth 100000 in
theorem o_Rm_canon : c_mok D_Rm_canon := ⟨k_Rm_canon, List.mem_of_getElem? (i := 1643) rfl, by decide, rfl, Or.inr (Or.inl ⟨rfl, rfl⟩), by decide, by decide, z_Rm, by decide⟩
theorem y_Rm_canon : Cond.instanceMethod ⟨R_Rm, "canon", "()I"⟩ ∈ lw_tbl ∧ Cond.selects R_Rm ⟨R_Rm, "canon", "()I"⟩ ⟨R_Rm, "canon", "()I"⟩ ∈ lw_tbl := ⟨List.mem_of_getElem? (i := 1641) (by decide +kernel), List.mem_of_getElem? (i := 1642) (by decide +kernel)⟩
set_option maxRecDepth 100000 in
theorem o_Rm_type : c_mok D_Rm_type := ⟨k_Rm_type, List.mem_of_getElem? (i := 1706) rfl, by decide, rfl, Or.inr (Or.inl ⟨rfl, rfl⟩), by decide, by decide, z_Rm, by decide⟩
theorem y_Rm_type : Cond.instanceMethod ⟨R_Rm, "type", "()I"⟩ ∈ lw_tbl ∧ Cond.selects R_Rm ⟨R_Rm, "type", "()I"⟩ ⟨R_Rm, "type", "()I"⟩ ∈ lw_tbl := ⟨List.mem_of_getElem? (i := 1704) (by decide +kernel), List.mem_of_getElem? (i := 1705) (by decide +kernel)⟩
set_option maxRecDepth 100000 in
theorem o_Rm_equal : c_mok D_Rm_equal := ⟨k_Rm_equal, List.mem_of_getElem? (i := 1710) rfl, by decide, rfl, Or.inr (Or.inl ⟨rfl, rfl⟩), by decide, by decide, z_Rm, by decide⟩
theorem y_Rm_equal : Cond.instanceMethod ⟨R_Rm, "equal", "()I"⟩ ∈ lw_tbl ∧ Cond.selects R_Rm ⟨R_Rm, "equal", "()I"⟩ ⟨R_Rm, "equal", "()I"⟩ ∈ lw_tbl := ⟨List.mem_of_getElem? (i := 1708) (by decide +kernel), List.mem_of_getElem? (i := 1709) (by decide +kernel)⟩
set_option maxRecDepth 100000 in
theorem o_Rm_named : c_mok D_Rm_named := ⟨k_Rm_named, List.mem_of_getElem? (i := 1714) rfl, by decide, rfl, Or.inr (Or.inl ⟨rfl, rfl⟩), by decide, by decide, z_Rm, by decide⟩
theorem y_Rm_named : Cond.instanceMethod ⟨R_Rm, "named", "()I"⟩ ∈ lw_tbl ∧ Cond.selects R_Rm ⟨R_Rm, "named", "()I"⟩ ⟨R_Rm, "named", "()I"⟩ ∈ lw_tbl := ⟨List.mem_of_getElem? (i := 1712) (by decide +kernel), List.mem_of_getElem? (i := 1713) (by decide +kernel)⟩
set_option maxRecDepth 100000 in
theorem o_Rm_constant : c_mok D_Rm_constant := ⟨k_Rm_constant, List.mem_of_getElem? (i := 1718) rfl, by decide, rfl, Or.inr (Or.inl ⟨rfl, rfl⟩), by decide, by decide, z_Rm, by decide⟩
theorem y_Rm_constant : Cond.instanceMethod ⟨R_Rm, "constant", "(II)I"⟩ ∈ lw_tbl ∧ Cond.selects R_Rm ⟨R_Rm, "constant", "(II)I"⟩ ⟨R_Rm, "constant", "(II)I"⟩ ∈ lw_tbl := ⟨List.mem_of_getElem? (i := 1716) (by decide +kernel), List.mem_of_getElem? (i := 1717) (by decide +kernel)⟩
set_option maxRecDepth 100000 in
theorem o_Rm_size : c_mok D_Rm_size := ⟨k_Rm_size, List.mem_of_getElem? (i := 1722) rfl, by decide, rfl, Or.inr (Or.inl ⟨rfl, rfl⟩), by decide, by decide, z_Rm, by decide⟩
theorem y_Rm_size : Cond.instanceMethod ⟨R_Rm, "size", "()I"⟩ ∈ lw_tbl ∧ Cond.selects R_Rm ⟨R_Rm, "size", "()I"⟩ ⟨R_Rm, "size", "()I"⟩ ∈ lw_tbl := ⟨List.mem_of_getElem? (i := 1720) (by decide +kernel), List.mem_of_getElem? (i := 1721) (by decide +kernel)⟩
set_option maxRecDepth 100000 in
theorem o_Rm_out : c_mok D_Rm_out := ⟨k_Rm_out, List.mem_of_getElem? (i := 1726) rfl, by decide, rfl, Or.inr (Or.inl ⟨rfl, rfl⟩), by decide, by decide, z_Rm, by decide⟩
theorem y_Rm_out : Cond.instanceMethod ⟨R_Rm, "out", "(I)I"⟩ ∈ lw_tbl ∧ Cond.selects R_Rm ⟨R_Rm, "out", "(I)I"⟩ ⟨R_Rm, "out", "(I)I"⟩ ∈ lw_tbl := ⟨List.mem_of_getElem? (i := 1724) (by decide +kernel), List.mem_of_getElem? (i := 1725) (by decide +kernel)⟩
set_option maxRecDepth 100000 in
theorem o_Rm_forget : c_mok D_Rm_forget := ⟨k_Rm_forget, List.mem_of_getElem? (i := 1730) rfl, by decide, rfl, Or.inr (Or.inl ⟨rfl, rfl⟩), by decide, by decide, z_Rm, by decide⟩
theorem y_Rm_forget : Cond.instanceMethod ⟨R_Rm, "forget", "(I)I"⟩ ∈ lw_tbl ∧ Cond.selects R_Rm ⟨R_Rm, "forget", "(I)I"⟩ ⟨R_Rm, "forget", "(I)I"⟩ ∈ lw_tbl := ⟨List.mem_of_getElem? (i := 1728) (by decide +kernel), List.mem_of_getElem? (i := 1729) (by decide +kernel)⟩
set_option maxRecDepth 100000 in
theorem o_Rm_count : c_mok D_Rm_count := ⟨k_Rm_count, List.mem_of_getElem? (i := 1734) rfl, by decide, rfl, Or.inr (Or.inl ⟨rfl, rfl⟩), by decide, by decide, z_Rm, by decide⟩
theorem y_Rm_count : Cond.instanceMethod ⟨R_Rm, "count", "(I)I"⟩ ∈ lw_tbl ∧ Cond.selects R_Rm ⟨R_Rm, "count", "(I)I"⟩ ⟨R_Rm, "count", "(I)I"⟩ ∈ lw_tbl := ⟨List.mem_of_getElem? (i := 1732) (by decide +kernel), List.mem_of_getElem? (i := 1733) (by decide +kernel)⟩
set_option maxRecDepth 100000 in
theorem o_Ce_mark : c_mok D_Ce_mark := ⟨k_Ce_mark, List.mem_of_getElem? (i := 701) rfl, by decide, rfl, Or.inr (Or.inl ⟨rfl, rfl⟩), by decide, by decide, z_Ce, by decide⟩
theorem y_Ce_mark : Cond.instanceMethod ⟨R_Ce, "mark", "()I"⟩ ∈ lw_tbl ∧ Cond.selects R_Ce ⟨R_Ce, "mark", "()I"⟩ ⟨R_Ce, "mark", "()I"⟩ ∈ lw_tbl := ⟨List.mem_of_getElem? (i := 699) (by decide +kernel), List.mem_of_getElem? (i := 700) (by decide +kernel)⟩
set_option maxRecDepth 100000 in
theorem o_Ce_release : c_mok D_Ce_release := ⟨k_Ce_release, List.mem_of_getElem? (i := 513) rfl, by decide, rfl, Or.inl ⟨rfl, rfl⟩, by decide, by decide, z_Ce, by decide⟩
theorem y_Ce_release : Cond.instanceMethod ⟨R_Ce, "release", "(I)V"⟩ ∈ lw_tbl ∧ Cond.selects R_Ce ⟨R_Ce, "release", "(I)V"⟩ ⟨R_Ce, "release", "(I)V"⟩ ∈ lw_tbl := ⟨List.mem_of_getElem? (i := 511) (by decide +kernel), List.mem_of_getElem? (i := 512) (by decide +kernel)⟩
set_option maxRecDepth 100000 in
theorem o_Ce_make : c_mok D_Ce_make := ⟨k_Ce_make, List.mem_of_getElem? (i := 747) rfl, by decide, rfl, Or.inr (Or.inl ⟨rfl, rfl⟩), by decide, by decide, z_Ce, by decide⟩
theorem y_Ce_make : Cond.instanceMethod ⟨R_Ce, "make", "(II)I"⟩ ∈ lw_tbl ∧ Cond.selects R_Ce ⟨R_Ce, "make", "(II)I"⟩ ⟨R_Ce, "make", "(II)I"⟩ ∈ lw_tbl := ⟨List.mem_of_getElem? (i := 745) (by decide +kernel), List.mem_of_getElem? (i := 746) (by decide +kernel)⟩
set_option maxRecDepth 100000 in
theorem o_Ce_term : c_mok D_Ce_term := ⟨k_Ce_term, List.mem_of_getElem? (i := 818) rfl, by decide, rfl, Or.inr (Or.inl ⟨rfl, rfl⟩), by decide, by decide, z_Ce, by decide⟩
theorem y_Ce_term : Cond.instanceMethod ⟨R_Ce, "term", "(I)I"⟩ ∈ lw_tbl ∧ Cond.selects R_Ce ⟨R_Ce, "term", "(I)I"⟩ ⟨R_Ce, "term", "(I)I"⟩ ∈ lw_tbl := ⟨List.mem_of_getElem? (i := 816) (by decide +kernel), List.mem_of_getElem? (i := 817) (by decide +kernel)⟩
set_option maxRecDepth 100000 in
theorem o_Ce_scope : c_mok D_Ce_scope := ⟨k_Ce_scope, List.mem_of_getElem? (i := 822) rfl, by decide, rfl, Or.inr (Or.inl ⟨rfl, rfl⟩), by decide, by decide, z_Ce, by decide⟩
theorem y_Ce_scope : Cond.instanceMethod ⟨R_Ce, "scope", "(I)I"⟩ ∈ lw_tbl ∧ Cond.selects R_Ce ⟨R_Ce, "scope", "(I)I"⟩ ⟨R_Ce, "scope", "(I)I"⟩ ∈ lw_tbl := ⟨List.mem_of_getElem? (i := 820) (by decide +kernel), List.mem_of_getElem? (i := 821) (by decide +kernel)⟩
set_option maxRecDepth 100000 in
theorem o_Ce_next : c_mok D_Ce_next := ⟨k_Ce_next, List.mem_of_getElem? (i := 814) rfl, by decide, rfl, Or.inr (Or.inl ⟨rfl, rfl⟩), by decide, by decide, z_Ce, by decide⟩
theorem y_Ce_next : Cond.instanceMethod ⟨R_Ce, "next", "(I)I"⟩ ∈ lw_tbl ∧ Cond.selects R_Ce ⟨R_Ce, "next", "(I)I"⟩ ⟨R_Ce, "next", "(I)I"⟩ ∈ lw_tbl := ⟨List.mem_of_getElem? (i := 812) (by decide +kernel), List.mem_of_getElem? (i := 813) (by decide +kernel)⟩
set_option maxRecDepth 100000 in
theorem o_Ce_binder : c_mok D_Ce_binder := ⟨k_Ce_binder, List.mem_of_getElem? (i := 850) rfl, by decide, rfl, Or.inr (Or.inl ⟨rfl, rfl⟩), by decide, by decide, z_Ce, by decide⟩
theorem y_Ce_binder : Cond.instanceMethod ⟨R_Ce, "binder", "(I)I"⟩ ∈ lw_tbl ∧ Cond.selects R_Ce ⟨R_Ce, "binder", "(I)I"⟩ ⟨R_Ce, "binder", "(I)I"⟩ ∈ lw_tbl := ⟨List.mem_of_getElem? (i := 848) (by decide +kernel), List.mem_of_getElem? (i := 849) (by decide +kernel)⟩
set_option maxRecDepth 100000 in
theorem o_Ce_link : c_mok D_Ce_link := ⟨k_Ce_link, List.mem_of_getElem? (i := 752) rfl, by decide, rfl, Or.inl ⟨rfl, rfl⟩, by decide, by decide, z_Ce, by decide⟩
theorem y_Ce_link : Cond.instanceMethod ⟨R_Ce, "link", "(II)V"⟩ ∈ lw_tbl ∧ Cond.selects R_Ce ⟨R_Ce, "link", "(II)V"⟩ ⟨R_Ce, "link", "(II)V"⟩ ∈ lw_tbl := ⟨List.mem_of_getElem? (i := 750) (by decide +kernel), List.mem_of_getElem? (i := 751) (by decide +kernel)⟩
set_option maxRecDepth 100000 in
theorem o_Ce_bind : c_mok D_Ce_bind := ⟨k_Ce_bind, List.mem_of_getElem? (i := 760) rfl, by decide, rfl, Or.inr (Or.inl ⟨rfl, rfl⟩), by decide, by decide, z_Ce, by decide⟩
theorem y_Ce_bind : Cond.instanceMethod ⟨R_Ce, "bind", "(III)I"⟩ ∈ lw_tbl ∧ Cond.selects R_Ce ⟨R_Ce, "bind", "(III)I"⟩ ⟨R_Ce, "bind", "(III)I"⟩ ∈ lw_tbl := ⟨List.mem_of_getElem? (i := 758) (by decide +kernel), List.mem_of_getElem? (i := 759) (by decide +kernel)⟩
set_option maxRecDepth 100000 in
theorem o_Ce_newVariable : c_mok D_Ce_newVariable := ⟨k_Ce_newVariable, List.mem_of_getElem? (i := 743) rfl, by decide, rfl, Or.inr (Or.inl ⟨rfl, rfl⟩), by decide, by decide, z_Ce, by decide⟩
theorem y_Ce_newVariable : Cond.instanceMethod ⟨R_Ce, "newVariable", "(III)I"⟩ ∈ lw_tbl ∧ Cond.selects R_Ce ⟨R_Ce, "newVariable", "(III)I"⟩ ⟨R_Ce, "newVariable", "(III)I"⟩ ∈ lw_tbl := ⟨List.mem_of_getElem? (i := 741) (by decide +kernel), List.mem_of_getElem? (i := 742) (by decide +kernel)⟩
set_option maxRecDepth 100000 in
theorem o_Ce_numberOf : c_mok D_Ce_numberOf := ⟨k_Ce_numberOf, List.mem_of_getElem? (i := 1077) rfl, by decide, rfl, Or.inr (Or.inl ⟨rfl, rfl⟩), by decide, by decide, z_Ce, by decide⟩
theorem y_Ce_numberOf : Cond.instanceMethod ⟨R_Ce, "numberOf", "(I)I"⟩ ∈ lw_tbl ∧ Cond.selects R_Ce ⟨R_Ce, "numberOf", "(I)I"⟩ ⟨R_Ce, "numberOf", "(I)I"⟩ ∈ lw_tbl := ⟨List.mem_of_getElem? (i := 1075) (by decide +kernel), List.mem_of_getElem? (i := 1076) (by decide +kernel)⟩
set_option maxRecDepth 100000 in
theorem o_Ce_enter : c_mok D_Ce_enter := ⟨k_Ce_enter, List.mem_of_getElem? (i := 756) rfl, by decide, rfl, Or.inr (Or.inl ⟨rfl, rfl⟩), by decide, by decide, z_Ce, by decide⟩
theorem y_Ce_enter : Cond.instanceMethod ⟨R_Ce, "enter", "(III)I"⟩ ∈ lw_tbl ∧ Cond.selects R_Ce ⟨R_Ce, "enter", "(III)I"⟩ ⟨R_Ce, "enter", "(III)I"⟩ ∈ lw_tbl := ⟨List.mem_of_getElem? (i := 754) (by decide +kernel), List.mem_of_getElem? (i := 755) (by decide +kernel)⟩
set_option maxRecDepth 100000 in
theorem o_Ce_append : c_mok D_Ce_append := ⟨k_Ce_append, List.mem_of_getElem? (i := 912) rfl, by decide, rfl, Or.inr (Or.inl ⟨rfl, rfl⟩), by decide, by decide, z_Ce, by decide⟩
theorem y_Ce_append : Cond.instanceMethod ⟨R_Ce, "append", "(II)I"⟩ ∈ lw_tbl ∧ Cond.selects R_Ce ⟨R_Ce, "append", "(II)I"⟩ ⟨R_Ce, "append", "(II)I"⟩ ∈ lw_tbl := ⟨List.mem_of_getElem? (i := 910) (by decide +kernel), List.mem_of_getElem? (i := 911) (by decide +kernel)⟩
set_option maxRecDepth 100000 in
theorem o_Ce_outward : c_mok D_Ce_outward := ⟨k_Ce_outward, List.mem_of_getElem? (i := 810) rfl, by decide, rfl, Or.inr (Or.inl ⟨rfl, rfl⟩), by decide, by decide, z_Ce, by decide⟩
theorem y_Ce_outward : Cond.instanceMethod ⟨R_Ce, "outward", "(II)I"⟩ ∈ lw_tbl ∧ Cond.selects R_Ce ⟨R_Ce, "outward", "(II)I"⟩ ⟨R_Ce, "outward", "(II)I"⟩ ∈ lw_tbl := ⟨List.mem_of_getElem? (i := 808) (by decide +kernel), List.mem_of_getElem? (i := 809) (by decide +kernel)⟩
set_option maxRecDepth 100000 in
theorem o_Ck_sort : c_mok D_Ck_sort := ⟨k_Ck_sort, List.mem_of_getElem? (i := 962) rfl, by decide, rfl, Or.inr (Or.inl ⟨rfl, rfl⟩), by decide, by decide, z_Ck, by decide⟩
theorem y_Ck_sort : Cond.instanceMethod ⟨R_Ck, "sort", "()I"⟩ ∈ lw_tbl ∧ Cond.selects R_Ck ⟨R_Ck, "sort", "()I"⟩ ⟨R_Ck, "sort", "()I"⟩ ∈ lw_tbl := ⟨List.mem_of_getElem? (i := 960) (by decide +kernel), List.mem_of_getElem? (i := 961) (by decide +kernel)⟩
set_option maxRecDepth 100000 in
theorem o_Ck_faultOfDeclaration : c_mok D_Ck_faultOfDeclaration := ⟨k_Ck_faultOfDeclaration, List.mem_of_getElem? (i := 693) rfl, by decide, rfl, Or.inr (Or.inl ⟨rfl, rfl⟩), by decide, by decide, z_Ck, by decide⟩
theorem y_Ck_faultOfDeclaration : Cond.instanceMethod ⟨R_Ck, "faultOfDeclaration", "(II)I"⟩ ∈ lw_tbl ∧ Cond.selects R_Ck ⟨R_Ck, "faultOfDeclaration", "(II)I"⟩ ⟨R_Ck, "faultOfDeclaration", "(II)I"⟩ ∈ lw_tbl := ⟨List.mem_of_getElem? (i := 691) (by decide +kernel), List.mem_of_getElem? (i := 692) (by decide +kernel)⟩
set_option maxRecDepth 100000 in
theorem o_Ck_faultOfObject : c_mok D_Ck_faultOfObject := ⟨k_Ck_faultOfObject, List.mem_of_getElem? (i := 994) rfl, by decide, rfl, Or.inr (Or.inl ⟨rfl, rfl⟩), by decide, by decide, z_Ck, by decide⟩
theorem y_Ck_faultOfObject : Cond.instanceMethod ⟨R_Ck, "faultOfObject", "(I)I"⟩ ∈ lw_tbl ∧ Cond.selects R_Ck ⟨R_Ck, "faultOfObject", "(I)I"⟩ ⟨R_Ck, "faultOfObject", "(I)I"⟩ ∈ lw_tbl := ⟨List.mem_of_getElem? (i := 992) (by decide +kernel), List.mem_of_getElem? (i := 993) (by decide +kernel)⟩
set_option maxRecDepth 100000 in
theorem o_Ck_wrong : c_mok D_Ck_wrong := ⟨k_Ck_wrong, List.mem_of_getElem? (i := 730) rfl, by decide, rfl, Or.inl ⟨rfl, rfl⟩, by decide, by decide, z_Ck, by decide⟩
theorem y_Ck_wrong : Cond.instanceMethod ⟨R_Ck, "wrong", "(II)V"⟩ ∈ lw_tbl ∧ Cond.selects R_Ck ⟨R_Ck, "wrong", "(II)V"⟩ ⟨R_Ck, "wrong", "(II)V"⟩ ∈ lw_tbl := ⟨List.mem_of_getElem? (i := 729) (by decide +kernel), List.mem_of_getElem? (i := 20) (by decide +kernel)⟩
set_option maxRecDepth 100000 in
theorem o_Ck_step : c_mok D_Ck_step := ⟨k_Ck_step, List.mem_of_getElem? (i := 713) rfl, by decide, rfl, Or.inr (Or.inr ⟨rfl, rfl⟩), by decide, by decide, z_Ck, by decide⟩
theorem y_Ck_step : Cond.instanceMethod ⟨R_Ck, "step", "(I)Z"⟩ ∈ lw_tbl ∧ Cond.selects R_Ck ⟨R_Ck, "step", "(I)Z"⟩ ⟨R_Ck, "step", "(I)Z"⟩ ∈ lw_tbl := ⟨List.mem_of_getElem? (i := 712) (by decide +kernel), List.mem_of_getElem? (i := 19) (by decide +kernel)⟩
set_option maxRecDepth 100000 in
theorem o_Ck_classifier : c_mok D_Ck_classifier := ⟨k_Ck_classifier, List.mem_of_getElem? (i := 697) rfl, by decide, rfl, Or.inr (Or.inr ⟨rfl, rfl⟩), by decide, by decide, z_Ck, by decide⟩
theorem y_Ck_classifier : Cond.instanceMethod ⟨R_Ck, "classifier", "(IIZ)Z"⟩ ∈ lw_tbl ∧ Cond.selects R_Ck ⟨R_Ck, "classifier", "(IIZ)Z"⟩ ⟨R_Ck, "classifier", "(IIZ)Z"⟩ ∈ lw_tbl := ⟨List.mem_of_getElem? (i := 696) (by decide +kernel), List.mem_of_getElem? (i := 18) (by decide +kernel)⟩
set_option maxRecDepth 100000 in
theorem o_Ck_under : c_mok D_Ck_under := ⟨k_Ck_under, List.mem_of_getElem? (i := 739) rfl, by decide, rfl, Or.inr (Or.inl ⟨rfl, rfl⟩), by decide, by decide, z_Ck, by decide⟩
theorem y_Ck_under : Cond.instanceMethod ⟨R_Ck, "under", "(II)I"⟩ ∈ lw_tbl ∧ Cond.selects R_Ck ⟨R_Ck, "under", "(II)I"⟩ ⟨R_Ck, "under", "(II)I"⟩ ∈ lw_tbl := ⟨List.mem_of_getElem? (i := 738) (by decide +kernel), List.mem_of_getElem? (i := 21) (by decide +kernel)⟩
set_option maxRecDepth 100000 in
theorem o_Ck_family : c_mok D_Ck_family := ⟨k_Ck_family, List.mem_of_getElem? (i := 768) rfl, by decide, rfl, Or.inl ⟨rfl, rfl⟩, by decide, by decide, z_Ck, by decide⟩
theorem y_Ck_family : Cond.instanceMethod ⟨R_Ck, "family", "(II)V"⟩ ∈ lw_tbl ∧ Cond.selects R_Ck ⟨R_Ck, "family", "(II)V"⟩ ⟨R_Ck, "family", "(II)V"⟩ ∈ lw_tbl := ⟨List.mem_of_getElem? (i := 767) (by decide +kernel), List.mem_of_getElem? (i := 22) (by decide +kernel)⟩
set_option maxRecDepth 100000 in
theorem o_Ck_isFamilyName : c_mok D_Ck_isFamilyName := ⟨k_Ck_isFamilyName, List.mem_of_getElem? (i := 782) rfl, by decide, rfl, Or.inr (Or.inr ⟨rfl, rfl⟩), by decide, by decide, z_Ck, by decide⟩
theorem y_Ck_isFamilyName : Cond.instanceMethod ⟨R_Ck, "isFamilyName", "(I)Z"⟩ ∈ lw_tbl ∧ Cond.selects R_Ck ⟨R_Ck, "isFamilyName", "(I)Z"⟩ ⟨R_Ck, "isFamilyName", "(I)Z"⟩ ∈ lw_tbl := ⟨List.mem_of_getElem? (i := 781) (by decide +kernel), List.mem_of_getElem? (i := 23) (by decide +kernel)⟩
set_option maxRecDepth 100000 in
theorem o_Ck_objectsOfFamily : c_mok D_Ck_objectsOfFamily := ⟨k_Ck_objectsOfFamily, List.mem_of_getElem? (i := 795) rfl, by decide, rfl, Or.inl ⟨rfl, rfl⟩, by decide, by decide, z_Ck, by decide⟩
theorem y_Ck_objectsOfFamily : Cond.instanceMethod ⟨R_Ck, "objectsOfFamily", "(III)V"⟩ ∈ lw_tbl ∧ Cond.selects R_Ck ⟨R_Ck, "objectsOfFamily", "(III)V"⟩ ⟨R_Ck, "objectsOfFamily", "(III)V"⟩ ∈ lw_tbl := ⟨List.mem_of_getElem? (i := 794) (by decide +kernel), List.mem_of_getElem? (i := 24) (by decide +kernel)⟩
set_option maxRecDepth 100000 in
theorem o_Ck_fitting : c_mok D_Ck_fitting := ⟨k_Ck_fitting, List.mem_of_getElem? (i := 832) rfl, by decide, rfl, Or.inl ⟨rfl, rfl⟩, by decide, by decide, z_Ck, by decide⟩
theorem y_Ck_fitting : Cond.instanceMethod ⟨R_Ck, "fitting", "(IIII)V"⟩ ∈ lw_tbl ∧ Cond.selects R_Ck ⟨R_Ck, "fitting", "(IIII)V"⟩ ⟨R_Ck, "fitting", "(IIII)V"⟩ ∈ lw_tbl := ⟨List.mem_of_getElem? (i := 831) (by decide +kernel), List.mem_of_getElem? (i := 25) (by decide +kernel)⟩
set_option maxRecDepth 100000 in
theorem o_Ck_object : c_mok D_Ck_object := ⟨k_Ck_object, List.mem_of_getElem? (i := 836) rfl, by decide, rfl, Or.inl ⟨rfl, rfl⟩, by decide, by decide, z_Ck, by decide⟩
theorem y_Ck_object : Cond.instanceMethod ⟨R_Ck, "object", "(II)V"⟩ ∈ lw_tbl ∧ Cond.selects R_Ck ⟨R_Ck, "object", "(II)V"⟩ ⟨R_Ck, "object", "(II)V"⟩ ∈ lw_tbl := ⟨List.mem_of_getElem? (i := 835) (by decide +kernel), List.mem_of_getElem? (i := 26) (by decide +kernel)⟩
set_option maxRecDepth 100000 in
theorem o_Ck_bareObject : c_mok D_Ck_bareObject := ⟨k_Ck_bareObject, List.mem_of_getElem? (i := 874) rfl, by decide, rfl, Or.inl ⟨rfl, rfl⟩, by decide, by decide, z_Ck, by decide⟩
theorem y_Ck_bareObject : Cond.instanceMethod ⟨R_Ck, "bareObject", "(I)V"⟩ ∈ lw_tbl ∧ Cond.selects R_Ck ⟨R_Ck, "bareObject", "(I)V"⟩ ⟨R_Ck, "bareObject", "(I)V"⟩ ∈ lw_tbl := ⟨List.mem_of_getElem? (i := 873) (by decide +kernel), List.mem_of_getElem? (i := 28) (by decide +kernel)⟩
set_option maxRecDepth 100000 in
theorem o_Ck_applied : c_mok D_Ck_applied := ⟨k_Ck_applied, List.mem_of_getElem? (i := 840) rfl, by decide, rfl, Or.inl ⟨rfl, rfl⟩, by decide, by decide, z_Ck, by decide⟩
theorem y_Ck_applied : Cond.instanceMethod ⟨R_Ck, "applied", "(II)V"⟩ ∈ lw_tbl ∧ Cond.selects R_Ck ⟨R_Ck, "applied", "(II)V"⟩ ⟨R_Ck, "applied", "(II)V"⟩ ∈ lw_tbl := ⟨List.mem_of_getElem? (i := 839) (by decide +kernel), List.mem_of_getElem? (i := 27) (by decide +kernel)⟩
set_option maxRecDepth 100000 in
theorem o_Co_number : c_mok D_Co_number := ⟨k_Co_number, List.mem_of_getElem? (i := 1130) rfl, by decide, rfl, Or.inr (Or.inl ⟨rfl, rfl⟩), by decide, by decide, z_Co, by decide⟩
theorem y_Co_number : Cond.instanceMethod ⟨R_Co, "number", "()I"⟩ ∈ lw_tbl ∧ Cond.selects R_Co ⟨R_Co, "number", "()I"⟩ ⟨R_Co, "number", "()I"⟩ ∈ lw_tbl := ⟨List.mem_of_getElem? (i := 1128) (by decide +kernel), List.mem_of_getElem? (i := 1129) (by decide +kernel)⟩
set_option maxRecDepth 100000 in
theorem o_Co_full : c_mok D_Co_full := ⟨k_Co_full, List.mem_of_getElem? (i := 601) rfl, by decide, rfl, Or.inr (Or.inr ⟨rfl, rfl⟩), by decide, by decide, z_Co, by decide⟩
theorem y_Co_full : Cond.instanceMethod ⟨R_Co, "full", "()Z"⟩ ∈ lw_tbl ∧ Cond.selects R_Co ⟨R_Co, "full", "()Z"⟩ ⟨R_Co, "full", "()Z"⟩ ∈ lw_tbl := ⟨List.mem_of_getElem? (i := 599) (by decide +kernel), List.mem_of_getElem? (i := 600) (by decide +kernel)⟩
set_option maxRecDepth 100000 in
theorem o_Co_sort : c_mok D_Co_sort := ⟨k_Co_sort, List.mem_of_getElem? (i := 786) rfl, by decide, rfl, Or.inr (Or.inl ⟨rfl, rfl⟩), by decide, by decide, z_Co, by decide⟩
theorem y_Co_sort : Cond.instanceMethod ⟨R_Co, "sort", "(I)I"⟩ ∈ lw_tbl ∧ Cond.selects R_Co ⟨R_Co, "sort", "(I)I"⟩ ⟨R_Co, "sort", "(I)I"⟩ ∈ lw_tbl := ⟨List.mem_of_getElem? (i := 784) (by decide +kernel), List.mem_of_getElem? (i := 785) (by decide +kernel)⟩
set_option maxRecDepth 100000 in
theorem o_Co_typeRoot : c_mok D_Co_typeRoot := ⟨k_Co_typeRoot, List.mem_of_getElem? (i := 799) rfl, by decide, rfl, Or.inr (Or.inl ⟨rfl, rfl⟩), by decide, by decide, z_Co, by decide⟩
theorem y_Co_typeRoot : Cond.instanceMethod ⟨R_Co, "typeRoot", "(I)I"⟩ ∈ lw_tbl ∧ Cond.selects R_Co ⟨R_Co, "typeRoot", "(I)I"⟩ ⟨R_Co, "typeRoot", "(I)I"⟩ ∈ lw_tbl := ⟨List.mem_of_getElem? (i := 797) (by decide +kernel), List.mem_of_getElem? (i := 798) (by decide +kernel)⟩
set_option maxRecDepth 100000 in
theorem o_Co_bodyRoot : c_mok D_Co_bodyRoot := ⟨k_Co_bodyRoot, List.mem_of_getElem? (i := 928) rfl, by decide, rfl, Or.inr (Or.inl ⟨rfl, rfl⟩), by decide, by decide, z_Co, by decide⟩
theorem y_Co_bodyRoot : Cond.instanceMethod ⟨R_Co, "bodyRoot", "(I)I"⟩ ∈ lw_tbl ∧ Cond.selects R_Co ⟨R_Co, "bodyRoot", "(I)I"⟩ ⟨R_Co, "bodyRoot", "(I)I"⟩ ∈ lw_tbl := ⟨List.mem_of_getElem? (i := 926) (by decide +kernel), List.mem_of_getElem? (i := 927) (by decide +kernel)⟩
set_option maxRecDepth 100000 in
theorem o_Co_wanted : c_mok D_Co_wanted := ⟨k_Co_wanted, List.mem_of_getElem? (i := 1135) rfl, by decide, rfl, Or.inr (Or.inl ⟨rfl, rfl⟩), by decide, by decide, z_Co, by decide⟩
theorem y_Co_wanted : Cond.instanceMethod ⟨R_Co, "wanted", "(I)I"⟩ ∈ lw_tbl ∧ Cond.selects R_Co ⟨R_Co, "wanted", "(I)I"⟩ ⟨R_Co, "wanted", "(I)I"⟩ ∈ lw_tbl := ⟨List.mem_of_getElem? (i := 1133) (by decide +kernel), List.mem_of_getElem? (i := 1134) (by decide +kernel)⟩
set_option maxRecDepth 100000 in
theorem o_Co_nameLength : c_mok D_Co_nameLength := ⟨k_Co_nameLength, List.mem_of_getElem? (i := 588) rfl, by decide, rfl, Or.inr (Or.inl ⟨rfl, rfl⟩), by decide, by decide, z_Co, by decide⟩
theorem y_Co_nameLength : Cond.instanceMethod ⟨R_Co, "nameLength", "(I)I"⟩ ∈ lw_tbl ∧ Cond.selects R_Co ⟨R_Co, "nameLength", "(I)I"⟩ ⟨R_Co, "nameLength", "(I)I"⟩ ∈ lw_tbl := ⟨List.mem_of_getElem? (i := 586) (by decide +kernel), List.mem_of_getElem? (i := 587) (by decide +kernel)⟩
set_option maxRecDepth 100000 in
theorem o_Co_nameSign : c_mok D_Co_nameSign := ⟨k_Co_nameSign, List.mem_of_getElem? (i := 596) rfl, by decide, rfl, Or.inr (Or.inl ⟨rfl, rfl⟩), by decide, by decide, z_Co, by decide⟩
theorem y_Co_nameSign : Cond.instanceMethod ⟨R_Co, "nameSign", "(II)I"⟩ ∈ lw_tbl ∧ Cond.selects R_Co ⟨R_Co, "nameSign", "(II)I"⟩ ⟨R_Co, "nameSign", "(II)I"⟩ ∈ lw_tbl := ⟨List.mem_of_getElem? (i := 594) (by decide +kernel), List.mem_of_getElem? (i := 595) (by decide +kernel)⟩
set_option maxRecDepth 100000 in
theorem o_Co_name : c_mok D_Co_name := ⟨k_Co_name, List.mem_of_getElem? (i := 958) rfl, by decide, rfl, Or.inl ⟨rfl, rfl⟩, by decide, by decide, z_Co, by decide⟩
theorem y_Co_name : Cond.instanceMethod ⟨R_Co, "name", "(LFrameBench$Tape;II)V"⟩ ∈ lw_tbl ∧ Cond.selects R_Co ⟨R_Co, "name", "(LFrameBench$Tape;II)V"⟩ ⟨R_Co, "name", "(LFrameBench$Tape;II)V"⟩ ∈ lw_tbl := ⟨List.mem_of_getElem? (i := 956) (by decide +kernel), List.mem_of_getElem? (i := 957) (by decide +kernel)⟩
set_option maxRecDepth 100000 in
theorem o_Co_add : c_mok D_Co_add := ⟨k_Co_add, List.mem_of_getElem? (i := 966) rfl, by decide, rfl, Or.inl ⟨rfl, rfl⟩, by decide, by decide, z_Co, by decide⟩
theorem y_Co_add : Cond.instanceMethod ⟨R_Co, "add", "(IIII)V"⟩ ∈ lw_tbl ∧ Cond.selects R_Co ⟨R_Co, "add", "(IIII)V"⟩ ⟨R_Co, "add", "(IIII)V"⟩ ∈ lw_tbl := ⟨List.mem_of_getElem? (i := 964) (by decide +kernel), List.mem_of_getElem? (i := 965) (by decide +kernel)⟩
set_option maxRecDepth 100000 in
theorem o_Co_drop : c_mok D_Co_drop := ⟨k_Co_drop, List.mem_of_getElem? (i := 1162) rfl, by decide, rfl, Or.inl ⟨rfl, rfl⟩, by decide, by decide, z_Co, by decide⟩
theorem y_Co_drop : Cond.instanceMethod ⟨R_Co, "drop", "(I)V"⟩ ∈ lw_tbl ∧ Cond.selects R_Co ⟨R_Co, "drop", "(I)V"⟩ ⟨R_Co, "drop", "(I)V"⟩ ∈ lw_tbl := ⟨List.mem_of_getElem? (i := 1160) (by decide +kernel), List.mem_of_getElem? (i := 1161) (by decide +kernel)⟩
set_option maxRecDepth 100000 in
theorem o_Co_find : c_mok D_Co_find := ⟨k_Co_find, List.mem_of_getElem? (i := 584) rfl, by decide, rfl, Or.inr (Or.inl ⟨rfl, rfl⟩), by decide, by decide, z_Co, by decide⟩
theorem y_Co_find : Cond.instanceMethod ⟨R_Co, "find", "(LFrameBench$Tape;II)I"⟩ ∈ lw_tbl ∧ Cond.selects R_Co ⟨R_Co, "find", "(LFrameBench$Tape;II)I"⟩ ⟨R_Co, "find", "(LFrameBench$Tape;II)I"⟩ ∈ lw_tbl := ⟨List.mem_of_getElem? (i := 582) (by decide +kernel), List.mem_of_getElem? (i := 583) (by decide +kernel)⟩
set_option maxRecDepth 100000 in
theorem o_Co_isNamed : c_mok D_Co_isNamed := ⟨k_Co_isNamed, List.mem_of_getElem? (i := 592) rfl, by decide, rfl, Or.inr (Or.inr ⟨rfl, rfl⟩), by decide, by decide, z_Co, by decide⟩
theorem y_Co_isNamed : Cond.instanceMethod ⟨R_Co, "isNamed", "(ILFrameBench$Tape;I)Z"⟩ ∈ lw_tbl ∧ Cond.selects R_Co ⟨R_Co, "isNamed", "(ILFrameBench$Tape;I)Z"⟩ ⟨R_Co, "isNamed", "(ILFrameBench$Tape;I)Z"⟩ ∈ lw_tbl := ⟨List.mem_of_getElem? (i := 591) (by decide +kernel), List.mem_of_getElem? (i := 4) (by decide +kernel)⟩
set_option maxRecDepth 100000 in
theorem o_Co_fewestXs : c_mok D_Co_fewestXs := ⟨k_Co_fewestXs, List.mem_of_getElem? (i := 1002) rfl, by decide, rfl, Or.inr (Or.inl ⟨rfl, rfl⟩), by decide, by decide, z_Co, by decide⟩
theorem y_Co_fewestXs : Cond.instanceMethod ⟨R_Co, "fewestXs", "()I"⟩ ∈ lw_tbl ∧ Cond.selects R_Co ⟨R_Co, "fewestXs", "()I"⟩ ⟨R_Co, "fewestXs", "()I"⟩ ∈ lw_tbl := ⟨List.mem_of_getElem? (i := 1000) (by decide +kernel), List.mem_of_getElem? (i := 1001) (by decide +kernel)⟩
set_option maxRecDepth 100000 in
theorem o_Co_anyIsXsAndNumber : c_mok D_Co_anyIsXsAndNumber := ⟨k_Co_anyIsXsAndNumber, List.mem_of_getElem? (i := 1006) rfl, by decide, rfl, Or.inr (Or.inr ⟨rfl, rfl⟩), by decide, by decide, z_Co, by decide⟩
theorem y_Co_anyIsXsAndNumber : Cond.instanceMethod ⟨R_Co, "anyIsXsAndNumber", "(I)Z"⟩ ∈ lw_tbl ∧ Cond.selects R_Co ⟨R_Co, "anyIsXsAndNumber", "(I)Z"⟩ ⟨R_Co, "anyIsXsAndNumber", "(I)Z"⟩ ∈ lw_tbl := ⟨List.mem_of_getElem? (i := 1005) (by decide +kernel), List.mem_of_getElem? (i := 35) (by decide +kernel)⟩
set_option maxRecDepth 100000 in
theorem o_Co_isXsAndNumber : c_mok D_Co_isXsAndNumber := ⟨k_Co_isXsAndNumber, List.mem_of_getElem? (i := 1010) rfl, by decide, rfl, Or.inr (Or.inr ⟨rfl, rfl⟩), by decide, by decide, z_Co, by decide⟩
theorem y_Co_isXsAndNumber : Cond.instanceMethod ⟨R_Co, "isXsAndNumber", "(II)Z"⟩ ∈ lw_tbl ∧ Cond.selects R_Co ⟨R_Co, "isXsAndNumber", "(II)Z"⟩ ⟨R_Co, "isXsAndNumber", "(II)Z"⟩ ∈ lw_tbl := ⟨List.mem_of_getElem? (i := 1009) (by decide +kernel), List.mem_of_getElem? (i := 36) (by decide +kernel)⟩
set_option maxRecDepth 100000 in
theorem o_Ju_sameObjects : c_mok D_Ju_sameObjects := ⟨k_Ju_sameObjects, List.mem_of_getElem? (i := 1111) rfl, by decide, rfl, Or.inr (Or.inr ⟨rfl, rfl⟩), by decide, by decide, z_Ju, by decide⟩
theorem y_Ju_sameObjects : Cond.instanceMethod ⟨R_Ju, "sameObjects", "(II)Z"⟩ ∈ lw_tbl ∧ Cond.selects R_Ju ⟨R_Ju, "sameObjects", "(II)Z"⟩ ⟨R_Ju, "sameObjects", "(II)Z"⟩ ∈ lw_tbl := ⟨List.mem_of_getElem? (i := 1109) (by decide +kernel), List.mem_of_getElem? (i := 1110) (by decide +kernel)⟩
set_option maxRecDepth 100000 in
theorem o_Ju_families : c_mok D_Ju_families := ⟨k_Ju_families, List.mem_of_getElem? (i := 879) rfl, by decide, rfl, Or.inr (Or.inr ⟨rfl, rfl⟩), by decide, by decide, z_Ju, by decide⟩
theorem y_Ju_families : Cond.instanceMethod ⟨R_Ju, "families", "(IIIII)Z"⟩ ∈ lw_tbl ∧ Cond.selects R_Ju ⟨R_Ju, "families", "(IIIII)Z"⟩ ⟨R_Ju, "families", "(IIIII)Z"⟩ ∈ lw_tbl := ⟨List.mem_of_getElem? (i := 878) (by decide +kernel), List.mem_of_getElem? (i := 29) (by decide +kernel)⟩
set_option maxRecDepth 100000 in
theorem o_Ju_rows : c_mok D_Ju_rows := ⟨k_Ju_rows, List.mem_of_getElem? (i := 902) rfl, by decide, rfl, Or.inr (Or.inr ⟨rfl, rfl⟩), by decide, by decide, z_Ju, by decide⟩
theorem y_Ju_rows : Cond.instanceMethod ⟨R_Ju, "rows", "(IIII)Z"⟩ ∈ lw_tbl ∧ Cond.selects R_Ju ⟨R_Ju, "rows", "(IIII)Z"⟩ ⟨R_Ju, "rows", "(IIII)Z"⟩ ∈ lw_tbl := ⟨List.mem_of_getElem? (i := 901) (by decide +kernel), List.mem_of_getElem? (i := 30) (by decide +kernel)⟩
set_option maxRecDepth 100000 in
theorem o_Ju_meet : c_mok D_Ju_meet := ⟨k_Ju_meet, List.mem_of_getElem? (i := 908) rfl, by decide, rfl, Or.inr (Or.inr ⟨rfl, rfl⟩), by decide, by decide, z_Ju, by decide⟩
theorem y_Ju_meet : Cond.instanceMethod ⟨R_Ju, "meet", "(IIII)Z"⟩ ∈ lw_tbl ∧ Cond.selects R_Ju ⟨R_Ju, "meet", "(IIII)Z"⟩ ⟨R_Ju, "meet", "(IIII)Z"⟩ ∈ lw_tbl := ⟨List.mem_of_getElem? (i := 907) (by decide +kernel), List.mem_of_getElem? (i := 31) (by decide +kernel)⟩
set_option maxRecDepth 100000 in
theorem o_Ju_sameLength : c_mok D_Ju_sameLength := ⟨k_Ju_sameLength, List.mem_of_getElem? (i := 945) rfl, by decide, rfl, Or.inr (Or.inr ⟨rfl, rfl⟩), by decide, by decide, z_Ju, by decide⟩
theorem y_Ju_sameLength : Cond.instanceMethod ⟨R_Ju, "sameLength", "(II)Z"⟩ ∈ lw_tbl ∧ Cond.selects R_Ju ⟨R_Ju, "sameLength", "(II)Z"⟩ ⟨R_Ju, "sameLength", "(II)Z"⟩ ∈ lw_tbl := ⟨List.mem_of_getElem? (i := 944) (by decide +kernel), List.mem_of_getElem? (i := 33) (by decide +kernel)⟩
set_option maxRecDepth 100000 in
theorem o_Ma_shape : c_mok D_Ma_shape := ⟨k_Ma_shape, List.mem_of_getElem? (i := 862) rfl, by decide, rfl, Or.inr (Or.inl ⟨rfl, rfl⟩), by decide, by decide, z_Ma, by decide⟩
theorem y_Ma_shape : Cond.instanceMethod ⟨R_Ma, "shape", "()I"⟩ ∈ lw_tbl ∧ Cond.selects R_Ma ⟨R_Ma, "shape", "()I"⟩ ⟨R_Ma, "shape", "()I"⟩ ∈ lw_tbl := ⟨List.mem_of_getElem? (i := 860) (by decide +kernel), List.mem_of_getElem? (i := 861) (by decide +kernel)⟩
set_option maxRecDepth 100000 in
theorem o_Ma_shapeScope : c_mok D_Ma_shapeScope := ⟨k_Ma_shapeScope, List.mem_of_getElem? (i := 866) rfl, by decide, rfl, Or.inr (Or.inl ⟨rfl, rfl⟩), by decide, by decide, z_Ma, by decide⟩
theorem y_Ma_shapeScope : Cond.instanceMethod ⟨R_Ma, "shapeScope", "()I"⟩ ∈ lw_tbl ∧ Cond.selects R_Ma ⟨R_Ma, "shapeScope", "()I"⟩ ⟨R_Ma, "shapeScope", "()I"⟩ ∈ lw_tbl := ⟨List.mem_of_getElem? (i := 864) (by decide +kernel), List.mem_of_getElem? (i := 865) (by decide +kernel)⟩
set_option maxRecDepth 100000 in
theorem o_Ma_head : c_mok D_Ma_head := ⟨k_Ma_head, List.mem_of_getElem? (i := 933) rfl, by decide, rfl, Or.inr (Or.inl ⟨rfl, rfl⟩), by decide, by decide, z_Ma, by decide⟩
theorem y_Ma_head : Cond.instanceMethod ⟨R_Ma, "head", "()I"⟩ ∈ lw_tbl ∧ Cond.selects R_Ma ⟨R_Ma, "head", "()I"⟩ ⟨R_Ma, "head", "()I"⟩ ∈ lw_tbl := ⟨List.mem_of_getElem? (i := 931) (by decide +kernel), List.mem_of_getElem? (i := 932) (by decide +kernel)⟩
set_option maxRecDepth 100000 in
theorem o_Ma_row : c_mok D_Ma_row := ⟨k_Ma_row, List.mem_of_getElem? (i := 937) rfl, by decide, rfl, Or.inr (Or.inl ⟨rfl, rfl⟩), by decide, by decide, z_Ma, by decide⟩
theorem y_Ma_row : Cond.instanceMethod ⟨R_Ma, "row", "()I"⟩ ∈ lw_tbl ∧ Cond.selects R_Ma ⟨R_Ma, "row", "()I"⟩ ⟨R_Ma, "row", "()I"⟩ ∈ lw_tbl := ⟨List.mem_of_getElem? (i := 935) (by decide +kernel), List.mem_of_getElem? (i := 936) (by decide +kernel)⟩
set_option maxRecDepth 100000 in
theorem o_Ma_headType : c_mok D_Ma_headType := ⟨k_Ma_headType, List.mem_of_getElem? (i := 941) rfl, by decide, rfl, Or.inr (Or.inl ⟨rfl, rfl⟩), by decide, by decide, z_Ma, by decide⟩
theorem y_Ma_headType : Cond.instanceMethod ⟨R_Ma, "headType", "()I"⟩ ∈ lw_tbl ∧ Cond.selects R_Ma ⟨R_Ma, "headType", "()I"⟩ ⟨R_Ma, "headType", "()I"⟩ ∈ lw_tbl := ⟨List.mem_of_getElem? (i := 939) (by decide +kernel), List.mem_of_getElem? (i := 940) (by decide +kernel)⟩
set_option maxRecDepth 100000 in
theorem o_Ma_headTypeScope : c_mok D_Ma_headTypeScope := ⟨k_Ma_headTypeScope, List.mem_of_getElem? (i := 1082) rfl, by decide, rfl, Or.inr (Or.inl ⟨rfl, rfl⟩), by decide, by decide, z_Ma, by decide⟩
theorem y_Ma_headTypeScope : Cond.instanceMethod ⟨R_Ma, "headTypeScope", "()I"⟩ ∈ lw_tbl ∧ Cond.selects R_Ma ⟨R_Ma, "headTypeScope", "()I"⟩ ⟨R_Ma, "headTypeScope", "()I"⟩ ∈ lw_tbl := ⟨List.mem_of_getElem? (i := 1080) (by decide +kernel), List.mem_of_getElem? (i := 1081) (by decide +kernel)⟩
set_option maxRecDepth 100000 in
theorem o_Ma_push : c_mok D_Ma_push := ⟨k_Ma_push, List.mem_of_getElem? (i := 803) rfl, by decide, rfl, Or.inr (Or.inl ⟨rfl, rfl⟩), by decide, by decide, z_Ma, by decide⟩
theorem y_Ma_push : Cond.instanceMethod ⟨R_Ma, "push", "(III)I"⟩ ∈ lw_tbl ∧ Cond.selects R_Ma ⟨R_Ma, "push", "(III)I"⟩ ⟨R_Ma, "push", "(III)I"⟩ ∈ lw_tbl := ⟨List.mem_of_getElem? (i := 801) (by decide +kernel), List.mem_of_getElem? (i := 802) (by decide +kernel)⟩
set_option maxRecDepth 100000 in
theorem o_Ma_expose : c_mok D_Ma_expose := ⟨k_Ma_expose, List.mem_of_getElem? (i := 844) rfl, by decide, rfl, Or.inl ⟨rfl, rfl⟩, by decide, by decide, z_Ma, by decide⟩
theorem y_Ma_expose : Cond.instanceMethod ⟨R_Ma, "expose", "(II)V"⟩ ∈ lw_tbl ∧ Cond.selects R_Ma ⟨R_Ma, "expose", "(II)V"⟩ ⟨R_Ma, "expose", "(II)V"⟩ ∈ lw_tbl := ⟨List.mem_of_getElem? (i := 842) (by decide +kernel), List.mem_of_getElem? (i := 843) (by decide +kernel)⟩
set_option maxRecDepth 100000 in
theorem o_Ma_headForm : c_mok D_Ma_headForm := ⟨k_Ma_headForm, List.mem_of_getElem? (i := 918) rfl, by decide, rfl, Or.inr (Or.inr ⟨rfl, rfl⟩), by decide, by decide, z_Ma, by decide⟩
theorem y_Ma_headForm : Cond.instanceMethod ⟨R_Ma, "headForm", "(III)Z"⟩ ∈ lw_tbl ∧ Cond.selects R_Ma ⟨R_Ma, "headForm", "(III)Z"⟩ ⟨R_Ma, "headForm", "(III)Z"⟩ ∈ lw_tbl := ⟨List.mem_of_getElem? (i := 916) (by decide +kernel), List.mem_of_getElem? (i := 917) (by decide +kernel)⟩
set_option maxRecDepth 100000 in
theorem o_Ma_isDefinition : c_mok D_Ma_isDefinition := ⟨k_Ma_isDefinition, List.mem_of_getElem? (i := 923) rfl, by decide, rfl, Or.inr (Or.inr ⟨rfl, rfl⟩), by decide, by decide, z_Ma, by decide⟩
theorem y_Ma_isDefinition : Cond.instanceMethod ⟨R_Ma, "isDefinition", "(I)Z"⟩ ∈ lw_tbl ∧ Cond.selects R_Ma ⟨R_Ma, "isDefinition", "(I)Z"⟩ ⟨R_Ma, "isDefinition", "(I)Z"⟩ ∈ lw_tbl := ⟨List.mem_of_getElem? (i := 922) (by decide +kernel), List.mem_of_getElem? (i := 32) (by decide +kernel)⟩
set_option maxRecDepth 100000 in
theorem o_Me_begin : c_mok D_Me_begin := ⟨k_Me_begin, List.mem_of_getElem? (i := 509) rfl, by decide, rfl, Or.inl ⟨rfl, rfl⟩, by decide, by decide, z_Me, by decide⟩
theorem y_Me_begin : Cond.instanceMethod ⟨R_Me, "begin", "()V"⟩ ∈ lw_tbl ∧ Cond.selects R_Me ⟨R_Me, "begin", "()V"⟩ ⟨R_Me, "begin", "()V"⟩ ∈ lw_tbl := ⟨List.mem_of_getElem? (i := 507) (by decide +kernel), List.mem_of_getElem? (i := 508) (by decide +kernel)⟩
set_option maxRecDepth 100000 in
theorem o_Me_stepsInAll : c_mok D_Me_stepsInAll := ⟨k_Me_stepsInAll, List.mem_of_getElem? (i := 1171) rfl, by decide, rfl, Or.inr (Or.inl ⟨rfl, rfl⟩), by decide, by decide, z_Me, by decide⟩
theorem y_Me_stepsInAll : Cond.instanceMethod ⟨R_Me, "stepsInAll", "()I"⟩ ∈ lw_tbl ∧ Cond.selects R_Me ⟨R_Me, "stepsInAll", "()I"⟩ ⟨R_Me, "stepsInAll", "()I"⟩ ∈ lw_tbl := ⟨List.mem_of_getElem? (i := 1169) (by decide +kernel), List.mem_of_getElem? (i := 1170) (by decide +kernel)⟩
set_option maxRecDepth 100000 in
theorem o_Me_stepsOfLatest : c_mok D_Me_stepsOfLatest := ⟨k_Me_stepsOfLatest, List.mem_of_getElem? (i := 1175) rfl, by decide, rfl, Or.inr (Or.inl ⟨rfl, rfl⟩), by decide, by decide, z_Me, by decide⟩
theorem y_Me_stepsOfLatest : Cond.instanceMethod ⟨R_Me, "stepsOfLatest", "()I"⟩ ∈ lw_tbl ∧ Cond.selects R_Me ⟨R_Me, "stepsOfLatest", "()I"⟩ ⟨R_Me, "stepsOfLatest", "()I"⟩ ∈ lw_tbl := ⟨List.mem_of_getElem? (i := 1173) (by decide +kernel), List.mem_of_getElem? (i := 1174) (by decide +kernel)⟩
set_option maxRecDepth 100000 in
theorem o_Me_trouble : c_mok D_Me_trouble := ⟨k_Me_trouble, List.mem_of_getElem? (i := 726) rfl, by decide, rfl, Or.inr (Or.inl ⟨rfl, rfl⟩), by decide, by decide, z_Me, by decide⟩
theorem y_Me_trouble : Cond.instanceMethod ⟨R_Me, "trouble", "()I"⟩ ∈ lw_tbl ∧ Cond.selects R_Me ⟨R_Me, "trouble", "()I"⟩ ⟨R_Me, "trouble", "()I"⟩ ∈ lw_tbl := ⟨List.mem_of_getElem? (i := 724) (by decide +kernel), List.mem_of_getElem? (i := 725) (by decide +kernel)⟩
set_option maxRecDepth 100000 in
theorem o_Me_stop : c_mok D_Me_stop := ⟨k_Me_stop, List.mem_of_getElem? (i := 722) rfl, by decide, rfl, Or.inl ⟨rfl, rfl⟩, by decide, by decide, z_Me, by decide⟩
theorem y_Me_stop : Cond.instanceMethod ⟨R_Me, "stop", "(I)V"⟩ ∈ lw_tbl ∧ Cond.selects R_Me ⟨R_Me, "stop", "(I)V"⟩ ⟨R_Me, "stop", "(I)V"⟩ ∈ lw_tbl := ⟨List.mem_of_getElem? (i := 720) (by decide +kernel), List.mem_of_getElem? (i := 721) (by decide +kernel)⟩
set_option maxRecDepth 100000 in
theorem o_Me_step : c_mok D_Me_step := ⟨k_Me_step, List.mem_of_getElem? (i := 717) rfl, by decide, rfl, Or.inr (Or.inr ⟨rfl, rfl⟩), by decide, by decide, z_Me, by decide⟩
theorem y_Me_step : Cond.instanceMethod ⟨R_Me, "step", "()Z"⟩ ∈ lw_tbl ∧ Cond.selects R_Me ⟨R_Me, "step", "()Z"⟩ ⟨R_Me, "step", "()Z"⟩ ∈ lw_tbl := ⟨List.mem_of_getElem? (i := 715) (by decide +kernel), List.mem_of_getElem? (i := 716) (by decide +kernel)⟩
set_option maxRecDepth 100000 in
theorem o_Me_question : c_mok D_Me_question := ⟨k_Me_question, List.mem_of_getElem? (i := 883) rfl, by decide, rfl, Or.inr (Or.inr ⟨rfl, rfl⟩), by decide, by decide, z_Me, by decide⟩
theorem y_Me_question : Cond.instanceMethod ⟨R_Me, "question", "(I)Z"⟩ ∈ lw_tbl ∧ Cond.selects R_Me ⟨R_Me, "question", "(I)Z"⟩ ⟨R_Me, "question", "(I)Z"⟩ ∈ lw_tbl := ⟨List.mem_of_getElem? (i := 881) (by decide +kernel), List.mem_of_getElem? (i := 882) (by decide +kernel)⟩
set_option maxRecDepth 100000 in
theorem o_No_mark : c_mok D_No_mark := ⟨k_No_mark, List.mem_of_getElem? (i := 553) rfl, by decide, rfl, Or.inr (Or.inl ⟨rfl, rfl⟩), by decide, by decide, z_No, by decide⟩
theorem y_No_mark : Cond.instanceMethod ⟨R_No, "mark", "()I"⟩ ∈ lw_tbl ∧ Cond.selects R_No ⟨R_No, "mark", "()I"⟩ ⟨R_No, "mark", "()I"⟩ ∈ lw_tbl := ⟨List.mem_of_getElem? (i := 551) (by decide +kernel), List.mem_of_getElem? (i := 552) (by decide +kernel)⟩
set_option maxRecDepth 100000 in
theorem o_No_release : c_mok D_No_release := ⟨k_No_release, List.mem_of_getElem? (i := 970) rfl, by decide, rfl, Or.inl ⟨rfl, rfl⟩, by decide, by decide, z_No, by decide⟩
theorem y_No_release : Cond.instanceMethod ⟨R_No, "release", "(I)V"⟩ ∈ lw_tbl ∧ Cond.selects R_No ⟨R_No, "release", "(I)V"⟩ ⟨R_No, "release", "(I)V"⟩ ∈ lw_tbl := ⟨List.mem_of_getElem? (i := 968) (by decide +kernel), List.mem_of_getElem? (i := 969) (by decide +kernel)⟩
set_option maxRecDepth 100000 in
theorem o_No_full : c_mok D_No_full := ⟨k_No_full, List.mem_of_getElem? (i := 642) rfl, by decide, rfl, Or.inr (Or.inr ⟨rfl, rfl⟩), by decide, by decide, z_No, by decide⟩
theorem y_No_full : Cond.instanceMethod ⟨R_No, "full", "()Z"⟩ ∈ lw_tbl ∧ Cond.selects R_No ⟨R_No, "full", "()Z"⟩ ⟨R_No, "full", "()Z"⟩ ∈ lw_tbl := ⟨List.mem_of_getElem? (i := 640) (by decide +kernel), List.mem_of_getElem? (i := 641) (by decide +kernel)⟩
set_option maxRecDepth 100000 in
theorem o_No_make : c_mok D_No_make := ⟨k_No_make, List.mem_of_getElem? (i := 646) rfl, by decide, rfl, Or.inr (Or.inl ⟨rfl, rfl⟩), by decide, by decide, z_No, by decide⟩
theorem y_No_make : Cond.instanceMethod ⟨R_No, "make", "(IIIII)I"⟩ ∈ lw_tbl ∧ Cond.selects R_No ⟨R_No, "make", "(IIIII)I"⟩ ⟨R_No, "make", "(IIIII)I"⟩ ∈ lw_tbl := ⟨List.mem_of_getElem? (i := 644) (by decide +kernel), List.mem_of_getElem? (i := 645) (by decide +kernel)⟩
set_option maxRecDepth 100000 in
theorem o_No_kind : c_mok D_No_kind := ⟨k_No_kind, List.mem_of_getElem? (i := 705) rfl, by decide, rfl, Or.inr (Or.inl ⟨rfl, rfl⟩), by decide, by decide, z_No, by decide⟩
theorem y_No_kind : Cond.instanceMethod ⟨R_No, "kind", "(I)I"⟩ ∈ lw_tbl ∧ Cond.selects R_No ⟨R_No, "kind", "(I)I"⟩ ⟨R_No, "kind", "(I)I"⟩ ∈ lw_tbl := ⟨List.mem_of_getElem? (i := 703) (by decide +kernel), List.mem_of_getElem? (i := 704) (by decide +kernel)⟩
set_option maxRecDepth 100000 in
theorem o_No_left : c_mok D_No_left := ⟨k_No_left, List.mem_of_getElem? (i := 735) rfl, by decide, rfl, Or.inr (Or.inl ⟨rfl, rfl⟩), by decide, by decide, z_No, by decide⟩
theorem y_No_left : Cond.instanceMethod ⟨R_No, "left", "(I)I"⟩ ∈ lw_tbl ∧ Cond.selects R_No ⟨R_No, "left", "(I)I"⟩ ⟨R_No, "left", "(I)I"⟩ ∈ lw_tbl := ⟨List.mem_of_getElem? (i := 733) (by decide +kernel), List.mem_of_getElem? (i := 734) (by decide +kernel)⟩
set_option maxRecDepth 100000 in
theorem o_No_right : c_mok D_No_right := ⟨k_No_right, List.mem_of_getElem? (i := 764) rfl, by decide, rfl, Or.inr (Or.inl ⟨rfl, rfl⟩), by decide, by decide, z_No, by decide⟩
theorem y_No_right : Cond.instanceMethod ⟨R_No, "right", "(I)I"⟩ ∈ lw_tbl ∧ Cond.selects R_No ⟨R_No, "right", "(I)I"⟩ ⟨R_No, "right", "(I)I"⟩ ∈ lw_tbl := ⟨List.mem_of_getElem? (i := 762) (by decide +kernel), List.mem_of_getElem? (i := 763) (by decide +kernel)⟩
set_option maxRecDepth 100000 in
theorem o_No_sibling : c_mok D_No_sibling := ⟨k_No_sibling, List.mem_of_getElem? (i := 828) rfl, by decide, rfl, Or.inr (Or.inl ⟨rfl, rfl⟩), by decide, by decide, z_No, by decide⟩
theorem y_No_sibling : Cond.instanceMethod ⟨R_No, "sibling", "(I)I"⟩ ∈ lw_tbl ∧ Cond.selects R_No ⟨R_No, "sibling", "(I)I"⟩ ⟨R_No, "sibling", "(I)I"⟩ ∈ lw_tbl := ⟨List.mem_of_getElem? (i := 826) (by decide +kernel), List.mem_of_getElem? (i := 827) (by decide +kernel)⟩
set_option maxRecDepth 100000 in
theorem o_No_token : c_mok D_No_token := ⟨k_No_token, List.mem_of_getElem? (i := 709) rfl, by decide, rfl, Or.inr (Or.inl ⟨rfl, rfl⟩), by decide, by decide, z_No, by decide⟩
theorem y_No_token : Cond.instanceMethod ⟨R_No, "token", "(I)I"⟩ ∈ lw_tbl ∧ Cond.selects R_No ⟨R_No, "token", "(I)I"⟩ ⟨R_No, "token", "(I)I"⟩ ∈ lw_tbl := ⟨List.mem_of_getElem? (i := 707) (by decide +kernel), List.mem_of_getElem? (i := 708) (by decide +kernel)⟩
set_option maxRecDepth 100000 in
theorem o_No_first : c_mok D_No_first := ⟨k_No_first, List.mem_of_getElem? (i := 777) rfl, by decide, rfl, Or.inr (Or.inl ⟨rfl, rfl⟩), by decide, by decide, z_No, by decide⟩
theorem y_No_first : Cond.instanceMethod ⟨R_No, "first", "(I)I"⟩ ∈ lw_tbl ∧ Cond.selects R_No ⟨R_No, "first", "(I)I"⟩ ⟨R_No, "first", "(I)I"⟩ ∈ lw_tbl := ⟨List.mem_of_getElem? (i := 775) (by decide +kernel), List.mem_of_getElem? (i := 776) (by decide +kernel)⟩
set_option maxRecDepth 100000 in
theorem o_No_place : c_mok D_No_place := ⟨k_No_place, List.mem_of_getElem? (i := 681) rfl, by decide, rfl, Or.inr (Or.inl ⟨rfl, rfl⟩), by decide, by decide, z_No, by decide⟩
theorem y_No_place : Cond.instanceMethod ⟨R_No, "place", "(I)I"⟩ ∈ lw_tbl ∧ Cond.selects R_No ⟨R_No, "place", "(I)I"⟩ ⟨R_No, "place", "(I)I"⟩ ∈ lw_tbl := ⟨List.mem_of_getElem? (i := 679) (by decide +kernel), List.mem_of_getElem? (i := 680) (by decide +kernel)⟩
set_option maxRecDepth 100000 in
theorem o_No_inBrackets : c_mok D_No_inBrackets := ⟨k_No_inBrackets, List.mem_of_getElem? (i := 772) rfl, by decide, rfl, Or.inr (Or.inr ⟨rfl, rfl⟩), by decide, by decide, z_No, by decide⟩
theorem y_No_inBrackets : Cond.instanceMethod ⟨R_No, "inBrackets", "(I)Z"⟩ ∈ lw_tbl ∧ Cond.selects R_No ⟨R_No, "inBrackets", "(I)Z"⟩ ⟨R_No, "inBrackets", "(I)Z"⟩ ∈ lw_tbl := ⟨List.mem_of_getElem? (i := 770) (by decide +kernel), List.mem_of_getElem? (i := 771) (by decide +kernel)⟩
set_option maxRecDepth 100000 in
theorem o_No_isArrow : c_mok D_No_isArrow := ⟨k_No_isArrow, List.mem_of_getElem? (i := 856) rfl, by decide, rfl, Or.inr (Or.inr ⟨rfl, rfl⟩), by decide, by decide, z_No, by decide⟩
theorem y_No_isArrow : Cond.instanceMethod ⟨R_No, "isArrow", "(I)Z"⟩ ∈ lw_tbl ∧ Cond.selects R_No ⟨R_No, "isArrow", "(I)Z"⟩ ⟨R_No, "isArrow", "(I)Z"⟩ ∈ lw_tbl := ⟨List.mem_of_getElem? (i := 854) (by decide +kernel), List.mem_of_getElem? (i := 855) (by decide +kernel)⟩
set_option maxRecDepth 100000 in
theorem o_No_setPlace : c_mok D_No_setPlace := ⟨k_No_setPlace, List.mem_of_getElem? (i := 662) rfl, by decide, rfl, Or.inl ⟨rfl, rfl⟩, by decide, by decide, z_No, by decide⟩
theorem y_No_setPlace : Cond.instanceMethod ⟨R_No, "setPlace", "(II)V"⟩ ∈ lw_tbl ∧ Cond.selects R_No ⟨R_No, "setPlace", "(II)V"⟩ ⟨R_No, "setPlace", "(II)V"⟩ ∈ lw_tbl := ⟨List.mem_of_getElem? (i := 660) (by decide +kernel), List.mem_of_getElem? (i := 661) (by decide +kernel)⟩
set_option maxRecDepth 100000 in
theorem o_No_setSibling : c_mok D_No_setSibling := ⟨k_No_setSibling, List.mem_of_getElem? (i := 677) rfl, by decide, rfl, Or.inl ⟨rfl, rfl⟩, by decide, by decide, z_No, by decide⟩
theorem y_No_setSibling : Cond.instanceMethod ⟨R_No, "setSibling", "(II)V"⟩ ∈ lw_tbl ∧ Cond.selects R_No ⟨R_No, "setSibling", "(II)V"⟩ ⟨R_No, "setSibling", "(II)V"⟩ ∈ lw_tbl := ⟨List.mem_of_getElem? (i := 675) (by decide +kernel), List.mem_of_getElem? (i := 676) (by decide +kernel)⟩
set_option maxRecDepth 100000 in
theorem o_No_becomeFamily : c_mok D_No_becomeFamily := ⟨k_No_becomeFamily, List.mem_of_getElem? (i := 791) rfl, by decide, rfl, Or.inl ⟨rfl, rfl⟩, by decide, by decide, z_No, by decide⟩
theorem y_No_becomeFamily : Cond.instanceMethod ⟨R_No, "becomeFamily", "(II)V"⟩ ∈ lw_tbl ∧ Cond.selects R_No ⟨R_No, "becomeFamily", "(II)V"⟩ ⟨R_No, "becomeFamily", "(II)V"⟩ ∈ lw_tbl := ⟨List.mem_of_getElem? (i := 789) (by decide +kernel), List.mem_of_getElem? (i := 790) (by decide +kernel)⟩
set_option maxRecDepth 100000 in
theorem o_Pa_length : c_mok D_Pa_length := ⟨k_Pa_length, List.mem_of_getElem? (i := 1146) rfl, by decide, rfl, Or.inr (Or.inl ⟨rfl, rfl⟩), by decide, by decide, z_Pa, by decide⟩
theorem y_Pa_length : Cond.instanceMethod ⟨R_Pa, "length", "()I"⟩ ∈ lw_tbl ∧ Cond.selects R_Pa ⟨R_Pa, "length", "()I"⟩ ⟨R_Pa, "length", "()I"⟩ ∈ lw_tbl := ⟨List.mem_of_getElem? (i := 1144) (by decide +kernel), List.mem_of_getElem? (i := 1145) (by decide +kernel)⟩
set_option maxRecDepth 100000 in
theorem o_Pa_signAt : c_mok D_Pa_signAt := ⟨k_Pa_signAt, List.mem_of_getElem? (i := 1154) rfl, by decide, rfl, Or.inr (Or.inl ⟨rfl, rfl⟩), by decide, by decide, z_Pa, by decide⟩
theorem y_Pa_signAt : Cond.instanceMethod ⟨R_Pa, "signAt", "(I)I"⟩ ∈ lw_tbl ∧ Cond.selects R_Pa ⟨R_Pa, "signAt", "(I)I"⟩ ⟨R_Pa, "signAt", "(I)I"⟩ ∈ lw_tbl := ⟨List.mem_of_getElem? (i := 1152) (by decide +kernel), List.mem_of_getElem? (i := 1153) (by decide +kernel)⟩
set_option maxRecDepth 100000 in
theorem o_Pa_beginDraft : c_mok D_Pa_beginDraft := ⟨k_Pa_beginDraft, List.mem_of_getElem? (i := 1015) rfl, by decide, rfl, Or.inl ⟨rfl, rfl⟩, by decide, by decide, z_Pa, by decide⟩
theorem y_Pa_beginDraft : Cond.instanceMethod ⟨R_Pa, "beginDraft", "()V"⟩ ∈ lw_tbl ∧ Cond.selects R_Pa ⟨R_Pa, "beginDraft", "()V"⟩ ⟨R_Pa, "beginDraft", "()V"⟩ ∈ lw_tbl := ⟨List.mem_of_getElem? (i := 1013) (by decide +kernel), List.mem_of_getElem? (i := 1014) (by decide +kernel)⟩
set_option maxRecDepth 100000 in
theorem o_Pa_put : c_mok D_Pa_put := ⟨k_Pa_put, List.mem_of_getElem? (i := 1028) rfl, by decide, rfl, Or.inl ⟨rfl, rfl⟩, by decide, by decide, z_Pa, by decide⟩
theorem y_Pa_put : Cond.instanceMethod ⟨R_Pa, "put", "(I)V"⟩ ∈ lw_tbl ∧ Cond.selects R_Pa ⟨R_Pa, "put", "(I)V"⟩ ⟨R_Pa, "put", "(I)V"⟩ ∈ lw_tbl := ⟨List.mem_of_getElem? (i := 1026) (by decide +kernel), List.mem_of_getElem? (i := 1027) (by decide +kernel)⟩
set_option maxRecDepth 100000 in
theorem o_Pa_keepDraft : c_mok D_Pa_keepDraft := ⟨k_Pa_keepDraft, List.mem_of_getElem? (i := 1088) rfl, by decide, rfl, Or.inl ⟨rfl, rfl⟩, by decide, by decide, z_Pa, by decide⟩
theorem y_Pa_keepDraft : Cond.instanceMethod ⟨R_Pa, "keepDraft", "()V"⟩ ∈ lw_tbl ∧ Cond.selects R_Pa ⟨R_Pa, "keepDraft", "()V"⟩ ⟨R_Pa, "keepDraft", "()V"⟩ ∈ lw_tbl := ⟨List.mem_of_getElem? (i := 1086) (by decide +kernel), List.mem_of_getElem? (i := 1087) (by decide +kernel)⟩
set_option maxRecDepth 100000 in
theorem o_Re_begin : c_mok D_Re_begin := ⟨k_Re_begin, List.mem_of_getElem? (i := 517) rfl, by decide, rfl, Or.inl ⟨rfl, rfl⟩, by decide, by decide, z_Re, by decide⟩
theorem y_Re_begin : Cond.instanceMethod ⟨R_Re, "begin", "()V"⟩ ∈ lw_tbl ∧ Cond.selects R_Re ⟨R_Re, "begin", "()V"⟩ ⟨R_Re, "begin", "()V"⟩ ∈ lw_tbl := ⟨List.mem_of_getElem? (i := 515) (by decide +kernel), List.mem_of_getElem? (i := 516) (by decide +kernel)⟩
set_option maxRecDepth 100000 in
theorem o_Re_fault : c_mok D_Re_fault := ⟨k_Re_fault, List.mem_of_getElem? (i := 990) rfl, by decide, rfl, Or.inr (Or.inl ⟨rfl, rfl⟩), by decide, by decide, z_Re, by decide⟩
theorem y_Re_fault : Cond.instanceMethod ⟨R_Re, "fault", "()I"⟩ ∈ lw_tbl ∧ Cond.selects R_Re ⟨R_Re, "fault", "()I"⟩ ⟨R_Re, "fault", "()I"⟩ ∈ lw_tbl := ⟨List.mem_of_getElem? (i := 988) (by decide +kernel), List.mem_of_getElem? (i := 989) (by decide +kernel)⟩
set_option maxRecDepth 100000 in
theorem o_Re_namePlace : c_mok D_Re_namePlace := ⟨k_Re_namePlace, List.mem_of_getElem? (i := 950) rfl, by decide, rfl, Or.inr (Or.inl ⟨rfl, rfl⟩), by decide, by decide, z_Re, by decide⟩
theorem y_Re_namePlace : Cond.instanceMethod ⟨R_Re, "namePlace", "()I"⟩ ∈ lw_tbl ∧ Cond.selects R_Re ⟨R_Re, "namePlace", "()I"⟩ ⟨R_Re, "namePlace", "()I"⟩ ∈ lw_tbl := ⟨List.mem_of_getElem? (i := 948) (by decide +kernel), List.mem_of_getElem? (i := 949) (by decide +kernel)⟩
set_option maxRecDepth 100000 in
theorem o_Re_nameLength : c_mok D_Re_nameLength := ⟨k_Re_nameLength, List.mem_of_getElem? (i := 954) rfl, by decide, rfl, Or.inr (Or.inl ⟨rfl, rfl⟩), by decide, by decide, z_Re, by decide⟩
theorem y_Re_nameLength : Cond.instanceMethod ⟨R_Re, "nameLength", "()I"⟩ ∈ lw_tbl ∧ Cond.selects R_Re ⟨R_Re, "nameLength", "()I"⟩ ⟨R_Re, "nameLength", "()I"⟩ ∈ lw_tbl := ⟨List.mem_of_getElem? (i := 952) (by decide +kernel), List.mem_of_getElem? (i := 953) (by decide +kernel)⟩
set_option maxRecDepth 100000 in
theorem o_Re_typeRoot : c_mok D_Re_typeRoot := ⟨k_Re_typeRoot, List.mem_of_getElem? (i := 685) rfl, by decide, rfl, Or.inr (Or.inl ⟨rfl, rfl⟩), by decide, by decide, z_Re, by decide⟩
theorem y_Re_typeRoot : Cond.instanceMethod ⟨R_Re, "typeRoot", "()I"⟩ ∈ lw_tbl ∧ Cond.selects R_Re ⟨R_Re, "typeRoot", "()I"⟩ ⟨R_Re, "typeRoot", "()I"⟩ ∈ lw_tbl := ⟨List.mem_of_getElem? (i := 683) (by decide +kernel), List.mem_of_getElem? (i := 684) (by decide +kernel)⟩
set_option maxRecDepth 100000 in
theorem o_Re_bodyRoot : c_mok D_Re_bodyRoot := ⟨k_Re_bodyRoot, List.mem_of_getElem? (i := 689) rfl, by decide, rfl, Or.inr (Or.inl ⟨rfl, rfl⟩), by decide, by decide, z_Re, by decide⟩
theorem y_Re_bodyRoot : Cond.instanceMethod ⟨R_Re, "bodyRoot", "()I"⟩ ∈ lw_tbl ∧ Cond.selects R_Re ⟨R_Re, "bodyRoot", "()I"⟩ ⟨R_Re, "bodyRoot", "()I"⟩ ∈ lw_tbl := ⟨List.mem_of_getElem? (i := 687) (by decide +kernel), List.mem_of_getElem? (i := 688) (by decide +kernel)⟩
set_option maxRecDepth 100000 in
theorem o_Re_faultOfDeclaration : c_mok D_Re_faultOfDeclaration := ⟨k_Re_faultOfDeclaration, List.mem_of_getElem? (i := 557) rfl, by decide, rfl, Or.inr (Or.inl ⟨rfl, rfl⟩), by decide, by decide, z_Re, by decide⟩
theorem y_Re_faultOfDeclaration : Cond.instanceMethod ⟨R_Re, "faultOfDeclaration", "()I"⟩ ∈ lw_tbl ∧ Cond.selects R_Re ⟨R_Re, "faultOfDeclaration", "()I"⟩ ⟨R_Re, "faultOfDeclaration", "()I"⟩ ∈ lw_tbl := ⟨List.mem_of_getElem? (i := 555) (by decide +kernel), List.mem_of_getElem? (i := 556) (by decide +kernel)⟩
set_option maxRecDepth 100000 in
theorem o_Re_expressionBefore : c_mok D_Re_expressionBefore := ⟨k_Re_expressionBefore, List.mem_of_getElem? (i := 986) rfl, by decide, rfl, Or.inr (Or.inl ⟨rfl, rfl⟩), by decide, by decide, z_Re, by decide⟩
theorem y_Re_expressionBefore : Cond.instanceMethod ⟨R_Re, "expressionBefore", "(I)I"⟩ ∈ lw_tbl ∧ Cond.selects R_Re ⟨R_Re, "expressionBefore", "(I)I"⟩ ⟨R_Re, "expressionBefore", "(I)I"⟩ ∈ lw_tbl := ⟨List.mem_of_getElem? (i := 984) (by decide +kernel), List.mem_of_getElem? (i := 985) (by decide +kernel)⟩
set_option maxRecDepth 100000 in
theorem o_Re_readNewName : c_mok D_Re_readNewName := ⟨k_Re_readNewName, List.mem_of_getElem? (i := 561) rfl, by decide, rfl, Or.inl ⟨rfl, rfl⟩, by decide, by decide, z_Re, by decide⟩
theorem y_Re_readNewName : Cond.instanceMethod ⟨R_Re, "readNewName", "()V"⟩ ∈ lw_tbl ∧ Cond.selects R_Re ⟨R_Re, "readNewName", "()V"⟩ ⟨R_Re, "readNewName", "()V"⟩ ∈ lw_tbl := ⟨List.mem_of_getElem? (i := 560) (by decide +kernel), List.mem_of_getElem? (i := 2) (by decide +kernel)⟩
set_option maxRecDepth 100000 in
theorem o_Re_take : c_mok D_Re_take := ⟨k_Re_take, List.mem_of_getElem? (i := 606) rfl, by decide, rfl, Or.inl ⟨rfl, rfl⟩, by decide, by decide, z_Re, by decide⟩
theorem y_Re_take : Cond.instanceMethod ⟨R_Re, "take", "(I)V"⟩ ∈ lw_tbl ∧ Cond.selects R_Re ⟨R_Re, "take", "(I)V"⟩ ⟨R_Re, "take", "(I)V"⟩ ∈ lw_tbl := ⟨List.mem_of_getElem? (i := 605) (by decide +kernel), List.mem_of_getElem? (i := 5) (by decide +kernel)⟩
set_option maxRecDepth 100000 in
theorem o_Re_refuse : c_mok D_Re_refuse := ⟨k_Re_refuse, List.mem_of_getElem? (i := 577) rfl, by decide, rfl, Or.inr (Or.inl ⟨rfl, rfl⟩), by decide, by decide, z_Re, by decide⟩
theorem y_Re_refuse : Cond.instanceMethod ⟨R_Re, "refuse", "(I)I"⟩ ∈ lw_tbl ∧ Cond.selects R_Re ⟨R_Re, "refuse", "(I)I"⟩ ⟨R_Re, "refuse", "(I)I"⟩ ∈ lw_tbl := ⟨List.mem_of_getElem? (i := 576) (by decide +kernel), List.mem_of_getElem? (i := 3) (by decide +kernel)⟩
set_option maxRecDepth 100000 in
theorem o_Re_wholeExpression : c_mok D_Re_wholeExpression := ⟨k_Re_wholeExpression, List.mem_of_getElem? (i := 610) rfl, by decide, rfl, Or.inr (Or.inl ⟨rfl, rfl⟩), by decide, by decide, z_Re, by decide⟩
theorem y_Re_wholeExpression : Cond.instanceMethod ⟨R_Re, "wholeExpression", "()I"⟩ ∈ lw_tbl ∧ Cond.selects R_Re ⟨R_Re, "wholeExpression", "()I"⟩ ⟨R_Re, "wholeExpression", "()I"⟩ ∈ lw_tbl := ⟨List.mem_of_getElem? (i := 609) (by decide +kernel), List.mem_of_getElem? (i := 6) (by decide +kernel)⟩
set_option maxRecDepth 100000 in
theorem o_Re_expression : c_mok D_Re_expression := ⟨k_Re_expression, List.mem_of_getElem? (i := 614) rfl, by decide, rfl, Or.inr (Or.inl ⟨rfl, rfl⟩), by decide, by decide, z_Re, by decide⟩
theorem y_Re_expression : Cond.instanceMethod ⟨R_Re, "expression", "(I)I"⟩ ∈ lw_tbl ∧ Cond.selects R_Re ⟨R_Re, "expression", "(I)I"⟩ ⟨R_Re, "expression", "(I)I"⟩ ∈ lw_tbl := ⟨List.mem_of_getElem? (i := 613) (by decide +kernel), List.mem_of_getElem? (i := 7) (by decide +kernel)⟩
set_option maxRecDepth 100000 in
theorem o_Re_binding : c_mok D_Re_binding := ⟨k_Re_binding, List.mem_of_getElem? (i := 622) rfl, by decide, rfl, Or.inr (Or.inl ⟨rfl, rfl⟩), by decide, by decide, z_Re, by decide⟩
theorem y_Re_binding : Cond.instanceMethod ⟨R_Re, "binding", "(I)I"⟩ ∈ lw_tbl ∧ Cond.selects R_Re ⟨R_Re, "binding", "(I)I"⟩ ⟨R_Re, "binding", "(I)I"⟩ ∈ lw_tbl := ⟨List.mem_of_getElem? (i := 621) (by decide +kernel), List.mem_of_getElem? (i := 9) (by decide +kernel)⟩
set_option maxRecDepth 100000 in
theorem o_Re_arrow : c_mok D_Re_arrow := ⟨k_Re_arrow, List.mem_of_getElem? (i := 650) rfl, by decide, rfl, Or.inr (Or.inl ⟨rfl, rfl⟩), by decide, by decide, z_Re, by decide⟩
theorem y_Re_arrow : Cond.instanceMethod ⟨R_Re, "arrow", "(I)I"⟩ ∈ lw_tbl ∧ Cond.selects R_Re ⟨R_Re, "arrow", "(I)I"⟩ ⟨R_Re, "arrow", "(I)I"⟩ ∈ lw_tbl := ⟨List.mem_of_getElem? (i := 649) (by decide +kernel), List.mem_of_getElem? (i := 14) (by decide +kernel)⟩
set_option maxRecDepth 100000 in
theorem o_Re_application : c_mok D_Re_application := ⟨k_Re_application, List.mem_of_getElem? (i := 654) rfl, by decide, rfl, Or.inr (Or.inl ⟨rfl, rfl⟩), by decide, by decide, z_Re, by decide⟩
theorem y_Re_application : Cond.instanceMethod ⟨R_Re, "application", "(I)I"⟩ ∈ lw_tbl ∧ Cond.selects R_Re ⟨R_Re, "application", "(I)I"⟩ ⟨R_Re, "application", "(I)I"⟩ ∈ lw_tbl := ⟨List.mem_of_getElem? (i := 653) (by decide +kernel), List.mem_of_getElem? (i := 15) (by decide +kernel)⟩
set_option maxRecDepth 100000 in
theorem o_Re_part : c_mok D_Re_part := ⟨k_Re_part, List.mem_of_getElem? (i := 658) rfl, by decide, rfl, Or.inr (Or.inl ⟨rfl, rfl⟩), by decide, by decide, z_Re, by decide⟩
theorem y_Re_part : Cond.instanceMethod ⟨R_Re, "part", "(I)I"⟩ ∈ lw_tbl ∧ Cond.selects R_Re ⟨R_Re, "part", "(I)I"⟩ ⟨R_Re, "part", "(I)I"⟩ ∈ lw_tbl := ⟨List.mem_of_getElem? (i := 657) (by decide +kernel), List.mem_of_getElem? (i := 16) (by decide +kernel)⟩
set_option maxRecDepth 100000 in
theorem o_Re_startsPart : c_mok D_Re_startsPart := ⟨k_Re_startsPart, List.mem_of_getElem? (i := 618) rfl, by decide, rfl, Or.inr (Or.inr ⟨rfl, rfl⟩), by decide, by decide, z_Re, by decide⟩
theorem y_Re_startsPart : Cond.instanceMethod ⟨R_Re, "startsPart", "()Z"⟩ ∈ lw_tbl ∧ Cond.selects R_Re ⟨R_Re, "startsPart", "()Z"⟩ ⟨R_Re, "startsPart", "()Z"⟩ ∈ lw_tbl := ⟨List.mem_of_getElem? (i := 617) (by decide +kernel), List.mem_of_getElem? (i := 8) (by decide +kernel)⟩
set_option maxRecDepth 100000 in
theorem o_Re_countPart : c_mok D_Re_countPart := ⟨k_Re_countPart, List.mem_of_getElem? (i := 626) rfl, by decide, rfl, Or.inr (Or.inr ⟨rfl, rfl⟩), by decide, by decide, z_Re, by decide⟩
theorem y_Re_countPart : Cond.instanceMethod ⟨R_Re, "countPart", "()Z"⟩ ∈ lw_tbl ∧ Cond.selects R_Re ⟨R_Re, "countPart", "()Z"⟩ ⟨R_Re, "countPart", "()Z"⟩ ∈ lw_tbl := ⟨List.mem_of_getElem? (i := 625) (by decide +kernel), List.mem_of_getElem? (i := 10) (by decide +kernel)⟩
set_option maxRecDepth 100000 in
theorem o_Re_nameNode : c_mok D_Re_nameNode := ⟨k_Re_nameNode, List.mem_of_getElem? (i := 666) rfl, by decide, rfl, Or.inr (Or.inl ⟨rfl, rfl⟩), by decide, by decide, z_Re, by decide⟩
theorem y_Re_nameNode : Cond.instanceMethod ⟨R_Re, "nameNode", "(I)I"⟩ ∈ lw_tbl ∧ Cond.selects R_Re ⟨R_Re, "nameNode", "(I)I"⟩ ⟨R_Re, "nameNode", "(I)I"⟩ ∈ lw_tbl := ⟨List.mem_of_getElem? (i := 665) (by decide +kernel), List.mem_of_getElem? (i := 17) (by decide +kernel)⟩
set_option maxRecDepth 100000 in
theorem o_Re_node : c_mok D_Re_node := ⟨k_Re_node, List.mem_of_getElem? (i := 638) rfl, by decide, rfl, Or.inr (Or.inl ⟨rfl, rfl⟩), by decide, by decide, z_Re, by decide⟩
theorem y_Re_node : Cond.instanceMethod ⟨R_Re, "node", "(IIIII)I"⟩ ∈ lw_tbl ∧ Cond.selects R_Re ⟨R_Re, "node", "(IIIII)I"⟩ ⟨R_Re, "node", "(IIIII)I"⟩ ∈ lw_tbl := ⟨List.mem_of_getElem? (i := 637) (by decide +kernel), List.mem_of_getElem? (i := 13) (by decide +kernel)⟩
set_option maxRecDepth 100000 in
theorem o_Re_enterScope : c_mok D_Re_enterScope := ⟨k_Re_enterScope, List.mem_of_getElem? (i := 630) rfl, by decide, rfl, Or.inl ⟨rfl, rfl⟩, by decide, by decide, z_Re, by decide⟩
theorem y_Re_enterScope : Cond.instanceMethod ⟨R_Re, "enterScope", "(II)V"⟩ ∈ lw_tbl ∧ Cond.selects R_Re ⟨R_Re, "enterScope", "(II)V"⟩ ⟨R_Re, "enterScope", "(II)V"⟩ ∈ lw_tbl := ⟨List.mem_of_getElem? (i := 629) (by decide +kernel), List.mem_of_getElem? (i := 11) (by decide +kernel)⟩
set_option maxRecDepth 100000 in
theorem o_Re_leaveScope : c_mok D_Re_leaveScope := ⟨k_Re_leaveScope, List.mem_of_getElem? (i := 634) rfl, by decide, rfl, Or.inl ⟨rfl, rfl⟩, by decide, by decide, z_Re, by decide⟩
theorem y_Re_leaveScope : Cond.instanceMethod ⟨R_Re, "leaveScope", "()V"⟩ ∈ lw_tbl ∧ Cond.selects R_Re ⟨R_Re, "leaveScope", "()V"⟩ ⟨R_Re, "leaveScope", "()V"⟩ ∈ lw_tbl := ⟨List.mem_of_getElem? (i := 633) (by decide +kernel), List.mem_of_getElem? (i := 12) (by decide +kernel)⟩
set_option maxRecDepth 100000 in
theorem o_Ta_append : c_mok D_Ta_append := ⟨k_Ta_append, List.mem_of_getElem? (i := 492) rfl, by decide, rfl, Or.inl ⟨rfl, rfl⟩, by decide, by decide, z_Ta, by decide⟩
theorem y_Ta_append : Cond.instanceMethod ⟨R_Ta, "append", "(J)V"⟩ ∈ lw_tbl ∧ Cond.selects R_Ta ⟨R_Ta, "append", "(J)V"⟩ ⟨R_Ta, "append", "(J)V"⟩ ∈ lw_tbl := ⟨List.mem_of_getElem? (i := 490) (by decide +kernel), List.mem_of_getElem? (i := 491) (by decide +kernel)⟩
set_option maxRecDepth 100000 in
theorem o_Ta_length : c_mok D_Ta_length := ⟨k_Ta_length, List.mem_of_getElem? (i := 497) rfl, by decide, rfl, Or.inr (Or.inl ⟨rfl, rfl⟩), by decide, by decide, z_Ta, by decide⟩
theorem y_Ta_length : Cond.instanceMethod ⟨R_Ta, "length", "()I"⟩ ∈ lw_tbl ∧ Cond.selects R_Ta ⟨R_Ta, "length", "()I"⟩ ⟨R_Ta, "length", "()I"⟩ ∈ lw_tbl := ⟨List.mem_of_getElem? (i := 495) (by decide +kernel), List.mem_of_getElem? (i := 496) (by decide +kernel)⟩
set_option maxRecDepth 100000 in
theorem o_Ta_empty : c_mok D_Ta_empty := ⟨k_Ta_empty, List.mem_of_getElem? (i := 974) rfl, by decide, rfl, Or.inl ⟨rfl, rfl⟩, by decide, by decide, z_Ta, by decide⟩
theorem y_Ta_empty : Cond.instanceMethod ⟨R_Ta, "empty", "()V"⟩ ∈ lw_tbl ∧ Cond.selects R_Ta ⟨R_Ta, "empty", "()V"⟩ ⟨R_Ta, "empty", "()V"⟩ ∈ lw_tbl := ⟨List.mem_of_getElem? (i := 972) (by decide +kernel), List.mem_of_getElem? (i := 973) (by decide +kernel)⟩
set_option maxRecDepth 100000 in
theorem o_Ta_signAt : c_mok D_Ta_signAt := ⟨k_Ta_signAt, List.mem_of_getElem? (i := 529) rfl, by decide, rfl, Or.inr (Or.inl ⟨rfl, rfl⟩), by decide, by decide, z_Ta, by decide⟩
theorem y_Ta_signAt : Cond.instanceMethod ⟨R_Ta, "signAt", "(I)I"⟩ ∈ lw_tbl ∧ Cond.selects R_Ta ⟨R_Ta, "signAt", "(I)I"⟩ ⟨R_Ta, "signAt", "(I)I"⟩ ∈ lw_tbl := ⟨List.mem_of_getElem? (i := 527) (by decide +kernel), List.mem_of_getElem? (i := 528) (by decide +kernel)⟩
set_option maxRecDepth 100000 in
theorem o_Ta_token : c_mok D_Ta_token := ⟨k_Ta_token, List.mem_of_getElem? (i := 573) rfl, by decide, rfl, Or.inr (Or.inl ⟨rfl, rfl⟩), by decide, by decide, z_Ta, by decide⟩
theorem y_Ta_token : Cond.instanceMethod ⟨R_Ta, "token", "()I"⟩ ∈ lw_tbl ∧ Cond.selects R_Ta ⟨R_Ta, "token", "()I"⟩ ⟨R_Ta, "token", "()I"⟩ ∈ lw_tbl := ⟨List.mem_of_getElem? (i := 571) (by decide +kernel), List.mem_of_getElem? (i := 572) (by decide +kernel)⟩
set_option maxRecDepth 100000 in
theorem o_Ta_place : c_mok D_Ta_place := ⟨k_Ta_place, List.mem_of_getElem? (i := 565) rfl, by decide, rfl, Or.inr (Or.inl ⟨rfl, rfl⟩), by decide, by decide, z_Ta, by decide⟩
theorem y_Ta_place : Cond.instanceMethod ⟨R_Ta, "place", "()I"⟩ ∈ lw_tbl ∧ Cond.selects R_Ta ⟨R_Ta, "place", "()I"⟩ ⟨R_Ta, "place", "()I"⟩ ∈ lw_tbl := ⟨List.mem_of_getElem? (i := 563) (by decide +kernel), List.mem_of_getElem? (i := 564) (by decide +kernel)⟩
set_option maxRecDepth 100000 in
theorem o_Ta_wordLength : c_mok D_Ta_wordLength := ⟨k_Ta_wordLength, List.mem_of_getElem? (i := 569) rfl, by decide, rfl, Or.inr (Or.inl ⟨rfl, rfl⟩), by decide, by decide, z_Ta, by decide⟩
theorem y_Ta_wordLength : Cond.instanceMethod ⟨R_Ta, "wordLength", "()I"⟩ ∈ lw_tbl ∧ Cond.selects R_Ta ⟨R_Ta, "wordLength", "()I"⟩ ⟨R_Ta, "wordLength", "()I"⟩ ∈ lw_tbl := ⟨List.mem_of_getElem? (i := 567) (by decide +kernel), List.mem_of_getElem? (i := 568) (by decide +kernel)⟩
set_option maxRecDepth 100000 in
theorem o_Ta_atEnd : c_mok D_Ta_atEnd := ⟨k_Ta_atEnd, List.mem_of_getElem? (i := 549) rfl, by decide, rfl, Or.inr (Or.inr ⟨rfl, rfl⟩), by decide, by decide, z_Ta, by decide⟩
theorem y_Ta_atEnd : Cond.instanceMethod ⟨R_Ta, "atEnd", "()Z"⟩ ∈ lw_tbl ∧ Cond.selects R_Ta ⟨R_Ta, "atEnd", "()Z"⟩ ⟨R_Ta, "atEnd", "()Z"⟩ ∈ lw_tbl := ⟨List.mem_of_getElem? (i := 547) (by decide +kernel), List.mem_of_getElem? (i := 548) (by decide +kernel)⟩
set_option maxRecDepth 100000 in
theorem o_Ta_rewind : c_mok D_Ta_rewind := ⟨k_Ta_rewind, List.mem_of_getElem? (i := 521) rfl, by decide, rfl, Or.inl ⟨rfl, rfl⟩, by decide, by decide, z_Ta, by decide⟩
theorem y_Ta_rewind : Cond.instanceMethod ⟨R_Ta, "rewind", "()V"⟩ ∈ lw_tbl ∧ Cond.selects R_Ta ⟨R_Ta, "rewind", "()V"⟩ ⟨R_Ta, "rewind", "()V"⟩ ∈ lw_tbl := ⟨List.mem_of_getElem? (i := 519) (by decide +kernel), List.mem_of_getElem? (i := 520) (by decide +kernel)⟩
set_option maxRecDepth 100000 in
theorem o_Ta_advance : c_mok D_Ta_advance := ⟨k_Ta_advance, List.mem_of_getElem? (i := 525) rfl, by decide, rfl, Or.inl ⟨rfl, rfl⟩, by decide, by decide, z_Ta, by decide⟩
theorem y_Ta_advance : Cond.instanceMethod ⟨R_Ta, "advance", "()V"⟩ ∈ lw_tbl ∧ Cond.selects R_Ta ⟨R_Ta, "advance", "()V"⟩ ⟨R_Ta, "advance", "()V"⟩ ∈ lw_tbl := ⟨List.mem_of_getElem? (i := 523) (by decide +kernel), List.mem_of_getElem? (i := 524) (by decide +kernel)⟩
set_option maxRecDepth 100000 in
theorem o_Ta_readWord : c_mok D_Ta_readWord := ⟨k_Ta_readWord, List.mem_of_getElem? (i := 539) rfl, by decide, rfl, Or.inl ⟨rfl, rfl⟩, by decide, by decide, z_Ta, by decide⟩
theorem y_Ta_readWord : Cond.instanceMethod ⟨R_Ta, "readWord", "()V"⟩ ∈ lw_tbl ∧ Cond.selects R_Ta ⟨R_Ta, "readWord", "()V"⟩ ⟨R_Ta, "readWord", "()V"⟩ ∈ lw_tbl := ⟨List.mem_of_getElem? (i := 538) (by decide +kernel), List.mem_of_getElem? (i := 1) (by decide +kernel)⟩
set_option maxRecDepth 100000 in
theorem o_Ta_sameSigns : c_mok D_Ta_sameSigns := ⟨k_Ta_sameSigns, List.mem_of_getElem? (i := 673) rfl, by decide, rfl, Or.inr (Or.inr ⟨rfl, rfl⟩), by decide, by decide, z_Ta, by decide⟩
theorem y_Ta_sameSigns : Cond.instanceMethod ⟨R_Ta, "sameSigns", "(III)Z"⟩ ∈ lw_tbl ∧ Cond.selects R_Ta ⟨R_Ta, "sameSigns", "(III)Z"⟩ ⟨R_Ta, "sameSigns", "(III)Z"⟩ ∈ lw_tbl := ⟨List.mem_of_getElem? (i := 671) (by decide +kernel), List.mem_of_getElem? (i := 672) (by decide +kernel)⟩
set_option maxRecDepth 100000 in
theorem o_Ta_isBlank : c_mok D_Ta_isBlank := ⟨k_Ta_isBlank, List.mem_of_getElem? (i := 532) rfl, by decide, rfl, Or.inr (Or.inr ⟨rfl, rfl⟩), by decide, by decide, z_Ta, by decide⟩
theorem y_Ta_isBlank : Cond.static ⟨R_Ta, "isBlank", "(I)Z"⟩ ∈ lw_tbl := List.mem_of_getElem? (i := 531) (by decide +kernel)
set_option maxRecDepth 100000 in
theorem o_Ta_isMark : c_mok D_Ta_isMark := ⟨k_Ta_isMark, List.mem_of_getElem? (i := 545) rfl, by decide, rfl, Or.inr (Or.inr ⟨rfl, rfl⟩), by decide, by decide, z_Ta, by decide⟩
theorem y_Ta_isMark : Cond.static ⟨R_Ta, "isMark", "(I)Z"⟩ ∈ lw_tbl := List.mem_of_getElem? (i := 544) (by decide +kernel)
set_option maxRecDepth 100000 in
theorem o_Wr_write : c_mok D_Wr_write := ⟨k_Wr_write, List.mem_of_getElem? (i := 998) rfl, by decide, rfl, Or.inl ⟨rfl, rfl⟩, by decide, by decide, z_Wr, by decide⟩
theorem y_Wr_write : Cond.instanceMethod ⟨R_Wr, "write", "(IZ)V"⟩ ∈ lw_tbl ∧ Cond.selects R_Wr ⟨R_Wr, "write", "(IZ)V"⟩ ⟨R_Wr, "write", "(IZ)V"⟩ ∈ lw_tbl := ⟨List.mem_of_getElem? (i := 996) (by decide +kernel), List.mem_of_getElem? (i := 997) (by decide +kernel)⟩
set_option maxRecDepth 100000 in
theorem o_Wr_family : c_mok D_Wr_family := ⟨k_Wr_family, List.mem_of_getElem? (i := 1019) rfl, by decide, rfl, Or.inl ⟨rfl, rfl⟩, by decide, by decide, z_Wr, by decide⟩
theorem y_Wr_family : Cond.instanceMethod ⟨R_Wr, "family", "(IIII)V"⟩ ∈ lw_tbl ∧ Cond.selects R_Wr ⟨R_Wr, "family", "(IIII)V"⟩ ⟨R_Wr, "family", "(IIII)V"⟩ ∈ lw_tbl := ⟨List.mem_of_getElem? (i := 1018) (by decide +kernel), List.mem_of_getElem? (i := 37) (by decide +kernel)⟩
set_option maxRecDepth 100000 in
theorem o_Wr_binding : c_mok D_Wr_binding := ⟨k_Wr_binding, List.mem_of_getElem? (i := 1035) rfl, by decide, rfl, Or.inl ⟨rfl, rfl⟩, by decide, by decide, z_Wr, by decide⟩
theorem y_Wr_binding : Cond.instanceMethod ⟨R_Wr, "binding", "(IIII)V"⟩ ∈ lw_tbl ∧ Cond.selects R_Wr ⟨R_Wr, "binding", "(IIII)V"⟩ ⟨R_Wr, "binding", "(IIII)V"⟩ ∈ lw_tbl := ⟨List.mem_of_getElem? (i := 1034) (by decide +kernel), List.mem_of_getElem? (i := 38) (by decide +kernel)⟩
set_option maxRecDepth 100000 in
theorem o_Wr_object : c_mok D_Wr_object := ⟨k_Wr_object, List.mem_of_getElem? (i := 1063) rfl, by decide, rfl, Or.inl ⟨rfl, rfl⟩, by decide, by decide, z_Wr, by decide⟩
theorem y_Wr_object : Cond.instanceMethod ⟨R_Wr, "object", "(IIIIIZ)V"⟩ ∈ lw_tbl ∧ Cond.selects R_Wr ⟨R_Wr, "object", "(IIIIIZ)V"⟩ ⟨R_Wr, "object", "(IIIIIZ)V"⟩ ∈ lw_tbl := ⟨List.mem_of_getElem? (i := 1062) (by decide +kernel), List.mem_of_getElem? (i := 42) (by decide +kernel)⟩
set_option maxRecDepth 100000 in
theorem o_Wr_putHead : c_mok D_Wr_putHead := ⟨k_Wr_putHead, List.mem_of_getElem? (i := 1073) rfl, by decide, rfl, Or.inl ⟨rfl, rfl⟩, by decide, by decide, z_Wr, by decide⟩
theorem y_Wr_putHead : Cond.instanceMethod ⟨R_Wr, "putHead", "(I)V"⟩ ∈ lw_tbl ∧ Cond.selects R_Wr ⟨R_Wr, "putHead", "(I)V"⟩ ⟨R_Wr, "putHead", "(I)V"⟩ ∈ lw_tbl := ⟨List.mem_of_getElem? (i := 1072) (by decide +kernel), List.mem_of_getElem? (i := 43) (by decide +kernel)⟩
set_option maxRecDepth 100000 in
theorem o_Wr_objects : c_mok D_Wr_objects := ⟨k_Wr_objects, List.mem_of_getElem? (i := 1056) rfl, by decide, rfl, Or.inl ⟨rfl, rfl⟩, by decide, by decide, z_Wr, by decide⟩
theorem y_Wr_objects : Cond.instanceMethod ⟨R_Wr, "objects", "(IIIII)V"⟩ ∈ lw_tbl ∧ Cond.selects R_Wr ⟨R_Wr, "objects", "(IIIII)V"⟩ ⟨R_Wr, "objects", "(IIIII)V"⟩ ∈ lw_tbl := ⟨List.mem_of_getElem? (i := 1055) (by decide +kernel), List.mem_of_getElem? (i := 41) (by decide +kernel)⟩
set_option maxRecDepth 100000 in
theorem o_Wr_putName : c_mok D_Wr_putName := ⟨k_Wr_putName, List.mem_of_getElem? (i := 1048) rfl, by decide, rfl, Or.inl ⟨rfl, rfl⟩, by decide, by decide, z_Wr, by decide⟩
theorem y_Wr_putName : Cond.instanceMethod ⟨R_Wr, "putName", "(I)V"⟩ ∈ lw_tbl ∧ Cond.selects R_Wr ⟨R_Wr, "putName", "(I)V"⟩ ⟨R_Wr, "putName", "(I)V"⟩ ∈ lw_tbl := ⟨List.mem_of_getElem? (i := 1047) (by decide +kernel), List.mem_of_getElem? (i := 40) (by decide +kernel)⟩
set_option maxRecDepth 100000 in
theorem o_Wr_putVariable : c_mok D_Wr_putVariable := ⟨k_Wr_putVariable, List.mem_of_getElem? (i := 1040) rfl, by decide, rfl, Or.inl ⟨rfl, rfl⟩, by decide, by decide, z_Wr, by decide⟩
theorem y_Wr_putVariable : Cond.instanceMethod ⟨R_Wr, "putVariable", "(I)V"⟩ ∈ lw_tbl ∧ Cond.selects R_Wr ⟨R_Wr, "putVariable", "(I)V"⟩ ⟨R_Wr, "putVariable", "(I)V"⟩ ∈ lw_tbl := ⟨List.mem_of_getElem? (i := 1039) (by decide +kernel), List.mem_of_getElem? (i := 39) (by decide +kernel)⟩
end
section
theorem l_0_33 : c_lok (0, 33, 165, 0, 0, 2, 0, 5) := ⟨(List.mem_of_getElem? (i := 748) (by decide +kernel) : Cond.methodLink R_Ce 33 ⟨R_Me, "stop", "(I)V"⟩ ∈ lw_tbl), y_Me_stop⟩
theorem l_0_39 : c_lok (0, 39, 104, 0, 0, 3, 1, 0) := ⟨(List.mem_of_getElem? (i := 744) (by decide +kernel) : Cond.methodLink R_Ce 39 ⟨R_Ce, "make", "(II)I"⟩ ∈ lw_tbl), y_Ce_make⟩
theorem l_0_43 : c_lok (0, 43, 109, 0, 0, 3, 0, 0) := ⟨(List.mem_of_getElem? (i := 749) (by decide +kernel) : Cond.methodLink R_Ce 43 ⟨R_Ce, "link", "(II)V"⟩ ∈ lw_tbl), y_Ce_link⟩
theorem l_0_47 : c_lok (0, 47, 107, 0, 0, 2, 1, 0) := ⟨(List.mem_of_getElem? (i := 811) (by decide +kernel) : Cond.methodLink R_Ce 47 ⟨R_Ce, "next", "(I)I"⟩ ∈ lw_tbl), y_Ce_next⟩
theorem l_0_51 : c_lok (0, 51, 110, 0, 0, 4, 1, 0) := ⟨(List.mem_of_getElem? (i := 757) (by decide +kernel) : Cond.methodLink R_Ce 51 ⟨R_Ce, "bind", "(III)I"⟩ ∈ lw_tbl), y_Ce_bind⟩
theorem l_1_42 : c_lok (1, 42, 121, 0, 0, 4, 1, 1) := ⟨(List.mem_of_getElem? (i := 694) (by decide +kernel) : Cond.methodLink R_Ck 42 ⟨R_Ck, "classifier", "(IIZ)Z"⟩ ∈ lw_tbl), y_Ck_classifier⟩
theorem l_1_48 : c_lok (1, 48, 126, 0, 0, 5, 0, 1) := ⟨(List.mem_of_getElem? (i := 829) (by decide +kernel) : Cond.methodLink R_Ck 48 ⟨R_Ck, "fitting", "(IIII)V"⟩ ∈ lw_tbl), y_Ck_fitting⟩
theorem l_1_52 : c_lok (1, 52, 127, 0, 0, 3, 0, 1) := ⟨(List.mem_of_getElem? (i := 833) (by decide +kernel) : Cond.methodLink R_Ck 52 ⟨R_Ck, "object", "(II)V"⟩ ∈ lw_tbl), y_Ck_object⟩
theorem l_1_56 : c_lok (1, 56, 15, 1, 1, 2, 1, 0) := ⟨(List.mem_of_getElem? (i := 731) (by decide +kernel) : Cond.methodLinkNest R_Ck 56 ⟨R_Fb, "faultAt", "(II)I"⟩ "FrameBench" ∈ lw_tbl), y_Fb_faultAt⟩
theorem l_1_60 : c_lok (1, 60, 166, 0, 0, 1, 1, 5) := ⟨(List.mem_of_getElem? (i := 714) (by decide +kernel) : Cond.methodLink R_Ck 60 ⟨R_Me, "step", "()Z"⟩ ∈ lw_tbl), y_Me_step⟩
theorem l_1_66 : c_lok (1, 66, 164, 0, 0, 1, 1, 5) := ⟨(List.mem_of_getElem? (i := 723) (by decide +kernel) : Cond.methodLink R_Ck 66 ⟨R_Me, "trouble", "()I"⟩ ∈ lw_tbl), y_Me_trouble⟩
theorem l_1_70 : c_lok (1, 70, 119, 0, 0, 3, 0, 1) := ⟨(List.mem_of_getElem? (i := 727) (by decide +kernel) : Cond.methodLink R_Ck 70 ⟨R_Ck, "wrong", "(II)V"⟩ ∈ lw_tbl), y_Ck_wrong⟩
theorem l_1_73 : c_lok (1, 73, 102, 0, 0, 1, 1, 0) := ⟨(List.mem_of_getElem? (i := 698) (by decide +kernel) : Cond.methodLink R_Ck 73 ⟨R_Ce, "mark", "()I"⟩ ∈ lw_tbl), y_Ce_mark⟩
theorem l_1_80 : c_lok (1, 80, 172, 0, 0, 2, 1, 6) := ⟨(List.mem_of_getElem? (i := 702) (by decide +kernel) : Cond.methodLink R_Ck 80 ⟨R_No, "kind", "(I)I"⟩ ∈ lw_tbl), y_No_kind⟩
theorem l_1_84 : c_lok (1, 84, 176, 0, 0, 2, 1, 6) := ⟨(List.mem_of_getElem? (i := 706) (by decide +kernel) : Cond.methodLink R_Ck 84 ⟨R_No, "token", "(I)I"⟩ ∈ lw_tbl), y_No_token⟩
theorem l_1_87 : c_lok (1, 87, 120, 0, 0, 2, 1, 1) := ⟨(List.mem_of_getElem? (i := 710) (by decide +kernel) : Cond.methodLink R_Ck 87 ⟨R_Ck, "step", "(I)Z"⟩ ∈ lw_tbl), y_Ck_step⟩
theorem l_1_90 : c_lok (1, 90, 173, 0, 0, 2, 1, 6) := ⟨(List.mem_of_getElem? (i := 732) (by decide +kernel) : Cond.methodLink R_Ck 90 ⟨R_No, "left", "(I)I"⟩ ∈ lw_tbl), y_No_left⟩
theorem l_1_93 : c_lok (1, 93, 122, 0, 0, 3, 1, 1) := ⟨(List.mem_of_getElem? (i := 736) (by decide +kernel) : Cond.methodLink R_Ck 93 ⟨R_Ck, "under", "(II)I"⟩ ∈ lw_tbl), y_Ck_under⟩
theorem l_1_96 : c_lok (1, 96, 174, 0, 0, 2, 1, 6) := ⟨(List.mem_of_getElem? (i := 761) (by decide +kernel) : Cond.methodLink R_Ck 96 ⟨R_No, "right", "(I)I"⟩ ∈ lw_tbl), y_No_right⟩
theorem l_1_99 : c_lok (1, 99, 123, 0, 0, 3, 0, 1) := ⟨(List.mem_of_getElem? (i := 765) (by decide +kernel) : Cond.methodLink R_Ck 99 ⟨R_Ck, "family", "(II)V"⟩ ∈ lw_tbl), y_Ck_family⟩
theorem l_1_102 : c_lok (1, 102, 103, 0, 0, 2, 0, 0) := ⟨(List.mem_of_getElem? (i := 875) (by decide +kernel) : Cond.methodLink R_Ck 102 ⟨R_Ce, "release", "(I)V"⟩ ∈ lw_tbl), y_Ce_release⟩
theorem l_1_106 : c_lok (1, 106, 111, 0, 0, 4, 1, 0) := ⟨(List.mem_of_getElem? (i := 740) (by decide +kernel) : Cond.methodLink R_Ck 106 ⟨R_Ce, "newVariable", "(III)I"⟩ ∈ lw_tbl), y_Ce_newVariable⟩
theorem l_1_110 : c_lok (1, 110, 113, 0, 0, 4, 1, 0) := ⟨(List.mem_of_getElem? (i := 753) (by decide +kernel) : Cond.methodLink R_Ck 110 ⟨R_Ce, "enter", "(III)I"⟩ ∈ lw_tbl), y_Ce_enter⟩
theorem l_1_113 : c_lok (1, 113, 179, 0, 0, 2, 1, 6) := ⟨(List.mem_of_getElem? (i := 769) (by decide +kernel) : Cond.methodLink R_Ck 113 ⟨R_No, "inBrackets", "(I)Z"⟩ ∈ lw_tbl), y_No_inBrackets⟩
theorem l_1_116 : c_lok (1, 116, 178, 0, 0, 2, 1, 6) := ⟨(List.mem_of_getElem? (i := 778) (by decide +kernel) : Cond.methodLink R_Ck 116 ⟨R_No, "place", "(I)I"⟩ ∈ lw_tbl), y_No_place⟩
theorem l_1_119 : c_lok (1, 119, 124, 0, 0, 2, 1, 1) := ⟨(List.mem_of_getElem? (i := 779) (by decide +kernel) : Cond.methodLink R_Ck 119 ⟨R_Ck, "isFamilyName", "(I)Z"⟩ ∈ lw_tbl), y_Ck_isFamilyName⟩
theorem l_1_122 : c_lok (1, 122, 177, 0, 0, 2, 1, 6) := ⟨(List.mem_of_getElem? (i := 787) (by decide +kernel) : Cond.methodLink R_Ck 122 ⟨R_No, "first", "(I)I"⟩ ∈ lw_tbl), y_No_first⟩
theorem l_1_125 : c_lok (1, 125, 183, 0, 0, 3, 0, 6) := ⟨(List.mem_of_getElem? (i := 788) (by decide +kernel) : Cond.methodLink R_Ck 125 ⟨R_No, "becomeFamily", "(II)V"⟩ ∈ lw_tbl), y_No_becomeFamily⟩
theorem l_1_128 : c_lok (1, 128, 125, 0, 0, 4, 0, 1) := ⟨(List.mem_of_getElem? (i := 792) (by decide +kernel) : Cond.methodLink R_Ck 128 ⟨R_Ck, "objectsOfFamily", "(III)V"⟩ ∈ lw_tbl), y_Ck_objectsOfFamily⟩
theorem l_1_132 : c_lok (1, 132, 132, 0, 0, 2, 1, 2) := ⟨(List.mem_of_getElem? (i := 783) (by decide +kernel) : Cond.methodLink R_Ck 132 ⟨R_Co, "sort", "(I)I"⟩ ∈ lw_tbl), y_Co_sort⟩
theorem l_1_134 : c_lok (1, 134, 133, 0, 0, 2, 1, 2) := ⟨(List.mem_of_getElem? (i := 796) (by decide +kernel) : Cond.methodLink R_Ck 134 ⟨R_Co, "typeRoot", "(I)I"⟩ ∈ lw_tbl), y_Co_typeRoot⟩
theorem l_1_137 : c_lok (1, 137, 157, 0, 0, 4, 1, 4) := ⟨(List.mem_of_getElem? (i := 800) (by decide +kernel) : Cond.methodLink R_Ck 137 ⟨R_Ma, "push", "(III)I"⟩ ∈ lw_tbl), y_Ma_push⟩
theorem l_1_142 : c_lok (1, 142, 107, 0, 0, 2, 1, 0) := ⟨(List.mem_of_getElem? (i := 868) (by decide +kernel) : Cond.methodLink R_Ck 142 ⟨R_Ce, "next", "(I)I"⟩ ∈ lw_tbl), y_Ce_next⟩
theorem l_1_145 : c_lok (1, 145, 110, 0, 0, 4, 1, 0) := ⟨(List.mem_of_getElem? (i := 869) (by decide +kernel) : Cond.methodLink R_Ck 145 ⟨R_Ce, "bind", "(III)I"⟩ ∈ lw_tbl), y_Ce_bind⟩
theorem l_1_148 : c_lok (1, 148, 175, 0, 0, 2, 1, 6) := ⟨(List.mem_of_getElem? (i := 870) (by decide +kernel) : Cond.methodLink R_Ck 148 ⟨R_No, "sibling", "(I)I"⟩ ∈ lw_tbl), y_No_sibling⟩
theorem l_1_151 : c_lok (1, 151, 147, 1, 0, 6, 1, 3) := ⟨(List.mem_of_getElem? (i := 876) (by decide +kernel) : Cond.methodLinkNest R_Ck 151 ⟨R_Ju, "families", "(IIIII)Z"⟩ "FrameBench" ∈ lw_tbl), y_Ju_families⟩
theorem l_1_157 : c_lok (1, 157, 129, 0, 0, 3, 0, 1) := ⟨(List.mem_of_getElem? (i := 837) (by decide +kernel) : Cond.methodLink R_Ck 157 ⟨R_Ck, "applied", "(II)V"⟩ ∈ lw_tbl), y_Ck_applied⟩
theorem l_1_160 : c_lok (1, 160, 128, 0, 0, 2, 0, 1) := ⟨(List.mem_of_getElem? (i := 871) (by decide +kernel) : Cond.methodLink R_Ck 160 ⟨R_Ck, "bareObject", "(I)V"⟩ ∈ lw_tbl), y_Ck_bareObject⟩
theorem l_1_163 : c_lok (1, 163, 158, 0, 0, 3, 0, 4) := ⟨(List.mem_of_getElem? (i := 841) (by decide +kernel) : Cond.methodLink R_Ck 163 ⟨R_Ma, "expose", "(II)V"⟩ ∈ lw_tbl), y_Ma_expose⟩
theorem l_1_166 : c_lok (1, 166, 151, 0, 0, 1, 1, 4) := ⟨(List.mem_of_getElem? (i := 859) (by decide +kernel) : Cond.methodLink R_Ck 166 ⟨R_Ma, "shape", "()I"⟩ ∈ lw_tbl), y_Ma_shape⟩
theorem l_1_169 : c_lok (1, 169, 152, 0, 0, 1, 1, 4) := ⟨(List.mem_of_getElem? (i := 863) (by decide +kernel) : Cond.methodLink R_Ck 169 ⟨R_Ma, "shapeScope", "()I"⟩ ∈ lw_tbl), y_Ma_shapeScope⟩
theorem l_1_172 : c_lok (1, 172, 180, 0, 0, 2, 1, 6) := ⟨(List.mem_of_getElem? (i := 867) (by decide +kernel) : Cond.methodLink R_Ck 172 ⟨R_No, "isArrow", "(I)Z"⟩ ∈ lw_tbl), y_No_isArrow⟩
theorem l_2_41 : c_lok (2, 41, 133, 0, 0, 2, 1, 2) := ⟨(List.mem_of_getElem? (i := 1136) (by decide +kernel) : Cond.methodLink R_Co 41 ⟨R_Co, "typeRoot", "(I)I"⟩ ∈ lw_tbl), y_Co_typeRoot⟩
theorem l_2_47 : c_lok (2, 47, 172, 0, 0, 2, 1, 6) := ⟨(List.mem_of_getElem? (i := 1137) (by decide +kernel) : Cond.methodLink R_Co 47 ⟨R_No, "kind", "(I)I"⟩ ∈ lw_tbl), y_No_kind⟩
theorem l_2_50 : c_lok (2, 50, 174, 0, 0, 2, 1, 6) := ⟨(List.mem_of_getElem? (i := 1138) (by decide +kernel) : Cond.methodLink R_Co 50 ⟨R_No, "right", "(I)I"⟩ ∈ lw_tbl), y_No_right⟩
theorem l_2_53 : c_lok (2, 53, 215, 0, 0, 2, 1, 9) := ⟨(List.mem_of_getElem? (i := 597) (by decide +kernel) : Cond.methodLink R_Co 53 ⟨R_Ta, "signAt", "(I)I"⟩ ∈ lw_tbl), y_Ta_signAt⟩
theorem l_2_56 : c_lok (2, 56, 169, 0, 0, 2, 0, 6) := ⟨(List.mem_of_getElem? (i := 1163) (by decide +kernel) : Cond.methodLink R_Co 56 ⟨R_No, "release", "(I)V"⟩ ∈ lw_tbl), y_No_release⟩
theorem l_2_60 : c_lok (2, 60, 136, 0, 0, 2, 1, 2) := ⟨(List.mem_of_getElem? (i := 585) (by decide +kernel) : Cond.methodLink R_Co 60 ⟨R_Co, "nameLength", "(I)I"⟩ ∈ lw_tbl), y_Co_nameLength⟩
theorem l_2_63 : c_lok (2, 63, 142, 0, 0, 4, 1, 2) := ⟨(List.mem_of_getElem? (i := 589) (by decide +kernel) : Cond.methodLink R_Co 63 ⟨R_Co, "isNamed", "(ILFrameBench$Tape;I)Z"⟩ ∈ lw_tbl), y_Co_isNamed⟩
theorem l_2_67 : c_lok (2, 67, 137, 0, 0, 3, 1, 2) := ⟨(List.mem_of_getElem? (i := 593) (by decide +kernel) : Cond.methodLink R_Co 67 ⟨R_Co, "nameSign", "(II)I"⟩ ∈ lw_tbl), y_Co_nameSign⟩
theorem l_2_71 : c_lok (2, 71, 144, 0, 0, 2, 1, 2) := ⟨(List.mem_of_getElem? (i := 1003) (by decide +kernel) : Cond.methodLink R_Co 71 ⟨R_Co, "anyIsXsAndNumber", "(I)Z"⟩ ∈ lw_tbl), y_Co_anyIsXsAndNumber⟩
theorem l_2_75 : c_lok (2, 75, 145, 0, 0, 3, 1, 2) := ⟨(List.mem_of_getElem? (i := 1007) (by decide +kernel) : Cond.methodLink R_Co 75 ⟨R_Co, "isXsAndNumber", "(II)Z"⟩ ∈ lw_tbl), y_Co_isXsAndNumber⟩
theorem l_2_79 : c_lok (2, 79, 17, 1, 1, 1, 1, 0) := ⟨(List.mem_of_getElem? (i := 1011) (by decide +kernel) : Cond.methodLinkNest R_Co 79 ⟨R_Fb, "isDigit", "(I)Z"⟩ "FrameBench" ∈ lw_tbl), y_Fb_isDigit⟩
theorem l_3_29 : c_lok (3, 29, 104, 0, 0, 3, 1, 0) := ⟨(List.mem_of_getElem? (i := 1112) (by decide +kernel) : Cond.methodLink R_Ju 29 ⟨R_Ce, "make", "(II)I"⟩ ∈ lw_tbl), y_Ce_make⟩
theorem l_3_35 : c_lok (3, 35, 149, 0, 0, 5, 1, 3) := ⟨(List.mem_of_getElem? (i := 905) (by decide +kernel) : Cond.methodLink R_Ju 35 ⟨R_Ju, "meet", "(IIII)Z"⟩ ∈ lw_tbl), y_Ju_meet⟩
theorem l_3_52 : c_lok (3, 52, 148, 0, 0, 5, 1, 3) := ⟨(List.mem_of_getElem? (i := 899) (by decide +kernel) : Cond.methodLink R_Ju 52 ⟨R_Ju, "rows", "(IIII)Z"⟩ ∈ lw_tbl), y_Ju_rows⟩
theorem l_3_57 : c_lok (3, 57, 167, 0, 0, 2, 1, 5) := ⟨(List.mem_of_getElem? (i := 880) (by decide +kernel) : Cond.methodLink R_Ju 57 ⟨R_Me, "question", "(I)Z"⟩ ∈ lw_tbl), y_Me_question⟩
theorem l_3_61 : c_lok (3, 61, 158, 0, 0, 3, 0, 4) := ⟨(List.mem_of_getElem? (i := 885) (by decide +kernel) : Cond.methodLink R_Ju 61 ⟨R_Ma, "expose", "(II)V"⟩ ∈ lw_tbl), y_Ma_expose⟩
theorem l_3_67 : c_lok (3, 67, 151, 0, 0, 1, 1, 4) := ⟨(List.mem_of_getElem? (i := 886) (by decide +kernel) : Cond.methodLink R_Ju 67 ⟨R_Ma, "shape", "()I"⟩ ∈ lw_tbl), y_Ma_shape⟩
theorem l_3_71 : c_lok (3, 71, 152, 0, 0, 1, 1, 4) := ⟨(List.mem_of_getElem? (i := 887) (by decide +kernel) : Cond.methodLink R_Ju 71 ⟨R_Ma, "shapeScope", "()I"⟩ ∈ lw_tbl), y_Ma_shapeScope⟩
theorem l_3_74 : c_lok (3, 74, 180, 0, 0, 2, 1, 6) := ⟨(List.mem_of_getElem? (i := 888) (by decide +kernel) : Cond.methodLink R_Ju 74 ⟨R_No, "isArrow", "(I)Z"⟩ ∈ lw_tbl), y_No_isArrow⟩
theorem l_3_79 : c_lok (3, 79, 102, 0, 0, 1, 1, 0) := ⟨(List.mem_of_getElem? (i := 889) (by decide +kernel) : Cond.methodLink R_Ju 79 ⟨R_Ce, "mark", "()I"⟩ ∈ lw_tbl), y_Ce_mark⟩
theorem l_3_82 : c_lok (3, 82, 173, 0, 0, 2, 1, 6) := ⟨(List.mem_of_getElem? (i := 890) (by decide +kernel) : Cond.methodLink R_Ju 82 ⟨R_No, "left", "(I)I"⟩ ∈ lw_tbl), y_No_left⟩
theorem l_3_86 : c_lok (3, 86, 147, 0, 0, 6, 1, 3) := ⟨(List.mem_of_getElem? (i := 891) (by decide +kernel) : Cond.methodLink R_Ju 86 ⟨R_Ju, "families", "(IIIII)Z"⟩ ∈ lw_tbl), y_Ju_families⟩
theorem l_3_90 : c_lok (3, 90, 103, 0, 0, 2, 0, 0) := ⟨(List.mem_of_getElem? (i := 892) (by decide +kernel) : Cond.methodLink R_Ju 90 ⟨R_Ce, "release", "(I)V"⟩ ∈ lw_tbl), y_Ce_release⟩
theorem l_3_94 : c_lok (3, 94, 111, 0, 0, 4, 1, 0) := ⟨(List.mem_of_getElem? (i := 893) (by decide +kernel) : Cond.methodLink R_Ju 94 ⟨R_Ce, "newVariable", "(III)I"⟩ ∈ lw_tbl), y_Ce_newVariable⟩
theorem l_3_98 : c_lok (3, 98, 113, 0, 0, 4, 1, 0) := ⟨(List.mem_of_getElem? (i := 894) (by decide +kernel) : Cond.methodLink R_Ju 98 ⟨R_Ce, "enter", "(III)I"⟩ ∈ lw_tbl), y_Ce_enter⟩
theorem l_3_101 : c_lok (3, 101, 174, 0, 0, 2, 1, 6) := ⟨(List.mem_of_getElem? (i := 895) (by decide +kernel) : Cond.methodLink R_Ju 101 ⟨R_No, "right", "(I)I"⟩ ∈ lw_tbl), y_No_right⟩
theorem l_3_104 : c_lok (3, 104, 172, 0, 0, 2, 1, 6) := ⟨(List.mem_of_getElem? (i := 896) (by decide +kernel) : Cond.methodLink R_Ju 104 ⟨R_No, "kind", "(I)I"⟩ ∈ lw_tbl), y_No_kind⟩
theorem l_3_107 : c_lok (3, 107, 133, 0, 0, 2, 1, 2) := ⟨(List.mem_of_getElem? (i := 897) (by decide +kernel) : Cond.methodLink R_Ju 107 ⟨R_Co, "typeRoot", "(I)I"⟩ ∈ lw_tbl), y_Co_typeRoot⟩
theorem l_3_112 : c_lok (3, 112, 157, 0, 0, 4, 1, 4) := ⟨(List.mem_of_getElem? (i := 898) (by decide +kernel) : Cond.methodLink R_Ju 112 ⟨R_Ma, "push", "(III)I"⟩ ∈ lw_tbl), y_Ma_push⟩
theorem l_3_116 : c_lok (3, 116, 107, 0, 0, 2, 1, 0) := ⟨(List.mem_of_getElem? (i := 904) (by decide +kernel) : Cond.methodLink R_Ju 116 ⟨R_Ce, "next", "(I)I"⟩ ∈ lw_tbl), y_Ce_next⟩
theorem l_3_119 : c_lok (3, 119, 164, 0, 0, 1, 1, 5) := ⟨(List.mem_of_getElem? (i := 946) (by decide +kernel) : Cond.methodLink R_Ju 119 ⟨R_Me, "trouble", "()I"⟩ ∈ lw_tbl), y_Me_trouble⟩
theorem l_3_122 : c_lok (3, 122, 114, 0, 0, 3, 1, 0) := ⟨(List.mem_of_getElem? (i := 909) (by decide +kernel) : Cond.methodLink R_Ju 122 ⟨R_Ce, "append", "(II)I"⟩ ∈ lw_tbl), y_Ce_append⟩
theorem l_3_125 : c_lok (3, 125, 105, 0, 0, 2, 1, 0) := ⟨(List.mem_of_getElem? (i := 913) (by decide +kernel) : Cond.methodLink R_Ju 125 ⟨R_Ce, "term", "(I)I"⟩ ∈ lw_tbl), y_Ce_term⟩
theorem l_3_128 : c_lok (3, 128, 106, 0, 0, 2, 1, 0) := ⟨(List.mem_of_getElem? (i := 914) (by decide +kernel) : Cond.methodLink R_Ju 128 ⟨R_Ce, "scope", "(I)I"⟩ ∈ lw_tbl), y_Ce_scope⟩
theorem l_3_131 : c_lok (3, 131, 159, 0, 0, 4, 1, 4) := ⟨(List.mem_of_getElem? (i := 915) (by decide +kernel) : Cond.methodLink R_Ju 131 ⟨R_Ma, "headForm", "(III)Z"⟩ ∈ lw_tbl), y_Ma_headForm⟩
theorem l_3_135 : c_lok (3, 135, 153, 0, 0, 1, 1, 4) := ⟨(List.mem_of_getElem? (i := 930) (by decide +kernel) : Cond.methodLink R_Ju 135 ⟨R_Ma, "head", "()I"⟩ ∈ lw_tbl), y_Ma_head⟩
theorem l_3_138 : c_lok (3, 138, 154, 0, 0, 1, 1, 4) := ⟨(List.mem_of_getElem? (i := 934) (by decide +kernel) : Cond.methodLink R_Ju 138 ⟨R_Ma, "row", "()I"⟩ ∈ lw_tbl), y_Ma_row⟩
theorem l_3_141 : c_lok (3, 141, 155, 0, 0, 1, 1, 4) := ⟨(List.mem_of_getElem? (i := 938) (by decide +kernel) : Cond.methodLink R_Ju 141 ⟨R_Ma, "headType", "()I"⟩ ∈ lw_tbl), y_Ma_headType⟩
theorem l_3_144 : c_lok (3, 144, 150, 0, 0, 3, 1, 3) := ⟨(List.mem_of_getElem? (i := 942) (by decide +kernel) : Cond.methodLink R_Ju 144 ⟨R_Ju, "sameLength", "(II)Z"⟩ ∈ lw_tbl), y_Ju_sameLength⟩
theorem l_4_40 : c_lok (4, 40, 105, 0, 0, 2, 1, 0) := ⟨(List.mem_of_getElem? (i := 815) (by decide +kernel) : Cond.methodLink R_Ma 40 ⟨R_Ce, "term", "(I)I"⟩ ∈ lw_tbl), y_Ce_term⟩
theorem l_4_44 : c_lok (4, 44, 133, 0, 0, 2, 1, 2) := ⟨(List.mem_of_getElem? (i := 852) (by decide +kernel) : Cond.methodLink R_Ma 44 ⟨R_Co, "typeRoot", "(I)I"⟩ ∈ lw_tbl), y_Co_typeRoot⟩
theorem l_4_49 : c_lok (4, 49, 106, 0, 0, 2, 1, 0) := ⟨(List.mem_of_getElem? (i := 819) (by decide +kernel) : Cond.methodLink R_Ma 49 ⟨R_Ce, "scope", "(I)I"⟩ ∈ lw_tbl), y_Ce_scope⟩
theorem l_4_52 : c_lok (4, 52, 174, 0, 0, 2, 1, 6) := ⟨(List.mem_of_getElem? (i := 804) (by decide +kernel) : Cond.methodLink R_Ma 52 ⟨R_No, "right", "(I)I"⟩ ∈ lw_tbl), y_No_right⟩
theorem l_4_57 : c_lok (4, 57, 172, 0, 0, 2, 1, 6) := ⟨(List.mem_of_getElem? (i := 805) (by decide +kernel) : Cond.methodLink R_Ma 57 ⟨R_No, "kind", "(I)I"⟩ ∈ lw_tbl), y_No_kind⟩
theorem l_4_60 : c_lok (4, 60, 173, 0, 0, 2, 1, 6) := ⟨(List.mem_of_getElem? (i := 806) (by decide +kernel) : Cond.methodLink R_Ma 60 ⟨R_No, "left", "(I)I"⟩ ∈ lw_tbl), y_No_left⟩
theorem l_4_63 : c_lok (4, 63, 115, 0, 0, 3, 1, 0) := ⟨(List.mem_of_getElem? (i := 807) (by decide +kernel) : Cond.methodLink R_Ma 63 ⟨R_Ce, "outward", "(II)I"⟩ ∈ lw_tbl), y_Ce_outward⟩
theorem l_4_67 : c_lok (4, 67, 104, 0, 0, 3, 1, 0) := ⟨(List.mem_of_getElem? (i := 823) (by decide +kernel) : Cond.methodLink R_Ma 67 ⟨R_Ce, "make", "(II)I"⟩ ∈ lw_tbl), y_Ce_make⟩
theorem l_4_70 : c_lok (4, 70, 109, 0, 0, 3, 0, 0) := ⟨(List.mem_of_getElem? (i := 824) (by decide +kernel) : Cond.methodLink R_Ma 70 ⟨R_Ce, "link", "(II)V"⟩ ∈ lw_tbl), y_Ce_link⟩
theorem l_4_74 : c_lok (4, 74, 175, 0, 0, 2, 1, 6) := ⟨(List.mem_of_getElem? (i := 825) (by decide +kernel) : Cond.methodLink R_Ma 74 ⟨R_No, "sibling", "(I)I"⟩ ∈ lw_tbl), y_No_sibling⟩
theorem l_4_78 : c_lok (4, 78, 157, 0, 0, 4, 1, 4) := ⟨(List.mem_of_getElem? (i := 846) (by decide +kernel) : Cond.methodLink R_Ma 78 ⟨R_Ma, "push", "(III)I"⟩ ∈ lw_tbl), y_Ma_push⟩
theorem l_4_82 : c_lok (4, 82, 108, 0, 0, 2, 1, 0) := ⟨(List.mem_of_getElem? (i := 847) (by decide +kernel) : Cond.methodLink R_Ma 82 ⟨R_Ce, "binder", "(I)I"⟩ ∈ lw_tbl), y_Ce_binder⟩
theorem l_4_85 : c_lok (4, 85, 107, 0, 0, 2, 1, 0) := ⟨(List.mem_of_getElem? (i := 851) (by decide +kernel) : Cond.methodLink R_Ma 85 ⟨R_Ce, "next", "(I)I"⟩ ∈ lw_tbl), y_Ce_next⟩
theorem l_4_88 : c_lok (4, 88, 180, 0, 0, 2, 1, 6) := ⟨(List.mem_of_getElem? (i := 853) (by decide +kernel) : Cond.methodLink R_Ma 88 ⟨R_No, "isArrow", "(I)Z"⟩ ∈ lw_tbl), y_No_isArrow⟩
theorem l_4_92 : c_lok (4, 92, 110, 0, 0, 4, 1, 0) := ⟨(List.mem_of_getElem? (i := 858) (by decide +kernel) : Cond.methodLink R_Ma 92 ⟨R_Ce, "bind", "(III)I"⟩ ∈ lw_tbl), y_Ce_bind⟩
theorem l_4_95 : c_lok (4, 95, 166, 0, 0, 1, 1, 5) := ⟨(List.mem_of_getElem? (i := 919) (by decide +kernel) : Cond.methodLink R_Ma 95 ⟨R_Me, "step", "()Z"⟩ ∈ lw_tbl), y_Me_step⟩
theorem l_4_101 : c_lok (4, 101, 160, 0, 0, 2, 1, 4) := ⟨(List.mem_of_getElem? (i := 920) (by decide +kernel) : Cond.methodLink R_Ma 101 ⟨R_Ma, "isDefinition", "(I)Z"⟩ ∈ lw_tbl), y_Ma_isDefinition⟩
theorem l_4_104 : c_lok (4, 104, 134, 0, 0, 2, 1, 2) := ⟨(List.mem_of_getElem? (i := 925) (by decide +kernel) : Cond.methodLink R_Ma 104 ⟨R_Co, "bodyRoot", "(I)I"⟩ ∈ lw_tbl), y_Co_bodyRoot⟩
theorem l_4_107 : c_lok (4, 107, 164, 0, 0, 1, 1, 5) := ⟨(List.mem_of_getElem? (i := 929) (by decide +kernel) : Cond.methodLink R_Ma 107 ⟨R_Me, "trouble", "()I"⟩ ∈ lw_tbl), y_Me_trouble⟩
theorem l_4_111 : c_lok (4, 111, 132, 0, 0, 2, 1, 2) := ⟨(List.mem_of_getElem? (i := 924) (by decide +kernel) : Cond.methodLink R_Ma 111 ⟨R_Co, "sort", "(I)I"⟩ ∈ lw_tbl), y_Co_sort⟩
theorem l_5_22 : c_lok (5, 22, 165, 0, 0, 2, 0, 5) := ⟨(List.mem_of_getElem? (i := 719) (by decide +kernel) : Cond.methodLink R_Me 22 ⟨R_Me, "stop", "(I)V"⟩ ∈ lw_tbl), y_Me_stop⟩
theorem l_5_26 : c_lok (5, 26, 166, 0, 0, 1, 1, 5) := ⟨(List.mem_of_getElem? (i := 884) (by decide +kernel) : Cond.methodLink R_Me 26 ⟨R_Me, "step", "()Z"⟩ ∈ lw_tbl), y_Me_step⟩
theorem l_6_35 : c_lok (6, 35, 178, 0, 0, 2, 1, 6) := ⟨(List.mem_of_getElem? (i := 773) (by decide +kernel) : Cond.methodLink R_No 35 ⟨R_No, "place", "(I)I"⟩ ∈ lw_tbl), y_No_place⟩
theorem l_6_39 : c_lok (6, 39, 177, 0, 0, 2, 1, 6) := ⟨(List.mem_of_getElem? (i := 774) (by decide +kernel) : Cond.methodLink R_No 39 ⟨R_No, "first", "(I)I"⟩ ∈ lw_tbl), y_No_first⟩
theorem l_6_42 : c_lok (6, 42, 172, 0, 0, 2, 1, 6) := ⟨(List.mem_of_getElem? (i := 857) (by decide +kernel) : Cond.methodLink R_No 42 ⟨R_No, "kind", "(I)I"⟩ ∈ lw_tbl), y_No_kind⟩
theorem l_7_29 : c_lok (7, 29, 165, 0, 0, 2, 0, 5) := ⟨(List.mem_of_getElem? (i := 1029) (by decide +kernel) : Cond.methodLink R_Pa 29 ⟨R_Me, "stop", "(I)V"⟩ ∈ lw_tbl), y_Me_stop⟩
theorem l_7_35 : c_lok (7, 35, 164, 0, 0, 1, 1, 5) := ⟨(List.mem_of_getElem? (i := 1030) (by decide +kernel) : Cond.methodLink R_Pa 35 ⟨R_Me, "trouble", "()I"⟩ ∈ lw_tbl), y_Me_trouble⟩
theorem l_8_34 : c_lok (8, 34, 220, 0, 0, 1, 0, 9) := ⟨(List.mem_of_getElem? (i := 518) (by decide +kernel) : Cond.methodLink R_Re 34 ⟨R_Ta, "rewind", "()V"⟩ ∈ lw_tbl), y_Ta_rewind⟩
theorem l_8_51 : c_lok (8, 51, 197, 0, 0, 1, 0, 8) := ⟨(List.mem_of_getElem? (i := 558) (by decide +kernel) : Cond.methodLink R_Re 51 ⟨R_Re, "readNewName", "()V"⟩ ∈ lw_tbl), y_Re_readNewName⟩
theorem l_8_54 : c_lok (8, 54, 198, 0, 0, 2, 0, 8) := ⟨(List.mem_of_getElem? (i := 603) (by decide +kernel) : Cond.methodLink R_Re 54 ⟨R_Re, "take", "(I)V"⟩ ∈ lw_tbl), y_Re_take⟩
theorem l_8_58 : c_lok (8, 58, 200, 0, 0, 1, 1, 8) := ⟨(List.mem_of_getElem? (i := 607) (by decide +kernel) : Cond.methodLink R_Re 58 ⟨R_Re, "wholeExpression", "()I"⟩ ∈ lw_tbl), y_Re_wholeExpression⟩
theorem l_8_62 : c_lok (8, 62, 216, 0, 0, 1, 1, 9) := ⟨(List.mem_of_getElem? (i := 570) (by decide +kernel) : Cond.methodLink R_Re 62 ⟨R_Ta, "token", "()I"⟩ ∈ lw_tbl), y_Ta_token⟩
theorem l_8_65 : c_lok (8, 65, 221, 0, 0, 1, 0, 9) := ⟨(List.mem_of_getElem? (i := 602) (by decide +kernel) : Cond.methodLink R_Re 65 ⟨R_Ta, "advance", "()V"⟩ ∈ lw_tbl), y_Ta_advance⟩
theorem l_8_68 : c_lok (8, 68, 217, 0, 0, 1, 1, 9) := ⟨(List.mem_of_getElem? (i := 562) (by decide +kernel) : Cond.methodLink R_Re 68 ⟨R_Ta, "place", "()I"⟩ ∈ lw_tbl), y_Ta_place⟩
theorem l_8_71 : c_lok (8, 71, 218, 0, 0, 1, 1, 9) := ⟨(List.mem_of_getElem? (i := 566) (by decide +kernel) : Cond.methodLink R_Re 71 ⟨R_Ta, "wordLength", "()I"⟩ ∈ lw_tbl), y_Ta_wordLength⟩
theorem l_8_74 : c_lok (8, 74, 199, 0, 0, 2, 1, 8) := ⟨(List.mem_of_getElem? (i := 574) (by decide +kernel) : Cond.methodLink R_Re 74 ⟨R_Re, "refuse", "(I)I"⟩ ∈ lw_tbl), y_Re_refuse⟩
theorem l_8_78 : c_lok (8, 78, 141, 0, 0, 4, 1, 2) := ⟨(List.mem_of_getElem? (i := 581) (by decide +kernel) : Cond.methodLink R_Re 78 ⟨R_Co, "find", "(LFrameBench$Tape;II)I"⟩ ∈ lw_tbl), y_Co_find⟩
theorem l_8_84 : c_lok (8, 84, 131, 0, 0, 1, 1, 2) := ⟨(List.mem_of_getElem? (i := 598) (by decide +kernel) : Cond.methodLink R_Re 84 ⟨R_Co, "full", "()Z"⟩ ∈ lw_tbl), y_Co_full⟩
theorem l_8_88 : c_lok (8, 88, 15, 1, 1, 2, 1, 0) := ⟨(List.mem_of_getElem? (i := 578) (by decide +kernel) : Cond.methodLinkNest R_Re 88 ⟨R_Fb, "faultAt", "(II)I"⟩ "FrameBench" ∈ lw_tbl), y_Fb_faultAt⟩
theorem l_8_98 : c_lok (8, 98, 201, 0, 0, 2, 1, 8) := ⟨(List.mem_of_getElem? (i := 611) (by decide +kernel) : Cond.methodLink R_Re 98 ⟨R_Re, "expression", "(I)I"⟩ ∈ lw_tbl), y_Re_expression⟩
theorem l_8_101 : c_lok (8, 101, 206, 0, 0, 1, 1, 8) := ⟨(List.mem_of_getElem? (i := 615) (by decide +kernel) : Cond.methodLink R_Re 101 ⟨R_Re, "startsPart", "()Z"⟩ ∈ lw_tbl), y_Re_startsPart⟩
theorem l_8_104 : c_lok (8, 104, 202, 0, 0, 2, 1, 8) := ⟨(List.mem_of_getElem? (i := 619) (by decide +kernel) : Cond.methodLink R_Re 104 ⟨R_Re, "binding", "(I)I"⟩ ∈ lw_tbl), y_Re_binding⟩
theorem l_8_107 : c_lok (8, 107, 203, 0, 0, 2, 1, 8) := ⟨(List.mem_of_getElem? (i := 647) (by decide +kernel) : Cond.methodLink R_Re 107 ⟨R_Re, "arrow", "(I)I"⟩ ∈ lw_tbl), y_Re_arrow⟩
theorem l_8_110 : c_lok (8, 110, 207, 0, 0, 1, 1, 8) := ⟨(List.mem_of_getElem? (i := 623) (by decide +kernel) : Cond.methodLink R_Re 110 ⟨R_Re, "countPart", "()Z"⟩ ∈ lw_tbl), y_Re_countPart⟩
theorem l_8_113 : c_lok (8, 113, 210, 0, 0, 3, 0, 8) := ⟨(List.mem_of_getElem? (i := 627) (by decide +kernel) : Cond.methodLink R_Re 113 ⟨R_Re, "enterScope", "(II)V"⟩ ∈ lw_tbl), y_Re_enterScope⟩
theorem l_8_117 : c_lok (8, 117, 211, 0, 0, 1, 0, 8) := ⟨(List.mem_of_getElem? (i := 631) (by decide +kernel) : Cond.methodLink R_Re 117 ⟨R_Re, "leaveScope", "()V"⟩ ∈ lw_tbl), y_Re_leaveScope⟩
theorem l_8_122 : c_lok (8, 122, 209, 0, 0, 6, 1, 8) := ⟨(List.mem_of_getElem? (i := 635) (by decide +kernel) : Cond.methodLink R_Re 122 ⟨R_Re, "node", "(IIIII)I"⟩ ∈ lw_tbl), y_Re_node⟩
theorem l_8_126 : c_lok (8, 126, 204, 0, 0, 2, 1, 8) := ⟨(List.mem_of_getElem? (i := 651) (by decide +kernel) : Cond.methodLink R_Re 126 ⟨R_Re, "application", "(I)I"⟩ ∈ lw_tbl), y_Re_application⟩
theorem l_8_129 : c_lok (8, 129, 205, 0, 0, 2, 1, 8) := ⟨(List.mem_of_getElem? (i := 655) (by decide +kernel) : Cond.methodLink R_Re 129 ⟨R_Re, "part", "(I)I"⟩ ∈ lw_tbl), y_Re_part⟩
theorem l_8_132 : c_lok (8, 132, 182, 0, 0, 3, 0, 6) := ⟨(List.mem_of_getElem? (i := 674) (by decide +kernel) : Cond.methodLink R_Re 132 ⟨R_No, "setSibling", "(II)V"⟩ ∈ lw_tbl), y_No_setSibling⟩
theorem l_8_135 : c_lok (8, 135, 178, 0, 0, 2, 1, 6) := ⟨(List.mem_of_getElem? (i := 678) (by decide +kernel) : Cond.methodLink R_Re 135 ⟨R_No, "place", "(I)I"⟩ ∈ lw_tbl), y_No_place⟩
theorem l_8_137 : c_lok (8, 137, 181, 0, 0, 3, 0, 6) := ⟨(List.mem_of_getElem? (i := 659) (by decide +kernel) : Cond.methodLink R_Re 137 ⟨R_No, "setPlace", "(II)V"⟩ ∈ lw_tbl), y_No_setPlace⟩
theorem l_8_140 : c_lok (8, 140, 208, 0, 0, 2, 1, 8) := ⟨(List.mem_of_getElem? (i := 663) (by decide +kernel) : Cond.methodLink R_Re 140 ⟨R_Re, "nameNode", "(I)I"⟩ ∈ lw_tbl), y_Re_nameNode⟩
theorem l_8_148 : c_lok (8, 148, 223, 0, 0, 4, 1, 9) := ⟨(List.mem_of_getElem? (i := 670) (by decide +kernel) : Cond.methodLink R_Re 148 ⟨R_Ta, "sameSigns", "(III)Z"⟩ ∈ lw_tbl), y_Ta_sameSigns⟩
theorem l_8_152 : c_lok (8, 152, 170, 0, 0, 1, 1, 6) := ⟨(List.mem_of_getElem? (i := 639) (by decide +kernel) : Cond.methodLink R_Re 152 ⟨R_No, "full", "()Z"⟩ ∈ lw_tbl), y_No_full⟩
theorem l_8_153 : c_lok (8, 153, 171, 0, 0, 6, 1, 6) := ⟨(List.mem_of_getElem? (i := 643) (by decide +kernel) : Cond.methodLink R_Re 153 ⟨R_No, "make", "(IIIII)I"⟩ ∈ lw_tbl), y_No_make⟩
theorem l_9_28 : c_lok (9, 28, 221, 0, 0, 1, 0, 9) := ⟨(List.mem_of_getElem? (i := 522) (by decide +kernel) : Cond.methodLink R_Ta 28 ⟨R_Ta, "advance", "()V"⟩ ∈ lw_tbl), y_Ta_advance⟩
theorem l_9_31 : c_lok (9, 31, 215, 0, 0, 2, 1, 9) := ⟨(List.mem_of_getElem? (i := 526) (by decide +kernel) : Cond.methodLink R_Ta 31 ⟨R_Ta, "signAt", "(I)I"⟩ ∈ lw_tbl), y_Ta_signAt⟩
theorem l_9_35 : c_lok (9, 35, 224, 0, 1, 1, 1, 0) := ⟨(List.mem_of_getElem? (i := 530) (by decide +kernel) : Cond.methodLink R_Ta 35 ⟨R_Ta, "isBlank", "(I)Z"⟩ ∈ lw_tbl), y_Ta_isBlank⟩
theorem l_9_39 : c_lok (9, 39, 16, 1, 1, 1, 1, 0) := ⟨(List.mem_of_getElem? (i := 533) (by decide +kernel) : Cond.methodLinkNest R_Ta 39 ⟨R_Fb, "isLetter", "(I)Z"⟩ "FrameBench" ∈ lw_tbl), y_Fb_isLetter⟩
theorem l_9_44 : c_lok (9, 44, 222, 0, 0, 1, 0, 9) := ⟨(List.mem_of_getElem? (i := 536) (by decide +kernel) : Cond.methodLink R_Ta 44 ⟨R_Ta, "readWord", "()V"⟩ ∈ lw_tbl), y_Ta_readWord⟩
theorem l_9_47 : c_lok (9, 47, 225, 0, 1, 1, 1, 0) := ⟨(List.mem_of_getElem? (i := 543) (by decide +kernel) : Cond.methodLink R_Ta 47 ⟨R_Ta, "isMark", "(I)Z"⟩ ∈ lw_tbl), y_Ta_isMark⟩
theorem l_9_50 : c_lok (9, 50, 17, 1, 1, 1, 1, 0) := ⟨(List.mem_of_getElem? (i := 540) (by decide +kernel) : Cond.methodLinkNest R_Ta 50 ⟨R_Fb, "isDigit", "(I)Z"⟩ "FrameBench" ∈ lw_tbl), y_Fb_isDigit⟩
theorem l_10_33 : c_lok (10, 33, 143, 0, 0, 1, 1, 2) := ⟨(List.mem_of_getElem? (i := 999) (by decide +kernel) : Cond.methodLink R_Wr 33 ⟨R_Co, "fewestXs", "()I"⟩ ∈ lw_tbl), y_Co_fewestXs⟩
theorem l_10_43 : c_lok (10, 43, 186, 0, 0, 1, 0, 7) := ⟨(List.mem_of_getElem? (i := 1012) (by decide +kernel) : Cond.methodLink R_Wr 43 ⟨R_Pa, "beginDraft", "()V"⟩ ∈ lw_tbl), y_Pa_beginDraft⟩
theorem l_10_48 : c_lok (10, 48, 227, 0, 0, 5, 0, 10) := ⟨(List.mem_of_getElem? (i := 1016) (by decide +kernel) : Cond.methodLink R_Wr 48 ⟨R_Wr, "family", "(IIII)V"⟩ ∈ lw_tbl), y_Wr_family⟩
theorem l_10_52 : c_lok (10, 52, 104, 0, 0, 3, 1, 0) := ⟨(List.mem_of_getElem? (i := 1084) (by decide +kernel) : Cond.methodLink R_Wr 52 ⟨R_Ce, "make", "(II)I"⟩ ∈ lw_tbl), y_Ce_make⟩
theorem l_10_58 : c_lok (10, 58, 229, 0, 0, 7, 0, 10) := ⟨(List.mem_of_getElem? (i := 1060) (by decide +kernel) : Cond.methodLink R_Wr 58 ⟨R_Wr, "object", "(IIIIIZ)V"⟩ ∈ lw_tbl), y_Wr_object⟩
theorem l_10_62 : c_lok (10, 62, 164, 0, 0, 1, 1, 5) := ⟨(List.mem_of_getElem? (i := 1058) (by decide +kernel) : Cond.methodLink R_Wr 62 ⟨R_Me, "trouble", "()I"⟩ ∈ lw_tbl), y_Me_trouble⟩
theorem l_10_67 : c_lok (10, 67, 188, 0, 0, 1, 0, 7) := ⟨(List.mem_of_getElem? (i := 1085) (by decide +kernel) : Cond.methodLink R_Wr 67 ⟨R_Pa, "keepDraft", "()V"⟩ ∈ lw_tbl), y_Pa_keepDraft⟩
theorem l_10_70 : c_lok (10, 70, 167, 0, 0, 2, 1, 5) := ⟨(List.mem_of_getElem? (i := 1020) (by decide +kernel) : Cond.methodLink R_Wr 70 ⟨R_Me, "question", "(I)Z"⟩ ∈ lw_tbl), y_Me_question⟩
theorem l_10_74 : c_lok (10, 74, 158, 0, 0, 3, 0, 4) := ⟨(List.mem_of_getElem? (i := 1021) (by decide +kernel) : Cond.methodLink R_Wr 74 ⟨R_Ma, "expose", "(II)V"⟩ ∈ lw_tbl), y_Ma_expose⟩
theorem l_10_80 : c_lok (10, 80, 151, 0, 0, 1, 1, 4) := ⟨(List.mem_of_getElem? (i := 1022) (by decide +kernel) : Cond.methodLink R_Wr 80 ⟨R_Ma, "shape", "()I"⟩ ∈ lw_tbl), y_Ma_shape⟩
theorem l_10_83 : c_lok (10, 83, 152, 0, 0, 1, 1, 4) := ⟨(List.mem_of_getElem? (i := 1023) (by decide +kernel) : Cond.methodLink R_Wr 83 ⟨R_Ma, "shapeScope", "()I"⟩ ∈ lw_tbl), y_Ma_shapeScope⟩
theorem l_10_86 : c_lok (10, 86, 180, 0, 0, 2, 1, 6) := ⟨(List.mem_of_getElem? (i := 1024) (by decide +kernel) : Cond.methodLink R_Wr 86 ⟨R_No, "isArrow", "(I)Z"⟩ ∈ lw_tbl), y_No_isArrow⟩
theorem l_10_91 : c_lok (10, 91, 187, 0, 0, 2, 0, 7) := ⟨(List.mem_of_getElem? (i := 1025) (by decide +kernel) : Cond.methodLink R_Wr 91 ⟨R_Pa, "put", "(I)V"⟩ ∈ lw_tbl), y_Pa_put⟩
theorem l_10_95 : c_lok (10, 95, 173, 0, 0, 2, 1, 6) := ⟨(List.mem_of_getElem? (i := 1031) (by decide +kernel) : Cond.methodLink R_Wr 95 ⟨R_No, "left", "(I)I"⟩ ∈ lw_tbl), y_No_left⟩
theorem l_10_99 : c_lok (10, 99, 228, 0, 0, 5, 0, 10) := ⟨(List.mem_of_getElem? (i := 1032) (by decide +kernel) : Cond.methodLink R_Wr 99 ⟨R_Wr, "binding", "(IIII)V"⟩ ∈ lw_tbl), y_Wr_binding⟩
theorem l_10_102 : c_lok (10, 102, 111, 0, 0, 4, 1, 0) := ⟨(List.mem_of_getElem? (i := 1042) (by decide +kernel) : Cond.methodLink R_Wr 102 ⟨R_Ce, "newVariable", "(III)I"⟩ ∈ lw_tbl), y_Ce_newVariable⟩
theorem l_10_106 : c_lok (10, 106, 113, 0, 0, 4, 1, 0) := ⟨(List.mem_of_getElem? (i := 1043) (by decide +kernel) : Cond.methodLink R_Wr 106 ⟨R_Ce, "enter", "(III)I"⟩ ∈ lw_tbl), y_Ce_enter⟩
theorem l_10_109 : c_lok (10, 109, 174, 0, 0, 2, 1, 6) := ⟨(List.mem_of_getElem? (i := 1044) (by decide +kernel) : Cond.methodLink R_Wr 109 ⟨R_No, "right", "(I)I"⟩ ∈ lw_tbl), y_No_right⟩
theorem l_10_112 : c_lok (10, 112, 232, 0, 0, 2, 0, 10) := ⟨(List.mem_of_getElem? (i := 1045) (by decide +kernel) : Cond.methodLink R_Wr 112 ⟨R_Wr, "putName", "(I)V"⟩ ∈ lw_tbl), y_Wr_putName⟩
theorem l_10_115 : c_lok (10, 115, 133, 0, 0, 2, 1, 2) := ⟨(List.mem_of_getElem? (i := 1051) (by decide +kernel) : Cond.methodLink R_Wr 115 ⟨R_Co, "typeRoot", "(I)I"⟩ ∈ lw_tbl), y_Co_typeRoot⟩
theorem l_10_118 : c_lok (10, 118, 157, 0, 0, 4, 1, 4) := ⟨(List.mem_of_getElem? (i := 1052) (by decide +kernel) : Cond.methodLink R_Wr 118 ⟨R_Ma, "push", "(III)I"⟩ ∈ lw_tbl), y_Ma_push⟩
theorem l_10_121 : c_lok (10, 121, 231, 0, 0, 6, 0, 10) := ⟨(List.mem_of_getElem? (i := 1053) (by decide +kernel) : Cond.methodLink R_Wr 121 ⟨R_Wr, "objects", "(IIIII)V"⟩ ∈ lw_tbl), y_Wr_objects⟩
theorem l_10_125 : c_lok (10, 125, 102, 0, 0, 1, 1, 0) := ⟨(List.mem_of_getElem? (i := 1036) (by decide +kernel) : Cond.methodLink R_Wr 125 ⟨R_Ce, "mark", "()I"⟩ ∈ lw_tbl), y_Ce_mark⟩
theorem l_10_128 : c_lok (10, 128, 233, 0, 0, 2, 0, 10) := ⟨(List.mem_of_getElem? (i := 1037) (by decide +kernel) : Cond.methodLink R_Wr 128 ⟨R_Wr, "putVariable", "(I)V"⟩ ∈ lw_tbl), y_Wr_putVariable⟩
theorem l_10_131 : c_lok (10, 131, 103, 0, 0, 2, 0, 0) := ⟨(List.mem_of_getElem? (i := 1041) (by decide +kernel) : Cond.methodLink R_Wr 131 ⟨R_Ce, "release", "(I)V"⟩ ∈ lw_tbl), y_Ce_release⟩
theorem l_10_134 : c_lok (10, 134, 114, 0, 0, 3, 1, 0) := ⟨(List.mem_of_getElem? (i := 1064) (by decide +kernel) : Cond.methodLink R_Wr 134 ⟨R_Ce, "append", "(II)I"⟩ ∈ lw_tbl), y_Ce_append⟩
theorem l_10_137 : c_lok (10, 137, 105, 0, 0, 2, 1, 0) := ⟨(List.mem_of_getElem? (i := 1065) (by decide +kernel) : Cond.methodLink R_Wr 137 ⟨R_Ce, "term", "(I)I"⟩ ∈ lw_tbl), y_Ce_term⟩
theorem l_10_140 : c_lok (10, 140, 106, 0, 0, 2, 1, 0) := ⟨(List.mem_of_getElem? (i := 1066) (by decide +kernel) : Cond.methodLink R_Wr 140 ⟨R_Ce, "scope", "(I)I"⟩ ∈ lw_tbl), y_Ce_scope⟩
theorem l_10_143 : c_lok (10, 143, 159, 0, 0, 4, 1, 4) := ⟨(List.mem_of_getElem? (i := 1067) (by decide +kernel) : Cond.methodLink R_Wr 143 ⟨R_Ma, "headForm", "(III)Z"⟩ ∈ lw_tbl), y_Ma_headForm⟩
theorem l_10_147 : c_lok (10, 147, 154, 0, 0, 1, 1, 4) := ⟨(List.mem_of_getElem? (i := 1068) (by decide +kernel) : Cond.methodLink R_Wr 147 ⟨R_Ma, "row", "()I"⟩ ∈ lw_tbl), y_Ma_row⟩
theorem l_10_150 : c_lok (10, 150, 153, 0, 0, 1, 1, 4) := ⟨(List.mem_of_getElem? (i := 1069) (by decide +kernel) : Cond.methodLink R_Wr 150 ⟨R_Ma, "head", "()I"⟩ ∈ lw_tbl), y_Ma_head⟩
theorem l_10_153 : c_lok (10, 153, 230, 0, 0, 2, 0, 10) := ⟨(List.mem_of_getElem? (i := 1070) (by decide +kernel) : Cond.methodLink R_Wr 153 ⟨R_Wr, "putHead", "(I)V"⟩ ∈ lw_tbl), y_Wr_putHead⟩
theorem l_10_156 : c_lok (10, 156, 155, 0, 0, 1, 1, 4) := ⟨(List.mem_of_getElem? (i := 1078) (by decide +kernel) : Cond.methodLink R_Wr 156 ⟨R_Ma, "headType", "()I"⟩ ∈ lw_tbl), y_Ma_headType⟩
theorem l_10_159 : c_lok (10, 159, 156, 0, 0, 1, 1, 4) := ⟨(List.mem_of_getElem? (i := 1079) (by decide +kernel) : Cond.methodLink R_Wr 159 ⟨R_Ma, "headTypeScope", "()I"⟩ ∈ lw_tbl), y_Ma_headTypeScope⟩
theorem l_10_162 : c_lok (10, 162, 112, 0, 0, 2, 1, 0) := ⟨(List.mem_of_getElem? (i := 1074) (by decide +kernel) : Cond.methodLink R_Wr 162 ⟨R_Ce, "numberOf", "(I)I"⟩ ∈ lw_tbl), y_Ce_numberOf⟩
theorem l_10_166 : c_lok (10, 166, 107, 0, 0, 2, 1, 0) := ⟨(List.mem_of_getElem? (i := 1059) (by decide +kernel) : Cond.methodLink R_Wr 166 ⟨R_Ce, "next", "(I)I"⟩ ∈ lw_tbl), y_Ce_next⟩
theorem l_10_169 : c_lok (10, 169, 110, 0, 0, 4, 1, 0) := ⟨(List.mem_of_getElem? (i := 1083) (by decide +kernel) : Cond.methodLink R_Wr 169 ⟨R_Ce, "bind", "(III)I"⟩ ∈ lw_tbl), y_Ce_bind⟩
theorem l_10_172 : c_lok (10, 172, 136, 0, 0, 2, 1, 2) := ⟨(List.mem_of_getElem? (i := 1049) (by decide +kernel) : Cond.methodLink R_Wr 172 ⟨R_Co, "nameLength", "(I)I"⟩ ∈ lw_tbl), y_Co_nameLength⟩
theorem l_10_175 : c_lok (10, 175, 137, 0, 0, 3, 1, 2) := ⟨(List.mem_of_getElem? (i := 1050) (by decide +kernel) : Cond.methodLink R_Wr 175 ⟨R_Co, "nameSign", "(II)I"⟩ ∈ lw_tbl), y_Co_nameSign⟩
theorem l_11_96 : c_lok (11, 96, 212, 0, 0, 2, 0, 9) := ⟨(List.mem_of_getElem? (i := 489) (by decide +kernel) : Cond.methodLink R_Fb 96 ⟨R_Ta, "append", "(J)V"⟩ ∈ lw_tbl), y_Ta_append⟩
theorem l_11_100 : c_lok (11, 100, 213, 0, 0, 1, 1, 9) := ⟨(List.mem_of_getElem? (i := 494) (by decide +kernel) : Cond.methodLink R_Fb 100 ⟨R_Ta, "length", "()I"⟩ ∈ lw_tbl), y_Ta_length⟩
theorem l_11_104 : c_lok (11, 104, 11, 0, 0, 1, 0, 11) := ⟨(List.mem_of_getElem? (i := 502) (by decide +kernel) : Cond.methodLink R_Fb 104 ⟨R_Fb, "begin", "()V"⟩ ∈ lw_tbl), y_Fb_begin⟩
theorem l_11_107 : c_lok (11, 107, 219, 0, 0, 1, 1, 9) := ⟨(List.mem_of_getElem? (i := 546) (by decide +kernel) : Cond.methodLink R_Fb 107 ⟨R_Ta, "atEnd", "()Z"⟩ ∈ lw_tbl), y_Ta_atEnd⟩
theorem l_11_111 : c_lok (11, 111, 168, 0, 0, 1, 1, 6) := ⟨(List.mem_of_getElem? (i := 550) (by decide +kernel) : Cond.methodLink R_Fb 111 ⟨R_No, "mark", "()I"⟩ ∈ lw_tbl), y_No_mark⟩
theorem l_11_114 : c_lok (11, 114, 195, 0, 0, 1, 1, 8) := ⟨(List.mem_of_getElem? (i := 554) (by decide +kernel) : Cond.methodLink R_Fb 114 ⟨R_Re, "faultOfDeclaration", "()I"⟩ ∈ lw_tbl), y_Re_faultOfDeclaration⟩
theorem l_11_117 : c_lok (11, 117, 193, 0, 0, 1, 1, 8) := ⟨(List.mem_of_getElem? (i := 682) (by decide +kernel) : Cond.methodLink R_Fb 117 ⟨R_Re, "typeRoot", "()I"⟩ ∈ lw_tbl), y_Re_typeRoot⟩
theorem l_11_120 : c_lok (11, 120, 194, 0, 0, 1, 1, 8) := ⟨(List.mem_of_getElem? (i := 686) (by decide +kernel) : Cond.methodLink R_Fb 120 ⟨R_Re, "bodyRoot", "()I"⟩ ∈ lw_tbl), y_Re_bodyRoot⟩
theorem l_11_123 : c_lok (11, 123, 117, 0, 0, 3, 1, 1) := ⟨(List.mem_of_getElem? (i := 690) (by decide +kernel) : Cond.methodLink R_Fb 123 ⟨R_Ck, "faultOfDeclaration", "(II)I"⟩ ∈ lw_tbl), y_Ck_faultOfDeclaration⟩
theorem l_11_126 : c_lok (11, 126, 191, 0, 0, 1, 1, 8) := ⟨(List.mem_of_getElem? (i := 947) (by decide +kernel) : Cond.methodLink R_Fb 126 ⟨R_Re, "namePlace", "()I"⟩ ∈ lw_tbl), y_Re_namePlace⟩
theorem l_11_129 : c_lok (11, 129, 192, 0, 0, 1, 1, 8) := ⟨(List.mem_of_getElem? (i := 951) (by decide +kernel) : Cond.methodLink R_Fb 129 ⟨R_Re, "nameLength", "()I"⟩ ∈ lw_tbl), y_Re_nameLength⟩
theorem l_11_132 : c_lok (11, 132, 138, 0, 0, 4, 0, 2) := ⟨(List.mem_of_getElem? (i := 955) (by decide +kernel) : Cond.methodLink R_Fb 132 ⟨R_Co, "name", "(LFrameBench$Tape;II)V"⟩ ∈ lw_tbl), y_Co_name⟩
theorem l_11_136 : c_lok (11, 136, 116, 0, 0, 1, 1, 1) := ⟨(List.mem_of_getElem? (i := 959) (by decide +kernel) : Cond.methodLink R_Fb 136 ⟨R_Ck, "sort", "()I"⟩ ∈ lw_tbl), y_Ck_sort⟩
theorem l_11_139 : c_lok (11, 139, 139, 0, 0, 5, 0, 2) := ⟨(List.mem_of_getElem? (i := 963) (by decide +kernel) : Cond.methodLink R_Fb 139 ⟨R_Co, "add", "(IIII)V"⟩ ∈ lw_tbl), y_Co_add⟩
theorem l_11_143 : c_lok (11, 143, 169, 0, 0, 2, 0, 6) := ⟨(List.mem_of_getElem? (i := 967) (by decide +kernel) : Cond.methodLink R_Fb 143 ⟨R_No, "release", "(I)V"⟩ ∈ lw_tbl), y_No_release⟩
theorem l_11_147 : c_lok (11, 147, 214, 0, 0, 1, 0, 9) := ⟨(List.mem_of_getElem? (i := 971) (by decide +kernel) : Cond.methodLink R_Fb 147 ⟨R_Ta, "empty", "()V"⟩ ∈ lw_tbl), y_Ta_empty⟩
theorem l_11_150 : c_lok (11, 150, 12, 0, 0, 2, 1, 11) := ⟨(List.mem_of_getElem? (i := 979) (by decide +kernel) : Cond.methodLink R_Fb 150 ⟨R_Fb, "writtenForm", "(Z)I"⟩ ∈ lw_tbl), y_Fb_writtenForm⟩
theorem l_11_154 : c_lok (11, 154, 196, 0, 0, 2, 1, 8) := ⟨(List.mem_of_getElem? (i := 983) (by decide +kernel) : Cond.methodLink R_Fb 154 ⟨R_Re, "expressionBefore", "(I)I"⟩ ∈ lw_tbl), y_Re_expressionBefore⟩
theorem l_11_158 : c_lok (11, 158, 190, 0, 0, 1, 1, 8) := ⟨(List.mem_of_getElem? (i := 987) (by decide +kernel) : Cond.methodLink R_Fb 158 ⟨R_Re, "fault", "()I"⟩ ∈ lw_tbl), y_Re_fault⟩
theorem l_11_161 : c_lok (11, 161, 118, 0, 0, 2, 1, 1) := ⟨(List.mem_of_getElem? (i := 991) (by decide +kernel) : Cond.methodLink R_Fb 161 ⟨R_Ck, "faultOfObject", "(I)I"⟩ ∈ lw_tbl), y_Ck_faultOfObject⟩
theorem l_11_164 : c_lok (11, 164, 13, 0, 0, 3, 1, 11) := ⟨(List.mem_of_getElem? (i := 1103) (by decide +kernel) : Cond.methodLink R_Fb 164 ⟨R_Fb, "comparison", "(II)I"⟩ ∈ lw_tbl), y_Fb_comparison⟩
theorem l_11_167 : c_lok (11, 167, 220, 0, 0, 1, 0, 9) := ⟨(List.mem_of_getElem? (i := 1117) (by decide +kernel) : Cond.methodLink R_Fb 167 ⟨R_Ta, "rewind", "()V"⟩ ∈ lw_tbl), y_Ta_rewind⟩
theorem l_11_170 : c_lok (11, 170, 216, 0, 0, 1, 1, 9) := ⟨(List.mem_of_getElem? (i := 1118) (by decide +kernel) : Cond.methodLink R_Fb 170 ⟨R_Ta, "token", "()I"⟩ ∈ lw_tbl), y_Ta_token⟩
theorem l_11_173 : c_lok (11, 173, 217, 0, 0, 1, 1, 9) := ⟨(List.mem_of_getElem? (i := 1119) (by decide +kernel) : Cond.methodLink R_Fb 173 ⟨R_Ta, "place", "()I"⟩ ∈ lw_tbl), y_Ta_place⟩
theorem l_11_176 : c_lok (11, 176, 218, 0, 0, 1, 1, 9) := ⟨(List.mem_of_getElem? (i := 1120) (by decide +kernel) : Cond.methodLink R_Fb 176 ⟨R_Ta, "wordLength", "()I"⟩ ∈ lw_tbl), y_Ta_wordLength⟩
theorem l_11_179 : c_lok (11, 179, 141, 0, 0, 4, 1, 2) := ⟨(List.mem_of_getElem? (i := 1121) (by decide +kernel) : Cond.methodLink R_Fb 179 ⟨R_Co, "find", "(LFrameBench$Tape;II)I"⟩ ∈ lw_tbl), y_Co_find⟩
theorem l_11_183 : c_lok (11, 183, 221, 0, 0, 1, 0, 9) := ⟨(List.mem_of_getElem? (i := 1122) (by decide +kernel) : Cond.methodLink R_Fb 183 ⟨R_Ta, "advance", "()V"⟩ ∈ lw_tbl), y_Ta_advance⟩
theorem l_11_186 : c_lok (11, 186, 130, 0, 0, 1, 1, 2) := ⟨(List.mem_of_getElem? (i := 1127) (by decide +kernel) : Cond.methodLink R_Fb 186 ⟨R_Co, "number", "()I"⟩ ∈ lw_tbl), y_Co_number⟩
theorem l_11_189 : c_lok (11, 189, 132, 0, 0, 2, 1, 2) := ⟨(List.mem_of_getElem? (i := 1131) (by decide +kernel) : Cond.methodLink R_Fb 189 ⟨R_Co, "sort", "(I)I"⟩ ∈ lw_tbl), y_Co_sort⟩
theorem l_11_191 : c_lok (11, 191, 135, 0, 0, 2, 1, 2) := ⟨(List.mem_of_getElem? (i := 1132) (by decide +kernel) : Cond.methodLink R_Fb 191 ⟨R_Co, "wanted", "(I)I"⟩ ∈ lw_tbl), y_Co_wanted⟩
theorem l_11_194 : c_lok (11, 194, 184, 0, 0, 1, 1, 7) := ⟨(List.mem_of_getElem? (i := 1143) (by decide +kernel) : Cond.methodLink R_Fb 194 ⟨R_Pa, "length", "()I"⟩ ∈ lw_tbl), y_Pa_length⟩
theorem l_11_195 : c_lok (11, 195, 185, 0, 0, 2, 1, 7) := ⟨(List.mem_of_getElem? (i := 1151) (by decide +kernel) : Cond.methodLink R_Fb 195 ⟨R_Pa, "signAt", "(I)I"⟩ ∈ lw_tbl), y_Pa_signAt⟩
theorem l_11_198 : c_lok (11, 198, 140, 0, 0, 2, 0, 2) := ⟨(List.mem_of_getElem? (i := 1159) (by decide +kernel) : Cond.methodLink R_Fb 198 ⟨R_Co, "drop", "(I)V"⟩ ∈ lw_tbl), y_Co_drop⟩
theorem l_11_201 : c_lok (11, 201, 162, 0, 0, 1, 1, 5) := ⟨(List.mem_of_getElem? (i := 1168) (by decide +kernel) : Cond.methodLink R_Fb 201 ⟨R_Me, "stepsInAll", "()I"⟩ ∈ lw_tbl), y_Me_stepsInAll⟩
theorem l_11_204 : c_lok (11, 204, 163, 0, 0, 1, 1, 5) := ⟨(List.mem_of_getElem? (i := 1172) (by decide +kernel) : Cond.methodLink R_Fb 204 ⟨R_Me, "stepsOfLatest", "()I"⟩ ∈ lw_tbl), y_Me_stepsOfLatest⟩
theorem l_11_207 : c_lok (11, 207, 161, 0, 0, 1, 0, 5) := ⟨(List.mem_of_getElem? (i := 506) (by decide +kernel) : Cond.methodLink R_Fb 207 ⟨R_Me, "begin", "()V"⟩ ∈ lw_tbl), y_Me_begin⟩
theorem l_11_208 : c_lok (11, 208, 103, 0, 0, 2, 0, 0) := ⟨(List.mem_of_getElem? (i := 510) (by decide +kernel) : Cond.methodLink R_Fb 208 ⟨R_Ce, "release", "(I)V"⟩ ∈ lw_tbl), y_Ce_release⟩
theorem l_11_209 : c_lok (11, 209, 189, 0, 0, 1, 0, 8) := ⟨(List.mem_of_getElem? (i := 514) (by decide +kernel) : Cond.methodLink R_Fb 209 ⟨R_Re, "begin", "()V"⟩ ∈ lw_tbl), y_Re_begin⟩
theorem l_11_210 : c_lok (11, 210, 226, 0, 0, 3, 0, 10) := ⟨(List.mem_of_getElem? (i := 995) (by decide +kernel) : Cond.methodLink R_Fb 210 ⟨R_Wr, "write", "(IZ)V"⟩ ∈ lw_tbl), y_Wr_write⟩
theorem l_11_214 : c_lok (11, 214, 14, 0, 0, 1, 1, 11) := ⟨(List.mem_of_getElem? (i := 1089) (by decide +kernel) : Cond.methodLink R_Fb 214 ⟨R_Fb, "troubleAtEnd", "()I"⟩ ∈ lw_tbl), y_Fb_troubleAtEnd⟩
theorem l_11_217 : c_lok (11, 217, 147, 1, 0, 6, 1, 3) := ⟨(List.mem_of_getElem? (i := 1107) (by decide +kernel) : Cond.methodLinkNest R_Fb 217 ⟨R_Ju, "families", "(IIIII)Z"⟩ "FrameBench" ∈ lw_tbl), y_Ju_families⟩
theorem l_11_221 : c_lok (11, 221, 146, 0, 0, 3, 1, 3) := ⟨(List.mem_of_getElem? (i := 1108) (by decide +kernel) : Cond.methodLink R_Fb 221 ⟨R_Ju, "sameObjects", "(II)Z"⟩ ∈ lw_tbl), y_Ju_sameObjects⟩
theorem l_11_225 : c_lok (11, 225, 164, 0, 0, 1, 1, 5) := ⟨(List.mem_of_getElem? (i := 1093) (by decide +kernel) : Cond.methodLink R_Fb 225 ⟨R_Me, "trouble", "()I"⟩ ∈ lw_tbl), y_Me_trouble⟩
theorem l_11_228 : c_lok (11, 228, 15, 0, 1, 2, 1, 0) := ⟨(List.mem_of_getElem? (i := 1094) (by decide +kernel) : Cond.methodLink R_Fb 228 ⟨R_Fb, "faultAt", "(II)I"⟩ ∈ lw_tbl), y_Fb_faultAt⟩
theorem l_12_123 : c_lok (12, 123, 19, 0, 0, 2, 0, 12) := ⟨(List.mem_of_getElem? (i := 1404) (by decide +kernel) : Cond.methodLink R_Rm 123 ⟨R_Rm, "lay", "(J)V"⟩ ∈ lw_tbl), y_Rm_lay⟩
theorem l_12_133 : c_lok (12, 133, 20, 0, 1, 1, 1, 0) := ⟨(List.mem_of_getElem? (i := 1421) (by decide +kernel) : Cond.methodLink R_Rm 133 ⟨R_Rm, "isLetter", "(I)Z"⟩ ∈ lw_tbl), y_Rm_isLetter⟩
theorem l_12_137 : c_lok (12, 137, 21, 0, 1, 1, 1, 0) := ⟨(List.mem_of_getElem? (i := 1424) (by decide +kernel) : Cond.methodLink R_Rm 137 ⟨R_Rm, "isDigit", "(I)Z"⟩ ∈ lw_tbl), y_Rm_isDigit⟩
theorem l_12_142 : c_lok (12, 142, 22, 0, 1, 1, 1, 0) := ⟨(List.mem_of_getElem? (i := 1428) (by decide +kernel) : Cond.methodLink R_Rm 142 ⟨R_Rm, "rank", "(I)I"⟩ ∈ lw_tbl), y_Rm_rank⟩
theorem l_12_146 : c_lok (12, 146, 23, 0, 1, 1, 1, 0) := ⟨(List.mem_of_getElem? (i := 1431) (by decide +kernel) : Cond.methodLink R_Rm 146 ⟨R_Rm, "isSignOf", "(I)Z"⟩ ∈ lw_tbl), y_Rm_isSignOf⟩
theorem l_12_157 : c_lok (12, 157, 26, 0, 0, 2, 1, 12) := ⟨(List.mem_of_getElem? (i := 1455) (by decide +kernel) : Cond.methodLink R_Rm 157 ⟨R_Rm, "isSign", "(I)Z"⟩ ∈ lw_tbl), y_Rm_isSign⟩
theorem l_12_160 : c_lok (12, 160, 25, 0, 0, 3, 0, 12) := ⟨(List.mem_of_getElem? (i := 1443) (by decide +kernel) : Cond.methodLink R_Rm 160 ⟨R_Rm, "wrong", "(II)V"⟩ ∈ lw_tbl), y_Rm_wrong⟩
theorem l_12_176 : c_lok (12, 176, 36, 0, 0, 1, 1, 12) := ⟨(List.mem_of_getElem? (i := 1463) (by decide +kernel) : Cond.methodLink R_Rm 176 ⟨R_Rm, "readE", "()I"⟩ ∈ lw_tbl), y_Rm_readE⟩
theorem l_12_180 : c_lok (12, 180, 35, 0, 0, 1, 1, 12) := ⟨(List.mem_of_getElem? (i := 1467) (by decide +kernel) : Cond.methodLink R_Rm 180 ⟨R_Rm, "isP", "()Z"⟩ ∈ lw_tbl), y_Rm_isP⟩
theorem l_12_184 : c_lok (12, 184, 32, 0, 0, 1, 0, 12) := ⟨(List.mem_of_getElem? (i := 1471) (by decide +kernel) : Cond.methodLink R_Rm 184 ⟨R_Rm, "within", "()V"⟩ ∈ lw_tbl), y_Rm_within⟩
theorem l_12_187 : c_lok (12, 187, 37, 0, 0, 2, 1, 12) := ⟨(List.mem_of_getElem? (i := 1475) (by decide +kernel) : Cond.methodLink R_Rm 187 ⟨R_Rm, "readBinder", "(Z)I"⟩ ∈ lw_tbl), y_Rm_readBinder⟩
theorem l_12_191 : c_lok (12, 191, 38, 0, 0, 1, 1, 12) := ⟨(List.mem_of_getElem? (i := 1487) (by decide +kernel) : Cond.methodLink R_Rm 191 ⟨R_Rm, "readA", "()I"⟩ ∈ lw_tbl), y_Rm_readA⟩
theorem l_12_194 : c_lok (12, 194, 33, 0, 0, 1, 0, 12) := ⟨(List.mem_of_getElem? (i := 1479) (by decide +kernel) : Cond.methodLink R_Rm 194 ⟨R_Rm, "counts", "()V"⟩ ∈ lw_tbl), y_Rm_counts⟩
theorem l_12_197 : c_lok (12, 197, 28, 0, 0, 1, 1, 12) := ⟨(List.mem_of_getElem? (i := 1438) (by decide +kernel) : Cond.methodLink R_Rm 197 ⟨R_Rm, "isName", "()Z"⟩ ∈ lw_tbl), y_Rm_isName⟩
theorem l_12_200 : c_lok (12, 200, 29, 0, 0, 2, 0, 12) := ⟨(List.mem_of_getElem? (i := 1451) (by decide +kernel) : Cond.methodLink R_Rm 200 ⟨R_Rm, "takeSign", "(I)V"⟩ ∈ lw_tbl), y_Rm_takeSign⟩
theorem l_12_204 : c_lok (12, 204, 30, 0, 0, 6, 1, 12) := ⟨(List.mem_of_getElem? (i := 1483) (by decide +kernel) : Cond.methodLink R_Rm 204 ⟨R_Rm, "node", "(IIIII)I"⟩ ∈ lw_tbl), y_Rm_node⟩
theorem l_12_208 : c_lok (12, 208, 39, 0, 0, 1, 1, 12) := ⟨(List.mem_of_getElem? (i := 1491) (by decide +kernel) : Cond.methodLink R_Rm 208 ⟨R_Rm, "readP", "()I"⟩ ∈ lw_tbl), y_Rm_readP⟩
theorem l_12_211 : c_lok (12, 211, 27, 0, 0, 1, 1, 12) := ⟨(List.mem_of_getElem? (i := 1495) (by decide +kernel) : Cond.methodLink R_Rm 211 ⟨R_Rm, "isType", "()Z"⟩ ∈ lw_tbl), y_Rm_isType⟩
theorem l_12_229 : c_lok (12, 229, 41, 0, 0, 3, 1, 12) := ⟨(List.mem_of_getElem? (i := 1520) (by decide +kernel) : Cond.methodLink R_Rm 229 ⟨R_Rm, "closure", "(II)I"⟩ ∈ lw_tbl), y_Rm_closure⟩
theorem l_12_240 : c_lok (12, 240, 45, 0, 0, 1, 1, 12) := ⟨(List.mem_of_getElem? (i := 1507) (by decide +kernel) : Cond.methodLink R_Rm 240 ⟨R_Rm, "step", "()Z"⟩ ∈ lw_tbl), y_Rm_step⟩
theorem l_12_250 : c_lok (12, 250, 24, 0, 0, 1, 0, 12) := ⟨(List.mem_of_getElem? (i := 1417) (by decide +kernel) : Cond.methodLink R_Rm 250 ⟨R_Rm, "cutAll", "()V"⟩ ∈ lw_tbl), y_Rm_cutAll⟩
theorem l_12_253 : c_lok (12, 253, 50, 0, 0, 3, 1, 12) := ⟨(List.mem_of_getElem? (i := 1548) (by decide +kernel) : Cond.methodLink R_Rm 253 ⟨R_Rm, "without", "(II)I"⟩ ∈ lw_tbl), y_Rm_without⟩
theorem l_12_256 : c_lok (12, 256, 42, 0, 0, 3, 1, 12) := ⟨(List.mem_of_getElem? (i := 1524) (by decide +kernel) : Cond.methodLink R_Rm 256 ⟨R_Rm, "list", "(II)I"⟩ ∈ lw_tbl), y_Rm_list⟩
theorem l_12_259 : c_lok (12, 259, 49, 0, 0, 3, 1, 12) := ⟨(List.mem_of_getElem? (i := 1552) (by decide +kernel) : Cond.methodLink R_Rm 259 ⟨R_Rm, "shown", "(II)Z"⟩ ∈ lw_tbl), y_Rm_shown⟩
theorem l_12_281 : c_lok (12, 281, 43, 0, 0, 3, 1, 12) := ⟨(List.mem_of_getElem? (i := 1608) (by decide +kernel) : Cond.methodLink R_Rm 281 ⟨R_Rm, "behind", "(II)I"⟩ ∈ lw_tbl), y_Rm_behind⟩
theorem l_12_293 : c_lok (12, 293, 53, 0, 0, 1, 1, 12) := ⟨(List.mem_of_getElem? (i := 1592) (by decide +kernel) : Cond.methodLink R_Rm 293 ⟨R_Rm, "asks", "()I"⟩ ∈ lw_tbl), y_Rm_asks⟩
theorem l_12_296 : c_lok (12, 296, 55, 0, 0, 5, 1, 12) := ⟨(List.mem_of_getElem? (i := 1596) (by decide +kernel) : Cond.methodLink R_Rm 296 ⟨R_Rm, "sameAsked", "(IIII)I"⟩ ∈ lw_tbl), y_Rm_sameAsked⟩
theorem l_12_300 : c_lok (12, 300, 48, 0, 0, 3, 1, 12) := ⟨(List.mem_of_getElem? (i := 1544) (by decide +kernel) : Cond.methodLink R_Rm 300 ⟨R_Rm, "shows", "(II)Z"⟩ ∈ lw_tbl), y_Rm_shows⟩
theorem l_12_303 : c_lok (12, 303, 57, 0, 0, 5, 1, 12) := ⟨(List.mem_of_getElem? (i := 1600) (by decide +kernel) : Cond.methodLink R_Rm 303 ⟨R_Rm, "sameSpines", "(IIII)I"⟩ ∈ lw_tbl), y_Rm_sameSpines⟩
theorem l_12_306 : c_lok (12, 306, 54, 0, 0, 5, 1, 12) := ⟨(List.mem_of_getElem? (i := 1588) (by decide +kernel) : Cond.methodLink R_Rm 306 ⟨R_Rm, "sameFamilies", "(IIII)I"⟩ ∈ lw_tbl), y_Rm_sameFamilies⟩
theorem l_12_309 : c_lok (12, 309, 44, 0, 0, 4, 1, 12) := ⟨(List.mem_of_getElem? (i := 1516) (by decide +kernel) : Cond.methodLink R_Rm 309 ⟨R_Rm, "newVar", "(III)I"⟩ ∈ lw_tbl), y_Rm_newVar⟩
theorem l_12_313 : c_lok (12, 313, 56, 0, 0, 3, 1, 12) := ⟨(List.mem_of_getElem? (i := 1604) (by decide +kernel) : Cond.methodLink R_Rm 313 ⟨R_Rm, "behindOf", "(II)I"⟩ ∈ lw_tbl), y_Rm_behindOf⟩
theorem l_12_316 : c_lok (12, 316, 58, 0, 0, 5, 1, 12) := ⟨(List.mem_of_getElem? (i := 1612) (by decide +kernel) : Cond.methodLink R_Rm 316 ⟨R_Rm, "sameBehind", "(IIII)I"⟩ ∈ lw_tbl), y_Rm_sameBehind⟩
theorem l_12_319 : c_lok (12, 319, 60, 0, 0, 7, 1, 12) := ⟨(List.mem_of_getElem? (i := 1616) (by decide +kernel) : Cond.methodLink R_Rm 319 ⟨R_Rm, "sameObjects", "(IIIIII)I"⟩ ∈ lw_tbl), y_Rm_sameObjects⟩
theorem l_12_323 : c_lok (12, 323, 59, 0, 0, 3, 1, 12) := ⟨(List.mem_of_getElem? (i := 1624) (by decide +kernel) : Cond.methodLink R_Rm 323 ⟨R_Rm, "append", "(II)I"⟩ ∈ lw_tbl), y_Rm_append⟩
theorem l_12_326 : c_lok (12, 326, 61, 0, 0, 7, 1, 12) := ⟨(List.mem_of_getElem? (i := 1620) (by decide +kernel) : Cond.methodLink R_Rm 326 ⟨R_Rm, "sameObjectsAsked", "(IIIIII)I"⟩ ∈ lw_tbl), y_Rm_sameObjectsAsked⟩
theorem l_12_329 : c_lok (12, 329, 51, 0, 0, 3, 1, 12) := ⟨(List.mem_of_getElem? (i := 1628) (by decide +kernel) : Cond.methodLink R_Rm 329 ⟨R_Rm, "heads", "(II)I"⟩ ∈ lw_tbl), y_Rm_heads⟩
theorem l_12_332 : c_lok (12, 332, 52, 0, 0, 2, 1, 12) := ⟨(List.mem_of_getElem? (i := 1632) (by decide +kernel) : Cond.methodLink R_Rm 332 ⟨R_Rm, "manyBehind", "(I)I"⟩ ∈ lw_tbl), y_Rm_manyBehind⟩
theorem l_12_335 : c_lok (12, 335, 62, 0, 0, 5, 1, 12) := ⟨(List.mem_of_getElem? (i := 1584) (by decide +kernel) : Cond.methodLink R_Rm 335 ⟨R_Rm, "equalFamilies", "(IIII)I"⟩ ∈ lw_tbl), y_Rm_equalFamilies⟩
theorem l_12_338 : c_lok (12, 338, 46, 0, 0, 2, 0, 12) := ⟨(List.mem_of_getElem? (i := 1503) (by decide +kernel) : Cond.methodLink R_Rm 338 ⟨R_Rm, "stepAt", "(I)V"⟩ ∈ lw_tbl), y_Rm_stepAt⟩
theorem l_12_341 : c_lok (12, 341, 40, 0, 0, 2, 1, 12) := ⟨(List.mem_of_getElem? (i := 1447) (by decide +kernel) : Cond.methodLink R_Rm 341 ⟨R_Rm, "constantOf", "(I)I"⟩ ∈ lw_tbl), y_Rm_constantOf⟩
theorem l_12_344 : c_lok (12, 344, 68, 0, 0, 3, 0, 12) := ⟨(List.mem_of_getElem? (i := 1499) (by decide +kernel) : Cond.methodLink R_Rm 344 ⟨R_Rm, "family", "(IZ)V"⟩ ∈ lw_tbl), y_Rm_family⟩
theorem l_12_348 : c_lok (12, 348, 64, 0, 0, 2, 0, 12) := ⟨(List.mem_of_getElem? (i := 1512) (by decide +kernel) : Cond.methodLink R_Rm 348 ⟨R_Rm, "bind", "(I)V"⟩ ∈ lw_tbl), y_Rm_bind⟩
theorem l_12_351 : c_lok (12, 351, 65, 0, 0, 1, 0, 12) := ⟨(List.mem_of_getElem? (i := 1528) (by decide +kernel) : Cond.methodLink R_Rm 351 ⟨R_Rm, "unbind", "()V"⟩ ∈ lw_tbl), y_Rm_unbind⟩
theorem l_12_354 : c_lok (12, 354, 69, 0, 0, 2, 0, 12) := ⟨(List.mem_of_getElem? (i := 1532) (by decide +kernel) : Cond.methodLink R_Rm 354 ⟨R_Rm, "familyBehind", "(I)V"⟩ ∈ lw_tbl), y_Rm_familyBehind⟩
theorem l_12_357 : c_lok (12, 357, 66, 0, 0, 2, 0, 12) := ⟨(List.mem_of_getElem? (i := 1536) (by decide +kernel) : Cond.methodLink R_Rm 357 ⟨R_Rm, "find", "(I)V"⟩ ∈ lw_tbl), y_Rm_find⟩
theorem l_12_360 : c_lok (12, 360, 67, 0, 0, 2, 1, 12) := ⟨(List.mem_of_getElem? (i := 1540) (by decide +kernel) : Cond.methodLink R_Rm 360 ⟨R_Rm, "isFamilyNode", "(I)Z"⟩ ∈ lw_tbl), y_Rm_isFamilyNode⟩
theorem l_12_366 : c_lok (12, 366, 71, 0, 0, 2, 0, 12) := ⟨(List.mem_of_getElem? (i := 1556) (by decide +kernel) : Cond.methodLink R_Rm 366 ⟨R_Rm, "object", "(I)V"⟩ ∈ lw_tbl), y_Rm_object⟩
theorem l_12_375 : c_lok (12, 375, 63, 0, 0, 6, 0, 12) := ⟨(List.mem_of_getElem? (i := 1580) (by decide +kernel) : Cond.methodLink R_Rm 375 ⟨R_Rm, "wanted", "(IIIII)V"⟩ ∈ lw_tbl), y_Rm_wanted⟩
theorem l_12_382 : c_lok (12, 382, 73, 0, 0, 2, 0, 12) := ⟨(List.mem_of_getElem? (i := 1560) (by decide +kernel) : Cond.methodLink R_Rm 382 ⟨R_Rm, "lambda", "(I)V"⟩ ∈ lw_tbl), y_Rm_lambda⟩
theorem l_12_385 : c_lok (12, 385, 74, 0, 0, 2, 0, 12) := ⟨(List.mem_of_getElem? (i := 1572) (by decide +kernel) : Cond.methodLink R_Rm 385 ⟨R_Rm, "objectBehind", "(I)V"⟩ ∈ lw_tbl), y_Rm_objectBehind⟩
theorem l_12_388 : c_lok (12, 388, 72, 0, 0, 2, 0, 12) := ⟨(List.mem_of_getElem? (i := 1636) (by decide +kernel) : Cond.methodLink R_Rm 388 ⟨R_Rm, "name", "(I)V"⟩ ∈ lw_tbl), y_Rm_name⟩
theorem l_12_391 : c_lok (12, 391, 31, 0, 0, 4, 1, 12) := ⟨(List.mem_of_getElem? (i := 1564) (by decide +kernel) : Cond.methodLink R_Rm 391 ⟨R_Rm, "typeNode", "(III)I"⟩ ∈ lw_tbl), y_Rm_typeNode⟩
theorem l_12_394 : c_lok (12, 394, 70, 0, 0, 4, 0, 12) := ⟨(List.mem_of_getElem? (i := 1568) (by decide +kernel) : Cond.methodLink R_Rm 394 ⟨R_Rm, "is", "(III)V"⟩ ∈ lw_tbl), y_Rm_is⟩
theorem l_12_398 : c_lok (12, 398, 75, 0, 0, 2, 0, 12) := ⟨(List.mem_of_getElem? (i := 1576) (by decide +kernel) : Cond.methodLink R_Rm 398 ⟨R_Rm, "oneBehind", "(I)V"⟩ ∈ lw_tbl), y_Rm_oneBehind⟩
theorem l_12_401 : c_lok (12, 401, 47, 0, 0, 1, 0, 12) := ⟨(List.mem_of_getElem? (i := 1412) (by decide +kernel) : Cond.methodLink R_Rm 401 ⟨R_Rm, "begins", "()V"⟩ ∈ lw_tbl), y_Rm_begins⟩
theorem l_12_404 : c_lok (12, 404, 77, 0, 0, 1, 0, 12) := ⟨(List.mem_of_getElem? (i := 1434) (by decide +kernel) : Cond.methodLink R_Rm 404 ⟨R_Rm, "declaration", "()V"⟩ ∈ lw_tbl), y_Rm_declaration⟩
theorem l_12_407 : c_lok (12, 407, 34, 0, 0, 1, 1, 12) := ⟨(List.mem_of_getElem? (i := 1459) (by decide +kernel) : Cond.methodLink R_Rm 407 ⟨R_Rm, "readWhole", "()I"⟩ ∈ lw_tbl), y_Rm_readWhole⟩
theorem l_12_417 : c_lok (12, 417, 79, 0, 1, 1, 1, 0) := ⟨(List.mem_of_getElem? (i := 1684) (by decide +kernel) : Cond.methodLink R_Rm 417 ⟨R_Rm, "signOf", "(I)I"⟩ ∈ lw_tbl), y_Rm_signOf⟩
theorem l_12_420 : c_lok (12, 420, 78, 0, 0, 2, 0, 12) := ⟨(List.mem_of_getElem? (i := 1668) (by decide +kernel) : Cond.methodLink R_Rm 420 ⟨R_Rm, "say", "(I)V"⟩ ∈ lw_tbl), y_Rm_say⟩
theorem l_12_426 : c_lok (12, 426, 83, 0, 0, 2, 1, 12) := ⟨(List.mem_of_getElem? (i := 1656) (by decide +kernel) : Cond.methodLink R_Rm 426 ⟨R_Rm, "isXs", "(I)Z"⟩ ∈ lw_tbl), y_Rm_isXs⟩
theorem l_12_432 : c_lok (12, 432, 84, 0, 0, 2, 0, 12) := ⟨(List.mem_of_getElem? (i := 1660) (by decide +kernel) : Cond.methodLink R_Rm 432 ⟨R_Rm, "takeLetters", "(J)V"⟩ ∈ lw_tbl), y_Rm_takeLetters⟩
theorem l_12_435 : c_lok (12, 435, 81, 0, 0, 2, 0, 12) := ⟨(List.mem_of_getElem? (i := 1672) (by decide +kernel) : Cond.methodLink R_Rm 435 ⟨R_Rm, "sayVar", "(I)V"⟩ ∈ lw_tbl), y_Rm_sayVar⟩
theorem l_12_438 : c_lok (12, 438, 85, 0, 0, 2, 1, 12) := ⟨(List.mem_of_getElem? (i := 1676) (by decide +kernel) : Cond.methodLink R_Rm 438 ⟨R_Rm, "ended", "(I)I"⟩ ∈ lw_tbl), y_Rm_ended⟩
theorem l_12_441 : c_lok (12, 441, 86, 0, 0, 4, 1, 12) := ⟨(List.mem_of_getElem? (i := 1664) (by decide +kernel) : Cond.methodLink R_Rm 441 ⟨R_Rm, "tellFamily", "(III)I"⟩ ∈ lw_tbl), y_Rm_tellFamily⟩
theorem l_12_444 : c_lok (12, 444, 80, 0, 0, 2, 0, 12) := ⟨(List.mem_of_getElem? (i := 1680) (by decide +kernel) : Cond.methodLink R_Rm 444 ⟨R_Rm, "sayPart", "(J)V"⟩ ∈ lw_tbl), y_Rm_sayPart⟩
theorem l_12_447 : c_lok (12, 447, 87, 0, 0, 5, 1, 12) := ⟨(List.mem_of_getElem? (i := 1687) (by decide +kernel) : Cond.methodLink R_Rm 447 ⟨R_Rm, "tellBehind", "(IIII)I"⟩ ∈ lw_tbl), y_Rm_tellBehind⟩
theorem l_12_450 : c_lok (12, 450, 88, 0, 0, 7, 1, 12) := ⟨(List.mem_of_getElem? (i := 1691) (by decide +kernel) : Cond.methodLink R_Rm 450 ⟨R_Rm, "tellObject", "(IIIIIZ)I"⟩ ∈ lw_tbl), y_Rm_tellObject⟩
theorem l_12_454 : c_lok (12, 454, 89, 0, 0, 5, 1, 12) := ⟨(List.mem_of_getElem? (i := 1695) (by decide +kernel) : Cond.methodLink R_Rm 454 ⟨R_Rm, "tellLambda", "(IIIZ)I"⟩ ∈ lw_tbl), y_Rm_tellLambda⟩
theorem l_12_458 : c_lok (12, 458, 90, 0, 0, 5, 1, 12) := ⟨(List.mem_of_getElem? (i := 1699) (by decide +kernel) : Cond.methodLink R_Rm 458 ⟨R_Rm, "tellHead", "(IIIZ)I"⟩ ∈ lw_tbl), y_Rm_tellHead⟩
theorem l_12_461 : c_lok (12, 461, 91, 0, 0, 1, 1, 12) := ⟨(List.mem_of_getElem? (i := 1648) (by decide +kernel) : Cond.methodLink R_Rm 461 ⟨R_Rm, "askOne", "()I"⟩ ∈ lw_tbl), y_Rm_askOne⟩
theorem l_12_464 : c_lok (12, 464, 82, 0, 0, 1, 0, 12) := ⟨(List.mem_of_getElem? (i := 1652) (by decide +kernel) : Cond.methodLink R_Rm 464 ⟨R_Rm, "countXs", "()V"⟩ ∈ lw_tbl), y_Rm_countXs⟩
theorem l_12_470 : c_lok (12, 470, 92, 0, 0, 2, 1, 12) := ⟨(List.mem_of_getElem? (i := 1644) (by decide +kernel) : Cond.methodLink R_Rm 470 ⟨R_Rm, "tell", "(Z)I"⟩ ∈ lw_tbl), y_Rm_tell⟩
def d_M0 : List c_M0 := [D_Fb_feed, D_Fb_declare, D_Fb_canon, D_Fb_type, D_Fb_equal, D_Fb_named, D_Fb_constant, D_Fb_size, D_Fb_out, D_Fb_forget, D_Fb_count, D_Fb_begin, D_Fb_writtenForm, D_Fb_comparison, D_Fb_troubleAtEnd, D_Fb_faultAt, D_Fb_isLetter, D_Fb_isDigit, D_Rm_feed, D_Rm_lay, D_Rm_isLetter, D_Rm_isDigit, D_Rm_rank, D_Rm_isSignOf, D_Rm_cutAll, D_Rm_wrong, D_Rm_isSign, D_Rm_isType, D_Rm_isName, D_Rm_takeSign, D_Rm_node, D_Rm_typeNode, D_Rm_within, D_Rm_counts, D_Rm_readWhole, D_Rm_isP, D_Rm_readE, D_Rm_readBinder, D_Rm_readA, D_Rm_readP]
theorem o_g0 : ∀ q ∈ d_M0, c_mok q := List.forall_mem_cons.mpr ⟨o_Fb_feed, List.forall_mem_cons.mpr ⟨o_Fb_declare, List.forall_mem_cons.mpr ⟨o_Fb_canon, List.forall_mem_cons.mpr ⟨o_Fb_type, List.forall_mem_cons.mpr ⟨o_Fb_equal, List.forall_mem_cons.mpr ⟨o_Fb_named, List.forall_mem_cons.mpr ⟨o_Fb_constant, List.forall_mem_cons.mpr ⟨o_Fb_size, List.forall_mem_cons.mpr ⟨o_Fb_out, List.forall_mem_cons.mpr ⟨o_Fb_forget, List.forall_mem_cons.mpr ⟨o_Fb_count, List.forall_mem_cons.mpr ⟨o_Fb_begin, List.forall_mem_cons.mpr ⟨o_Fb_writtenForm, List.forall_mem_cons.mpr ⟨o_Fb_comparison, List.forall_mem_cons.mpr ⟨o_Fb_troubleAtEnd, List.forall_mem_cons.mpr ⟨o_Fb_faultAt, List.forall_mem_cons.mpr ⟨o_Fb_isLetter, List.forall_mem_cons.mpr ⟨o_Fb_isDigit, List.forall_mem_cons.mpr ⟨o_Rm_feed, List.forall_mem_cons.mpr ⟨o_Rm_lay, List.forall_mem_cons.mpr ⟨o_Rm_isLetter, List.forall_mem_cons.mpr ⟨o_Rm_isDigit, List.forall_mem_cons.mpr ⟨o_Rm_rank, List.forall_mem_cons.mpr ⟨o_Rm_isSignOf, List.forall_mem_cons.mpr ⟨o_Rm_cutAll, List.forall_mem_cons.mpr ⟨o_Rm_wrong, List.forall_mem_cons.mpr ⟨o_Rm_isSign, List.forall_mem_cons.mpr ⟨o_Rm_isType, List.forall_mem_cons.mpr ⟨o_Rm_isName, List.forall_mem_cons.mpr ⟨o_Rm_takeSign, List.forall_mem_cons.mpr ⟨o_Rm_node, List.forall_mem_cons.mpr ⟨o_Rm_typeNode, List.forall_mem_cons.mpr ⟨o_Rm_within, List.forall_mem_cons.mpr ⟨o_Rm_counts, List.forall_mem_cons.mpr ⟨o_Rm_readWhole, List.forall_mem_cons.mpr ⟨o_Rm_isP, List.forall_mem_cons.mpr ⟨o_Rm_readE, List.forall_mem_cons.mpr ⟨o_Rm_readBinder, List.forall_mem_cons.mpr ⟨o_Rm_readA, List.forall_mem_cons.mpr ⟨o_Rm_readP, fun _ h => absurd h List.not_mem_nil⟩⟩⟩⟩⟩⟩⟩⟩⟩⟩⟩⟩⟩⟩⟩⟩⟩⟩⟩⟩⟩⟩⟩⟩⟩⟩⟩⟩⟩⟩⟩⟩⟩⟩⟩⟩⟩⟩⟩⟩
def d_M1 : List c_M0 := [D_Rm_constantOf, D_Rm_closure, D_Rm_list, D_Rm_behind, D_Rm_newVar, D_Rm_step, D_Rm_stepAt, D_Rm_begins, D_Rm_shows, D_Rm_shown, D_Rm_without, D_Rm_heads, D_Rm_manyBehind, D_Rm_asks, D_Rm_sameFamilies, D_Rm_sameAsked, D_Rm_behindOf, D_Rm_sameSpines, D_Rm_sameBehind, D_Rm_append, D_Rm_sameObjects, D_Rm_sameObjectsAsked, D_Rm_equalFamilies, D_Rm_wanted, D_Rm_bind, D_Rm_unbind, D_Rm_find, D_Rm_isFamilyNode, D_Rm_family, D_Rm_familyBehind, D_Rm_is, D_Rm_object, D_Rm_name, D_Rm_lambda, D_Rm_objectBehind, D_Rm_oneBehind, D_Rm_declare, D_Rm_declaration, D_Rm_say, D_Rm_signOf]
theorem o_g1 : ∀ q ∈ d_M1, c_mok q := List.forall_mem_cons.mpr ⟨o_Rm_constantOf, List.forall_mem_cons.mpr ⟨o_Rm_closure, List.forall_mem_cons.mpr ⟨o_Rm_list, List.forall_mem_cons.mpr ⟨o_Rm_behind, List.forall_mem_cons.mpr ⟨o_Rm_newVar, List.forall_mem_cons.mpr ⟨o_Rm_step, List.forall_mem_cons.mpr ⟨o_Rm_stepAt, List.forall_mem_cons.mpr ⟨o_Rm_begins, List.forall_mem_cons.mpr ⟨o_Rm_shows, List.forall_mem_cons.mpr ⟨o_Rm_shown, List.forall_mem_cons.mpr ⟨o_Rm_without, List.forall_mem_cons.mpr ⟨o_Rm_heads, List.forall_mem_cons.mpr ⟨o_Rm_manyBehind, List.forall_mem_cons.mpr ⟨o_Rm_asks, List.forall_mem_cons.mpr ⟨o_Rm_sameFamilies, List.forall_mem_cons.mpr ⟨o_Rm_sameAsked, List.forall_mem_cons.mpr ⟨o_Rm_behindOf, List.forall_mem_cons.mpr ⟨o_Rm_sameSpines, List.forall_mem_cons.mpr ⟨o_Rm_sameBehind, List.forall_mem_cons.mpr ⟨o_Rm_append, List.forall_mem_cons.mpr ⟨o_Rm_sameObjects, List.forall_mem_cons.mpr ⟨o_Rm_sameObjectsAsked, List.forall_mem_cons.mpr ⟨o_Rm_equalFamilies, List.forall_mem_cons.mpr ⟨o_Rm_wanted, List.forall_mem_cons.mpr ⟨o_Rm_bind, List.forall_mem_cons.mpr ⟨o_Rm_unbind, List.forall_mem_cons.mpr ⟨o_Rm_find, List.forall_mem_cons.mpr ⟨o_Rm_isFamilyNode, List.forall_mem_cons.mpr ⟨o_Rm_family, List.forall_mem_cons.mpr ⟨o_Rm_familyBehind, List.forall_mem_cons.mpr ⟨o_Rm_is, List.forall_mem_cons.mpr ⟨o_Rm_object, List.forall_mem_cons.mpr ⟨o_Rm_name, List.forall_mem_cons.mpr ⟨o_Rm_lambda, List.forall_mem_cons.mpr ⟨o_Rm_objectBehind, List.forall_mem_cons.mpr ⟨o_Rm_oneBehind, List.forall_mem_cons.mpr ⟨o_Rm_declare, List.forall_mem_cons.mpr ⟨o_Rm_declaration, List.forall_mem_cons.mpr ⟨o_Rm_say, List.forall_mem_cons.mpr ⟨o_Rm_signOf, fun _ h => absurd h List.not_mem_nil⟩⟩⟩⟩⟩⟩⟩⟩⟩⟩⟩⟩⟩⟩⟩⟩⟩⟩⟩⟩⟩⟩⟩⟩⟩⟩⟩⟩⟩⟩⟩⟩⟩⟩⟩⟩⟩⟩⟩⟩
def d_M2 : List c_M0 := [D_Rm_sayPart, D_Rm_sayVar, D_Rm_countXs, D_Rm_isXs, D_Rm_takeLetters, D_Rm_ended, D_Rm_tellFamily, D_Rm_tellBehind, D_Rm_tellObject, D_Rm_tellLambda, D_Rm_tellHead, D_Rm_askOne, D_Rm_tell, D_Rm_canon, D_Rm_type, D_Rm_equal, D_Rm_named, D_Rm_constant, D_Rm_size, D_Rm_out, D_Rm_forget, D_Rm_count, D_Ce_mark, D_Ce_release, D_Ce_make, D_Ce_term, D_Ce_scope, D_Ce_next, D_Ce_binder, D_Ce_link, D_Ce_bind, D_Ce_newVariable, D_Ce_numberOf, D_Ce_enter, D_Ce_append, D_Ce_outward, D_Ck_sort, D_Ck_faultOfDeclaration, D_Ck_faultOfObject, D_Ck_wrong]
theorem o_g2 : ∀ q ∈ d_M2, c_mok q := List.forall_mem_cons.mpr ⟨o_Rm_sayPart, List.forall_mem_cons.mpr ⟨o_Rm_sayVar, List.forall_mem_cons.mpr ⟨o_Rm_countXs, List.forall_mem_cons.mpr ⟨o_Rm_isXs, List.forall_mem_cons.mpr ⟨o_Rm_takeLetters, List.forall_mem_cons.mpr ⟨o_Rm_ended, List.forall_mem_cons.mpr ⟨o_Rm_tellFamily, List.forall_mem_cons.mpr ⟨o_Rm_tellBehind, List.forall_mem_cons.mpr ⟨o_Rm_tellObject, List.forall_mem_cons.mpr ⟨o_Rm_tellLambda, List.forall_mem_cons.mpr ⟨o_Rm_tellHead, List.forall_mem_cons.mpr ⟨o_Rm_askOne, List.forall_mem_cons.mpr ⟨o_Rm_tell, List.forall_mem_cons.mpr ⟨o_Rm_canon, List.forall_mem_cons.mpr ⟨o_Rm_type, List.forall_mem_cons.mpr ⟨o_Rm_equal, List.forall_mem_cons.mpr ⟨o_Rm_named, List.forall_mem_cons.mpr ⟨o_Rm_constant, List.forall_mem_cons.mpr ⟨o_Rm_size, List.forall_mem_cons.mpr ⟨o_Rm_out, List.forall_mem_cons.mpr ⟨o_Rm_forget, List.forall_mem_cons.mpr ⟨o_Rm_count, List.forall_mem_cons.mpr ⟨o_Ce_mark, List.forall_mem_cons.mpr ⟨o_Ce_release, List.forall_mem_cons.mpr ⟨o_Ce_make, List.forall_mem_cons.mpr ⟨o_Ce_term, List.forall_mem_cons.mpr ⟨o_Ce_scope, List.forall_mem_cons.mpr ⟨o_Ce_next, List.forall_mem_cons.mpr ⟨o_Ce_binder, List.forall_mem_cons.mpr ⟨o_Ce_link, List.forall_mem_cons.mpr ⟨o_Ce_bind, List.forall_mem_cons.mpr ⟨o_Ce_newVariable, List.forall_mem_cons.mpr ⟨o_Ce_numberOf, List.forall_mem_cons.mpr ⟨o_Ce_enter, List.forall_mem_cons.mpr ⟨o_Ce_append, List.forall_mem_cons.mpr ⟨o_Ce_outward, List.forall_mem_cons.mpr ⟨o_Ck_sort, List.forall_mem_cons.mpr ⟨o_Ck_faultOfDeclaration, List.forall_mem_cons.mpr ⟨o_Ck_faultOfObject, List.forall_mem_cons.mpr ⟨o_Ck_wrong, fun _ h => absurd h List.not_mem_nil⟩⟩⟩⟩⟩⟩⟩⟩⟩⟩⟩⟩⟩⟩⟩⟩⟩⟩⟩⟩⟩⟩⟩⟩⟩⟩⟩⟩⟩⟩⟩⟩⟩⟩⟩⟩⟩⟩⟩⟩
def d_M3 : List c_M0 := [D_Ck_step, D_Ck_classifier, D_Ck_under, D_Ck_family, D_Ck_isFamilyName, D_Ck_objectsOfFamily, D_Ck_fitting, D_Ck_object, D_Ck_bareObject, D_Ck_applied, D_Co_number, D_Co_full, D_Co_sort, D_Co_typeRoot, D_Co_bodyRoot, D_Co_wanted, D_Co_nameLength, D_Co_nameSign, D_Co_name, D_Co_add, D_Co_drop, D_Co_find, D_Co_isNamed, D_Co_fewestXs, D_Co_anyIsXsAndNumber, D_Co_isXsAndNumber, D_Ju_sameObjects, D_Ju_families, D_Ju_rows, D_Ju_meet, D_Ju_sameLength, D_Ma_shape, D_Ma_shapeScope, D_Ma_head, D_Ma_row, D_Ma_headType, D_Ma_headTypeScope, D_Ma_push, D_Ma_expose, D_Ma_headForm]
theorem o_g3 : ∀ q ∈ d_M3, c_mok q := List.forall_mem_cons.mpr ⟨o_Ck_step, List.forall_mem_cons.mpr ⟨o_Ck_classifier, List.forall_mem_cons.mpr ⟨o_Ck_under, List.forall_mem_cons.mpr ⟨o_Ck_family, List.forall_mem_cons.mpr ⟨o_Ck_isFamilyName, List.forall_mem_cons.mpr ⟨o_Ck_objectsOfFamily, List.forall_mem_cons.mpr ⟨o_Ck_fitting, List.forall_mem_cons.mpr ⟨o_Ck_object, List.forall_mem_cons.mpr ⟨o_Ck_bareObject, List.forall_mem_cons.mpr ⟨o_Ck_applied, List.forall_mem_cons.mpr ⟨o_Co_number, List.forall_mem_cons.mpr ⟨o_Co_full, List.forall_mem_cons.mpr ⟨o_Co_sort, List.forall_mem_cons.mpr ⟨o_Co_typeRoot, List.forall_mem_cons.mpr ⟨o_Co_bodyRoot, List.forall_mem_cons.mpr ⟨o_Co_wanted, List.forall_mem_cons.mpr ⟨o_Co_nameLength, List.forall_mem_cons.mpr ⟨o_Co_nameSign, List.forall_mem_cons.mpr ⟨o_Co_name, List.forall_mem_cons.mpr ⟨o_Co_add, List.forall_mem_cons.mpr ⟨o_Co_drop, List.forall_mem_cons.mpr ⟨o_Co_find, List.forall_mem_cons.mpr ⟨o_Co_isNamed, List.forall_mem_cons.mpr ⟨o_Co_fewestXs, List.forall_mem_cons.mpr ⟨o_Co_anyIsXsAndNumber, List.forall_mem_cons.mpr ⟨o_Co_isXsAndNumber, List.forall_mem_cons.mpr ⟨o_Ju_sameObjects, List.forall_mem_cons.mpr ⟨o_Ju_families, List.forall_mem_cons.mpr ⟨o_Ju_rows, List.forall_mem_cons.mpr ⟨o_Ju_meet, List.forall_mem_cons.mpr ⟨o_Ju_sameLength, List.forall_mem_cons.mpr ⟨o_Ma_shape, List.forall_mem_cons.mpr ⟨o_Ma_shapeScope, List.forall_mem_cons.mpr ⟨o_Ma_head, List.forall_mem_cons.mpr ⟨o_Ma_row, List.forall_mem_cons.mpr ⟨o_Ma_headType, List.forall_mem_cons.mpr ⟨o_Ma_headTypeScope, List.forall_mem_cons.mpr ⟨o_Ma_push, List.forall_mem_cons.mpr ⟨o_Ma_expose, List.forall_mem_cons.mpr ⟨o_Ma_headForm, fun _ h => absurd h List.not_mem_nil⟩⟩⟩⟩⟩⟩⟩⟩⟩⟩⟩⟩⟩⟩⟩⟩⟩⟩⟩⟩⟩⟩⟩⟩⟩⟩⟩⟩⟩⟩⟩⟩⟩⟩⟩⟩⟩⟩⟩⟩
def d_M4 : List c_M0 := [D_Ma_isDefinition, D_Me_begin, D_Me_stepsInAll, D_Me_stepsOfLatest, D_Me_trouble, D_Me_stop, D_Me_step, D_Me_question, D_No_mark, D_No_release, D_No_full, D_No_make, D_No_kind, D_No_left, D_No_right, D_No_sibling, D_No_token, D_No_first, D_No_place, D_No_inBrackets, D_No_isArrow, D_No_setPlace, D_No_setSibling, D_No_becomeFamily, D_Pa_length, D_Pa_signAt, D_Pa_beginDraft, D_Pa_put, D_Pa_keepDraft, D_Re_begin, D_Re_fault, D_Re_namePlace, D_Re_nameLength, D_Re_typeRoot, D_Re_bodyRoot, D_Re_faultOfDeclaration, D_Re_expressionBefore, D_Re_readNewName, D_Re_take, D_Re_refuse]
theorem o_g4 : ∀ q ∈ d_M4, c_mok q := List.forall_mem_cons.mpr ⟨o_Ma_isDefinition, List.forall_mem_cons.mpr ⟨o_Me_begin, List.forall_mem_cons.mpr ⟨o_Me_stepsInAll, List.forall_mem_cons.mpr ⟨o_Me_stepsOfLatest, List.forall_mem_cons.mpr ⟨o_Me_trouble, List.forall_mem_cons.mpr ⟨o_Me_stop, List.forall_mem_cons.mpr ⟨o_Me_step, List.forall_mem_cons.mpr ⟨o_Me_question, List.forall_mem_cons.mpr ⟨o_No_mark, List.forall_mem_cons.mpr ⟨o_No_release, List.forall_mem_cons.mpr ⟨o_No_full, List.forall_mem_cons.mpr ⟨o_No_make, List.forall_mem_cons.mpr ⟨o_No_kind, List.forall_mem_cons.mpr ⟨o_No_left, List.forall_mem_cons.mpr ⟨o_No_right, List.forall_mem_cons.mpr ⟨o_No_sibling, List.forall_mem_cons.mpr ⟨o_No_token, List.forall_mem_cons.mpr ⟨o_No_first, List.forall_mem_cons.mpr ⟨o_No_place, List.forall_mem_cons.mpr ⟨o_No_inBrackets, List.forall_mem_cons.mpr ⟨o_No_isArrow, List.forall_mem_cons.mpr ⟨o_No_setPlace, List.forall_mem_cons.mpr ⟨o_No_setSibling, List.forall_mem_cons.mpr ⟨o_No_becomeFamily, List.forall_mem_cons.mpr ⟨o_Pa_length, List.forall_mem_cons.mpr ⟨o_Pa_signAt, List.forall_mem_cons.mpr ⟨o_Pa_beginDraft, List.forall_mem_cons.mpr ⟨o_Pa_put, List.forall_mem_cons.mpr ⟨o_Pa_keepDraft, List.forall_mem_cons.mpr ⟨o_Re_begin, List.forall_mem_cons.mpr ⟨o_Re_fault, List.forall_mem_cons.mpr ⟨o_Re_namePlace, List.forall_mem_cons.mpr ⟨o_Re_nameLength, List.forall_mem_cons.mpr ⟨o_Re_typeRoot, List.forall_mem_cons.mpr ⟨o_Re_bodyRoot, List.forall_mem_cons.mpr ⟨o_Re_faultOfDeclaration, List.forall_mem_cons.mpr ⟨o_Re_expressionBefore, List.forall_mem_cons.mpr ⟨o_Re_readNewName, List.forall_mem_cons.mpr ⟨o_Re_take, List.forall_mem_cons.mpr ⟨o_Re_refuse, fun _ h => absurd h List.not_mem_nil⟩⟩⟩⟩⟩⟩⟩⟩⟩⟩⟩⟩⟩⟩⟩⟩⟩⟩⟩⟩⟩⟩⟩⟩⟩⟩⟩⟩⟩⟩⟩⟩⟩⟩⟩⟩⟩⟩⟩⟩
def d_M5 : List c_M0 := [D_Re_wholeExpression, D_Re_expression, D_Re_binding, D_Re_arrow, D_Re_application, D_Re_part, D_Re_startsPart, D_Re_countPart, D_Re_nameNode, D_Re_node, D_Re_enterScope, D_Re_leaveScope, D_Ta_append, D_Ta_length, D_Ta_empty, D_Ta_signAt, D_Ta_token, D_Ta_place, D_Ta_wordLength, D_Ta_atEnd, D_Ta_rewind, D_Ta_advance, D_Ta_readWord, D_Ta_sameSigns, D_Ta_isBlank, D_Ta_isMark, D_Wr_write, D_Wr_family, D_Wr_binding, D_Wr_object, D_Wr_putHead, D_Wr_objects, D_Wr_putName, D_Wr_putVariable]
theorem o_g5 : ∀ q ∈ d_M5, c_mok q := List.forall_mem_cons.mpr ⟨o_Re_wholeExpression, List.forall_mem_cons.mpr ⟨o_Re_expression, List.forall_mem_cons.mpr ⟨o_Re_binding, List.forall_mem_cons.mpr ⟨o_Re_arrow, List.forall_mem_cons.mpr ⟨o_Re_application, List.forall_mem_cons.mpr ⟨o_Re_part, List.forall_mem_cons.mpr ⟨o_Re_startsPart, List.forall_mem_cons.mpr ⟨o_Re_countPart, List.forall_mem_cons.mpr ⟨o_Re_nameNode, List.forall_mem_cons.mpr ⟨o_Re_node, List.forall_mem_cons.mpr ⟨o_Re_enterScope, List.forall_mem_cons.mpr ⟨o_Re_leaveScope, List.forall_mem_cons.mpr ⟨o_Ta_append, List.forall_mem_cons.mpr ⟨o_Ta_length, List.forall_mem_cons.mpr ⟨o_Ta_empty, List.forall_mem_cons.mpr ⟨o_Ta_signAt, List.forall_mem_cons.mpr ⟨o_Ta_token, List.forall_mem_cons.mpr ⟨o_Ta_place, List.forall_mem_cons.mpr ⟨o_Ta_wordLength, List.forall_mem_cons.mpr ⟨o_Ta_atEnd, List.forall_mem_cons.mpr ⟨o_Ta_rewind, List.forall_mem_cons.mpr ⟨o_Ta_advance, List.forall_mem_cons.mpr ⟨o_Ta_readWord, List.forall_mem_cons.mpr ⟨o_Ta_sameSigns, List.forall_mem_cons.mpr ⟨o_Ta_isBlank, List.forall_mem_cons.mpr ⟨o_Ta_isMark, List.forall_mem_cons.mpr ⟨o_Wr_write, List.forall_mem_cons.mpr ⟨o_Wr_family, List.forall_mem_cons.mpr ⟨o_Wr_binding, List.forall_mem_cons.mpr ⟨o_Wr_object, List.forall_mem_cons.mpr ⟨o_Wr_putHead, List.forall_mem_cons.mpr ⟨o_Wr_objects, List.forall_mem_cons.mpr ⟨o_Wr_putName, List.forall_mem_cons.mpr ⟨o_Wr_putVariable, fun _ h => absurd h List.not_mem_nil⟩⟩⟩⟩⟩⟩⟩⟩⟩⟩⟩⟩⟩⟩⟩⟩⟩⟩⟩⟩⟩⟩⟩⟩⟩⟩⟩⟩⟩⟩⟩⟩⟩⟩
set_option maxRecDepth 100000 in
theorem d_M_eq : d_M = d_M0 ++ (d_M1 ++ (d_M2 ++ (d_M3 ++ (d_M4 ++ (d_M5))))) := rfl
theorem o_all : ∀ q ∈ d_M, c_mok q := by
  rw [d_M_eq]
  exact List.forall_mem_append.mpr ⟨o_g0, List.forall_mem_append.mpr ⟨o_g1, List.forall_mem_append.mpr ⟨o_g2, List.forall_mem_append.mpr ⟨o_g3, List.forall_mem_append.mpr ⟨o_g4, o_g5⟩⟩⟩⟩⟩
def d_ML0 : List (Nat × Nat × Nat × Nat × Nat × Nat × Nat × Nat) := [(0, 33, 165, 0, 0, 2, 0, 5), (0, 39, 104, 0, 0, 3, 1, 0), (0, 43, 109, 0, 0, 3, 0, 0), (0, 47, 107, 0, 0, 2, 1, 0), (0, 51, 110, 0, 0, 4, 1, 0), (1, 42, 121, 0, 0, 4, 1, 1), (1, 48, 126, 0, 0, 5, 0, 1), (1, 52, 127, 0, 0, 3, 0, 1), (1, 56, 15, 1, 1, 2, 1, 0), (1, 60, 166, 0, 0, 1, 1, 5), (1, 66, 164, 0, 0, 1, 1, 5), (1, 70, 119, 0, 0, 3, 0, 1), (1, 73, 102, 0, 0, 1, 1, 0), (1, 80, 172, 0, 0, 2, 1, 6), (1, 84, 176, 0, 0, 2, 1, 6), (1, 87, 120, 0, 0, 2, 1, 1), (1, 90, 173, 0, 0, 2, 1, 6), (1, 93, 122, 0, 0, 3, 1, 1), (1, 96, 174, 0, 0, 2, 1, 6), (1, 99, 123, 0, 0, 3, 0, 1), (1, 102, 103, 0, 0, 2, 0, 0), (1, 106, 111, 0, 0, 4, 1, 0), (1, 110, 113, 0, 0, 4, 1, 0), (1, 113, 179, 0, 0, 2, 1, 6), (1, 116, 178, 0, 0, 2, 1, 6), (1, 119, 124, 0, 0, 2, 1, 1), (1, 122, 177, 0, 0, 2, 1, 6), (1, 125, 183, 0, 0, 3, 0, 6), (1, 128, 125, 0, 0, 4, 0, 1), (1, 132, 132, 0, 0, 2, 1, 2), (1, 134, 133, 0, 0, 2, 1, 2), (1, 137, 157, 0, 0, 4, 1, 4), (1, 142, 107, 0, 0, 2, 1, 0), (1, 145, 110, 0, 0, 4, 1, 0), (1, 148, 175, 0, 0, 2, 1, 6), (1, 151, 147, 1, 0, 6, 1, 3), (1, 157, 129, 0, 0, 3, 0, 1), (1, 160, 128, 0, 0, 2, 0, 1), (1, 163, 158, 0, 0, 3, 0, 4), (1, 166, 151, 0, 0, 1, 1, 4)]
theorem l_g0 : ∀ q ∈ d_ML0, c_lok q := List.forall_mem_cons.mpr ⟨l_0_33, List.forall_mem_cons.mpr ⟨l_0_39, List.forall_mem_cons.mpr ⟨l_0_43, List.forall_mem_cons.mpr ⟨l_0_47, List.forall_mem_cons.mpr ⟨l_0_51, List.forall_mem_cons.mpr ⟨l_1_42, List.forall_mem_cons.mpr ⟨l_1_48, List.forall_mem_cons.mpr ⟨l_1_52, List.forall_mem_cons.mpr ⟨l_1_56, List.forall_mem_cons.mpr ⟨l_1_60, List.forall_mem_cons.mpr ⟨l_1_66, List.forall_mem_cons.mpr ⟨l_1_70, List.forall_mem_cons.mpr ⟨l_1_73, List.forall_mem_cons.mpr ⟨l_1_80, List.forall_mem_cons.mpr ⟨l_1_84, List.forall_mem_cons.mpr ⟨l_1_87, List.forall_mem_cons.mpr ⟨l_1_90, List.forall_mem_cons.mpr ⟨l_1_93, List.forall_mem_cons.mpr ⟨l_1_96, List.forall_mem_cons.mpr ⟨l_1_99, List.forall_mem_cons.mpr ⟨l_1_102, List.forall_mem_cons.mpr ⟨l_1_106, List.forall_mem_cons.mpr ⟨l_1_110, List.forall_mem_cons.mpr ⟨l_1_113, List.forall_mem_cons.mpr ⟨l_1_116, List.forall_mem_cons.mpr ⟨l_1_119, List.forall_mem_cons.mpr ⟨l_1_122, List.forall_mem_cons.mpr ⟨l_1_125, List.forall_mem_cons.mpr ⟨l_1_128, List.forall_mem_cons.mpr ⟨l_1_132, List.forall_mem_cons.mpr ⟨l_1_134, List.forall_mem_cons.mpr ⟨l_1_137, List.forall_mem_cons.mpr ⟨l_1_142, List.forall_mem_cons.mpr ⟨l_1_145, List.forall_mem_cons.mpr ⟨l_1_148, List.forall_mem_cons.mpr ⟨l_1_151, List.forall_mem_cons.mpr ⟨l_1_157, List.forall_mem_cons.mpr ⟨l_1_160, List.forall_mem_cons.mpr ⟨l_1_163, List.forall_mem_cons.mpr ⟨l_1_166, fun _ h => absurd h List.not_mem_nil⟩⟩⟩⟩⟩⟩⟩⟩⟩⟩⟩⟩⟩⟩⟩⟩⟩⟩⟩⟩⟩⟩⟩⟩⟩⟩⟩⟩⟩⟩⟩⟩⟩⟩⟩⟩⟩⟩⟩⟩
set_option maxRecDepth 100000 in
theorem m_g0 : ∀ q ∈ d_ML0, ck_ml q = true := by decide +kernel
def d_ML1 : List (Nat × Nat × Nat × Nat × Nat × Nat × Nat × Nat) := [(1, 169, 152, 0, 0, 1, 1, 4), (1, 172, 180, 0, 0, 2, 1, 6), (2, 41, 133, 0, 0, 2, 1, 2), (2, 47, 172, 0, 0, 2, 1, 6), (2, 50, 174, 0, 0, 2, 1, 6), (2, 53, 215, 0, 0, 2, 1, 9), (2, 56, 169, 0, 0, 2, 0, 6), (2, 60, 136, 0, 0, 2, 1, 2), (2, 63, 142, 0, 0, 4, 1, 2), (2, 67, 137, 0, 0, 3, 1, 2), (2, 71, 144, 0, 0, 2, 1, 2), (2, 75, 145, 0, 0, 3, 1, 2), (2, 79, 17, 1, 1, 1, 1, 0), (3, 29, 104, 0, 0, 3, 1, 0), (3, 35, 149, 0, 0, 5, 1, 3), (3, 52, 148, 0, 0, 5, 1, 3), (3, 57, 167, 0, 0, 2, 1, 5), (3, 61, 158, 0, 0, 3, 0, 4), (3, 67, 151, 0, 0, 1, 1, 4), (3, 71, 152, 0, 0, 1, 1, 4), (3, 74, 180, 0, 0, 2, 1, 6), (3, 79, 102, 0, 0, 1, 1, 0), (3, 82, 173, 0, 0, 2, 1, 6), (3, 86, 147, 0, 0, 6, 1, 3), (3, 90, 103, 0, 0, 2, 0, 0), (3, 94, 111, 0, 0, 4, 1, 0), (3, 98, 113, 0, 0, 4, 1, 0), (3, 101, 174, 0, 0, 2, 1, 6), (3, 104, 172, 0, 0, 2, 1, 6), (3, 107, 133, 0, 0, 2, 1, 2), (3, 112, 157, 0, 0, 4, 1, 4), (3, 116, 107, 0, 0, 2, 1, 0), (3, 119, 164, 0, 0, 1, 1, 5), (3, 122, 114, 0, 0, 3, 1, 0), (3, 125, 105, 0, 0, 2, 1, 0), (3, 128, 106, 0, 0, 2, 1, 0), (3, 131, 159, 0, 0, 4, 1, 4), (3, 135, 153, 0, 0, 1, 1, 4), (3, 138, 154, 0, 0, 1, 1, 4), (3, 141, 155, 0, 0, 1, 1, 4)]
theorem l_g1 : ∀ q ∈ d_ML1, c_lok q := List.forall_mem_cons.mpr ⟨l_1_169, List.forall_mem_cons.mpr ⟨l_1_172, List.forall_mem_cons.mpr ⟨l_2_41, List.forall_mem_cons.mpr ⟨l_2_47, List.forall_mem_cons.mpr ⟨l_2_50, List.forall_mem_cons.mpr ⟨l_2_53, List.forall_mem_cons.mpr ⟨l_2_56, List.forall_mem_cons.mpr ⟨l_2_60, List.forall_mem_cons.mpr ⟨l_2_63, List.forall_mem_cons.mpr ⟨l_2_67, List.forall_mem_cons.mpr ⟨l_2_71, List.forall_mem_cons.mpr ⟨l_2_75, List.forall_mem_cons.mpr ⟨l_2_79, List.forall_mem_cons.mpr ⟨l_3_29, List.forall_mem_cons.mpr ⟨l_3_35, List.forall_mem_cons.mpr ⟨l_3_52, List.forall_mem_cons.mpr ⟨l_3_57, List.forall_mem_cons.mpr ⟨l_3_61, List.forall_mem_cons.mpr ⟨l_3_67, List.forall_mem_cons.mpr ⟨l_3_71, List.forall_mem_cons.mpr ⟨l_3_74, List.forall_mem_cons.mpr ⟨l_3_79, List.forall_mem_cons.mpr ⟨l_3_82, List.forall_mem_cons.mpr ⟨l_3_86, List.forall_mem_cons.mpr ⟨l_3_90, List.forall_mem_cons.mpr ⟨l_3_94, List.forall_mem_cons.mpr ⟨l_3_98, List.forall_mem_cons.mpr ⟨l_3_101, List.forall_mem_cons.mpr ⟨l_3_104, List.forall_mem_cons.mpr ⟨l_3_107, List.forall_mem_cons.mpr ⟨l_3_112, List.forall_mem_cons.mpr ⟨l_3_116, List.forall_mem_cons.mpr ⟨l_3_119, List.forall_mem_cons.mpr ⟨l_3_122, List.forall_mem_cons.mpr ⟨l_3_125, List.forall_mem_cons.mpr ⟨l_3_128, List.forall_mem_cons.mpr ⟨l_3_131, List.forall_mem_cons.mpr ⟨l_3_135, List.forall_mem_cons.mpr ⟨l_3_138, List.forall_mem_cons.mpr ⟨l_3_141, fun _ h => absurd h List.not_mem_nil⟩⟩⟩⟩⟩⟩⟩⟩⟩⟩⟩⟩⟩⟩⟩⟩⟩⟩⟩⟩⟩⟩⟩⟩⟩⟩⟩⟩⟩⟩⟩⟩⟩⟩⟩⟩⟩⟩⟩⟩
set_option maxRecDepth 100000 in
theorem m_g1 : ∀ q ∈ d_ML1, ck_ml q = true := by decide +kernel
def d_ML2 : List (Nat × Nat × Nat × Nat × Nat × Nat × Nat × Nat) := [(3, 144, 150, 0, 0, 3, 1, 3), (4, 40, 105, 0, 0, 2, 1, 0), (4, 44, 133, 0, 0, 2, 1, 2), (4, 49, 106, 0, 0, 2, 1, 0), (4, 52, 174, 0, 0, 2, 1, 6), (4, 57, 172, 0, 0, 2, 1, 6), (4, 60, 173, 0, 0, 2, 1, 6), (4, 63, 115, 0, 0, 3, 1, 0), (4, 67, 104, 0, 0, 3, 1, 0), (4, 70, 109, 0, 0, 3, 0, 0), (4, 74, 175, 0, 0, 2, 1, 6), (4, 78, 157, 0, 0, 4, 1, 4), (4, 82, 108, 0, 0, 2, 1, 0), (4, 85, 107, 0, 0, 2, 1, 0), (4, 88, 180, 0, 0, 2, 1, 6), (4, 92, 110, 0, 0, 4, 1, 0), (4, 95, 166, 0, 0, 1, 1, 5), (4, 101, 160, 0, 0, 2, 1, 4), (4, 104, 134, 0, 0, 2, 1, 2), (4, 107, 164, 0, 0, 1, 1, 5), (4, 111, 132, 0, 0, 2, 1, 2), (5, 22, 165, 0, 0, 2, 0, 5), (5, 26, 166, 0, 0, 1, 1, 5), (6, 35, 178, 0, 0, 2, 1, 6), (6, 39, 177, 0, 0, 2, 1, 6), (6, 42, 172, 0, 0, 2, 1, 6), (7, 29, 165, 0, 0, 2, 0, 5), (7, 35, 164, 0, 0, 1, 1, 5), (8, 34, 220, 0, 0, 1, 0, 9), (8, 51, 197, 0, 0, 1, 0, 8), (8, 54, 198, 0, 0, 2, 0, 8), (8, 58, 200, 0, 0, 1, 1, 8), (8, 62, 216, 0, 0, 1, 1, 9), (8, 65, 221, 0, 0, 1, 0, 9), (8, 68, 217, 0, 0, 1, 1, 9), (8, 71, 218, 0, 0, 1, 1, 9), (8, 74, 199, 0, 0, 2, 1, 8), (8, 78, 141, 0, 0, 4, 1, 2), (8, 84, 131, 0, 0, 1, 1, 2), (8, 88, 15, 1, 1, 2, 1, 0)]
theorem l_g2 : ∀ q ∈ d_ML2, c_lok q := List.forall_mem_cons.mpr ⟨l_3_144, List.forall_mem_cons.mpr ⟨l_4_40, List.forall_mem_cons.mpr ⟨l_4_44, List.forall_mem_cons.mpr ⟨l_4_49, List.forall_mem_cons.mpr ⟨l_4_52, List.forall_mem_cons.mpr ⟨l_4_57, List.forall_mem_cons.mpr ⟨l_4_60, List.forall_mem_cons.mpr ⟨l_4_63, List.forall_mem_cons.mpr ⟨l_4_67, List.forall_mem_cons.mpr ⟨l_4_70, List.forall_mem_cons.mpr ⟨l_4_74, List.forall_mem_cons.mpr ⟨l_4_78, List.forall_mem_cons.mpr ⟨l_4_82, List.forall_mem_cons.mpr ⟨l_4_85, List.forall_mem_cons.mpr ⟨l_4_88, List.forall_mem_cons.mpr ⟨l_4_92, List.forall_mem_cons.mpr ⟨l_4_95, List.forall_mem_cons.mpr ⟨l_4_101, List.forall_mem_cons.mpr ⟨l_4_104, List.forall_mem_cons.mpr ⟨l_4_107, List.forall_mem_cons.mpr ⟨l_4_111, List.forall_mem_cons.mpr ⟨l_5_22, List.forall_mem_cons.mpr ⟨l_5_26, List.forall_mem_cons.mpr ⟨l_6_35, List.forall_mem_cons.mpr ⟨l_6_39, List.forall_mem_cons.mpr ⟨l_6_42, List.forall_mem_cons.mpr ⟨l_7_29, List.forall_mem_cons.mpr ⟨l_7_35, List.forall_mem_cons.mpr ⟨l_8_34, List.forall_mem_cons.mpr ⟨l_8_51, List.forall_mem_cons.mpr ⟨l_8_54, List.forall_mem_cons.mpr ⟨l_8_58, List.forall_mem_cons.mpr ⟨l_8_62, List.forall_mem_cons.mpr ⟨l_8_65, List.forall_mem_cons.mpr ⟨l_8_68, List.forall_mem_cons.mpr ⟨l_8_71, List.forall_mem_cons.mpr ⟨l_8_74, List.forall_mem_cons.mpr ⟨l_8_78, List.forall_mem_cons.mpr ⟨l_8_84, List.forall_mem_cons.mpr ⟨l_8_88, fun _ h => absurd h List.not_mem_nil⟩⟩⟩⟩⟩⟩⟩⟩⟩⟩⟩⟩⟩⟩⟩⟩⟩⟩⟩⟩⟩⟩⟩⟩⟩⟩⟩⟩⟩⟩⟩⟩⟩⟩⟩⟩⟩⟩⟩⟩
set_option maxRecDepth 100000 in
theorem m_g2 : ∀ q ∈ d_ML2, ck_ml q = true := by decide +kernel
def d_ML3 : List (Nat × Nat × Nat × Nat × Nat × Nat × Nat × Nat) := [(8, 98, 201, 0, 0, 2, 1, 8), (8, 101, 206, 0, 0, 1, 1, 8), (8, 104, 202, 0, 0, 2, 1, 8), (8, 107, 203, 0, 0, 2, 1, 8), (8, 110, 207, 0, 0, 1, 1, 8), (8, 113, 210, 0, 0, 3, 0, 8), (8, 117, 211, 0, 0, 1, 0, 8), (8, 122, 209, 0, 0, 6, 1, 8), (8, 126, 204, 0, 0, 2, 1, 8), (8, 129, 205, 0, 0, 2, 1, 8), (8, 132, 182, 0, 0, 3, 0, 6), (8, 135, 178, 0, 0, 2, 1, 6), (8, 137, 181, 0, 0, 3, 0, 6), (8, 140, 208, 0, 0, 2, 1, 8), (8, 148, 223, 0, 0, 4, 1, 9), (8, 152, 170, 0, 0, 1, 1, 6), (8, 153, 171, 0, 0, 6, 1, 6), (9, 28, 221, 0, 0, 1, 0, 9), (9, 31, 215, 0, 0, 2, 1, 9), (9, 35, 224, 0, 1, 1, 1, 0), (9, 39, 16, 1, 1, 1, 1, 0), (9, 44, 222, 0, 0, 1, 0, 9), (9, 47, 225, 0, 1, 1, 1, 0), (9, 50, 17, 1, 1, 1, 1, 0), (10, 33, 143, 0, 0, 1, 1, 2), (10, 43, 186, 0, 0, 1, 0, 7), (10, 48, 227, 0, 0, 5, 0, 10), (10, 52, 104, 0, 0, 3, 1, 0), (10, 58, 229, 0, 0, 7, 0, 10), (10, 62, 164, 0, 0, 1, 1, 5), (10, 67, 188, 0, 0, 1, 0, 7), (10, 70, 167, 0, 0, 2, 1, 5), (10, 74, 158, 0, 0, 3, 0, 4), (10, 80, 151, 0, 0, 1, 1, 4), (10, 83, 152, 0, 0, 1, 1, 4), (10, 86, 180, 0, 0, 2, 1, 6), (10, 91, 187, 0, 0, 2, 0, 7), (10, 95, 173, 0, 0, 2, 1, 6), (10, 99, 228, 0, 0, 5, 0, 10), (10, 102, 111, 0, 0, 4, 1, 0)]
theorem l_g3 : ∀ q ∈ d_ML3, c_lok q := List.forall_mem_cons.mpr ⟨l_8_98, List.forall_mem_cons.mpr ⟨l_8_101, List.forall_mem_cons.mpr ⟨l_8_104, List.forall_mem_cons.mpr ⟨l_8_107, List.forall_mem_cons.mpr ⟨l_8_110, List.forall_mem_cons.mpr ⟨l_8_113, List.forall_mem_cons.mpr ⟨l_8_117, List.forall_mem_cons.mpr ⟨l_8_122, List.forall_mem_cons.mpr ⟨l_8_126, List.forall_mem_cons.mpr ⟨l_8_129, List.forall_mem_cons.mpr ⟨l_8_132, List.forall_mem_cons.mpr ⟨l_8_135, List.forall_mem_cons.mpr ⟨l_8_137, List.forall_mem_cons.mpr ⟨l_8_140, List.forall_mem_cons.mpr ⟨l_8_148, List.forall_mem_cons.mpr ⟨l_8_152, List.forall_mem_cons.mpr ⟨l_8_153, List.forall_mem_cons.mpr ⟨l_9_28, List.forall_mem_cons.mpr ⟨l_9_31, List.forall_mem_cons.mpr ⟨l_9_35, List.forall_mem_cons.mpr ⟨l_9_39, List.forall_mem_cons.mpr ⟨l_9_44, List.forall_mem_cons.mpr ⟨l_9_47, List.forall_mem_cons.mpr ⟨l_9_50, List.forall_mem_cons.mpr ⟨l_10_33, List.forall_mem_cons.mpr ⟨l_10_43, List.forall_mem_cons.mpr ⟨l_10_48, List.forall_mem_cons.mpr ⟨l_10_52, List.forall_mem_cons.mpr ⟨l_10_58, List.forall_mem_cons.mpr ⟨l_10_62, List.forall_mem_cons.mpr ⟨l_10_67, List.forall_mem_cons.mpr ⟨l_10_70, List.forall_mem_cons.mpr ⟨l_10_74, List.forall_mem_cons.mpr ⟨l_10_80, List.forall_mem_cons.mpr ⟨l_10_83, List.forall_mem_cons.mpr ⟨l_10_86, List.forall_mem_cons.mpr ⟨l_10_91, List.forall_mem_cons.mpr ⟨l_10_95, List.forall_mem_cons.mpr ⟨l_10_99, List.forall_mem_cons.mpr ⟨l_10_102, fun _ h => absurd h List.not_mem_nil⟩⟩⟩⟩⟩⟩⟩⟩⟩⟩⟩⟩⟩⟩⟩⟩⟩⟩⟩⟩⟩⟩⟩⟩⟩⟩⟩⟩⟩⟩⟩⟩⟩⟩⟩⟩⟩⟩⟩⟩
set_option maxRecDepth 100000 in
theorem m_g3 : ∀ q ∈ d_ML3, ck_ml q = true := by decide +kernel
def d_ML4 : List (Nat × Nat × Nat × Nat × Nat × Nat × Nat × Nat) := [(10, 106, 113, 0, 0, 4, 1, 0), (10, 109, 174, 0, 0, 2, 1, 6), (10, 112, 232, 0, 0, 2, 0, 10), (10, 115, 133, 0, 0, 2, 1, 2), (10, 118, 157, 0, 0, 4, 1, 4), (10, 121, 231, 0, 0, 6, 0, 10), (10, 125, 102, 0, 0, 1, 1, 0), (10, 128, 233, 0, 0, 2, 0, 10), (10, 131, 103, 0, 0, 2, 0, 0), (10, 134, 114, 0, 0, 3, 1, 0), (10, 137, 105, 0, 0, 2, 1, 0), (10, 140, 106, 0, 0, 2, 1, 0), (10, 143, 159, 0, 0, 4, 1, 4), (10, 147, 154, 0, 0, 1, 1, 4), (10, 150, 153, 0, 0, 1, 1, 4), (10, 153, 230, 0, 0, 2, 0, 10), (10, 156, 155, 0, 0, 1, 1, 4), (10, 159, 156, 0, 0, 1, 1, 4), (10, 162, 112, 0, 0, 2, 1, 0), (10, 166, 107, 0, 0, 2, 1, 0), (10, 169, 110, 0, 0, 4, 1, 0), (10, 172, 136, 0, 0, 2, 1, 2), (10, 175, 137, 0, 0, 3, 1, 2), (11, 96, 212, 0, 0, 2, 0, 9), (11, 100, 213, 0, 0, 1, 1, 9), (11, 104, 11, 0, 0, 1, 0, 11), (11, 107, 219, 0, 0, 1, 1, 9), (11, 111, 168, 0, 0, 1, 1, 6), (11, 114, 195, 0, 0, 1, 1, 8), (11, 117, 193, 0, 0, 1, 1, 8), (11, 120, 194, 0, 0, 1, 1, 8), (11, 123, 117, 0, 0, 3, 1, 1), (11, 126, 191, 0, 0, 1, 1, 8), (11, 129, 192, 0, 0, 1, 1, 8), (11, 132, 138, 0, 0, 4, 0, 2), (11, 136, 116, 0, 0, 1, 1, 1), (11, 139, 139, 0, 0, 5, 0, 2), (11, 143, 169, 0, 0, 2, 0, 6), (11, 147, 214, 0, 0, 1, 0, 9), (11, 150, 12, 0, 0, 2, 1, 11)]
theorem l_g4 : ∀ q ∈ d_ML4, c_lok q := List.forall_mem_cons.mpr ⟨l_10_106, List.forall_mem_cons.mpr ⟨l_10_109, List.forall_mem_cons.mpr ⟨l_10_112, List.forall_mem_cons.mpr ⟨l_10_115, List.forall_mem_cons.mpr ⟨l_10_118, List.forall_mem_cons.mpr ⟨l_10_121, List.forall_mem_cons.mpr ⟨l_10_125, List.forall_mem_cons.mpr ⟨l_10_128, List.forall_mem_cons.mpr ⟨l_10_131, List.forall_mem_cons.mpr ⟨l_10_134, List.forall_mem_cons.mpr ⟨l_10_137, List.forall_mem_cons.mpr ⟨l_10_140, List.forall_mem_cons.mpr ⟨l_10_143, List.forall_mem_cons.mpr ⟨l_10_147, List.forall_mem_cons.mpr ⟨l_10_150, List.forall_mem_cons.mpr ⟨l_10_153, List.forall_mem_cons.mpr ⟨l_10_156, List.forall_mem_cons.mpr ⟨l_10_159, List.forall_mem_cons.mpr ⟨l_10_162, List.forall_mem_cons.mpr ⟨l_10_166, List.forall_mem_cons.mpr ⟨l_10_169, List.forall_mem_cons.mpr ⟨l_10_172, List.forall_mem_cons.mpr ⟨l_10_175, List.forall_mem_cons.mpr ⟨l_11_96, List.forall_mem_cons.mpr ⟨l_11_100, List.forall_mem_cons.mpr ⟨l_11_104, List.forall_mem_cons.mpr ⟨l_11_107, List.forall_mem_cons.mpr ⟨l_11_111, List.forall_mem_cons.mpr ⟨l_11_114, List.forall_mem_cons.mpr ⟨l_11_117, List.forall_mem_cons.mpr ⟨l_11_120, List.forall_mem_cons.mpr ⟨l_11_123, List.forall_mem_cons.mpr ⟨l_11_126, List.forall_mem_cons.mpr ⟨l_11_129, List.forall_mem_cons.mpr ⟨l_11_132, List.forall_mem_cons.mpr ⟨l_11_136, List.forall_mem_cons.mpr ⟨l_11_139, List.forall_mem_cons.mpr ⟨l_11_143, List.forall_mem_cons.mpr ⟨l_11_147, List.forall_mem_cons.mpr ⟨l_11_150, fun _ h => absurd h List.not_mem_nil⟩⟩⟩⟩⟩⟩⟩⟩⟩⟩⟩⟩⟩⟩⟩⟩⟩⟩⟩⟩⟩⟩⟩⟩⟩⟩⟩⟩⟩⟩⟩⟩⟩⟩⟩⟩⟩⟩⟩⟩
set_option maxRecDepth 100000 in
theorem m_g4 : ∀ q ∈ d_ML4, ck_ml q = true := by decide +kernel
def d_ML5 : List (Nat × Nat × Nat × Nat × Nat × Nat × Nat × Nat) := [(11, 154, 196, 0, 0, 2, 1, 8), (11, 158, 190, 0, 0, 1, 1, 8), (11, 161, 118, 0, 0, 2, 1, 1), (11, 164, 13, 0, 0, 3, 1, 11), (11, 167, 220, 0, 0, 1, 0, 9), (11, 170, 216, 0, 0, 1, 1, 9), (11, 173, 217, 0, 0, 1, 1, 9), (11, 176, 218, 0, 0, 1, 1, 9), (11, 179, 141, 0, 0, 4, 1, 2), (11, 183, 221, 0, 0, 1, 0, 9), (11, 186, 130, 0, 0, 1, 1, 2), (11, 189, 132, 0, 0, 2, 1, 2), (11, 191, 135, 0, 0, 2, 1, 2), (11, 194, 184, 0, 0, 1, 1, 7), (11, 195, 185, 0, 0, 2, 1, 7), (11, 198, 140, 0, 0, 2, 0, 2), (11, 201, 162, 0, 0, 1, 1, 5), (11, 204, 163, 0, 0, 1, 1, 5), (11, 207, 161, 0, 0, 1, 0, 5), (11, 208, 103, 0, 0, 2, 0, 0), (11, 209, 189, 0, 0, 1, 0, 8), (11, 210, 226, 0, 0, 3, 0, 10), (11, 214, 14, 0, 0, 1, 1, 11), (11, 217, 147, 1, 0, 6, 1, 3), (11, 221, 146, 0, 0, 3, 1, 3), (11, 225, 164, 0, 0, 1, 1, 5), (11, 228, 15, 0, 1, 2, 1, 0), (12, 123, 19, 0, 0, 2, 0, 12), (12, 133, 20, 0, 1, 1, 1, 0), (12, 137, 21, 0, 1, 1, 1, 0), (12, 142, 22, 0, 1, 1, 1, 0), (12, 146, 23, 0, 1, 1, 1, 0), (12, 157, 26, 0, 0, 2, 1, 12), (12, 160, 25, 0, 0, 3, 0, 12), (12, 176, 36, 0, 0, 1, 1, 12), (12, 180, 35, 0, 0, 1, 1, 12), (12, 184, 32, 0, 0, 1, 0, 12), (12, 187, 37, 0, 0, 2, 1, 12), (12, 191, 38, 0, 0, 1, 1, 12), (12, 194, 33, 0, 0, 1, 0, 12)]
theorem l_g5 : ∀ q ∈ d_ML5, c_lok q := List.forall_mem_cons.mpr ⟨l_11_154, List.forall_mem_cons.mpr ⟨l_11_158, List.forall_mem_cons.mpr ⟨l_11_161, List.forall_mem_cons.mpr ⟨l_11_164, List.forall_mem_cons.mpr ⟨l_11_167, List.forall_mem_cons.mpr ⟨l_11_170, List.forall_mem_cons.mpr ⟨l_11_173, List.forall_mem_cons.mpr ⟨l_11_176, List.forall_mem_cons.mpr ⟨l_11_179, List.forall_mem_cons.mpr ⟨l_11_183, List.forall_mem_cons.mpr ⟨l_11_186, List.forall_mem_cons.mpr ⟨l_11_189, List.forall_mem_cons.mpr ⟨l_11_191, List.forall_mem_cons.mpr ⟨l_11_194, List.forall_mem_cons.mpr ⟨l_11_195, List.forall_mem_cons.mpr ⟨l_11_198, List.forall_mem_cons.mpr ⟨l_11_201, List.forall_mem_cons.mpr ⟨l_11_204, List.forall_mem_cons.mpr ⟨l_11_207, List.forall_mem_cons.mpr ⟨l_11_208, List.forall_mem_cons.mpr ⟨l_11_209, List.forall_mem_cons.mpr ⟨l_11_210, List.forall_mem_cons.mpr ⟨l_11_214, List.forall_mem_cons.mpr ⟨l_11_217, List.forall_mem_cons.mpr ⟨l_11_221, List.forall_mem_cons.mpr ⟨l_11_225, List.forall_mem_cons.mpr ⟨l_11_228, List.forall_mem_cons.mpr ⟨l_12_123, List.forall_mem_cons.mpr ⟨l_12_133, List.forall_mem_cons.mpr ⟨l_12_137, List.forall_mem_cons.mpr ⟨l_12_142, List.forall_mem_cons.mpr ⟨l_12_146, List.forall_mem_cons.mpr ⟨l_12_157, List.forall_mem_cons.mpr ⟨l_12_160, List.forall_mem_cons.mpr ⟨l_12_176, List.forall_mem_cons.mpr ⟨l_12_180, List.forall_mem_cons.mpr ⟨l_12_184, List.forall_mem_cons.mpr ⟨l_12_187, List.forall_mem_cons.mpr ⟨l_12_191, List.forall_mem_cons.mpr ⟨l_12_194, fun _ h => absurd h List.not_mem_nil⟩⟩⟩⟩⟩⟩⟩⟩⟩⟩⟩⟩⟩⟩⟩⟩⟩⟩⟩⟩⟩⟩⟩⟩⟩⟩⟩⟩⟩⟩⟩⟩⟩⟩⟩⟩⟩⟩⟩⟩
set_option maxRecDepth 100000 in
theorem m_g5 : ∀ q ∈ d_ML5, ck_ml q = true := by decide +kernel
def d_ML6 : List (Nat × Nat × Nat × Nat × Nat × Nat × Nat × Nat) := [(12, 197, 28, 0, 0, 1, 1, 12), (12, 200, 29, 0, 0, 2, 0, 12), (12, 204, 30, 0, 0, 6, 1, 12), (12, 208, 39, 0, 0, 1, 1, 12), (12, 211, 27, 0, 0, 1, 1, 12), (12, 229, 41, 0, 0, 3, 1, 12), (12, 240, 45, 0, 0, 1, 1, 12), (12, 250, 24, 0, 0, 1, 0, 12), (12, 253, 50, 0, 0, 3, 1, 12), (12, 256, 42, 0, 0, 3, 1, 12), (12, 259, 49, 0, 0, 3, 1, 12), (12, 281, 43, 0, 0, 3, 1, 12), (12, 293, 53, 0, 0, 1, 1, 12), (12, 296, 55, 0, 0, 5, 1, 12), (12, 300, 48, 0, 0, 3, 1, 12), (12, 303, 57, 0, 0, 5, 1, 12), (12, 306, 54, 0, 0, 5, 1, 12), (12, 309, 44, 0, 0, 4, 1, 12), (12, 313, 56, 0, 0, 3, 1, 12), (12, 316, 58, 0, 0, 5, 1, 12), (12, 319, 60, 0, 0, 7, 1, 12), (12, 323, 59, 0, 0, 3, 1, 12), (12, 326, 61, 0, 0, 7, 1, 12), (12, 329, 51, 0, 0, 3, 1, 12), (12, 332, 52, 0, 0, 2, 1, 12), (12, 335, 62, 0, 0, 5, 1, 12), (12, 338, 46, 0, 0, 2, 0, 12), (12, 341, 40, 0, 0, 2, 1, 12), (12, 344, 68, 0, 0, 3, 0, 12), (12, 348, 64, 0, 0, 2, 0, 12), (12, 351, 65, 0, 0, 1, 0, 12), (12, 354, 69, 0, 0, 2, 0, 12), (12, 357, 66, 0, 0, 2, 0, 12), (12, 360, 67, 0, 0, 2, 1, 12), (12, 366, 71, 0, 0, 2, 0, 12), (12, 375, 63, 0, 0, 6, 0, 12), (12, 382, 73, 0, 0, 2, 0, 12), (12, 385, 74, 0, 0, 2, 0, 12), (12, 388, 72, 0, 0, 2, 0, 12), (12, 391, 31, 0, 0, 4, 1, 12)]
theorem l_g6 : ∀ q ∈ d_ML6, c_lok q := List.forall_mem_cons.mpr ⟨l_12_197, List.forall_mem_cons.mpr ⟨l_12_200, List.forall_mem_cons.mpr ⟨l_12_204, List.forall_mem_cons.mpr ⟨l_12_208, List.forall_mem_cons.mpr ⟨l_12_211, List.forall_mem_cons.mpr ⟨l_12_229, List.forall_mem_cons.mpr ⟨l_12_240, List.forall_mem_cons.mpr ⟨l_12_250, List.forall_mem_cons.mpr ⟨l_12_253, List.forall_mem_cons.mpr ⟨l_12_256, List.forall_mem_cons.mpr ⟨l_12_259, List.forall_mem_cons.mpr ⟨l_12_281, List.forall_mem_cons.mpr ⟨l_12_293, List.forall_mem_cons.mpr ⟨l_12_296, List.forall_mem_cons.mpr ⟨l_12_300, List.forall_mem_cons.mpr ⟨l_12_303, List.forall_mem_cons.mpr ⟨l_12_306, List.forall_mem_cons.mpr ⟨l_12_309, List.forall_mem_cons.mpr ⟨l_12_313, List.forall_mem_cons.mpr ⟨l_12_316, List.forall_mem_cons.mpr ⟨l_12_319, List.forall_mem_cons.mpr ⟨l_12_323, List.forall_mem_cons.mpr ⟨l_12_326, List.forall_mem_cons.mpr ⟨l_12_329, List.forall_mem_cons.mpr ⟨l_12_332, List.forall_mem_cons.mpr ⟨l_12_335, List.forall_mem_cons.mpr ⟨l_12_338, List.forall_mem_cons.mpr ⟨l_12_341, List.forall_mem_cons.mpr ⟨l_12_344, List.forall_mem_cons.mpr ⟨l_12_348, List.forall_mem_cons.mpr ⟨l_12_351, List.forall_mem_cons.mpr ⟨l_12_354, List.forall_mem_cons.mpr ⟨l_12_357, List.forall_mem_cons.mpr ⟨l_12_360, List.forall_mem_cons.mpr ⟨l_12_366, List.forall_mem_cons.mpr ⟨l_12_375, List.forall_mem_cons.mpr ⟨l_12_382, List.forall_mem_cons.mpr ⟨l_12_385, List.forall_mem_cons.mpr ⟨l_12_388, List.forall_mem_cons.mpr ⟨l_12_391, fun _ h => absurd h List.not_mem_nil⟩⟩⟩⟩⟩⟩⟩⟩⟩⟩⟩⟩⟩⟩⟩⟩⟩⟩⟩⟩⟩⟩⟩⟩⟩⟩⟩⟩⟩⟩⟩⟩⟩⟩⟩⟩⟩⟩⟩⟩
set_option maxRecDepth 100000 in
theorem m_g6 : ∀ q ∈ d_ML6, ck_ml q = true := by decide +kernel
def d_ML7 : List (Nat × Nat × Nat × Nat × Nat × Nat × Nat × Nat) := [(12, 394, 70, 0, 0, 4, 0, 12), (12, 398, 75, 0, 0, 2, 0, 12), (12, 401, 47, 0, 0, 1, 0, 12), (12, 404, 77, 0, 0, 1, 0, 12), (12, 407, 34, 0, 0, 1, 1, 12), (12, 417, 79, 0, 1, 1, 1, 0), (12, 420, 78, 0, 0, 2, 0, 12), (12, 426, 83, 0, 0, 2, 1, 12), (12, 432, 84, 0, 0, 2, 0, 12), (12, 435, 81, 0, 0, 2, 0, 12), (12, 438, 85, 0, 0, 2, 1, 12), (12, 441, 86, 0, 0, 4, 1, 12), (12, 444, 80, 0, 0, 2, 0, 12), (12, 447, 87, 0, 0, 5, 1, 12), (12, 450, 88, 0, 0, 7, 1, 12), (12, 454, 89, 0, 0, 5, 1, 12), (12, 458, 90, 0, 0, 5, 1, 12), (12, 461, 91, 0, 0, 1, 1, 12), (12, 464, 82, 0, 0, 1, 0, 12), (12, 470, 92, 0, 0, 2, 1, 12)]
theorem l_g7 : ∀ q ∈ d_ML7, c_lok q := List.forall_mem_cons.mpr ⟨l_12_394, List.forall_mem_cons.mpr ⟨l_12_398, List.forall_mem_cons.mpr ⟨l_12_401, List.forall_mem_cons.mpr ⟨l_12_404, List.forall_mem_cons.mpr ⟨l_12_407, List.forall_mem_cons.mpr ⟨l_12_417, List.forall_mem_cons.mpr ⟨l_12_420, List.forall_mem_cons.mpr ⟨l_12_426, List.forall_mem_cons.mpr ⟨l_12_432, List.forall_mem_cons.mpr ⟨l_12_435, List.forall_mem_cons.mpr ⟨l_12_438, List.forall_mem_cons.mpr ⟨l_12_441, List.forall_mem_cons.mpr ⟨l_12_444, List.forall_mem_cons.mpr ⟨l_12_447, List.forall_mem_cons.mpr ⟨l_12_450, List.forall_mem_cons.mpr ⟨l_12_454, List.forall_mem_cons.mpr ⟨l_12_458, List.forall_mem_cons.mpr ⟨l_12_461, List.forall_mem_cons.mpr ⟨l_12_464, List.forall_mem_cons.mpr ⟨l_12_470, fun _ h => absurd h List.not_mem_nil⟩⟩⟩⟩⟩⟩⟩⟩⟩⟩⟩⟩⟩⟩⟩⟩⟩⟩⟩⟩
set_option maxRecDepth 100000 in
theorem m_g7 : ∀ q ∈ d_ML7, ck_ml q = true := by decide +kernel
set_option maxRecDepth 100000 in
theorem d_ML_eq : d_ML = d_ML0 ++ (d_ML1 ++ (d_ML2 ++ (d_ML3 ++ (d_ML4 ++ (d_ML5 ++ (d_ML6 ++ (d_ML7))))))) := rfl
theorem l_all : ∀ q ∈ d_ML, c_lok q := by
  rw [d_ML_eq]
  exact List.forall_mem_append.mpr ⟨l_g0, List.forall_mem_append.mpr ⟨l_g1, List.forall_mem_append.mpr ⟨l_g2, List.forall_mem_append.mpr ⟨l_g3, List.forall_mem_append.mpr ⟨l_g4, List.forall_mem_append.mpr ⟨l_g5, List.forall_mem_append.mpr ⟨l_g6, l_g7⟩⟩⟩⟩⟩⟩⟩
theorem k_ml : ∀ q ∈ d_ML, ck_ml q = true := by
  rw [d_ML_eq]
  exact List.forall_mem_append.mpr ⟨m_g0, List.forall_mem_append.mpr ⟨m_g1, List.forall_mem_append.mpr ⟨m_g2, List.forall_mem_append.mpr ⟨m_g3, List.forall_mem_append.mpr ⟨m_g4, List.forall_mem_append.mpr ⟨m_g5, List.forall_mem_append.mpr ⟨m_g6, m_g7⟩⟩⟩⟩⟩⟩⟩
end
section
/-! the real heap's picture of a state of numbers; locals; what a contract says -/
def dv (a : Nat → Nat) : c_V → Value
  | .inl x => .int x
  | .inr (.inl x) => .long x
  | .inr (.inr k) => .ref (a k)
def c_dl (a : Nat → Nat) (l : c_L) : List (Nat × Value) := l.map (fun q => (q.1, dv a q.2))
def c_wf (a : Nat → Nat) (f : Nat → Int32) : Nat → List Nat → List Value
  | _, [] => []
  | j, n :: t => (match n with
    | n + 2 => Value.ref (a n)
    | _ => Value.int (f j)) :: c_wf a f (j + 1) t
def c_we (a : Nat → Nat) (cA : FieldType → ClassId) (σ : c_S) (k : Nat) : c_D → va_E
  | .inl (ci, sl) => .inr (ci, c_wf a (σ.1 k) 0 sl)
  | .inr (ty, n) => .inl (cA ty, n, if ty = .long then .inr (.inl (σ.2 k)) else .inl (σ.1 k))
def c_wl (a : Nat → Nat) (cA : FieldType → ClassId) (σ : c_S) : Nat → List c_D → va_W
  | _, [] => []
  | k, q :: t => (a k, c_we a cA σ k q) :: c_wl a cA σ (k + 1) t
abbrev c_wld (a : Nat → Nat) (cA : FieldType → ClassId) (σ : c_S) : va_W := c_wl a cA σ 0 d_CT
def c_tys (cA : FieldType → ClassId) : List (ClassId × FieldType) := [(cA .int, .int), (cA .char, .char), (cA .boolean, .boolean), (cA .long, .long)]
def c_isN (w : Cond) : Bool := match w with
  | .methodLinkNest _ _ _ _ => true
  | _ => false
def c_NW (U : State) : Prop := ∀ w ∈ lw_tbl, c_isN w = true → va_Nw w U
def c_A (a : Nat → Nat) (sz : Nat) : Nat → Prop := fun q => (∃ k, k < 70 ∧ q = a k) ∨ sz ≤ q
def c_inj (a : Nat → Nat) : Prop := ∀ i j, i < 70 → j < 70 → a i = a j → i = j
def c_rm (d : Nat) : Room := { frames := d, cells := 0, slots := 0, locals := 45 * d }
def c_rt (rb : Nat) : Option FieldType := match rb with
  | 0 => none
  | 1 => some .int
  | _ + 2 => some .boolean
def c_Pc (a : Nat → Nat) (cA : FieldType → ClassId) (D : va_G) (sz : Nat) (as : List c_V) (σ : c_S) : Array Value → State → Prop :=
  va_Pc (as.map (dv a)) (fun U => U.heap.size = sz ∧ va_P D d_CL (c_wld a cA σ) U.heap ∧ va_K D d_CL (c_tys cA) U ∧ c_NW U)
def c_Q (a : Nat → Nat) (cA : FieldType → ClassId) (D : va_G) (A : Nat → Prop) (rb : Nat) (x : c_S × Int32) : Array Value → State → Outcome → State → Prop := match rb with
  | 0 => va_Qv (S := Unit) (fun _ => True) (fun _ t => va_P D d_CL (c_wld a cA x.1) t.heap) A
  | _ + 1 => va_Qi (S := Unit) (fun r _ => r = x.2) (fun _ t => va_P D d_CL (c_wld a cA x.1) t.heap) A
def c_Con (l : Launch) (a : Nat → Nat) (cA : FieldType → ClassId) (D : va_G) (d t : Nat) (as : List c_V) (σ : c_S) (x : c_S × Int32) : Prop :=
  ∃ q : c_M0, c_nth d_M t = some q ∧ ∀ sz : Nat, Met l q.2.2.2.2.1 (Cond.code q.2.2.2.2.1 q.2.2.2.2.2.1 q.2.2.2.2.2.2.1 q.2.2.2.2.2.2.2 :: lw_g) (c_rm d) (c_Pc a cA D sz as σ) (c_Q a cA D (c_A a sz) q.2.2.1 x) 0 0 (c_A a sz)
section WW
variable {a : Nat → Nat} {cA : FieldType → ClassId} {σ σ' : c_S}
theorem c_wl_get : ∀ (l : List c_D) (k0 j : Nat), (c_wl a cA σ k0 l)[j]? = (c_nth l j).map (fun q => (a (k0 + j), c_we a cA σ (k0 + j) q))
  | [], _, _ => by simp [c_wl, c_nth]
  | q :: t, k0, 0 => by simp [c_wl, c_nth]
  | q :: t, k0, j + 1 => by
    simp only [c_wl, c_nth, List.getElem?_cons_succ]
    rw [c_wl_get t (k0 + 1) j, show k0 + 1 + j = k0 + (j + 1) by omega]
theorem c_wld_get (j : Nat) : (c_wld a cA σ)[j]? = (c_nth d_CT j).map (fun q => (a j, c_we a cA σ j q)) := by
  rw [c_wl_get]; simp
theorem c_wf_get {f : Nat → Int32} : ∀ (sl : List Nat) (j0 t : Nat), (c_wf a f j0 sl)[t]? = (c_nth sl t).map (fun n => match n with
    | n + 2 => Value.ref (a n)
    | _ => Value.int (f (j0 + t)))
  | [], _, _ => by simp [c_wf, c_nth]
  | n :: sl, j0, 0 => by simp [c_wf, c_nth]
  | n :: sl, j0, t + 1 => by
    simp only [c_wf, c_nth, List.getElem?_cons_succ]
    rw [c_wf_get sl (j0 + 1) t, show j0 + 1 + t = j0 + (t + 1) by omega]
theorem c_wf_len {f : Nat → Int32} : ∀ (sl : List Nat) (j0 : Nat), (c_wf a f j0 sl).length = sl.length
  | [], _ => rfl
  | n :: sl, j0 => by simp [c_wf, c_wf_len sl]
theorem c_nth_lt {α : Type} : ∀ {l : List α} {i : Nat} {x : α}, c_nth l i = some x → i < l.length
  | [], _, _, h => by simp [c_nth] at h
  | _ :: _, 0, _, _ => by simp
  | _ :: t, i + 1, _, h => by
    have := c_nth_lt (l := t) (i := i) h
    simp only [List.length_cons]; omega
theorem c_nth_eq {α : Type} : ∀ (l : List α) (i : Nat), c_nth l i = l[i]?
  | [], _ => by simp [c_nth]
  | _ :: _, 0 => by simp [c_nth]
  | _ :: t, i + 1 => by simp [c_nth, c_nth_eq t i]
theorem c_nth_mem {α : Type} {l : List α} {i : Nat} {x : α} (h : c_nth l i = some x) : x ∈ l := by
  rw [c_nth_eq] at h; exact List.mem_of_getElem? h
theorem c_wf_set {f : Nat → Int32} {sl : List Nat} {t n : Nat} {x : Int32} (hn : c_nth sl t = some n) (h2 : n < 2) : c_wf a (upd f t x) 0 sl = (c_wf a f 0 sl).set t (.int x) := by
  apply List.ext_getElem?
  intro i
  rw [c_wf_get, List.getElem?_set, c_wf_get, c_wf_len]
  by_cases hi : t = i
  · subst hi
    rw [if_pos rfl, if_pos (c_nth_lt hn), hn]
    rcases n with _ | _ | n
    · simp [upd]
    · simp [upd]
    · omega
  · rw [if_neg hi]
    have hu : upd f t x (0 + i) = f (0 + i) := by simp [upd]; omega
    rw [hu]
theorem c_we_congr {k : Nat} (h1 : σ'.1 k = σ.1 k) (h2 : σ'.2 k = σ.2 k) (q : c_D) : c_we a cA σ' k q = c_we a cA σ k q := by
  rcases q with ⟨ci, sl⟩ | ⟨ty, n⟩ <;> simp only [c_we, h1, h2]
theorem c_wld_upd {k : Nat} {q : c_D} (h1 : ∀ i, i ≠ k → σ'.1 i = σ.1 i) (h2 : ∀ i, i ≠ k → σ'.2 i = σ.2 i) (hq : c_nth d_CT k = some q) : c_wld a cA σ' = (c_wld a cA σ).set k (a k, c_we a cA σ' k q) := by
  apply List.ext_getElem?
  intro i
  rw [c_wld_get, List.getElem?_set, c_wld_get]
  by_cases hi : k = i
  · subst hi
    have hlt : k < (c_wld a cA σ).length := by
      rcases Nat.lt_or_ge k (c_wld a cA σ).length with h | h
      · exact h
      · have := List.getElem?_eq_none h
        rw [c_wld_get, hq] at this
        cases this
    rw [if_pos rfl, if_pos hlt, hq]; rfl
  · rw [if_neg hi]
    rw [funext (f := fun q => (a i, c_we a cA σ' i q)) (fun q => by rw [c_we_congr (h1 i (Ne.symm hi)) (h2 i (Ne.symm hi)) q])]
theorem c_beq {i k : Nat} : Nat.beq i k = true ↔ i = k := by simp
theorem c_put_ne {k j i : Nat} {x : Int32} (h : i ≠ k) : (c_put σ k j x).1 i = σ.1 i := by
  have hb : Nat.beq i k = false := by
    cases hb : Nat.beq i k
    · rfl
    · exact absurd (c_beq.mp hb) h
  simp only [c_put, hb]
theorem c_put_eq {k j : Nat} {x : Int32} : (c_put σ k j x).1 k = upd (σ.1 k) j x := by
  have hb : Nat.beq k k = true := c_beq.mpr rfl
  simp only [c_put, hb]
theorem c_putL_ne {k j i : Nat} {x : Int64} (h : i ≠ k) : (c_putL σ k j x).2 i = σ.2 i := by
  have hb : Nat.beq i k = false := by
    cases hb : Nat.beq i k
    · rfl
    · exact absurd (c_beq.mp hb) h
  simp only [c_putL, hb]
theorem c_putL_eq {k j : Nat} {x : Int64} : (c_putL σ k j x).2 k = vp_updL (σ.2 k) j x := by
  have hb : Nat.beq k k = true := c_beq.mpr rfl
  simp only [c_putL, hb]
theorem d_CT_len : d_CT.length = 70 := by decide
theorem c_D_of {sz : Nat} (hi : c_inj a) : va_D (c_A a sz) (c_wld a cA σ) := by
  constructor
  · intro i j p q h1 h2 h3
    rw [c_wld_get] at h1 h2
    cases hq1 : c_nth d_CT i with
    | none => rw [hq1] at h1; cases h1
    | some q1 =>
      cases hq2 : c_nth d_CT j with
      | none => rw [hq2] at h2; cases h2
      | some q2 =>
        rw [hq1] at h1; rw [hq2] at h2
        cases h1; cases h2
        have l1 := c_nth_lt hq1
        have l2 := c_nth_lt hq2
        rw [d_CT_len] at l1 l2
        exact hi i j l1 l2 h3
  · intro k q h
    rw [c_wld_get] at h
    cases hq1 : c_nth d_CT k with
    | none => rw [hq1] at h; cases h
    | some q1 =>
      rw [hq1] at h; cases h
      have l1 := c_nth_lt hq1
      rw [d_CT_len] at l1
      exact Or.inl ⟨k, l1, rfl⟩
theorem c_lk_mem {α : Type} : ∀ {l : List (Nat × α)} {i : Nat} {v : α}, c_lk l i = some v → (i, v) ∈ l
  | [], _, _, h => by simp [c_lk] at h
  | (j, w) :: t, i, v, h => by
    rw [c_lk] at h
    cases hb : Nat.beq j i
    · rw [hb] at h; exact List.mem_cons_of_mem _ (c_lk_mem h)
    · rw [hb] at h; cases h
      rw [c_beq.mp hb]; exact List.mem_cons_self
theorem c_fil_mem {p : Nat → c_V → Bool} : ∀ {l : c_L} {q : Nat × c_V}, q ∈ c_fil p l → q ∈ l ∧ p q.1 q.2 = true
  | [], _, h => by cases h
  | (j, w) :: t, q, h => by
    rw [c_fil] at h
    cases hb : p j w
    · rw [hb] at h
      exact ⟨List.mem_cons_of_mem _ (c_fil_mem h).1, (c_fil_mem h).2⟩
    · rw [hb] at h
      rcases List.mem_cons.mp h with h | h
      · rw [h]; exact ⟨List.mem_cons_self, hb⟩
      · exact ⟨List.mem_cons_of_mem _ (c_fil_mem h).1, (c_fil_mem h).2⟩
theorem c_ins_mem {i : Nat} {v : c_V} : ∀ {l : c_L} {q : Nat × c_V}, q ∈ c_ins i v l → q = (i, v) ∨ q ∈ l
  | [], q, h => by rw [c_ins] at h; exact Or.inl (List.mem_singleton.mp h)
  | (j, w) :: t, q, h => by
    rw [c_ins] at h
    cases hb : Nat.ble i j
    · rw [hb] at h
      rcases List.mem_cons.mp h with h | h
      · exact Or.inr (h ▸ List.mem_cons_self)
      · rcases c_ins_mem h with h | h
        · exact Or.inl h
        · exact Or.inr (List.mem_cons_of_mem _ h)
    · rw [hb] at h
      exact List.mem_cons.mp h
theorem c_beqd (i k : Nat) : (i == k) = Nat.beq i k := by
  rw [Bool.eq_iff_iff]; simp
theorem c_cat_dv (w : c_V) : (dv a w).category = c_cat w := by rcases w with w | w | w <;> rfl
theorem lv_mono {ls : Array Slot} {nL : Nat} {l l' : List (Nat × Value)} (h : lv_has ls nL l) (hs : ∀ q ∈ l', q ∈ l) : lv_has ls nL l' := ⟨h.1, h.2.1, fun q hq => h.2.2 q (hs q hq)⟩
theorem c_at_has {ls : Array Slot} {nL i : Nat} {lv : c_L} {v : c_V} (h : lv_has ls nL (c_dl a lv)) (hk : c_lk lv i = some v) : ls[i]? = some (.val (dv a v)) :=
  h.2.2 (i, dv a v) (List.mem_map.mpr ⟨(i, v), c_lk_mem hk, rfl⟩)
theorem c_nr_has {ls : Array Slot} {nL pc : Nat} {lv : c_L} {L : List (Nat × List Nat)} (h : lv_has ls nL (c_dl a lv)) : lv_has ls nL (c_dl a (c_nr L pc lv)) := by
  refine lv_mono h ?_
  intro q hq
  obtain ⟨q0, h0, rfl⟩ := List.mem_map.mp hq
  refine List.mem_map.mpr ⟨q0, ?_, rfl⟩
  unfold c_nr at h0
  cases hL : c_lk L pc with
  | none => rw [hL] at h0; exact h0
  | some ks => rw [hL] at h0; exact (c_fil_mem h0).1
theorem c_st1_has {ls : Array Slot} {nL i : Nat} {lv : c_L} {v : c_V} {vv : Value} (hv : dv a v = vv) (h : lv_has ls nL ((i, vv) :: (c_dl a lv).filter (fun q => !(q.1 == i) && !(q.1 + 1 == i && q.2.category == 2)))) : lv_has ls nL (c_dl a (c_st1 i v lv)) := by
  subst hv
  refine lv_mono h ?_
  intro q hq
  obtain ⟨q0, h0, rfl⟩ := List.mem_map.mp hq
  rcases c_ins_mem h0 with h0 | h0
  · rw [h0]; exact List.mem_cons_self
  · obtain ⟨h1, h2⟩ := c_fil_mem h0
    refine List.mem_cons_of_mem _ (List.mem_filter.mpr ⟨List.mem_map.mpr ⟨q0, h1, rfl⟩, ?_⟩)
    dsimp only
    rw [c_cat_dv]
    simp only [c_beqd]
    exact h2
theorem c_st2_has {ls : Array Slot} {nL i : Nat} {lv : c_L} {v : c_V} {vv : Value} (hv : dv a v = vv) (h : lv_has ls nL ((i, vv) :: (c_dl a lv).filter (fun q => !(q.1 == i) && (!(q.1 == i + 1) && !(q.1 + 1 == i && q.2.category == 2))))) : lv_has ls nL (c_dl a (c_st2 i v lv)) := by
  subst hv
  refine lv_mono h ?_
  intro q hq
  obtain ⟨q0, h0, rfl⟩ := List.mem_map.mp hq
  rcases c_ins_mem h0 with h0 | h0
  · rw [h0]; exact List.mem_cons_self
  · obtain ⟨h1, h2⟩ := c_fil_mem h0
    refine List.mem_cons_of_mem _ (List.mem_filter.mpr ⟨List.mem_map.mpr ⟨q0, h1, rfl⟩, ?_⟩)
    dsimp only
    rw [c_cat_dv]
    simp only [c_beqd]
    exact h2
end WW
end
section
theorem iv_at {l : c_L} {i : Nat} {f : c_V → c_R} {x : c_S × Int32} (h : c_at l i f = some x) : ∃ v, c_lk l i = some v ∧ f v = some x := by
  unfold c_at at h
  cases hl : c_lk l i with
  | none => rw [hl] at h; cases h
  | some v => rw [hl] at h; exact ⟨v, rfl, h⟩
theorem iv_isI {v : c_V} {f : Int32 → c_R} {x : c_S × Int32} (h : c_isI v f = some x) : ∃ y, v = .inl y ∧ f y = some x := by
  rcases v with v | v
  · exact ⟨v, rfl, h⟩
  · cases h
theorem iv_isL {v : c_V} {f : Int64 → c_R} {x : c_S × Int32} (h : c_isL v f = some x) : ∃ y, v = .inr (.inl y) ∧ f y = some x := by
  rcases v with v | v | v
  · cases h
  · exact ⟨v, rfl, h⟩
  · cases h
theorem iv_isR {v : c_V} {f : Nat → c_R} {x : c_S × Int32} (h : c_isR v f = some x) : ∃ y, v = .inr (.inr y) ∧ f y = some x := by
  rcases v with v | v | v
  · cases h
  · cases h
  · exact ⟨v, rfl, h⟩
theorem iv_p1 {st : List c_V} {f : c_V → List c_V → c_R} {x : c_S × Int32} (h : c_p1 st f = some x) : ∃ v r, st = v :: r ∧ f v r = some x := by
  cases st with
  | nil => cases h
  | cons v r => exact ⟨v, r, rfl, h⟩
theorem iv_obj {CT : List c_D} {k u : Nat} {f : List Nat → c_R} {x : c_S × Int32} (h : c_obj CT k u f = some x) : ∃ sl, c_nth CT k = some (.inl (u, sl)) ∧ f sl = some x := by
  unfold c_obj at h
  rcases hn : c_nth CT k with _ | ⟨⟨ci, sl⟩⟩ | _
  · rw [hn] at h; cases h
  · rw [hn] at h; dsimp only at h
    cases hb : Nat.beq ci u
    · rw [hb] at h; cases h
    · rw [hb] at h; rw [c_beq.mp hb]; exact ⟨sl, rfl, h⟩
  · rw [hn] at h; cases h
theorem iv_arr {CT : List c_D} {k : Nat} {f : FieldType → Nat → c_R} {x : c_S × Int32} (h : c_arr CT k f = some x) : ∃ ty n, c_nth CT k = some (.inr (ty, n)) ∧ f ty n = some x := by
  unfold c_arr at h
  rcases hn : c_nth CT k with _ | _ | ⟨ty, n⟩
  · rw [hn] at h; cases h
  · rw [hn] at h; cases h
  · rw [hn] at h; exact ⟨ty, n, rfl, h⟩
theorem iv_rg {i : Int32} {n : Nat} {f : c_R} {x : c_S × Int32} (h : c_rg i n f = some x) : vp_in i n ∧ f = some x := by
  unfold c_rg at h
  split at h
  · rename_i hc
    unfold c_inb at hc
    have h2 : ¬ (i < 0 ∨ n ≤ i.toNatClampNeg) := of_decide_eq_true hc
    exact ⟨h2, h⟩
  · cases h
theorem iv_bd {o : c_R} {f : c_S → Int32 → c_R} {x : c_S × Int32} (h : c_bd o f = some x) : ∃ σ y, o = some (σ, y) ∧ f σ y = some x := by
  unfold c_bd at h
  rcases o with _ | ⟨σ, y⟩
  · cases h
  · exact ⟨σ, y, rfl, h⟩
theorem iv_pop : ∀ (n : Nat) (acc st as r : List c_V), c_pop n acc st = some (as, r) → ∃ bs, as = bs ++ acc ∧ bs.length = n ∧ st = bs.reverse ++ r
  | 0, acc, st, as, r, h => by cases h; exact ⟨[], by simp⟩
  | n + 1, acc, [], as, r, h => by cases h
  | n + 1, acc, y :: st, as, r, h => by
    rw [c_pop] at h
    obtain ⟨bs, h1, h2, h3⟩ := iv_pop n _ _ _ _ h
    exact ⟨bs ++ [y], by simp [h1], by simp [h2], by simp [h3]⟩
theorem c_sum_eq {a : Nat → Nat} : ∀ r : List c_V, ((r.map (dv a)).map fun v => v.category).sum = c_sum r
  | [] => rfl
  | v :: r => by simp only [List.map_cons, List.sum_cons, c_sum, c_sum_eq r, c_cat_dv]
theorem c_bz_iff {v : Int32} (h : c_bz v = true) : v = 0 ∨ v = 1 := by
  simpa [c_bz] using h
def ck_s (mx : Nat) (q : Nat × c_E) : Bool := match q with
  | (_, ins, _) => match ins with
    | .istore_n i => decide (i.val < mx)
    | .istore i => decide (i < mx)
    | .lstore_n i => decide (i.val + 1 < mx)
    | .lstore i => decide (i + 1 < mx)
    | .iinc i _ => decide (i < mx)
    | _ => true
theorem k_s : ∀ q ∈ d_M, ∀ r ∈ q.1, ck_s q.2.2.2.2.2.2.1 r = true := by decide +kernel
theorem c_sw_tab {K : Nat → c_R} {x : Int32} {t pc : Nat} {z : c_S × Int32} : ∀ (fs : List Int) (sw : List (Int32 × Nat)) (lo : Int), ck_sw pc lo fs sw = true → -100 < lo → lo + fs.length < 200 → c_sw x t K sw = some z →
    ((x.toInt < lo ∨ lo + fs.length ≤ x.toInt) ∧ K t = some z) ∨ ∃ (j : Nat) (f : Int) (g : Nat), fs[j]? = some f ∧ x.toInt = lo + j ∧ (pc : Int) + f = g ∧ K g = some z
  | [], [], lo, _, _, _, h => Or.inl ⟨by simp; omega, h⟩
  | [], _ :: _, lo, hk, _, _, _ => by simp [ck_sw] at hk
  | _ :: _, [], lo, hk, _, _, _ => by simp [ck_sw] at hk
  | f :: fs, (k, g) :: r, lo, hk, h1, h2, h => by
    simp only [ck_sw, Bool.and_eq_true, decide_eq_true_eq] at hk
    obtain ⟨⟨rfl, hg⟩, hk⟩ := hk
    simp only [List.length_cons, Int.natCast_add, Int.natCast_one] at h2
    have hlo : (Int32.ofInt lo).toInt = lo := by
      rw [Int32.toInt_ofInt, Int.bmod_def, show (Int32.size : Nat) = 4294967296 from rfl]; omega
    rw [c_sw] at h
    split at h
    · rename_i hx
      exact Or.inr ⟨0, f, g, rfl, by rw [hx, hlo]; simp, hg, h⟩
    · rename_i hx
      have hne : x.toInt ≠ lo := fun he => hx (by rw [← Int32.ofInt_toInt x, he])
      rcases c_sw_tab fs r (lo + 1) hk (by omega) (by omega) h with ⟨h3, h4⟩ | ⟨j, f', g', e1, e2, e3, e4⟩
      · refine Or.inl ⟨?_, h4⟩
        simp only [List.length_cons, Int.natCast_add, Int.natCast_one]
        omega
      · exact Or.inr ⟨j + 1, f', g', by simpa using e1, by rw [e2]; simp; omega, e3, e4⟩
theorem c_sw_lk {K : Nat → c_R} {x : Int32} {t pc : Nat} {d : Int} {z : c_S × Int32} (hd : (pc : Int) + d = t) : ∀ (ps : List (Int × Int)) (sw : List (Int32 × Nat)), ck_lw pc ps sw = true → c_sw x t K sw = some z →
    ∃ g : Nat, (pc : Int) + Op.lookupswitch.offset ps d x.toInt = g ∧ K g = some z
  | [], [], _, h => ⟨t, hd, h⟩
  | [], _ :: _, hk, _ => by simp [ck_lw] at hk
  | _ :: _, [], hk, _ => by simp [ck_lw] at hk
  | (i, f) :: ps, (k, g) :: r, hk, h => by
    simp only [ck_lw, Bool.and_eq_true, decide_eq_true_eq] at hk
    obtain ⟨⟨⟨rfl, hi⟩, hg⟩, hk⟩ := hk
    have hlo : (Int32.ofInt i).toInt = i := by
      rw [Int32.toInt_ofInt, Int.bmod_def, show (Int32.size : Nat) = 4294967296 from rfl]; omega
    rw [c_sw] at h
    rw [Op.lookupswitch.offset_cons]
    split at h
    · rename_i hx
      exact ⟨g, by rw [if_pos (by rw [hx, hlo])]; exact hg, h⟩
    · rename_i hx
      rw [if_neg (fun he => hx (by rw [← Int32.ofInt_toInt x, ← he]))]
      exact c_sw_lk hd ps r hk h

/-- a field's link, by the table of links -/
theorem c_fld {s : State} {args : Array Value} {ow i u t : Nat} (hq : (ow, i, u, t) ∈ d_FL) (hts : ∀ w ∈ lw_g, w.before args s = true) : ∃ (C : String) (T : u_T) (N : Nat), d_CL[u]? = some (C, T, N) ∧ (∀ w ∈ u_ws C T N, w ∈ lw_g) ∧ t < N ∧ (Cond.fieldLink (d_nm ow) i C (T t).2.1 (T t).2.2.1).before args s = true ∧ (T t).1 = C ∧ (T t) = d_fn u t ∧ ∃ ty0 : Nat → FieldType, (∀ k, k < N → parseFieldDescriptor (T k).2.2.1 = some (ty0 k)) ∧ (∀ a, a < N → ∀ b, b < N → a ≠ b → (T a).2.1 ≠ (T b).2.1) := by
  have hk := k_fl _ hq
  simp only [ck_fl, Bool.and_eq_true, decide_eq_true_eq] at hk
  obtain ⟨⟨h1, h2⟩, h3⟩ := hk
  have hg : ∀ (C : String) (T : u_T) (N : Nat), (∀ w ∈ u_ws C T N, w ∈ lw_tbl) → ∀ w ∈ u_ws C T N, w ∈ lw_g := by
    intro C T N h w hw
    refine lw_g_of (h w hw) ?_
    obtain ⟨k, -, rfl⟩ := List.mem_map.mp hw
    unfold u_lay
    split <;> rfl
  have hl := hts _ (lw_g_of h3 rfl)
  have key : ∀ (C : String) (T : u_T) (N : Nat), c_nth d_CL u = some (C, T, N) → (∀ w ∈ u_ws C T N, w ∈ lw_tbl) → (∃ ty0 : Nat → FieldType, (∀ k, k < N → parseFieldDescriptor (T k).2.2.1 = some (ty0 k)) ∧ (∀ a, a < N → ∀ b, b < N → a ≠ b → (T a).2.1 ≠ (T b).2.1)) → ∃ (C : String) (T : u_T) (N : Nat), d_CL[u]? = some (C, T, N) ∧ (∀ w ∈ u_ws C T N, w ∈ lw_g) ∧ t < N ∧ (Cond.fieldLink (d_nm ow) i C (T t).2.1 (T t).2.2.1).before args s = true ∧ (T t).1 = C ∧ (T t) = d_fn u t ∧ ∃ ty0 : Nat → FieldType, (∀ k, k < N → parseFieldDescriptor (T k).2.2.1 = some (ty0 k)) ∧ (∀ a, a < N → ∀ b, b < N → a ≠ b → (T a).2.1 ≠ (T b).2.1) := by
    intro C T N hc hin hty
    have e1 : d_nm u = C := by simp only [d_nm, hc]
    have e2 : d_fn u t = T t := by simp only [d_fn, hc]
    have e3 : d_fN u = N := by simp only [d_fN, hc]
    rw [e1, e2] at hl
    rw [e2, e1] at h2
    rw [e3] at h1
    exact ⟨C, T, N, by rw [← c_nth_eq]; exact hc, hg C T N hin, h1, hl, h2, e2.symm, hty⟩
  match u, h1 with

  | 0, _ => exact key _ _ _ rfl i_Ce ⟨t_Ce, t_Ce_ok, n_Ce⟩
  | 1, _ => exact key _ _ _ rfl i_Ck ⟨t_Ck, t_Ck_ok, n_Ck⟩
  | 2, _ => exact key _ _ _ rfl i_Co ⟨t_Co, t_Co_ok, n_Co⟩
  | 3, _ => exact key _ _ _ rfl i_Ju ⟨t_Ju, t_Ju_ok, n_Ju⟩
  | 4, _ => exact key _ _ _ rfl i_Ma ⟨t_Ma, t_Ma_ok, n_Ma⟩
  | 5, _ => exact key _ _ _ rfl i_Me ⟨t_Me, t_Me_ok, n_Me⟩
  | 6, _ => exact key _ _ _ rfl i_No ⟨t_No, t_No_ok, n_No⟩
  | 7, _ => exact key _ _ _ rfl i_Pa ⟨t_Pa, t_Pa_ok, n_Pa⟩
  | 8, _ => exact key _ _ _ rfl i_Re ⟨t_Re, t_Re_ok, n_Re⟩
  | 9, _ => exact key _ _ _ rfl i_Ta ⟨t_Ta, t_Ta_ok, n_Ta⟩
  | 10, _ => exact key _ _ _ rfl i_Wr ⟨t_Wr, t_Wr_ok, n_Wr⟩
  | 11, _ => exact key _ _ _ rfl i_Fb ⟨t_Fb, t_Fb_ok, n_Fb⟩
  | 12, _ => exact key _ _ _ rfl i_Rm ⟨t_Rm, t_Rm_ok, n_Rm⟩
  | _ + 13, h => exact absurd h (by simp [d_fN, d_CL, c_nth])
end
section
theorem c_NW.warm {s U : State} (hW : s.WarmedH U.vm) (h : c_NW s) : c_NW U := by
  intro w hw hn
  have h1 := h w hw hn
  cases w <;> first | (cases hn; done) | exact va_Nw.warmM hW h1
theorem c_NW.calling {U : State} {g : JFrame} {mk : MethodId} {v : Array Value} (h : c_NW U) : c_NW (U.calling g mk v) := by
  intro w hw hn
  have h1 := h w hw hn
  cases w <;> first | (cases hn; done) | exact va_Nw.same rfl rfl h1
theorem c_blind {a : Nat → Nat} {cA : FieldType → ClassId} {D : va_G} {sz : Nat} {as : List c_V} {σ : c_S} : FrameBlind (c_Pc a cA D sz as σ) := fun v U g mk q => by
  obtain ⟨q0, q1, qP, qK, qN⟩ := q
  exact ⟨q0, q1, qP, va_K.moved (u := U) (U := U.calling g mk v) (Vm.Alike.refl U.vm) qK, qN.calling⟩
theorem c_goodcons {y : MethodName} {b : ByteArray} {n : Nat} {r : Option FieldType} (h : Cond.code y b n r ∈ lw_tbl) : GoodIn lw_g (Cond.code y b n r :: lw_g) := by
  intro w hw
  rcases List.mem_cons.mp hw with rfl | hw
  · exact ⟨lw_g_of h rfl, Or.inl rfl⟩
  · exact ⟨hw, good_of_word (lw_g_good hw)⟩
theorem c_min1 : Cond.methodLink (d_nm 8) 143 Lib.Math.min.name ∈ lw_tbl := by decide +kernel
theorem c_min2 : Cond.static Lib.Math.min.name ∈ lw_tbl := by decide +kernel
theorem c_min3 : Cond.initialized "java/lang/Math" ∈ lw_tbl := by decide +kernel
theorem c_min4 : Cond.code Lib.Math.min.name Lib.Math.min.code 2 (some .int) ∈ lw_tbl := List.mem_of_getElem? (i := 669) (by decide +kernel)
section SS
variable {p : Program} {l : Launch} {e : Env} {s : State} {m : MethodId} {args : Array Value} {below : List Frame} {meth : Method} {c : Code} {cc : ByteArray} {d nL ow rb : Nat} {a : Nat → Nat} {cA : FieldType → ClassId} {D : va_G} {x : c_S × Int32} {C : c_C} {K : c_K} {lv : c_L} {st : List c_V} {σ : c_S} {H : Heap} {locs : List Loc} {ls : Array Slot} {pc : Nat}
theorem c_stepV {i t u w : Nat} {ax : c_V} {F : List c_V → c_S → c_R} {Q : State → Prop} (hx : p.tables.exec = Jvm.exec) (hb : c.code = cc) (hml : c.maxLocals = nL) (hown : s.vm.findClass (d_nm ow) = some m.cls) (hts : ∀ w ∈ lw_g, w.before args s = true) (hnw : c_NW s) (hK : va_K D d_CL (c_tys cA) s) (hin : c_inj a)
    (hC : ∀ t as τ y, C t as τ = some y → c_Con l a cA D d t as τ y)
    (hck : (match ax with
      | .inr (.inr n) => decide ((ow, i, t, 0, 0, n, u, w) ∈ d_ML ∨ (ow, i, t, 1, 0, n, u, w) ∈ d_ML)
      | _ => false) = true) (hdg : decode cc pc = .ok (.invokevirtual i, 3)) (h : c_call d_CT true C ax t u w st σ F = some x)
    (hKK : ∀ st' σ' H' locs', F st' σ' = some x → va_P D d_CL (c_wld a cA σ') H' → va_S (c_A a s.heap.size) s.heap H' locs' → W p l e (c_rm (d + 1)) s m args below meth c H' locs' 0 0 Q (F0 m (pc + 3) ls (st'.map (dv a))))
    (hl : lv_has ls nL (c_dl a lv)) (hP : va_P D d_CL (c_wld a cA σ) H) (hS : va_S (c_A a s.heap.size) s.heap H locs) : W p l e (c_rm (d + 1)) s m args below meth c H locs 0 0 Q (F0 m pc ls (st.map (dv a))) := by
  unfold c_call at h
  replace h := iv_isR h
  obtain ⟨n, rfl, h⟩ := h
  dsimp only at h hck
  rcases hp : c_pop n [] st with _ | ⟨as, r⟩
  · rw [hp] at h; cases h
  rw [hp] at h
  obtain ⟨bs, e1, e2, e3⟩ := iv_pop _ _ _ _ _ hp
  rw [List.append_nil] at e1
  subst e1
  dsimp only at h
  cases hbl : Nat.ble (c_sum r) 8
  · rw [hbl] at h; cases h
  rw [hbl] at h
  dsimp only at h
  have hle : c_sum r ≤ 8 := Nat.le_of_ble_eq_true hbl
  replace h := iv_p1 h
  obtain ⟨v, As, rfl, h⟩ := h
  replace h := iv_isR h
  obtain ⟨k, rfl, h⟩ := h
  replace h := iv_obj h
  obtain ⟨sl, hsl, h⟩ := h
  subst e3
  -- the callee answers
  obtain ⟨τ, y, hcal, h⟩ : ∃ τ y, C t (.inr (.inr k) :: As) σ = some (τ, y) ∧ (match u with
      | 0 => F r τ
      | _ + 1 => F (.inl y :: r) τ) = some x := by
    cases u with
    | zero => exact iv_bd h
    | succ u => exact iv_bd h
  obtain ⟨q, hq, hM⟩ := hC _ _ _ _ hcal
  have hok := o_all q (c_nth_mem hq)
  obtain ⟨T', L', rb', ow', y', cc', mx', ret'⟩ := q
  obtain ⟨-, hcode, -, k1, hret, k2, k3, k4, k11⟩ := hok
  dsimp only at hcode k1 hret hM k2 k3 k4 k11
  have hml' : ∃ nest, (ow, i, t, nest, 0, n, u, w) ∈ d_ML := by
    rcases of_decide_eq_true hck with h9 | h9
    · exact ⟨0, h9⟩
    · exact ⟨1, h9⟩
  obtain ⟨nest, hmem⟩ := hml'
  have hk := k_ml _ hmem
  simp only [ck_ml, hq, Bool.and_eq_true, decide_eq_true_eq] at hk
  obtain ⟨k5, k9, k10⟩ := hk
  have hk2 := l_all _ hmem
  simp only [c_lok, hq] at hk2
  obtain ⟨k6, k7, k8⟩ := hk2
  have hst : ((.inr (.inr k) :: As).reverse ++ r).map (dv a) = (As.map (dv a)).reverse ++ .ref (a k) :: r.map (dv a) := by
    simp [dv]
  have hlen : (As.map (dv a)).length = n - 1 := by
    rw [List.length_map]; simp only [List.length_cons] at e2; omega
  have hdesc : (parseMethodDescriptor y'.desc).map (fun d => d.parameters.length) = some (n - 1) := by
    cases hd : parseMethodDescriptor y'.desc with
    | none => rw [hd] at k10; cases k10
    | some dd => rw [hd] at k10; have := Option.some.inj k10; simp only [Option.map_some]; rw [← this]; rfl
  have hRm : (c_rm d).frames + 1 ≤ (c_rm (d + 1)).frames ∧ 8 + (mx' + 11) + (c_rm d).locals ≤ (c_rm (d + 1)).locals := by
    constructor
    · exact Nat.le_refl _
    · show 8 + (mx' + 11) + 45 * d ≤ 45 * (d + 1); omega
  have he : (c_wld a cA σ)[k]? = some (a k, .inr (w, c_wf a (σ.1 k) 0 sl)) := by rw [c_wld_get, hsl]; rfl
  have hcl : ∃ cq, d_CL[w]? = some cq ∧ cq.1 = y'.cls := by
    rw [k1, ← k9]
    cases hc : c_nth d_CL w with
    | none =>
      rw [c_nth_eq] at hc
      have h13 : d_CL.length = 13 := rfl
      have := List.getElem?_eq_none_iff.mp hc
      omega
    | some cq => exact ⟨cq, by rw [← c_nth_eq]; exact hc, by simp only [d_nm, hc]⟩
  obtain ⟨cq, hcq, hcq2⟩ := hcl
  have hpre : PreV s H y'.cls (a k) (c_Pc a cA D H.size (.inr (.inr k) :: As) σ) (As.map (dv a)) := by
    refine ⟨c_blind, ?_, fun U hU hW => ⟨rfl, by rw [hU], by rw [hU]; exact hP, va_K.moved hW.alike hK, hnw.warm hW⟩⟩
    rw [← hcq2]
    exact va_recv hK hP hcq he
  rw [hst]
  have hA1 : ∀ q, q < H.size → c_A a H.size q → c_A a s.heap.size q := fun q h1 h2 => h2.elim Or.inl (fun h3 => absurd h3 (by omega))
  have hA2 : ∀ q, c_A a H.size q → c_A a s.heap.size q := fun q h2 => h2.elim Or.inl (fun h3 => Or.inr (Nat.le_trans hS.1 h3))
  have hrun : va_Run p l e (c_rm (d + 1)) s m args below meth c H locs 0 0 0 0 (F0 m pc ls ((As.map (dv a)).reverse ++ .ref (a k) :: r.map (dv a))) (r.map (dv a)) (c_Q a cA D (c_A a H.size) rb' (τ, y) ((Value.ref (a k) :: As.map (dv a)).toArray)) (c_A a H.size) := by
    have hroom : 2 * (F0 m pc ls ((As.map (dv a)).reverse ++ .ref (a k) :: r.map (dv a))).monitorRoom + ((r.map (dv a)).map fun v => v.category).sum ≤ 8 := lv_room (by rw [c_sum_eq]; exact hle)
    cases nest with
    | zero =>
      refine va_runV (C := y'.cls) (As := As.map (dv a)) ⟨hx, hb, hml, hown, hts⟩ (hM H.size) (cwV (n - 1) hts ?_ rfl rfl rfl ⟨rfl, k2.1, k2.2, hdesc⟩ hRm) hpre rfl hlen hl.1 rfl hroom hdg ⟨Nat.zero_le _, Nat.zero_le _⟩
      intro w9 hw9
      rcases List.mem_append.mp hw9 with hw9 | hw9
      · simp only [List.mem_cons, List.not_mem_nil, or_false] at hw9
        rcases hw9 with rfl | rfl | rfl | rfl
        · exact ⟨lw_g_of k6 rfl, Or.inl rfl⟩
        · exact ⟨lw_g_of k7 rfl, Or.inl rfl⟩
        · exact ⟨lw_g_of k8 rfl, Or.inl rfl⟩
        · exact ⟨lw_g_of k4 rfl, Or.inl rfl⟩
      · exact c_goodcons hcode _ hw9
    | succ nest =>
      exact va_runVN (C := y'.cls) (host := "FrameBench") (As := As.map (dv a)) ⟨hx, hb, hml, hown, hts⟩ (hM H.size) ⟨va_cnB (n - 1) hts (c_goodcons hcode) rfl rfl rfl (hnw _ k6 rfl) (hts _ (lw_g_of k4 rfl)) ⟨k2.1, k2.2, hdesc⟩ hRm, hts _ (lw_g_of k7 rfl), hts _ (lw_g_of k8 rfl)⟩ hpre rfl hlen hl.1 rfl hroom hdg ⟨Nat.zero_le _, Nat.zero_le _⟩
  cases rb' with
  | zero =>
    rw [if_pos rfl] at k5
    subst k5
    exact va_callv (a := #[]) hrun hS hA1 hA2 (fun u t H1 locs1 ht _ _ hB _ _ hS1 => hKK _ _ _ _ h (by rw [← ht]; exact hB) hS1)
  | succ rb' =>
    rw [if_neg (by omega)] at k5
    subst k5
    exact va_calli (a := #[]) hrun hS hA1 hA2 (fun r9 u t H1 locs1 ht _ hr9 hB _ _ hS1 => by
      rw [hr9]
      exact hKK _ _ _ _ h (by rw [← ht]; exact hB) hS1)
theorem c_stepS {i t u : Nat} {ax : c_V} {F : List c_V → c_S → c_R} {Q : State → Prop} (hx : p.tables.exec = Jvm.exec) (hb : c.code = cc) (hml : c.maxLocals = nL) (hown : s.vm.findClass (d_nm ow) = some m.cls) (hts : ∀ w ∈ lw_g, w.before args s = true) (hnw : c_NW s) (hK : va_K D d_CL (c_tys cA) s) (hin : c_inj a)
    (hC : ∀ t as τ y, C t as τ = some y → c_Con l a cA D d t as τ y)
    (hck : (match ax with
      | .inr (.inr n) => decide ((ow, i, t, 0, 1, n, u, 0) ∈ d_ML ∨ (ow, i, t, 1, 1, n, u, 0) ∈ d_ML)
      | _ => false) = true) (hdg : decode cc pc = .ok (.invokestatic i, 3)) (h : c_call d_CT false C ax t u 0 st σ F = some x)
    (hKK : ∀ st' σ' H' locs', F st' σ' = some x → va_P D d_CL (c_wld a cA σ') H' → va_S (c_A a s.heap.size) s.heap H' locs' → W p l e (c_rm (d + 1)) s m args below meth c H' locs' 0 0 Q (F0 m (pc + 3) ls (st'.map (dv a))))
    (hl : lv_has ls nL (c_dl a lv)) (hP : va_P D d_CL (c_wld a cA σ) H) (hS : va_S (c_A a s.heap.size) s.heap H locs) : W p l e (c_rm (d + 1)) s m args below meth c H locs 0 0 Q (F0 m pc ls (st.map (dv a))) := by
  unfold c_call at h
  replace h := iv_isR h
  obtain ⟨n, rfl, h⟩ := h
  dsimp only at h hck
  rcases hp : c_pop n [] st with _ | ⟨as, r⟩
  · rw [hp] at h; cases h
  rw [hp] at h
  obtain ⟨bs, e1, e2, e3⟩ := iv_pop _ _ _ _ _ hp
  rw [List.append_nil] at e1
  subst e1
  dsimp only at h
  cases hbl : Nat.ble (c_sum r) 8
  · rw [hbl] at h; cases h
  rw [hbl] at h
  dsimp only at h
  have hle : c_sum r ≤ 8 := Nat.le_of_ble_eq_true hbl
  subst e3
  obtain ⟨τ, y, hcal, h⟩ : ∃ τ y, C t as σ = some (τ, y) ∧ (match u with
      | 0 => F r τ
      | _ + 1 => F (.inl y :: r) τ) = some x := by
    cases u with
    | zero => exact iv_bd h
    | succ u => exact iv_bd h
  obtain ⟨q, hq, hM⟩ := hC _ _ _ _ hcal
  have hok := o_all q (c_nth_mem hq)
  obtain ⟨T', L', rb', ow', y', cc', mx', ret'⟩ := q
  obtain ⟨-, hcode, -, k1, hret, k2, k3, k4, k11⟩ := hok
  dsimp only at hcode k1 hret hM k2 k3 k4 k11
  have hml' : ∃ nest, (ow, i, t, nest, 1, n, u, 0) ∈ d_ML := by
    rcases of_decide_eq_true hck with h9 | h9
    · exact ⟨0, h9⟩
    · exact ⟨1, h9⟩
  obtain ⟨nest, hmem⟩ := hml'
  have hk := k_ml _ hmem
  simp only [ck_ml, hq, Bool.and_eq_true, decide_eq_true_eq] at hk
  obtain ⟨k5, k8, k10⟩ := hk
  have hk2 := l_all _ hmem
  simp only [c_lok, hq] at hk2
  obtain ⟨k6, k7⟩ := hk2
  have hst : (as.reverse ++ r).map (dv a) = (as.map (dv a)).reverse ++ r.map (dv a) := by simp
  have hlen : (as.map (dv a)).length = n := by rw [List.length_map]; exact e2
  have hRm : (c_rm d).frames + 1 ≤ (c_rm (d + 1)).frames ∧ 8 + (mx' + 11) + (c_rm d).locals ≤ (c_rm (d + 1)).locals := by
    constructor
    · exact Nat.le_refl _
    · show 8 + (mx' + 11) + 45 * d ≤ 45 * (d + 1); omega
  have hpre : PreS s H (c_Pc a cA D H.size as σ) (as.map (dv a)) :=
    ⟨c_blind, fun U hU hW => ⟨rfl, by rw [hU], by rw [hU]; exact hP, va_K.moved hW.alike hK, hnw.warm hW⟩⟩
  rw [hst]
  have hA1 : ∀ q, q < H.size → c_A a H.size q → c_A a s.heap.size q := fun q h1 h2 => h2.elim Or.inl (fun h3 => absurd h3 (by omega))
  have hA2 : ∀ q, c_A a H.size q → c_A a s.heap.size q := fun q h2 => h2.elim Or.inl (fun h3 => Or.inr (Nat.le_trans hS.1 h3))
  have hrun : va_Run p l e (c_rm (d + 1)) s m args below meth c H locs 0 0 0 0 (F0 m pc ls ((as.map (dv a)).reverse ++ r.map (dv a))) (r.map (dv a)) (c_Q a cA D (c_A a H.size) rb' (τ, y) ((as.map (dv a)).toArray)) (c_A a H.size) := by
    have hroom : 2 * (F0 m pc ls ((as.map (dv a)).reverse ++ r.map (dv a))).monitorRoom + ((r.map (dv a)).map fun v => v.category).sum ≤ 8 := lv_room (by rw [c_sum_eq]; exact hle)
    cases nest with
    | zero =>
      have k8' : y'.cls = d_nm ow := by simpa using k8
      refine va_runS (As := as.map (dv a)) ⟨hx, hb, hml, hown, hts⟩ (hM H.size) (cwS n hts ?_ rfl rfl rfl ⟨k8', k2.1, k2.2, k10⟩ hRm) hpre rfl hlen hl.1 rfl hroom hdg ⟨Nat.zero_le _, Nat.zero_le _⟩
      intro w9 hw9
      rcases List.mem_append.mp hw9 with hw9 | hw9
      · simp only [List.mem_cons, List.not_mem_nil, or_false] at hw9
        rcases hw9 with rfl | rfl | rfl
        · exact ⟨lw_g_of k6 rfl, Or.inl rfl⟩
        · exact ⟨lw_g_of k7 rfl, Or.inl rfl⟩
        · exact ⟨lw_g_of (by rw [← k8']; exact k4) rfl, Or.inl rfl⟩
      · exact c_goodcons hcode _ hw9
    | succ nest =>
      exact va_runSN (host := "FrameBench") (As := as.map (dv a)) ⟨hx, hb, hml, hown, hts⟩ (hM H.size) ⟨va_cnB n hts (c_goodcons hcode) rfl rfl rfl (hnw _ k6 rfl) (hts _ (lw_g_of k4 rfl)) ⟨k2.1, k2.2, k10⟩ hRm, hts _ (lw_g_of k7 rfl), trivial⟩ hpre rfl hlen hl.1 rfl hroom hdg ⟨Nat.zero_le _, Nat.zero_le _⟩
  cases rb' with
  | zero =>
    rw [if_pos rfl] at k5
    subst k5
    exact va_callv (a := #[]) hrun hS hA1 hA2 (fun u t H1 locs1 ht _ _ hB _ _ hS1 => hKK _ _ _ _ h (by rw [← ht]; exact hB) hS1)
  | succ rb' =>
    rw [if_neg (by omega)] at k5
    subst k5
    exact va_calli (a := #[]) hrun hS hA1 hA2 (fun r9 u t H1 locs1 ht _ hr9 hB _ _ hS1 => by
      rw [hr9]
      exact hKK _ _ _ _ h (by rw [← ht]; exact hB) hS1)
end SS
end
section
section SS
variable {p : Program} {l : Launch} {e : Env} {s : State} {m : MethodId} {args : Array Value} {below : List Frame} {meth : Method} {c : Code} {cc : ByteArray} {d nL ow rb : Nat} {a : Nat → Nat} {cA : FieldType → ClassId} {D : va_G} {x : c_S × Int32} {C : c_C} {K : c_K} {lv : c_L} {st : List c_V} {σ : c_S} {H : Heap} {locs : List Loc} {ls : Array Slot} {pc : Nat}
set_option maxHeartbeats 8000000 in
theorem c_step {E : c_E} (hx : p.tables.exec = Jvm.exec) (hb : c.code = cc) (hml : c.maxLocals = nL) (hown : s.vm.findClass (d_nm ow) = some m.cls) (hts : ∀ w ∈ lw_g, w.before args s = true) (hnw : c_NW s) (hK : va_K D d_CL (c_tys cA) s) (hin : c_inj a) (hlk : meth.locks = false) (hrt : meth.sig.returnType = c_rt rb)
    (hC : ∀ t as τ y, C t as τ = some y → c_Con l a cA D d t as τ y)
    (hck : ck_e ow cc (pc, E) = true) (hcs : ck_s nL (pc, E) = true) (h : c_s1 d_CT E rb C lv st σ K = some x)
    (hKK : ∀ pc' lv' st' σ' H' locs' ls', K pc' lv' st' σ' = some x → lv_has ls' nL (c_dl a lv') → va_P D d_CL (c_wld a cA σ') H' → va_S (c_A a s.heap.size) s.heap H' locs' → W p l e (c_rm (d + 1)) s m args below meth c H' locs' 0 0 (MQ below (c_Q a cA D (c_A a s.heap.size) rb x) args s 0 0 (c_A a s.heap.size)) (F0 m pc' ls' (st'.map (dv a))))
    (hl : lv_has ls nL (c_dl a lv)) (hP : va_P D d_CL (c_wld a cA σ) H) (hS : va_S (c_A a s.heap.size) s.heap H locs) : W p l e (c_rm (d + 1)) s m args below meth c H locs 0 0 (MQ below (c_Q a cA D (c_A a s.heap.size) rb x) args s 0 0 (c_A a s.heap.size)) (F0 m pc ls (st.map (dv a))) := by
  obtain ⟨ins, nx, ax, t, u, w, sw⟩ := E
  unfold c_s1 at h
  unfold ck_e at hck
  unfold ck_s at hcs
  rw [Bool.and_eq_true, Bool.and_eq_true, decide_eq_true_eq, decide_eq_true_eq] at hck
  cases ins with
  | aload_n i =>
    dsimp only [c_len] at hck h hcs
    obtain ⟨⟨rfl, hdg⟩, -⟩ := hck
    replace h := iv_at h
    obtain ⟨v, hv, h⟩ := h
    replace h := iv_isR h
    obtain ⟨k, rfl, h⟩ := h
    exact lv_aload_n hx hb hdg rfl (c_at_has hl hv) (hKK _ _ _ _ _ _ _ h hl hP hS)
  | aload i =>
    dsimp only [c_len] at hck h hcs
    obtain ⟨⟨rfl, hdg⟩, -⟩ := hck
    replace h := iv_at h
    obtain ⟨v, hv, h⟩ := h
    replace h := iv_isR h
    obtain ⟨k, rfl, h⟩ := h
    exact lv_aload hx hb hdg (c_at_has hl hv) (hKK _ _ _ _ _ _ _ h hl hP hS)
  | iload_n i =>
    dsimp only [c_len] at hck h hcs
    obtain ⟨⟨rfl, hdg⟩, -⟩ := hck
    replace h := iv_at h
    obtain ⟨v, hv, h⟩ := h
    replace h := iv_isI h
    obtain ⟨k, rfl, h⟩ := h
    exact lv_iload_n hx hb hdg rfl (c_at_has hl hv) (hKK _ _ _ _ _ _ _ h hl hP hS)
  | iload i =>
    dsimp only [c_len] at hck h hcs
    obtain ⟨⟨rfl, hdg⟩, -⟩ := hck
    replace h := iv_at h
    obtain ⟨v, hv, h⟩ := h
    replace h := iv_isI h
    obtain ⟨k, rfl, h⟩ := h
    exact lv_iload hx hb hdg (c_at_has hl hv) (hKK _ _ _ _ _ _ _ h hl hP hS)
  | lload_n i =>
    dsimp only [c_len] at hck h hcs
    obtain ⟨⟨rfl, hdg⟩, -⟩ := hck
    replace h := iv_at h
    obtain ⟨v, hv, h⟩ := h
    replace h := iv_isL h
    obtain ⟨k, rfl, h⟩ := h
    exact lv_lload_n hx hb hdg rfl (c_at_has hl hv) (hKK _ _ _ _ _ _ _ h hl hP hS)
  | lload i =>
    dsimp only [c_len] at hck h hcs
    obtain ⟨⟨rfl, hdg⟩, -⟩ := hck
    replace h := iv_at h
    obtain ⟨v, hv, h⟩ := h
    replace h := iv_isL h
    obtain ⟨k, rfl, h⟩ := h
    exact lv_lload hx hb hdg (c_at_has hl hv) (hKK _ _ _ _ _ _ _ h hl hP hS)
  | istore_n i =>
    dsimp only [c_len] at hck h hcs
    obtain ⟨⟨rfl, hdg⟩, -⟩ := hck
    replace h := iv_p1 h
    obtain ⟨v, r, rfl, h⟩ := h
    replace h := iv_isI h
    obtain ⟨y, rfl, h⟩ := h
    exact lv_istore_n hx hb hdg rfl hl (of_decide_eq_true hcs) rfl (fun ls hl2 => hKK _ _ _ _ _ _ _ h (c_st1_has rfl hl2) hP hS)
  | istore i =>
    dsimp only [c_len] at hck h hcs
    obtain ⟨⟨rfl, hdg⟩, -⟩ := hck
    replace h := iv_p1 h
    obtain ⟨v, r, rfl, h⟩ := h
    replace h := iv_isI h
    obtain ⟨y, rfl, h⟩ := h
    exact lv_istore hx hb hdg hl (of_decide_eq_true hcs) rfl (fun ls hl2 => hKK _ _ _ _ _ _ _ h (c_st1_has rfl hl2) hP hS)
  | lstore_n i =>
    dsimp only [c_len] at hck h hcs
    obtain ⟨⟨rfl, hdg⟩, -⟩ := hck
    replace h := iv_p1 h
    obtain ⟨v, r, rfl, h⟩ := h
    replace h := iv_isL h
    obtain ⟨y, rfl, h⟩ := h
    exact lv_lstore_n hx hb hdg rfl hl (of_decide_eq_true hcs) rfl (fun ls hl2 => hKK _ _ _ _ _ _ _ h (c_st2_has rfl hl2) hP hS)
  | lstore i =>
    dsimp only [c_len] at hck h hcs
    obtain ⟨⟨rfl, hdg⟩, -⟩ := hck
    replace h := iv_p1 h
    obtain ⟨v, r, rfl, h⟩ := h
    replace h := iv_isL h
    obtain ⟨y, rfl, h⟩ := h
    exact lv_lstore hx hb hdg hl (of_decide_eq_true hcs) rfl (fun ls hl2 => hKK _ _ _ _ _ _ _ h (c_st2_has rfl hl2) hP hS)
  | iinc i n =>
    dsimp only [c_len] at hck h hcs
    obtain ⟨⟨rfl, hdg⟩, hck⟩ := hck
    replace h := iv_at h
    obtain ⟨v, hv, h⟩ := h
    replace h := iv_isI h
    obtain ⟨y, rfl, h⟩ := h
    replace h := iv_isI h
    obtain ⟨z, rfl, h⟩ := h
    have hz : z = Int32.ofInt n := Sum.inl.inj (of_decide_eq_true hck)
    obtain ⟨k, hk⟩ := List.getElem?_of_mem (List.mem_map.mpr ⟨(i, .inl y), c_lk_mem hv, rfl⟩ : (i, dv a (.inl y)) ∈ c_dl a lv)
    exact lv_iinc hx hb hdg hl hk (by rw [← hz]) (of_decide_eq_true hcs) rfl (fun ls hl2 => hKK _ _ _ _ _ _ _ h (c_st1_has rfl hl2) hP hS)
  | iconst n =>
    dsimp only [c_len] at hck h hcs
    obtain ⟨⟨rfl, hdg⟩, hck⟩ := hck
    replace h := iv_isI h
    obtain ⟨y, rfl, h⟩ := h
    exact lv_iconst hx hb hdg (Sum.inl.inj (of_decide_eq_true hck)).symm (hKK _ _ _ _ _ _ _ h hl hP hS)
  | bipush n =>
    dsimp only [c_len] at hck h hcs
    obtain ⟨⟨rfl, hdg⟩, hck⟩ := hck
    replace h := iv_isI h
    obtain ⟨y, rfl, h⟩ := h
    exact lv_bipush hx hb hdg (Sum.inl.inj (of_decide_eq_true hck)).symm (hKK _ _ _ _ _ _ _ h hl hP hS)
  | sipush n =>
    dsimp only [c_len] at hck h hcs
    obtain ⟨⟨rfl, hdg⟩, hck⟩ := hck
    replace h := iv_isI h
    obtain ⟨y, rfl, h⟩ := h
    exact lv_sipush hx hb hdg (Sum.inl.inj (of_decide_eq_true hck)).symm (hKK _ _ _ _ _ _ _ h hl hP hS)
  | lconst n =>
    dsimp only [c_len] at hck h hcs
    obtain ⟨⟨rfl, hdg⟩, hck⟩ := hck
    replace h := iv_isL h
    obtain ⟨y, rfl, h⟩ := h
    exact lv_lconst hx hb hdg (Sum.inl.inj (Sum.inr.inj (of_decide_eq_true hck))).symm (hKK _ _ _ _ _ _ _ h hl hP hS)
  | ldc i =>
    dsimp only [c_len] at hck h hcs
    obtain ⟨⟨rfl, hdg⟩, hck⟩ := hck
    replace h := iv_isI h
    obtain ⟨y, rfl, h⟩ := h
    exact lv_ldc hx hb hown (hts _ (lw_g_of (k_ki _ (of_decide_eq_true hck)) rfl)) hdg (hKK _ _ _ _ _ _ _ h hl hP hS)
  | ldc2_w i =>
    dsimp only [c_len] at hck h hcs
    obtain ⟨⟨rfl, hdg⟩, hck⟩ := hck
    replace h := iv_isL h
    obtain ⟨y, rfl, h⟩ := h
    exact lv_ldc2 hx hb hown (hts _ (lw_g_of (k_kl _ (of_decide_eq_true hck)) rfl)) hdg (hKK _ _ _ _ _ _ _ h hl hP hS)
  | iadd =>
    dsimp only [c_len] at hck h hcs
    obtain ⟨⟨rfl, hdg⟩, -⟩ := hck
    replace h := iv_p1 h
    obtain ⟨v, r, rfl, h⟩ := h
    replace h := iv_isI h
    obtain ⟨y, rfl, h⟩ := h
    replace h := iv_p1 h
    obtain ⟨v, r, rfl, h⟩ := h
    replace h := iv_isI h
    obtain ⟨z, rfl, h⟩ := h
    exact lv_iadd hx hb hdg (hKK _ _ _ _ _ _ _ h hl hP hS)
  | isub =>
    dsimp only [c_len] at hck h hcs
    obtain ⟨⟨rfl, hdg⟩, -⟩ := hck
    replace h := iv_p1 h
    obtain ⟨v, r, rfl, h⟩ := h
    replace h := iv_isI h
    obtain ⟨y, rfl, h⟩ := h
    replace h := iv_p1 h
    obtain ⟨v, r, rfl, h⟩ := h
    replace h := iv_isI h
    obtain ⟨z, rfl, h⟩ := h
    exact lv_isub hx hb hdg (hKK _ _ _ _ _ _ _ h hl hP hS)
  | imul =>
    dsimp only [c_len] at hck h hcs
    obtain ⟨⟨rfl, hdg⟩, -⟩ := hck
    replace h := iv_p1 h
    obtain ⟨v, r, rfl, h⟩ := h
    replace h := iv_isI h
    obtain ⟨y, rfl, h⟩ := h
    replace h := iv_p1 h
    obtain ⟨v, r, rfl, h⟩ := h
    replace h := iv_isI h
    obtain ⟨z, rfl, h⟩ := h
    exact lv_imul hx hb hdg (hKK _ _ _ _ _ _ _ h hl hP hS)
  | iand =>
    dsimp only [c_len] at hck h hcs
    obtain ⟨⟨rfl, hdg⟩, -⟩ := hck
    replace h := iv_p1 h
    obtain ⟨v, r, rfl, h⟩ := h
    replace h := iv_isI h
    obtain ⟨y, rfl, h⟩ := h
    replace h := iv_p1 h
    obtain ⟨v, r, rfl, h⟩ := h
    replace h := iv_isI h
    obtain ⟨z, rfl, h⟩ := h
    exact lv_iand hx hb hdg (hKK _ _ _ _ _ _ _ h hl hP hS)
  | ladd =>
    dsimp only [c_len] at hck h hcs
    obtain ⟨⟨rfl, hdg⟩, -⟩ := hck
    replace h := iv_p1 h
    obtain ⟨v, r, rfl, h⟩ := h
    replace h := iv_isL h
    obtain ⟨y, rfl, h⟩ := h
    replace h := iv_p1 h
    obtain ⟨v, r, rfl, h⟩ := h
    replace h := iv_isL h
    obtain ⟨z, rfl, h⟩ := h
    exact lv_ladd hx hb hdg (hKK _ _ _ _ _ _ _ h hl hP hS)
  | lmul =>
    dsimp only [c_len] at hck h hcs
    obtain ⟨⟨rfl, hdg⟩, -⟩ := hck
    replace h := iv_p1 h
    obtain ⟨v, r, rfl, h⟩ := h
    replace h := iv_isL h
    obtain ⟨y, rfl, h⟩ := h
    replace h := iv_p1 h
    obtain ⟨v, r, rfl, h⟩ := h
    replace h := iv_isL h
    obtain ⟨z, rfl, h⟩ := h
    exact lv_lmul hx hb hdg (hKK _ _ _ _ _ _ _ h hl hP hS)
  | land =>
    dsimp only [c_len] at hck h hcs
    obtain ⟨⟨rfl, hdg⟩, -⟩ := hck
    replace h := iv_p1 h
    obtain ⟨v, r, rfl, h⟩ := h
    replace h := iv_isL h
    obtain ⟨y, rfl, h⟩ := h
    replace h := iv_p1 h
    obtain ⟨v, r, rfl, h⟩ := h
    replace h := iv_isL h
    obtain ⟨z, rfl, h⟩ := h
    exact lv_land hx hb hdg (hKK _ _ _ _ _ _ _ h hl hP hS)
  | lor =>
    dsimp only [c_len] at hck h hcs
    obtain ⟨⟨rfl, hdg⟩, -⟩ := hck
    replace h := iv_p1 h
    obtain ⟨v, r, rfl, h⟩ := h
    replace h := iv_isL h
    obtain ⟨y, rfl, h⟩ := h
    replace h := iv_p1 h
    obtain ⟨v, r, rfl, h⟩ := h
    replace h := iv_isL h
    obtain ⟨z, rfl, h⟩ := h
    exact lv_lor hx hb hdg (hKK _ _ _ _ _ _ _ h hl hP hS)
  | lcmp =>
    dsimp only [c_len] at hck h hcs
    obtain ⟨⟨rfl, hdg⟩, -⟩ := hck
    replace h := iv_p1 h
    obtain ⟨v, r, rfl, h⟩ := h
    replace h := iv_isL h
    obtain ⟨y, rfl, h⟩ := h
    replace h := iv_p1 h
    obtain ⟨v, r, rfl, h⟩ := h
    replace h := iv_isL h
    obtain ⟨z, rfl, h⟩ := h
    exact W.lcmp hx hb hdg (hKK _ _ _ _ _ _ _ h hl hP hS)
  | idiv =>
    dsimp only [c_len] at hck h hcs
    obtain ⟨⟨rfl, hdg⟩, -⟩ := hck
    replace h := iv_p1 h
    obtain ⟨v, r, rfl, h⟩ := h
    replace h := iv_isI h
    obtain ⟨y, rfl, h⟩ := h
    replace h := iv_p1 h
    obtain ⟨v, r, rfl, h⟩ := h
    replace h := iv_isI h
    obtain ⟨z, rfl, h⟩ := h
    split at h
    · cases h
    · rename_i hne
      exact lv_idiv hx hb hdg hne (hKK _ _ _ _ _ _ _ h hl hP hS)
  | irem =>
    dsimp only [c_len] at hck h hcs
    obtain ⟨⟨rfl, hdg⟩, -⟩ := hck
    replace h := iv_p1 h
    obtain ⟨v, r, rfl, h⟩ := h
    replace h := iv_isI h
    obtain ⟨y, rfl, h⟩ := h
    replace h := iv_p1 h
    obtain ⟨v, r, rfl, h⟩ := h
    replace h := iv_isI h
    obtain ⟨z, rfl, h⟩ := h
    split at h
    · cases h
    · rename_i hne
      exact lv_irem hx hb hdg hne (hKK _ _ _ _ _ _ _ h hl hP hS)
  | ldiv =>
    dsimp only [c_len] at hck h hcs
    obtain ⟨⟨rfl, hdg⟩, -⟩ := hck
    replace h := iv_p1 h
    obtain ⟨v, r, rfl, h⟩ := h
    replace h := iv_isL h
    obtain ⟨y, rfl, h⟩ := h
    replace h := iv_p1 h
    obtain ⟨v, r, rfl, h⟩ := h
    replace h := iv_isL h
    obtain ⟨z, rfl, h⟩ := h
    split at h
    · cases h
    · rename_i hne
      exact lv_ldiv hx hb hdg hne (hKK _ _ _ _ _ _ _ h hl hP hS)
  | lrem =>
    dsimp only [c_len] at hck h hcs
    obtain ⟨⟨rfl, hdg⟩, -⟩ := hck
    replace h := iv_p1 h
    obtain ⟨v, r, rfl, h⟩ := h
    replace h := iv_isL h
    obtain ⟨y, rfl, h⟩ := h
    replace h := iv_p1 h
    obtain ⟨v, r, rfl, h⟩ := h
    replace h := iv_isL h
    obtain ⟨z, rfl, h⟩ := h
    split at h
    · cases h
    · rename_i hne
      exact lv_lrem hx hb hdg hne (hKK _ _ _ _ _ _ _ h hl hP hS)
  | ineg =>
    dsimp only [c_len] at hck h hcs
    obtain ⟨⟨rfl, hdg⟩, -⟩ := hck
    replace h := iv_p1 h
    obtain ⟨v, r, rfl, h⟩ := h
    replace h := iv_isI h
    obtain ⟨y, rfl, h⟩ := h
    exact lv_ineg hx hb hdg (hKK _ _ _ _ _ _ _ h hl hP hS)
  | lshl =>
    dsimp only [c_len] at hck h hcs
    obtain ⟨⟨rfl, hdg⟩, -⟩ := hck
    replace h := iv_p1 h
    obtain ⟨v, r, rfl, h⟩ := h
    replace h := iv_isI h
    obtain ⟨y, rfl, h⟩ := h
    replace h := iv_p1 h
    obtain ⟨v, r, rfl, h⟩ := h
    replace h := iv_isL h
    obtain ⟨z, rfl, h⟩ := h
    exact lv_lshl hx hb hdg rfl (hKK _ _ _ _ _ _ _ h hl hP hS)
  | lshr =>
    dsimp only [c_len] at hck h hcs
    obtain ⟨⟨rfl, hdg⟩, -⟩ := hck
    replace h := iv_p1 h
    obtain ⟨v, r, rfl, h⟩ := h
    replace h := iv_isI h
    obtain ⟨y, rfl, h⟩ := h
    replace h := iv_p1 h
    obtain ⟨v, r, rfl, h⟩ := h
    replace h := iv_isL h
    obtain ⟨z, rfl, h⟩ := h
    exact lv_lshr hx hb hdg rfl (hKK _ _ _ _ _ _ _ h hl hP hS)
  | lushr =>
    dsimp only [c_len] at hck h hcs
    obtain ⟨⟨rfl, hdg⟩, -⟩ := hck
    replace h := iv_p1 h
    obtain ⟨v, r, rfl, h⟩ := h
    replace h := iv_isI h
    obtain ⟨y, rfl, h⟩ := h
    replace h := iv_p1 h
    obtain ⟨v, r, rfl, h⟩ := h
    replace h := iv_isL h
    obtain ⟨z, rfl, h⟩ := h
    exact lv_lushr hx hb hdg rfl (hKK _ _ _ _ _ _ _ h hl hP hS)
  | i2l =>
    dsimp only [c_len] at hck h hcs
    obtain ⟨⟨rfl, hdg⟩, -⟩ := hck
    replace h := iv_p1 h
    obtain ⟨v, r, rfl, h⟩ := h
    replace h := iv_isI h
    obtain ⟨y, rfl, h⟩ := h
    exact lv_i2l hx hb hdg rfl (hKK _ _ _ _ _ _ _ h hl hP hS)
  | l2i =>
    dsimp only [c_len] at hck h hcs
    obtain ⟨⟨rfl, hdg⟩, -⟩ := hck
    replace h := iv_p1 h
    obtain ⟨v, r, rfl, h⟩ := h
    replace h := iv_isL h
    obtain ⟨y, rfl, h⟩ := h
    exact lv_l2i hx hb hdg rfl (hKK _ _ _ _ _ _ _ h hl hP hS)
  | i2c =>
    dsimp only [c_len] at hck h hcs
    obtain ⟨⟨rfl, hdg⟩, -⟩ := hck
    replace h := iv_p1 h
    obtain ⟨v, r, rfl, h⟩ := h
    replace h := iv_isI h
    obtain ⟨y, rfl, h⟩ := h
    exact lv_i2c hx hb hdg rfl (hKK _ _ _ _ _ _ _ h hl hP hS)
  | dup =>
    dsimp only [c_len] at hck h hcs
    obtain ⟨⟨rfl, hdg⟩, -⟩ := hck
    replace h := iv_p1 h
    obtain ⟨v, r, rfl, h⟩ := h
    rcases v with v | v | v
    · exact lv_dup hx hb hdg rfl (hKK _ _ _ _ _ _ _ h hl hP hS)
    · cases h
    · exact lv_dup hx hb hdg rfl (hKK _ _ _ _ _ _ _ h hl hP hS)
  | pop =>
    dsimp only [c_len] at hck h hcs
    obtain ⟨⟨rfl, hdg⟩, -⟩ := hck
    replace h := iv_p1 h
    obtain ⟨v, r, rfl, h⟩ := h
    replace h := iv_isI h
    obtain ⟨y, rfl, h⟩ := h
    exact lv_pop hx hb hdg rfl (hKK _ _ _ _ _ _ _ h hl hP hS)
  | goto f =>
    dsimp only [c_len] at hck h hcs
    obtain ⟨⟨rfl, hdg⟩, hck⟩ := hck
    exact lv_goto hx hb hdg (of_decide_eq_true hck) (hKK _ _ _ _ _ _ _ h hl hP hS)
  | if_icmp cd f =>
    dsimp only [c_len] at hck h hcs
    obtain ⟨⟨rfl, hdg⟩, hck⟩ := hck
    replace h := iv_p1 h
    obtain ⟨v, r, rfl, h⟩ := h
    replace h := iv_isI h
    obtain ⟨y, rfl, h⟩ := h
    replace h := iv_p1 h
    obtain ⟨v, r, rfl, h⟩ := h
    replace h := iv_isI h
    obtain ⟨z, rfl, h⟩ := h
    cases cd with
    | eq =>
      dsimp only at h
      split at h
      · rename_i hc
        exact lv_icmp_eq hx hb hdg (of_decide_eq_true hck) (fun _ => hKK _ _ _ _ _ _ _ h hl hP hS) (fun q => absurd hc q)
      · rename_i hc
        exact lv_icmp_eq hx hb hdg (of_decide_eq_true hck) (fun q => absurd q hc) (fun _ => hKK _ _ _ _ _ _ _ h hl hP hS)
    | ge =>
      dsimp only at h
      split at h
      · rename_i hc
        exact lv_icmp_ge hx hb hdg (of_decide_eq_true hck) (fun q => absurd hc (Int32.not_lt.mpr q)) (fun _ => hKK _ _ _ _ _ _ _ h hl hP hS)
      · rename_i hc
        exact lv_icmp_ge hx hb hdg (of_decide_eq_true hck) (fun _ => hKK _ _ _ _ _ _ _ h hl hP hS) (fun q => absurd (Int32.not_lt.mp hc) q)
    | gt =>
      dsimp only at h
      split at h
      · rename_i hc
        exact lv_icmp_gt hx hb hdg (of_decide_eq_true hck) (fun _ => hKK _ _ _ _ _ _ _ h hl hP hS) (fun q => absurd hc q)
      · rename_i hc
        exact lv_icmp_gt hx hb hdg (of_decide_eq_true hck) (fun q => absurd q hc) (fun _ => hKK _ _ _ _ _ _ _ h hl hP hS)
    | le =>
      dsimp only at h
      split at h
      · rename_i hc
        exact lv_icmp_le hx hb hdg (of_decide_eq_true hck) (fun q => absurd hc (Int32.not_lt.mpr q)) (fun _ => hKK _ _ _ _ _ _ _ h hl hP hS)
      · rename_i hc
        exact lv_icmp_le hx hb hdg (of_decide_eq_true hck) (fun _ => hKK _ _ _ _ _ _ _ h hl hP hS) (fun q => absurd (Int32.not_lt.mp hc) q)
    | lt =>
      dsimp only at h
      split at h
      · rename_i hc
        exact lv_icmp_lt hx hb hdg (of_decide_eq_true hck) (fun _ => hKK _ _ _ _ _ _ _ h hl hP hS) (fun q => absurd hc q)
      · rename_i hc
        exact lv_icmp_lt hx hb hdg (of_decide_eq_true hck) (fun q => absurd q hc) (fun _ => hKK _ _ _ _ _ _ _ h hl hP hS)
    | ne =>
      dsimp only at h
      split at h
      · rename_i hc
        exact lv_icmp_ne hx hb hdg (of_decide_eq_true hck) (fun q => absurd hc q) (fun _ => hKK _ _ _ _ _ _ _ h hl hP hS)
      · rename_i hc
        exact lv_icmp_ne hx hb hdg (of_decide_eq_true hck) (fun _ => hKK _ _ _ _ _ _ _ h hl hP hS) (fun q => absurd q hc)
  | ifCond cd f =>
    dsimp only [c_len] at hck h hcs
    obtain ⟨⟨rfl, hdg⟩, hck⟩ := hck
    replace h := iv_p1 h
    obtain ⟨v, r, rfl, h⟩ := h
    replace h := iv_isI h
    obtain ⟨y, rfl, h⟩ := h
    cases cd with
    | eq =>
      dsimp only at h
      split at h
      · rename_i hc
        exact lv_if_eq hx hb hdg (of_decide_eq_true hck) (fun _ => hKK _ _ _ _ _ _ _ h hl hP hS) (fun q => absurd hc q)
      · rename_i hc
        exact lv_if_eq hx hb hdg (of_decide_eq_true hck) (fun q => absurd q hc) (fun _ => hKK _ _ _ _ _ _ _ h hl hP hS)
    | ge =>
      dsimp only at h
      split at h
      · rename_i hc
        exact lv_if_ge hx hb hdg (of_decide_eq_true hck) (fun q => absurd hc (Int32.not_lt.mpr q)) (fun _ => hKK _ _ _ _ _ _ _ h hl hP hS)
      · rename_i hc
        exact lv_if_ge hx hb hdg (of_decide_eq_true hck) (fun _ => hKK _ _ _ _ _ _ _ h hl hP hS) (fun q => absurd (Int32.not_lt.mp hc) q)
    | gt =>
      dsimp only at h
      split at h
      · rename_i hc
        exact lv_if_gt hx hb hdg (of_decide_eq_true hck) (fun _ => hKK _ _ _ _ _ _ _ h hl hP hS) (fun q => absurd hc q)
      · rename_i hc
        exact lv_if_gt hx hb hdg (of_decide_eq_true hck) (fun q => absurd q hc) (fun _ => hKK _ _ _ _ _ _ _ h hl hP hS)
    | le =>
      dsimp only at h
      split at h
      · rename_i hc
        exact lv_if_le hx hb hdg (of_decide_eq_true hck) (fun q => absurd hc (Int32.not_lt.mpr q)) (fun _ => hKK _ _ _ _ _ _ _ h hl hP hS)
      · rename_i hc
        exact lv_if_le hx hb hdg (of_decide_eq_true hck) (fun _ => hKK _ _ _ _ _ _ _ h hl hP hS) (fun q => absurd (Int32.not_lt.mp hc) q)
    | lt =>
      dsimp only at h
      split at h
      · rename_i hc
        exact lv_if_lt hx hb hdg (of_decide_eq_true hck) (fun _ => hKK _ _ _ _ _ _ _ h hl hP hS) (fun q => absurd hc q)
      · rename_i hc
        exact lv_if_lt hx hb hdg (of_decide_eq_true hck) (fun q => absurd q hc) (fun _ => hKK _ _ _ _ _ _ _ h hl hP hS)
    | ne =>
      dsimp only at h
      split at h
      · rename_i hc
        exact lv_if_ne hx hb hdg (of_decide_eq_true hck) (fun q => absurd hc q) (fun _ => hKK _ _ _ _ _ _ _ h hl hP hS)
      · rename_i hc
        exact lv_if_ne hx hb hdg (of_decide_eq_true hck) (fun _ => hKK _ _ _ _ _ _ _ h hl hP hS) (fun q => absurd q hc)
  | tableswitch df lo hi fs =>
    dsimp only [c_len] at hck h hcs
    obtain ⟨⟨-, hdg⟩, hck⟩ := hck
    replace h := iv_p1 h
    obtain ⟨v, r, rfl, h⟩ := h
    replace h := iv_isI h
    obtain ⟨y, rfl, h⟩ := h
    simp only [Bool.and_eq_true, decide_eq_true_eq] at hck
    obtain ⟨⟨⟨h1, h2⟩, h3⟩, h4⟩ := hck
    have hsz : (fs.toList.length : Int) = hi - lo + 1 := by rw [Array.length_toList]; omega
    rcases c_sw_tab fs.toList sw lo h4 (by omega) (by omega) h with ⟨h5, h⟩ | ⟨j, f, g, e1, e2, e3, h⟩
    · exact lv_tableOut hx hb hdg (by omega) h1 (hKK _ _ _ _ _ _ _ h hl hP hS)
    · have hj : j < fs.toList.length := (List.getElem?_eq_some_iff.mp e1).1
      exact lv_tableIn hx hb hdg (by omega) (by omega) (by rw [show (y.toInt - lo).toNat = j by omega, ← Array.getElem?_toList]; exact e1) e3 (hKK _ _ _ _ _ _ _ h hl hP hS)
  | lookupswitch df ps =>
    dsimp only [c_len] at hck h hcs
    obtain ⟨⟨-, hdg⟩, hck⟩ := hck
    replace h := iv_p1 h
    obtain ⟨v, r, rfl, h⟩ := h
    replace h := iv_isI h
    obtain ⟨y, rfl, h⟩ := h
    simp only [Bool.and_eq_true, decide_eq_true_eq] at hck
    obtain ⟨⟨h1, h2⟩, h4⟩ := hck
    obtain ⟨g, e1, h⟩ := c_sw_lk h1 ps.toList sw h4 h
    exact lv_lookup hx hb hdg h2 rfl e1 (hKK _ _ _ _ _ _ _ h hl hP hS)
  | getfield i =>
    dsimp only [c_len] at hck h hcs
    obtain ⟨⟨rfl, hdg⟩, hck⟩ := hck
    replace h := iv_p1 h
    obtain ⟨v, r, rfl, h⟩ := h
    replace h := iv_isR h
    obtain ⟨k, rfl, h⟩ := h
    replace h := iv_obj h
    obtain ⟨sl, hsl, h⟩ := h
    obtain ⟨C0, T0, N0, hc, F1, F2, F3, F4, -, -⟩ := c_fld (of_decide_eq_true hck) hts
    have he : (c_wld a cA σ)[k]? = some (a k, .inr (u, c_wf a (σ.1 k) 0 sl)) := by rw [c_wld_get, hsl]; rfl
    have hg : ∀ (n : Nat), c_nth sl t = some n → (c_wf a (σ.1 k) 0 sl)[t]? = some (match n with
        | n + 2 => Value.ref (a n)
        | _ => Value.int (σ.1 k (0 + t))) := fun n hn => by rw [c_wf_get, hn]; rfl
    rcases hn : c_nth sl t with _ | _ | _ | n
    · rw [hn] at h; cases h
    · rw [hn] at h
      have hv := hg _ hn
      simp only [Nat.zero_add] at hv
      exact va_get hx hb hts F1 hown hK hP k he hc t F2 F3 (fun _ h9 => by rw [F4] at h9; exact h9) hv hdg (hKK _ _ _ _ _ _ _ h hl hP hS)
    · rw [hn] at h
      have hv := hg _ hn
      simp only [Nat.zero_add] at hv
      exact va_get hx hb hts F1 hown hK hP k he hc t F2 F3 (fun _ h9 => by rw [F4] at h9; exact h9) hv hdg (hKK _ _ _ _ _ _ _ h hl hP hS)
    · rw [hn] at h
      exact va_get hx hb hts F1 hown hK hP k he hc t F2 F3 (fun _ h9 => by rw [F4] at h9; exact h9) (hg _ hn) hdg (hKK _ _ _ _ _ _ _ h hl hP hS)
  | putfield i =>
    dsimp only [c_len] at hck h hcs
    obtain ⟨⟨rfl, hdg⟩, hck⟩ := hck
    replace h := iv_p1 h
    obtain ⟨v, r, rfl, h⟩ := h
    replace h := iv_isI h
    obtain ⟨y, rfl, h⟩ := h
    replace h := iv_p1 h
    obtain ⟨v, r, rfl, h⟩ := h
    replace h := iv_isR h
    obtain ⟨k, rfl, h⟩ := h
    replace h := iv_obj h
    obtain ⟨sl, hsl, h⟩ := h
    obtain ⟨C0, T0, N0, hc, F1, F2, F3, F4, F5, ty0, F6, F7⟩ := c_fld (of_decide_eq_true hck) hts
    have he : (c_wld a cA σ)[k]? = some (a k, .inr (u, c_wf a (σ.1 k) 0 sl)) := by rw [c_wld_get, hsl]; rfl
    have hkt := k_ct _ (c_nth_mem hsl)
    simp only [ck_ct, Bool.and_eq_true, decide_eq_true_eq] at hkt
    have hsj := List.all_eq_true.mp hkt.2
    have hup : ∀ n, c_nth sl t = some n → n < 2 → c_wld a cA (c_put σ k t y) = (c_wld a cA σ).set k (a k, .inr (u, (c_wf a (σ.1 k) 0 sl).set t (.int y))) := fun n hn h2 => by
      rw [c_wld_upd (σ := σ) (σ' := c_put σ k t y) (fun i hi => c_put_ne hi) (fun i _ => rfl) hsl]
      simp only [c_we, c_put_eq, c_wf_set hn h2]
    rcases hn : c_nth sl t with _ | _ | _ | n
    · rw [hn] at h; cases h
    · rw [hn] at h
      have hj := hsj t (List.mem_range.mpr (c_nth_lt hn))
      simp only [hn, Bool.and_eq_true, decide_eq_true_eq, Bool.not_eq_true'] at hj
      rw [← F5] at hj
      exact va_put (ty := .int) hx hb hts F1 ty0 F6 F7 hown hK hP (c_D_of hin) hS k he hc t F2 F3 (fun _ h9 => by rw [F4] at h9; exact h9) hj.2 (by rw [hj.1]; decide +kernel) rfl rfl (by rw [c_wf_len]; exact c_nth_lt hn) hdg (fun H1 locs1 hP1 _ hS1 => hKK _ _ _ _ _ _ _ h hl (by rw [hup _ hn (by omega)]; exact hP1) hS1)
    · rw [hn] at h
      have hj := hsj t (List.mem_range.mpr (c_nth_lt hn))
      simp only [hn, Bool.and_eq_true, decide_eq_true_eq, Bool.not_eq_true'] at hj
      rw [← F5] at hj
      dsimp only at h
      split at h
      · rename_i hz
        have hz2 := c_bz_iff hz
        exact va_put (ty := .boolean) hx hb hts F1 ty0 F6 F7 hown hK hP (c_D_of hin) hS k he hc t F2 F3 (fun _ h9 => by rw [F4] at h9; exact h9) hj.2 (by rw [hj.1]; decide +kernel) (by rcases hz2 with rfl | rfl <;> rfl) (by rcases hz2 with rfl | rfl <;> rfl) (by rw [c_wf_len]; exact c_nth_lt hn) hdg (fun H1 locs1 hP1 _ hS1 => hKK _ _ _ _ _ _ _ h hl (by rw [hup _ hn (by omega)]; exact hP1) hS1)
      · cases h
    · rw [hn] at h; cases h
  | iaload =>
    dsimp only [c_len] at hck h hcs
    obtain ⟨⟨rfl, hdg⟩, -⟩ := hck
    replace h := iv_p1 h
    obtain ⟨v, r, rfl, h⟩ := h
    replace h := iv_isI h
    obtain ⟨y, rfl, h⟩ := h
    replace h := iv_p1 h
    obtain ⟨v, r, rfl, h⟩ := h
    replace h := iv_isR h
    obtain ⟨k, rfl, h⟩ := h
    replace h := iv_arr h
    obtain ⟨ty, n, hty, h⟩ := h
    cases ty <;> first | (cases h; done) | skip
    replace h := iv_rg h
    obtain ⟨hir, h⟩ := h
    have he : (c_wld a cA σ)[k]? = some (a k, c_we a cA σ k (.inr (.int, n))) := by rw [c_wld_get, hty]; rfl
    exact va_iald hx hb hK hP k 0 he rfl hir hdg (hKK _ _ _ _ _ _ _ h hl hP hS)
  | caload =>
    dsimp only [c_len] at hck h hcs
    obtain ⟨⟨rfl, hdg⟩, -⟩ := hck
    replace h := iv_p1 h
    obtain ⟨v, r, rfl, h⟩ := h
    replace h := iv_isI h
    obtain ⟨y, rfl, h⟩ := h
    replace h := iv_p1 h
    obtain ⟨v, r, rfl, h⟩ := h
    replace h := iv_isR h
    obtain ⟨k, rfl, h⟩ := h
    replace h := iv_arr h
    obtain ⟨ty, n, hty, h⟩ := h
    cases ty <;> first | (cases h; done) | skip
    replace h := iv_rg h
    obtain ⟨hir, h⟩ := h
    have he : (c_wld a cA σ)[k]? = some (a k, c_we a cA σ k (.inr (.char, n))) := by rw [c_wld_get, hty]; rfl
    exact va_cald hx hb hK hP k 1 he rfl hir hdg (hKK _ _ _ _ _ _ _ h hl hP hS)
  | baload =>
    dsimp only [c_len] at hck h hcs
    obtain ⟨⟨rfl, hdg⟩, -⟩ := hck
    replace h := iv_p1 h
    obtain ⟨v, r, rfl, h⟩ := h
    replace h := iv_isI h
    obtain ⟨y, rfl, h⟩ := h
    replace h := iv_p1 h
    obtain ⟨v, r, rfl, h⟩ := h
    replace h := iv_isR h
    obtain ⟨k, rfl, h⟩ := h
    replace h := iv_arr h
    obtain ⟨ty, n, hty, h⟩ := h
    cases ty <;> first | (cases h; done) | skip
    replace h := iv_rg h
    obtain ⟨hir, h⟩ := h
    have he : (c_wld a cA σ)[k]? = some (a k, c_we a cA σ k (.inr (.boolean, n))) := by rw [c_wld_get, hty]; rfl
    exact va_zald hx hb hK hP k 2 he rfl hir hdg (hKK _ _ _ _ _ _ _ h hl hP hS)
  | laload =>
    dsimp only [c_len] at hck h hcs
    obtain ⟨⟨rfl, hdg⟩, -⟩ := hck
    replace h := iv_p1 h
    obtain ⟨v, r, rfl, h⟩ := h
    replace h := iv_isI h
    obtain ⟨y, rfl, h⟩ := h
    replace h := iv_p1 h
    obtain ⟨v, r, rfl, h⟩ := h
    replace h := iv_isR h
    obtain ⟨k, rfl, h⟩ := h
    replace h := iv_arr h
    obtain ⟨ty, n, hty, h⟩ := h
    cases ty <;> first | (cases h; done) | skip
    replace h := iv_rg h
    obtain ⟨hir, h⟩ := h
    have he : (c_wld a cA σ)[k]? = some (a k, c_we a cA σ k (.inr (.long, n))) := by rw [c_wld_get, hty]; rfl
    exact va_lald hx hb hK hP k 3 he rfl hir hdg (hKK _ _ _ _ _ _ _ h hl hP hS)
  | iastore =>
    dsimp only [c_len] at hck h hcs
    obtain ⟨⟨rfl, hdg⟩, -⟩ := hck
    replace h := iv_p1 h
    obtain ⟨v, r, rfl, h⟩ := h
    replace h := iv_isI h
    obtain ⟨z, rfl, h⟩ := h
    replace h := iv_p1 h
    obtain ⟨v, r, rfl, h⟩ := h
    replace h := iv_isI h
    obtain ⟨y, rfl, h⟩ := h
    replace h := iv_p1 h
    obtain ⟨v, r, rfl, h⟩ := h
    replace h := iv_isR h
    obtain ⟨k, rfl, h⟩ := h
    replace h := iv_arr h
    obtain ⟨ty, n, hty, h⟩ := h
    cases ty <;> first | (cases h; done) | skip
    replace h := iv_rg h
    obtain ⟨hir, h⟩ := h
    have he : (c_wld a cA σ)[k]? = some (a k, c_we a cA σ k (.inr (.int, n))) := by rw [c_wld_get, hty]; rfl
    have hup := c_wld_upd (a := a) (cA := cA) (σ := σ) (σ' := c_put σ k y.toNatClampNeg z) (fun i hi => c_put_ne hi) (fun i _ => rfl) hty
    simp only [c_we, c_put_eq] at hup
    exact va_iast hx hb hK hP (c_D_of hin) hS k 0 he rfl hir hdg (fun H1 locs1 hP1 _ hS1 => hKK _ _ _ _ _ _ _ h hl (by rw [hup]; exact hP1) hS1)
  | castore =>
    dsimp only [c_len] at hck h hcs
    obtain ⟨⟨rfl, hdg⟩, -⟩ := hck
    replace h := iv_p1 h
    obtain ⟨v, r, rfl, h⟩ := h
    replace h := iv_isI h
    obtain ⟨z, rfl, h⟩ := h
    replace h := iv_p1 h
    obtain ⟨v, r, rfl, h⟩ := h
    replace h := iv_isI h
    obtain ⟨y, rfl, h⟩ := h
    replace h := iv_p1 h
    obtain ⟨v, r, rfl, h⟩ := h
    replace h := iv_isR h
    obtain ⟨k, rfl, h⟩ := h
    replace h := iv_arr h
    obtain ⟨ty, n, hty, h⟩ := h
    cases ty <;> first | (cases h; done) | skip
    replace h := iv_rg h
    obtain ⟨hir, h⟩ := h
    have he : (c_wld a cA σ)[k]? = some (a k, c_we a cA σ k (.inr (.char, n))) := by rw [c_wld_get, hty]; rfl
    have hup := c_wld_upd (a := a) (cA := cA) (σ := σ) (σ' := c_put σ k y.toNatClampNeg (vp_nar .char z)) (fun i hi => c_put_ne hi) (fun i _ => rfl) hty
    simp only [c_we, c_put_eq] at hup
    exact va_cast hx hb hK hP (c_D_of hin) hS k 1 he rfl hir hdg (fun H1 locs1 hP1 _ hS1 => hKK _ _ _ _ _ _ _ h hl (by rw [hup]; exact hP1) hS1)
  | bastore =>
    dsimp only [c_len] at hck h hcs
    obtain ⟨⟨rfl, hdg⟩, -⟩ := hck
    replace h := iv_p1 h
    obtain ⟨v, r, rfl, h⟩ := h
    replace h := iv_isI h
    obtain ⟨z, rfl, h⟩ := h
    replace h := iv_p1 h
    obtain ⟨v, r, rfl, h⟩ := h
    replace h := iv_isI h
    obtain ⟨y, rfl, h⟩ := h
    replace h := iv_p1 h
    obtain ⟨v, r, rfl, h⟩ := h
    replace h := iv_isR h
    obtain ⟨k, rfl, h⟩ := h
    replace h := iv_arr h
    obtain ⟨ty, n, hty, h⟩ := h
    cases ty <;> first | (cases h; done) | skip
    replace h := iv_rg h
    obtain ⟨hir, h⟩ := h
    have he : (c_wld a cA σ)[k]? = some (a k, c_we a cA σ k (.inr (.boolean, n))) := by rw [c_wld_get, hty]; rfl
    have hup := c_wld_upd (a := a) (cA := cA) (σ := σ) (σ' := c_put σ k y.toNatClampNeg (vp_nar .boolean z)) (fun i hi => c_put_ne hi) (fun i _ => rfl) hty
    simp only [c_we, c_put_eq] at hup
    exact va_zast hx hb hK hP (c_D_of hin) hS k 2 he rfl hir hdg (fun H1 locs1 hP1 _ hS1 => hKK _ _ _ _ _ _ _ h hl (by rw [hup]; exact hP1) hS1)
  | lastore =>
    dsimp only [c_len] at hck h hcs
    obtain ⟨⟨rfl, hdg⟩, -⟩ := hck
    replace h := iv_p1 h
    obtain ⟨v, r, rfl, h⟩ := h
    replace h := iv_isL h
    obtain ⟨z, rfl, h⟩ := h
    replace h := iv_p1 h
    obtain ⟨v, r, rfl, h⟩ := h
    replace h := iv_isI h
    obtain ⟨y, rfl, h⟩ := h
    replace h := iv_p1 h
    obtain ⟨v, r, rfl, h⟩ := h
    replace h := iv_isR h
    obtain ⟨k, rfl, h⟩ := h
    replace h := iv_arr h
    obtain ⟨ty, n, hty, h⟩ := h
    cases ty <;> first | (cases h; done) | skip
    replace h := iv_rg h
    obtain ⟨hir, h⟩ := h
    have he : (c_wld a cA σ)[k]? = some (a k, c_we a cA σ k (.inr (.long, n))) := by rw [c_wld_get, hty]; rfl
    have hup := c_wld_upd (a := a) (cA := cA) (σ := σ) (σ' := c_putL σ k y.toNatClampNeg z) (fun i _ => rfl) (fun i hi => c_putL_ne hi) hty
    simp only [c_we, c_putL_eq] at hup
    exact va_last hx hb hK hP (c_D_of hin) hS k 3 he rfl hir hdg (fun H1 locs1 hP1 _ hS1 => hKK _ _ _ _ _ _ _ h hl (by rw [hup]; exact hP1) hS1)
  | arraylength =>
    dsimp only [c_len] at hck h hcs
    obtain ⟨⟨rfl, hdg⟩, -⟩ := hck
    replace h := iv_p1 h
    obtain ⟨v, r, rfl, h⟩ := h
    replace h := iv_isR h
    obtain ⟨k, rfl, h⟩ := h
    replace h := iv_arr h
    obtain ⟨ty, n, hty, h⟩ := h
    have he : (c_wld a cA σ)[k]? = some (a k, c_we a cA σ k (.inr (ty, n))) := by rw [c_wld_get, hty]; rfl
    have hkt := k_ct _ (c_nth_mem hty)
    simp only [ck_ct, decide_eq_true_eq] at hkt
    rcases hkt with rfl | rfl | rfl | rfl
    · exact va_alen hx hb hK hP k 0 he rfl rfl hdg (hKK _ _ _ _ _ _ _ h hl hP hS)
    · exact va_alen hx hb hK hP k 1 he rfl rfl hdg (hKK _ _ _ _ _ _ _ h hl hP hS)
    · exact va_alen hx hb hK hP k 2 he rfl rfl hdg (hKK _ _ _ _ _ _ _ h hl hP hS)
    · exact va_alen hx hb hK hP k 3 he rfl rfl hdg (hKK _ _ _ _ _ _ _ h hl hP hS)
  | invokevirtual i =>
    dsimp only [c_len] at hck h hcs
    obtain ⟨⟨rfl, hdg⟩, hck⟩ := hck
    exact c_stepV hx hb hml hown hts hnw hK hin hC hck hdg h (fun st' σ' H' locs' h2 hP2 hS2 => hKK _ _ _ _ _ _ _ h2 hl hP2 hS2) hl hP hS
  | invokestatic i =>
    dsimp only [c_len] at hck h hcs
    obtain ⟨⟨rfl, hdg⟩, hck⟩ := hck
    cases w with
    | zero => exact c_stepS hx hb hml hown hts hnw hK hin hC hck hdg h (fun st' σ' H' locs' h2 hP2 hS2 => hKK _ _ _ _ _ _ _ h2 hl hP2 hS2) hl hP hS
    | succ w =>
      replace h := iv_p1 h
      obtain ⟨v, r, rfl, h⟩ := h
      replace h := iv_isI h
      obtain ⟨y, rfl, h⟩ := h
      replace h := iv_p1 h
      obtain ⟨v, r, rfl, h⟩ := h
      replace h := iv_isI h
      obtain ⟨z, rfl, h⟩ := h
      cases hbl : Nat.ble (c_sum r) 8
      · rw [hbl] at h; cases h
      · rw [hbl] at h
        obtain ⟨rfl, rfl⟩ := of_decide_eq_true hck
        have hle : c_sum r ≤ 8 := Nat.le_of_ble_eq_true hbl
        refine va_mmin hx hb (by rw [hml]; exact hl.1.symm) hown (hts _ (lw_g_of c_min1 rfl)) (hts _ (lw_g_of c_min2 rfl)) (hts _ (lw_g_of c_min3 rfl)) (hts _ (lw_g_of c_min4 rfl)) (show 1 ≤ d + 1 by omega) ?_ (Nat.zero_le _) (Nat.zero_le _) hdg (hKK _ _ _ _ _ _ _ h hl hP hS)
        rw [c_sum_eq]
        show c_sum r + 13 ≤ 45 * (d + 1)
        omega
  | ireturn =>
    dsimp only [c_len] at hck h hcs
    obtain ⟨⟨rfl, hdg⟩, -⟩ := hck
    replace h := iv_p1 h
    obtain ⟨v, r, rfl, h⟩ := h
    replace h := iv_isI h
    obtain ⟨y, rfl, h⟩ := h
    cases r with
    | cons _ _ => cases h
    | nil =>
      rcases rb with _ | _ | _ | rb
      · cases h
      · cases h
        exact W.iret hx hb hrt (fun t ht _ => ⟨⟨y, (), rfl, rfl, show va_P D d_CL (c_wld a cA σ) t.heap by rw [ht]; exact hP⟩, hS.F ht⟩) hS.2.2 hdg
      · have h2 : (if c_bz y = true then some (σ, y) else none) = some x := h
        clear h
        split at h2
        · rename_i hz
          have hz2 := c_bz_iff hz
          cases h2
          exact W.zret (ty := .boolean) hx hb hrt (by rcases hz2 with rfl | rfl <;> rfl) (fun t ht _ => ⟨⟨y, (), rfl, rfl, show va_P D d_CL (c_wld a cA σ) t.heap by rw [ht]; exact hP⟩, hS.F ht⟩) hS.2.2 hdg
        · cases h2
      · cases h
  | return_ =>
    dsimp only [c_len] at hck h hcs
    obtain ⟨⟨rfl, hdg⟩, -⟩ := hck
    cases st with
    | cons _ _ => cases h
    | nil =>
      cases rb with
      | succ _ => cases h
      | zero =>
        cases h
        exact W.vret hx hb hrt (fun t ht _ => ⟨⟨(), rfl, trivial, show va_P D d_CL (c_wld a cA σ) t.heap by rw [ht]; exact hP⟩, hS.F ht⟩) hS.2.2 hdg
  | _ => cases h
end SS
end
section
/-! all methods: what the small machine answers, the real one answers -/
def c_nxi (i : Nat) (v : c_V) : Nat := match v with
  | .inl _ => i + 1
  | .inr (.inl _) => i + 2
  | .inr (.inr _) => i + 1
def c_ag : Nat → List c_V → c_L
  | _, [] => []
  | i, v :: vs => (i, v) :: c_ag (c_nxi i v) vs
noncomputable def c_M : Nat → c_C
  | 0, _, _, _ => none
  | d + 1, t, as, σ => match c_nth d_M t with
    | none => none
    | some q => match Nat.ble (c_sum as) q.2.2.2.2.2.2.1 with
      | true => c_run d_CT q.1 q.2.1 q.2.2.1 (c_M d) 0 (c_nr q.2.1 0 (c_ag 0 as)) [] σ
      | false => none
theorem c_ag_eq {a : Nat → Nat} : ∀ (as : List c_V) (i : Nat), lv_args i (as.map (dv a)) = c_dl a (c_ag i as)
  | [], _ => rfl
  | v :: as, i => by
    have hi : (if (dv a v).category = 2 then i + 2 else i + 1) = c_nxi i v := by
      rcases v with v | v | v <;> rfl
    simp only [List.map_cons, lv_args, c_ag, c_dl]
    rw [hi, c_ag_eq as]
    rfl
theorem c_sl_len {a : Nat → Nat} : ∀ as : List c_V, (lg_sl (as.map (dv a))).length = c_sum as
  | [] => rfl
  | v :: as => by
    have h := c_sl_len (a := a) as
    unfold lg_sl at h ⊢
    rw [List.map_cons, List.flatMap_cons, List.length_append, h, c_sum]
    congr 1
    rcases v with v | v | v <;> rfl
section SW
variable {p : Program} {l : Launch} {e : Env} {s : State} {m : MethodId} {args : Array Value} {below : List Frame} {meth : Method} {c : Code} {cc : ByteArray} {d nL ow rb : Nat} {a : Nat → Nat} {cA : FieldType → ClassId} {D : va_G} {x : c_S × Int32} {C : c_C} {T : List (Nat × c_E)} {L : List (Nat × List Nat)}
theorem c_goW (hx : p.tables.exec = Jvm.exec) (hb : c.code = cc) (hml : c.maxLocals = nL) (hown : s.vm.findClass (d_nm ow) = some m.cls) (hts : ∀ w ∈ lw_g, w.before args s = true) (hnw : c_NW s) (hK : va_K D d_CL (c_tys cA) s) (hin : c_inj a) (hlk : meth.locks = false) (hrt : meth.sig.returnType = c_rt rb)
    (hC : ∀ t as τ y, C t as τ = some y → c_Con l a cA D d t as τ y) (hT : ∀ r ∈ T, ck_e ow cc r = true) (hT2 : ∀ r ∈ T, ck_s nL r = true) :
    ∀ (n pc : Nat) (lv : c_L) (st : List c_V) (σ : c_S) (H : Heap) (locs : List Loc) (ls : Array Slot), c_go d_CT T L rb C n pc lv st σ = some x → lv_has ls nL (c_dl a lv) → va_P D d_CL (c_wld a cA σ) H → va_S (c_A a s.heap.size) s.heap H locs → W p l e (c_rm (d + 1)) s m args below meth c H locs 0 0 (MQ below (c_Q a cA D (c_A a s.heap.size) rb x) args s 0 0 (c_A a s.heap.size)) (F0 m pc ls (st.map (dv a)))
  | 0, _, _, _, _, _, _, _, h, _, _, _ => by cases h
  | n + 1, pc, lv, st, σ, H, locs, ls, h, hl, hP, hS => by
    rw [c_go] at h
    cases he : c_lk T pc with
    | none => rw [he] at h; cases h
    | some E =>
      rw [he] at h
      dsimp only at h
      exact c_step hx hb hml hown hts hnw hK hin hlk hrt hC (hT _ (c_lk_mem he)) (hT2 _ (c_lk_mem he)) h (fun pc' lv' st' σ' H' locs' ls' h' hl' hP' hS' => c_goW hx hb hml hown hts hnw hK hin hlk hrt hC hT hT2 n pc' _ st' σ' H' locs' ls' h' (c_nr_has hl') hP' hS') hl hP hS
end SW
theorem c_sound (l : Launch) (a : Nat → Nat) (cA : FieldType → ClassId) (D : va_G) (hin : c_inj a) : ∀ (d t : Nat) (as : List c_V) (σ : c_S) (x : c_S × Int32), c_M d t as σ = some x → c_Con l a cA D d t as σ x
  | 0, _, _, _, _, h => by cases h
  | d + 1, t, as, σ, x, h => by
    rw [c_M] at h
    cases hq : c_nth d_M t with
    | none => rw [hq] at h; cases h
    | some q =>
      rw [hq] at h
      dsimp only at h
      have hok := o_all q (c_nth_mem hq)
      have hks := k_s q (c_nth_mem hq)
      obtain ⟨T, L, rb, ow, y, cc, mx, ret⟩ := q
      obtain ⟨hT, hcode, hpl, hcls, hret, -, -, -, -⟩ := hok
      dsimp only at h hT hcode hpl hcls hret hks
      cases hbl : Nat.ble (c_sum as) mx with
      | false => rw [hbl] at h; cases h
      | true =>
        rw [hbl] at h
        dsimp only at h
        have hle : c_sum as ≤ mx := Nat.le_of_ble_eq_true hbl
        obtain ⟨n, hn⟩ := c_run_iff.mp h
        refine ⟨_, hq, fun sz => ?_⟩
        dsimp only
        refine Met.ofW (cc := cc) (maxL := mx) (ret := ret) hpl rfl ?_
        intro p e s m args below meth c s₁ B hml hv
        obtain ⟨rfl, rfl, hP, hK, hnw⟩ := hv
        have hts : ∀ w ∈ Cond.code y cc mx ret :: lw_g, w.before (as.map (dv a)).toArray s = true := atoms_spec (ws := Cond.code y cc mx ret :: lw_g) B.pre
        have hown : s.vm.findClass (d_nm ow) = some m.cls := by rw [← hcls]; exact findClass_of_methodNamed B.named
        have hrt : meth.sig.returnType = c_rt rb := by
          rw [B.returns]
          rcases hret with ⟨rfl, rfl⟩ | ⟨rfl, rfl⟩ | ⟨rfl, rfl⟩ <;> rfl
        have hl := lv_entry (as.map (dv a)) (n := mx) (by rw [c_sl_len]; exact hle)
        rw [lg_entry_eq]
        generalize (lg_sl (as.map (dv a)) ++ List.replicate (mx - (lg_sl (as.map (dv a))).length) Slot.unset).toArray = ls at hl ⊢
        rw [c_ag_eq] at hl
        exact c_goW B.exec B.bytes hml hown (fun w hw => hts w (List.mem_cons_of_mem _ hw)) hnw hK hin B.notSynchronized hrt (c_sound l a cA D hin d) hT hks n 0 _ [] σ s.heap [] ls hn (c_nr_has hl) hP va_S.rf
end
section
theorem i_vc : Claimed_1_1 ∧ Claimed_1_2 := sorry
end
