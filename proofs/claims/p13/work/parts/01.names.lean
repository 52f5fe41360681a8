-- ===== PART A: goes FIRST, ahead of the names: the tables' words, and 'selects' of the private methods out of them =====
/-- a private method of a class that the tables say can be made, by its rows of tables_1 -/
def lw_okq (q : MethodName × Nat) : Prop := (q.1.cls ≠ "java/lang/invoke/MethodHandle" ∧ q.1.cls ≠ "java/lang/invoke/VarHandle") ∧ Cond.instantiable q.1.cls q.2 ∈ tables_1 ∧ Cond.privateMethod q.1 ∈ tables_1 ∧ Cond.instanceMethod q.1 ∈ tables_1
theorem lw_p0 : lw_okq (⟨"ElevenBullocks$Land", "layWay", "(I)V"⟩, 16) := ⟨⟨by decide +kernel, by decide +kernel⟩, List.mem_of_getElem? (i := 31) (by decide +kernel), List.mem_of_getElem? (i := 543) (by decide +kernel), List.mem_of_getElem? (i := 544) (by decide +kernel)⟩
theorem lw_p1 : lw_okq (⟨"ElevenBullocks$Land", "noteWayAt", "(II)V"⟩, 16) := ⟨⟨by decide +kernel, by decide +kernel⟩, List.mem_of_getElem? (i := 31) (by decide +kernel), List.mem_of_getElem? (i := 547) (by decide +kernel), List.mem_of_getElem? (i := 548) (by decide +kernel)⟩
theorem lw_p2 : lw_okq (⟨"ElevenBullocks$Land", "bringNear", "([III)V"⟩, 16) := ⟨⟨by decide +kernel, by decide +kernel⟩, List.mem_of_getElem? (i := 31) (by decide +kernel), List.mem_of_getElem? (i := 551) (by decide +kernel), List.mem_of_getElem? (i := 552) (by decide +kernel)⟩
theorem lw_p3 : lw_okq (⟨"ElevenBullocks$Reader", "advance", "()V"⟩, 11) := ⟨⟨by decide +kernel, by decide +kernel⟩, List.mem_of_getElem? (i := 233) (by decide +kernel), List.mem_of_getElem? (i := 592) (by decide +kernel), List.mem_of_getElem? (i := 593) (by decide +kernel)⟩
theorem lw_p4 : lw_okq (⟨"ElevenBullocks$Reader", "scanNumber", "()V"⟩, 11) := ⟨⟨by decide +kernel, by decide +kernel⟩, List.mem_of_getElem? (i := 233) (by decide +kernel), List.mem_of_getElem? (i := 599) (by decide +kernel), List.mem_of_getElem? (i := 600) (by decide +kernel)⟩
theorem lw_p5 : lw_okq (⟨"ElevenBullocks$Reader", "scanWord", "()V"⟩, 11) := ⟨⟨by decide +kernel, by decide +kernel⟩, List.mem_of_getElem? (i := 233) (by decide +kernel), List.mem_of_getElem? (i := 607) (by decide +kernel), List.mem_of_getElem? (i := 608) (by decide +kernel)⟩
theorem lw_p6 : lw_okq (⟨"ElevenBullocks$Reader", "wordOf", "()I"⟩, 11) := ⟨⟨by decide +kernel, by decide +kernel⟩, List.mem_of_getElem? (i := 233) (by decide +kernel), List.mem_of_getElem? (i := 611) (by decide +kernel), List.mem_of_getElem? (i := 612) (by decide +kernel)⟩
theorem lw_p7 : lw_okq (⟨"ElevenBullocks$Reader", "scanSign", "(I)V"⟩, 11) := ⟨⟨by decide +kernel, by decide +kernel⟩, List.mem_of_getElem? (i := 233) (by decide +kernel), List.mem_of_getElem? (i := 664) (by decide +kernel), List.mem_of_getElem? (i := 665) (by decide +kernel)⟩
theorem lw_p8 : lw_okq (⟨"ElevenBullocks$Reader", "readClause", "()V"⟩, 11) := ⟨⟨by decide +kernel, by decide +kernel⟩, List.mem_of_getElem? (i := 233) (by decide +kernel), List.mem_of_getElem? (i := 668) (by decide +kernel), List.mem_of_getElem? (i := 669) (by decide +kernel)⟩
theorem lw_p9 : lw_okq (⟨"ElevenBullocks$Reader", "fail", "(I)V"⟩, 11) := ⟨⟨by decide +kernel, by decide +kernel⟩, List.mem_of_getElem? (i := 233) (by decide +kernel), List.mem_of_getElem? (i := 673) (by decide +kernel), List.mem_of_getElem? (i := 674) (by decide +kernel)⟩
theorem lw_p10 : lw_okq (⟨"ElevenBullocks$Reader", "readSum", "(I)V"⟩, 11) := ⟨⟨by decide +kernel, by decide +kernel⟩, List.mem_of_getElem? (i := 233) (by decide +kernel), List.mem_of_getElem? (i := 681) (by decide +kernel), List.mem_of_getElem? (i := 682) (by decide +kernel)⟩
theorem lw_p11 : lw_okq (⟨"ElevenBullocks$Reader", "readProduct", "(I)V"⟩, 11) := ⟨⟨by decide +kernel, by decide +kernel⟩, List.mem_of_getElem? (i := 233) (by decide +kernel), List.mem_of_getElem? (i := 685) (by decide +kernel), List.mem_of_getElem? (i := 686) (by decide +kernel)⟩
theorem lw_p12 : lw_okq (⟨"ElevenBullocks$Reader", "readOne", "(I)V"⟩, 11) := ⟨⟨by decide +kernel, by decide +kernel⟩, List.mem_of_getElem? (i := 233) (by decide +kernel), List.mem_of_getElem? (i := 689) (by decide +kernel), List.mem_of_getElem? (i := 690) (by decide +kernel)⟩
theorem lw_p13 : lw_okq (⟨"ElevenBullocks$Reader", "readNumber", "(II)I"⟩, 11) := ⟨⟨by decide +kernel, by decide +kernel⟩, List.mem_of_getElem? (i := 233) (by decide +kernel), List.mem_of_getElem? (i := 693) (by decide +kernel), List.mem_of_getElem? (i := 694) (by decide +kernel)⟩
theorem lw_p14 : lw_okq (⟨"ElevenBullocks$Reader", "readLetter", "()V"⟩, 11) := ⟨⟨by decide +kernel, by decide +kernel⟩, List.mem_of_getElem? (i := 233) (by decide +kernel), List.mem_of_getElem? (i := 701) (by decide +kernel), List.mem_of_getElem? (i := 702) (by decide +kernel)⟩
theorem lw_p15 : lw_okq (⟨"ElevenBullocks$Reader", "enter", "(I)Z"⟩, 11) := ⟨⟨by decide +kernel, by decide +kernel⟩, List.mem_of_getElem? (i := 233) (by decide +kernel), List.mem_of_getElem? (i := 705) (by decide +kernel), List.mem_of_getElem? (i := 706) (by decide +kernel)⟩
def lw_privs_1 : List (MethodName × Nat) := [(⟨"ElevenBullocks$Land", "layWay", "(I)V"⟩, 16), (⟨"ElevenBullocks$Land", "noteWayAt", "(II)V"⟩, 16), (⟨"ElevenBullocks$Land", "bringNear", "([III)V"⟩, 16), (⟨"ElevenBullocks$Reader", "advance", "()V"⟩, 11), (⟨"ElevenBullocks$Reader", "scanNumber", "()V"⟩, 11), (⟨"ElevenBullocks$Reader", "scanWord", "()V"⟩, 11), (⟨"ElevenBullocks$Reader", "wordOf", "()I"⟩, 11), (⟨"ElevenBullocks$Reader", "scanSign", "(I)V"⟩, 11), (⟨"ElevenBullocks$Reader", "readClause", "()V"⟩, 11), (⟨"ElevenBullocks$Reader", "fail", "(I)V"⟩, 11), (⟨"ElevenBullocks$Reader", "readSum", "(I)V"⟩, 11), (⟨"ElevenBullocks$Reader", "readProduct", "(I)V"⟩, 11), (⟨"ElevenBullocks$Reader", "readOne", "(I)V"⟩, 11), (⟨"ElevenBullocks$Reader", "readNumber", "(II)I"⟩, 11), (⟨"ElevenBullocks$Reader", "readLetter", "()V"⟩, 11), (⟨"ElevenBullocks$Reader", "enter", "(I)Z"⟩, 11)]
theorem lw_r1 : ∀ q ∈ lw_privs_1, lw_okq q := List.forall_mem_cons.mpr ⟨lw_p0, List.forall_mem_cons.mpr ⟨lw_p1, List.forall_mem_cons.mpr ⟨lw_p2, List.forall_mem_cons.mpr ⟨lw_p3, List.forall_mem_cons.mpr ⟨lw_p4, List.forall_mem_cons.mpr ⟨lw_p5, List.forall_mem_cons.mpr ⟨lw_p6, List.forall_mem_cons.mpr ⟨lw_p7, List.forall_mem_cons.mpr ⟨lw_p8, List.forall_mem_cons.mpr ⟨lw_p9, List.forall_mem_cons.mpr ⟨lw_p10, List.forall_mem_cons.mpr ⟨lw_p11, List.forall_mem_cons.mpr ⟨lw_p12, List.forall_mem_cons.mpr ⟨lw_p13, List.forall_mem_cons.mpr ⟨lw_p14, List.forall_mem_cons.mpr ⟨lw_p15, fun _ h => absurd h List.not_mem_nil⟩⟩⟩⟩⟩⟩⟩⟩⟩⟩⟩⟩⟩⟩⟩⟩
theorem lw_p16 : lw_okq (⟨"ElevenBullocks$Reader", "expect", "(I)V"⟩, 11) := ⟨⟨by decide +kernel, by decide +kernel⟩, List.mem_of_getElem? (i := 233) (by decide +kernel), List.mem_of_getElem? (i := 709) (by decide +kernel), List.mem_of_getElem? (i := 710) (by decide +kernel)⟩
theorem lw_p17 : lw_okq (⟨"ElevenBullocks$Reader", "readIf", "(I)V"⟩, 11) := ⟨⟨by decide +kernel, by decide +kernel⟩, List.mem_of_getElem? (i := 233) (by decide +kernel), List.mem_of_getElem? (i := 713) (by decide +kernel), List.mem_of_getElem? (i := 714) (by decide +kernel)⟩
theorem lw_p18 : lw_okq (⟨"ElevenBullocks$Reader", "readEither", "(I)V"⟩, 11) := ⟨⟨by decide +kernel, by decide +kernel⟩, List.mem_of_getElem? (i := 233) (by decide +kernel), List.mem_of_getElem? (i := 717) (by decide +kernel), List.mem_of_getElem? (i := 718) (by decide +kernel)⟩
theorem lw_p19 : lw_okq (⟨"ElevenBullocks$Reader", "readBoth", "(I)V"⟩, 11) := ⟨⟨by decide +kernel, by decide +kernel⟩, List.mem_of_getElem? (i := 233) (by decide +kernel), List.mem_of_getElem? (i := 721) (by decide +kernel), List.mem_of_getElem? (i := 722) (by decide +kernel)⟩
theorem lw_p20 : lw_okq (⟨"ElevenBullocks$Reader", "readAsk", "(I)V"⟩, 11) := ⟨⟨by decide +kernel, by decide +kernel⟩, List.mem_of_getElem? (i := 233) (by decide +kernel), List.mem_of_getElem? (i := 725) (by decide +kernel), List.mem_of_getElem? (i := 726) (by decide +kernel)⟩
theorem lw_p21 : lw_okq (⟨"ElevenBullocks$Reader", "readLet", "(I)V"⟩, 11) := ⟨⟨by decide +kernel, by decide +kernel⟩, List.mem_of_getElem? (i := 233) (by decide +kernel), List.mem_of_getElem? (i := 733) (by decide +kernel), List.mem_of_getElem? (i := 734) (by decide +kernel)⟩
theorem lw_p22 : lw_okq (⟨"ElevenBullocks$Reader", "readName", "()V"⟩, 11) := ⟨⟨by decide +kernel, by decide +kernel⟩, List.mem_of_getElem? (i := 233) (by decide +kernel), List.mem_of_getElem? (i := 744) (by decide +kernel), List.mem_of_getElem? (i := 745) (by decide +kernel)⟩
theorem lw_p23 : lw_okq (⟨"ElevenBullocks$Reader", "readDeed", "(I)V"⟩, 11) := ⟨⟨by decide +kernel, by decide +kernel⟩, List.mem_of_getElem? (i := 233) (by decide +kernel), List.mem_of_getElem? (i := 754) (by decide +kernel), List.mem_of_getElem? (i := 755) (by decide +kernel)⟩
theorem lw_p24 : lw_okq (⟨"ElevenBullocks", "rule", "(I)V"⟩, 13) := ⟨⟨by decide +kernel, by decide +kernel⟩, List.mem_of_getElem? (i := 23) (by decide +kernel), List.mem_of_getElem? (i := 769) (by decide +kernel), List.mem_of_getElem? (i := 770) (by decide +kernel)⟩
theorem lw_p25 : lw_okq (⟨"ElevenBullocks", "scriptOf", "(I)LElevenBullocks$Script;"⟩, 13) := ⟨⟨by decide +kernel, by decide +kernel⟩, List.mem_of_getElem? (i := 23) (by decide +kernel), List.mem_of_getElem? (i := 773) (by decide +kernel), List.mem_of_getElem? (i := 774) (by decide +kernel)⟩
theorem lw_p26 : lw_okq (⟨"ElevenBullocks", "passMinutes", "(I)Z"⟩, 13) := ⟨⟨by decide +kernel, by decide +kernel⟩, List.mem_of_getElem? (i := 23) (by decide +kernel), List.mem_of_getElem? (i := 812) (by decide +kernel), List.mem_of_getElem? (i := 813) (by decide +kernel)⟩
theorem lw_p27 : lw_okq (⟨"ElevenBullocks$Minutes", "goOn", "(I)V"⟩, 3) := ⟨⟨by decide +kernel, by decide +kernel⟩, List.mem_of_getElem? (i := 348) (by decide +kernel), List.mem_of_getElem? (i := 820) (by decide +kernel), List.mem_of_getElem? (i := 821) (by decide +kernel)⟩
theorem lw_p28 : lw_okq (⟨"ElevenBullocks$Land", "distance", "(II)I"⟩, 16) := ⟨⟨by decide +kernel, by decide +kernel⟩, List.mem_of_getElem? (i := 31) (by decide +kernel), List.mem_of_getElem? (i := 828) (by decide +kernel), List.mem_of_getElem? (i := 829) (by decide +kernel)⟩
theorem lw_p29 : lw_okq (⟨"ElevenBullocks$Laws", "nameAll", "(III)V"⟩, 7) := ⟨⟨by decide +kernel, by decide +kernel⟩, List.mem_of_getElem? (i := 319) (by decide +kernel), List.mem_of_getElem? (i := 859) (by decide +kernel), List.mem_of_getElem? (i := 860) (by decide +kernel)⟩
theorem lw_p30 : lw_okq (⟨"ElevenBullocks$Laws", "peopleAt", "(I)I"⟩, 7) := ⟨⟨by decide +kernel, by decide +kernel⟩, List.mem_of_getElem? (i := 319) (by decide +kernel), List.mem_of_getElem? (i := 864) (by decide +kernel), List.mem_of_getElem? (i := 865) (by decide +kernel)⟩
theorem lw_p31 : lw_okq (⟨"ElevenBullocks$Laws", "answer", "(LElevenBullocks$Script;I)I"⟩, 7) := ⟨⟨by decide +kernel, by decide +kernel⟩, List.mem_of_getElem? (i := 319) (by decide +kernel), List.mem_of_getElem? (i := 868) (by decide +kernel), List.mem_of_getElem? (i := 869) (by decide +kernel)⟩
def lw_privs_2 : List (MethodName × Nat) := [(⟨"ElevenBullocks$Reader", "expect", "(I)V"⟩, 11), (⟨"ElevenBullocks$Reader", "readIf", "(I)V"⟩, 11), (⟨"ElevenBullocks$Reader", "readEither", "(I)V"⟩, 11), (⟨"ElevenBullocks$Reader", "readBoth", "(I)V"⟩, 11), (⟨"ElevenBullocks$Reader", "readAsk", "(I)V"⟩, 11), (⟨"ElevenBullocks$Reader", "readLet", "(I)V"⟩, 11), (⟨"ElevenBullocks$Reader", "readName", "()V"⟩, 11), (⟨"ElevenBullocks$Reader", "readDeed", "(I)V"⟩, 11), (⟨"ElevenBullocks", "rule", "(I)V"⟩, 13), (⟨"ElevenBullocks", "scriptOf", "(I)LElevenBullocks$Script;"⟩, 13), (⟨"ElevenBullocks", "passMinutes", "(I)Z"⟩, 13), (⟨"ElevenBullocks$Minutes", "goOn", "(I)V"⟩, 3), (⟨"ElevenBullocks$Land", "distance", "(II)I"⟩, 16), (⟨"ElevenBullocks$Laws", "nameAll", "(III)V"⟩, 7), (⟨"ElevenBullocks$Laws", "peopleAt", "(I)I"⟩, 7), (⟨"ElevenBullocks$Laws", "answer", "(LElevenBullocks$Script;I)I"⟩, 7)]
theorem lw_r2 : ∀ q ∈ lw_privs_2, lw_okq q := List.forall_mem_cons.mpr ⟨lw_p16, List.forall_mem_cons.mpr ⟨lw_p17, List.forall_mem_cons.mpr ⟨lw_p18, List.forall_mem_cons.mpr ⟨lw_p19, List.forall_mem_cons.mpr ⟨lw_p20, List.forall_mem_cons.mpr ⟨lw_p21, List.forall_mem_cons.mpr ⟨lw_p22, List.forall_mem_cons.mpr ⟨lw_p23, List.forall_mem_cons.mpr ⟨lw_p24, List.forall_mem_cons.mpr ⟨lw_p25, List.forall_mem_cons.mpr ⟨lw_p26, List.forall_mem_cons.mpr ⟨lw_p27, List.forall_mem_cons.mpr ⟨lw_p28, List.forall_mem_cons.mpr ⟨lw_p29, List.forall_mem_cons.mpr ⟨lw_p30, List.forall_mem_cons.mpr ⟨lw_p31, fun _ h => absurd h List.not_mem_nil⟩⟩⟩⟩⟩⟩⟩⟩⟩⟩⟩⟩⟩⟩⟩⟩
theorem lw_p32 : lw_okq (⟨"ElevenBullocks$Laws", "push", "(I)V"⟩, 7) := ⟨⟨by decide +kernel, by decide +kernel⟩, List.mem_of_getElem? (i := 319) (by decide +kernel), List.mem_of_getElem? (i := 873) (by decide +kernel), List.mem_of_getElem? (i := 874) (by decide +kernel)⟩
theorem lw_p33 : lw_okq (⟨"ElevenBullocks$Laws", "pop", "()I"⟩, 7) := ⟨⟨by decide +kernel, by decide +kernel⟩, List.mem_of_getElem? (i := 319) (by decide +kernel), List.mem_of_getElem? (i := 877) (by decide +kernel), List.mem_of_getElem? (i := 878) (by decide +kernel)⟩
theorem lw_p34 : lw_okq (⟨"ElevenBullocks$Minutes", "moveOn", "(I)V"⟩, 3) := ⟨⟨by decide +kernel, by decide +kernel⟩, List.mem_of_getElem? (i := 348) (by decide +kernel), List.mem_of_getElem? (i := 896) (by decide +kernel), List.mem_of_getElem? (i := 897) (by decide +kernel)⟩
theorem lw_p35 : lw_okq (⟨"ElevenBullocks$Minutes", "isTaken", "(I)Z"⟩, 3) := ⟨⟨by decide +kernel, by decide +kernel⟩, List.mem_of_getElem? (i := 348) (by decide +kernel), List.mem_of_getElem? (i := 916) (by decide +kernel), List.mem_of_getElem? (i := 917) (by decide +kernel)⟩
theorem lw_p36 : lw_okq (⟨"ElevenBullocks$Minutes", "doHarm", "()V"⟩, 3) := ⟨⟨by decide +kernel, by decide +kernel⟩, List.mem_of_getElem? (i := 348) (by decide +kernel), List.mem_of_getElem? (i := 928) (by decide +kernel), List.mem_of_getElem? (i := 929) (by decide +kernel)⟩
theorem lw_p37 : lw_okq (⟨"ElevenBullocks$Minutes", "joinBunches", "()V"⟩, 3) := ⟨⟨by decide +kernel, by decide +kernel⟩, List.mem_of_getElem? (i := 348) (by decide +kernel), List.mem_of_getElem? (i := 932) (by decide +kernel), List.mem_of_getElem? (i := 933) (by decide +kernel)⟩
theorem lw_p38 : lw_okq (⟨"ElevenBullocks", "carryOut", "(III)Z"⟩, 13) := ⟨⟨by decide +kernel, by decide +kernel⟩, List.mem_of_getElem? (i := 23) (by decide +kernel), List.mem_of_getElem? (i := 968) (by decide +kernel), List.mem_of_getElem? (i := 969) (by decide +kernel)⟩
theorem lw_p39 : lw_okq (⟨"ElevenBullocks", "happen", "()V"⟩, 13) := ⟨⟨by decide +kernel, by decide +kernel⟩, List.mem_of_getElem? (i := 23) (by decide +kernel), List.mem_of_getElem? (i := 983) (by decide +kernel), List.mem_of_getElem? (i := 984) (by decide +kernel)⟩
theorem lw_p40 : lw_okq (⟨"ElevenBullocks$Walk", "begin", "(II)V"⟩, 12) := ⟨⟨by decide +kernel, by decide +kernel⟩, List.mem_of_getElem? (i := 364) (by decide +kernel), List.mem_of_getElem? (i := 1038) (by decide +kernel), List.mem_of_getElem? (i := 1039) (by decide +kernel)⟩
theorem lw_p41 : lw_okq (⟨"ElevenBullocks$Walk", "standOf", "(I)I"⟩, 12) := ⟨⟨by decide +kernel, by decide +kernel⟩, List.mem_of_getElem? (i := 364) (by decide +kernel), List.mem_of_getElem? (i := 1046) (by decide +kernel), List.mem_of_getElem? (i := 1047) (by decide +kernel)⟩
theorem lw_p42 : lw_okq (⟨"ElevenBullocks$Walk", "moveOdds", "()V"⟩, 12) := ⟨⟨by decide +kernel, by decide +kernel⟩, List.mem_of_getElem? (i := 364) (by decide +kernel), List.mem_of_getElem? (i := 1050) (by decide +kernel), List.mem_of_getElem? (i := 1051) (by decide +kernel)⟩
theorem lw_p43 : lw_okq (⟨"ElevenBullocks$Walk", "moveOddsFrom", "(I)V"⟩, 12) := ⟨⟨by decide +kernel, by decide +kernel⟩, List.mem_of_getElem? (i := 364) (by decide +kernel), List.mem_of_getElem? (i := 1054) (by decide +kernel), List.mem_of_getElem? (i := 1055) (by decide +kernel)⟩
theorem lw_p44 : lw_okq (⟨"ElevenBullocks$Walk", "chanceOf", "(III)I"⟩, 12) := ⟨⟨by decide +kernel, by decide +kernel⟩, List.mem_of_getElem? (i := 364) (by decide +kernel), List.mem_of_getElem? (i := 1061) (by decide +kernel), List.mem_of_getElem? (i := 1062) (by decide +kernel)⟩
theorem lw_p45 : lw_okq (⟨"ElevenBullocks$Walk", "spread", "(I)I"⟩, 12) := ⟨⟨by decide +kernel, by decide +kernel⟩, List.mem_of_getElem? (i := 364) (by decide +kernel), List.mem_of_getElem? (i := 1085) (by decide +kernel), List.mem_of_getElem? (i := 1086) (by decide +kernel)⟩
theorem lw_p46 : lw_okq (⟨"ElevenBullocks$Walk", "goFrom", "(II)I"⟩, 12) := ⟨⟨by decide +kernel, by decide +kernel⟩, List.mem_of_getElem? (i := 364) (by decide +kernel), List.mem_of_getElem? (i := 1089) (by decide +kernel), List.mem_of_getElem? (i := 1090) (by decide +kernel)⟩
theorem lw_p47 : lw_okq (⟨"ElevenBullocks$Errands", "choosePerson", "(III)V"⟩, 8) := ⟨⟨by decide +kernel, by decide +kernel⟩, List.mem_of_getElem? (i := 408) (by decide +kernel), List.mem_of_getElem? (i := 1133) (by decide +kernel), List.mem_of_getElem? (i := 1134) (by decide +kernel)⟩
def lw_privs_3 : List (MethodName × Nat) := [(⟨"ElevenBullocks$Laws", "push", "(I)V"⟩, 7), (⟨"ElevenBullocks$Laws", "pop", "()I"⟩, 7), (⟨"ElevenBullocks$Minutes", "moveOn", "(I)V"⟩, 3), (⟨"ElevenBullocks$Minutes", "isTaken", "(I)Z"⟩, 3), (⟨"ElevenBullocks$Minutes", "doHarm", "()V"⟩, 3), (⟨"ElevenBullocks$Minutes", "joinBunches", "()V"⟩, 3), (⟨"ElevenBullocks", "carryOut", "(III)Z"⟩, 13), (⟨"ElevenBullocks", "happen", "()V"⟩, 13), (⟨"ElevenBullocks$Walk", "begin", "(II)V"⟩, 12), (⟨"ElevenBullocks$Walk", "standOf", "(I)I"⟩, 12), (⟨"ElevenBullocks$Walk", "moveOdds", "()V"⟩, 12), (⟨"ElevenBullocks$Walk", "moveOddsFrom", "(I)V"⟩, 12), (⟨"ElevenBullocks$Walk", "chanceOf", "(III)I"⟩, 12), (⟨"ElevenBullocks$Walk", "spread", "(I)I"⟩, 12), (⟨"ElevenBullocks$Walk", "goFrom", "(II)I"⟩, 12), (⟨"ElevenBullocks$Errands", "choosePerson", "(III)V"⟩, 8)]
theorem lw_r3 : ∀ q ∈ lw_privs_3, lw_okq q := List.forall_mem_cons.mpr ⟨lw_p32, List.forall_mem_cons.mpr ⟨lw_p33, List.forall_mem_cons.mpr ⟨lw_p34, List.forall_mem_cons.mpr ⟨lw_p35, List.forall_mem_cons.mpr ⟨lw_p36, List.forall_mem_cons.mpr ⟨lw_p37, List.forall_mem_cons.mpr ⟨lw_p38, List.forall_mem_cons.mpr ⟨lw_p39, List.forall_mem_cons.mpr ⟨lw_p40, List.forall_mem_cons.mpr ⟨lw_p41, List.forall_mem_cons.mpr ⟨lw_p42, List.forall_mem_cons.mpr ⟨lw_p43, List.forall_mem_cons.mpr ⟨lw_p44, List.forall_mem_cons.mpr ⟨lw_p45, List.forall_mem_cons.mpr ⟨lw_p46, List.forall_mem_cons.mpr ⟨lw_p47, fun _ h => absurd h List.not_mem_nil⟩⟩⟩⟩⟩⟩⟩⟩⟩⟩⟩⟩⟩⟩⟩⟩
theorem lw_p48 : lw_okq (⟨"ElevenBullocks$Errands", "keepChoice", "(I)V"⟩, 8) := ⟨⟨by decide +kernel, by decide +kernel⟩, List.mem_of_getElem? (i := 408) (by decide +kernel), List.mem_of_getElem? (i := 1137) (by decide +kernel), List.mem_of_getElem? (i := 1138) (by decide +kernel)⟩
theorem lw_p49 : lw_okq (⟨"ElevenBullocks$Walk", "openGates", "()I"⟩, 12) := ⟨⟨by decide +kernel, by decide +kernel⟩, List.mem_of_getElem? (i := 364) (by decide +kernel), List.mem_of_getElem? (i := 1156) (by decide +kernel), List.mem_of_getElem? (i := 1157) (by decide +kernel)⟩
theorem lw_p50 : lw_okq (⟨"ElevenBullocks$Errands", "chooseBunch", "(IIIII)V"⟩, 8) := ⟨⟨by decide +kernel, by decide +kernel⟩, List.mem_of_getElem? (i := 408) (by decide +kernel), List.mem_of_getElem? (i := 1206) (by decide +kernel), List.mem_of_getElem? (i := 1207) (by decide +kernel)⟩
theorem lw_p51 : lw_okq (⟨"ElevenBullocks", "costAt", "(ILElevenBullocks$Script;)I"⟩, 13) := ⟨⟨by decide +kernel, by decide +kernel⟩, List.mem_of_getElem? (i := 23) (by decide +kernel), List.mem_of_getElem? (i := 1219) (by decide +kernel), List.mem_of_getElem? (i := 1220) (by decide +kernel)⟩
theorem lw_p52 : lw_okq (⟨"ElevenBullocks", "costOfGardens", "(I)I"⟩, 13) := ⟨⟨by decide +kernel, by decide +kernel⟩, List.mem_of_getElem? (i := 23) (by decide +kernel), List.mem_of_getElem? (i := 1231) (by decide +kernel), List.mem_of_getElem? (i := 1232) (by decide +kernel)⟩
theorem lw_p53 : lw_okq (⟨"ElevenBullocks$Notes", "isBetter", "(II)Z"⟩, 6) := ⟨⟨by decide +kernel, by decide +kernel⟩, List.mem_of_getElem? (i := 203) (by decide +kernel), List.mem_of_getElem? (i := 1272) (by decide +kernel), List.mem_of_getElem? (i := 1273) (by decide +kernel)⟩
theorem lw_p54 : lw_okq (⟨"ElevenBullocksModel", "isStretch", "(I)Z"⟩, 44) := ⟨⟨by decide +kernel, by decide +kernel⟩, List.mem_of_getElem? (i := 1306) (by decide +kernel), List.mem_of_getElem? (i := 1459) (by decide +kernel), List.mem_of_getElem? (i := 1460) (by decide +kernel)⟩
theorem lw_p55 : lw_okq (⟨"ElevenBullocksModel", "waysAt", "(I)I"⟩, 44) := ⟨⟨by decide +kernel, by decide +kernel⟩, List.mem_of_getElem? (i := 1306) (by decide +kernel), List.mem_of_getElem? (i := 1463) (by decide +kernel), List.mem_of_getElem? (i := 1464) (by decide +kernel)⟩
theorem lw_p56 : lw_okq (⟨"ElevenBullocksModel", "acrossOf", "(II)I"⟩, 44) := ⟨⟨by decide +kernel, by decide +kernel⟩, List.mem_of_getElem? (i := 1306) (by decide +kernel), List.mem_of_getElem? (i := 1467) (by decide +kernel), List.mem_of_getElem? (i := 1468) (by decide +kernel)⟩
theorem lw_p57 : lw_okq (⟨"ElevenBullocksModel", "personNow", "(IIII)I"⟩, 44) := ⟨⟨by decide +kernel, by decide +kernel⟩, List.mem_of_getElem? (i := 1306) (by decide +kernel), List.mem_of_getElem? (i := 1478) (by decide +kernel), List.mem_of_getElem? (i := 1479) (by decide +kernel)⟩
theorem lw_p58 : lw_okq (⟨"ElevenBullocksModel", "set", "(III)V"⟩, 44) := ⟨⟨by decide +kernel, by decide +kernel⟩, List.mem_of_getElem? (i := 1306) (by decide +kernel), List.mem_of_getElem? (i := 1482) (by decide +kernel), List.mem_of_getElem? (i := 1483) (by decide +kernel)⟩
theorem lw_p59 : lw_okq (⟨"ElevenBullocksModel", "four", "(I)V"⟩, 44) := ⟨⟨by decide +kernel, by decide +kernel⟩, List.mem_of_getElem? (i := 1306) (by decide +kernel), List.mem_of_getElem? (i := 1490) (by decide +kernel), List.mem_of_getElem? (i := 1491) (by decide +kernel)⟩
theorem lw_p60 : lw_okq (⟨"ElevenBullocksModel", "readText", "()I"⟩, 44) := ⟨⟨by decide +kernel, by decide +kernel⟩, List.mem_of_getElem? (i := 1306) (by decide +kernel), List.mem_of_getElem? (i := 1502) (by decide +kernel), List.mem_of_getElem? (i := 1503) (by decide +kernel)⟩
theorem lw_p61 : lw_okq (⟨"ElevenBullocksModel", "nextToken", "()V"⟩, 44) := ⟨⟨by decide +kernel, by decide +kernel⟩, List.mem_of_getElem? (i := 1306) (by decide +kernel), List.mem_of_getElem? (i := 1506) (by decide +kernel), List.mem_of_getElem? (i := 1507) (by decide +kernel)⟩
theorem lw_p62 : lw_okq (⟨"ElevenBullocksModel", "byteAt", "(I)I"⟩, 44) := ⟨⟨by decide +kernel, by decide +kernel⟩, List.mem_of_getElem? (i := 1306) (by decide +kernel), List.mem_of_getElem? (i := 1510) (by decide +kernel), List.mem_of_getElem? (i := 1511) (by decide +kernel)⟩
theorem lw_p63 : lw_okq (⟨"ElevenBullocksModel", "clause", "()I"⟩, 44) := ⟨⟨by decide +kernel, by decide +kernel⟩, List.mem_of_getElem? (i := 1306) (by decide +kernel), List.mem_of_getElem? (i := 1525) (by decide +kernel), List.mem_of_getElem? (i := 1526) (by decide +kernel)⟩
def lw_privs_4 : List (MethodName × Nat) := [(⟨"ElevenBullocks$Errands", "keepChoice", "(I)V"⟩, 8), (⟨"ElevenBullocks$Walk", "openGates", "()I"⟩, 12), (⟨"ElevenBullocks$Errands", "chooseBunch", "(IIIII)V"⟩, 8), (⟨"ElevenBullocks", "costAt", "(ILElevenBullocks$Script;)I"⟩, 13), (⟨"ElevenBullocks", "costOfGardens", "(I)I"⟩, 13), (⟨"ElevenBullocks$Notes", "isBetter", "(II)Z"⟩, 6), (⟨"ElevenBullocksModel", "isStretch", "(I)Z"⟩, 44), (⟨"ElevenBullocksModel", "waysAt", "(I)I"⟩, 44), (⟨"ElevenBullocksModel", "acrossOf", "(II)I"⟩, 44), (⟨"ElevenBullocksModel", "personNow", "(IIII)I"⟩, 44), (⟨"ElevenBullocksModel", "set", "(III)V"⟩, 44), (⟨"ElevenBullocksModel", "four", "(I)V"⟩, 44), (⟨"ElevenBullocksModel", "readText", "()I"⟩, 44), (⟨"ElevenBullocksModel", "nextToken", "()V"⟩, 44), (⟨"ElevenBullocksModel", "byteAt", "(I)I"⟩, 44), (⟨"ElevenBullocksModel", "clause", "()I"⟩, 44)]
theorem lw_r4 : ∀ q ∈ lw_privs_4, lw_okq q := List.forall_mem_cons.mpr ⟨lw_p48, List.forall_mem_cons.mpr ⟨lw_p49, List.forall_mem_cons.mpr ⟨lw_p50, List.forall_mem_cons.mpr ⟨lw_p51, List.forall_mem_cons.mpr ⟨lw_p52, List.forall_mem_cons.mpr ⟨lw_p53, List.forall_mem_cons.mpr ⟨lw_p54, List.forall_mem_cons.mpr ⟨lw_p55, List.forall_mem_cons.mpr ⟨lw_p56, List.forall_mem_cons.mpr ⟨lw_p57, List.forall_mem_cons.mpr ⟨lw_p58, List.forall_mem_cons.mpr ⟨lw_p59, List.forall_mem_cons.mpr ⟨lw_p60, List.forall_mem_cons.mpr ⟨lw_p61, List.forall_mem_cons.mpr ⟨lw_p62, List.forall_mem_cons.mpr ⟨lw_p63, fun _ h => absurd h List.not_mem_nil⟩⟩⟩⟩⟩⟩⟩⟩⟩⟩⟩⟩⟩⟩⟩⟩
theorem lw_p64 : lw_okq (⟨"ElevenBullocksModel", "sortOf", "()I"⟩, 44) := ⟨⟨by decide +kernel, by decide +kernel⟩, List.mem_of_getElem? (i := 1306) (by decide +kernel), List.mem_of_getElem? (i := 1529) (by decide +kernel), List.mem_of_getElem? (i := 1530) (by decide +kernel)⟩
theorem lw_p65 : lw_okq (⟨"ElevenBullocksModel", "isWord", "(J)Z"⟩, 44) := ⟨⟨by decide +kernel, by decide +kernel⟩, List.mem_of_getElem? (i := 1306) (by decide +kernel), List.mem_of_getElem? (i := 1542) (by decide +kernel), List.mem_of_getElem? (i := 1543) (by decide +kernel)⟩
theorem lw_p66 : lw_okq (⟨"ElevenBullocksModel", "body", "(II)I"⟩, 44) := ⟨⟨by decide +kernel, by decide +kernel⟩, List.mem_of_getElem? (i := 1306) (by decide +kernel), List.mem_of_getElem? (i := 1555) (by decide +kernel), List.mem_of_getElem? (i := 1556) (by decide +kernel)⟩
theorem lw_p67 : lw_okq (⟨"ElevenBullocksModel", "pair", "(IIIJII)I"⟩, 44) := ⟨⟨by decide +kernel, by decide +kernel⟩, List.mem_of_getElem? (i := 1306) (by decide +kernel), List.mem_of_getElem? (i := 1559) (by decide +kernel), List.mem_of_getElem? (i := 1560) (by decide +kernel)⟩
theorem lw_p68 : lw_okq (⟨"ElevenBullocksModel", "figure", "(III)I"⟩, 44) := ⟨⟨by decide +kernel, by decide +kernel⟩, List.mem_of_getElem? (i := 1306) (by decide +kernel), List.mem_of_getElem? (i := 1563) (by decide +kernel), List.mem_of_getElem? (i := 1564) (by decide +kernel)⟩
theorem lw_p69 : lw_okq (⟨"ElevenBullocksModel", "worded", "(JIII)I"⟩, 44) := ⟨⟨by decide +kernel, by decide +kernel⟩, List.mem_of_getElem? (i := 1306) (by decide +kernel), List.mem_of_getElem? (i := 1567) (by decide +kernel), List.mem_of_getElem? (i := 1568) (by decide +kernel)⟩
theorem lw_p70 : lw_okq (⟨"ElevenBullocksModel", "lawClause", "(I)I"⟩, 44) := ⟨⟨by decide +kernel, by decide +kernel⟩, List.mem_of_getElem? (i := 1306) (by decide +kernel), List.mem_of_getElem? (i := 1571) (by decide +kernel), List.mem_of_getElem? (i := 1572) (by decide +kernel)⟩
theorem lw_p71 : lw_okq (⟨"ElevenBullocksModel", "summed", "()I"⟩, 44) := ⟨⟨by decide +kernel, by decide +kernel⟩, List.mem_of_getElem? (i := 1306) (by decide +kernel), List.mem_of_getElem? (i := 1575) (by decide +kernel), List.mem_of_getElem? (i := 1576) (by decide +kernel)⟩
theorem lw_p72 : lw_okq (⟨"ElevenBullocksModel", "behindOne", "()Z"⟩, 44) := ⟨⟨by decide +kernel, by decide +kernel⟩, List.mem_of_getElem? (i := 1306) (by decide +kernel), List.mem_of_getElem? (i := 1579) (by decide +kernel), List.mem_of_getElem? (i := 1580) (by decide +kernel)⟩
theorem lw_p73 : lw_okq (⟨"ElevenBullocksModel", "betweenOf", "()I"⟩, 44) := ⟨⟨by decide +kernel, by decide +kernel⟩, List.mem_of_getElem? (i := 1306) (by decide +kernel), List.mem_of_getElem? (i := 1583) (by decide +kernel), List.mem_of_getElem? (i := 1584) (by decide +kernel)⟩
theorem lw_p74 : lw_okq (⟨"ElevenBullocksModel", "openNow", "()I"⟩, 44) := ⟨⟨by decide +kernel, by decide +kernel⟩, List.mem_of_getElem? (i := 1306) (by decide +kernel), List.mem_of_getElem? (i := 1587) (by decide +kernel), List.mem_of_getElem? (i := 1588) (by decide +kernel)⟩
theorem lw_p75 : lw_okq (⟨"ElevenBullocksModel", "openAt", "()I"⟩, 44) := ⟨⟨by decide +kernel, by decide +kernel⟩, List.mem_of_getElem? (i := 1306) (by decide +kernel), List.mem_of_getElem? (i := 1591) (by decide +kernel), List.mem_of_getElem? (i := 1592) (by decide +kernel)⟩
theorem lw_p76 : lw_okq (⟨"ElevenBullocksModel", "isCompared", "()Z"⟩, 44) := ⟨⟨by decide +kernel, by decide +kernel⟩, List.mem_of_getElem? (i := 1306) (by decide +kernel), List.mem_of_getElem? (i := 1595) (by decide +kernel), List.mem_of_getElem? (i := 1596) (by decide +kernel)⟩
theorem lw_p77 : lw_okq (⟨"ElevenBullocksModel", "compareOf", "()I"⟩, 44) := ⟨⟨by decide +kernel, by decide +kernel⟩, List.mem_of_getElem? (i := 1306) (by decide +kernel), List.mem_of_getElem? (i := 1602) (by decide +kernel), List.mem_of_getElem? (i := 1603) (by decide +kernel)⟩
theorem lw_p78 : lw_okq (⟨"ElevenBullocksModel", "settle", "(I)V"⟩, 44) := ⟨⟨by decide +kernel, by decide +kernel⟩, List.mem_of_getElem? (i := 1306) (by decide +kernel), List.mem_of_getElem? (i := 1606) (by decide +kernel), List.mem_of_getElem? (i := 1607) (by decide +kernel)⟩
theorem lw_p79 : lw_okq (⟨"ElevenBullocksModel", "emit", "(II)V"⟩, 44) := ⟨⟨by decide +kernel, by decide +kernel⟩, List.mem_of_getElem? (i := 1306) (by decide +kernel), List.mem_of_getElem? (i := 1610) (by decide +kernel), List.mem_of_getElem? (i := 1611) (by decide +kernel)⟩
def lw_privs_5 : List (MethodName × Nat) := [(⟨"ElevenBullocksModel", "sortOf", "()I"⟩, 44), (⟨"ElevenBullocksModel", "isWord", "(J)Z"⟩, 44), (⟨"ElevenBullocksModel", "body", "(II)I"⟩, 44), (⟨"ElevenBullocksModel", "pair", "(IIIJII)I"⟩, 44), (⟨"ElevenBullocksModel", "figure", "(III)I"⟩, 44), (⟨"ElevenBullocksModel", "worded", "(JIII)I"⟩, 44), (⟨"ElevenBullocksModel", "lawClause", "(I)I"⟩, 44), (⟨"ElevenBullocksModel", "summed", "()I"⟩, 44), (⟨"ElevenBullocksModel", "behindOne", "()Z"⟩, 44), (⟨"ElevenBullocksModel", "betweenOf", "()I"⟩, 44), (⟨"ElevenBullocksModel", "openNow", "()I"⟩, 44), (⟨"ElevenBullocksModel", "openAt", "()I"⟩, 44), (⟨"ElevenBullocksModel", "isCompared", "()Z"⟩, 44), (⟨"ElevenBullocksModel", "compareOf", "()I"⟩, 44), (⟨"ElevenBullocksModel", "settle", "(I)V"⟩, 44), (⟨"ElevenBullocksModel", "emit", "(II)V"⟩, 44)]
theorem lw_r5 : ∀ q ∈ lw_privs_5, lw_okq q := List.forall_mem_cons.mpr ⟨lw_p64, List.forall_mem_cons.mpr ⟨lw_p65, List.forall_mem_cons.mpr ⟨lw_p66, List.forall_mem_cons.mpr ⟨lw_p67, List.forall_mem_cons.mpr ⟨lw_p68, List.forall_mem_cons.mpr ⟨lw_p69, List.forall_mem_cons.mpr ⟨lw_p70, List.forall_mem_cons.mpr ⟨lw_p71, List.forall_mem_cons.mpr ⟨lw_p72, List.forall_mem_cons.mpr ⟨lw_p73, List.forall_mem_cons.mpr ⟨lw_p74, List.forall_mem_cons.mpr ⟨lw_p75, List.forall_mem_cons.mpr ⟨lw_p76, List.forall_mem_cons.mpr ⟨lw_p77, List.forall_mem_cons.mpr ⟨lw_p78, List.forall_mem_cons.mpr ⟨lw_p79, fun _ h => absurd h List.not_mem_nil⟩⟩⟩⟩⟩⟩⟩⟩⟩⟩⟩⟩⟩⟩⟩⟩
theorem lw_p80 : lw_okq (⟨"ElevenBullocksModel", "partOf", "(I)I"⟩, 44) := ⟨⟨by decide +kernel, by decide +kernel⟩, List.mem_of_getElem? (i := 1306) (by decide +kernel), List.mem_of_getElem? (i := 1614) (by decide +kernel), List.mem_of_getElem? (i := 1615) (by decide +kernel)⟩
theorem lw_p81 : lw_okq (⟨"ElevenBullocksModel", "bind", "()V"⟩, 44) := ⟨⟨by decide +kernel, by decide +kernel⟩, List.mem_of_getElem? (i := 1306) (by decide +kernel), List.mem_of_getElem? (i := 1618) (by decide +kernel), List.mem_of_getElem? (i := 1619) (by decide +kernel)⟩
theorem lw_p82 : lw_okq (⟨"ElevenBullocksModel", "shut", "(I)V"⟩, 44) := ⟨⟨by decide +kernel, by decide +kernel⟩, List.mem_of_getElem? (i := 1306) (by decide +kernel), List.mem_of_getElem? (i := 1622) (by decide +kernel), List.mem_of_getElem? (i := 1623) (by decide +kernel)⟩
theorem lw_p83 : lw_okq (⟨"ElevenBullocksModel", "beginOne", "()I"⟩, 44) := ⟨⟨by decide +kernel, by decide +kernel⟩, List.mem_of_getElem? (i := 1306) (by decide +kernel), List.mem_of_getElem? (i := 1626) (by decide +kernel), List.mem_of_getElem? (i := 1627) (by decide +kernel)⟩
theorem lw_p84 : lw_okq (⟨"ElevenBullocksModel", "nameOf", "()I"⟩, 44) := ⟨⟨by decide +kernel, by decide +kernel⟩, List.mem_of_getElem? (i := 1306) (by decide +kernel), List.mem_of_getElem? (i := 1630) (by decide +kernel), List.mem_of_getElem? (i := 1631) (by decide +kernel)⟩
theorem lw_p85 : lw_okq (⟨"ElevenBullocksModel", "isOf", "(I)Z"⟩, 44) := ⟨⟨by decide +kernel, by decide +kernel⟩, List.mem_of_getElem? (i := 1306) (by decide +kernel), List.mem_of_getElem? (i := 1634) (by decide +kernel), List.mem_of_getElem? (i := 1635) (by decide +kernel)⟩
theorem lw_p86 : lw_okq (⟨"ElevenBullocksModel", "letter", "()I"⟩, 44) := ⟨⟨by decide +kernel, by decide +kernel⟩, List.mem_of_getElem? (i := 1306) (by decide +kernel), List.mem_of_getElem? (i := 1638) (by decide +kernel), List.mem_of_getElem? (i := 1639) (by decide +kernel)⟩
theorem lw_p87 : lw_okq (⟨"ElevenBullocksModel", "one", "(II)V"⟩, 44) := ⟨⟨by decide +kernel, by decide +kernel⟩, List.mem_of_getElem? (i := 1306) (by decide +kernel), List.mem_of_getElem? (i := 1642) (by decide +kernel), List.mem_of_getElem? (i := 1643) (by decide +kernel)⟩
theorem lw_p88 : lw_okq (⟨"ElevenBullocksModel", "opened", "(I)I"⟩, 44) := ⟨⟨by decide +kernel, by decide +kernel⟩, List.mem_of_getElem? (i := 1306) (by decide +kernel), List.mem_of_getElem? (i := 1646) (by decide +kernel), List.mem_of_getElem? (i := 1647) (by decide +kernel)⟩
theorem lw_p89 : lw_okq (⟨"ElevenBullocksModel", "isAskAhead", "()Z"⟩, 44) := ⟨⟨by decide +kernel, by decide +kernel⟩, List.mem_of_getElem? (i := 1306) (by decide +kernel), List.mem_of_getElem? (i := 1650) (by decide +kernel), List.mem_of_getElem? (i := 1651) (by decide +kernel)⟩
theorem lw_p90 : lw_okq (⟨"ElevenBullocksModel", "get", "(II)I"⟩, 44) := ⟨⟨by decide +kernel, by decide +kernel⟩, List.mem_of_getElem? (i := 1306) (by decide +kernel), List.mem_of_getElem? (i := 1666) (by decide +kernel), List.mem_of_getElem? (i := 1667) (by decide +kernel)⟩
theorem lw_p91 : lw_okq (⟨"ElevenBullocksModel", "freeBunch", "()I"⟩, 44) := ⟨⟨by decide +kernel, by decide +kernel⟩, List.mem_of_getElem? (i := 1306) (by decide +kernel), List.mem_of_getElem? (i := 1674) (by decide +kernel), List.mem_of_getElem? (i := 1675) (by decide +kernel)⟩
theorem lw_p92 : lw_okq (⟨"ElevenBullocksModel", "sizeOf", "(I)I"⟩, 44) := ⟨⟨by decide +kernel, by decide +kernel⟩, List.mem_of_getElem? (i := 1306) (by decide +kernel), List.mem_of_getElem? (i := 1678) (by decide +kernel), List.mem_of_getElem? (i := 1679) (by decide +kernel)⟩
theorem lw_p93 : lw_okq (⟨"ElevenBullocksModel", "beasts", "()I"⟩, 44) := ⟨⟨by decide +kernel, by decide +kernel⟩, List.mem_of_getElem? (i := 1306) (by decide +kernel), List.mem_of_getElem? (i := 1682) (by decide +kernel), List.mem_of_getElem? (i := 1683) (by decide +kernel)⟩
theorem lw_p94 : lw_okq (⟨"ElevenBullocksModel", "keep", "()V"⟩, 44) := ⟨⟨by decide +kernel, by decide +kernel⟩, List.mem_of_getElem? (i := 1306) (by decide +kernel), List.mem_of_getElem? (i := 1686) (by decide +kernel), List.mem_of_getElem? (i := 1687) (by decide +kernel)⟩
theorem lw_p95 : lw_okq (⟨"ElevenBullocksModel", "isOpen", "(I)Z"⟩, 44) := ⟨⟨by decide +kernel, by decide +kernel⟩, List.mem_of_getElem? (i := 1306) (by decide +kernel), List.mem_of_getElem? (i := 1690) (by decide +kernel), List.mem_of_getElem? (i := 1691) (by decide +kernel)⟩
def lw_privs_6 : List (MethodName × Nat) := [(⟨"ElevenBullocksModel", "partOf", "(I)I"⟩, 44), (⟨"ElevenBullocksModel", "bind", "()V"⟩, 44), (⟨"ElevenBullocksModel", "shut", "(I)V"⟩, 44), (⟨"ElevenBullocksModel", "beginOne", "()I"⟩, 44), (⟨"ElevenBullocksModel", "nameOf", "()I"⟩, 44), (⟨"ElevenBullocksModel", "isOf", "(I)Z"⟩, 44), (⟨"ElevenBullocksModel", "letter", "()I"⟩, 44), (⟨"ElevenBullocksModel", "one", "(II)V"⟩, 44), (⟨"ElevenBullocksModel", "opened", "(I)I"⟩, 44), (⟨"ElevenBullocksModel", "isAskAhead", "()Z"⟩, 44), (⟨"ElevenBullocksModel", "get", "(II)I"⟩, 44), (⟨"ElevenBullocksModel", "freeBunch", "()I"⟩, 44), (⟨"ElevenBullocksModel", "sizeOf", "(I)I"⟩, 44), (⟨"ElevenBullocksModel", "beasts", "()I"⟩, 44), (⟨"ElevenBullocksModel", "keep", "()V"⟩, 44), (⟨"ElevenBullocksModel", "isOpen", "(I)Z"⟩, 44)]
theorem lw_r6 : ∀ q ∈ lw_privs_6, lw_okq q := List.forall_mem_cons.mpr ⟨lw_p80, List.forall_mem_cons.mpr ⟨lw_p81, List.forall_mem_cons.mpr ⟨lw_p82, List.forall_mem_cons.mpr ⟨lw_p83, List.forall_mem_cons.mpr ⟨lw_p84, List.forall_mem_cons.mpr ⟨lw_p85, List.forall_mem_cons.mpr ⟨lw_p86, List.forall_mem_cons.mpr ⟨lw_p87, List.forall_mem_cons.mpr ⟨lw_p88, List.forall_mem_cons.mpr ⟨lw_p89, List.forall_mem_cons.mpr ⟨lw_p90, List.forall_mem_cons.mpr ⟨lw_p91, List.forall_mem_cons.mpr ⟨lw_p92, List.forall_mem_cons.mpr ⟨lw_p93, List.forall_mem_cons.mpr ⟨lw_p94, List.forall_mem_cons.mpr ⟨lw_p95, fun _ h => absurd h List.not_mem_nil⟩⟩⟩⟩⟩⟩⟩⟩⟩⟩⟩⟩⟩⟩⟩⟩
theorem lw_p96 : lw_okq (⟨"ElevenBullocksModel", "doneAt", "(I)I"⟩, 44) := ⟨⟨by decide +kernel, by decide +kernel⟩, List.mem_of_getElem? (i := 1306) (by decide +kernel), List.mem_of_getElem? (i := 1694) (by decide +kernel), List.mem_of_getElem? (i := 1695) (by decide +kernel)⟩
theorem lw_p97 : lw_okq (⟨"ElevenBullocksModel", "layBunch", "(IIII)V"⟩, 44) := ⟨⟨by decide +kernel, by decide +kernel⟩, List.mem_of_getElem? (i := 1306) (by decide +kernel), List.mem_of_getElem? (i := 1698) (by decide +kernel), List.mem_of_getElem? (i := 1699) (by decide +kernel)⟩
theorem lw_p98 : lw_okq (⟨"ElevenBullocksModel", "isPerson", "(I)Z"⟩, 44) := ⟨⟨by decide +kernel, by decide +kernel⟩, List.mem_of_getElem? (i := 1306) (by decide +kernel), List.mem_of_getElem? (i := 1706) (by decide +kernel), List.mem_of_getElem? (i := 1707) (by decide +kernel)⟩
theorem lw_p99 : lw_okq (⟨"ElevenBullocksModel", "isWay", "(I)Z"⟩, 44) := ⟨⟨by decide +kernel, by decide +kernel⟩, List.mem_of_getElem? (i := 1306) (by decide +kernel), List.mem_of_getElem? (i := 1714) (by decide +kernel), List.mem_of_getElem? (i := 1715) (by decide +kernel)⟩
theorem lw_p100 : lw_okq (⟨"ElevenBullocksModel", "isPath", "(I)Z"⟩, 44) := ⟨⟨by decide +kernel, by decide +kernel⟩, List.mem_of_getElem? (i := 1306) (by decide +kernel), List.mem_of_getElem? (i := 1718) (by decide +kernel), List.mem_of_getElem? (i := 1719) (by decide +kernel)⟩
theorem lw_p101 : lw_okq (⟨"ElevenBullocksModel", "isBunch", "(I)Z"⟩, 44) := ⟨⟨by decide +kernel, by decide +kernel⟩, List.mem_of_getElem? (i := 1306) (by decide +kernel), List.mem_of_getElem? (i := 1726) (by decide +kernel), List.mem_of_getElem? (i := 1727) (by decide +kernel)⟩
theorem lw_p102 : lw_okq (⟨"ElevenBullocksModel", "atOf", "(I)I"⟩, 44) := ⟨⟨by decide +kernel, by decide +kernel⟩, List.mem_of_getElem? (i := 1306) (by decide +kernel), List.mem_of_getElem? (i := 1730) (by decide +kernel), List.mem_of_getElem? (i := 1731) (by decide +kernel)⟩
theorem lw_p103 : lw_okq (⟨"ElevenBullocksModel", "cameOf", "(I)I"⟩, 44) := ⟨⟨by decide +kernel, by decide +kernel⟩, List.mem_of_getElem? (i := 1306) (by decide +kernel), List.mem_of_getElem? (i := 1734) (by decide +kernel), List.mem_of_getElem? (i := 1735) (by decide +kernel)⟩
theorem lw_p104 : lw_okq (⟨"ElevenBullocksModel", "areMinutes", "(I)Z"⟩, 44) := ⟨⟨by decide +kernel, by decide +kernel⟩, List.mem_of_getElem? (i := 1306) (by decide +kernel), List.mem_of_getElem? (i := 1742) (by decide +kernel), List.mem_of_getElem? (i := 1743) (by decide +kernel)⟩
theorem lw_p105 : lw_okq (⟨"ElevenBullocksModel", "passStep", "()Z"⟩, 44) := ⟨⟨by decide +kernel, by decide +kernel⟩, List.mem_of_getElem? (i := 1306) (by decide +kernel), List.mem_of_getElem? (i := 1746) (by decide +kernel), List.mem_of_getElem? (i := 1747) (by decide +kernel)⟩
theorem lw_p106 : lw_okq (⟨"ElevenBullocksModel", "pass", "()V"⟩, 44) := ⟨⟨by decide +kernel, by decide +kernel⟩, List.mem_of_getElem? (i := 1306) (by decide +kernel), List.mem_of_getElem? (i := 1750) (by decide +kernel), List.mem_of_getElem? (i := 1751) (by decide +kernel)⟩
theorem lw_p107 : lw_okq (⟨"ElevenBullocksModel", "findFar", "(IZ)V"⟩, 44) := ⟨⟨by decide +kernel, by decide +kernel⟩, List.mem_of_getElem? (i := 1306) (by decide +kernel), List.mem_of_getElem? (i := 1754) (by decide +kernel), List.mem_of_getElem? (i := 1755) (by decide +kernel)⟩
theorem lw_p108 : lw_okq (⟨"ElevenBullocksModel", "goOn", "(I)V"⟩, 44) := ⟨⟨by decide +kernel, by decide +kernel⟩, List.mem_of_getElem? (i := 1306) (by decide +kernel), List.mem_of_getElem? (i := 1758) (by decide +kernel), List.mem_of_getElem? (i := 1759) (by decide +kernel)⟩
theorem lw_p109 : lw_okq (⟨"ElevenBullocksModel", "paceOf", "(I)I"⟩, 44) := ⟨⟨by decide +kernel, by decide +kernel⟩, List.mem_of_getElem? (i := 1306) (by decide +kernel), List.mem_of_getElem? (i := 1762) (by decide +kernel), List.mem_of_getElem? (i := 1763) (by decide +kernel)⟩
theorem lw_p110 : lw_okq (⟨"ElevenBullocksModel", "name", "(II)V"⟩, 44) := ⟨⟨by decide +kernel, by decide +kernel⟩, List.mem_of_getElem? (i := 1306) (by decide +kernel), List.mem_of_getElem? (i := 1766) (by decide +kernel), List.mem_of_getElem? (i := 1767) (by decide +kernel)⟩
theorem lw_p111 : lw_okq (⟨"ElevenBullocksModel", "kindOf", "(I)I"⟩, 44) := ⟨⟨by decide +kernel, by decide +kernel⟩, List.mem_of_getElem? (i := 1306) (by decide +kernel), List.mem_of_getElem? (i := 1770) (by decide +kernel), List.mem_of_getElem? (i := 1771) (by decide +kernel)⟩
def lw_privs_7 : List (MethodName × Nat) := [(⟨"ElevenBullocksModel", "doneAt", "(I)I"⟩, 44), (⟨"ElevenBullocksModel", "layBunch", "(IIII)V"⟩, 44), (⟨"ElevenBullocksModel", "isPerson", "(I)Z"⟩, 44), (⟨"ElevenBullocksModel", "isWay", "(I)Z"⟩, 44), (⟨"ElevenBullocksModel", "isPath", "(I)Z"⟩, 44), (⟨"ElevenBullocksModel", "isBunch", "(I)Z"⟩, 44), (⟨"ElevenBullocksModel", "atOf", "(I)I"⟩, 44), (⟨"ElevenBullocksModel", "cameOf", "(I)I"⟩, 44), (⟨"ElevenBullocksModel", "areMinutes", "(I)Z"⟩, 44), (⟨"ElevenBullocksModel", "passStep", "()Z"⟩, 44), (⟨"ElevenBullocksModel", "pass", "()V"⟩, 44), (⟨"ElevenBullocksModel", "findFar", "(IZ)V"⟩, 44), (⟨"ElevenBullocksModel", "goOn", "(I)V"⟩, 44), (⟨"ElevenBullocksModel", "paceOf", "(I)I"⟩, 44), (⟨"ElevenBullocksModel", "name", "(II)V"⟩, 44), (⟨"ElevenBullocksModel", "kindOf", "(I)I"⟩, 44)]
theorem lw_r7 : ∀ q ∈ lw_privs_7, lw_okq q := List.forall_mem_cons.mpr ⟨lw_p96, List.forall_mem_cons.mpr ⟨lw_p97, List.forall_mem_cons.mpr ⟨lw_p98, List.forall_mem_cons.mpr ⟨lw_p99, List.forall_mem_cons.mpr ⟨lw_p100, List.forall_mem_cons.mpr ⟨lw_p101, List.forall_mem_cons.mpr ⟨lw_p102, List.forall_mem_cons.mpr ⟨lw_p103, List.forall_mem_cons.mpr ⟨lw_p104, List.forall_mem_cons.mpr ⟨lw_p105, List.forall_mem_cons.mpr ⟨lw_p106, List.forall_mem_cons.mpr ⟨lw_p107, List.forall_mem_cons.mpr ⟨lw_p108, List.forall_mem_cons.mpr ⟨lw_p109, List.forall_mem_cons.mpr ⟨lw_p110, List.forall_mem_cons.mpr ⟨lw_p111, fun _ h => absurd h List.not_mem_nil⟩⟩⟩⟩⟩⟩⟩⟩⟩⟩⟩⟩⟩⟩⟩⟩
theorem lw_p112 : lw_okq (⟨"ElevenBullocksModel", "peopleAt", "(I)I"⟩, 44) := ⟨⟨by decide +kernel, by decide +kernel⟩, List.mem_of_getElem? (i := 1306) (by decide +kernel), List.mem_of_getElem? (i := 1774) (by decide +kernel), List.mem_of_getElem? (i := 1775) (by decide +kernel)⟩
theorem lw_p113 : lw_okq (⟨"ElevenBullocksModel", "says", "(IIII)I"⟩, 44) := ⟨⟨by decide +kernel, by decide +kernel⟩, List.mem_of_getElem? (i := 1306) (by decide +kernel), List.mem_of_getElem? (i := 1778) (by decide +kernel), List.mem_of_getElem? (i := 1779) (by decide +kernel)⟩
theorem lw_p114 : lw_okq (⟨"ElevenBullocksModel", "worked", "(II)I"⟩, 44) := ⟨⟨by decide +kernel, by decide +kernel⟩, List.mem_of_getElem? (i := 1306) (by decide +kernel), List.mem_of_getElem? (i := 1782) (by decide +kernel), List.mem_of_getElem? (i := 1783) (by decide +kernel)⟩
theorem lw_p115 : lw_okq (⟨"ElevenBullocksModel", "move", "(I)V"⟩, 44) := ⟨⟨by decide +kernel, by decide +kernel⟩, List.mem_of_getElem? (i := 1306) (by decide +kernel), List.mem_of_getElem? (i := 1797) (by decide +kernel), List.mem_of_getElem? (i := 1798) (by decide +kernel)⟩
theorem lw_p116 : lw_okq (⟨"ElevenBullocksModel", "takesOf", "(IIII)I"⟩, 44) := ⟨⟨by decide +kernel, by decide +kernel⟩, List.mem_of_getElem? (i := 1306) (by decide +kernel), List.mem_of_getElem? (i := 1801) (by decide +kernel), List.mem_of_getElem? (i := 1802) (by decide +kernel)⟩
theorem lw_p117 : lw_okq (⟨"ElevenBullocksModel", "sumAt", "(II)I"⟩, 44) := ⟨⟨by decide +kernel, by decide +kernel⟩, List.mem_of_getElem? (i := 1306) (by decide +kernel), List.mem_of_getElem? (i := 1805) (by decide +kernel), List.mem_of_getElem? (i := 1806) (by decide +kernel)⟩
theorem lw_p118 : lw_okq (⟨"ElevenBullocksModel", "drawn", "(I)I"⟩, 44) := ⟨⟨by decide +kernel, by decide +kernel⟩, List.mem_of_getElem? (i := 1306) (by decide +kernel), List.mem_of_getElem? (i := 1809) (by decide +kernel), List.mem_of_getElem? (i := 1810) (by decide +kernel)⟩
theorem lw_p119 : lw_okq (⟨"ElevenBullocksModel", "anew", "()V"⟩, 44) := ⟨⟨by decide +kernel, by decide +kernel⟩, List.mem_of_getElem? (i := 1306) (by decide +kernel), List.mem_of_getElem? (i := 1813) (by decide +kernel), List.mem_of_getElem? (i := 1814) (by decide +kernel)⟩
theorem lw_p120 : lw_okq (⟨"ElevenBullocksModel", "harmOf", "(I)I"⟩, 44) := ⟨⟨by decide +kernel, by decide +kernel⟩, List.mem_of_getElem? (i := 1306) (by decide +kernel), List.mem_of_getElem? (i := 1817) (by decide +kernel), List.mem_of_getElem? (i := 1818) (by decide +kernel)⟩
theorem lw_p121 : lw_okq (⟨"ElevenBullocksModel", "join", "()V"⟩, 44) := ⟨⟨by decide +kernel, by decide +kernel⟩, List.mem_of_getElem? (i := 1306) (by decide +kernel), List.mem_of_getElem? (i := 1821) (by decide +kernel), List.mem_of_getElem? (i := 1822) (by decide +kernel)⟩
theorem lw_p122 : lw_okq (⟨"ElevenBullocksModel", "allDone", "()I"⟩, 44) := ⟨⟨by decide +kernel, by decide +kernel⟩, List.mem_of_getElem? (i := 1306) (by decide +kernel), List.mem_of_getElem? (i := 1825) (by decide +kernel), List.mem_of_getElem? (i := 1826) (by decide +kernel)⟩
theorem lw_p123 : lw_okq (⟨"ElevenBullocksModel", "isPlayed", "(I)Z"⟩, 44) := ⟨⟨by decide +kernel, by decide +kernel⟩, List.mem_of_getElem? (i := 1306) (by decide +kernel), List.mem_of_getElem? (i := 1833) (by decide +kernel), List.mem_of_getElem? (i := 1834) (by decide +kernel)⟩
theorem lw_p124 : lw_okq (⟨"ElevenBullocksModel", "happens", "()V"⟩, 44) := ⟨⟨by decide +kernel, by decide +kernel⟩, List.mem_of_getElem? (i := 1306) (by decide +kernel), List.mem_of_getElem? (i := 1847) (by decide +kernel), List.mem_of_getElem? (i := 1848) (by decide +kernel)⟩
theorem lw_p125 : lw_okq (⟨"ElevenBullocksModel", "spread", "(II)V"⟩, 44) := ⟨⟨by decide +kernel, by decide +kernel⟩, List.mem_of_getElem? (i := 1306) (by decide +kernel), List.mem_of_getElem? (i := 1876) (by decide +kernel), List.mem_of_getElem? (i := 1877) (by decide +kernel)⟩
theorem lw_p126 : lw_okq (⟨"ElevenBullocksModel", "comesTo", "(I)I"⟩, 44) := ⟨⟨by decide +kernel, by decide +kernel⟩, List.mem_of_getElem? (i := 1306) (by decide +kernel), List.mem_of_getElem? (i := 1892) (by decide +kernel), List.mem_of_getElem? (i := 1893) (by decide +kernel)⟩
theorem lw_p127 : lw_okq (⟨"ElevenBullocksModel", "ofKind", "(II)I"⟩, 44) := ⟨⟨by decide +kernel, by decide +kernel⟩, List.mem_of_getElem? (i := 1306) (by decide +kernel), List.mem_of_getElem? (i := 1900) (by decide +kernel), List.mem_of_getElem? (i := 1901) (by decide +kernel)⟩
def lw_privs_8 : List (MethodName × Nat) := [(⟨"ElevenBullocksModel", "peopleAt", "(I)I"⟩, 44), (⟨"ElevenBullocksModel", "says", "(IIII)I"⟩, 44), (⟨"ElevenBullocksModel", "worked", "(II)I"⟩, 44), (⟨"ElevenBullocksModel", "move", "(I)V"⟩, 44), (⟨"ElevenBullocksModel", "takesOf", "(IIII)I"⟩, 44), (⟨"ElevenBullocksModel", "sumAt", "(II)I"⟩, 44), (⟨"ElevenBullocksModel", "drawn", "(I)I"⟩, 44), (⟨"ElevenBullocksModel", "anew", "()V"⟩, 44), (⟨"ElevenBullocksModel", "harmOf", "(I)I"⟩, 44), (⟨"ElevenBullocksModel", "join", "()V"⟩, 44), (⟨"ElevenBullocksModel", "allDone", "()I"⟩, 44), (⟨"ElevenBullocksModel", "isPlayed", "(I)Z"⟩, 44), (⟨"ElevenBullocksModel", "happens", "()V"⟩, 44), (⟨"ElevenBullocksModel", "spread", "(II)V"⟩, 44), (⟨"ElevenBullocksModel", "comesTo", "(I)I"⟩, 44), (⟨"ElevenBullocksModel", "ofKind", "(II)I"⟩, 44)]
theorem lw_r8 : ∀ q ∈ lw_privs_8, lw_okq q := List.forall_mem_cons.mpr ⟨lw_p112, List.forall_mem_cons.mpr ⟨lw_p113, List.forall_mem_cons.mpr ⟨lw_p114, List.forall_mem_cons.mpr ⟨lw_p115, List.forall_mem_cons.mpr ⟨lw_p116, List.forall_mem_cons.mpr ⟨lw_p117, List.forall_mem_cons.mpr ⟨lw_p118, List.forall_mem_cons.mpr ⟨lw_p119, List.forall_mem_cons.mpr ⟨lw_p120, List.forall_mem_cons.mpr ⟨lw_p121, List.forall_mem_cons.mpr ⟨lw_p122, List.forall_mem_cons.mpr ⟨lw_p123, List.forall_mem_cons.mpr ⟨lw_p124, List.forall_mem_cons.mpr ⟨lw_p125, List.forall_mem_cons.mpr ⟨lw_p126, List.forall_mem_cons.mpr ⟨lw_p127, fun _ h => absurd h List.not_mem_nil⟩⟩⟩⟩⟩⟩⟩⟩⟩⟩⟩⟩⟩⟩⟩⟩
theorem lw_p128 : lw_okq (⟨"ElevenBullocksModel", "minutesOf", "(II)I"⟩, 44) := ⟨⟨by decide +kernel, by decide +kernel⟩, List.mem_of_getElem? (i := 1306) (by decide +kernel), List.mem_of_getElem? (i := 1912) (by decide +kernel), List.mem_of_getElem? (i := 1913) (by decide +kernel)⟩
theorem lw_p129 : lw_okq (⟨"ElevenBullocksModel", "bestSending", "(II)I"⟩, 44) := ⟨⟨by decide +kernel, by decide +kernel⟩, List.mem_of_getElem? (i := 1306) (by decide +kernel), List.mem_of_getElem? (i := 1923) (by decide +kernel), List.mem_of_getElem? (i := 1924) (by decide +kernel)⟩
theorem lw_p130 : lw_okq (⟨"ElevenBullocksModel", "areUnlike", "(I)Z"⟩, 44) := ⟨⟨by decide +kernel, by decide +kernel⟩, List.mem_of_getElem? (i := 1306) (by decide +kernel), List.mem_of_getElem? (i := 1927) (by decide +kernel), List.mem_of_getElem? (i := 1928) (by decide +kernel)⟩
theorem lw_p131 : lw_okq (⟨"ElevenBullocksModel", "nextRow", "(II)Z"⟩, 44) := ⟨⟨by decide +kernel, by decide +kernel⟩, List.mem_of_getElem? (i := 1306) (by decide +kernel), List.mem_of_getElem? (i := 1931) (by decide +kernel), List.mem_of_getElem? (i := 1932) (by decide +kernel)⟩
theorem lw_p132 : lw_okq (⟨"ElevenBullocksModel", "isFrom", "(I)Z"⟩, 44) := ⟨⟨by decide +kernel, by decide +kernel⟩, List.mem_of_getElem? (i := 1306) (by decide +kernel), List.mem_of_getElem? (i := 1943) (by decide +kernel), List.mem_of_getElem? (i := 1944) (by decide +kernel)⟩
theorem lw_p133 : lw_okq (⟨"ElevenBullocksModel", "layBunches", "(I)I"⟩, 44) := ⟨⟨by decide +kernel, by decide +kernel⟩, List.mem_of_getElem? (i := 1306) (by decide +kernel), List.mem_of_getElem? (i := 1961) (by decide +kernel), List.mem_of_getElem? (i := 1962) (by decide +kernel)⟩
theorem lw_p134 : lw_okq (⟨"ElevenBullocksModel", "harmBy", "(I)I"⟩, 44) := ⟨⟨by decide +kernel, by decide +kernel⟩, List.mem_of_getElem? (i := 1306) (by decide +kernel), List.mem_of_getElem? (i := 1965) (by decide +kernel), List.mem_of_getElem? (i := 1966) (by decide +kernel)⟩
theorem lw_p135 : lw_okq (⟨"ElevenBullocksModel", "paysBy", "(II)I"⟩, 44) := ⟨⟨by decide +kernel, by decide +kernel⟩, List.mem_of_getElem? (i := 1306) (by decide +kernel), List.mem_of_getElem? (i := 1973) (by decide +kernel), List.mem_of_getElem? (i := 1974) (by decide +kernel)⟩
theorem lw_p136 : lw_okq (⟨"ElevenBullocksModel", "costBy", "(I)I"⟩, 44) := ⟨⟨by decide +kernel, by decide +kernel⟩, List.mem_of_getElem? (i := 1306) (by decide +kernel), List.mem_of_getElem? (i := 1982) (by decide +kernel), List.mem_of_getElem? (i := 1983) (by decide +kernel)⟩
theorem lw_p137 : lw_okq (⟨"ElevenBullocksModel", "savedBy", "(I)I"⟩, 44) := ⟨⟨by decide +kernel, by decide +kernel⟩, List.mem_of_getElem? (i := 1306) (by decide +kernel), List.mem_of_getElem? (i := 1994) (by decide +kernel), List.mem_of_getElem? (i := 1995) (by decide +kernel)⟩
theorem lw_p138 : lw_okq (⟨"ElevenBullocksModel", "timesOf", "(IZ)I"⟩, 44) := ⟨⟨by decide +kernel, by decide +kernel⟩, List.mem_of_getElem? (i := 1306) (by decide +kernel), List.mem_of_getElem? (i := 2006) (by decide +kernel), List.mem_of_getElem? (i := 2007) (by decide +kernel)⟩
def lw_privs_9 : List (MethodName × Nat) := [(⟨"ElevenBullocksModel", "minutesOf", "(II)I"⟩, 44), (⟨"ElevenBullocksModel", "bestSending", "(II)I"⟩, 44), (⟨"ElevenBullocksModel", "areUnlike", "(I)Z"⟩, 44), (⟨"ElevenBullocksModel", "nextRow", "(II)Z"⟩, 44), (⟨"ElevenBullocksModel", "isFrom", "(I)Z"⟩, 44), (⟨"ElevenBullocksModel", "layBunches", "(I)I"⟩, 44), (⟨"ElevenBullocksModel", "harmBy", "(I)I"⟩, 44), (⟨"ElevenBullocksModel", "paysBy", "(II)I"⟩, 44), (⟨"ElevenBullocksModel", "costBy", "(I)I"⟩, 44), (⟨"ElevenBullocksModel", "savedBy", "(I)I"⟩, 44), (⟨"ElevenBullocksModel", "timesOf", "(IZ)I"⟩, 44)]
theorem lw_r9 : ∀ q ∈ lw_privs_9, lw_okq q := List.forall_mem_cons.mpr ⟨lw_p128, List.forall_mem_cons.mpr ⟨lw_p129, List.forall_mem_cons.mpr ⟨lw_p130, List.forall_mem_cons.mpr ⟨lw_p131, List.forall_mem_cons.mpr ⟨lw_p132, List.forall_mem_cons.mpr ⟨lw_p133, List.forall_mem_cons.mpr ⟨lw_p134, List.forall_mem_cons.mpr ⟨lw_p135, List.forall_mem_cons.mpr ⟨lw_p136, List.forall_mem_cons.mpr ⟨lw_p137, List.forall_mem_cons.mpr ⟨lw_p138, fun _ h => absurd h List.not_mem_nil⟩⟩⟩⟩⟩⟩⟩⟩⟩⟩⟩
def lw_privs : List (MethodName × Nat) := lw_privs_1 ++ (lw_privs_2 ++ (lw_privs_3 ++ (lw_privs_4 ++ (lw_privs_5 ++ (lw_privs_6 ++ (lw_privs_7 ++ (lw_privs_8 ++ (lw_privs_9))))))))
def lw_tbl : List Cond := k2_sels lw_privs ++ tables_1
theorem lw_privs_ok : ∀ q ∈ lw_privs, lw_okq q := by
  show ∀ q ∈ lw_privs_1 ++ (lw_privs_2 ++ (lw_privs_3 ++ (lw_privs_4 ++ (lw_privs_5 ++ (lw_privs_6 ++ (lw_privs_7 ++ (lw_privs_8 ++ (lw_privs_9)))))))), lw_okq q
  exact List.forall_mem_append.mpr ⟨lw_r1, List.forall_mem_append.mpr ⟨lw_r2, List.forall_mem_append.mpr ⟨lw_r3, List.forall_mem_append.mpr ⟨lw_r4, List.forall_mem_append.mpr ⟨lw_r5, List.forall_mem_append.mpr ⟨lw_r6, List.forall_mem_append.mpr ⟨lw_r7, List.forall_mem_append.mpr ⟨lw_r8, lw_r9⟩⟩⟩⟩⟩⟩⟩⟩
def RX0 : String := "ElevenBullocks$Errands"
def TX0 : u_T := fun k => match k with
  | 0 => ("ElevenBullocks$Errands", "land", "LElevenBullocks$Land;", true)
  | 1 => ("ElevenBullocks$Errands", "stand", "LElevenBullocks$Stand;", true)
  | 2 => ("ElevenBullocks$Errands", "goal", "[I", true)
  | 3 => ("ElevenBullocks$Errands", "choice", "[I", true)
  | 4 => ("ElevenBullocks$Errands", "chosen", "[I", true)
  | 5 => ("ElevenBullocks$Errands", "count", "I", false)
  | 6 => ("ElevenBullocks$Errands", "least", "I", false)
  | _ => ("ElevenBullocks$Errands", "person", "I", false)
def tyX0 : Nat → FieldType := fun k => match k with
  | 0 => .object "ElevenBullocks$Land"
  | 1 => .object "ElevenBullocks$Stand"
  | 2 => .array .int
  | 3 => .array .int
  | 4 => .array .int
  | 5 => .int
  | 6 => .int
  | _ => .int
abbrev wsX00 : List Cond := u_ws RX0 TX0 8
theorem nmX0 : ∀ a, a < 8 → ∀ b, b < 8 → a ≠ b → (TX0 a).2.1 ≠ (TX0 b).2.1 := by decide +kernel
theorem tyX0_ok : ∀ k, k < 8 → parseFieldDescriptor (TX0 k).2.2.1 = some (tyX0 k) := by decide +kernel
abbrev cX0_init : ByteArray := prog_2_method_1_code
def yX0_init : MethodName := ⟨RX0, "<init>", "(LElevenBullocks$Land;LElevenBullocks$Stand;)V"⟩
abbrev cX0_sendAll : ByteArray := prog_2_method_2_code
def yX0_sendAll : MethodName := ⟨RX0, "sendAll", "(II)I"⟩
abbrev cX0_whoGoesTo : ByteArray := prog_2_method_3_code
def yX0_whoGoesTo : MethodName := ⟨RX0, "whoGoesTo", "(I)I"⟩
abbrev cX0_choosePerson : ByteArray := prog_2_method_4_code
def yX0_choosePerson : MethodName := ⟨RX0, "choosePerson", "(III)V"⟩
abbrev cX0_keepChoice : ByteArray := prog_2_method_5_code
def yX0_keepChoice : MethodName := ⟨RX0, "keepChoice", "(I)V"⟩
abbrev cX0_goAfterAll : ByteArray := prog_2_method_6_code
def yX0_goAfterAll : MethodName := ⟨RX0, "goAfterAll", "(I)I"⟩
abbrev cX0_bunchAt : ByteArray := prog_2_method_7_code
def yX0_bunchAt : MethodName := ⟨RX0, "bunchAt", "(I)I"⟩
abbrev cX0_chooseBunch : ByteArray := prog_2_method_8_code
def yX0_chooseBunch : MethodName := ⟨RX0, "chooseBunch", "(IIIII)V"⟩
def RX1 : String := "ElevenBullocks$Image"
def TX1 : u_T := fun k => match k with
  | 0 => ("ElevenBullocks$Image", "stretches", "I", false)
  | 1 => ("ElevenBullocks$Image", "ways", "I", false)
  | 2 => ("ElevenBullocks$Image", "people", "I", false)
  | 3 => ("ElevenBullocks$Image", "texts", "I", false)
  | 4 => ("ElevenBullocks$Image", "ruling", "I", false)
  | 5 => ("ElevenBullocks$Image", "stand", "LElevenBullocks$Stand;", true)
  | 6 => ("ElevenBullocks$Image", "steps", "LElevenBullocks$Steps;", true)
  | _ => ("ElevenBullocks$Image", "notes", "LElevenBullocks$Notes;", true)
def tyX1 : Nat → FieldType := fun k => match k with
  | 0 => .int
  | 1 => .int
  | 2 => .int
  | 3 => .int
  | 4 => .int
  | 5 => .object "ElevenBullocks$Stand"
  | 6 => .object "ElevenBullocks$Steps"
  | _ => .object "ElevenBullocks$Notes"
abbrev wsX10 : List Cond := u_ws RX1 TX1 8
theorem nmX1 : ∀ a, a < 8 → ∀ b, b < 8 → a ≠ b → (TX1 a).2.1 ≠ (TX1 b).2.1 := by decide +kernel
theorem tyX1_ok : ∀ k, k < 8 → parseFieldDescriptor (TX1 k).2.2.1 = some (tyX1 k) := by decide +kernel
abbrev cX1_init : ByteArray := prog_3_method_1_code
def yX1_init : MethodName := ⟨RX1, "<init>", "()V"⟩
def RX2 : String := "ElevenBullocks$Land"
def TX2 : u_T := fun k => match k with
  | 0 => ("ElevenBullocks$Land", "stretches", "I", false)
  | 1 => ("ElevenBullocks$Land", "ways", "I", false)
  | 2 => ("ElevenBullocks$Land", "people", "I", false)
  | 3 => ("ElevenBullocks$Land", "kind", "[I", true)
  | 4 => ("ElevenBullocks$Land", "harm", "[I", true)
  | 5 => ("ElevenBullocks$Land", "one", "[I", true)
  | 6 => ("ElevenBullocks$Land", "other", "[I", true)
  | 7 => ("ElevenBullocks$Land", "path", "[Z", true)
  | 8 => ("ElevenBullocks$Land", "nerve", "[I", true)
  | 9 => ("ElevenBullocks$Land", "wheels", "[Z", true)
  | 10 => ("ElevenBullocks$Land", "bucket", "[Z", true)
  | 11 => ("ElevenBullocks$Land", "toldAt", "[I", true)
  | 12 => ("ElevenBullocks$Land", "waysAt", "[I", true)
  | 13 => ("ElevenBullocks$Land", "howManyAt", "[I", true)
  | 14 => ("ElevenBullocks$Land", "apart", "[I", true)
  | _ => ("ElevenBullocks$Land", "apartByGates", "[I", true)
def tyX2 : Nat → FieldType := fun k => match k with
  | 0 => .int
  | 1 => .int
  | 2 => .int
  | 3 => .array .int
  | 4 => .array .int
  | 5 => .array .int
  | 6 => .array .int
  | 7 => .array .boolean
  | 8 => .array .int
  | 9 => .array .boolean
  | 10 => .array .boolean
  | 11 => .array .int
  | 12 => .array .int
  | 13 => .array .int
  | 14 => .array .int
  | _ => .array .int
abbrev wsX20 : List Cond := u_ws RX2 TX2 16
theorem nmX2 : ∀ a, a < 16 → ∀ b, b < 16 → a ≠ b → (TX2 a).2.1 ≠ (TX2 b).2.1 := by decide +kernel
theorem tyX2_ok : ∀ k, k < 16 → parseFieldDescriptor (TX2 k).2.2.1 = some (tyX2 k) := by decide +kernel
abbrev cX2_init : ByteArray := prog_4_method_1_code
def yX2_init : MethodName := ⟨RX2, "<init>", "()V"⟩
abbrev cX2_hasStretch : ByteArray := prog_4_method_2_code
def yX2_hasStretch : MethodName := ⟨RX2, "hasStretch", "(I)Z"⟩
abbrev cX2_hasWay : ByteArray := prog_4_method_3_code
def yX2_hasWay : MethodName := ⟨RX2, "hasWay", "(I)Z"⟩
abbrev cX2_hasGate : ByteArray := prog_4_method_4_code
def yX2_hasGate : MethodName := ⟨RX2, "hasGate", "(I)Z"⟩
abbrev cX2_hasPerson : ByteArray := prog_4_method_5_code
def yX2_hasPerson : MethodName := ⟨RX2, "hasPerson", "(I)Z"⟩
abbrev cX2_addStretch : ByteArray := prog_4_method_6_code
def yX2_addStretch : MethodName := ⟨RX2, "addStretch", "(II)I"⟩
abbrev cX2_addWay : ByteArray := prog_4_method_7_code
def yX2_addWay : MethodName := ⟨RX2, "addWay", "(IIZ)I"⟩
abbrev cX2_addPerson : ByteArray := prog_4_method_8_code
def yX2_addPerson : MethodName := ⟨RX2, "addPerson", "(IZZI)I"⟩
abbrev cX2_cutTo : ByteArray := prog_4_method_9_code
def yX2_cutTo : MethodName := ⟨RX2, "cutTo", "(III)V"⟩
abbrev cX2_layWay : ByteArray := prog_4_method_10_code
def yX2_layWay : MethodName := ⟨RX2, "layWay", "(I)V"⟩
abbrev cX2_noteWayAt : ByteArray := prog_4_method_11_code
def yX2_noteWayAt : MethodName := ⟨RX2, "noteWayAt", "(II)V"⟩
abbrev cX2_setApart : ByteArray := prog_4_method_12_code
def yX2_setApart : MethodName := ⟨RX2, "setApart", "([I)V"⟩
abbrev cX2_bringNear : ByteArray := prog_4_method_13_code
def yX2_bringNear : MethodName := ⟨RX2, "bringNear", "([III)V"⟩
abbrev cX2_measureGates : ByteArray := prog_4_method_14_code
def yX2_measureGates : MethodName := ⟨RX2, "measureGates", "()V"⟩
abbrev cX2_distanceByGates : ByteArray := prog_4_method_15_code
def yX2_distanceByGates : MethodName := ⟨RX2, "distanceByGates", "(II)I"⟩
abbrev cX2_distance : ByteArray := prog_4_method_16_code
def yX2_distance : MethodName := ⟨RX2, "distance", "(II)I"⟩
abbrev cX2_countWaysAt : ByteArray := prog_4_method_17_code
def yX2_countWaysAt : MethodName := ⟨RX2, "countWaysAt", "(I)I"⟩
abbrev cX2_wayAt : ByteArray := prog_4_method_18_code
def yX2_wayAt : MethodName := ⟨RX2, "wayAt", "(II)I"⟩
abbrev cX2_bitsOfWaysAt : ByteArray := prog_4_method_19_code
def yX2_bitsOfWaysAt : MethodName := ⟨RX2, "bitsOfWaysAt", "(I)I"⟩
abbrev cX2_bitsOfKind : ByteArray := prog_4_method_20_code
def yX2_bitsOfKind : MethodName := ⟨RX2, "bitsOfKind", "(I)I"⟩
abbrev cX2_otherSide : ByteArray := prog_4_method_21_code
def yX2_otherSide : MethodName := ⟨RX2, "otherSide", "(II)I"⟩
abbrev cX2_outsideOf : ByteArray := prog_4_method_22_code
def yX2_outsideOf : MethodName := ⟨RX2, "outsideOf", "(I)I"⟩
abbrev cX2_minutesBetween : ByteArray := prog_4_method_23_code
def yX2_minutesBetween : MethodName := ⟨RX2, "minutesBetween", "(III)I"⟩
abbrev cX2_nextTowards : ByteArray := prog_4_method_24_code
def yX2_nextTowards : MethodName := ⟨RX2, "nextTowards", "(II)I"⟩
def RX3 : String := "ElevenBullocks$Laws"
def TX3 : u_T := fun k => match k with
  | 0 => ("ElevenBullocks$Laws", "land", "LElevenBullocks$Land;", true)
  | 1 => ("ElevenBullocks$Laws", "stand", "LElevenBullocks$Stand;", true)
  | 2 => ("ElevenBullocks$Laws", "ruling", "LElevenBullocks$Script;", false)
  | 3 => ("ElevenBullocks$Laws", "names", "[I", true)
  | 4 => ("ElevenBullocks$Laws", "lets", "[I", true)
  | 5 => ("ElevenBullocks$Laws", "stack", "[I", true)
  | _ => ("ElevenBullocks$Laws", "top", "I", false)
def tyX3 : Nat → FieldType := fun k => match k with
  | 0 => .object "ElevenBullocks$Land"
  | 1 => .object "ElevenBullocks$Stand"
  | 2 => .object "ElevenBullocks$Script"
  | 3 => .array .int
  | 4 => .array .int
  | 5 => .array .int
  | _ => .int
abbrev wsX30 : List Cond := u_ws RX3 TX3 7
theorem nmX3 : ∀ a, a < 7 → ∀ b, b < 7 → a ≠ b → (TX3 a).2.1 ≠ (TX3 b).2.1 := by decide +kernel
theorem tyX3_ok : ∀ k, k < 7 → parseFieldDescriptor (TX3 k).2.2.1 = some (tyX3 k) := by decide +kernel
abbrev cX3_init : ByteArray := prog_5_method_1_code
def yX3_init : MethodName := ⟨RX3, "<init>", "(LElevenBullocks$Land;LElevenBullocks$Stand;)V"⟩
abbrev cX3_paceOf : ByteArray := prog_5_method_2_code
def yX3_paceOf : MethodName := ⟨RX3, "paceOf", "(I)I"⟩
abbrev cX3_chanceOf : ByteArray := prog_5_method_3_code
def yX3_chanceOf : MethodName := ⟨RX3, "chanceOf", "(IIIIII)I"⟩
abbrev cX3_shareOf : ByteArray := prog_5_method_4_code
def yX3_shareOf : MethodName := ⟨RX3, "shareOf", "(LElevenBullocks$Script;I)I"⟩
abbrev cX3_nameAll : ByteArray := prog_5_method_5_code
def yX3_nameAll : MethodName := ⟨RX3, "nameAll", "(III)V"⟩
abbrev cX3_peopleAt : ByteArray := prog_5_method_6_code
def yX3_peopleAt : MethodName := ⟨RX3, "peopleAt", "(I)I"⟩
abbrev cX3_answer : ByteArray := prog_5_method_7_code
def yX3_answer : MethodName := ⟨RX3, "answer", "(LElevenBullocks$Script;I)I"⟩
abbrev cX3_push : ByteArray := prog_5_method_8_code
def yX3_push : MethodName := ⟨RX3, "push", "(I)V"⟩
abbrev cX3_pop : ByteArray := prog_5_method_9_code
def yX3_pop : MethodName := ⟨RX3, "pop", "()I"⟩
abbrev cX3_joined : ByteArray := prog_5_method_10_code
def yX3_joined : MethodName := ⟨RX3, "joined", "(III)I"⟩
def RX4 : String := "ElevenBullocks$Minutes"
def TX4 : u_T := fun k => match k with
  | 0 => ("ElevenBullocks$Minutes", "land", "LElevenBullocks$Land;", true)
  | 1 => ("ElevenBullocks$Minutes", "stand", "LElevenBullocks$Stand;", true)
  | _ => ("ElevenBullocks$Minutes", "laws", "LElevenBullocks$Laws;", true)
def tyX4 : Nat → FieldType := fun k => match k with
  | 0 => .object "ElevenBullocks$Land"
  | 1 => .object "ElevenBullocks$Stand"
  | _ => .object "ElevenBullocks$Laws"
abbrev wsX40 : List Cond := u_ws RX4 TX4 3
theorem nmX4 : ∀ a, a < 3 → ∀ b, b < 3 → a ≠ b → (TX4 a).2.1 ≠ (TX4 b).2.1 := by decide +kernel
theorem tyX4_ok : ∀ k, k < 3 → parseFieldDescriptor (TX4 k).2.2.1 = some (tyX4 k) := by decide +kernel
abbrev cX4_init : ByteArray := prog_6_method_1_code
def yX4_init : MethodName := ⟨RX4, "<init>", "(LElevenBullocks$Land;LElevenBullocks$Stand;LElevenBullocks$Laws;)V"⟩
abbrev cX4_pass : ByteArray := prog_6_method_2_code
def yX4_pass : MethodName := ⟨RX4, "pass", "()V"⟩
abbrev cX4_goOn : ByteArray := prog_6_method_3_code
def yX4_goOn : MethodName := ⟨RX4, "goOn", "(I)V"⟩
abbrev cX4_moveOn : ByteArray := prog_6_method_4_code
def yX4_moveOn : MethodName := ⟨RX4, "moveOn", "(I)V"⟩
abbrev cX4_isTaken : ByteArray := prog_6_method_5_code
def yX4_isTaken : MethodName := ⟨RX4, "isTaken", "(I)Z"⟩
abbrev cX4_doHarm : ByteArray := prog_6_method_6_code
def yX4_doHarm : MethodName := ⟨RX4, "doHarm", "()V"⟩
abbrev cX4_joinBunches : ByteArray := prog_6_method_7_code
def yX4_joinBunches : MethodName := ⟨RX4, "joinBunches", "()V"⟩
def RX5 : String := "ElevenBullocks$Notes"
def TX5 : u_T := fun k => match k with
  | 0 => ("ElevenBullocks$Notes", "sightAt", "[I", true)
  | 1 => ("ElevenBullocks$Notes", "sightMinute", "[I", true)
  | 2 => ("ElevenBullocks$Notes", "sights", "I", false)
  | 3 => ("ElevenBullocks$Notes", "savedBy", "[I", true)
  | 4 => ("ElevenBullocks$Notes", "tries", "[I", true)
  | _ => ("ElevenBullocks$Notes", "turns", "[I", true)
def tyX5 : Nat → FieldType := fun k => match k with
  | 0 => .array .int
  | 1 => .array .int
  | 2 => .int
  | 3 => .array .int
  | 4 => .array .int
  | _ => .array .int
abbrev wsX50 : List Cond := u_ws RX5 TX5 6
theorem nmX5 : ∀ a, a < 6 → ∀ b, b < 6 → a ≠ b → (TX5 a).2.1 ≠ (TX5 b).2.1 := by decide +kernel
theorem tyX5_ok : ∀ k, k < 6 → parseFieldDescriptor (TX5 k).2.2.1 = some (tyX5 k) := by decide +kernel
abbrev cX5_init : ByteArray := prog_7_method_1_code
def yX5_init : MethodName := ⟨RX5, "<init>", "()V"⟩
abbrev cX5_addSight : ByteArray := prog_7_method_2_code
def yX5_addSight : MethodName := ⟨RX5, "addSight", "(II)I"⟩
abbrev cX5_couldAllBeFrom : ByteArray := prog_7_method_3_code
def yX5_couldAllBeFrom : MethodName := ⟨RX5, "couldAllBeFrom", "(ILElevenBullocks$Land;)Z"⟩
abbrev cX5_bestGate : ByteArray := prog_7_method_4_code
def yX5_bestGate : MethodName := ⟨RX5, "bestGate", "()I"⟩
abbrev cX5_allTries : ByteArray := prog_7_method_5_code
def yX5_allTries : MethodName := ⟨RX5, "allTries", "()I"⟩
abbrev cX5_forgetTries : ByteArray := prog_7_method_6_code
def yX5_forgetTries : MethodName := ⟨RX5, "forgetTries", "()V"⟩
abbrev cX5_bestHow : ByteArray := prog_7_method_7_code
def yX5_bestHow : MethodName := ⟨RX5, "bestHow", "()I"⟩
abbrev cX5_isBetter : ByteArray := prog_7_method_8_code
def yX5_isBetter : MethodName := ⟨RX5, "isBetter", "(II)Z"⟩
abbrev cX5_likeOther : ByteArray := prog_7_method_9_code
def yX5_likeOther : MethodName := ⟨RX5, "likeOther", "(LElevenBullocks$Notes;)V"⟩
def RX6 : String := "ElevenBullocks$Reader"
def TX6 : u_T := fun k => match k with
  | 0 => ("ElevenBullocks$Reader", "tape", "[I", true)
  | 1 => ("ElevenBullocks$Reader", "bytes", "I", false)
  | 2 => ("ElevenBullocks$Reader", "faultKind", "I", false)
  | 3 => ("ElevenBullocks$Reader", "faultPlace", "I", false)
  | 4 => ("ElevenBullocks$Reader", "slotOf", "[I", true)
  | 5 => ("ElevenBullocks$Reader", "script", "LElevenBullocks$Script;", false)
  | 6 => ("ElevenBullocks$Reader", "law", "I", false)
  | 7 => ("ElevenBullocks$Reader", "next", "I", false)
  | 8 => ("ElevenBullocks$Reader", "token", "I", false)
  | 9 => ("ElevenBullocks$Reader", "begin", "I", false)
  | _ => ("ElevenBullocks$Reader", "value", "I", false)
def tyX6 : Nat → FieldType := fun k => match k with
  | 0 => .array .int
  | 1 => .int
  | 2 => .int
  | 3 => .int
  | 4 => .array .int
  | 5 => .object "ElevenBullocks$Script"
  | 6 => .int
  | 7 => .int
  | 8 => .int
  | 9 => .int
  | _ => .int
abbrev wsX60 : List Cond := u_ws RX6 TX6 11
theorem nmX6 : ∀ a, a < 11 → ∀ b, b < 11 → a ≠ b → (TX6 a).2.1 ≠ (TX6 b).2.1 := by decide +kernel
theorem tyX6_ok : ∀ k, k < 11 → parseFieldDescriptor (TX6 k).2.2.1 = some (tyX6 k) := by decide +kernel
abbrev cX6_init : ByteArray := prog_8_method_1_code
def yX6_init : MethodName := ⟨RX6, "<init>", "()V"⟩
abbrev cX6_addBytes : ByteArray := prog_8_method_2_code
def yX6_addBytes : MethodName := ⟨RX6, "addBytes", "(I)V"⟩
abbrev cX6_readAll : ByteArray := prog_8_method_3_code
def yX6_readAll : MethodName := ⟨RX6, "readAll", "(LElevenBullocks$Script;)Z"⟩
abbrev cX6_fail : ByteArray := prog_8_method_4_code
def yX6_fail : MethodName := ⟨RX6, "fail", "(I)V"⟩
abbrev cX6_expect : ByteArray := prog_8_method_5_code
def yX6_expect : MethodName := ⟨RX6, "expect", "(I)V"⟩
abbrev cX6_readNumber : ByteArray := prog_8_method_6_code
def yX6_readNumber : MethodName := ⟨RX6, "readNumber", "(II)I"⟩
abbrev cX6_readClause : ByteArray := prog_8_method_7_code
def yX6_readClause : MethodName := ⟨RX6, "readClause", "()V"⟩
abbrev cX6_readDeed : ByteArray := prog_8_method_8_code
def yX6_readDeed : MethodName := ⟨RX6, "readDeed", "(I)V"⟩
abbrev cX6_readSum : ByteArray := prog_8_method_9_code
def yX6_readSum : MethodName := ⟨RX6, "readSum", "(I)V"⟩
abbrev cX6_readProduct : ByteArray := prog_8_method_10_code
def yX6_readProduct : MethodName := ⟨RX6, "readProduct", "(I)V"⟩
abbrev cX6_readOne : ByteArray := prog_8_method_11_code
def yX6_readOne : MethodName := ⟨RX6, "readOne", "(I)V"⟩
abbrev cX6_enter : ByteArray := prog_8_method_12_code
def yX6_enter : MethodName := ⟨RX6, "enter", "(I)Z"⟩
abbrev cX6_readLetter : ByteArray := prog_8_method_13_code
def yX6_readLetter : MethodName := ⟨RX6, "readLetter", "()V"⟩
abbrev cX6_readName : ByteArray := prog_8_method_14_code
def yX6_readName : MethodName := ⟨RX6, "readName", "()V"⟩
abbrev cX6_readIf : ByteArray := prog_8_method_15_code
def yX6_readIf : MethodName := ⟨RX6, "readIf", "(I)V"⟩
abbrev cX6_readLet : ByteArray := prog_8_method_16_code
def yX6_readLet : MethodName := ⟨RX6, "readLet", "(I)V"⟩
abbrev cX6_readEither : ByteArray := prog_8_method_17_code
def yX6_readEither : MethodName := ⟨RX6, "readEither", "(I)V"⟩
abbrev cX6_readBoth : ByteArray := prog_8_method_18_code
def yX6_readBoth : MethodName := ⟨RX6, "readBoth", "(I)V"⟩
abbrev cX6_readAsk : ByteArray := prog_8_method_19_code
def yX6_readAsk : MethodName := ⟨RX6, "readAsk", "(I)V"⟩
abbrev cX6_advance : ByteArray := prog_8_method_20_code
def yX6_advance : MethodName := ⟨RX6, "advance", "()V"⟩
abbrev cX6_isDigit : ByteArray := prog_8_method_21_code
def yX6_isDigit : MethodName := ⟨RX6, "isDigit", "(I)Z"⟩
abbrev cX6_isLetter : ByteArray := prog_8_method_22_code
def yX6_isLetter : MethodName := ⟨RX6, "isLetter", "(I)Z"⟩
abbrev cX6_scanNumber : ByteArray := prog_8_method_23_code
def yX6_scanNumber : MethodName := ⟨RX6, "scanNumber", "()V"⟩
abbrev cX6_scanWord : ByteArray := prog_8_method_24_code
def yX6_scanWord : MethodName := ⟨RX6, "scanWord", "()V"⟩
abbrev cX6_wordOf : ByteArray := prog_8_method_25_code
def yX6_wordOf : MethodName := ⟨RX6, "wordOf", "()I"⟩
abbrev cX6_scanSign : ByteArray := prog_8_method_26_code
def yX6_scanSign : MethodName := ⟨RX6, "scanSign", "(I)V"⟩
def RX7 : String := "ElevenBullocks$Script"
def TX7 : u_T := fun k => match k with
  | 0 => ("ElevenBullocks$Script", "orders", "[I", true)
  | 1 => ("ElevenBullocks$Script", "length", "I", false)
  | 2 => ("ElevenBullocks$Script", "lawFrom", "[I", true)
  | 3 => ("ElevenBullocks$Script", "lawTo", "[I", true)
  | 4 => ("ElevenBullocks$Script", "word", "[I", true)
  | 5 => ("ElevenBullocks$Script", "first", "[I", true)
  | 6 => ("ElevenBullocks$Script", "second", "[I", true)
  | _ => ("ElevenBullocks$Script", "clauses", "I", false)
def tyX7 : Nat → FieldType := fun k => match k with
  | 0 => .array .int
  | 1 => .int
  | 2 => .array .int
  | 3 => .array .int
  | 4 => .array .int
  | 5 => .array .int
  | 6 => .array .int
  | _ => .int
abbrev wsX70 : List Cond := u_ws RX7 TX7 8
theorem nmX7 : ∀ a, a < 8 → ∀ b, b < 8 → a ≠ b → (TX7 a).2.1 ≠ (TX7 b).2.1 := by decide +kernel
theorem tyX7_ok : ∀ k, k < 8 → parseFieldDescriptor (TX7 k).2.2.1 = some (tyX7 k) := by decide +kernel
abbrev cX7_init : ByteArray := prog_9_method_1_code
def yX7_init : MethodName := ⟨RX7, "<init>", "()V"⟩
abbrev cX7_clear : ByteArray := prog_9_method_2_code
def yX7_clear : MethodName := ⟨RX7, "clear", "()V"⟩
abbrev cX7_hasLaw : ByteArray := prog_9_method_3_code
def yX7_hasLaw : MethodName := ⟨RX7, "hasLaw", "(I)Z"⟩
abbrev cX7_addOrder : ByteArray := prog_9_method_4_code
def yX7_addOrder : MethodName := ⟨RX7, "addOrder", "(II)I"⟩
abbrev cX7_leadToHere : ByteArray := prog_9_method_5_code
def yX7_leadToHere : MethodName := ⟨RX7, "leadToHere", "(I)V"⟩
abbrev cX7_addClause : ByteArray := prog_9_method_6_code
def yX7_addClause : MethodName := ⟨RX7, "addClause", "(III)V"⟩
def RX8 : String := "ElevenBullocks$Stand"
def TX8 : u_T := fun k => match k with
  | 0 => ("ElevenBullocks$Stand", "size", "[I", true)
  | 1 => ("ElevenBullocks$Stand", "place", "[I", true)
  | 2 => ("ElevenBullocks$Stand", "came", "[I", true)
  | 3 => ("ElevenBullocks$Stand", "at", "[I", true)
  | 4 => ("ElevenBullocks$Stand", "sent", "[I", true)
  | 5 => ("ElevenBullocks$Stand", "done", "[I", true)
  | 6 => ("ElevenBullocks$Stand", "shut", "I", false)
  | 7 => ("ElevenBullocks$Stand", "minute", "I", false)
  | _ => ("ElevenBullocks$Stand", "x", "I", false)
def tyX8 : Nat → FieldType := fun k => match k with
  | 0 => .array .int
  | 1 => .array .int
  | 2 => .array .int
  | 3 => .array .int
  | 4 => .array .int
  | 5 => .array .int
  | 6 => .int
  | 7 => .int
  | _ => .int
abbrev wsX80 : List Cond := u_ws RX8 TX8 9
theorem nmX8 : ∀ a, a < 9 → ∀ b, b < 9 → a ≠ b → (TX8 a).2.1 ≠ (TX8 b).2.1 := by decide +kernel
theorem tyX8_ok : ∀ k, k < 9 → parseFieldDescriptor (TX8 k).2.2.1 = some (tyX8 k) := by decide +kernel
abbrev cX8_init : ByteArray := prog_10_method_1_code
def yX8_init : MethodName := ⟨RX8, "<init>", "()V"⟩
abbrev cX8_hasBunch : ByteArray := prog_10_method_2_code
def yX8_hasBunch : MethodName := ⟨RX8, "hasBunch", "(I)Z"⟩
abbrev cX8_freeBunch : ByteArray := prog_10_method_3_code
def yX8_freeBunch : MethodName := ⟨RX8, "freeBunch", "()I"⟩
abbrev cX8_put : ByteArray := prog_10_method_4_code
def yX8_put : MethodName := ⟨RX8, "put", "(IIII)V"⟩
abbrev cX8_beasts : ByteArray := prog_10_method_5_code
def yX8_beasts : MethodName := ⟨RX8, "beasts", "()I"⟩
abbrev cX8_allDone : ByteArray := prog_10_method_6_code
def yX8_allDone : MethodName := ⟨RX8, "allDone", "()I"⟩
abbrev cX8_sum : ByteArray := prog_10_method_7_code
def yX8_sum : MethodName := ⟨RX8, "sum", "([I)I"⟩
abbrev cX8_isOpen : ByteArray := prog_10_method_8_code
def yX8_isOpen : MethodName := ⟨RX8, "isOpen", "(I)Z"⟩
abbrev cX8_turn : ByteArray := prog_10_method_9_code
def yX8_turn : MethodName := ⟨RX8, "turn", "(I)V"⟩
abbrev cX8_renew : ByteArray := prog_10_method_10_code
def yX8_renew : MethodName := ⟨RX8, "renew", "()V"⟩
abbrev cX8_drawByTen : ByteArray := prog_10_method_11_code
def yX8_drawByTen : MethodName := ⟨RX8, "drawByTen", "()I"⟩
abbrev cX8_likeOther : ByteArray := prog_10_method_12_code
def yX8_likeOther : MethodName := ⟨RX8, "likeOther", "(LElevenBullocks$Stand;)V"⟩
abbrev cX8_writeTo : ByteArray := prog_10_method_13_code
def yX8_writeTo : MethodName := ⟨RX8, "writeTo", "([II)V"⟩
abbrev cX8_readFrom : ByteArray := prog_10_method_14_code
def yX8_readFrom : MethodName := ⟨RX8, "readFrom", "([II)V"⟩
def RX9 : String := "ElevenBullocks$Steps"
def TX9 : u_T := fun k => match k with
  | 0 => ("ElevenBullocks$Steps", "rows", "[I", true)
  | 1 => ("ElevenBullocks$Steps", "peopleThen", "[I", true)
  | 2 => ("ElevenBullocks$Steps", "latest", "I", false)
  | _ => ("ElevenBullocks$Steps", "count", "I", false)
def tyX9 : Nat → FieldType := fun k => match k with
  | 0 => .array .int
  | 1 => .array .int
  | 2 => .int
  | _ => .int
abbrev wsX90 : List Cond := u_ws RX9 TX9 4
theorem nmX9 : ∀ a, a < 4 → ∀ b, b < 4 → a ≠ b → (TX9 a).2.1 ≠ (TX9 b).2.1 := by decide +kernel
theorem tyX9_ok : ∀ k, k < 4 → parseFieldDescriptor (TX9 k).2.2.1 = some (tyX9 k) := by decide +kernel
abbrev cX9_init : ByteArray := prog_11_method_1_code
def yX9_init : MethodName := ⟨RX9, "<init>", "()V"⟩
abbrev cX9_keep : ByteArray := prog_11_method_2_code
def yX9_keep : MethodName := ⟨RX9, "keep", "(LElevenBullocks$Stand;I)V"⟩
abbrev cX9_takeBack : ByteArray := prog_11_method_3_code
def yX9_takeBack : MethodName := ⟨RX9, "takeBack", "(LElevenBullocks$Stand;LElevenBullocks$Land;)Z"⟩
abbrev cX9_likeOther : ByteArray := prog_11_method_4_code
def yX9_likeOther : MethodName := ⟨RX9, "likeOther", "(LElevenBullocks$Steps;)V"⟩
def RX10 : String := "ElevenBullocks$Walk"
def TX10 : u_T := fun k => match k with
  | 0 => ("ElevenBullocks$Walk", "land", "LElevenBullocks$Land;", true)
  | 1 => ("ElevenBullocks$Walk", "stand", "LElevenBullocks$Stand;", true)
  | 2 => ("ElevenBullocks$Walk", "laws", "LElevenBullocks$Laws;", true)
  | 3 => ("ElevenBullocks$Walk", "known", "[I", true)
  | 4 => ("ElevenBullocks$Walk", "queue", "[I", true)
  | 5 => ("ElevenBullocks$Walk", "met", "[I", true)
  | 6 => ("ElevenBullocks$Walk", "now", "[J", false)
  | 7 => ("ElevenBullocks$Walk", "then", "[J", false)
  | 8 => ("ElevenBullocks$Walk", "size", "I", false)
  | 9 => ("ElevenBullocks$Walk", "shutToo", "I", false)
  | 10 => ("ElevenBullocks$Walk", "guarded", "I", false)
  | _ => ("ElevenBullocks$Walk", "nerve", "I", false)
def tyX10 : Nat → FieldType := fun k => match k with
  | 0 => .object "ElevenBullocks$Land"
  | 1 => .object "ElevenBullocks$Stand"
  | 2 => .object "ElevenBullocks$Laws"
  | 3 => .array .int
  | 4 => .array .int
  | 5 => .array .int
  | 6 => .array .long
  | 7 => .array .long
  | 8 => .int
  | 9 => .int
  | 10 => .int
  | _ => .int
abbrev wsX100 : List Cond := u_ws RX10 TX10 12
theorem nmX10 : ∀ a, a < 12 → ∀ b, b < 12 → a ≠ b → (TX10 a).2.1 ≠ (TX10 b).2.1 := by decide +kernel
theorem tyX10_ok : ∀ k, k < 12 → parseFieldDescriptor (TX10 k).2.2.1 = some (tyX10 k) := by decide +kernel
abbrev cX10_init : ByteArray := prog_12_method_1_code
def yX10_init : MethodName := ⟨RX10, "<init>", "(LElevenBullocks$Land;LElevenBullocks$Stand;LElevenBullocks$Laws;)V"⟩
abbrev cX10_begin : ByteArray := prog_12_method_2_code
def yX10_begin : MethodName := ⟨RX10, "begin", "(II)V"⟩
abbrev cX10_standOf : ByteArray := prog_12_method_3_code
def yX10_standOf : MethodName := ⟨RX10, "standOf", "(I)I"⟩
abbrev cX10_chanceOf : ByteArray := prog_12_method_4_code
def yX10_chanceOf : MethodName := ⟨RX10, "chanceOf", "(III)I"⟩
abbrev cX10_reached : ByteArray := prog_12_method_5_code
def yX10_reached : MethodName := ⟨RX10, "reached", "(I)I"⟩
abbrev cX10_spread : ByteArray := prog_12_method_6_code
def yX10_spread : MethodName := ⟨RX10, "spread", "(I)I"⟩
abbrev cX10_goFrom : ByteArray := prog_12_method_7_code
def yX10_goFrom : MethodName := ⟨RX10, "goFrom", "(II)I"⟩
abbrev cX10_fewestWhoStop : ByteArray := prog_12_method_8_code
def yX10_fewestWhoStop : MethodName := ⟨RX10, "fewestWhoStop", "(II)I"⟩
abbrev cX10_fewestToShut : ByteArray := prog_12_method_9_code
def yX10_fewestToShut : MethodName := ⟨RX10, "fewestToShut", "(I)I"⟩
abbrev cX10_openGates : ByteArray := prog_12_method_10_code
def yX10_openGates : MethodName := ⟨RX10, "openGates", "()I"⟩
abbrev cX10_oddsOf : ByteArray := prog_12_method_11_code
def yX10_oddsOf : MethodName := ⟨RX10, "oddsOf", "(III)J"⟩
abbrev cX10_oddsOfAll : ByteArray := prog_12_method_12_code
def yX10_oddsOfAll : MethodName := ⟨RX10, "oddsOfAll", "(I)J"⟩
abbrev cX10_moveOdds : ByteArray := prog_12_method_13_code
def yX10_moveOdds : MethodName := ⟨RX10, "moveOdds", "()V"⟩
abbrev cX10_moveOddsFrom : ByteArray := prog_12_method_14_code
def yX10_moveOddsFrom : MethodName := ⟨RX10, "moveOddsFrom", "(I)V"⟩
def RX11 : String := "ElevenBullocks"
def TX11 : u_T := fun k => match k with
  | 0 => ("ElevenBullocks", "land", "LElevenBullocks$Land;", true)
  | 1 => ("ElevenBullocks", "stand", "LElevenBullocks$Stand;", true)
  | 2 => ("ElevenBullocks", "steps", "LElevenBullocks$Steps;", true)
  | 3 => ("ElevenBullocks", "notes", "LElevenBullocks$Notes;", true)
  | 4 => ("ElevenBullocks", "reader", "LElevenBullocks$Reader;", true)
  | 5 => ("ElevenBullocks", "scripts", "[LElevenBullocks$Script;", true)
  | 6 => ("ElevenBullocks", "laws", "LElevenBullocks$Laws;", true)
  | 7 => ("ElevenBullocks", "minutes", "LElevenBullocks$Minutes;", true)
  | 8 => ("ElevenBullocks", "walk", "LElevenBullocks$Walk;", true)
  | 9 => ("ElevenBullocks", "errands", "LElevenBullocks$Errands;", true)
  | 10 => ("ElevenBullocks", "kept", "LElevenBullocks$Image;", true)
  | 11 => ("ElevenBullocks", "texts", "I", false)
  | _ => ("ElevenBullocks", "ruling", "I", false)
def tyX11 : Nat → FieldType := fun k => match k with
  | 0 => .object "ElevenBullocks$Land"
  | 1 => .object "ElevenBullocks$Stand"
  | 2 => .object "ElevenBullocks$Steps"
  | 3 => .object "ElevenBullocks$Notes"
  | 4 => .object "ElevenBullocks$Reader"
  | 5 => .array (.object "ElevenBullocks$Script")
  | 6 => .object "ElevenBullocks$Laws"
  | 7 => .object "ElevenBullocks$Minutes"
  | 8 => .object "ElevenBullocks$Walk"
  | 9 => .object "ElevenBullocks$Errands"
  | 10 => .object "ElevenBullocks$Image"
  | 11 => .int
  | _ => .int
abbrev wsX110 : List Cond := u_ws RX11 TX11 13
theorem nmX11 : ∀ a, a < 13 → ∀ b, b < 13 → a ≠ b → (TX11 a).2.1 ≠ (TX11 b).2.1 := by decide +kernel
theorem tyX11_ok : ∀ k, k < 13 → parseFieldDescriptor (TX11 k).2.2.1 = some (tyX11 k) := by decide +kernel
abbrev cX11_init : ByteArray := prog_1_method_1_code
def yX11_init : MethodName := ⟨RX11, "<init>", "()V"⟩
abbrev cX11_stretch : ByteArray := prog_1_method_2_code
def yX11_stretch : MethodName := ⟨RX11, "stretch", "(II)I"⟩
abbrev cX11_way : ByteArray := prog_1_method_3_code
def yX11_way : MethodName := ⟨RX11, "way", "(IIZ)I"⟩
abbrev cX11_person : ByteArray := prog_1_method_4_code
def yX11_person : MethodName := ⟨RX11, "person", "(IZZI)I"⟩
abbrev cX11_feed : ByteArray := prog_1_method_5_code
def yX11_feed : MethodName := ⟨RX11, "feed", "(IIIII)I"⟩
abbrev cX11_end : ByteArray := prog_1_method_6_code
def yX11_end : MethodName := ⟨RX11, "end", "(I)I"⟩
abbrev cX11_text : ByteArray := prog_1_method_7_code
def yX11_text : MethodName := ⟨RX11, "text", "()I"⟩
abbrev cX11_fault : ByteArray := prog_1_method_8_code
def yX11_fault : MethodName := ⟨RX11, "fault", "(I)I"⟩
abbrev cX11_by : ByteArray := prog_1_method_9_code
def yX11_by : MethodName := ⟨RX11, "by", "(I)Z"⟩
abbrev cX11_stray : ByteArray := prog_1_method_10_code
def yX11_stray : MethodName := ⟨RX11, "stray", "(II)I"⟩
abbrev cX11_minute : ByteArray := prog_1_method_11_code
def yX11_minute : MethodName := ⟨RX11, "minute", "(I)I"⟩
abbrev cX11_send : ByteArray := prog_1_method_12_code
def yX11_send : MethodName := ⟨RX11, "send", "(II)Z"⟩
abbrev cX11_gate : ByteArray := prog_1_method_13_code
def yX11_gate : MethodName := ⟨RX11, "gate", "(IZ)Z"⟩
abbrev cX11_split : ByteArray := prog_1_method_14_code
def yX11_split : MethodName := ⟨RX11, "split", "(II)I"⟩
abbrev cX11_played : ByteArray := prog_1_method_15_code
def yX11_played : MethodName := ⟨RX11, "played", "(I)I"⟩
abbrev cX11_day : ByteArray := prog_1_method_16_code
def yX11_day : MethodName := ⟨RX11, "day", "(II)I"⟩
abbrev cX11_undo : ByteArray := prog_1_method_17_code
def yX11_undo : MethodName := ⟨RX11, "undo", "()I"⟩
abbrev cX11_bunch : ByteArray := prog_1_method_18_code
def yX11_bunch : MethodName := ⟨RX11, "bunch", "(II)I"⟩
abbrev cX11_ofPerson : ByteArray := prog_1_method_19_code
def yX11_ofPerson : MethodName := ⟨RX11, "ofPerson", "(II)I"⟩
abbrev cX11_ofStretch : ByteArray := prog_1_method_20_code
def yX11_ofStretch : MethodName := ⟨RX11, "ofStretch", "(II)I"⟩
abbrev cX11_ofWay : ByteArray := prog_1_method_21_code
def yX11_ofWay : MethodName := ⟨RX11, "ofWay", "(II)I"⟩
abbrev cX11_takes : ByteArray := prog_1_method_22_code
def yX11_takes : MethodName := ⟨RX11, "takes", "(II)I"⟩
abbrev cX11_where : ByteArray := prog_1_method_23_code
def yX11_where : MethodName := ⟨RX11, "where", "(IIIZ)J"⟩
abbrev cX11_canCome : ByteArray := prog_1_method_24_code
def yX11_canCome : MethodName := ⟨RX11, "canCome", "(I)I"⟩
abbrev cX11_stopped : ByteArray := prog_1_method_25_code
def yX11_stopped : MethodName := ⟨RX11, "stopped", "(II)I"⟩
abbrev cX11_soon : ByteArray := prog_1_method_26_code
def yX11_soon : MethodName := ⟨RX11, "soon", "(II)I"⟩
abbrev cX11_whom : ByteArray := prog_1_method_27_code
def yX11_whom : MethodName := ⟨RX11, "whom", "(III)I"⟩
abbrev cX11_home : ByteArray := prog_1_method_28_code
def yX11_home : MethodName := ⟨RX11, "home", "(I)I"⟩
abbrev cX11_seen : ByteArray := prog_1_method_29_code
def yX11_seen : MethodName := ⟨RX11, "seen", "(II)I"⟩
abbrev cX11_which : ByteArray := prog_1_method_30_code
def yX11_which : MethodName := ⟨RX11, "which", "()I"⟩
abbrev cX11_many : ByteArray := prog_1_method_31_code
def yX11_many : MethodName := ⟨RX11, "many", "(IIIZ)J"⟩
abbrev cX11_after : ByteArray := prog_1_method_32_code
def yX11_after : MethodName := ⟨RX11, "after", "(II)I"⟩
abbrev cX11_pays : ByteArray := prog_1_method_33_code
def yX11_pays : MethodName := ⟨RX11, "pays", "(II)I"⟩
abbrev cX11_cheapest : ByteArray := prog_1_method_34_code
def yX11_cheapest : MethodName := ⟨RX11, "cheapest", "()I"⟩
abbrev cX11_mending : ByteArray := prog_1_method_35_code
def yX11_mending : MethodName := ⟨RX11, "mending", "(IIIII)Z"⟩
abbrev cX11_saved : ByteArray := prog_1_method_36_code
def yX11_saved : MethodName := ⟨RX11, "saved", "(I)I"⟩
abbrev cX11_tried : ByteArray := prog_1_method_37_code
def yX11_tried : MethodName := ⟨RX11, "tried", "(IZ)I"⟩
abbrev cX11_turned : ByteArray := prog_1_method_38_code
def yX11_turned : MethodName := ⟨RX11, "turned", "(IZ)I"⟩
abbrev cX11_best : ByteArray := prog_1_method_39_code
def yX11_best : MethodName := ⟨RX11, "best", "()I"⟩
abbrev cX11_image : ByteArray := prog_1_method_40_code
def yX11_image : MethodName := ⟨RX11, "image", "()I"⟩
abbrev cX11_back : ByteArray := prog_1_method_41_code
def yX11_back : MethodName := ⟨RX11, "back", "()I"⟩
abbrev cX11_about : ByteArray := prog_1_method_42_code
def yX11_about : MethodName := ⟨RX11, "about", "(I)I"⟩
abbrev cX11_within : ByteArray := prog_1_method_43_code
def yX11_within : MethodName := ⟨RX11, "within", "(III)Z"⟩
abbrev cX11_cut : ByteArray := prog_1_method_44_code
def yX11_cut : MethodName := ⟨RX11, "cut", "(III)I"⟩
abbrev cX11_inLowestTerms : ByteArray := prog_1_method_45_code
def yX11_inLowestTerms : MethodName := ⟨RX11, "inLowestTerms", "(JJZ)J"⟩
abbrev cX11_weightOf : ByteArray := prog_1_method_46_code
def yX11_weightOf : MethodName := ⟨RX11, "weightOf", "(III)J"⟩
abbrev cX11_nextSet : ByteArray := prog_1_method_47_code
def yX11_nextSet : MethodName := ⟨RX11, "nextSet", "(I)I"⟩
abbrev cX11_scriptOf : ByteArray := prog_1_method_48_code
def yX11_scriptOf : MethodName := ⟨RX11, "scriptOf", "(I)LElevenBullocks$Script;"⟩
abbrev cX11_rule : ByteArray := prog_1_method_49_code
def yX11_rule : MethodName := ⟨RX11, "rule", "(I)V"⟩
abbrev cX11_passMinutes : ByteArray := prog_1_method_50_code
def yX11_passMinutes : MethodName := ⟨RX11, "passMinutes", "(I)Z"⟩
abbrev cX11_carryOut : ByteArray := prog_1_method_51_code
def yX11_carryOut : MethodName := ⟨RX11, "carryOut", "(III)Z"⟩
abbrev cX11_happen : ByteArray := prog_1_method_52_code
def yX11_happen : MethodName := ⟨RX11, "happen", "()V"⟩
abbrev cX11_costAt : ByteArray := prog_1_method_53_code
def yX11_costAt : MethodName := ⟨RX11, "costAt", "(ILElevenBullocks$Script;)I"⟩
abbrev cX11_costOfGardens : ByteArray := prog_1_method_54_code
def yX11_costOfGardens : MethodName := ⟨RX11, "costOfGardens", "(I)I"⟩
def RX12 : String := "ElevenBullocksModel"
def TX12 : u_T := fun k => match k with
  | 0 => ("ElevenBullocksModel", "a", "[I", true)
  | 1 => ("ElevenBullocksModel", "image", "[I", true)
  | 2 => ("ElevenBullocksModel", "texts", "[I", true)
  | 3 => ("ElevenBullocksModel", "tape", "[I", true)
  | 4 => ("ElevenBullocksModel", "taped", "I", false)
  | 5 => ("ElevenBullocksModel", "fault", "I", false)
  | 6 => ("ElevenBullocksModel", "faultPlace", "I", false)
  | 7 => ("ElevenBullocksModel", "at", "I", false)
  | 8 => ("ElevenBullocksModel", "place", "I", false)
  | 9 => ("ElevenBullocksModel", "token", "I", false)
  | 10 => ("ElevenBullocksModel", "number", "I", false)
  | 11 => ("ElevenBullocksModel", "word", "J", false)
  | 12 => ("ElevenBullocksModel", "text0", "I", false)
  | 13 => ("ElevenBullocksModel", "written", "I", false)
  | 14 => ("ElevenBullocksModel", "sort0", "I", false)
  | 15 => ("ElevenBullocksModel", "pile", "[I", true)
  | 16 => ("ElevenBullocksModel", "letOf", "[I", true)
  | 17 => ("ElevenBullocksModel", "wasOf", "[I", true)
  | 18 => ("ElevenBullocksModel", "slotOf", "[I", true)
  | 19 => ("ElevenBullocksModel", "piled", "I", false)
  | 20 => ("ElevenBullocksModel", "opens", "I", false)
  | 21 => ("ElevenBullocksModel", "lets", "I", false)
  | 22 => ("ElevenBullocksModel", "slots", "I", false)
  | 23 => ("ElevenBullocksModel", "isWhole", "Z", false)
  | 24 => ("ElevenBullocksModel", "once", "I", false)
  | 25 => ("ElevenBullocksModel", "named", "[I", true)
  | 26 => ("ElevenBullocksModel", "letters", "[J", true)
  | 27 => ("ElevenBullocksModel", "values", "[J", true)
  | 28 => ("ElevenBullocksModel", "truth", "[Z", true)
  | 29 => ("ElevenBullocksModel", "posted", "I", false)
  | 30 => ("ElevenBullocksModel", "postedNerve", "I", false)
  | 31 => ("ElevenBullocksModel", "barred", "I", false)
  | 32 => ("ElevenBullocksModel", "far", "[I", true)
  | 33 => ("ElevenBullocksModel", "weights", "[J", true)
  | 34 => ("ElevenBullocksModel", "weightsThen", "[J", true)
  | 35 => ("ElevenBullocksModel", "can", "[Z", true)
  | 36 => ("ElevenBullocksModel", "queue", "[I", true)
  | 37 => ("ElevenBullocksModel", "person0", "[I", true)
  | 38 => ("ElevenBullocksModel", "stretch0", "[I", true)
  | 39 => ("ElevenBullocksModel", "soon0", "[I", true)
  | 40 => ("ElevenBullocksModel", "order", "[I", true)
  | 41 => ("ElevenBullocksModel", "bestOrder", "[I", true)
  | 42 => ("ElevenBullocksModel", "bunch0", "[I", true)
  | _ => ("ElevenBullocksModel", "between", "[I", true)
def tyX12 : Nat → FieldType := fun k => match k with
  | 0 => .array .int
  | 1 => .array .int
  | 2 => .array .int
  | 3 => .array .int
  | 4 => .int
  | 5 => .int
  | 6 => .int
  | 7 => .int
  | 8 => .int
  | 9 => .int
  | 10 => .int
  | 11 => .long
  | 12 => .int
  | 13 => .int
  | 14 => .int
  | 15 => .array .int
  | 16 => .array .int
  | 17 => .array .int
  | 18 => .array .int
  | 19 => .int
  | 20 => .int
  | 21 => .int
  | 22 => .int
  | 23 => .boolean
  | 24 => .int
  | 25 => .array .int
  | 26 => .array .long
  | 27 => .array .long
  | 28 => .array .boolean
  | 29 => .int
  | 30 => .int
  | 31 => .int
  | 32 => .array .int
  | 33 => .array .long
  | 34 => .array .long
  | 35 => .array .boolean
  | 36 => .array .int
  | 37 => .array .int
  | 38 => .array .int
  | 39 => .array .int
  | 40 => .array .int
  | 41 => .array .int
  | 42 => .array .int
  | _ => .array .int
abbrev wsX120 : List Cond := u_ws RX12 TX12 44
theorem nmX12 : ∀ a, a < 44 → ∀ b, b < 44 → a ≠ b → (TX12 a).2.1 ≠ (TX12 b).2.1 := by decide +kernel
theorem tyX12_ok : ∀ k, k < 44 → parseFieldDescriptor (TX12 k).2.2.1 = some (tyX12 k) := by decide +kernel
abbrev cX12_init : ByteArray := prog_14_method_1_code
def yX12_init : MethodName := ⟨RX12, "<init>", "()V"⟩
abbrev cX12_copy : ByteArray := prog_14_method_2_code
def yX12_copy : MethodName := ⟨RX12, "copy", "([I[I)V"⟩
abbrev cX12_isIn : ByteArray := prog_14_method_3_code
def yX12_isIn : MethodName := ⟨RX12, "isIn", "(III)Z"⟩
abbrev cX12_has : ByteArray := prog_14_method_4_code
def yX12_has : MethodName := ⟨RX12, "has", "(II)Z"⟩
abbrev cX12_bits : ByteArray := prog_14_method_5_code
def yX12_bits : MethodName := ⟨RX12, "bits", "(I)I"⟩
abbrev cX12_isStretch : ByteArray := prog_14_method_6_code
def yX12_isStretch : MethodName := ⟨RX12, "isStretch", "(I)Z"⟩
abbrev cX12_isWay : ByteArray := prog_14_method_7_code
def yX12_isWay : MethodName := ⟨RX12, "isWay", "(I)Z"⟩
abbrev cX12_isPerson : ByteArray := prog_14_method_8_code
def yX12_isPerson : MethodName := ⟨RX12, "isPerson", "(I)Z"⟩
abbrev cX12_isBunch : ByteArray := prog_14_method_9_code
def yX12_isBunch : MethodName := ⟨RX12, "isBunch", "(I)Z"⟩
abbrev cX12_kindOf : ByteArray := prog_14_method_10_code
def yX12_kindOf : MethodName := ⟨RX12, "kindOf", "(I)I"⟩
abbrev cX12_harmOf : ByteArray := prog_14_method_11_code
def yX12_harmOf : MethodName := ⟨RX12, "harmOf", "(I)I"⟩
abbrev cX12_doneAt : ByteArray := prog_14_method_12_code
def yX12_doneAt : MethodName := ⟨RX12, "doneAt", "(I)I"⟩
abbrev cX12_isPath : ByteArray := prog_14_method_13_code
def yX12_isPath : MethodName := ⟨RX12, "isPath", "(I)Z"⟩
abbrev cX12_isOpen : ByteArray := prog_14_method_14_code
def yX12_isOpen : MethodName := ⟨RX12, "isOpen", "(I)Z"⟩
abbrev cX12_acrossOf : ByteArray := prog_14_method_15_code
def yX12_acrossOf : MethodName := ⟨RX12, "acrossOf", "(II)I"⟩
abbrev cX12_sizeOf : ByteArray := prog_14_method_16_code
def yX12_sizeOf : MethodName := ⟨RX12, "sizeOf", "(I)I"⟩
abbrev cX12_atOf : ByteArray := prog_14_method_17_code
def yX12_atOf : MethodName := ⟨RX12, "atOf", "(I)I"⟩
abbrev cX12_cameOf : ByteArray := prog_14_method_18_code
def yX12_cameOf : MethodName := ⟨RX12, "cameOf", "(I)I"⟩
abbrev cX12_get : ByteArray := prog_14_method_19_code
def yX12_get : MethodName := ⟨RX12, "get", "(II)I"⟩
abbrev cX12_set : ByteArray := prog_14_method_20_code
def yX12_set : MethodName := ⟨RX12, "set", "(III)V"⟩
abbrev cX12_stretch : ByteArray := prog_14_method_21_code
def yX12_stretch : MethodName := ⟨RX12, "stretch", "(II)I"⟩
abbrev cX12_waysAt : ByteArray := prog_14_method_22_code
def yX12_waysAt : MethodName := ⟨RX12, "waysAt", "(I)I"⟩
abbrev cX12_way : ByteArray := prog_14_method_23_code
def yX12_way : MethodName := ⟨RX12, "way", "(IIZ)I"⟩
abbrev cX12_personNow : ByteArray := prog_14_method_24_code
def yX12_personNow : MethodName := ⟨RX12, "personNow", "(IIII)I"⟩
abbrev cX12_person : ByteArray := prog_14_method_25_code
def yX12_person : MethodName := ⟨RX12, "person", "(IZZI)I"⟩
abbrev cX12_four : ByteArray := prog_14_method_26_code
def yX12_four : MethodName := ⟨RX12, "four", "(I)V"⟩
abbrev cX12_feed : ByteArray := prog_14_method_27_code
def yX12_feed : MethodName := ⟨RX12, "feed", "(IIIII)I"⟩
abbrev cX12_end : ByteArray := prog_14_method_28_code
def yX12_end : MethodName := ⟨RX12, "end", "(I)I"⟩
abbrev cX12_byteAt : ByteArray := prog_14_method_29_code
def yX12_byteAt : MethodName := ⟨RX12, "byteAt", "(I)I"⟩
abbrev cX12_isLetterByte : ByteArray := prog_14_method_30_code
def yX12_isLetterByte : MethodName := ⟨RX12, "isLetterByte", "(I)Z"⟩
abbrev cX12_isFigure : ByteArray := prog_14_method_31_code
def yX12_isFigure : MethodName := ⟨RX12, "isFigure", "(I)Z"⟩
abbrev cX12_isSign : ByteArray := prog_14_method_32_code
def yX12_isSign : MethodName := ⟨RX12, "isSign", "(I)Z"⟩
abbrev cX12_nextToken : ByteArray := prog_14_method_33_code
def yX12_nextToken : MethodName := ⟨RX12, "nextToken", "()V"⟩
abbrev cX12_w2 : ByteArray := prog_14_method_34_code
def yX12_w2 : MethodName := ⟨RX12, "w2", "(II)J"⟩
abbrev cX12_w3 : ByteArray := prog_14_method_35_code
def yX12_w3 : MethodName := ⟨RX12, "w3", "(III)J"⟩
abbrev cX12_w4 : ByteArray := prog_14_method_36_code
def yX12_w4 : MethodName := ⟨RX12, "w4", "(IIII)J"⟩
abbrev cX12_w5 : ByteArray := prog_14_method_37_code
def yX12_w5 : MethodName := ⟨RX12, "w5", "(IIIII)J"⟩
abbrev cX12_w6 : ByteArray := prog_14_method_38_code
def yX12_w6 : MethodName := ⟨RX12, "w6", "(IIIIII)J"⟩
abbrev cX12_isWord : ByteArray := prog_14_method_39_code
def yX12_isWord : MethodName := ⟨RX12, "isWord", "(J)Z"⟩
abbrev cX12_emit : ByteArray := prog_14_method_40_code
def yX12_emit : MethodName := ⟨RX12, "emit", "(II)V"⟩
abbrev cX12_nameOf : ByteArray := prog_14_method_41_code
def yX12_nameOf : MethodName := ⟨RX12, "nameOf", "()I"⟩
abbrev cX12_isOf : ByteArray := prog_14_method_42_code
def yX12_isOf : MethodName := ⟨RX12, "isOf", "(I)Z"⟩
abbrev cX12_letter : ByteArray := prog_14_method_43_code
def yX12_letter : MethodName := ⟨RX12, "letter", "()I"⟩
abbrev cX12_rank : ByteArray := prog_14_method_44_code
def yX12_rank : MethodName := ⟨RX12, "rank", "(I)I"⟩
abbrev cX12_settle : ByteArray := prog_14_method_45_code
def yX12_settle : MethodName := ⟨RX12, "settle", "(I)V"⟩
abbrev cX12_openAt : ByteArray := prog_14_method_46_code
def yX12_openAt : MethodName := ⟨RX12, "openAt", "()I"⟩
abbrev cX12_openNow : ByteArray := prog_14_method_47_code
def yX12_openNow : MethodName := ⟨RX12, "openNow", "()I"⟩
abbrev cX12_isCompared : ByteArray := prog_14_method_48_code
def yX12_isCompared : MethodName := ⟨RX12, "isCompared", "()Z"⟩
abbrev cX12_isAskAhead : ByteArray := prog_14_method_49_code
def yX12_isAskAhead : MethodName := ⟨RX12, "isAskAhead", "()Z"⟩
abbrev cX12_opened : ByteArray := prog_14_method_50_code
def yX12_opened : MethodName := ⟨RX12, "opened", "(I)I"⟩
abbrev cX12_one : ByteArray := prog_14_method_51_code
def yX12_one : MethodName := ⟨RX12, "one", "(II)V"⟩
abbrev cX12_beginOne : ByteArray := prog_14_method_52_code
def yX12_beginOne : MethodName := ⟨RX12, "beginOne", "()I"⟩
abbrev cX12_compareOf : ByteArray := prog_14_method_53_code
def yX12_compareOf : MethodName := ⟨RX12, "compareOf", "()I"⟩
abbrev cX12_betweenOf : ByteArray := prog_14_method_54_code
def yX12_betweenOf : MethodName := ⟨RX12, "betweenOf", "()I"⟩
abbrev cX12_partOf : ByteArray := prog_14_method_55_code
def yX12_partOf : MethodName := ⟨RX12, "partOf", "(I)I"⟩
abbrev cX12_bind : ByteArray := prog_14_method_56_code
def yX12_bind : MethodName := ⟨RX12, "bind", "()V"⟩
abbrev cX12_shut : ByteArray := prog_14_method_57_code
def yX12_shut : MethodName := ⟨RX12, "shut", "(I)V"⟩
abbrev cX12_behindOne : ByteArray := prog_14_method_58_code
def yX12_behindOne : MethodName := ⟨RX12, "behindOne", "()Z"⟩
abbrev cX12_summed : ByteArray := prog_14_method_59_code
def yX12_summed : MethodName := ⟨RX12, "summed", "()I"⟩
abbrev cX12_figure : ByteArray := prog_14_method_60_code
def yX12_figure : MethodName := ⟨RX12, "figure", "(III)I"⟩
abbrev cX12_worded : ByteArray := prog_14_method_61_code
def yX12_worded : MethodName := ⟨RX12, "worded", "(JIII)I"⟩
abbrev cX12_lawClause : ByteArray := prog_14_method_62_code
def yX12_lawClause : MethodName := ⟨RX12, "lawClause", "(I)I"⟩
abbrev cX12_pair : ByteArray := prog_14_method_63_code
def yX12_pair : MethodName := ⟨RX12, "pair", "(IIIJII)I"⟩
abbrev cX12_body : ByteArray := prog_14_method_64_code
def yX12_body : MethodName := ⟨RX12, "body", "(II)I"⟩
abbrev cX12_sortOf : ByteArray := prog_14_method_65_code
def yX12_sortOf : MethodName := ⟨RX12, "sortOf", "()I"⟩
abbrev cX12_clause : ByteArray := prog_14_method_66_code
def yX12_clause : MethodName := ⟨RX12, "clause", "()I"⟩
abbrev cX12_readText : ByteArray := prog_14_method_67_code
def yX12_readText : MethodName := ⟨RX12, "readText", "()I"⟩
abbrev cX12_text : ByteArray := prog_14_method_68_code
def yX12_text : MethodName := ⟨RX12, "text", "()I"⟩
abbrev cX12_fault : ByteArray := prog_14_method_69_code
def yX12_fault : MethodName := ⟨RX12, "fault", "(I)I"⟩
abbrev cX12_by : ByteArray := prog_14_method_70_code
def yX12_by : MethodName := ⟨RX12, "by", "(I)Z"⟩
abbrev cX12_clip : ByteArray := prog_14_method_71_code
def yX12_clip : MethodName := ⟨RX12, "clip", "(J)J"⟩
abbrev cX12_two : ByteArray := prog_14_method_72_code
def yX12_two : MethodName := ⟨RX12, "two", "(IJJ)J"⟩
abbrev cX12_isAsked : ByteArray := prog_14_method_73_code
def yX12_isAsked : MethodName := ⟨RX12, "isAsked", "(IJJ)Z"⟩
abbrev cX12_worked : ByteArray := prog_14_method_74_code
def yX12_worked : MethodName := ⟨RX12, "worked", "(II)I"⟩
abbrev cX12_says : ByteArray := prog_14_method_75_code
def yX12_says : MethodName := ⟨RX12, "says", "(IIII)I"⟩
abbrev cX12_peopleAt : ByteArray := prog_14_method_76_code
def yX12_peopleAt : MethodName := ⟨RX12, "peopleAt", "(I)I"⟩
abbrev cX12_sumAt : ByteArray := prog_14_method_77_code
def yX12_sumAt : MethodName := ⟨RX12, "sumAt", "(II)I"⟩
abbrev cX12_name : ByteArray := prog_14_method_78_code
def yX12_name : MethodName := ⟨RX12, "name", "(II)V"⟩
abbrev cX12_paceOf : ByteArray := prog_14_method_79_code
def yX12_paceOf : MethodName := ⟨RX12, "paceOf", "(I)I"⟩
abbrev cX12_takesOf : ByteArray := prog_14_method_80_code
def yX12_takesOf : MethodName := ⟨RX12, "takesOf", "(IIII)I"⟩
abbrev cX12_keep : ByteArray := prog_14_method_81_code
def yX12_keep : MethodName := ⟨RX12, "keep", "()V"⟩
abbrev cX12_undo : ByteArray := prog_14_method_82_code
def yX12_undo : MethodName := ⟨RX12, "undo", "()I"⟩
abbrev cX12_beasts : ByteArray := prog_14_method_83_code
def yX12_beasts : MethodName := ⟨RX12, "beasts", "()I"⟩
abbrev cX12_freeBunch : ByteArray := prog_14_method_84_code
def yX12_freeBunch : MethodName := ⟨RX12, "freeBunch", "()I"⟩
abbrev cX12_layBunch : ByteArray := prog_14_method_85_code
def yX12_layBunch : MethodName := ⟨RX12, "layBunch", "(IIII)V"⟩
abbrev cX12_stray : ByteArray := prog_14_method_86_code
def yX12_stray : MethodName := ⟨RX12, "stray", "(II)I"⟩
abbrev cX12_send : ByteArray := prog_14_method_87_code
def yX12_send : MethodName := ⟨RX12, "send", "(II)Z"⟩
abbrev cX12_gate : ByteArray := prog_14_method_88_code
def yX12_gate : MethodName := ⟨RX12, "gate", "(IZ)Z"⟩
abbrev cX12_split : ByteArray := prog_14_method_89_code
def yX12_split : MethodName := ⟨RX12, "split", "(II)I"⟩
abbrev cX12_findFar : ByteArray := prog_14_method_90_code
def yX12_findFar : MethodName := ⟨RX12, "findFar", "(IZ)V"⟩
abbrev cX12_goOn : ByteArray := prog_14_method_91_code
def yX12_goOn : MethodName := ⟨RX12, "goOn", "(I)V"⟩
abbrev cX12_drawn : ByteArray := prog_14_method_92_code
def yX12_drawn : MethodName := ⟨RX12, "drawn", "(I)I"⟩
abbrev cX12_anew : ByteArray := prog_14_method_93_code
def yX12_anew : MethodName := ⟨RX12, "anew", "()V"⟩
abbrev cX12_move : ByteArray := prog_14_method_94_code
def yX12_move : MethodName := ⟨RX12, "move", "(I)V"⟩
abbrev cX12_join : ByteArray := prog_14_method_95_code
def yX12_join : MethodName := ⟨RX12, "join", "()V"⟩
abbrev cX12_pass : ByteArray := prog_14_method_96_code
def yX12_pass : MethodName := ⟨RX12, "pass", "()V"⟩
abbrev cX12_allDone : ByteArray := prog_14_method_97_code
def yX12_allDone : MethodName := ⟨RX12, "allDone", "()I"⟩
abbrev cX12_passStep : ByteArray := prog_14_method_98_code
def yX12_passStep : MethodName := ⟨RX12, "passStep", "()Z"⟩
abbrev cX12_areMinutes : ByteArray := prog_14_method_99_code
def yX12_areMinutes : MethodName := ⟨RX12, "areMinutes", "(I)Z"⟩
abbrev cX12_minute : ByteArray := prog_14_method_100_code
def yX12_minute : MethodName := ⟨RX12, "minute", "(I)I"⟩
abbrev cX12_isPlayed : ByteArray := prog_14_method_101_code
def yX12_isPlayed : MethodName := ⟨RX12, "isPlayed", "(I)Z"⟩
abbrev cX12_played : ByteArray := prog_14_method_102_code
def yX12_played : MethodName := ⟨RX12, "played", "(I)I"⟩
abbrev cX12_happens : ByteArray := prog_14_method_103_code
def yX12_happens : MethodName := ⟨RX12, "happens", "()V"⟩
abbrev cX12_day : ByteArray := prog_14_method_104_code
def yX12_day : MethodName := ⟨RX12, "day", "(II)I"⟩
abbrev cX12_bunch : ByteArray := prog_14_method_105_code
def yX12_bunch : MethodName := ⟨RX12, "bunch", "(II)I"⟩
abbrev cX12_ofPerson : ByteArray := prog_14_method_106_code
def yX12_ofPerson : MethodName := ⟨RX12, "ofPerson", "(II)I"⟩
abbrev cX12_ofStretch : ByteArray := prog_14_method_107_code
def yX12_ofStretch : MethodName := ⟨RX12, "ofStretch", "(II)I"⟩
abbrev cX12_ofWay : ByteArray := prog_14_method_108_code
def yX12_ofWay : MethodName := ⟨RX12, "ofWay", "(II)I"⟩
abbrev cX12_takes : ByteArray := prog_14_method_109_code
def yX12_takes : MethodName := ⟨RX12, "takes", "(II)I"⟩
abbrev cX12_spread : ByteArray := prog_14_method_110_code
def yX12_spread : MethodName := ⟨RX12, "spread", "(II)V"⟩
abbrev cX12_common : ByteArray := prog_14_method_111_code
def yX12_common : MethodName := ⟨RX12, "common", "(JJ)J"⟩
abbrev cX12_part : ByteArray := prog_14_method_112_code
def yX12_part : MethodName := ⟨RX12, "part", "(JJZ)J"⟩
abbrev cX12_where : ByteArray := prog_14_method_113_code
def yX12_where : MethodName := ⟨RX12, "where", "(IIIZ)J"⟩
abbrev cX12_comesTo : ByteArray := prog_14_method_114_code
def yX12_comesTo : MethodName := ⟨RX12, "comesTo", "(I)I"⟩
abbrev cX12_ofKind : ByteArray := prog_14_method_115_code
def yX12_ofKind : MethodName := ⟨RX12, "ofKind", "(II)I"⟩
abbrev cX12_canCome : ByteArray := prog_14_method_116_code
def yX12_canCome : MethodName := ⟨RX12, "canCome", "(I)I"⟩
abbrev cX12_stopped : ByteArray := prog_14_method_117_code
def yX12_stopped : MethodName := ⟨RX12, "stopped", "(II)I"⟩
abbrev cX12_home : ByteArray := prog_14_method_118_code
def yX12_home : MethodName := ⟨RX12, "home", "(I)I"⟩
abbrev cX12_minutesOf : ByteArray := prog_14_method_119_code
def yX12_minutesOf : MethodName := ⟨RX12, "minutesOf", "(II)I"⟩
abbrev cX12_soon : ByteArray := prog_14_method_120_code
def yX12_soon : MethodName := ⟨RX12, "soon", "(II)I"⟩
abbrev cX12_layOut : ByteArray := prog_14_method_121_code
def yX12_layOut : MethodName := ⟨RX12, "layOut", "(I[I)I"⟩
abbrev cX12_nextRow : ByteArray := prog_14_method_122_code
def yX12_nextRow : MethodName := ⟨RX12, "nextRow", "(II)Z"⟩
abbrev cX12_areUnlike : ByteArray := prog_14_method_123_code
def yX12_areUnlike : MethodName := ⟨RX12, "areUnlike", "(I)Z"⟩
abbrev cX12_bestSending : ByteArray := prog_14_method_124_code
def yX12_bestSending : MethodName := ⟨RX12, "bestSending", "(II)I"⟩
abbrev cX12_whom : ByteArray := prog_14_method_125_code
def yX12_whom : MethodName := ⟨RX12, "whom", "(III)I"⟩
abbrev cX12_seen : ByteArray := prog_14_method_126_code
def yX12_seen : MethodName := ⟨RX12, "seen", "(II)I"⟩
abbrev cX12_isFrom : ByteArray := prog_14_method_127_code
def yX12_isFrom : MethodName := ⟨RX12, "isFrom", "(I)Z"⟩
abbrev cX12_which : ByteArray := prog_14_method_128_code
def yX12_which : MethodName := ⟨RX12, "which", "()I"⟩
abbrev cX12_power : ByteArray := prog_14_method_129_code
def yX12_power : MethodName := ⟨RX12, "power", "(JI)J"⟩
abbrev cX12_weightOf : ByteArray := prog_14_method_130_code
def yX12_weightOf : MethodName := ⟨RX12, "weightOf", "(III)J"⟩
abbrev cX12_many : ByteArray := prog_14_method_131_code
def yX12_many : MethodName := ⟨RX12, "many", "(IIIZ)J"⟩
abbrev cX12_layBunches : ByteArray := prog_14_method_132_code
def yX12_layBunches : MethodName := ⟨RX12, "layBunches", "(I)I"⟩
abbrev cX12_harmBy : ByteArray := prog_14_method_133_code
def yX12_harmBy : MethodName := ⟨RX12, "harmBy", "(I)I"⟩
abbrev cX12_after : ByteArray := prog_14_method_134_code
def yX12_after : MethodName := ⟨RX12, "after", "(II)I"⟩
abbrev cX12_paysBy : ByteArray := prog_14_method_135_code
def yX12_paysBy : MethodName := ⟨RX12, "paysBy", "(II)I"⟩
abbrev cX12_pays : ByteArray := prog_14_method_136_code
def yX12_pays : MethodName := ⟨RX12, "pays", "(II)I"⟩
abbrev cX12_costBy : ByteArray := prog_14_method_137_code
def yX12_costBy : MethodName := ⟨RX12, "costBy", "(I)I"⟩
abbrev cX12_cheapest : ByteArray := prog_14_method_138_code
def yX12_cheapest : MethodName := ⟨RX12, "cheapest", "()I"⟩
abbrev cX12_mending : ByteArray := prog_14_method_139_code
def yX12_mending : MethodName := ⟨RX12, "mending", "(IIIII)Z"⟩
abbrev cX12_savedBy : ByteArray := prog_14_method_140_code
def yX12_savedBy : MethodName := ⟨RX12, "savedBy", "(I)I"⟩
abbrev cX12_saved : ByteArray := prog_14_method_141_code
def yX12_saved : MethodName := ⟨RX12, "saved", "(I)I"⟩
abbrev cX12_tried : ByteArray := prog_14_method_142_code
def yX12_tried : MethodName := ⟨RX12, "tried", "(IZ)I"⟩
abbrev cX12_timesOf : ByteArray := prog_14_method_143_code
def yX12_timesOf : MethodName := ⟨RX12, "timesOf", "(IZ)I"⟩
abbrev cX12_turned : ByteArray := prog_14_method_144_code
def yX12_turned : MethodName := ⟨RX12, "turned", "(IZ)I"⟩
abbrev cX12_best : ByteArray := prog_14_method_145_code
def yX12_best : MethodName := ⟨RX12, "best", "()I"⟩
abbrev cX12_image : ByteArray := prog_14_method_146_code
def yX12_image : MethodName := ⟨RX12, "image", "()I"⟩
abbrev cX12_back : ByteArray := prog_14_method_147_code
def yX12_back : MethodName := ⟨RX12, "back", "()I"⟩
abbrev cX12_about : ByteArray := prog_14_method_148_code
def yX12_about : MethodName := ⟨RX12, "about", "(I)I"⟩
def RJx145de : String := "java/io/Serializable"
def TJx145de : u_T := fun k => match k with
  | _ => ("", "", "", false)
def tyJx145de : Nat → FieldType := fun k => match k with
  | _ => .int
abbrev wsJx145de0 : List Cond := u_ws RJx145de TJx145de 0
theorem nmJx145de : ∀ a, a < 0 → ∀ b, b < 0 → a ≠ b → (TJx145de a).2.1 ≠ (TJx145de b).2.1 := by decide +kernel
theorem tyJx145de_ok : ∀ k, k < 0 → parseFieldDescriptor (TJx145de k).2.2.1 = some (tyJx145de k) := by decide +kernel
def RJx9f9b0 : String := "java/lang/CharSequence"
def TJx9f9b0 : u_T := fun k => match k with
  | _ => ("", "", "", false)
def tyJx9f9b0 : Nat → FieldType := fun k => match k with
  | _ => .int
abbrev wsJx9f9b00 : List Cond := u_ws RJx9f9b0 TJx9f9b0 0
theorem nmJx9f9b0 : ∀ a, a < 0 → ∀ b, b < 0 → a ≠ b → (TJx9f9b0 a).2.1 ≠ (TJx9f9b0 b).2.1 := by decide +kernel
theorem tyJx9f9b0_ok : ∀ k, k < 0 → parseFieldDescriptor (TJx9f9b0 k).2.2.1 = some (tyJx9f9b0 k) := by decide +kernel
def RJxb160c : String := "java/lang/Comparable"
def TJxb160c : u_T := fun k => match k with
  | _ => ("", "", "", false)
def tyJxb160c : Nat → FieldType := fun k => match k with
  | _ => .int
abbrev wsJxb160c0 : List Cond := u_ws RJxb160c TJxb160c 0
theorem nmJxb160c : ∀ a, a < 0 → ∀ b, b < 0 → a ≠ b → (TJxb160c a).2.1 ≠ (TJxb160c b).2.1 := by decide +kernel
theorem tyJxb160c_ok : ∀ k, k < 0 → parseFieldDescriptor (TJxb160c k).2.2.1 = some (tyJxb160c k) := by decide +kernel
def RJ6 : String := "java/lang/Integer"
def TJ6 : u_T := fun k => match k with
  | _ => ("", "", "", false)
def tyJ6 : Nat → FieldType := fun k => match k with
  | _ => .int
abbrev wsJ60 : List Cond := u_ws RJ6 TJ6 0
theorem nmJ6 : ∀ a, a < 0 → ∀ b, b < 0 → a ≠ b → (TJ6 a).2.1 ≠ (TJ6 b).2.1 := by decide +kernel
theorem tyJ6_ok : ∀ k, k < 0 → parseFieldDescriptor (TJ6 k).2.2.1 = some (tyJ6 k) := by decide +kernel
abbrev cJ6_bitCount_0f7a4 : ByteArray := prog_15_method_49_code
def yJ6_bitCount_0f7a4 : MethodName := ⟨RJ6, "bitCount", "(I)I"⟩
def RJ9 : String := "java/lang/Math"
def TJ9 : u_T := fun k => match k with
  | _ => ("", "", "", false)
def tyJ9 : Nat → FieldType := fun k => match k with
  | _ => .int
abbrev wsJ90 : List Cond := u_ws RJ9 TJ9 0
theorem nmJ9 : ∀ a, a < 0 → ∀ b, b < 0 → a ≠ b → (TJ9 a).2.1 ≠ (TJ9 b).2.1 := by decide +kernel
theorem tyJ9_ok : ∀ k, k < 0 → parseFieldDescriptor (TJ9 k).2.2.1 = some (tyJ9 k) := by decide +kernel
abbrev cJ9_max_7cf53 : ByteArray := prog_16_method_65_code
def yJ9_max_7cf53 : MethodName := ⟨RJ9, "max", "(II)I"⟩
abbrev cJ9_max_f86c9 : ByteArray := prog_16_method_66_code
def yJ9_max_f86c9 : MethodName := ⟨RJ9, "max", "(JJ)J"⟩
abbrev cJ9_min_7cf53 : ByteArray := prog_16_method_69_code
def yJ9_min_7cf53 : MethodName := ⟨RJ9, "min", "(II)I"⟩
abbrev cJ9_min_f86c9 : ByteArray := prog_16_method_70_code
def yJ9_min_f86c9 : MethodName := ⟨RJ9, "min", "(JJ)J"⟩
def RJ0 : String := "java/lang/String"
def TJ0 : u_T := fun k => match k with
  | _ => ("", "", "", false)
def tyJ0 : Nat → FieldType := fun k => match k with
  | _ => .int
abbrev wsJ00 : List Cond := u_ws RJ0 TJ0 0
theorem nmJ0 : ∀ a, a < 0 → ∀ b, b < 0 → a ≠ b → (TJ0 a).2.1 ≠ (TJ0 b).2.1 := by decide +kernel
theorem tyJ0_ok : ∀ k, k < 0 → parseFieldDescriptor (TJ0 k).2.2.1 = some (tyJ0 k) := by decide +kernel
abbrev cJ0_length_8abf5 : ByteArray := prog_17_method_54_code
def yJ0_length_8abf5 : MethodName := ⟨RJ0, "length", "()I"⟩
abbrev cJ0_charAt_5068e : ByteArray := prog_17_method_56_code
def yJ0_charAt_5068e : MethodName := ⟨RJ0, "charAt", "(I)C"⟩
abbrev cJ0_coder_7d493 : ByteArray := prog_17_method_152_code
def yJ0_coder_7d493 : MethodName := ⟨RJ0, "coder", "()B"⟩
abbrev cJ0_isLatin1_aae02 : ByteArray := prog_17_method_154_code
def yJ0_isLatin1_aae02 : MethodName := ⟨RJ0, "isLatin1", "()Z"⟩
abbrev cJ0_checkIndex_df160 : ByteArray := prog_17_method_155_code
def yJ0_checkIndex_df160 : MethodName := ⟨RJ0, "checkIndex", "(II)V"⟩
def RJ1 : String := "java/lang/StringLatin1"
def TJ1 : u_T := fun k => match k with
  | _ => ("", "", "", false)
def tyJ1 : Nat → FieldType := fun k => match k with
  | _ => .int
abbrev wsJ10 : List Cond := u_ws RJ1 TJ1 0
theorem nmJ1 : ∀ a, a < 0 → ∀ b, b < 0 → a ≠ b → (TJ1 a).2.1 ≠ (TJ1 b).2.1 := by decide +kernel
theorem tyJ1_ok : ∀ k, k < 0 → parseFieldDescriptor (TJ1 k).2.2.1 = some (tyJ1 k) := by decide +kernel
abbrev cJ1_charAt_3b067 : ByteArray := prog_18_method_2_code
def yJ1_charAt_3b067 : MethodName := ⟨RJ1, "charAt", "([BI)C"⟩
def RJ2 : String := "java/lang/StringUTF16"
def TJ2 : u_T := fun k => match k with
  | _ => ("", "", "", false)
def tyJ2 : Nat → FieldType := fun k => match k with
  | _ => .int
abbrev wsJ20 : List Cond := u_ws RJ2 TJ2 0
theorem nmJ2 : ∀ a, a < 0 → ∀ b, b < 0 → a ≠ b → (TJ2 a).2.1 ≠ (TJ2 b).2.1 := by decide +kernel
theorem tyJ2_ok : ∀ k, k < 0 → parseFieldDescriptor (TJ2 k).2.2.1 = some (tyJ2 k) := by decide +kernel
abbrev cJ2_getChar_3b067 : ByteArray := prog_19_method_5_code
def yJ2_getChar_3b067 : MethodName := ⟨RJ2, "getChar", "([BI)C"⟩
abbrev cJ2_length_9d52b : ByteArray := prog_19_method_6_code
def yJ2_length_9d52b : MethodName := ⟨RJ2, "length", "([B)I"⟩
abbrev cJ2_charAt_3b067 : ByteArray := prog_19_method_83_code
def yJ2_charAt_3b067 : MethodName := ⟨RJ2, "charAt", "([BI)C"⟩
abbrev cJ2_checkIndex_2214a : ByteArray := prog_19_method_91_code
def yJ2_checkIndex_2214a : MethodName := ⟨RJ2, "checkIndex", "(I[B)V"⟩
def RJ10 : String := "java/lang/System"
def TJ10 : u_T := fun k => match k with
  | _ => ("", "", "", false)
def tyJ10 : Nat → FieldType := fun k => match k with
  | _ => .int
abbrev wsJ100 : List Cond := u_ws RJ10 TJ10 0
theorem nmJ10 : ∀ a, a < 0 → ∀ b, b < 0 → a ≠ b → (TJ10 a).2.1 ≠ (TJ10 b).2.1 := by decide +kernel
theorem tyJ10_ok : ∀ k, k < 0 → parseFieldDescriptor (TJ10 k).2.2.1 = some (tyJ10 k) := by decide +kernel
def RJxfd54e : String := "java/lang/constant/Constable"
def TJxfd54e : u_T := fun k => match k with
  | _ => ("", "", "", false)
def tyJxfd54e : Nat → FieldType := fun k => match k with
  | _ => .int
abbrev wsJxfd54e0 : List Cond := u_ws RJxfd54e TJxfd54e 0
theorem nmJxfd54e : ∀ a, a < 0 → ∀ b, b < 0 → a ≠ b → (TJxfd54e a).2.1 ≠ (TJxfd54e b).2.1 := by decide +kernel
theorem tyJxfd54e_ok : ∀ k, k < 0 → parseFieldDescriptor (TJxfd54e k).2.2.1 = some (tyJxfd54e k) := by decide +kernel
def RJx3cf43 : String := "java/lang/constant/ConstantDesc"
def TJx3cf43 : u_T := fun k => match k with
  | _ => ("", "", "", false)
def tyJx3cf43 : Nat → FieldType := fun k => match k with
  | _ => .int
abbrev wsJx3cf430 : List Cond := u_ws RJx3cf43 TJx3cf43 0
theorem nmJx3cf43 : ∀ a, a < 0 → ∀ b, b < 0 → a ≠ b → (TJx3cf43 a).2.1 ≠ (TJx3cf43 b).2.1 := by decide +kernel
theorem tyJx3cf43_ok : ∀ k, k < 0 → parseFieldDescriptor (TJx3cf43 k).2.2.1 = some (tyJx3cf43 k) := by decide +kernel
def RJ7 : String := "java/util/Arrays"
def TJ7 : u_T := fun k => match k with
  | _ => ("", "", "", false)
def tyJ7 : Nat → FieldType := fun k => match k with
  | _ => .int
abbrev wsJ70 : List Cond := u_ws RJ7 TJ7 0
theorem nmJ7 : ∀ a, a < 0 → ∀ b, b < 0 → a ≠ b → (TJ7 a).2.1 ≠ (TJ7 b).2.1 := by decide +kernel
theorem tyJ7_ok : ∀ k, k < 0 → parseFieldDescriptor (TJ7 k).2.2.1 = some (tyJ7 k) := by decide +kernel
abbrev cJ7_fill_d0a16 : ByteArray := prog_21_method_101_code
def yJ7_fill_d0a16 : MethodName := ⟨RJ7, "fill", "([JJ)V"⟩
abbrev cJ7_fill_53178 : ByteArray := prog_21_method_103_code
def yJ7_fill_53178 : MethodName := ⟨RJ7, "fill", "([II)V"⟩
def RJ3 : String := "jdk/internal/util/Preconditions"
def TJ3 : u_T := fun k => match k with
  | _ => ("", "", "", false)
def tyJ3 : Nat → FieldType := fun k => match k with
  | _ => .int
abbrev wsJ30 : List Cond := u_ws RJ3 TJ3 0
theorem nmJ3 : ∀ a, a < 0 → ∀ b, b < 0 → a ≠ b → (TJ3 a).2.1 ≠ (TJ3 b).2.1 := by decide +kernel
theorem tyJ3_ok : ∀ k, k < 0 → parseFieldDescriptor (TJ3 k).2.2.1 = some (tyJ3 k) := by decide +kernel
abbrev cJ3_checkIndex_8e157 : ByteArray := prog_22_method_11_code
def yJ3_checkIndex_8e157 : MethodName := ⟨RJ3, "checkIndex", "(IILjava/util/function/BiFunction;)I"⟩
def RL : String := "ElevenBullocksLaw"
abbrev cL_law : ByteArray := code
def yL_law : MethodName := ⟨RL, "law", "([I)Z"⟩
abbrev vwCl : List vw_C := [(RX0, TX0, 8), (RX1, TX1, 8), (RX2, TX2, 16), (RX3, TX3, 7), (RX4, TX4, 3), (RX5, TX5, 6), (RX6, TX6, 11), (RX7, TX7, 8), (RX8, TX8, 9), (RX9, TX9, 4), (RX10, TX10, 12), (RX11, TX11, 13), (RX12, TX12, 44)]
