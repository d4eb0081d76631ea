-- ===== PART A: goes FIRST, ahead of the names: the tables' words, and 'selects' of the private methods out of them =====
/-- a private method of a class that the tables say can be made, by its rows of tables_1 -/
def lw_okq (q : MethodName × Nat) : Prop := (q.1.cls ≠ "java/lang/invoke/MethodHandle" ∧ q.1.cls ≠ "java/lang/invoke/VarHandle") ∧ Cond.instantiable q.1.cls q.2 ∈ tables_1 ∧ Cond.privateMethod q.1 ∈ tables_1 ∧ Cond.instanceMethod q.1 ∈ tables_1
theorem lw_p0 : lw_okq (⟨"HueWar", "isOnTape", "(II)Z"⟩, 16) := ⟨⟨by decide +kernel, by decide +kernel⟩, List.mem_of_getElem? (i := 17) (by decide +kernel), List.mem_of_getElem? (i := 402) (by decide +kernel), List.mem_of_getElem? (i := 403) (by decide +kernel)⟩
theorem lw_p1 : lw_okq (⟨"HueWar$Law", "readClause", "()V"⟩, 10) := ⟨⟨by decide +kernel, by decide +kernel⟩, List.mem_of_getElem? (i := 86) (by decide +kernel), List.mem_of_getElem? (i := 417) (by decide +kernel), List.mem_of_getElem? (i := 418) (by decide +kernel)⟩
theorem lw_p2 : lw_okq (⟨"HueWar$Law", "readSum", "(I)V"⟩, 10) := ⟨⟨by decide +kernel, by decide +kernel⟩, List.mem_of_getElem? (i := 86) (by decide +kernel), List.mem_of_getElem? (i := 433) (by decide +kernel), List.mem_of_getElem? (i := 434) (by decide +kernel)⟩
theorem lw_p3 : lw_okq (⟨"HueWar$Law", "readProduct", "(I)V"⟩, 10) := ⟨⟨by decide +kernel, by decide +kernel⟩, List.mem_of_getElem? (i := 86) (by decide +kernel), List.mem_of_getElem? (i := 437) (by decide +kernel), List.mem_of_getElem? (i := 438) (by decide +kernel)⟩
theorem lw_p4 : lw_okq (⟨"HueWar$Law", "readFactor", "(I)V"⟩, 10) := ⟨⟨by decide +kernel, by decide +kernel⟩, List.mem_of_getElem? (i := 86) (by decide +kernel), List.mem_of_getElem? (i := 441) (by decide +kernel), List.mem_of_getElem? (i := 442) (by decide +kernel)⟩
theorem lw_p5 : lw_okq (⟨"HueWar$Law", "readNumber", "()V"⟩, 10) := ⟨⟨by decide +kernel, by decide +kernel⟩, List.mem_of_getElem? (i := 86) (by decide +kernel), List.mem_of_getElem? (i := 448) (by decide +kernel), List.mem_of_getElem? (i := 449) (by decide +kernel)⟩
theorem lw_p6 : lw_okq (⟨"HueWar$Law", "emit", "(II)I"⟩, 10) := ⟨⟨by decide +kernel, by decide +kernel⟩, List.mem_of_getElem? (i := 86) (by decide +kernel), List.mem_of_getElem? (i := 452) (by decide +kernel), List.mem_of_getElem? (i := 453) (by decide +kernel)⟩
theorem lw_p7 : lw_okq (⟨"HueWar$Law", "readEither", "(I)V"⟩, 10) := ⟨⟨by decide +kernel, by decide +kernel⟩, List.mem_of_getElem? (i := 86) (by decide +kernel), List.mem_of_getElem? (i := 468) (by decide +kernel), List.mem_of_getElem? (i := 469) (by decide +kernel)⟩
theorem lw_p8 : lw_okq (⟨"HueWar$Law", "readBoth", "(I)V"⟩, 10) := ⟨⟨by decide +kernel, by decide +kernel⟩, List.mem_of_getElem? (i := 86) (by decide +kernel), List.mem_of_getElem? (i := 472) (by decide +kernel), List.mem_of_getElem? (i := 473) (by decide +kernel)⟩
theorem lw_p9 : lw_okq (⟨"HueWar$Law", "readPiece", "(I)V"⟩, 10) := ⟨⟨by decide +kernel, by decide +kernel⟩, List.mem_of_getElem? (i := 86) (by decide +kernel), List.mem_of_getElem? (i := 476) (by decide +kernel), List.mem_of_getElem? (i := 477) (by decide +kernel)⟩
theorem lw_p10 : lw_okq (⟨"HueWar$Law", "leadHere", "(I)V"⟩, 10) := ⟨⟨by decide +kernel, by decide +kernel⟩, List.mem_of_getElem? (i := 86) (by decide +kernel), List.mem_of_getElem? (i := 480) (by decide +kernel), List.mem_of_getElem? (i := 481) (by decide +kernel)⟩
theorem lw_p11 : lw_okq (⟨"HueWar$Ground", "readRow", "(I)V"⟩, 4) := ⟨⟨by decide +kernel, by decide +kernel⟩, List.mem_of_getElem? (i := 67) (by decide +kernel), List.mem_of_getElem? (i := 517) (by decide +kernel), List.mem_of_getElem? (i := 518) (by decide +kernel)⟩
theorem lw_p12 : lw_okq (⟨"HueWar$Ground", "readFields", "(II)I"⟩, 4) := ⟨⟨by decide +kernel, by decide +kernel⟩, List.mem_of_getElem? (i := 67) (by decide +kernel), List.mem_of_getElem? (i := 528) (by decide +kernel), List.mem_of_getElem? (i := 529) (by decide +kernel)⟩
theorem lw_p13 : lw_okq (⟨"HueWar$Lines", "readLine", "()V"⟩, 7) := ⟨⟨by decide +kernel, by decide +kernel⟩, List.mem_of_getElem? (i := 123) (by decide +kernel), List.mem_of_getElem? (i := 552) (by decide +kernel), List.mem_of_getElem? (i := 553) (by decide +kernel)⟩
theorem lw_p14 : lw_okq (⟨"HueWar$Lines", "readColour", "()I"⟩, 7) := ⟨⟨by decide +kernel, by decide +kernel⟩, List.mem_of_getElem? (i := 123) (by decide +kernel), List.mem_of_getElem? (i := 559) (by decide +kernel), List.mem_of_getElem? (i := 560) (by decide +kernel)⟩
theorem lw_p15 : lw_okq (⟨"HueWar$Lines", "readQuarters", "()I"⟩, 7) := ⟨⟨by decide +kernel, by decide +kernel⟩, List.mem_of_getElem? (i := 123) (by decide +kernel), List.mem_of_getElem? (i := 573) (by decide +kernel), List.mem_of_getElem? (i := 574) (by decide +kernel)⟩
def lw_privs_1 : List (MethodName × Nat) := [(⟨"HueWar", "isOnTape", "(II)Z"⟩, 16), (⟨"HueWar$Law", "readClause", "()V"⟩, 10), (⟨"HueWar$Law", "readSum", "(I)V"⟩, 10), (⟨"HueWar$Law", "readProduct", "(I)V"⟩, 10), (⟨"HueWar$Law", "readFactor", "(I)V"⟩, 10), (⟨"HueWar$Law", "readNumber", "()V"⟩, 10), (⟨"HueWar$Law", "emit", "(II)I"⟩, 10), (⟨"HueWar$Law", "readEither", "(I)V"⟩, 10), (⟨"HueWar$Law", "readBoth", "(I)V"⟩, 10), (⟨"HueWar$Law", "readPiece", "(I)V"⟩, 10), (⟨"HueWar$Law", "leadHere", "(I)V"⟩, 10), (⟨"HueWar$Ground", "readRow", "(I)V"⟩, 4), (⟨"HueWar$Ground", "readFields", "(II)I"⟩, 4), (⟨"HueWar$Lines", "readLine", "()V"⟩, 7), (⟨"HueWar$Lines", "readColour", "()I"⟩, 7), (⟨"HueWar$Lines", "readQuarters", "()I"⟩, 7)]
theorem lw_r1 : ∀ q ∈ lw_privs_1, lw_okq q := List.forall_mem_cons.mpr ⟨lw_p0, List.forall_mem_cons.mpr ⟨lw_p1, List.forall_mem_cons.mpr ⟨lw_p2, List.forall_mem_cons.mpr ⟨lw_p3, List.forall_mem_cons.mpr ⟨lw_p4, List.forall_mem_cons.mpr ⟨lw_p5, List.forall_mem_cons.mpr ⟨lw_p6, List.forall_mem_cons.mpr ⟨lw_p7, List.forall_mem_cons.mpr ⟨lw_p8, List.forall_mem_cons.mpr ⟨lw_p9, List.forall_mem_cons.mpr ⟨lw_p10, List.forall_mem_cons.mpr ⟨lw_p11, List.forall_mem_cons.mpr ⟨lw_p12, List.forall_mem_cons.mpr ⟨lw_p13, List.forall_mem_cons.mpr ⟨lw_p14, List.forall_mem_cons.mpr ⟨lw_p15, fun _ h => absurd h List.not_mem_nil⟩⟩⟩⟩⟩⟩⟩⟩⟩⟩⟩⟩⟩⟩⟩⟩
theorem lw_p16 : lw_okq (⟨"HueWar$Lines", "readSign", "()I"⟩, 7) := ⟨⟨by decide +kernel, by decide +kernel⟩, List.mem_of_getElem? (i := 123) (by decide +kernel), List.mem_of_getElem? (i := 578) (by decide +kernel), List.mem_of_getElem? (i := 579) (by decide +kernel)⟩
theorem lw_p17 : lw_okq (⟨"HueWar$Lines", "readEmpire", "(I)I"⟩, 7) := ⟨⟨by decide +kernel, by decide +kernel⟩, List.mem_of_getElem? (i := 123) (by decide +kernel), List.mem_of_getElem? (i := 582) (by decide +kernel), List.mem_of_getElem? (i := 583) (by decide +kernel)⟩
theorem lw_p18 : lw_okq (⟨"HueWar", "isMade", "(LHueWar$State;I)Z"⟩, 16) := ⟨⟨by decide +kernel, by decide +kernel⟩, List.mem_of_getElem? (i := 17) (by decide +kernel), List.mem_of_getElem? (i := 595) (by decide +kernel), List.mem_of_getElem? (i := 596) (by decide +kernel)⟩
theorem lw_p19 : lw_okq (⟨"HueWar$State", "canGo", "(IIII)Z"⟩, 8) := ⟨⟨by decide +kernel, by decide +kernel⟩, List.mem_of_getElem? (i := 151) (by decide +kernel), List.mem_of_getElem? (i := 624) (by decide +kernel), List.mem_of_getElem? (i := 625) (by decide +kernel)⟩
theorem lw_p20 : lw_okq (⟨"HueWar$State", "move", "(IIII)V"⟩, 8) := ⟨⟨by decide +kernel, by decide +kernel⟩, List.mem_of_getElem? (i := 151) (by decide +kernel), List.mem_of_getElem? (i := 633) (by decide +kernel), List.mem_of_getElem? (i := 634) (by decide +kernel)⟩
theorem lw_p21 : lw_okq (⟨"HueWar$State", "goByOnce", "(LHueWar$Law;)I"⟩, 8) := ⟨⟨by decide +kernel, by decide +kernel⟩, List.mem_of_getElem? (i := 151) (by decide +kernel), List.mem_of_getElem? (i := 667) (by decide +kernel), List.mem_of_getElem? (i := 668) (by decide +kernel)⟩
theorem lw_p22 : lw_okq (⟨"HueWar$State", "chance", "(LHueWar$Law;I)I"⟩, 8) := ⟨⟨by decide +kernel, by decide +kernel⟩, List.mem_of_getElem? (i := 151) (by decide +kernel), List.mem_of_getElem? (i := 672) (by decide +kernel), List.mem_of_getElem? (i := 673) (by decide +kernel)⟩
theorem lw_p23 : lw_okq (⟨"HueWar$Law", "run", "(I)I"⟩, 10) := ⟨⟨by decide +kernel, by decide +kernel⟩, List.mem_of_getElem? (i := 86) (by decide +kernel), List.mem_of_getElem? (i := 710) (by decide +kernel), List.mem_of_getElem? (i := 711) (by decide +kernel)⟩
theorem lw_p24 : lw_okq (⟨"HueWar$State", "breakTreaty", "(I)V"⟩, 8) := ⟨⟨by decide +kernel, by decide +kernel⟩, List.mem_of_getElem? (i := 151) (by decide +kernel), List.mem_of_getElem? (i := 721) (by decide +kernel), List.mem_of_getElem? (i := 722) (by decide +kernel)⟩
theorem lw_p25 : lw_okq (⟨"HueWar", "isHidden", "(II)Z"⟩, 16) := ⟨⟨by decide +kernel, by decide +kernel⟩, List.mem_of_getElem? (i := 17) (by decide +kernel), List.mem_of_getElem? (i := 846) (by decide +kernel), List.mem_of_getElem? (i := 847) (by decide +kernel)⟩
theorem lw_p26 : lw_okq (⟨"HueWar$Paths", "forget", "()V"⟩, 6) := ⟨⟨by decide +kernel, by decide +kernel⟩, List.mem_of_getElem? (i := 260) (by decide +kernel), List.mem_of_getElem? (i := 868) (by decide +kernel), List.mem_of_getElem? (i := 869) (by decide +kernel)⟩
theorem lw_p27 : lw_okq (⟨"HueWar$Paths", "nearest", "()I"⟩, 6) := ⟨⟨by decide +kernel, by decide +kernel⟩, List.mem_of_getElem? (i := 260) (by decide +kernel), List.mem_of_getElem? (i := 873) (by decide +kernel), List.mem_of_getElem? (i := 874) (by decide +kernel)⟩
theorem lw_p28 : lw_okq (⟨"HueWar$Paths", "leave", "(I)V"⟩, 6) := ⟨⟨by decide +kernel, by decide +kernel⟩, List.mem_of_getElem? (i := 260) (by decide +kernel), List.mem_of_getElem? (i := 877) (by decide +kernel), List.mem_of_getElem? (i := 878) (by decide +kernel)⟩
theorem lw_p29 : lw_okq (⟨"HueWar$Paths", "fill", "(I)I"⟩, 6) := ⟨⟨by decide +kernel, by decide +kernel⟩, List.mem_of_getElem? (i := 260) (by decide +kernel), List.mem_of_getElem? (i := 909) (by decide +kernel), List.mem_of_getElem? (i := 910) (by decide +kernel)⟩
theorem lw_p30 : lw_okq (⟨"HueWar$Paths", "push", "(II)I"⟩, 6) := ⟨⟨by decide +kernel, by decide +kernel⟩, List.mem_of_getElem? (i := 260) (by decide +kernel), List.mem_of_getElem? (i := 913) (by decide +kernel), List.mem_of_getElem? (i := 914) (by decide +kernel)⟩
theorem lw_p31 : lw_okq (⟨"HueWar$Purse", "fieldsOf", "(II)I"⟩, 6) := ⟨⟨by decide +kernel, by decide +kernel⟩, List.mem_of_getElem? (i := 201) (by decide +kernel), List.mem_of_getElem? (i := 938) (by decide +kernel), List.mem_of_getElem? (i := 939) (by decide +kernel)⟩
def lw_privs_2 : List (MethodName × Nat) := [(⟨"HueWar$Lines", "readSign", "()I"⟩, 7), (⟨"HueWar$Lines", "readEmpire", "(I)I"⟩, 7), (⟨"HueWar", "isMade", "(LHueWar$State;I)Z"⟩, 16), (⟨"HueWar$State", "canGo", "(IIII)Z"⟩, 8), (⟨"HueWar$State", "move", "(IIII)V"⟩, 8), (⟨"HueWar$State", "goByOnce", "(LHueWar$Law;)I"⟩, 8), (⟨"HueWar$State", "chance", "(LHueWar$Law;I)I"⟩, 8), (⟨"HueWar$Law", "run", "(I)I"⟩, 10), (⟨"HueWar$State", "breakTreaty", "(I)V"⟩, 8), (⟨"HueWar", "isHidden", "(II)Z"⟩, 16), (⟨"HueWar$Paths", "forget", "()V"⟩, 6), (⟨"HueWar$Paths", "nearest", "()I"⟩, 6), (⟨"HueWar$Paths", "leave", "(I)V"⟩, 6), (⟨"HueWar$Paths", "fill", "(I)I"⟩, 6), (⟨"HueWar$Paths", "push", "(II)I"⟩, 6), (⟨"HueWar$Purse", "fieldsOf", "(II)I"⟩, 6)]
theorem lw_r2 : ∀ q ∈ lw_privs_2, lw_okq q := List.forall_mem_cons.mpr ⟨lw_p16, List.forall_mem_cons.mpr ⟨lw_p17, List.forall_mem_cons.mpr ⟨lw_p18, List.forall_mem_cons.mpr ⟨lw_p19, List.forall_mem_cons.mpr ⟨lw_p20, List.forall_mem_cons.mpr ⟨lw_p21, List.forall_mem_cons.mpr ⟨lw_p22, List.forall_mem_cons.mpr ⟨lw_p23, List.forall_mem_cons.mpr ⟨lw_p24, List.forall_mem_cons.mpr ⟨lw_p25, List.forall_mem_cons.mpr ⟨lw_p26, List.forall_mem_cons.mpr ⟨lw_p27, List.forall_mem_cons.mpr ⟨lw_p28, List.forall_mem_cons.mpr ⟨lw_p29, List.forall_mem_cons.mpr ⟨lw_p30, List.forall_mem_cons.mpr ⟨lw_p31, fun _ h => absurd h List.not_mem_nil⟩⟩⟩⟩⟩⟩⟩⟩⟩⟩⟩⟩⟩⟩⟩⟩
theorem lw_p32 : lw_okq (⟨"HueWar$Purse", "priceOf", "(IIIII)I"⟩, 6) := ⟨⟨by decide +kernel, by decide +kernel⟩, List.mem_of_getElem? (i := 201) (by decide +kernel), List.mem_of_getElem? (i := 947) (by decide +kernel), List.mem_of_getElem? (i := 948) (by decide +kernel)⟩
theorem lw_p33 : lw_okq (⟨"HueWar$Duel", "isChosen", "(I)Z"⟩, 9) := ⟨⟨by decide +kernel, by decide +kernel⟩, List.mem_of_getElem? (i := 226) (by decide +kernel), List.mem_of_getElem? (i := 1004) (by decide +kernel), List.mem_of_getElem? (i := 1005) (by decide +kernel)⟩
theorem lw_p34 : lw_okq (⟨"HueWar$Duel", "findTwos", "()V"⟩, 9) := ⟨⟨by decide +kernel, by decide +kernel⟩, List.mem_of_getElem? (i := 226) (by decide +kernel), List.mem_of_getElem? (i := 1015) (by decide +kernel), List.mem_of_getElem? (i := 1016) (by decide +kernel)⟩
theorem lw_p35 : lw_okq (⟨"HueWar$Duel", "isBestOfA", "(I)Z"⟩, 9) := ⟨⟨by decide +kernel, by decide +kernel⟩, List.mem_of_getElem? (i := 226) (by decide +kernel), List.mem_of_getElem? (i := 1019) (by decide +kernel), List.mem_of_getElem? (i := 1020) (by decide +kernel)⟩
theorem lw_p36 : lw_okq (⟨"HueWar$Duel", "isBestOfB", "(I)Z"⟩, 9) := ⟨⟨by decide +kernel, by decide +kernel⟩, List.mem_of_getElem? (i := 226) (by decide +kernel), List.mem_of_getElem? (i := 1023) (by decide +kernel), List.mem_of_getElem? (i := 1024) (by decide +kernel)⟩
theorem lw_p37 : lw_okq (⟨"HueWar", "findPartners", "(III)V"⟩, 16) := ⟨⟨by decide +kernel, by decide +kernel⟩, List.mem_of_getElem? (i := 17) (by decide +kernel), List.mem_of_getElem? (i := 1043) (by decide +kernel), List.mem_of_getElem? (i := 1044) (by decide +kernel)⟩
theorem lw_p38 : lw_okq (⟨"HueWar", "unlike", "(I)I"⟩, 16) := ⟨⟨by decide +kernel, by decide +kernel⟩, List.mem_of_getElem? (i := 17) (by decide +kernel), List.mem_of_getElem? (i := 1051) (by decide +kernel), List.mem_of_getElem? (i := 1052) (by decide +kernel)⟩
theorem lw_p39 : lw_okq (⟨"HueWar", "setsOf", "(I)I"⟩, 16) := ⟨⟨by decide +kernel, by decide +kernel⟩, List.mem_of_getElem? (i := 17) (by decide +kernel), List.mem_of_getElem? (i := 1059) (by decide +kernel), List.mem_of_getElem? (i := 1060) (by decide +kernel)⟩
theorem lw_p40 : lw_okq (⟨"HueWar", "isSignalSet", "(I)Z"⟩, 16) := ⟨⟨by decide +kernel, by decide +kernel⟩, List.mem_of_getElem? (i := 17) (by decide +kernel), List.mem_of_getElem? (i := 1063) (by decide +kernel), List.mem_of_getElem? (i := 1064) (by decide +kernel)⟩
theorem lw_p41 : lw_okq (⟨"HueWar", "firstSetOf", "(I)I"⟩, 16) := ⟨⟨by decide +kernel, by decide +kernel⟩, List.mem_of_getElem? (i := 17) (by decide +kernel), List.mem_of_getElem? (i := 1067) (by decide +kernel), List.mem_of_getElem? (i := 1068) (by decide +kernel)⟩
theorem lw_p42 : lw_okq (⟨"HueWar", "mostSignals", "()I"⟩, 16) := ⟨⟨by decide +kernel, by decide +kernel⟩, List.mem_of_getElem? (i := 17) (by decide +kernel), List.mem_of_getElem? (i := 1071) (by decide +kernel), List.mem_of_getElem? (i := 1072) (by decide +kernel)⟩
theorem lw_p43 : lw_okq (⟨"HueWar", "areThoughts", "(I)Z"⟩, 16) := ⟨⟨by decide +kernel, by decide +kernel⟩, List.mem_of_getElem? (i := 17) (by decide +kernel), List.mem_of_getElem? (i := 1079) (by decide +kernel), List.mem_of_getElem? (i := 1080) (by decide +kernel)⟩
theorem lw_p44 : lw_okq (⟨"HueWar", "fairestRow", "(I)I"⟩, 16) := ⟨⟨by decide +kernel, by decide +kernel⟩, List.mem_of_getElem? (i := 17) (by decide +kernel), List.mem_of_getElem? (i := 1084) (by decide +kernel), List.mem_of_getElem? (i := 1085) (by decide +kernel)⟩
theorem lw_p45 : lw_okq (⟨"HueWar", "leastOf", "(II)I"⟩, 16) := ⟨⟨by decide +kernel, by decide +kernel⟩, List.mem_of_getElem? (i := 17) (by decide +kernel), List.mem_of_getElem? (i := 1088) (by decide +kernel), List.mem_of_getElem? (i := 1089) (by decide +kernel)⟩
theorem lw_p46 : lw_okq (⟨"HueWar", "thoughtOf", "(IIII)I"⟩, 16) := ⟨⟨by decide +kernel, by decide +kernel⟩, List.mem_of_getElem? (i := 17) (by decide +kernel), List.mem_of_getElem? (i := 1092) (by decide +kernel), List.mem_of_getElem? (i := 1093) (by decide +kernel)⟩
theorem lw_p47 : lw_okq (⟨"HueWar", "envyOf", "(II)I"⟩, 16) := ⟨⟨by decide +kernel, by decide +kernel⟩, List.mem_of_getElem? (i := 17) (by decide +kernel), List.mem_of_getElem? (i := 1100) (by decide +kernel), List.mem_of_getElem? (i := 1101) (by decide +kernel)⟩
def lw_privs_3 : List (MethodName × Nat) := [(⟨"HueWar$Purse", "priceOf", "(IIIII)I"⟩, 6), (⟨"HueWar$Duel", "isChosen", "(I)Z"⟩, 9), (⟨"HueWar$Duel", "findTwos", "()V"⟩, 9), (⟨"HueWar$Duel", "isBestOfA", "(I)Z"⟩, 9), (⟨"HueWar$Duel", "isBestOfB", "(I)Z"⟩, 9), (⟨"HueWar", "findPartners", "(III)V"⟩, 16), (⟨"HueWar", "unlike", "(I)I"⟩, 16), (⟨"HueWar", "setsOf", "(I)I"⟩, 16), (⟨"HueWar", "isSignalSet", "(I)Z"⟩, 16), (⟨"HueWar", "firstSetOf", "(I)I"⟩, 16), (⟨"HueWar", "mostSignals", "()I"⟩, 16), (⟨"HueWar", "areThoughts", "(I)Z"⟩, 16), (⟨"HueWar", "fairestRow", "(I)I"⟩, 16), (⟨"HueWar", "leastOf", "(II)I"⟩, 16), (⟨"HueWar", "thoughtOf", "(IIII)I"⟩, 16), (⟨"HueWar", "envyOf", "(II)I"⟩, 16)]
theorem lw_r3 : ∀ q ∈ lw_privs_3, lw_okq q := List.forall_mem_cons.mpr ⟨lw_p32, List.forall_mem_cons.mpr ⟨lw_p33, List.forall_mem_cons.mpr ⟨lw_p34, List.forall_mem_cons.mpr ⟨lw_p35, List.forall_mem_cons.mpr ⟨lw_p36, List.forall_mem_cons.mpr ⟨lw_p37, List.forall_mem_cons.mpr ⟨lw_p38, List.forall_mem_cons.mpr ⟨lw_p39, List.forall_mem_cons.mpr ⟨lw_p40, List.forall_mem_cons.mpr ⟨lw_p41, List.forall_mem_cons.mpr ⟨lw_p42, List.forall_mem_cons.mpr ⟨lw_p43, List.forall_mem_cons.mpr ⟨lw_p44, List.forall_mem_cons.mpr ⟨lw_p45, List.forall_mem_cons.mpr ⟨lw_p46, List.forall_mem_cons.mpr ⟨lw_p47, fun _ h => absurd h List.not_mem_nil⟩⟩⟩⟩⟩⟩⟩⟩⟩⟩⟩⟩⟩⟩⟩⟩
theorem lw_p48 : lw_okq (⟨"HueWar", "envies", "(IIII)Z"⟩, 16) := ⟨⟨by decide +kernel, by decide +kernel⟩, List.mem_of_getElem? (i := 17) (by decide +kernel), List.mem_of_getElem? (i := 1104) (by decide +kernel), List.mem_of_getElem? (i := 1105) (by decide +kernel)⟩
theorem lw_p49 : lw_okq (⟨"HueWar", "areShown", "(I)Z"⟩, 16) := ⟨⟨by decide +kernel, by decide +kernel⟩, List.mem_of_getElem? (i := 17) (by decide +kernel), List.mem_of_getElem? (i := 1112) (by decide +kernel), List.mem_of_getElem? (i := 1113) (by decide +kernel)⟩
theorem lw_p50 : lw_okq (⟨"HueWar", "findBright", "()V"⟩, 16) := ⟨⟨by decide +kernel, by decide +kernel⟩, List.mem_of_getElem? (i := 17) (by decide +kernel), List.mem_of_getElem? (i := 1116) (by decide +kernel), List.mem_of_getElem? (i := 1117) (by decide +kernel)⟩
theorem lw_p51 : lw_okq (⟨"HueWar", "fitting", "(I)I"⟩, 16) := ⟨⟨by decide +kernel, by decide +kernel⟩, List.mem_of_getElem? (i := 17) (by decide +kernel), List.mem_of_getElem? (i := 1120) (by decide +kernel), List.mem_of_getElem? (i := 1121) (by decide +kernel)⟩
theorem lw_p52 : lw_okq (⟨"HueWar", "fits", "(II)Z"⟩, 16) := ⟨⟨by decide +kernel, by decide +kernel⟩, List.mem_of_getElem? (i := 17) (by decide +kernel), List.mem_of_getElem? (i := 1124) (by decide +kernel), List.mem_of_getElem? (i := 1125) (by decide +kernel)⟩
theorem lw_p53 : lw_okq (⟨"HueWar", "bestShown", "(I)I"⟩, 16) := ⟨⟨by decide +kernel, by decide +kernel⟩, List.mem_of_getElem? (i := 17) (by decide +kernel), List.mem_of_getElem? (i := 1128) (by decide +kernel), List.mem_of_getElem? (i := 1129) (by decide +kernel)⟩
theorem lw_p54 : lw_okq (⟨"HueWar", "greaterPart", "(III)I"⟩, 16) := ⟨⟨by decide +kernel, by decide +kernel⟩, List.mem_of_getElem? (i := 17) (by decide +kernel), List.mem_of_getElem? (i := 1132) (by decide +kernel), List.mem_of_getElem? (i := 1133) (by decide +kernel)⟩
theorem lw_p55 : lw_okq (⟨"HueWarModel", "isColour", "(I)Z"⟩, 68) := ⟨⟨by decide +kernel, by decide +kernel⟩, List.mem_of_getElem? (i := 1154) (by decide +kernel), List.mem_of_getElem? (i := 1373) (by decide +kernel), List.mem_of_getElem? (i := 1374) (by decide +kernel)⟩
theorem lw_p56 : lw_okq (⟨"HueWarModel", "isPlain", "(I)Z"⟩, 68) := ⟨⟨by decide +kernel, by decide +kernel⟩, List.mem_of_getElem? (i := 1154) (by decide +kernel), List.mem_of_getElem? (i := 1384) (by decide +kernel), List.mem_of_getElem? (i := 1385) (by decide +kernel)⟩
theorem lw_p57 : lw_okq (⟨"HueWarModel", "types", "(I)V"⟩, 68) := ⟨⟨by decide +kernel, by decide +kernel⟩, List.mem_of_getElem? (i := 1154) (by decide +kernel), List.mem_of_getElem? (i := 1399) (by decide +kernel), List.mem_of_getElem? (i := 1400) (by decide +kernel)⟩
theorem lw_p58 : lw_okq (⟨"HueWarModel", "readsClause", "()Z"⟩, 68) := ⟨⟨by decide +kernel, by decide +kernel⟩, List.mem_of_getElem? (i := 1154) (by decide +kernel), List.mem_of_getElem? (i := 1407) (by decide +kernel), List.mem_of_getElem? (i := 1408) (by decide +kernel)⟩
theorem lw_p59 : lw_okq (⟨"HueWarModel", "here", "()I"⟩, 68) := ⟨⟨by decide +kernel, by decide +kernel⟩, List.mem_of_getElem? (i := 1154) (by decide +kernel), List.mem_of_getElem? (i := 1411) (by decide +kernel), List.mem_of_getElem? (i := 1412) (by decide +kernel)⟩
theorem lw_p60 : lw_okq (⟨"HueWarModel", "wrongAt", "(II)Z"⟩, 68) := ⟨⟨by decide +kernel, by decide +kernel⟩, List.mem_of_getElem? (i := 1154) (by decide +kernel), List.mem_of_getElem? (i := 1418) (by decide +kernel), List.mem_of_getElem? (i := 1419) (by decide +kernel)⟩
theorem lw_p61 : lw_okq (⟨"HueWarModel", "readsSum", "()Z"⟩, 68) := ⟨⟨by decide +kernel, by decide +kernel⟩, List.mem_of_getElem? (i := 1154) (by decide +kernel), List.mem_of_getElem? (i := 1422) (by decide +kernel), List.mem_of_getElem? (i := 1423) (by decide +kernel)⟩
theorem lw_p62 : lw_okq (⟨"HueWarModel", "readsFactor", "()Z"⟩, 68) := ⟨⟨by decide +kernel, by decide +kernel⟩, List.mem_of_getElem? (i := 1154) (by decide +kernel), List.mem_of_getElem? (i := 1426) (by decide +kernel), List.mem_of_getElem? (i := 1427) (by decide +kernel)⟩
theorem lw_p63 : lw_okq (⟨"HueWarModel", "opens", "(I)Z"⟩, 68) := ⟨⟨by decide +kernel, by decide +kernel⟩, List.mem_of_getElem? (i := 1154) (by decide +kernel), List.mem_of_getElem? (i := 1430) (by decide +kernel), List.mem_of_getElem? (i := 1431) (by decide +kernel)⟩
def lw_privs_4 : List (MethodName × Nat) := [(⟨"HueWar", "envies", "(IIII)Z"⟩, 16), (⟨"HueWar", "areShown", "(I)Z"⟩, 16), (⟨"HueWar", "findBright", "()V"⟩, 16), (⟨"HueWar", "fitting", "(I)I"⟩, 16), (⟨"HueWar", "fits", "(II)Z"⟩, 16), (⟨"HueWar", "bestShown", "(I)I"⟩, 16), (⟨"HueWar", "greaterPart", "(III)I"⟩, 16), (⟨"HueWarModel", "isColour", "(I)Z"⟩, 68), (⟨"HueWarModel", "isPlain", "(I)Z"⟩, 68), (⟨"HueWarModel", "types", "(I)V"⟩, 68), (⟨"HueWarModel", "readsClause", "()Z"⟩, 68), (⟨"HueWarModel", "here", "()I"⟩, 68), (⟨"HueWarModel", "wrongAt", "(II)Z"⟩, 68), (⟨"HueWarModel", "readsSum", "()Z"⟩, 68), (⟨"HueWarModel", "readsFactor", "()Z"⟩, 68), (⟨"HueWarModel", "opens", "(I)Z"⟩, 68)]
theorem lw_r4 : ∀ q ∈ lw_privs_4, lw_okq q := List.forall_mem_cons.mpr ⟨lw_p48, List.forall_mem_cons.mpr ⟨lw_p49, List.forall_mem_cons.mpr ⟨lw_p50, List.forall_mem_cons.mpr ⟨lw_p51, List.forall_mem_cons.mpr ⟨lw_p52, List.forall_mem_cons.mpr ⟨lw_p53, List.forall_mem_cons.mpr ⟨lw_p54, List.forall_mem_cons.mpr ⟨lw_p55, List.forall_mem_cons.mpr ⟨lw_p56, List.forall_mem_cons.mpr ⟨lw_p57, List.forall_mem_cons.mpr ⟨lw_p58, List.forall_mem_cons.mpr ⟨lw_p59, List.forall_mem_cons.mpr ⟨lw_p60, List.forall_mem_cons.mpr ⟨lw_p61, List.forall_mem_cons.mpr ⟨lw_p62, List.forall_mem_cons.mpr ⟨lw_p63, fun _ h => absurd h List.not_mem_nil⟩⟩⟩⟩⟩⟩⟩⟩⟩⟩⟩⟩⟩⟩⟩⟩
theorem lw_p64 : lw_okq (⟨"HueWarModel", "isDigit", "()Z"⟩, 68) := ⟨⟨by decide +kernel, by decide +kernel⟩, List.mem_of_getElem? (i := 1154) (by decide +kernel), List.mem_of_getElem? (i := 1435) (by decide +kernel), List.mem_of_getElem? (i := 1436) (by decide +kernel)⟩
theorem lw_p65 : lw_okq (⟨"HueWarModel", "readsNumber", "()Z"⟩, 68) := ⟨⟨by decide +kernel, by decide +kernel⟩, List.mem_of_getElem? (i := 1154) (by decide +kernel), List.mem_of_getElem? (i := 1439) (by decide +kernel), List.mem_of_getElem? (i := 1440) (by decide +kernel)⟩
theorem lw_p66 : lw_okq (⟨"HueWarModel", "notes", "(II)V"⟩, 68) := ⟨⟨by decide +kernel, by decide +kernel⟩, List.mem_of_getElem? (i := 1154) (by decide +kernel), List.mem_of_getElem? (i := 1443) (by decide +kernel), List.mem_of_getElem? (i := 1444) (by decide +kernel)⟩
theorem lw_p67 : lw_okq (⟨"HueWarModel", "closesSums", "(Z)V"⟩, 68) := ⟨⟨by decide +kernel, by decide +kernel⟩, List.mem_of_getElem? (i := 1154) (by decide +kernel), List.mem_of_getElem? (i := 1453) (by decide +kernel), List.mem_of_getElem? (i := 1454) (by decide +kernel)⟩
theorem lw_p68 : lw_okq (⟨"HueWarModel", "waitTop", "()I"⟩, 68) := ⟨⟨by decide +kernel, by decide +kernel⟩, List.mem_of_getElem? (i := 1154) (by decide +kernel), List.mem_of_getElem? (i := 1457) (by decide +kernel), List.mem_of_getElem? (i := 1458) (by decide +kernel)⟩
theorem lw_p69 : lw_okq (⟨"HueWarModel", "hasOpenSum", "(I)Z"⟩, 68) := ⟨⟨by decide +kernel, by decide +kernel⟩, List.mem_of_getElem? (i := 1154) (by decide +kernel), List.mem_of_getElem? (i := 1461) (by decide +kernel), List.mem_of_getElem? (i := 1462) (by decide +kernel)⟩
theorem lw_p70 : lw_okq (⟨"HueWarModel", "readsCondition", "()Z"⟩, 68) := ⟨⟨by decide +kernel, by decide +kernel⟩, List.mem_of_getElem? (i := 1154) (by decide +kernel), List.mem_of_getElem? (i := 1465) (by decide +kernel), List.mem_of_getElem? (i := 1466) (by decide +kernel)⟩
theorem lw_p71 : lw_okq (⟨"HueWarModel", "readsCompared", "()Z"⟩, 68) := ⟨⟨by decide +kernel, by decide +kernel⟩, List.mem_of_getElem? (i := 1154) (by decide +kernel), List.mem_of_getElem? (i := 1469) (by decide +kernel), List.mem_of_getElem? (i := 1470) (by decide +kernel)⟩
theorem lw_p72 : lw_okq (⟨"HueWarModel", "endsPiece", "()V"⟩, 68) := ⟨⟨by decide +kernel, by decide +kernel⟩, List.mem_of_getElem? (i := 1154) (by decide +kernel), List.mem_of_getElem? (i := 1473) (by decide +kernel), List.mem_of_getElem? (i := 1474) (by decide +kernel)⟩
theorem lw_p73 : lw_okq (⟨"HueWarModel", "lands", "(Z)V"⟩, 68) := ⟨⟨by decide +kernel, by decide +kernel⟩, List.mem_of_getElem? (i := 1154) (by decide +kernel), List.mem_of_getElem? (i := 1477) (by decide +kernel), List.mem_of_getElem? (i := 1478) (by decide +kernel)⟩
theorem lw_p74 : lw_okq (⟨"HueWarModel", "jumps", "(I)V"⟩, 68) := ⟨⟨by decide +kernel, by decide +kernel⟩, List.mem_of_getElem? (i := 1154) (by decide +kernel), List.mem_of_getElem? (i := 1481) (by decide +kernel), List.mem_of_getElem? (i := 1482) (by decide +kernel)⟩
theorem lw_p75 : lw_okq (⟨"HueWarModel", "takes", "(I)Z"⟩, 68) := ⟨⟨by decide +kernel, by decide +kernel⟩, List.mem_of_getElem? (i := 1154) (by decide +kernel), List.mem_of_getElem? (i := 1485) (by decide +kernel), List.mem_of_getElem? (i := 1486) (by decide +kernel)⟩
theorem lw_p76 : lw_okq (⟨"HueWarModel", "seenBy", "(II)I"⟩, 68) := ⟨⟨by decide +kernel, by decide +kernel⟩, List.mem_of_getElem? (i := 1154) (by decide +kernel), List.mem_of_getElem? (i := 1496) (by decide +kernel), List.mem_of_getElem? (i := 1497) (by decide +kernel)⟩
theorem lw_p77 : lw_okq (⟨"HueWarModel", "isSeen", "(IIII)Z"⟩, 68) := ⟨⟨by decide +kernel, by decide +kernel⟩, List.mem_of_getElem? (i := 1154) (by decide +kernel), List.mem_of_getElem? (i := 1500) (by decide +kernel), List.mem_of_getElem? (i := 1501) (by decide +kernel)⟩
theorem lw_p78 : lw_okq (⟨"HueWarModel", "isMixed", "(I)Z"⟩, 68) := ⟨⟨by decide +kernel, by decide +kernel⟩, List.mem_of_getElem? (i := 1154) (by decide +kernel), List.mem_of_getElem? (i := 1504) (by decide +kernel), List.mem_of_getElem? (i := 1505) (by decide +kernel)⟩
theorem lw_p79 : lw_okq (⟨"HueWarModel", "feels", "(III)V"⟩, 68) := ⟨⟨by decide +kernel, by decide +kernel⟩, List.mem_of_getElem? (i := 1154) (by decide +kernel), List.mem_of_getElem? (i := 1508) (by decide +kernel), List.mem_of_getElem? (i := 1509) (by decide +kernel)⟩
def lw_privs_5 : List (MethodName × Nat) := [(⟨"HueWarModel", "isDigit", "()Z"⟩, 68), (⟨"HueWarModel", "readsNumber", "()Z"⟩, 68), (⟨"HueWarModel", "notes", "(II)V"⟩, 68), (⟨"HueWarModel", "closesSums", "(Z)V"⟩, 68), (⟨"HueWarModel", "waitTop", "()I"⟩, 68), (⟨"HueWarModel", "hasOpenSum", "(I)Z"⟩, 68), (⟨"HueWarModel", "readsCondition", "()Z"⟩, 68), (⟨"HueWarModel", "readsCompared", "()Z"⟩, 68), (⟨"HueWarModel", "endsPiece", "()V"⟩, 68), (⟨"HueWarModel", "lands", "(Z)V"⟩, 68), (⟨"HueWarModel", "jumps", "(I)V"⟩, 68), (⟨"HueWarModel", "takes", "(I)Z"⟩, 68), (⟨"HueWarModel", "seenBy", "(II)I"⟩, 68), (⟨"HueWarModel", "isSeen", "(IIII)Z"⟩, 68), (⟨"HueWarModel", "isMixed", "(I)Z"⟩, 68), (⟨"HueWarModel", "feels", "(III)V"⟩, 68)]
theorem lw_r5 : ∀ q ∈ lw_privs_5, lw_okq q := List.forall_mem_cons.mpr ⟨lw_p64, List.forall_mem_cons.mpr ⟨lw_p65, List.forall_mem_cons.mpr ⟨lw_p66, List.forall_mem_cons.mpr ⟨lw_p67, List.forall_mem_cons.mpr ⟨lw_p68, List.forall_mem_cons.mpr ⟨lw_p69, List.forall_mem_cons.mpr ⟨lw_p70, List.forall_mem_cons.mpr ⟨lw_p71, List.forall_mem_cons.mpr ⟨lw_p72, List.forall_mem_cons.mpr ⟨lw_p73, List.forall_mem_cons.mpr ⟨lw_p74, List.forall_mem_cons.mpr ⟨lw_p75, List.forall_mem_cons.mpr ⟨lw_p76, List.forall_mem_cons.mpr ⟨lw_p77, List.forall_mem_cons.mpr ⟨lw_p78, List.forall_mem_cons.mpr ⟨lw_p79, fun _ h => absurd h List.not_mem_nil⟩⟩⟩⟩⟩⟩⟩⟩⟩⟩⟩⟩⟩⟩⟩⟩
theorem lw_p80 : lw_okq (⟨"HueWarModel", "holds", "(IZ)Z"⟩, 68) := ⟨⟨by decide +kernel, by decide +kernel⟩, List.mem_of_getElem? (i := 1154) (by decide +kernel), List.mem_of_getElem? (i := 1515) (by decide +kernel), List.mem_of_getElem? (i := 1516) (by decide +kernel)⟩
theorem lw_p81 : lw_okq (⟨"HueWarModel", "comesTo", "(II)I"⟩, 68) := ⟨⟨by decide +kernel, by decide +kernel⟩, List.mem_of_getElem? (i := 1154) (by decide +kernel), List.mem_of_getElem? (i := 1519) (by decide +kernel), List.mem_of_getElem? (i := 1520) (by decide +kernel)⟩
theorem lw_p82 : lw_okq (⟨"HueWarModel", "laysAs", "(II)V"⟩, 68) := ⟨⟨by decide +kernel, by decide +kernel⟩, List.mem_of_getElem? (i := 1154) (by decide +kernel), List.mem_of_getElem? (i := 1530) (by decide +kernel), List.mem_of_getElem? (i := 1531) (by decide +kernel)⟩
theorem lw_p83 : lw_okq (⟨"HueWarModel", "readsLines", "(I)Z"⟩, 68) := ⟨⟨by decide +kernel, by decide +kernel⟩, List.mem_of_getElem? (i := 1154) (by decide +kernel), List.mem_of_getElem? (i := 1542) (by decide +kernel), List.mem_of_getElem? (i := 1543) (by decide +kernel)⟩
theorem lw_p84 : lw_okq (⟨"HueWarModel", "readsLine", "()Z"⟩, 68) := ⟨⟨by decide +kernel, by decide +kernel⟩, List.mem_of_getElem? (i := 1154) (by decide +kernel), List.mem_of_getElem? (i := 1546) (by decide +kernel), List.mem_of_getElem? (i := 1547) (by decide +kernel)⟩
theorem lw_p85 : lw_okq (⟨"HueWarModel", "readsColour", "()Z"⟩, 68) := ⟨⟨by decide +kernel, by decide +kernel⟩, List.mem_of_getElem? (i := 1154) (by decide +kernel), List.mem_of_getElem? (i := 1550) (by decide +kernel), List.mem_of_getElem? (i := 1551) (by decide +kernel)⟩
theorem lw_p86 : lw_okq (⟨"HueWarModel", "readsQuarters", "()Z"⟩, 68) := ⟨⟨by decide +kernel, by decide +kernel⟩, List.mem_of_getElem? (i := 1154) (by decide +kernel), List.mem_of_getElem? (i := 1554) (by decide +kernel), List.mem_of_getElem? (i := 1555) (by decide +kernel)⟩
theorem lw_p87 : lw_okq (⟨"HueWarModel", "readsEmpire", "(I)Z"⟩, 68) := ⟨⟨by decide +kernel, by decide +kernel⟩, List.mem_of_getElem? (i := 1154) (by decide +kernel), List.mem_of_getElem? (i := 1558) (by decide +kernel), List.mem_of_getElem? (i := 1559) (by decide +kernel)⟩
theorem lw_p88 : lw_okq (⟨"HueWarModel", "makes", "(I)Z"⟩, 68) := ⟨⟨by decide +kernel, by decide +kernel⟩, List.mem_of_getElem? (i := 1154) (by decide +kernel), List.mem_of_getElem? (i := 1562) (by decide +kernel), List.mem_of_getElem? (i := 1563) (by decide +kernel)⟩
theorem lw_p89 : lw_okq (⟨"HueWarModel", "canBe", "(I)Z"⟩, 68) := ⟨⟨by decide +kernel, by decide +kernel⟩, List.mem_of_getElem? (i := 1154) (by decide +kernel), List.mem_of_getElem? (i := 1566) (by decide +kernel), List.mem_of_getElem? (i := 1567) (by decide +kernel)⟩
theorem lw_p90 : lw_okq (⟨"HueWarModel", "changes", "(IIIZ)V"⟩, 68) := ⟨⟨by decide +kernel, by decide +kernel⟩, List.mem_of_getElem? (i := 1154) (by decide +kernel), List.mem_of_getElem? (i := 1570) (by decide +kernel), List.mem_of_getElem? (i := 1571) (by decide +kernel)⟩
theorem lw_p91 : lw_okq (⟨"HueWarModel", "begins", "()V"⟩, 68) := ⟨⟨by decide +kernel, by decide +kernel⟩, List.mem_of_getElem? (i := 1154) (by decide +kernel), List.mem_of_getElem? (i := 1578) (by decide +kernel), List.mem_of_getElem? (i := 1579) (by decide +kernel)⟩
theorem lw_p92 : lw_okq (⟨"HueWarModel", "packs", "([I)V"⟩, 68) := ⟨⟨by decide +kernel, by decide +kernel⟩, List.mem_of_getElem? (i := 1154) (by decide +kernel), List.mem_of_getElem? (i := 1585) (by decide +kernel), List.mem_of_getElem? (i := 1586) (by decide +kernel)⟩
theorem lw_p93 : lw_okq (⟨"HueWarModel", "again", "()V"⟩, 68) := ⟨⟨by decide +kernel, by decide +kernel⟩, List.mem_of_getElem? (i := 1154) (by decide +kernel), List.mem_of_getElem? (i := 1589) (by decide +kernel), List.mem_of_getElem? (i := 1590) (by decide +kernel)⟩
theorem lw_p94 : lw_okq (⟨"HueWarModel", "unpacks", "([I)V"⟩, 68) := ⟨⟨by decide +kernel, by decide +kernel⟩, List.mem_of_getElem? (i := 1154) (by decide +kernel), List.mem_of_getElem? (i := 1593) (by decide +kernel), List.mem_of_getElem? (i := 1594) (by decide +kernel)⟩
theorem lw_p95 : lw_okq (⟨"HueWarModel", "daysGo", "(I)V"⟩, 68) := ⟨⟨by decide +kernel, by decide +kernel⟩, List.mem_of_getElem? (i := 1154) (by decide +kernel), List.mem_of_getElem? (i := 1605) (by decide +kernel), List.mem_of_getElem? (i := 1606) (by decide +kernel)⟩
def lw_privs_6 : List (MethodName × Nat) := [(⟨"HueWarModel", "holds", "(IZ)Z"⟩, 68), (⟨"HueWarModel", "comesTo", "(II)I"⟩, 68), (⟨"HueWarModel", "laysAs", "(II)V"⟩, 68), (⟨"HueWarModel", "readsLines", "(I)Z"⟩, 68), (⟨"HueWarModel", "readsLine", "()Z"⟩, 68), (⟨"HueWarModel", "readsColour", "()Z"⟩, 68), (⟨"HueWarModel", "readsQuarters", "()Z"⟩, 68), (⟨"HueWarModel", "readsEmpire", "(I)Z"⟩, 68), (⟨"HueWarModel", "makes", "(I)Z"⟩, 68), (⟨"HueWarModel", "canBe", "(I)Z"⟩, 68), (⟨"HueWarModel", "changes", "(IIIZ)V"⟩, 68), (⟨"HueWarModel", "begins", "()V"⟩, 68), (⟨"HueWarModel", "packs", "([I)V"⟩, 68), (⟨"HueWarModel", "again", "()V"⟩, 68), (⟨"HueWarModel", "unpacks", "([I)V"⟩, 68), (⟨"HueWarModel", "daysGo", "(I)V"⟩, 68)]
theorem lw_r6 : ∀ q ∈ lw_privs_6, lw_okq q := List.forall_mem_cons.mpr ⟨lw_p80, List.forall_mem_cons.mpr ⟨lw_p81, List.forall_mem_cons.mpr ⟨lw_p82, List.forall_mem_cons.mpr ⟨lw_p83, List.forall_mem_cons.mpr ⟨lw_p84, List.forall_mem_cons.mpr ⟨lw_p85, List.forall_mem_cons.mpr ⟨lw_p86, List.forall_mem_cons.mpr ⟨lw_p87, List.forall_mem_cons.mpr ⟨lw_p88, List.forall_mem_cons.mpr ⟨lw_p89, List.forall_mem_cons.mpr ⟨lw_p90, List.forall_mem_cons.mpr ⟨lw_p91, List.forall_mem_cons.mpr ⟨lw_p92, List.forall_mem_cons.mpr ⟨lw_p93, List.forall_mem_cons.mpr ⟨lw_p94, List.forall_mem_cons.mpr ⟨lw_p95, fun _ h => absurd h List.not_mem_nil⟩⟩⟩⟩⟩⟩⟩⟩⟩⟩⟩⟩⟩⟩⟩⟩
theorem lw_p96 : lw_okq (⟨"HueWarModel", "breaksBy", "(I)I"⟩, 68) := ⟨⟨by decide +kernel, by decide +kernel⟩, List.mem_of_getElem? (i := 1154) (by decide +kernel), List.mem_of_getElem? (i := 1610) (by decide +kernel), List.mem_of_getElem? (i := 1611) (by decide +kernel)⟩
theorem lw_p97 : lw_okq (⟨"HueWarModel", "byLaw", "(II)I"⟩, 68) := ⟨⟨by decide +kernel, by decide +kernel⟩, List.mem_of_getElem? (i := 1154) (by decide +kernel), List.mem_of_getElem? (i := 1617) (by decide +kernel), List.mem_of_getElem? (i := 1618) (by decide +kernel)⟩
theorem lw_p98 : lw_okq (⟨"HueWarModel", "ends", "(I)V"⟩, 68) := ⟨⟨by decide +kernel, by decide +kernel⟩, List.mem_of_getElem? (i := 1154) (by decide +kernel), List.mem_of_getElem? (i := 1621) (by decide +kernel), List.mem_of_getElem? (i := 1622) (by decide +kernel)⟩
theorem lw_p99 : lw_okq (⟨"HueWarModel", "hadAll", "(I)I"⟩, 68) := ⟨⟨by decide +kernel, by decide +kernel⟩, List.mem_of_getElem? (i := 1154) (by decide +kernel), List.mem_of_getElem? (i := 1629) (by decide +kernel), List.mem_of_getElem? (i := 1630) (by decide +kernel)⟩
theorem lw_p100 : lw_okq (⟨"HueWarModel", "readsRow", "(I)Z"⟩, 68) := ⟨⟨by decide +kernel, by decide +kernel⟩, List.mem_of_getElem? (i := 1154) (by decide +kernel), List.mem_of_getElem? (i := 1637) (by decide +kernel), List.mem_of_getElem? (i := 1638) (by decide +kernel)⟩
theorem lw_p101 : lw_okq (⟨"HueWarModel", "isUnseen", "(II)Z"⟩, 68) := ⟨⟨by decide +kernel, by decide +kernel⟩, List.mem_of_getElem? (i := 1154) (by decide +kernel), List.mem_of_getElem? (i := 1645) (by decide +kernel), List.mem_of_getElem? (i := 1646) (by decide +kernel)⟩
theorem lw_p102 : lw_okq (⟨"HueWarModel", "laysCosts", "(IIZ)V"⟩, 68) := ⟨⟨by decide +kernel, by decide +kernel⟩, List.mem_of_getElem? (i := 1154) (by decide +kernel), List.mem_of_getElem? (i := 1653) (by decide +kernel), List.mem_of_getElem? (i := 1654) (by decide +kernel)⟩
theorem lw_p103 : lw_okq (⟨"HueWarModel", "beside", "(II)I"⟩, 68) := ⟨⟨by decide +kernel, by decide +kernel⟩, List.mem_of_getElem? (i := 1154) (by decide +kernel), List.mem_of_getElem? (i := 1658) (by decide +kernel), List.mem_of_getElem? (i := 1659) (by decide +kernel)⟩
theorem lw_p104 : lw_okq (⟨"HueWarModel", "worthOf", "(II)I"⟩, 68) := ⟨⟨by decide +kernel, by decide +kernel⟩, List.mem_of_getElem? (i := 1154) (by decide +kernel), List.mem_of_getElem? (i := 1666) (by decide +kernel), List.mem_of_getElem? (i := 1667) (by decide +kernel)⟩
theorem lw_p105 : lw_okq (⟨"HueWarModel", "ownedOf", "(II)I"⟩, 68) := ⟨⟨by decide +kernel, by decide +kernel⟩, List.mem_of_getElem? (i := 1154) (by decide +kernel), List.mem_of_getElem? (i := 1670) (by decide +kernel), List.mem_of_getElem? (i := 1671) (by decide +kernel)⟩
theorem lw_p106 : lw_okq (⟨"HueWarModel", "worthWith", "(III)I"⟩, 68) := ⟨⟨by decide +kernel, by decide +kernel⟩, List.mem_of_getElem? (i := 1154) (by decide +kernel), List.mem_of_getElem? (i := 1686) (by decide +kernel), List.mem_of_getElem? (i := 1687) (by decide +kernel)⟩
theorem lw_p107 : lw_okq (⟨"HueWarModel", "laysAll", "(I)V"⟩, 68) := ⟨⟨by decide +kernel, by decide +kernel⟩, List.mem_of_getElem? (i := 1154) (by decide +kernel), List.mem_of_getElem? (i := 1697) (by decide +kernel), List.mem_of_getElem? (i := 1698) (by decide +kernel)⟩
theorem lw_p108 : lw_okq (⟨"HueWarModel", "isSignal", "(III)Z"⟩, 68) := ⟨⟨by decide +kernel, by decide +kernel⟩, List.mem_of_getElem? (i := 1154) (by decide +kernel), List.mem_of_getElem? (i := 1701) (by decide +kernel), List.mem_of_getElem? (i := 1702) (by decide +kernel)⟩
theorem lw_p109 : lw_okq (⟨"HueWarModel", "tellsApart", "(II)Z"⟩, 68) := ⟨⟨by decide +kernel, by decide +kernel⟩, List.mem_of_getElem? (i := 1154) (by decide +kernel), List.mem_of_getElem? (i := 1705) (by decide +kernel), List.mem_of_getElem? (i := 1706) (by decide +kernel)⟩
theorem lw_p110 : lw_okq (⟨"HueWarModel", "seesOne", "(II)Z"⟩, 68) := ⟨⟨by decide +kernel, by decide +kernel⟩, List.mem_of_getElem? (i := 1154) (by decide +kernel), List.mem_of_getElem? (i := 1709) (by decide +kernel), List.mem_of_getElem? (i := 1710) (by decide +kernel)⟩
theorem lw_p111 : lw_okq (⟨"HueWarModel", "leastBy", "(II)I"⟩, 68) := ⟨⟨by decide +kernel, by decide +kernel⟩, List.mem_of_getElem? (i := 1154) (by decide +kernel), List.mem_of_getElem? (i := 1720) (by decide +kernel), List.mem_of_getElem? (i := 1721) (by decide +kernel)⟩
def lw_privs_7 : List (MethodName × Nat) := [(⟨"HueWarModel", "breaksBy", "(I)I"⟩, 68), (⟨"HueWarModel", "byLaw", "(II)I"⟩, 68), (⟨"HueWarModel", "ends", "(I)V"⟩, 68), (⟨"HueWarModel", "hadAll", "(I)I"⟩, 68), (⟨"HueWarModel", "readsRow", "(I)Z"⟩, 68), (⟨"HueWarModel", "isUnseen", "(II)Z"⟩, 68), (⟨"HueWarModel", "laysCosts", "(IIZ)V"⟩, 68), (⟨"HueWarModel", "beside", "(II)I"⟩, 68), (⟨"HueWarModel", "worthOf", "(II)I"⟩, 68), (⟨"HueWarModel", "ownedOf", "(II)I"⟩, 68), (⟨"HueWarModel", "worthWith", "(III)I"⟩, 68), (⟨"HueWarModel", "laysAll", "(I)V"⟩, 68), (⟨"HueWarModel", "isSignal", "(III)Z"⟩, 68), (⟨"HueWarModel", "tellsApart", "(II)Z"⟩, 68), (⟨"HueWarModel", "seesOne", "(II)Z"⟩, 68), (⟨"HueWarModel", "leastBy", "(II)I"⟩, 68)]
theorem lw_r7 : ∀ q ∈ lw_privs_7, lw_okq q := List.forall_mem_cons.mpr ⟨lw_p96, List.forall_mem_cons.mpr ⟨lw_p97, List.forall_mem_cons.mpr ⟨lw_p98, List.forall_mem_cons.mpr ⟨lw_p99, List.forall_mem_cons.mpr ⟨lw_p100, List.forall_mem_cons.mpr ⟨lw_p101, List.forall_mem_cons.mpr ⟨lw_p102, List.forall_mem_cons.mpr ⟨lw_p103, List.forall_mem_cons.mpr ⟨lw_p104, List.forall_mem_cons.mpr ⟨lw_p105, List.forall_mem_cons.mpr ⟨lw_p106, List.forall_mem_cons.mpr ⟨lw_p107, List.forall_mem_cons.mpr ⟨lw_p108, List.forall_mem_cons.mpr ⟨lw_p109, List.forall_mem_cons.mpr ⟨lw_p110, List.forall_mem_cons.mpr ⟨lw_p111, fun _ h => absurd h List.not_mem_nil⟩⟩⟩⟩⟩⟩⟩⟩⟩⟩⟩⟩⟩⟩⟩⟩
theorem lw_p112 : lw_okq (⟨"HueWarModel", "hasBy", "(IIII)I"⟩, 68) := ⟨⟨by decide +kernel, by decide +kernel⟩, List.mem_of_getElem? (i := 1154) (by decide +kernel), List.mem_of_getElem? (i := 1724) (by decide +kernel), List.mem_of_getElem? (i := 1725) (by decide +kernel)⟩
theorem lw_p113 : lw_okq (⟨"HueWarModel", "laysFights", "(III)V"⟩, 68) := ⟨⟨by decide +kernel, by decide +kernel⟩, List.mem_of_getElem? (i := 1154) (by decide +kernel), List.mem_of_getElem? (i := 1735) (by decide +kernel), List.mem_of_getElem? (i := 1736) (by decide +kernel)⟩
theorem lw_p114 : lw_okq (⟨"HueWarModel", "canTake", "(IIII)Z"⟩, 68) := ⟨⟨by decide +kernel, by decide +kernel⟩, List.mem_of_getElem? (i := 1154) (by decide +kernel), List.mem_of_getElem? (i := 1739) (by decide +kernel), List.mem_of_getElem? (i := 1740) (by decide +kernel)⟩
theorem lw_p115 : lw_okq (⟨"HueWarModel", "rests", "(I)Z"⟩, 68) := ⟨⟨by decide +kernel, by decide +kernel⟩, List.mem_of_getElem? (i := 1154) (by decide +kernel), List.mem_of_getElem? (i := 1743) (by decide +kernel), List.mem_of_getElem? (i := 1744) (by decide +kernel)⟩
theorem lw_p116 : lw_okq (⟨"HueWarModel", "areShown", "(I)Z"⟩, 68) := ⟨⟨by decide +kernel, by decide +kernel⟩, List.mem_of_getElem? (i := 1154) (by decide +kernel), List.mem_of_getElem? (i := 1751) (by decide +kernel), List.mem_of_getElem? (i := 1752) (by decide +kernel)⟩
theorem lw_p117 : lw_okq (⟨"HueWarModel", "fitting", "(I)I"⟩, 68) := ⟨⟨by decide +kernel, by decide +kernel⟩, List.mem_of_getElem? (i := 1154) (by decide +kernel), List.mem_of_getElem? (i := 1755) (by decide +kernel), List.mem_of_getElem? (i := 1756) (by decide +kernel)⟩
theorem lw_p118 : lw_okq (⟨"HueWarModel", "stops", "(III)Z"⟩, 68) := ⟨⟨by decide +kernel, by decide +kernel⟩, List.mem_of_getElem? (i := 1154) (by decide +kernel), List.mem_of_getElem? (i := 1759) (by decide +kernel), List.mem_of_getElem? (i := 1760) (by decide +kernel)⟩
theorem lw_p119 : lw_okq (⟨"HueWarModel", "greaterBy", "(III)I"⟩, 68) := ⟨⟨by decide +kernel, by decide +kernel⟩, List.mem_of_getElem? (i := 1154) (by decide +kernel), List.mem_of_getElem? (i := 1763) (by decide +kernel), List.mem_of_getElem? (i := 1764) (by decide +kernel)⟩
theorem lw_p120 : lw_okq (⟨"HueWarModel", "laysSeas", "()V"⟩, 68) := ⟨⟨by decide +kernel, by decide +kernel⟩, List.mem_of_getElem? (i := 1154) (by decide +kernel), List.mem_of_getElem? (i := 1775) (by decide +kernel), List.mem_of_getElem? (i := 1776) (by decide +kernel)⟩
theorem lw_p121 : lw_okq (⟨"HueWarModel", "joins", "(II)Z"⟩, 68) := ⟨⟨by decide +kernel, by decide +kernel⟩, List.mem_of_getElem? (i := 1154) (by decide +kernel), List.mem_of_getElem? (i := 1779) (by decide +kernel), List.mem_of_getElem? (i := 1780) (by decide +kernel)⟩
theorem lw_p122 : lw_okq (⟨"HueWarModel", "tapeNumber", "(I)I"⟩, 68) := ⟨⟨by decide +kernel, by decide +kernel⟩, List.mem_of_getElem? (i := 1154) (by decide +kernel), List.mem_of_getElem? (i := 1800) (by decide +kernel), List.mem_of_getElem? (i := 1801) (by decide +kernel)⟩
theorem lw_p123 : lw_okq (⟨"HueWarModel", "mixedBits", "()I"⟩, 68) := ⟨⟨by decide +kernel, by decide +kernel⟩, List.mem_of_getElem? (i := 1154) (by decide +kernel), List.mem_of_getElem? (i := 1808) (by decide +kernel), List.mem_of_getElem? (i := 1809) (by decide +kernel)⟩
def lw_privs_8 : List (MethodName × Nat) := [(⟨"HueWarModel", "hasBy", "(IIII)I"⟩, 68), (⟨"HueWarModel", "laysFights", "(III)V"⟩, 68), (⟨"HueWarModel", "canTake", "(IIII)Z"⟩, 68), (⟨"HueWarModel", "rests", "(I)Z"⟩, 68), (⟨"HueWarModel", "areShown", "(I)Z"⟩, 68), (⟨"HueWarModel", "fitting", "(I)I"⟩, 68), (⟨"HueWarModel", "stops", "(III)Z"⟩, 68), (⟨"HueWarModel", "greaterBy", "(III)I"⟩, 68), (⟨"HueWarModel", "laysSeas", "()V"⟩, 68), (⟨"HueWarModel", "joins", "(II)Z"⟩, 68), (⟨"HueWarModel", "tapeNumber", "(I)I"⟩, 68), (⟨"HueWarModel", "mixedBits", "()I"⟩, 68)]
theorem lw_r8 : ∀ q ∈ lw_privs_8, lw_okq q := List.forall_mem_cons.mpr ⟨lw_p112, List.forall_mem_cons.mpr ⟨lw_p113, List.forall_mem_cons.mpr ⟨lw_p114, List.forall_mem_cons.mpr ⟨lw_p115, List.forall_mem_cons.mpr ⟨lw_p116, List.forall_mem_cons.mpr ⟨lw_p117, List.forall_mem_cons.mpr ⟨lw_p118, List.forall_mem_cons.mpr ⟨lw_p119, List.forall_mem_cons.mpr ⟨lw_p120, List.forall_mem_cons.mpr ⟨lw_p121, List.forall_mem_cons.mpr ⟨lw_p122, List.forall_mem_cons.mpr ⟨lw_p123, fun _ h => absurd h List.not_mem_nil⟩⟩⟩⟩⟩⟩⟩⟩⟩⟩⟩⟩
def lw_privs : List (MethodName × Nat) := lw_privs_1 ++ (lw_privs_2 ++ (lw_privs_3 ++ (lw_privs_4 ++ (lw_privs_5 ++ (lw_privs_6 ++ (lw_privs_7 ++ (lw_privs_8)))))))
def lw_tbl : List Cond := k2_sels lw_privs ++ tables_1
theorem lw_privs_ok : ∀ q ∈ lw_privs, lw_okq q := by
  show ∀ q ∈ lw_privs_1 ++ (lw_privs_2 ++ (lw_privs_3 ++ (lw_privs_4 ++ (lw_privs_5 ++ (lw_privs_6 ++ (lw_privs_7 ++ (lw_privs_8))))))), lw_okq q
  exact List.forall_mem_append.mpr ⟨lw_r1, List.forall_mem_append.mpr ⟨lw_r2, List.forall_mem_append.mpr ⟨lw_r3, List.forall_mem_append.mpr ⟨lw_r4, List.forall_mem_append.mpr ⟨lw_r5, List.forall_mem_append.mpr ⟨lw_r6, List.forall_mem_append.mpr ⟨lw_r7, lw_r8⟩⟩⟩⟩⟩⟩⟩

-- ===== end of PART A
/-- the words' chunks; a word by its place -/
def hz_ch : List (List Cond) := [k2_sels lw_privs, tables_1_1, tables_1_2, tables_1_3, tables_1_4, tables_1_5, tables_1_6, tables_1_7, tables_1_8]
theorem hz_ch_in : ∀ l ∈ hz_ch, ∀ w ∈ l, w ∈ lw_tbl := by
  intro l hl w hw
  simp only [hz_ch, List.mem_cons, List.not_mem_nil, or_false] at hl
  unfold lw_tbl tables_1
  simp only [List.mem_append]
  rcases hl with rfl | rfl | rfl | rfl | rfl | rfl | rfl | rfl | rfl <;> simp [hw]
def hz_k (k : Nat) (w : Cond) : Bool := match hz_ch[k / 1000]? with
  | some l => decide (l[k % 1000]? = some w)
  | none => false
theorem hz_k_in {k : Nat} {w : Cond} (h : hz_k k w = true) : w ∈ lw_tbl := by
  unfold hz_k at h
  split at h
  · next l hl => exact hz_ch_in l (List.mem_of_getElem? hl) w (List.mem_of_getElem? (of_decide_eq_true h))
  · cases h
noncomputable def hz_all (ws : List Cond) : List Nat → Bool :=
  List.rec (motive := fun _ => List Nat → Bool) (fun _ => true) (fun w _ go ps => match ps with
    | p :: ps => hz_k p w && go ps
    | [] => false) ws
theorem hz_all_in : ∀ (ws : List Cond) (ps : List Nat), hz_all ws ps = true → ∀ w ∈ ws, w ∈ lw_tbl := by
  intro ws
  induction ws with
  | nil => intro ps _ w hw; cases hw
  | cons a r ih =>
    intro ps h w hw
    cases ps with
    | nil => cases h
    | cons p ps =>
      replace h : (hz_k p a && hz_all r ps) = true := h
      rw [Bool.and_eq_true] at h
      rcases List.mem_cons.mp hw with rfl | hw
      · exact hz_k_in h.1
      · exact ih ps h.2 w hw
theorem hz_good {ws : List Cond} (ps : List Nat) (h : (hz_all ws ps && ws.all goodWord) = true) : ∀ w ∈ ws, w ∈ lw_tbl ∧ goodWord w = true := by
  rw [Bool.and_eq_true] at h
  exact fun w hw => ⟨hz_all_in ws ps h.1 w hw, List.all_eq_true.mp h.2 w hw⟩
def RX0 : String := "HueWar$Duel"
def TX0 : u_T := fun k => match k with
  | 0 => ("HueWar$Duel", "state", "LHueWar$State;", true)
  | 1 => ("HueWar$Duel", "purse", "LHueWar$Purse;", true)
  | 2 => ("HueWar$Duel", "worthsOfA", "[I", true)
  | 3 => ("HueWar$Duel", "worthsOfB", "[I", true)
  | 4 => ("HueWar$Duel", "choicesOfA", "I", false)
  | 5 => ("HueWar$Duel", "choicesOfB", "I", false)
  | 6 => ("HueWar$Duel", "twos", "I", false)
  | 7 => ("HueWar$Duel", "firstOfA", "I", false)
  | _ => ("HueWar$Duel", "firstOfB", "I", false)
def tyX0 : Nat → FieldType := fun k => match k with
  | 0 => .object "HueWar$State"
  | 1 => .object "HueWar$Purse"
  | 2 => .array .int
  | 3 => .array .int
  | 4 => .int
  | 5 => .int
  | 6 => .int
  | 7 => .int
  | _ => .int
theorem nmX0 : ∀ a, a < 9 → ∀ b, b < 9 → a ≠ b → (TX0 a).2.1 ≠ (TX0 b).2.1 := by decide +kernel
theorem tyX0_ok : ∀ k, k < 9 → parseFieldDescriptor (TX0 k).2.2.1 = some (tyX0 k) := by decide +kernel
set_option maxRecDepth 20000 in
theorem inX0 : ∀ w ∈ u_ws RX0 TX0 9, w ∈ lw_tbl ∧ goodWord w = true := hz_good [2000, 2002, 2004, 2006, 2008, 2010, 2012, 2014, 2016] (by decide +kernel)
def RX1 : String := "HueWar$Eyes"
def TX1 : u_T := fun k => match k with
  | 0 => ("HueWar$Eyes", "palette", "LHueWar$Palette;", true)
  | 1 => ("HueWar$Eyes", "law", "LHueWar$Law;", true)
  | 2 => ("HueWar$Eyes", "state", "LHueWar$State;", true)
  | _ => ("HueWar$Eyes", "looks", "[I", true)
def tyX1 : Nat → FieldType := fun k => match k with
  | 0 => .object "HueWar$Palette"
  | 1 => .object "HueWar$Law"
  | 2 => .object "HueWar$State"
  | _ => .array .int
theorem nmX1 : ∀ a, a < 4 → ∀ b, b < 4 → a ≠ b → (TX1 a).2.1 ≠ (TX1 b).2.1 := by decide +kernel
theorem tyX1_ok : ∀ k, k < 4 → parseFieldDescriptor (TX1 k).2.2.1 = some (tyX1 k) := by decide +kernel
set_option maxRecDepth 20000 in
theorem inX1 : ∀ w ∈ u_ws RX1 TX1 4, w ∈ lw_tbl ∧ goodWord w = true := hz_good [1191, 1193, 1195, 1197] (by decide +kernel)
def RX2 : String := "HueWar$Ground"
def TX2 : u_T := fun k => match k with
  | 0 => ("HueWar$Ground", "tape", "LHueWar$Tape;", true)
  | 1 => ("HueWar$Ground", "palette", "LHueWar$Palette;", true)
  | 2 => ("HueWar$Ground", "fields", "[I", true)
  | _ => ("HueWar$Ground", "drafted", "[I", true)
def tyX2 : Nat → FieldType := fun k => match k with
  | 0 => .object "HueWar$Tape"
  | 1 => .object "HueWar$Palette"
  | 2 => .array .int
  | _ => .array .int
theorem nmX2 : ∀ a, a < 4 → ∀ b, b < 4 → a ≠ b → (TX2 a).2.1 ≠ (TX2 b).2.1 := by decide +kernel
theorem tyX2_ok : ∀ k, k < 4 → parseFieldDescriptor (TX2 k).2.2.1 = some (tyX2 k) := by decide +kernel
set_option maxRecDepth 20000 in
theorem inX2 : ∀ w ∈ u_ws RX2 TX2 4, w ∈ lw_tbl ∧ goodWord w = true := hz_good [1076, 1078, 1080, 1082] (by decide +kernel)
def RX3 : String := "HueWar$Law"
def TX3 : u_T := fun k => match k with
  | 0 => ("HueWar$Law", "tape", "LHueWar$Tape;", true)
  | 1 => ("HueWar$Law", "ops", "[I", true)
  | 2 => ("HueWar$Law", "args", "[I", true)
  | 3 => ("HueWar$Law", "steps", "I", false)
  | 4 => ("HueWar$Law", "kinds", "[I", true)
  | 5 => ("HueWar$Law", "amounts", "[I", true)
  | 6 => ("HueWar$Law", "conditions", "[I", true)
  | 7 => ("HueWar$Law", "clauses", "I", false)
  | 8 => ("HueWar$Law", "values", "[I", true)
  | _ => ("HueWar$Law", "stack", "[I", true)
def tyX3 : Nat → FieldType := fun k => match k with
  | 0 => .object "HueWar$Tape"
  | 1 => .array .int
  | 2 => .array .int
  | 3 => .int
  | 4 => .array .int
  | 5 => .array .int
  | 6 => .array .int
  | 7 => .int
  | 8 => .array .int
  | _ => .array .int
theorem nmX3 : ∀ a, a < 10 → ∀ b, b < 10 → a ≠ b → (TX3 a).2.1 ≠ (TX3 b).2.1 := by decide +kernel
theorem tyX3_ok : ∀ k, k < 10 → parseFieldDescriptor (TX3 k).2.2.1 = some (tyX3 k) := by decide +kernel
set_option maxRecDepth 20000 in
theorem inX3 : ∀ w ∈ u_ws RX3 TX3 10, w ∈ lw_tbl ∧ goodWord w = true := hz_good [1101, 1103, 1105, 1107, 1109, 1111, 1113, 1115, 1117, 1119] (by decide +kernel)
def RX4 : String := "HueWar$Lines"
def TX4 : u_T := fun k => match k with
  | 0 => ("HueWar$Lines", "tape", "LHueWar$Tape;", true)
  | 1 => ("HueWar$Lines", "colours", "[I", true)
  | 2 => ("HueWar$Lines", "quarters", "[I", true)
  | 3 => ("HueWar$Lines", "signs", "[I", true)
  | 4 => ("HueWar$Lines", "givers", "[I", true)
  | 5 => ("HueWar$Lines", "others", "[I", true)
  | _ => ("HueWar$Lines", "length", "I", false)
def tyX4 : Nat → FieldType := fun k => match k with
  | 0 => .object "HueWar$Tape"
  | 1 => .array .int
  | 2 => .array .int
  | 3 => .array .int
  | 4 => .array .int
  | 5 => .array .int
  | _ => .int
theorem nmX4 : ∀ a, a < 7 → ∀ b, b < 7 → a ≠ b → (TX4 a).2.1 ≠ (TX4 b).2.1 := by decide +kernel
theorem tyX4_ok : ∀ k, k < 7 → parseFieldDescriptor (TX4 k).2.2.1 = some (tyX4 k) := by decide +kernel
set_option maxRecDepth 20000 in
theorem inX4 : ∀ w ∈ u_ws RX4 TX4 7, w ∈ lw_tbl ∧ goodWord w = true := hz_good [1135, 1137, 1139, 1141, 1143, 1145, 1147] (by decide +kernel)
def RX5 : String := "HueWar$Palette"
def TX5 : u_T := fun k => match k with
  | 0 => ("HueWar$Palette", "firsts", "[I", true)
  | 1 => ("HueWar$Palette", "seconds", "[I", true)
  | 2 => ("HueWar$Palette", "told", "I", false)
  | _ => ("HueWar$Palette", "mixed", "I", false)
def tyX5 : Nat → FieldType := fun k => match k with
  | 0 => .array .int
  | 1 => .array .int
  | 2 => .int
  | _ => .int
theorem nmX5 : ∀ a, a < 4 → ∀ b, b < 4 → a ≠ b → (TX5 a).2.1 ≠ (TX5 b).2.1 := by decide +kernel
theorem tyX5_ok : ∀ k, k < 4 → parseFieldDescriptor (TX5 k).2.2.1 = some (tyX5 k) := by decide +kernel
set_option maxRecDepth 20000 in
theorem inX5 : ∀ w ∈ u_ws RX5 TX5 4, w ∈ lw_tbl ∧ goodWord w = true := hz_good [1057, 1059, 1061, 1063] (by decide +kernel)
def RX6 : String := "HueWar$Paths"
def TX6 : u_T := fun k => match k with
  | 0 => ("HueWar$Paths", "marks", "[Z", true)
  | 1 => ("HueWar$Paths", "done", "[Z", true)
  | 2 => ("HueWar$Paths", "costs", "[I", true)
  | 3 => ("HueWar$Paths", "stack", "[I", true)
  | 4 => ("HueWar$Paths", "seas", "I", false)
  | _ => ("HueWar$Paths", "largestSea", "I", false)
def tyX6 : Nat → FieldType := fun k => match k with
  | 0 => .array .boolean
  | 1 => .array .boolean
  | 2 => .array .int
  | 3 => .array .int
  | 4 => .int
  | _ => .int
theorem nmX6 : ∀ a, a < 6 → ∀ b, b < 6 → a ≠ b → (TX6 a).2.1 ≠ (TX6 b).2.1 := by decide +kernel
theorem tyX6_ok : ∀ k, k < 6 → parseFieldDescriptor (TX6 k).2.2.1 = some (tyX6 k) := by decide +kernel
set_option maxRecDepth 20000 in
theorem inX6 : ∀ w ∈ u_ws RX6 TX6 6, w ∈ lw_tbl ∧ goodWord w = true := hz_good [2031, 2033, 2035, 2037, 2039, 2041] (by decide +kernel)
def RX7 : String := "HueWar$Purse"
def TX7 : u_T := fun k => match k with
  | 0 => ("HueWar$Purse", "palette", "LHueWar$Palette;", true)
  | 1 => ("HueWar$Purse", "law", "LHueWar$Law;", true)
  | 2 => ("HueWar$Purse", "state", "LHueWar$State;", true)
  | 3 => ("HueWar$Purse", "eyes", "LHueWar$Eyes;", true)
  | 4 => ("HueWar$Purse", "ground", "LHueWar$Ground;", true)
  | _ => ("HueWar$Purse", "prices", "[I", true)
def tyX7 : Nat → FieldType := fun k => match k with
  | 0 => .object "HueWar$Palette"
  | 1 => .object "HueWar$Law"
  | 2 => .object "HueWar$State"
  | 3 => .object "HueWar$Eyes"
  | 4 => .object "HueWar$Ground"
  | _ => .array .int
theorem nmX7 : ∀ a, a < 6 → ∀ b, b < 6 → a ≠ b → (TX7 a).2.1 ≠ (TX7 b).2.1 := by decide +kernel
theorem tyX7_ok : ∀ k, k < 6 → parseFieldDescriptor (TX7 k).2.2.1 = some (tyX7 k) := by decide +kernel
set_option maxRecDepth 20000 in
theorem inX7 : ∀ w ∈ u_ws RX7 TX7 6, w ∈ lw_tbl ∧ goodWord w = true := hz_good [1212, 1214, 1216, 1218, 1220, 1222] (by decide +kernel)
def RX8 : String := "HueWar$State"
def TX8 : u_T := fun k => match k with
  | 0 => ("HueWar$State", "havers", "[I", true)
  | 1 => ("HueWar$State", "owners", "[I", true)
  | 2 => ("HueWar$State", "treaties", "[I", true)
  | 3 => ("HueWar$State", "treatyCount", "I", false)
  | 4 => ("HueWar$State", "day", "I", false)
  | 5 => ("HueWar$State", "draw", "I", false)
  | 6 => ("HueWar$State", "firstBreakDay", "I", false)
  | _ => ("HueWar$State", "firstBreaker", "I", false)
def tyX8 : Nat → FieldType := fun k => match k with
  | 0 => .array .int
  | 1 => .array .int
  | 2 => .array .int
  | 3 => .int
  | 4 => .int
  | 5 => .int
  | 6 => .int
  | _ => .int
theorem nmX8 : ∀ a, a < 8 → ∀ b, b < 8 → a ≠ b → (TX8 a).2.1 ≠ (TX8 b).2.1 := by decide +kernel
theorem tyX8_ok : ∀ k, k < 8 → parseFieldDescriptor (TX8 k).2.2.1 = some (tyX8 k) := by decide +kernel
set_option maxRecDepth 20000 in
theorem inX8 : ∀ w ∈ u_ws RX8 TX8 8, w ∈ lw_tbl ∧ goodWord w = true := hz_good [1164, 1166, 1168, 1170, 1172, 1174, 1176, 1178] (by decide +kernel)
def RX9 : String := "HueWar$Tape"
def TX9 : u_T := fun k => match k with
  | 0 => ("HueWar$Tape", "bytes", "[I", true)
  | 1 => ("HueWar$Tape", "length", "I", false)
  | 2 => ("HueWar$Tape", "end", "I", false)
  | 3 => ("HueWar$Tape", "place", "I", false)
  | _ => ("HueWar$Tape", "fault", "I", false)
def tyX9 : Nat → FieldType := fun k => match k with
  | 0 => .array .int
  | 1 => .int
  | 2 => .int
  | 3 => .int
  | _ => .int
theorem nmX9 : ∀ a, a < 5 → ∀ b, b < 5 → a ≠ b → (TX9 a).2.1 ≠ (TX9 b).2.1 := by decide +kernel
theorem tyX9_ok : ∀ k, k < 5 → parseFieldDescriptor (TX9 k).2.2.1 = some (tyX9 k) := by decide +kernel
set_option maxRecDepth 20000 in
theorem inX9 : ∀ w ∈ u_ws RX9 TX9 5, w ∈ lw_tbl ∧ goodWord w = true := hz_good [1035, 1037, 1039, 1041, 1043] (by decide +kernel)
def RX10 : String := "HueWar"
def TX10 : u_T := fun k => match k with
  | 0 => ("HueWar", "tape", "LHueWar$Tape;", true)
  | 1 => ("HueWar", "palette", "LHueWar$Palette;", true)
  | 2 => ("HueWar", "ground", "LHueWar$Ground;", true)
  | 3 => ("HueWar", "ruling", "LHueWar$Law;", true)
  | 4 => ("HueWar", "draft", "LHueWar$Law;", true)
  | 5 => ("HueWar", "lines", "LHueWar$Lines;", true)
  | 6 => ("HueWar", "now", "LHueWar$State;", true)
  | 7 => ("HueWar", "kept", "LHueWar$State;", true)
  | 8 => ("HueWar", "trial", "LHueWar$State;", true)
  | 9 => ("HueWar", "isKept", "Z", false)
  | 10 => ("HueWar", "eyes", "LHueWar$Eyes;", true)
  | 11 => ("HueWar", "purse", "LHueWar$Purse;", true)
  | 12 => ("HueWar", "duel", "LHueWar$Duel;", true)
  | 13 => ("HueWar", "paths", "LHueWar$Paths;", true)
  | 14 => ("HueWar", "bright", "[I", true)
  | _ => ("HueWar", "partners", "[I", true)
def tyX10 : Nat → FieldType := fun k => match k with
  | 0 => .object "HueWar$Tape"
  | 1 => .object "HueWar$Palette"
  | 2 => .object "HueWar$Ground"
  | 3 => .object "HueWar$Law"
  | 4 => .object "HueWar$Law"
  | 5 => .object "HueWar$Lines"
  | 6 => .object "HueWar$State"
  | 7 => .object "HueWar$State"
  | 8 => .object "HueWar$State"
  | 9 => .boolean
  | 10 => .object "HueWar$Eyes"
  | 11 => .object "HueWar$Purse"
  | 12 => .object "HueWar$Duel"
  | 13 => .object "HueWar$Paths"
  | 14 => .array .int
  | _ => .array .int
theorem nmX10 : ∀ a, a < 16 → ∀ b, b < 16 → a ≠ b → (TX10 a).2.1 ≠ (TX10 b).2.1 := by decide +kernel
theorem tyX10_ok : ∀ k, k < 16 → parseFieldDescriptor (TX10 k).2.2.1 = some (tyX10 k) := by decide +kernel
set_option maxRecDepth 20000 in
theorem inX10 : ∀ w ∈ u_ws RX10 TX10 16, w ∈ lw_tbl ∧ goodWord w = true := hz_good [2061, 2063, 2065, 2067, 2069, 2071, 2073, 2075, 2077, 2079, 2081, 2083, 2085, 2087, 2089, 2091] (by decide +kernel)
def RX11 : String := "HueWarModel"
def TX11 : u_T := fun k => match k with
  | 0 => ("HueWarModel", "told0", "I", false)
  | 1 => ("HueWarModel", "x0", "I", false)
  | 2 => ("HueWarModel", "day0", "I", false)
  | 3 => ("HueWarModel", "firstOf", "[I", true)
  | 4 => ("HueWarModel", "secondOf", "[I", true)
  | 5 => ("HueWarModel", "haveIn", "[I", true)
  | 6 => ("HueWarModel", "colourOf", "[I", true)
  | 7 => ("HueWarModel", "ownerOf", "[I", true)
  | 8 => ("HueWarModel", "tape", "[B", true)
  | 9 => ("HueWarModel", "taped", "I", false)
  | 10 => ("HueWarModel", "place0", "I", false)
  | 11 => ("HueWarModel", "length0", "I", false)
  | 12 => ("HueWarModel", "fault", "I", false)
  | 13 => ("HueWarModel", "number0", "I", false)
  | 14 => ("HueWarModel", "open", "I", false)
  | 15 => ("HueWarModel", "codeMany", "I", false)
  | 16 => ("HueWarModel", "waiting", "I", false)
  | 17 => ("HueWarModel", "saidMany", "I", false)
  | 18 => ("HueWarModel", "clauses", "I", false)
  | 19 => ("HueWarModel", "said", "[I", true)
  | 20 => ("HueWarModel", "waitsAt", "[I", true)
  | 21 => ("HueWarModel", "saidLetter", "[I", true)
  | 22 => ("HueWarModel", "saidFrom", "[I", true)
  | 23 => ("HueWarModel", "saidHalf", "[I", true)
  | 24 => ("HueWarModel", "saidTo", "[I", true)
  | 25 => ("HueWarModel", "codes", "[I", true)
  | 26 => ("HueWarModel", "clauseOf", "[I", true)
  | 27 => ("HueWarModel", "codeFrom", "[I", true)
  | 28 => ("HueWarModel", "codeHalf", "[I", true)
  | 29 => ("HueWarModel", "codeTo", "[I", true)
  | 30 => ("HueWarModel", "stack", "[I", true)
  | 31 => ("HueWarModel", "facts", "[I", true)
  | 32 => ("HueWarModel", "asSeen", "[I", true)
  | 33 => ("HueWarModel", "lineMany", "I", false)
  | 34 => ("HueWarModel", "treatyMany", "I", false)
  | 35 => ("HueWarModel", "lineColour", "[I", true)
  | 36 => ("HueWarModel", "lineQuarters", "[I", true)
  | 37 => ("HueWarModel", "lineFrom", "[I", true)
  | 38 => ("HueWarModel", "lineTo", "[I", true)
  | 39 => ("HueWarModel", "lineShares", "[I", true)
  | 40 => ("HueWarModel", "treatyColour", "[I", true)
  | 41 => ("HueWarModel", "treatyQuarters", "[I", true)
  | 42 => ("HueWarModel", "treatyFrom", "[I", true)
  | 43 => ("HueWarModel", "treatyTo", "[I", true)
  | 44 => ("HueWarModel", "treatyShares", "[I", true)
  | 45 => ("HueWarModel", "treatyDay", "[I", true)
  | 46 => ("HueWarModel", "asideHave", "[I", true)
  | 47 => ("HueWarModel", "asideTreaty", "[I", true)
  | 48 => ("HueWarModel", "keptHave", "[I", true)
  | 49 => ("HueWarModel", "keptTreaty", "[I", true)
  | 50 => ("HueWarModel", "keptOwner", "[I", true)
  | 51 => ("HueWarModel", "asideMany", "I", false)
  | 52 => ("HueWarModel", "asideDay", "I", false)
  | 53 => ("HueWarModel", "asideX", "I", false)
  | 54 => ("HueWarModel", "keptMany", "I", false)
  | 55 => ("HueWarModel", "keptDay", "I", false)
  | 56 => ("HueWarModel", "keptX", "I", false)
  | 57 => ("HueWarModel", "isKept", "Z", false)
  | 58 => ("HueWarModel", "broken", "I", false)
  | 59 => ("HueWarModel", "firstDay", "I", false)
  | 60 => ("HueWarModel", "firstBy", "I", false)
  | 61 => ("HueWarModel", "newColour", "[I", true)
  | 62 => ("HueWarModel", "costTo", "[I", true)
  | 63 => ("HueWarModel", "asBy", "[I", true)
  | 64 => ("HueWarModel", "worthA", "[I", true)
  | 65 => ("HueWarModel", "worthB", "[I", true)
  | 66 => ("HueWarModel", "canFight", "[Z", true)
  | _ => ("HueWarModel", "seaOf", "[I", true)
def tyX11 : Nat → FieldType := fun k => match k with
  | 0 => .int
  | 1 => .int
  | 2 => .int
  | 3 => .array .int
  | 4 => .array .int
  | 5 => .array .int
  | 6 => .array .int
  | 7 => .array .int
  | 8 => .array .byte
  | 9 => .int
  | 10 => .int
  | 11 => .int
  | 12 => .int
  | 13 => .int
  | 14 => .int
  | 15 => .int
  | 16 => .int
  | 17 => .int
  | 18 => .int
  | 19 => .array .int
  | 20 => .array .int
  | 21 => .array .int
  | 22 => .array .int
  | 23 => .array .int
  | 24 => .array .int
  | 25 => .array .int
  | 26 => .array .int
  | 27 => .array .int
  | 28 => .array .int
  | 29 => .array .int
  | 30 => .array .int
  | 31 => .array .int
  | 32 => .array .int
  | 33 => .int
  | 34 => .int
  | 35 => .array .int
  | 36 => .array .int
  | 37 => .array .int
  | 38 => .array .int
  | 39 => .array .int
  | 40 => .array .int
  | 41 => .array .int
  | 42 => .array .int
  | 43 => .array .int
  | 44 => .array .int
  | 45 => .array .int
  | 46 => .array .int
  | 47 => .array .int
  | 48 => .array .int
  | 49 => .array .int
  | 50 => .array .int
  | 51 => .int
  | 52 => .int
  | 53 => .int
  | 54 => .int
  | 55 => .int
  | 56 => .int
  | 57 => .boolean
  | 58 => .int
  | 59 => .int
  | 60 => .int
  | 61 => .array .int
  | 62 => .array .int
  | 63 => .array .int
  | 64 => .array .int
  | 65 => .array .int
  | 66 => .array .boolean
  | _ => .array .int
theorem nmX11 : ∀ a, a < 68 → ∀ b, b < 68 → a ≠ b → (TX11 a).2.1 ≠ (TX11 b).2.1 := by decide +kernel
theorem tyX11_ok : ∀ k, k < 68 → parseFieldDescriptor (TX11 k).2.2.1 = some (tyX11 k) := by decide +kernel
set_option maxRecDepth 20000 in
theorem inX11 : ∀ w ∈ u_ws RX11 TX11 68, w ∈ lw_tbl ∧ goodWord w = true := hz_good [6027, 6029, 6031, 6033, 6035, 6037, 6039, 6041, 6043, 6045, 6047, 6049, 6051, 6053, 6055, 6057, 6059, 6061, 6063, 6065, 6067, 6069, 6071, 6073, 6075, 6077, 6079, 6081, 6083, 6085, 6087, 6089, 6091, 6093, 6095, 6097, 6099, 6101, 6103, 6105, 6107, 6109, 6111, 6113, 6115, 6117, 6119, 6121, 6123, 6125, 6127, 6129, 6131, 6133, 6135, 6137, 6139, 6141, 6143, 6145, 6147, 6149, 6151, 6153, 6155, 6157, 6159, 6161] (by decide +kernel)
def hx_cl : List vw_C := [(RX0, TX0, 9), (RX1, TX1, 4), (RX2, TX2, 4), (RX3, TX3, 10), (RX4, TX4, 7), (RX5, TX5, 4), (RX6, TX6, 6), (RX7, TX7, 6), (RX8, TX8, 8), (RX9, TX9, 5), (RX10, TX10, 16), (RX11, TX11, 68)]
/-- the links to private methods of the host -/
def hx_N : List (String × Nat × MethodName × String) := [("HueWar", 9, ⟨"HueWar$Tape", "<init>", "()V"⟩, "HueWar"), ("HueWar", 18, ⟨"HueWar$Palette", "<init>", "()V"⟩, "HueWar"), ("HueWar", 97, ⟨"HueWar$Paths", "<init>", "()V"⟩, "HueWar"), ("HueWar$Palette", 25, ⟨"HueWar", "isAmong", "(II)Z"⟩, "HueWar"), ("HueWar$Palette", 33, ⟨"HueWar", "bit", "(II)I"⟩, "HueWar"), ("HueWar$State", 43, ⟨"HueWar", "isAmong", "(II)Z"⟩, "HueWar"), ("HueWar$State", 47, ⟨"HueWar", "isQuarter", "(I)Z"⟩, "HueWar"), ("HueWar$Law", 107, ⟨"HueWar", "isDigit", "(I)Z"⟩, "HueWar"), ("HueWar$Ground", 73, ⟨"HueWar", "isDigit", "(I)Z"⟩, "HueWar"), ("HueWar$Lines", 61, ⟨"HueWar", "isDigit", "(I)Z"⟩, "HueWar"), ("HueWar$Lines", 91, ⟨"HueWar", "isQuarter", "(I)Z"⟩, "HueWar"), ("HueWar$Lines", 94, ⟨"HueWar", "isEmpire", "(I)Z"⟩, "HueWar"), ("HueWar$Lines", 35, ⟨"HueWar", "isAmong", "(II)Z"⟩, "HueWar"), ("HueWar$State", 54, ⟨"HueWar", "bit", "(II)I"⟩, "HueWar"), ("HueWar$Eyes", 52, ⟨"HueWar", "bit", "(II)I"⟩, "HueWar"), ("HueWar$Eyes", 86, ⟨"HueWar", "isAmong", "(II)Z"⟩, "HueWar"), ("HueWar$Ground", 26, ⟨"HueWar", "isAmong", "(II)Z"⟩, "HueWar"), ("HueWar$Paths", 32, ⟨"HueWar", "isAmong", "(II)Z"⟩, "HueWar"), ("HueWar$Purse", 55, ⟨"HueWar", "bit", "(II)I"⟩, "HueWar"), ("HueWar$Purse", 107, ⟨"HueWar", "isAmong", "(II)Z"⟩, "HueWar")]
set_option maxRecDepth 20000 in
theorem hx_N_in : ∀ w ∈ hx_N, Cond.methodLinkNest w.1 w.2.1 w.2.2.1 w.2.2.2 ∈ lw_tbl := fun _ hw => hz_all_in (hx_N.map (fun w => Cond.methodLinkNest w.1 w.2.1 w.2.2.1 w.2.2.2)) [1026, 1049, 2021, 2102, 2109, 2131, 2132, 2204, 3051, 3076, 3096, 3105, 3122, 3151, 4080, 4108, 4133, 4142, 4224, 5025] (by decide +kernel) _ (List.mem_map_of_mem hw)
