section
-- ===== PART A: goes FIRST, ahead of the names: the tables' words, and 'selects' of the private methods out of them =====
/-- a private method of a class that the tables say can be made, by its rows of tables_1 -/
def lw_okq (q : MethodName × Nat) : Prop := (q.1.cls ≠ "java/lang/invoke/MethodHandle" ∧ q.1.cls ≠ "java/lang/invoke/VarHandle") ∧ Cond.instantiable q.1.cls q.2 ∈ tables_1 ∧ Cond.privateMethod q.1 ∈ tables_1 ∧ Cond.instanceMethod q.1 ∈ tables_1
theorem lw_p0 : lw_okq (⟨"HueWar", "isOnTape", "(II)Z"⟩, 16) := ⟨⟨by decide +kernel, by decide +kernel⟩, List.mem_of_getElem? (i := 17) (by decide +kernel), List.mem_of_getElem? (i := 402) (by decide +kernel), List.mem_of_getElem? (i := 403) (by decide +kernel)⟩
theorem lw_p1 : lw_okq (⟨"HueWar$Law", "readClause", "()V"⟩, 10) := ⟨⟨by decide +kernel, by decide +kernel⟩, List.mem_of_getElem? (i := 86) (by decide +kernel), List.mem_of_getElem? (i := 417) (by decide +kernel), List.mem_of_getElem? (i := 418) (by decide +kernel)⟩
theorem lw_p2 : lw_okq (⟨"HueWar$Law", "readSum", "(I)V"⟩, 10) := ⟨⟨by decide +kernel, by decide +kernel⟩, List.mem_of_getElem? (i := 86) (by decide +kernel), List.mem_of_getElem? (i := 433) (by decide +kernel), List.mem_of_getElem? (i := 434) (by decide +kernel)⟩
theorem lw_p3 : lw_okq (⟨"HueWar$Law", "readProduct", "(I)V"⟩, 10) := ⟨⟨by decide +kernel, by decide +kernel⟩, List.mem_of_getElem? (i := 86) (by decide +kernel), List.mem_of_getElem? (i := 437) (by decide +kernel), List.mem_of_getElem? (i := 438) (by decide +kernel)⟩
theorem lw_p4 : lw_okq (⟨"HueWar$Law", "readFactor", "(I)V"⟩, 10) := ⟨⟨by decide +kernel, by decide +kernel⟩, List.mem_of_getElem? (i := 86) (by decide +kernel), List.mem_of_getElem? (i := 441) (by decide +kernel), List.mem_of_getElem? (i := 442) (by decide +kernel)⟩
theorem lw_p5 : lw_okq (⟨"HueWar$Law", "readNumber", "()V"⟩, 10) := ⟨⟨by decide +kernel, by decide +kernel⟩, List.mem_of_getElem? (i := 86) (by decide +kernel), List.mem_of_getElem? (i := 448) (by decide +kernel), List.mem_of_getElem? (i := 449) (by decide +kernel)⟩
theorem lw_p6 : lw_okq (⟨"HueWar$Law", "emit", "(II)I"⟩, 10) := ⟨⟨by decide +kernel, by decide +kernel⟩, List.mem_of_getElem? (i := 86) (by decide +kernel), List.mem_of_getElem? (i := 452) (by decide +kernel), List.mem_of_getElem? (i := 453) (by decide +kernel)⟩
theorem lw_p7 : lw_okq (⟨"HueWar$Law", "readEither", "(I)V"⟩, 10) := ⟨⟨by decide +kernel, by decide +kernel⟩, List.mem_of_getElem? (i := 86) (by decide +kernel), List.mem_of_getElem? (i := 468) (by decide +kernel), List.mem_of_getElem? (i := 469) (by decide +kernel)⟩
theorem lw_p8 : lw_okq (⟨"HueWar$Law", "readBoth", "(I)V"⟩, 10) := ⟨⟨by decide +kernel, by decide +kernel⟩, List.mem_of_getElem? (i := 86) (by decide +kernel), List.mem_of_getElem? (i := 472) (by decide +kernel), List.mem_of_getElem? (i := 473) (by decide +kernel)⟩
theorem lw_p9 : lw_okq (⟨"HueWar$Law", "readPiece", "(I)V"⟩, 10) := ⟨⟨by decide +kernel, by decide +kernel⟩, List.mem_of_getElem? (i := 86) (by decide +kernel), List.mem_of_getElem? (i := 476) (by decide +kernel), List.mem_of_getElem? (i := 477) (by decide +kernel)⟩
theorem lw_p10 : lw_okq (⟨"HueWar$Law", "leadHere", "(I)V"⟩, 10) := ⟨⟨by decide +kernel, by decide +kernel⟩, List.mem_of_getElem? (i := 86) (by decide +kernel), List.mem_of_getElem? (i := 480) (by decide +kernel), List.mem_of_getElem? (i := 481) (by decide +kernel)⟩
theorem lw_p11 : lw_okq (⟨"HueWar$Ground", "readRow", "(I)V"⟩, 4) := ⟨⟨by decide +kernel, by decide +kernel⟩, List.mem_of_getElem? (i := 67) (by decide +kernel), List.mem_of_getElem? (i := 517) (by decide +kernel), List.mem_of_getElem? (i := 518) (by decide +kernel)⟩
theorem lw_p12 : lw_okq (⟨"HueWar$Ground", "readFields", "(II)I"⟩, 4) := ⟨⟨by decide +kernel, by decide +kernel⟩, List.mem_of_getElem? (i := 67) (by decide +kernel), List.mem_of_getElem? (i := 528) (by decide +kernel), List.mem_of_getElem? (i := 529) (by decide +kernel)⟩
theorem lw_p13 : lw_okq (⟨"HueWar$Lines", "readLine", "()V"⟩, 7) := ⟨⟨by decide +kernel, by decide +kernel⟩, List.mem_of_getElem? (i := 123) (by decide +kernel), List.mem_of_getElem? (i := 552) (by decide +kernel), List.mem_of_getElem? (i := 553) (by decide +kernel)⟩
theorem lw_p14 : lw_okq (⟨"HueWar$Lines", "readColour", "()I"⟩, 7) := ⟨⟨by decide +kernel, by decide +kernel⟩, List.mem_of_getElem? (i := 123) (by decide +kernel), List.mem_of_getElem? (i := 559) (by decide +kernel), List.mem_of_getElem? (i := 560) (by decide +kernel)⟩
theorem lw_p15 : lw_okq (⟨"HueWar$Lines", "readQuarters", "()I"⟩, 7) := ⟨⟨by decide +kernel, by decide +kernel⟩, List.mem_of_getElem? (i := 123) (by decide +kernel), List.mem_of_getElem? (i := 573) (by decide +kernel), List.mem_of_getElem? (i := 574) (by decide +kernel)⟩
def lw_privs_1 : List (MethodName × Nat) := [(⟨"HueWar", "isOnTape", "(II)Z"⟩, 16), (⟨"HueWar$Law", "readClause", "()V"⟩, 10), (⟨"HueWar$Law", "readSum", "(I)V"⟩, 10), (⟨"HueWar$Law", "readProduct", "(I)V"⟩, 10), (⟨"HueWar$Law", "readFactor", "(I)V"⟩, 10), (⟨"HueWar$Law", "readNumber", "()V"⟩, 10), (⟨"HueWar$Law", "emit", "(II)I"⟩, 10), (⟨"HueWar$Law", "readEither", "(I)V"⟩, 10), (⟨"HueWar$Law", "readBoth", "(I)V"⟩, 10), (⟨"HueWar$Law", "readPiece", "(I)V"⟩, 10), (⟨"HueWar$Law", "leadHere", "(I)V"⟩, 10), (⟨"HueWar$Ground", "readRow", "(I)V"⟩, 4), (⟨"HueWar$Ground", "readFields", "(II)I"⟩, 4), (⟨"HueWar$Lines", "readLine", "()V"⟩, 7), (⟨"HueWar$Lines", "readColour", "()I"⟩, 7), (⟨"HueWar$Lines", "readQuarters", "()I"⟩, 7)]
theorem lw_r1 : ∀ q ∈ lw_privs_1, lw_okq q := List.forall_mem_cons.mpr ⟨lw_p0, List.forall_mem_cons.mpr ⟨lw_p1, List.forall_mem_cons.mpr ⟨lw_p2, List.forall_mem_cons.mpr ⟨lw_p3, List.forall_mem_cons.mpr ⟨lw_p4, List.forall_mem_cons.mpr ⟨lw_p5, List.forall_mem_cons.mpr ⟨lw_p6, List.forall_mem_cons.mpr ⟨lw_p7, List.forall_mem_cons.mpr ⟨lw_p8, List.forall_mem_cons.mpr ⟨lw_p9, List.forall_mem_cons.mpr ⟨lw_p10, List.forall_mem_cons.mpr ⟨lw_p11, List.forall_mem_cons.mpr ⟨lw_p12, List.forall_mem_cons.mpr ⟨lw_p13, List.forall_mem_cons.mpr ⟨lw_p14, List.forall_mem_cons.mpr ⟨lw_p15, fun _ h => absurd h List.not_mem_nil⟩⟩⟩⟩⟩⟩⟩⟩⟩⟩⟩⟩⟩⟩⟩⟩
theorem lw_p16 : lw_okq (⟨"HueWar$Lines", "readSign", "()I"⟩, 7) := ⟨⟨by decide +kernel, by decide +kernel⟩, List.mem_of_getElem? (i := 123) (by decide +kernel), List.mem_of_getElem? (i := 578) (by decide +kernel), List.mem_of_getElem? (i := 579) (by decide +kernel)⟩
theorem lw_p17 : lw_okq (⟨"HueWar$Lines", "readEmpire", "(I)I"⟩, 7) := ⟨⟨by decide +kernel, by decide +kernel⟩, List.mem_of_getElem? (i := 123) (by decide +kernel), List.mem_of_getElem? (i := 582) (by decide +kernel), List.mem_of_getElem? (i := 583) (by decide +kernel)⟩
theorem lw_p18 : lw_okq (⟨"HueWar", "isMade", "(LHueWar$State;I)Z"⟩, 16) := ⟨⟨by decide +kernel, by decide +kernel⟩, List.mem_of_getElem? (i := 17) (by decide +kernel), List.mem_of_getElem? (i := 595) (by decide +kernel), List.mem_of_getElem? (i := 596) (by decide +kernel)⟩
theorem lw_p19 : lw_okq (⟨"HueWar$State", "canGo", "(IIII)Z"⟩, 8) := ⟨⟨by decide +kernel, by decide +kernel⟩, List.mem_of_getElem? (i := 151) (by decide +kernel), List.mem_of_getElem? (i := 624) (by decide +kernel), List.mem_of_getElem? (i := 625) (by decide +kernel)⟩
theorem lw_p20 : lw_okq (⟨"HueWar$State", "move", "(IIII)V"⟩, 8) := ⟨⟨by decide +kernel, by decide +kernel⟩, List.mem_of_getElem? (i := 151) (by decide +kernel), List.mem_of_getElem? (i := 633) (by decide +kernel), List.mem_of_getElem? (i := 634) (by decide +kernel)⟩
theorem lw_p21 : lw_okq (⟨"HueWar$State", "goByOnce", "(LHueWar$Law;)I"⟩, 8) := ⟨⟨by decide +kernel, by decide +kernel⟩, List.mem_of_getElem? (i := 151) (by decide +kernel), List.mem_of_getElem? (i := 667) (by decide +kernel), List.mem_of_getElem? (i := 668) (by decide +kernel)⟩
theorem lw_p22 : lw_okq (⟨"HueWar$State", "chance", "(LHueWar$Law;I)I"⟩, 8) := ⟨⟨by decide +kernel, by decide +kernel⟩, List.mem_of_getElem? (i := 151) (by decide +kernel), List.mem_of_getElem? (i := 672) (by decide +kernel), List.mem_of_getElem? (i := 673) (by decide +kernel)⟩
theorem lw_p23 : lw_okq (⟨"HueWar$Law", "run", "(I)I"⟩, 10) := ⟨⟨by decide +kernel, by decide +kernel⟩, List.mem_of_getElem? (i := 86) (by decide +kernel), List.mem_of_getElem? (i := 710) (by decide +kernel), List.mem_of_getElem? (i := 711) (by decide +kernel)⟩
theorem lw_p24 : lw_okq (⟨"HueWar$State", "breakTreaty", "(I)V"⟩, 8) := ⟨⟨by decide +kernel, by decide +kernel⟩, List.mem_of_getElem? (i := 151) (by decide +kernel), List.mem_of_getElem? (i := 721) (by decide +kernel), List.mem_of_getElem? (i := 722) (by decide +kernel)⟩
theorem lw_p25 : lw_okq (⟨"HueWar", "isHidden", "(II)Z"⟩, 16) := ⟨⟨by decide +kernel, by decide +kernel⟩, List.mem_of_getElem? (i := 17) (by decide +kernel), List.mem_of_getElem? (i := 846) (by decide +kernel), List.mem_of_getElem? (i := 847) (by decide +kernel)⟩
theorem lw_p26 : lw_okq (⟨"HueWar$Paths", "forget", "()V"⟩, 6) := ⟨⟨by decide +kernel, by decide +kernel⟩, List.mem_of_getElem? (i := 260) (by decide +kernel), List.mem_of_getElem? (i := 868) (by decide +kernel), List.mem_of_getElem? (i := 869) (by decide +kernel)⟩
theorem lw_p27 : lw_okq (⟨"HueWar$Paths", "nearest", "()I"⟩, 6) := ⟨⟨by decide +kernel, by decide +kernel⟩, List.mem_of_getElem? (i := 260) (by decide +kernel), List.mem_of_getElem? (i := 873) (by decide +kernel), List.mem_of_getElem? (i := 874) (by decide +kernel)⟩
theorem lw_p28 : lw_okq (⟨"HueWar$Paths", "leave", "(I)V"⟩, 6) := ⟨⟨by decide +kernel, by decide +kernel⟩, List.mem_of_getElem? (i := 260) (by decide +kernel), List.mem_of_getElem? (i := 877) (by decide +kernel), List.mem_of_getElem? (i := 878) (by decide +kernel)⟩
theorem lw_p29 : lw_okq (⟨"HueWar$Paths", "fill", "(I)I"⟩, 6) := ⟨⟨by decide +kernel, by decide +kernel⟩, List.mem_of_getElem? (i := 260) (by decide +kernel), List.mem_of_getElem? (i := 909) (by decide +kernel), List.mem_of_getElem? (i := 910) (by decide +kernel)⟩
theorem lw_p30 : lw_okq (⟨"HueWar$Paths", "push", "(II)I"⟩, 6) := ⟨⟨by decide +kernel, by decide +kernel⟩, List.mem_of_getElem? (i := 260) (by decide +kernel), List.mem_of_getElem? (i := 913) (by decide +kernel), List.mem_of_getElem? (i := 914) (by decide +kernel)⟩
theorem lw_p31 : lw_okq (⟨"HueWar$Purse", "fieldsOf", "(II)I"⟩, 6) := ⟨⟨by decide +kernel, by decide +kernel⟩, List.mem_of_getElem? (i := 201) (by decide +kernel), List.mem_of_getElem? (i := 938) (by decide +kernel), List.mem_of_getElem? (i := 939) (by decide +kernel)⟩
def lw_privs_2 : List (MethodName × Nat) := [(⟨"HueWar$Lines", "readSign", "()I"⟩, 7), (⟨"HueWar$Lines", "readEmpire", "(I)I"⟩, 7), (⟨"HueWar", "isMade", "(LHueWar$State;I)Z"⟩, 16), (⟨"HueWar$State", "canGo", "(IIII)Z"⟩, 8), (⟨"HueWar$State", "move", "(IIII)V"⟩, 8), (⟨"HueWar$State", "goByOnce", "(LHueWar$Law;)I"⟩, 8), (⟨"HueWar$State", "chance", "(LHueWar$Law;I)I"⟩, 8), (⟨"HueWar$Law", "run", "(I)I"⟩, 10), (⟨"HueWar$State", "breakTreaty", "(I)V"⟩, 8), (⟨"HueWar", "isHidden", "(II)Z"⟩, 16), (⟨"HueWar$Paths", "forget", "()V"⟩, 6), (⟨"HueWar$Paths", "nearest", "()I"⟩, 6), (⟨"HueWar$Paths", "leave", "(I)V"⟩, 6), (⟨"HueWar$Paths", "fill", "(I)I"⟩, 6), (⟨"HueWar$Paths", "push", "(II)I"⟩, 6), (⟨"HueWar$Purse", "fieldsOf", "(II)I"⟩, 6)]
theorem lw_r2 : ∀ q ∈ lw_privs_2, lw_okq q := List.forall_mem_cons.mpr ⟨lw_p16, List.forall_mem_cons.mpr ⟨lw_p17, List.forall_mem_cons.mpr ⟨lw_p18, List.forall_mem_cons.mpr ⟨lw_p19, List.forall_mem_cons.mpr ⟨lw_p20, List.forall_mem_cons.mpr ⟨lw_p21, List.forall_mem_cons.mpr ⟨lw_p22, List.forall_mem_cons.mpr ⟨lw_p23, List.forall_mem_cons.mpr ⟨lw_p24, List.forall_mem_cons.mpr ⟨lw_p25, List.forall_mem_cons.mpr ⟨lw_p26, List.forall_mem_cons.mpr ⟨lw_p27, List.forall_mem_cons.mpr ⟨lw_p28, List.forall_mem_cons.mpr ⟨lw_p29, List.forall_mem_cons.mpr ⟨lw_p30, List.forall_mem_cons.mpr ⟨lw_p31, fun _ h => absurd h List.not_mem_nil⟩⟩⟩⟩⟩⟩⟩⟩⟩⟩⟩⟩⟩⟩⟩⟩
theorem lw_p32 : lw_okq (⟨"HueWar$Purse", "priceOf", "(IIIII)I"⟩, 6) := ⟨⟨by decide +kernel, by decide +kernel⟩, List.mem_of_getElem? (i := 201) (by decide +kernel), List.mem_of_getElem? (i := 947) (by decide +kernel), List.mem_of_getElem? (i := 948) (by decide +kernel)⟩
theorem lw_p33 : lw_okq (⟨"HueWar$Duel", "isChosen", "(I)Z"⟩, 9) := ⟨⟨by decide +kernel, by decide +kernel⟩, List.mem_of_getElem? (i := 226) (by decide +kernel), List.mem_of_getElem? (i := 1004) (by decide +kernel), List.mem_of_getElem? (i := 1005) (by decide +kernel)⟩
theorem lw_p34 : lw_okq (⟨"HueWar$Duel", "findTwos", "()V"⟩, 9) := ⟨⟨by decide +kernel, by decide +kernel⟩, List.mem_of_getElem? (i := 226) (by decide +kernel), List.mem_of_getElem? (i := 1015) (by decide +kernel), List.mem_of_getElem? (i := 1016) (by decide +kernel)⟩
theorem lw_p35 : lw_okq (⟨"HueWar$Duel", "isBestOfA", "(I)Z"⟩, 9) := ⟨⟨by decide +kernel, by decide +kernel⟩, List.mem_of_getElem? (i := 226) (by decide +kernel), List.mem_of_getElem? (i := 1019) (by decide +kernel), List.mem_of_getElem? (i := 1020) (by decide +kernel)⟩
theorem lw_p36 : lw_okq (⟨"HueWar$Duel", "isBestOfB", "(I)Z"⟩, 9) := ⟨⟨by decide +kernel, by decide +kernel⟩, List.mem_of_getElem? (i := 226) (by decide +kernel), List.mem_of_getElem? (i := 1023) (by decide +kernel), List.mem_of_getElem? (i := 1024) (by decide +kernel)⟩
theorem lw_p37 : lw_okq (⟨"HueWar", "findPartners", "(III)V"⟩, 16) := ⟨⟨by decide +kernel, by decide +kernel⟩, List.mem_of_getElem? (i := 17) (by decide +kernel), List.mem_of_getElem? (i := 1043) (by decide +kernel), List.mem_of_getElem? (i := 1044) (by decide +kernel)⟩
theorem lw_p38 : lw_okq (⟨"HueWar", "unlike", "(I)I"⟩, 16) := ⟨⟨by decide +kernel, by decide +kernel⟩, List.mem_of_getElem? (i := 17) (by decide +kernel), List.mem_of_getElem? (i := 1051) (by decide +kernel), List.mem_of_getElem? (i := 1052) (by decide +kernel)⟩
theorem lw_p39 : lw_okq (⟨"HueWar", "setsOf", "(I)I"⟩, 16) := ⟨⟨by decide +kernel, by decide +kernel⟩, List.mem_of_getElem? (i := 17) (by decide +kernel), List.mem_of_getElem? (i := 1059) (by decide +kernel), List.mem_of_getElem? (i := 1060) (by decide +kernel)⟩
theorem lw_p40 : lw_okq (⟨"HueWar", "isSignalSet", "(I)Z"⟩, 16) := ⟨⟨by decide +kernel, by decide +kernel⟩, List.mem_of_getElem? (i := 17) (by decide +kernel), List.mem_of_getElem? (i := 1063) (by decide +kernel), List.mem_of_getElem? (i := 1064) (by decide +kernel)⟩
theorem lw_p41 : lw_okq (⟨"HueWar", "firstSetOf", "(I)I"⟩, 16) := ⟨⟨by decide +kernel, by decide +kernel⟩, List.mem_of_getElem? (i := 17) (by decide +kernel), List.mem_of_getElem? (i := 1067) (by decide +kernel), List.mem_of_getElem? (i := 1068) (by decide +kernel)⟩
theorem lw_p42 : lw_okq (⟨"HueWar", "mostSignals", "()I"⟩, 16) := ⟨⟨by decide +kernel, by decide +kernel⟩, List.mem_of_getElem? (i := 17) (by decide +kernel), List.mem_of_getElem? (i := 1071) (by decide +kernel), List.mem_of_getElem? (i := 1072) (by decide +kernel)⟩
theorem lw_p43 : lw_okq (⟨"HueWar", "areThoughts", "(I)Z"⟩, 16) := ⟨⟨by decide +kernel, by decide +kernel⟩, List.mem_of_getElem? (i := 17) (by decide +kernel), List.mem_of_getElem? (i := 1079) (by decide +kernel), List.mem_of_getElem? (i := 1080) (by decide +kernel)⟩
theorem lw_p44 : lw_okq (⟨"HueWar", "fairestRow", "(I)I"⟩, 16) := ⟨⟨by decide +kernel, by decide +kernel⟩, List.mem_of_getElem? (i := 17) (by decide +kernel), List.mem_of_getElem? (i := 1084) (by decide +kernel), List.mem_of_getElem? (i := 1085) (by decide +kernel)⟩
theorem lw_p45 : lw_okq (⟨"HueWar", "leastOf", "(II)I"⟩, 16) := ⟨⟨by decide +kernel, by decide +kernel⟩, List.mem_of_getElem? (i := 17) (by decide +kernel), List.mem_of_getElem? (i := 1088) (by decide +kernel), List.mem_of_getElem? (i := 1089) (by decide +kernel)⟩
theorem lw_p46 : lw_okq (⟨"HueWar", "thoughtOf", "(IIII)I"⟩, 16) := ⟨⟨by decide +kernel, by decide +kernel⟩, List.mem_of_getElem? (i := 17) (by decide +kernel), List.mem_of_getElem? (i := 1092) (by decide +kernel), List.mem_of_getElem? (i := 1093) (by decide +kernel)⟩
theorem lw_p47 : lw_okq (⟨"HueWar", "envyOf", "(II)I"⟩, 16) := ⟨⟨by decide +kernel, by decide +kernel⟩, List.mem_of_getElem? (i := 17) (by decide +kernel), List.mem_of_getElem? (i := 1100) (by decide +kernel), List.mem_of_getElem? (i := 1101) (by decide +kernel)⟩
def lw_privs_3 : List (MethodName × Nat) := [(⟨"HueWar$Purse", "priceOf", "(IIIII)I"⟩, 6), (⟨"HueWar$Duel", "isChosen", "(I)Z"⟩, 9), (⟨"HueWar$Duel", "findTwos", "()V"⟩, 9), (⟨"HueWar$Duel", "isBestOfA", "(I)Z"⟩, 9), (⟨"HueWar$Duel", "isBestOfB", "(I)Z"⟩, 9), (⟨"HueWar", "findPartners", "(III)V"⟩, 16), (⟨"HueWar", "unlike", "(I)I"⟩, 16), (⟨"HueWar", "setsOf", "(I)I"⟩, 16), (⟨"HueWar", "isSignalSet", "(I)Z"⟩, 16), (⟨"HueWar", "firstSetOf", "(I)I"⟩, 16), (⟨"HueWar", "mostSignals", "()I"⟩, 16), (⟨"HueWar", "areThoughts", "(I)Z"⟩, 16), (⟨"HueWar", "fairestRow", "(I)I"⟩, 16), (⟨"HueWar", "leastOf", "(II)I"⟩, 16), (⟨"HueWar", "thoughtOf", "(IIII)I"⟩, 16), (⟨"HueWar", "envyOf", "(II)I"⟩, 16)]
theorem lw_r3 : ∀ q ∈ lw_privs_3, lw_okq q := List.forall_mem_cons.mpr ⟨lw_p32, List.forall_mem_cons.mpr ⟨lw_p33, List.forall_mem_cons.mpr ⟨lw_p34, List.forall_mem_cons.mpr ⟨lw_p35, List.forall_mem_cons.mpr ⟨lw_p36, List.forall_mem_cons.mpr ⟨lw_p37, List.forall_mem_cons.mpr ⟨lw_p38, List.forall_mem_cons.mpr ⟨lw_p39, List.forall_mem_cons.mpr ⟨lw_p40, List.forall_mem_cons.mpr ⟨lw_p41, List.forall_mem_cons.mpr ⟨lw_p42, List.forall_mem_cons.mpr ⟨lw_p43, List.forall_mem_cons.mpr ⟨lw_p44, List.forall_mem_cons.mpr ⟨lw_p45, List.forall_mem_cons.mpr ⟨lw_p46, List.forall_mem_cons.mpr ⟨lw_p47, fun _ h => absurd h List.not_mem_nil⟩⟩⟩⟩⟩⟩⟩⟩⟩⟩⟩⟩⟩⟩⟩⟩
theorem lw_p48 : lw_okq (⟨"HueWar", "envies", "(IIII)Z"⟩, 16) := ⟨⟨by decide +kernel, by decide +kernel⟩, List.mem_of_getElem? (i := 17) (by decide +kernel), List.mem_of_getElem? (i := 1104) (by decide +kernel), List.mem_of_getElem? (i := 1105) (by decide +kernel)⟩
theorem lw_p49 : lw_okq (⟨"HueWar", "areShown", "(I)Z"⟩, 16) := ⟨⟨by decide +kernel, by decide +kernel⟩, List.mem_of_getElem? (i := 17) (by decide +kernel), List.mem_of_getElem? (i := 1112) (by decide +kernel), List.mem_of_getElem? (i := 1113) (by decide +kernel)⟩
theorem lw_p50 : lw_okq (⟨"HueWar", "findBright", "()V"⟩, 16) := ⟨⟨by decide +kernel, by decide +kernel⟩, List.mem_of_getElem? (i := 17) (by decide +kernel), List.mem_of_getElem? (i := 1116) (by decide +kernel), List.mem_of_getElem? (i := 1117) (by decide +kernel)⟩
theorem lw_p51 : lw_okq (⟨"HueWar", "fitting", "(I)I"⟩, 16) := ⟨⟨by decide +kernel, by decide +kernel⟩, List.mem_of_getElem? (i := 17) (by decide +kernel), List.mem_of_getElem? (i := 1120) (by decide +kernel), List.mem_of_getElem? (i := 1121) (by decide +kernel)⟩
theorem lw_p52 : lw_okq (⟨"HueWar", "fits", "(II)Z"⟩, 16) := ⟨⟨by decide +kernel, by decide +kernel⟩, List.mem_of_getElem? (i := 17) (by decide +kernel), List.mem_of_getElem? (i := 1124) (by decide +kernel), List.mem_of_getElem? (i := 1125) (by decide +kernel)⟩
theorem lw_p53 : lw_okq (⟨"HueWar", "bestShown", "(I)I"⟩, 16) := ⟨⟨by decide +kernel, by decide +kernel⟩, List.mem_of_getElem? (i := 17) (by decide +kernel), List.mem_of_getElem? (i := 1128) (by decide +kernel), List.mem_of_getElem? (i := 1129) (by decide +kernel)⟩
theorem lw_p54 : lw_okq (⟨"HueWar", "greaterPart", "(III)I"⟩, 16) := ⟨⟨by decide +kernel, by decide +kernel⟩, List.mem_of_getElem? (i := 17) (by decide +kernel), List.mem_of_getElem? (i := 1132) (by decide +kernel), List.mem_of_getElem? (i := 1133) (by decide +kernel)⟩
theorem lw_p55 : lw_okq (⟨"HueWarModel", "isColour", "(I)Z"⟩, 68) := ⟨⟨by decide +kernel, by decide +kernel⟩, List.mem_of_getElem? (i := 1154) (by decide +kernel), List.mem_of_getElem? (i := 1373) (by decide +kernel), List.mem_of_getElem? (i := 1374) (by decide +kernel)⟩
theorem lw_p56 : lw_okq (⟨"HueWarModel", "isPlain", "(I)Z"⟩, 68) := ⟨⟨by decide +kernel, by decide +kernel⟩, List.mem_of_getElem? (i := 1154) (by decide +kernel), List.mem_of_getElem? (i := 1384) (by decide +kernel), List.mem_of_getElem? (i := 1385) (by decide +kernel)⟩
theorem lw_p57 : lw_okq (⟨"HueWarModel", "types", "(I)V"⟩, 68) := ⟨⟨by decide +kernel, by decide +kernel⟩, List.mem_of_getElem? (i := 1154) (by decide +kernel), List.mem_of_getElem? (i := 1399) (by decide +kernel), List.mem_of_getElem? (i := 1400) (by decide +kernel)⟩
theorem lw_p58 : lw_okq (⟨"HueWarModel", "readsClause", "()Z"⟩, 68) := ⟨⟨by decide +kernel, by decide +kernel⟩, List.mem_of_getElem? (i := 1154) (by decide +kernel), List.mem_of_getElem? (i := 1407) (by decide +kernel), List.mem_of_getElem? (i := 1408) (by decide +kernel)⟩
theorem lw_p59 : lw_okq (⟨"HueWarModel", "here", "()I"⟩, 68) := ⟨⟨by decide +kernel, by decide +kernel⟩, List.mem_of_getElem? (i := 1154) (by decide +kernel), List.mem_of_getElem? (i := 1411) (by decide +kernel), List.mem_of_getElem? (i := 1412) (by decide +kernel)⟩
theorem lw_p60 : lw_okq (⟨"HueWarModel", "wrongAt", "(II)Z"⟩, 68) := ⟨⟨by decide +kernel, by decide +kernel⟩, List.mem_of_getElem? (i := 1154) (by decide +kernel), List.mem_of_getElem? (i := 1418) (by decide +kernel), List.mem_of_getElem? (i := 1419) (by decide +kernel)⟩
theorem lw_p61 : lw_okq (⟨"HueWarModel", "readsSum", "()Z"⟩, 68) := ⟨⟨by decide +kernel, by decide +kernel⟩, List.mem_of_getElem? (i := 1154) (by decide +kernel), List.mem_of_getElem? (i := 1422) (by decide +kernel), List.mem_of_getElem? (i := 1423) (by decide +kernel)⟩
theorem lw_p62 : lw_okq (⟨"HueWarModel", "readsFactor", "()Z"⟩, 68) := ⟨⟨by decide +kernel, by decide +kernel⟩, List.mem_of_getElem? (i := 1154) (by decide +kernel), List.mem_of_getElem? (i := 1426) (by decide +kernel), List.mem_of_getElem? (i := 1427) (by decide +kernel)⟩
theorem lw_p63 : lw_okq (⟨"HueWarModel", "opens", "(I)Z"⟩, 68) := ⟨⟨by decide +kernel, by decide +kernel⟩, List.mem_of_getElem? (i := 1154) (by decide +kernel), List.mem_of_getElem? (i := 1430) (by decide +kernel), List.mem_of_getElem? (i := 1431) (by decide +kernel)⟩
def lw_privs_4 : List (MethodName × Nat) := [(⟨"HueWar", "envies", "(IIII)Z"⟩, 16), (⟨"HueWar", "areShown", "(I)Z"⟩, 16), (⟨"HueWar", "findBright", "()V"⟩, 16), (⟨"HueWar", "fitting", "(I)I"⟩, 16), (⟨"HueWar", "fits", "(II)Z"⟩, 16), (⟨"HueWar", "bestShown", "(I)I"⟩, 16), (⟨"HueWar", "greaterPart", "(III)I"⟩, 16), (⟨"HueWarModel", "isColour", "(I)Z"⟩, 68), (⟨"HueWarModel", "isPlain", "(I)Z"⟩, 68), (⟨"HueWarModel", "types", "(I)V"⟩, 68), (⟨"HueWarModel", "readsClause", "()Z"⟩, 68), (⟨"HueWarModel", "here", "()I"⟩, 68), (⟨"HueWarModel", "wrongAt", "(II)Z"⟩, 68), (⟨"HueWarModel", "readsSum", "()Z"⟩, 68), (⟨"HueWarModel", "readsFactor", "()Z"⟩, 68), (⟨"HueWarModel", "opens", "(I)Z"⟩, 68)]
theorem lw_r4 : ∀ q ∈ lw_privs_4, lw_okq q := List.forall_mem_cons.mpr ⟨lw_p48, List.forall_mem_cons.mpr ⟨lw_p49, List.forall_mem_cons.mpr ⟨lw_p50, List.forall_mem_cons.mpr ⟨lw_p51, List.forall_mem_cons.mpr ⟨lw_p52, List.forall_mem_cons.mpr ⟨lw_p53, List.forall_mem_cons.mpr ⟨lw_p54, List.forall_mem_cons.mpr ⟨lw_p55, List.forall_mem_cons.mpr ⟨lw_p56, List.forall_mem_cons.mpr ⟨lw_p57, List.forall_mem_cons.mpr ⟨lw_p58, List.forall_mem_cons.mpr ⟨lw_p59, List.forall_mem_cons.mpr ⟨lw_p60, List.forall_mem_cons.mpr ⟨lw_p61, List.forall_mem_cons.mpr ⟨lw_p62, List.forall_mem_cons.mpr ⟨lw_p63, fun _ h => absurd h List.not_mem_nil⟩⟩⟩⟩⟩⟩⟩⟩⟩⟩⟩⟩⟩⟩⟩⟩
theorem lw_p64 : lw_okq (⟨"HueWarModel", "isDigit", "()Z"⟩, 68) := ⟨⟨by decide +kernel, by decide +kernel⟩, List.mem_of_getElem? (i := 1154) (by decide +kernel), List.mem_of_getElem? (i := 1435) (by decide +kernel), List.mem_of_getElem? (i := 1436) (by decide +kernel)⟩
theorem lw_p65 : lw_okq (⟨"HueWarModel", "readsNumber", "()Z"⟩, 68) := ⟨⟨by decide +kernel, by decide +kernel⟩, List.mem_of_getElem? (i := 1154) (by decide +kernel), List.mem_of_getElem? (i := 1439) (by decide +kernel), List.mem_of_getElem? (i := 1440) (by decide +kernel)⟩
theorem lw_p66 : lw_okq (⟨"HueWarModel", "notes", "(II)V"⟩, 68) := ⟨⟨by decide +kernel, by decide +kernel⟩, List.mem_of_getElem? (i := 1154) (by decide +kernel), List.mem_of_getElem? (i := 1443) (by decide +kernel), List.mem_of_getElem? (i := 1444) (by decide +kernel)⟩
theorem lw_p67 : lw_okq (⟨"HueWarModel", "closesSums", "(Z)V"⟩, 68) := ⟨⟨by decide +kernel, by decide +kernel⟩, List.mem_of_getElem? (i := 1154) (by decide +kernel), List.mem_of_getElem? (i := 1453) (by decide +kernel), List.mem_of_getElem? (i := 1454) (by decide +kernel)⟩
theorem lw_p68 : lw_okq (⟨"HueWarModel", "waitTop", "()I"⟩, 68) := ⟨⟨by decide +kernel, by decide +kernel⟩, List.mem_of_getElem? (i := 1154) (by decide +kernel), List.mem_of_getElem? (i := 1457) (by decide +kernel), List.mem_of_getElem? (i := 1458) (by decide +kernel)⟩
theorem lw_p69 : lw_okq (⟨"HueWarModel", "hasOpenSum", "(I)Z"⟩, 68) := ⟨⟨by decide +kernel, by decide +kernel⟩, List.mem_of_getElem? (i := 1154) (by decide +kernel), List.mem_of_getElem? (i := 1461) (by decide +kernel), List.mem_of_getElem? (i := 1462) (by decide +kernel)⟩
theorem lw_p70 : lw_okq (⟨"HueWarModel", "readsCondition", "()Z"⟩, 68) := ⟨⟨by decide +kernel, by decide +kernel⟩, List.mem_of_getElem? (i := 1154) (by decide +kernel), List.mem_of_getElem? (i := 1465) (by decide +kernel), List.mem_of_getElem? (i := 1466) (by decide +kernel)⟩
theorem lw_p71 : lw_okq (⟨"HueWarModel", "readsCompared", "()Z"⟩, 68) := ⟨⟨by decide +kernel, by decide +kernel⟩, List.mem_of_getElem? (i := 1154) (by decide +kernel), List.mem_of_getElem? (i := 1469) (by decide +kernel), List.mem_of_getElem? (i := 1470) (by decide +kernel)⟩
theorem lw_p72 : lw_okq (⟨"HueWarModel", "endsPiece", "()V"⟩, 68) := ⟨⟨by decide +kernel, by decide +kernel⟩, List.mem_of_getElem? (i := 1154) (by decide +kernel), List.mem_of_getElem? (i := 1473) (by decide +kernel), List.mem_of_getElem? (i := 1474) (by decide +kernel)⟩
theorem lw_p73 : lw_okq (⟨"HueWarModel", "lands", "(Z)V"⟩, 68) := ⟨⟨by decide +kernel, by decide +kernel⟩, List.mem_of_getElem? (i := 1154) (by decide +kernel), List.mem_of_getElem? (i := 1477) (by decide +kernel), List.mem_of_getElem? (i := 1478) (by decide +kernel)⟩
theorem lw_p74 : lw_okq (⟨"HueWarModel", "jumps", "(I)V"⟩, 68) := ⟨⟨by decide +kernel, by decide +kernel⟩, List.mem_of_getElem? (i := 1154) (by decide +kernel), List.mem_of_getElem? (i := 1481) (by decide +kernel), List.mem_of_getElem? (i := 1482) (by decide +kernel)⟩
theorem lw_p75 : lw_okq (⟨"HueWarModel", "takes", "(I)Z"⟩, 68) := ⟨⟨by decide +kernel, by decide +kernel⟩, List.mem_of_getElem? (i := 1154) (by decide +kernel), List.mem_of_getElem? (i := 1485) (by decide +kernel), List.mem_of_getElem? (i := 1486) (by decide +kernel)⟩
theorem lw_p76 : lw_okq (⟨"HueWarModel", "seenBy", "(II)I"⟩, 68) := ⟨⟨by decide +kernel, by decide +kernel⟩, List.mem_of_getElem? (i := 1154) (by decide +kernel), List.mem_of_getElem? (i := 1496) (by decide +kernel), List.mem_of_getElem? (i := 1497) (by decide +kernel)⟩
theorem lw_p77 : lw_okq (⟨"HueWarModel", "isSeen", "(IIII)Z"⟩, 68) := ⟨⟨by decide +kernel, by decide +kernel⟩, List.mem_of_getElem? (i := 1154) (by decide +kernel), List.mem_of_getElem? (i := 1500) (by decide +kernel), List.mem_of_getElem? (i := 1501) (by decide +kernel)⟩
theorem lw_p78 : lw_okq (⟨"HueWarModel", "isMixed", "(I)Z"⟩, 68) := ⟨⟨by decide +kernel, by decide +kernel⟩, List.mem_of_getElem? (i := 1154) (by decide +kernel), List.mem_of_getElem? (i := 1504) (by decide +kernel), List.mem_of_getElem? (i := 1505) (by decide +kernel)⟩
theorem lw_p79 : lw_okq (⟨"HueWarModel", "feels", "(III)V"⟩, 68) := ⟨⟨by decide +kernel, by decide +kernel⟩, List.mem_of_getElem? (i := 1154) (by decide +kernel), List.mem_of_getElem? (i := 1508) (by decide +kernel), List.mem_of_getElem? (i := 1509) (by decide +kernel)⟩
def lw_privs_5 : List (MethodName × Nat) := [(⟨"HueWarModel", "isDigit", "()Z"⟩, 68), (⟨"HueWarModel", "readsNumber", "()Z"⟩, 68), (⟨"HueWarModel", "notes", "(II)V"⟩, 68), (⟨"HueWarModel", "closesSums", "(Z)V"⟩, 68), (⟨"HueWarModel", "waitTop", "()I"⟩, 68), (⟨"HueWarModel", "hasOpenSum", "(I)Z"⟩, 68), (⟨"HueWarModel", "readsCondition", "()Z"⟩, 68), (⟨"HueWarModel", "readsCompared", "()Z"⟩, 68), (⟨"HueWarModel", "endsPiece", "()V"⟩, 68), (⟨"HueWarModel", "lands", "(Z)V"⟩, 68), (⟨"HueWarModel", "jumps", "(I)V"⟩, 68), (⟨"HueWarModel", "takes", "(I)Z"⟩, 68), (⟨"HueWarModel", "seenBy", "(II)I"⟩, 68), (⟨"HueWarModel", "isSeen", "(IIII)Z"⟩, 68), (⟨"HueWarModel", "isMixed", "(I)Z"⟩, 68), (⟨"HueWarModel", "feels", "(III)V"⟩, 68)]
theorem lw_r5 : ∀ q ∈ lw_privs_5, lw_okq q := List.forall_mem_cons.mpr ⟨lw_p64, List.forall_mem_cons.mpr ⟨lw_p65, List.forall_mem_cons.mpr ⟨lw_p66, List.forall_mem_cons.mpr ⟨lw_p67, List.forall_mem_cons.mpr ⟨lw_p68, List.forall_mem_cons.mpr ⟨lw_p69, List.forall_mem_cons.mpr ⟨lw_p70, List.forall_mem_cons.mpr ⟨lw_p71, List.forall_mem_cons.mpr ⟨lw_p72, List.forall_mem_cons.mpr ⟨lw_p73, List.forall_mem_cons.mpr ⟨lw_p74, List.forall_mem_cons.mpr ⟨lw_p75, List.forall_mem_cons.mpr ⟨lw_p76, List.forall_mem_cons.mpr ⟨lw_p77, List.forall_mem_cons.mpr ⟨lw_p78, List.forall_mem_cons.mpr ⟨lw_p79, fun _ h => absurd h List.not_mem_nil⟩⟩⟩⟩⟩⟩⟩⟩⟩⟩⟩⟩⟩⟩⟩⟩
theorem lw_p80 : lw_okq (⟨"HueWarModel", "holds", "(IZ)Z"⟩, 68) := ⟨⟨by decide +kernel, by decide +kernel⟩, List.mem_of_getElem? (i := 1154) (by decide +kernel), List.mem_of_getElem? (i := 1515) (by decide +kernel), List.mem_of_getElem? (i := 1516) (by decide +kernel)⟩
theorem lw_p81 : lw_okq (⟨"HueWarModel", "comesTo", "(II)I"⟩, 68) := ⟨⟨by decide +kernel, by decide +kernel⟩, List.mem_of_getElem? (i := 1154) (by decide +kernel), List.mem_of_getElem? (i := 1519) (by decide +kernel), List.mem_of_getElem? (i := 1520) (by decide +kernel)⟩
theorem lw_p82 : lw_okq (⟨"HueWarModel", "laysAs", "(II)V"⟩, 68) := ⟨⟨by decide +kernel, by decide +kernel⟩, List.mem_of_getElem? (i := 1154) (by decide +kernel), List.mem_of_getElem? (i := 1530) (by decide +kernel), List.mem_of_getElem? (i := 1531) (by decide +kernel)⟩
theorem lw_p83 : lw_okq (⟨"HueWarModel", "readsLines", "(I)Z"⟩, 68) := ⟨⟨by decide +kernel, by decide +kernel⟩, List.mem_of_getElem? (i := 1154) (by decide +kernel), List.mem_of_getElem? (i := 1542) (by decide +kernel), List.mem_of_getElem? (i := 1543) (by decide +kernel)⟩
theorem lw_p84 : lw_okq (⟨"HueWarModel", "readsLine", "()Z"⟩, 68) := ⟨⟨by decide +kernel, by decide +kernel⟩, List.mem_of_getElem? (i := 1154) (by decide +kernel), List.mem_of_getElem? (i := 1546) (by decide +kernel), List.mem_of_getElem? (i := 1547) (by decide +kernel)⟩
theorem lw_p85 : lw_okq (⟨"HueWarModel", "readsColour", "()Z"⟩, 68) := ⟨⟨by decide +kernel, by decide +kernel⟩, List.mem_of_getElem? (i := 1154) (by decide +kernel), List.mem_of_getElem? (i := 1550) (by decide +kernel), List.mem_of_getElem? (i := 1551) (by decide +kernel)⟩
theorem lw_p86 : lw_okq (⟨"HueWarModel", "readsQuarters", "()Z"⟩, 68) := ⟨⟨by decide +kernel, by decide +kernel⟩, List.mem_of_getElem? (i := 1154) (by decide +kernel), List.mem_of_getElem? (i := 1554) (by decide +kernel), List.mem_of_getElem? (i := 1555) (by decide +kernel)⟩
theorem lw_p87 : lw_okq (⟨"HueWarModel", "readsEmpire", "(I)Z"⟩, 68) := ⟨⟨by decide +kernel, by decide +kernel⟩, List.mem_of_getElem? (i := 1154) (by decide +kernel), List.mem_of_getElem? (i := 1558) (by decide +kernel), List.mem_of_getElem? (i := 1559) (by decide +kernel)⟩
theorem lw_p88 : lw_okq (⟨"HueWarModel", "makes", "(I)Z"⟩, 68) := ⟨⟨by decide +kernel, by decide +kernel⟩, List.mem_of_getElem? (i := 1154) (by decide +kernel), List.mem_of_getElem? (i := 1562) (by decide +kernel), List.mem_of_getElem? (i := 1563) (by decide +kernel)⟩
theorem lw_p89 : lw_okq (⟨"HueWarModel", "canBe", "(I)Z"⟩, 68) := ⟨⟨by decide +kernel, by decide +kernel⟩, List.mem_of_getElem? (i := 1154) (by decide +kernel), List.mem_of_getElem? (i := 1566) (by decide +kernel), List.mem_of_getElem? (i := 1567) (by decide +kernel)⟩
theorem lw_p90 : lw_okq (⟨"HueWarModel", "changes", "(IIIZ)V"⟩, 68) := ⟨⟨by decide +kernel, by decide +kernel⟩, List.mem_of_getElem? (i := 1154) (by decide +kernel), List.mem_of_getElem? (i := 1570) (by decide +kernel), List.mem_of_getElem? (i := 1571) (by decide +kernel)⟩
theorem lw_p91 : lw_okq (⟨"HueWarModel", "begins", "()V"⟩, 68) := ⟨⟨by decide +kernel, by decide +kernel⟩, List.mem_of_getElem? (i := 1154) (by decide +kernel), List.mem_of_getElem? (i := 1578) (by decide +kernel), List.mem_of_getElem? (i := 1579) (by decide +kernel)⟩
theorem lw_p92 : lw_okq (⟨"HueWarModel", "packs", "([I)V"⟩, 68) := ⟨⟨by decide +kernel, by decide +kernel⟩, List.mem_of_getElem? (i := 1154) (by decide +kernel), List.mem_of_getElem? (i := 1585) (by decide +kernel), List.mem_of_getElem? (i := 1586) (by decide +kernel)⟩
theorem lw_p93 : lw_okq (⟨"HueWarModel", "again", "()V"⟩, 68) := ⟨⟨by decide +kernel, by decide +kernel⟩, List.mem_of_getElem? (i := 1154) (by decide +kernel), List.mem_of_getElem? (i := 1589) (by decide +kernel), List.mem_of_getElem? (i := 1590) (by decide +kernel)⟩
theorem lw_p94 : lw_okq (⟨"HueWarModel", "unpacks", "([I)V"⟩, 68) := ⟨⟨by decide +kernel, by decide +kernel⟩, List.mem_of_getElem? (i := 1154) (by decide +kernel), List.mem_of_getElem? (i := 1593) (by decide +kernel), List.mem_of_getElem? (i := 1594) (by decide +kernel)⟩
theorem lw_p95 : lw_okq (⟨"HueWarModel", "daysGo", "(I)V"⟩, 68) := ⟨⟨by decide +kernel, by decide +kernel⟩, List.mem_of_getElem? (i := 1154) (by decide +kernel), List.mem_of_getElem? (i := 1605) (by decide +kernel), List.mem_of_getElem? (i := 1606) (by decide +kernel)⟩
def lw_privs_6 : List (MethodName × Nat) := [(⟨"HueWarModel", "holds", "(IZ)Z"⟩, 68), (⟨"HueWarModel", "comesTo", "(II)I"⟩, 68), (⟨"HueWarModel", "laysAs", "(II)V"⟩, 68), (⟨"HueWarModel", "readsLines", "(I)Z"⟩, 68), (⟨"HueWarModel", "readsLine", "()Z"⟩, 68), (⟨"HueWarModel", "readsColour", "()Z"⟩, 68), (⟨"HueWarModel", "readsQuarters", "()Z"⟩, 68), (⟨"HueWarModel", "readsEmpire", "(I)Z"⟩, 68), (⟨"HueWarModel", "makes", "(I)Z"⟩, 68), (⟨"HueWarModel", "canBe", "(I)Z"⟩, 68), (⟨"HueWarModel", "changes", "(IIIZ)V"⟩, 68), (⟨"HueWarModel", "begins", "()V"⟩, 68), (⟨"HueWarModel", "packs", "([I)V"⟩, 68), (⟨"HueWarModel", "again", "()V"⟩, 68), (⟨"HueWarModel", "unpacks", "([I)V"⟩, 68), (⟨"HueWarModel", "daysGo", "(I)V"⟩, 68)]
theorem lw_r6 : ∀ q ∈ lw_privs_6, lw_okq q := List.forall_mem_cons.mpr ⟨lw_p80, List.forall_mem_cons.mpr ⟨lw_p81, List.forall_mem_cons.mpr ⟨lw_p82, List.forall_mem_cons.mpr ⟨lw_p83, List.forall_mem_cons.mpr ⟨lw_p84, List.forall_mem_cons.mpr ⟨lw_p85, List.forall_mem_cons.mpr ⟨lw_p86, List.forall_mem_cons.mpr ⟨lw_p87, List.forall_mem_cons.mpr ⟨lw_p88, List.forall_mem_cons.mpr ⟨lw_p89, List.forall_mem_cons.mpr ⟨lw_p90, List.forall_mem_cons.mpr ⟨lw_p91, List.forall_mem_cons.mpr ⟨lw_p92, List.forall_mem_cons.mpr ⟨lw_p93, List.forall_mem_cons.mpr ⟨lw_p94, List.forall_mem_cons.mpr ⟨lw_p95, fun _ h => absurd h List.not_mem_nil⟩⟩⟩⟩⟩⟩⟩⟩⟩⟩⟩⟩⟩⟩⟩⟩
theorem lw_p96 : lw_okq (⟨"HueWarModel", "breaksBy", "(I)I"⟩, 68) := ⟨⟨by decide +kernel, by decide +kernel⟩, List.mem_of_getElem? (i := 1154) (by decide +kernel), List.mem_of_getElem? (i := 1610) (by decide +kernel), List.mem_of_getElem? (i := 1611) (by decide +kernel)⟩
theorem lw_p97 : lw_okq (⟨"HueWarModel", "byLaw", "(II)I"⟩, 68) := ⟨⟨by decide +kernel, by decide +kernel⟩, List.mem_of_getElem? (i := 1154) (by decide +kernel), List.mem_of_getElem? (i := 1617) (by decide +kernel), List.mem_of_getElem? (i := 1618) (by decide +kernel)⟩
theorem lw_p98 : lw_okq (⟨"HueWarModel", "ends", "(I)V"⟩, 68) := ⟨⟨by decide +kernel, by decide +kernel⟩, List.mem_of_getElem? (i := 1154) (by decide +kernel), List.mem_of_getElem? (i := 1621) (by decide +kernel), List.mem_of_getElem? (i := 1622) (by decide +kernel)⟩
theorem lw_p99 : lw_okq (⟨"HueWarModel", "hadAll", "(I)I"⟩, 68) := ⟨⟨by decide +kernel, by decide +kernel⟩, List.mem_of_getElem? (i := 1154) (by decide +kernel), List.mem_of_getElem? (i := 1629) (by decide +kernel), List.mem_of_getElem? (i := 1630) (by decide +kernel)⟩
theorem lw_p100 : lw_okq (⟨"HueWarModel", "readsRow", "(I)Z"⟩, 68) := ⟨⟨by decide +kernel, by decide +kernel⟩, List.mem_of_getElem? (i := 1154) (by decide +kernel), List.mem_of_getElem? (i := 1637) (by decide +kernel), List.mem_of_getElem? (i := 1638) (by decide +kernel)⟩
theorem lw_p101 : lw_okq (⟨"HueWarModel", "isUnseen", "(II)Z"⟩, 68) := ⟨⟨by decide +kernel, by decide +kernel⟩, List.mem_of_getElem? (i := 1154) (by decide +kernel), List.mem_of_getElem? (i := 1645) (by decide +kernel), List.mem_of_getElem? (i := 1646) (by decide +kernel)⟩
theorem lw_p102 : lw_okq (⟨"HueWarModel", "laysCosts", "(IIZ)V"⟩, 68) := ⟨⟨by decide +kernel, by decide +kernel⟩, List.mem_of_getElem? (i := 1154) (by decide +kernel), List.mem_of_getElem? (i := 1653) (by decide +kernel), List.mem_of_getElem? (i := 1654) (by decide +kernel)⟩
theorem lw_p103 : lw_okq (⟨"HueWarModel", "beside", "(II)I"⟩, 68) := ⟨⟨by decide +kernel, by decide +kernel⟩, List.mem_of_getElem? (i := 1154) (by decide +kernel), List.mem_of_getElem? (i := 1658) (by decide +kernel), List.mem_of_getElem? (i := 1659) (by decide +kernel)⟩
theorem lw_p104 : lw_okq (⟨"HueWarModel", "worthOf", "(II)I"⟩, 68) := ⟨⟨by decide +kernel, by decide +kernel⟩, List.mem_of_getElem? (i := 1154) (by decide +kernel), List.mem_of_getElem? (i := 1666) (by decide +kernel), List.mem_of_getElem? (i := 1667) (by decide +kernel)⟩
theorem lw_p105 : lw_okq (⟨"HueWarModel", "ownedOf", "(II)I"⟩, 68) := ⟨⟨by decide +kernel, by decide +kernel⟩, List.mem_of_getElem? (i := 1154) (by decide +kernel), List.mem_of_getElem? (i := 1670) (by decide +kernel), List.mem_of_getElem? (i := 1671) (by decide +kernel)⟩
theorem lw_p106 : lw_okq (⟨"HueWarModel", "worthWith", "(III)I"⟩, 68) := ⟨⟨by decide +kernel, by decide +kernel⟩, List.mem_of_getElem? (i := 1154) (by decide +kernel), List.mem_of_getElem? (i := 1686) (by decide +kernel), List.mem_of_getElem? (i := 1687) (by decide +kernel)⟩
theorem lw_p107 : lw_okq (⟨"HueWarModel", "laysAll", "(I)V"⟩, 68) := ⟨⟨by decide +kernel, by decide +kernel⟩, List.mem_of_getElem? (i := 1154) (by decide +kernel), List.mem_of_getElem? (i := 1697) (by decide +kernel), List.mem_of_getElem? (i := 1698) (by decide +kernel)⟩
theorem lw_p108 : lw_okq (⟨"HueWarModel", "isSignal", "(III)Z"⟩, 68) := ⟨⟨by decide +kernel, by decide +kernel⟩, List.mem_of_getElem? (i := 1154) (by decide +kernel), List.mem_of_getElem? (i := 1701) (by decide +kernel), List.mem_of_getElem? (i := 1702) (by decide +kernel)⟩
theorem lw_p109 : lw_okq (⟨"HueWarModel", "tellsApart", "(II)Z"⟩, 68) := ⟨⟨by decide +kernel, by decide +kernel⟩, List.mem_of_getElem? (i := 1154) (by decide +kernel), List.mem_of_getElem? (i := 1705) (by decide +kernel), List.mem_of_getElem? (i := 1706) (by decide +kernel)⟩
theorem lw_p110 : lw_okq (⟨"HueWarModel", "seesOne", "(II)Z"⟩, 68) := ⟨⟨by decide +kernel, by decide +kernel⟩, List.mem_of_getElem? (i := 1154) (by decide +kernel), List.mem_of_getElem? (i := 1709) (by decide +kernel), List.mem_of_getElem? (i := 1710) (by decide +kernel)⟩
theorem lw_p111 : lw_okq (⟨"HueWarModel", "leastBy", "(II)I"⟩, 68) := ⟨⟨by decide +kernel, by decide +kernel⟩, List.mem_of_getElem? (i := 1154) (by decide +kernel), List.mem_of_getElem? (i := 1720) (by decide +kernel), List.mem_of_getElem? (i := 1721) (by decide +kernel)⟩
def lw_privs_7 : List (MethodName × Nat) := [(⟨"HueWarModel", "breaksBy", "(I)I"⟩, 68), (⟨"HueWarModel", "byLaw", "(II)I"⟩, 68), (⟨"HueWarModel", "ends", "(I)V"⟩, 68), (⟨"HueWarModel", "hadAll", "(I)I"⟩, 68), (⟨"HueWarModel", "readsRow", "(I)Z"⟩, 68), (⟨"HueWarModel", "isUnseen", "(II)Z"⟩, 68), (⟨"HueWarModel", "laysCosts", "(IIZ)V"⟩, 68), (⟨"HueWarModel", "beside", "(II)I"⟩, 68), (⟨"HueWarModel", "worthOf", "(II)I"⟩, 68), (⟨"HueWarModel", "ownedOf", "(II)I"⟩, 68), (⟨"HueWarModel", "worthWith", "(III)I"⟩, 68), (⟨"HueWarModel", "laysAll", "(I)V"⟩, 68), (⟨"HueWarModel", "isSignal", "(III)Z"⟩, 68), (⟨"HueWarModel", "tellsApart", "(II)Z"⟩, 68), (⟨"HueWarModel", "seesOne", "(II)Z"⟩, 68), (⟨"HueWarModel", "leastBy", "(II)I"⟩, 68)]
theorem lw_r7 : ∀ q ∈ lw_privs_7, lw_okq q := List.forall_mem_cons.mpr ⟨lw_p96, List.forall_mem_cons.mpr ⟨lw_p97, List.forall_mem_cons.mpr ⟨lw_p98, List.forall_mem_cons.mpr ⟨lw_p99, List.forall_mem_cons.mpr ⟨lw_p100, List.forall_mem_cons.mpr ⟨lw_p101, List.forall_mem_cons.mpr ⟨lw_p102, List.forall_mem_cons.mpr ⟨lw_p103, List.forall_mem_cons.mpr ⟨lw_p104, List.forall_mem_cons.mpr ⟨lw_p105, List.forall_mem_cons.mpr ⟨lw_p106, List.forall_mem_cons.mpr ⟨lw_p107, List.forall_mem_cons.mpr ⟨lw_p108, List.forall_mem_cons.mpr ⟨lw_p109, List.forall_mem_cons.mpr ⟨lw_p110, List.forall_mem_cons.mpr ⟨lw_p111, fun _ h => absurd h List.not_mem_nil⟩⟩⟩⟩⟩⟩⟩⟩⟩⟩⟩⟩⟩⟩⟩⟩
theorem lw_p112 : lw_okq (⟨"HueWarModel", "hasBy", "(IIII)I"⟩, 68) := ⟨⟨by decide +kernel, by decide +kernel⟩, List.mem_of_getElem? (i := 1154) (by decide +kernel), List.mem_of_getElem? (i := 1724) (by decide +kernel), List.mem_of_getElem? (i := 1725) (by decide +kernel)⟩
theorem lw_p113 : lw_okq (⟨"HueWarModel", "laysFights", "(III)V"⟩, 68) := ⟨⟨by decide +kernel, by decide +kernel⟩, List.mem_of_getElem? (i := 1154) (by decide +kernel), List.mem_of_getElem? (i := 1735) (by decide +kernel), List.mem_of_getElem? (i := 1736) (by decide +kernel)⟩
theorem lw_p114 : lw_okq (⟨"HueWarModel", "canTake", "(IIII)Z"⟩, 68) := ⟨⟨by decide +kernel, by decide +kernel⟩, List.mem_of_getElem? (i := 1154) (by decide +kernel), List.mem_of_getElem? (i := 1739) (by decide +kernel), List.mem_of_getElem? (i := 1740) (by decide +kernel)⟩
theorem lw_p115 : lw_okq (⟨"HueWarModel", "rests", "(I)Z"⟩, 68) := ⟨⟨by decide +kernel, by decide +kernel⟩, List.mem_of_getElem? (i := 1154) (by decide +kernel), List.mem_of_getElem? (i := 1743) (by decide +kernel), List.mem_of_getElem? (i := 1744) (by decide +kernel)⟩
theorem lw_p116 : lw_okq (⟨"HueWarModel", "areShown", "(I)Z"⟩, 68) := ⟨⟨by decide +kernel, by decide +kernel⟩, List.mem_of_getElem? (i := 1154) (by decide +kernel), List.mem_of_getElem? (i := 1751) (by decide +kernel), List.mem_of_getElem? (i := 1752) (by decide +kernel)⟩
theorem lw_p117 : lw_okq (⟨"HueWarModel", "fitting", "(I)I"⟩, 68) := ⟨⟨by decide +kernel, by decide +kernel⟩, List.mem_of_getElem? (i := 1154) (by decide +kernel), List.mem_of_getElem? (i := 1755) (by decide +kernel), List.mem_of_getElem? (i := 1756) (by decide +kernel)⟩
theorem lw_p118 : lw_okq (⟨"HueWarModel", "stops", "(III)Z"⟩, 68) := ⟨⟨by decide +kernel, by decide +kernel⟩, List.mem_of_getElem? (i := 1154) (by decide +kernel), List.mem_of_getElem? (i := 1759) (by decide +kernel), List.mem_of_getElem? (i := 1760) (by decide +kernel)⟩
theorem lw_p119 : lw_okq (⟨"HueWarModel", "greaterBy", "(III)I"⟩, 68) := ⟨⟨by decide +kernel, by decide +kernel⟩, List.mem_of_getElem? (i := 1154) (by decide +kernel), List.mem_of_getElem? (i := 1763) (by decide +kernel), List.mem_of_getElem? (i := 1764) (by decide +kernel)⟩
theorem lw_p120 : lw_okq (⟨"HueWarModel", "laysSeas", "()V"⟩, 68) := ⟨⟨by decide +kernel, by decide +kernel⟩, List.mem_of_getElem? (i := 1154) (by decide +kernel), List.mem_of_getElem? (i := 1775) (by decide +kernel), List.mem_of_getElem? (i := 1776) (by decide +kernel)⟩
theorem lw_p121 : lw_okq (⟨"HueWarModel", "joins", "(II)Z"⟩, 68) := ⟨⟨by decide +kernel, by decide +kernel⟩, List.mem_of_getElem? (i := 1154) (by decide +kernel), List.mem_of_getElem? (i := 1779) (by decide +kernel), List.mem_of_getElem? (i := 1780) (by decide +kernel)⟩
theorem lw_p122 : lw_okq (⟨"HueWarModel", "tapeNumber", "(I)I"⟩, 68) := ⟨⟨by decide +kernel, by decide +kernel⟩, List.mem_of_getElem? (i := 1154) (by decide +kernel), List.mem_of_getElem? (i := 1800) (by decide +kernel), List.mem_of_getElem? (i := 1801) (by decide +kernel)⟩
theorem lw_p123 : lw_okq (⟨"HueWarModel", "mixedBits", "()I"⟩, 68) := ⟨⟨by decide +kernel, by decide +kernel⟩, List.mem_of_getElem? (i := 1154) (by decide +kernel), List.mem_of_getElem? (i := 1808) (by decide +kernel), List.mem_of_getElem? (i := 1809) (by decide +kernel)⟩
def lw_privs_8 : List (MethodName × Nat) := [(⟨"HueWarModel", "hasBy", "(IIII)I"⟩, 68), (⟨"HueWarModel", "laysFights", "(III)V"⟩, 68), (⟨"HueWarModel", "canTake", "(IIII)Z"⟩, 68), (⟨"HueWarModel", "rests", "(I)Z"⟩, 68), (⟨"HueWarModel", "areShown", "(I)Z"⟩, 68), (⟨"HueWarModel", "fitting", "(I)I"⟩, 68), (⟨"HueWarModel", "stops", "(III)Z"⟩, 68), (⟨"HueWarModel", "greaterBy", "(III)I"⟩, 68), (⟨"HueWarModel", "laysSeas", "()V"⟩, 68), (⟨"HueWarModel", "joins", "(II)Z"⟩, 68), (⟨"HueWarModel", "tapeNumber", "(I)I"⟩, 68), (⟨"HueWarModel", "mixedBits", "()I"⟩, 68)]
theorem lw_r8 : ∀ q ∈ lw_privs_8, lw_okq q := List.forall_mem_cons.mpr ⟨lw_p112, List.forall_mem_cons.mpr ⟨lw_p113, List.forall_mem_cons.mpr ⟨lw_p114, List.forall_mem_cons.mpr ⟨lw_p115, List.forall_mem_cons.mpr ⟨lw_p116, List.forall_mem_cons.mpr ⟨lw_p117, List.forall_mem_cons.mpr ⟨lw_p118, List.forall_mem_cons.mpr ⟨lw_p119, List.forall_mem_cons.mpr ⟨lw_p120, List.forall_mem_cons.mpr ⟨lw_p121, List.forall_mem_cons.mpr ⟨lw_p122, List.forall_mem_cons.mpr ⟨lw_p123, fun _ h => absurd h List.not_mem_nil⟩⟩⟩⟩⟩⟩⟩⟩⟩⟩⟩⟩
def lw_privs : List (MethodName × Nat) := lw_privs_1 ++ (lw_privs_2 ++ (lw_privs_3 ++ (lw_privs_4 ++ (lw_privs_5 ++ (lw_privs_6 ++ (lw_privs_7 ++ (lw_privs_8)))))))
def lw_tbl : List Cond := k2_sels lw_privs ++ tables_1
theorem lw_privs_ok : ∀ q ∈ lw_privs, lw_okq q := by
  show ∀ q ∈ lw_privs_1 ++ (lw_privs_2 ++ (lw_privs_3 ++ (lw_privs_4 ++ (lw_privs_5 ++ (lw_privs_6 ++ (lw_privs_7 ++ (lw_privs_8))))))), lw_okq q
  exact List.forall_mem_append.mpr ⟨lw_r1, List.forall_mem_append.mpr ⟨lw_r2, List.forall_mem_append.mpr ⟨lw_r3, List.forall_mem_append.mpr ⟨lw_r4, List.forall_mem_append.mpr ⟨lw_r5, List.forall_mem_append.mpr ⟨lw_r6, List.forall_mem_append.mpr ⟨lw_r7, lw_r8⟩⟩⟩⟩⟩⟩⟩

-- ===== end of PART A
def RX0 : String := "HueWar$Duel"
def TX0 : u_T := fun k => match k with
  | 0 => ("HueWar$Duel", "state", "LHueWar$State;", true)
  | 1 => ("HueWar$Duel", "purse", "LHueWar$Purse;", true)
  | 2 => ("HueWar$Duel", "worthsOfA", "[I", true)
  | 3 => ("HueWar$Duel", "worthsOfB", "[I", true)
  | 4 => ("HueWar$Duel", "choicesOfA", "I", false)
  | 5 => ("HueWar$Duel", "choicesOfB", "I", false)
  | 6 => ("HueWar$Duel", "twos", "I", false)
  | 7 => ("HueWar$Duel", "firstOfA", "I", false)
  | _ => ("HueWar$Duel", "firstOfB", "I", false)
def tyX0 : Nat → FieldType := fun k => match k with
  | 0 => .object "HueWar$State"
  | 1 => .object "HueWar$Purse"
  | 2 => .array .int
  | 3 => .array .int
  | 4 => .int
  | 5 => .int
  | 6 => .int
  | 7 => .int
  | _ => .int
theorem nmX0 : ∀ a, a < 9 → ∀ b, b < 9 → a ≠ b → (TX0 a).2.1 ≠ (TX0 b).2.1 := by decide +kernel
theorem tyX0_ok : ∀ k, k < 9 → parseFieldDescriptor (TX0 k).2.2.1 = some (tyX0 k) := by decide +kernel
set_option maxRecDepth 20000 in
theorem inX0 : ∀ w ∈ u_ws RX0 TX0 9, w ∈ lw_tbl ∧ goodWord w = true := by decide +kernel
def RX1 : String := "HueWar$Eyes"
def TX1 : u_T := fun k => match k with
  | 0 => ("HueWar$Eyes", "palette", "LHueWar$Palette;", true)
  | 1 => ("HueWar$Eyes", "law", "LHueWar$Law;", true)
  | 2 => ("HueWar$Eyes", "state", "LHueWar$State;", true)
  | _ => ("HueWar$Eyes", "looks", "[I", true)
def tyX1 : Nat → FieldType := fun k => match k with
  | 0 => .object "HueWar$Palette"
  | 1 => .object "HueWar$Law"
  | 2 => .object "HueWar$State"
  | _ => .array .int
theorem nmX1 : ∀ a, a < 4 → ∀ b, b < 4 → a ≠ b → (TX1 a).2.1 ≠ (TX1 b).2.1 := by decide +kernel
theorem tyX1_ok : ∀ k, k < 4 → parseFieldDescriptor (TX1 k).2.2.1 = some (tyX1 k) := by decide +kernel
set_option maxRecDepth 20000 in
theorem inX1 : ∀ w ∈ u_ws RX1 TX1 4, w ∈ lw_tbl ∧ goodWord w = true := by decide +kernel
def RX2 : String := "HueWar$Ground"
def TX2 : u_T := fun k => match k with
  | 0 => ("HueWar$Ground", "tape", "LHueWar$Tape;", true)
  | 1 => ("HueWar$Ground", "palette", "LHueWar$Palette;", true)
  | 2 => ("HueWar$Ground", "fields", "[I", true)
  | _ => ("HueWar$Ground", "drafted", "[I", true)
def tyX2 : Nat → FieldType := fun k => match k with
  | 0 => .object "HueWar$Tape"
  | 1 => .object "HueWar$Palette"
  | 2 => .array .int
  | _ => .array .int
theorem nmX2 : ∀ a, a < 4 → ∀ b, b < 4 → a ≠ b → (TX2 a).2.1 ≠ (TX2 b).2.1 := by decide +kernel
theorem tyX2_ok : ∀ k, k < 4 → parseFieldDescriptor (TX2 k).2.2.1 = some (tyX2 k) := by decide +kernel
set_option maxRecDepth 20000 in
theorem inX2 : ∀ w ∈ u_ws RX2 TX2 4, w ∈ lw_tbl ∧ goodWord w = true := by decide +kernel
def RX3 : String := "HueWar$Law"
def TX3 : u_T := fun k => match k with
  | 0 => ("HueWar$Law", "tape", "LHueWar$Tape;", true)
  | 1 => ("HueWar$Law", "ops", "[I", true)
  | 2 => ("HueWar$Law", "args", "[I", true)
  | 3 => ("HueWar$Law", "steps", "I", false)
  | 4 => ("HueWar$Law", "kinds", "[I", true)
  | 5 => ("HueWar$Law", "amounts", "[I", true)
  | 6 => ("HueWar$Law", "conditions", "[I", true)
  | 7 => ("HueWar$Law", "clauses", "I", false)
  | 8 => ("HueWar$Law", "values", "[I", true)
  | _ => ("HueWar$Law", "stack", "[I", true)
def tyX3 : Nat → FieldType := fun k => match k with
  | 0 => .object "HueWar$Tape"
  | 1 => .array .int
  | 2 => .array .int
  | 3 => .int
  | 4 => .array .int
  | 5 => .array .int
  | 6 => .array .int
  | 7 => .int
  | 8 => .array .int
  | _ => .array .int
theorem nmX3 : ∀ a, a < 10 → ∀ b, b < 10 → a ≠ b → (TX3 a).2.1 ≠ (TX3 b).2.1 := by decide +kernel
theorem tyX3_ok : ∀ k, k < 10 → parseFieldDescriptor (TX3 k).2.2.1 = some (tyX3 k) := by decide +kernel
set_option maxRecDepth 20000 in
theorem inX3 : ∀ w ∈ u_ws RX3 TX3 10, w ∈ lw_tbl ∧ goodWord w = true := by decide +kernel
def RX4 : String := "HueWar$Lines"
def TX4 : u_T := fun k => match k with
  | 0 => ("HueWar$Lines", "tape", "LHueWar$Tape;", true)
  | 1 => ("HueWar$Lines", "colours", "[I", true)
  | 2 => ("HueWar$Lines", "quarters", "[I", true)
  | 3 => ("HueWar$Lines", "signs", "[I", true)
  | 4 => ("HueWar$Lines", "givers", "[I", true)
  | 5 => ("HueWar$Lines", "others", "[I", true)
  | _ => ("HueWar$Lines", "length", "I", false)
def tyX4 : Nat → FieldType := fun k => match k with
  | 0 => .object "HueWar$Tape"
  | 1 => .array .int
  | 2 => .array .int
  | 3 => .array .int
  | 4 => .array .int
  | 5 => .array .int
  | _ => .int
theorem nmX4 : ∀ a, a < 7 → ∀ b, b < 7 → a ≠ b → (TX4 a).2.1 ≠ (TX4 b).2.1 := by decide +kernel
theorem tyX4_ok : ∀ k, k < 7 → parseFieldDescriptor (TX4 k).2.2.1 = some (tyX4 k) := by decide +kernel
set_option maxRecDepth 20000 in
theorem inX4 : ∀ w ∈ u_ws RX4 TX4 7, w ∈ lw_tbl ∧ goodWord w = true := by decide +kernel
def RX5 : String := "HueWar$Palette"
def TX5 : u_T := fun k => match k with
  | 0 => ("HueWar$Palette", "firsts", "[I", true)
  | 1 => ("HueWar$Palette", "seconds", "[I", true)
  | 2 => ("HueWar$Palette", "told", "I", false)
  | _ => ("HueWar$Palette", "mixed", "I", false)
def tyX5 : Nat → FieldType := fun k => match k with
  | 0 => .array .int
  | 1 => .array .int
  | 2 => .int
  | _ => .int
theorem nmX5 : ∀ a, a < 4 → ∀ b, b < 4 → a ≠ b → (TX5 a).2.1 ≠ (TX5 b).2.1 := by decide +kernel
theorem tyX5_ok : ∀ k, k < 4 → parseFieldDescriptor (TX5 k).2.2.1 = some (tyX5 k) := by decide +kernel
set_option maxRecDepth 20000 in
theorem inX5 : ∀ w ∈ u_ws RX5 TX5 4, w ∈ lw_tbl ∧ goodWord w = true := by decide +kernel
def RX6 : String := "HueWar$Paths"
def TX6 : u_T := fun k => match k with
  | 0 => ("HueWar$Paths", "marks", "[Z", true)
  | 1 => ("HueWar$Paths", "done", "[Z", true)
  | 2 => ("HueWar$Paths", "costs", "[I", true)
  | 3 => ("HueWar$Paths", "stack", "[I", true)
  | 4 => ("HueWar$Paths", "seas", "I", false)
  | _ => ("HueWar$Paths", "largestSea", "I", false)
def tyX6 : Nat → FieldType := fun k => match k with
  | 0 => .array .boolean
  | 1 => .array .boolean
  | 2 => .array .int
  | 3 => .array .int
  | 4 => .int
  | _ => .int
theorem nmX6 : ∀ a, a < 6 → ∀ b, b < 6 → a ≠ b → (TX6 a).2.1 ≠ (TX6 b).2.1 := by decide +kernel
theorem tyX6_ok : ∀ k, k < 6 → parseFieldDescriptor (TX6 k).2.2.1 = some (tyX6 k) := by decide +kernel
set_option maxRecDepth 20000 in
theorem inX6 : ∀ w ∈ u_ws RX6 TX6 6, w ∈ lw_tbl ∧ goodWord w = true := by decide +kernel
def RX7 : String := "HueWar$Purse"
def TX7 : u_T := fun k => match k with
  | 0 => ("HueWar$Purse", "palette", "LHueWar$Palette;", true)
  | 1 => ("HueWar$Purse", "law", "LHueWar$Law;", true)
  | 2 => ("HueWar$Purse", "state", "LHueWar$State;", true)
  | 3 => ("HueWar$Purse", "eyes", "LHueWar$Eyes;", true)
  | 4 => ("HueWar$Purse", "ground", "LHueWar$Ground;", true)
  | _ => ("HueWar$Purse", "prices", "[I", true)
def tyX7 : Nat → FieldType := fun k => match k with
  | 0 => .object "HueWar$Palette"
  | 1 => .object "HueWar$Law"
  | 2 => .object "HueWar$State"
  | 3 => .object "HueWar$Eyes"
  | 4 => .object "HueWar$Ground"
  | _ => .array .int
theorem nmX7 : ∀ a, a < 6 → ∀ b, b < 6 → a ≠ b → (TX7 a).2.1 ≠ (TX7 b).2.1 := by decide +kernel
theorem tyX7_ok : ∀ k, k < 6 → parseFieldDescriptor (TX7 k).2.2.1 = some (tyX7 k) := by decide +kernel
set_option maxRecDepth 20000 in
theorem inX7 : ∀ w ∈ u_ws RX7 TX7 6, w ∈ lw_tbl ∧ goodWord w = true := by decide +kernel
def RX8 : String := "HueWar$State"
def TX8 : u_T := fun k => match k with
  | 0 => ("HueWar$State", "havers", "[I", true)
  | 1 => ("HueWar$State", "owners", "[I", true)
  | 2 => ("HueWar$State", "treaties", "[I", true)
  | 3 => ("HueWar$State", "treatyCount", "I", false)
  | 4 => ("HueWar$State", "day", "I", false)
  | 5 => ("HueWar$State", "draw", "I", false)
  | 6 => ("HueWar$State", "firstBreakDay", "I", false)
  | _ => ("HueWar$State", "firstBreaker", "I", false)
def tyX8 : Nat → FieldType := fun k => match k with
  | 0 => .array .int
  | 1 => .array .int
  | 2 => .array .int
  | 3 => .int
  | 4 => .int
  | 5 => .int
  | 6 => .int
  | _ => .int
theorem nmX8 : ∀ a, a < 8 → ∀ b, b < 8 → a ≠ b → (TX8 a).2.1 ≠ (TX8 b).2.1 := by decide +kernel
theorem tyX8_ok : ∀ k, k < 8 → parseFieldDescriptor (TX8 k).2.2.1 = some (tyX8 k) := by decide +kernel
set_option maxRecDepth 20000 in
theorem inX8 : ∀ w ∈ u_ws RX8 TX8 8, w ∈ lw_tbl ∧ goodWord w = true := by decide +kernel
def RX9 : String := "HueWar$Tape"
def TX9 : u_T := fun k => match k with
  | 0 => ("HueWar$Tape", "bytes", "[I", true)
  | 1 => ("HueWar$Tape", "length", "I", false)
  | 2 => ("HueWar$Tape", "end", "I", false)
  | 3 => ("HueWar$Tape", "place", "I", false)
  | _ => ("HueWar$Tape", "fault", "I", false)
def tyX9 : Nat → FieldType := fun k => match k with
  | 0 => .array .int
  | 1 => .int
  | 2 => .int
  | 3 => .int
  | _ => .int
theorem nmX9 : ∀ a, a < 5 → ∀ b, b < 5 → a ≠ b → (TX9 a).2.1 ≠ (TX9 b).2.1 := by decide +kernel
theorem tyX9_ok : ∀ k, k < 5 → parseFieldDescriptor (TX9 k).2.2.1 = some (tyX9 k) := by decide +kernel
set_option maxRecDepth 20000 in
theorem inX9 : ∀ w ∈ u_ws RX9 TX9 5, w ∈ lw_tbl ∧ goodWord w = true := by decide +kernel
def RX10 : String := "HueWar"
def TX10 : u_T := fun k => match k with
  | 0 => ("HueWar", "tape", "LHueWar$Tape;", true)
  | 1 => ("HueWar", "palette", "LHueWar$Palette;", true)
  | 2 => ("HueWar", "ground", "LHueWar$Ground;", true)
  | 3 => ("HueWar", "ruling", "LHueWar$Law;", true)
  | 4 => ("HueWar", "draft", "LHueWar$Law;", true)
  | 5 => ("HueWar", "lines", "LHueWar$Lines;", true)
  | 6 => ("HueWar", "now", "LHueWar$State;", true)
  | 7 => ("HueWar", "kept", "LHueWar$State;", true)
  | 8 => ("HueWar", "trial", "LHueWar$State;", true)
  | 9 => ("HueWar", "isKept", "Z", false)
  | 10 => ("HueWar", "eyes", "LHueWar$Eyes;", true)
  | 11 => ("HueWar", "purse", "LHueWar$Purse;", true)
  | 12 => ("HueWar", "duel", "LHueWar$Duel;", true)
  | 13 => ("HueWar", "paths", "LHueWar$Paths;", true)
  | 14 => ("HueWar", "bright", "[I", true)
  | _ => ("HueWar", "partners", "[I", true)
def tyX10 : Nat → FieldType := fun k => match k with
  | 0 => .object "HueWar$Tape"
  | 1 => .object "HueWar$Palette"
  | 2 => .object "HueWar$Ground"
  | 3 => .object "HueWar$Law"
  | 4 => .object "HueWar$Law"
  | 5 => .object "HueWar$Lines"
  | 6 => .object "HueWar$State"
  | 7 => .object "HueWar$State"
  | 8 => .object "HueWar$State"
  | 9 => .boolean
  | 10 => .object "HueWar$Eyes"
  | 11 => .object "HueWar$Purse"
  | 12 => .object "HueWar$Duel"
  | 13 => .object "HueWar$Paths"
  | 14 => .array .int
  | _ => .array .int
theorem nmX10 : ∀ a, a < 16 → ∀ b, b < 16 → a ≠ b → (TX10 a).2.1 ≠ (TX10 b).2.1 := by decide +kernel
theorem tyX10_ok : ∀ k, k < 16 → parseFieldDescriptor (TX10 k).2.2.1 = some (tyX10 k) := by decide +kernel
set_option maxRecDepth 20000 in
theorem inX10 : ∀ w ∈ u_ws RX10 TX10 16, w ∈ lw_tbl ∧ goodWord w = true := by decide +kernel
def RX11 : String := "HueWarModel"
def TX11 : u_T := fun k => match k with
  | 0 => ("HueWarModel", "told0", "I", false)
  | 1 => ("HueWarModel", "x0", "I", false)
  | 2 => ("HueWarModel", "day0", "I", false)
  | 3 => ("HueWarModel", "firstOf", "[I", true)
  | 4 => ("HueWarModel", "secondOf", "[I", true)
  | 5 => ("HueWarModel", "haveIn", "[I", true)
  | 6 => ("HueWarModel", "colourOf", "[I", true)
  | 7 => ("HueWarModel", "ownerOf", "[I", true)
  | 8 => ("HueWarModel", "tape", "[B", true)
  | 9 => ("HueWarModel", "taped", "I", false)
  | 10 => ("HueWarModel", "place0", "I", false)
  | 11 => ("HueWarModel", "length0", "I", false)
  | 12 => ("HueWarModel", "fault", "I", false)
  | 13 => ("HueWarModel", "number0", "I", false)
  | 14 => ("HueWarModel", "open", "I", false)
  | 15 => ("HueWarModel", "codeMany", "I", false)
  | 16 => ("HueWarModel", "waiting", "I", false)
  | 17 => ("HueWarModel", "saidMany", "I", false)
  | 18 => ("HueWarModel", "clauses", "I", false)
  | 19 => ("HueWarModel", "said", "[I", true)
  | 20 => ("HueWarModel", "waitsAt", "[I", true)
  | 21 => ("HueWarModel", "saidLetter", "[I", true)
  | 22 => ("HueWarModel", "saidFrom", "[I", true)
  | 23 => ("HueWarModel", "saidHalf", "[I", true)
  | 24 => ("HueWarModel", "saidTo", "[I", true)
  | 25 => ("HueWarModel", "codes", "[I", true)
  | 26 => ("HueWarModel", "clauseOf", "[I", true)
  | 27 => ("HueWarModel", "codeFrom", "[I", true)
  | 28 => ("HueWarModel", "codeHalf", "[I", true)
  | 29 => ("HueWarModel", "codeTo", "[I", true)
  | 30 => ("HueWarModel", "stack", "[I", true)
  | 31 => ("HueWarModel", "facts", "[I", true)
  | 32 => ("HueWarModel", "asSeen", "[I", true)
  | 33 => ("HueWarModel", "lineMany", "I", false)
  | 34 => ("HueWarModel", "treatyMany", "I", false)
  | 35 => ("HueWarModel", "lineColour", "[I", true)
  | 36 => ("HueWarModel", "lineQuarters", "[I", true)
  | 37 => ("HueWarModel", "lineFrom", "[I", true)
  | 38 => ("HueWarModel", "lineTo", "[I", true)
  | 39 => ("HueWarModel", "lineShares", "[I", true)
  | 40 => ("HueWarModel", "treatyColour", "[I", true)
  | 41 => ("HueWarModel", "treatyQuarters", "[I", true)
  | 42 => ("HueWarModel", "treatyFrom", "[I", true)
  | 43 => ("HueWarModel", "treatyTo", "[I", true)
  | 44 => ("HueWarModel", "treatyShares", "[I", true)
  | 45 => ("HueWarModel", "treatyDay", "[I", true)
  | 46 => ("HueWarModel", "asideHave", "[I", true)
  | 47 => ("HueWarModel", "asideTreaty", "[I", true)
  | 48 => ("HueWarModel", "keptHave", "[I", true)
  | 49 => ("HueWarModel", "keptTreaty", "[I", true)
  | 50 => ("HueWarModel", "keptOwner", "[I", true)
  | 51 => ("HueWarModel", "asideMany", "I", false)
  | 52 => ("HueWarModel", "asideDay", "I", false)
  | 53 => ("HueWarModel", "asideX", "I", false)
  | 54 => ("HueWarModel", "keptMany", "I", false)
  | 55 => ("HueWarModel", "keptDay", "I", false)
  | 56 => ("HueWarModel", "keptX", "I", false)
  | 57 => ("HueWarModel", "isKept", "Z", false)
  | 58 => ("HueWarModel", "broken", "I", false)
  | 59 => ("HueWarModel", "firstDay", "I", false)
  | 60 => ("HueWarModel", "firstBy", "I", false)
  | 61 => ("HueWarModel", "newColour", "[I", true)
  | 62 => ("HueWarModel", "costTo", "[I", true)
  | 63 => ("HueWarModel", "asBy", "[I", true)
  | 64 => ("HueWarModel", "worthA", "[I", true)
  | 65 => ("HueWarModel", "worthB", "[I", true)
  | 66 => ("HueWarModel", "canFight", "[Z", true)
  | _ => ("HueWarModel", "seaOf", "[I", true)
def tyX11 : Nat → FieldType := fun k => match k with
  | 0 => .int
  | 1 => .int
  | 2 => .int
  | 3 => .array .int
  | 4 => .array .int
  | 5 => .array .int
  | 6 => .array .int
  | 7 => .array .int
  | 8 => .array .byte
  | 9 => .int
  | 10 => .int
  | 11 => .int
  | 12 => .int
  | 13 => .int
  | 14 => .int
  | 15 => .int
  | 16 => .int
  | 17 => .int
  | 18 => .int
  | 19 => .array .int
  | 20 => .array .int
  | 21 => .array .int
  | 22 => .array .int
  | 23 => .array .int
  | 24 => .array .int
  | 25 => .array .int
  | 26 => .array .int
  | 27 => .array .int
  | 28 => .array .int
  | 29 => .array .int
  | 30 => .array .int
  | 31 => .array .int
  | 32 => .array .int
  | 33 => .int
  | 34 => .int
  | 35 => .array .int
  | 36 => .array .int
  | 37 => .array .int
  | 38 => .array .int
  | 39 => .array .int
  | 40 => .array .int
  | 41 => .array .int
  | 42 => .array .int
  | 43 => .array .int
  | 44 => .array .int
  | 45 => .array .int
  | 46 => .array .int
  | 47 => .array .int
  | 48 => .array .int
  | 49 => .array .int
  | 50 => .array .int
  | 51 => .int
  | 52 => .int
  | 53 => .int
  | 54 => .int
  | 55 => .int
  | 56 => .int
  | 57 => .boolean
  | 58 => .int
  | 59 => .int
  | 60 => .int
  | 61 => .array .int
  | 62 => .array .int
  | 63 => .array .int
  | 64 => .array .int
  | 65 => .array .int
  | 66 => .array .boolean
  | _ => .array .int
theorem nmX11 : ∀ a, a < 68 → ∀ b, b < 68 → a ≠ b → (TX11 a).2.1 ≠ (TX11 b).2.1 := by decide +kernel
theorem tyX11_ok : ∀ k, k < 68 → parseFieldDescriptor (TX11 k).2.2.1 = some (tyX11 k) := by decide +kernel
set_option maxRecDepth 20000 in
theorem inX11 : ∀ w ∈ u_ws RX11 TX11 68, w ∈ lw_tbl ∧ goodWord w = true := by decide +kernel
def hx_cl : List vw_C := [(RX0, TX0, 9), (RX1, TX1, 4), (RX2, TX2, 4), (RX3, TX3, 10), (RX4, TX4, 7), (RX5, TX5, 4), (RX6, TX6, 6), (RX7, TX7, 6), (RX8, TX8, 8), (RX9, TX9, 5), (RX10, TX10, 16), (RX11, TX11, 68)]
/-- the links to private methods of the host -/
def hx_N : List (String × Nat × MethodName × String) := [("HueWar", 9, ⟨"HueWar$Tape", "<init>", "()V"⟩, "HueWar"), ("HueWar", 18, ⟨"HueWar$Palette", "<init>", "()V"⟩, "HueWar"), ("HueWar", 97, ⟨"HueWar$Paths", "<init>", "()V"⟩, "HueWar"), ("HueWar$Palette", 25, ⟨"HueWar", "isAmong", "(II)Z"⟩, "HueWar"), ("HueWar$Palette", 33, ⟨"HueWar", "bit", "(II)I"⟩, "HueWar"), ("HueWar$State", 43, ⟨"HueWar", "isAmong", "(II)Z"⟩, "HueWar"), ("HueWar$State", 47, ⟨"HueWar", "isQuarter", "(I)Z"⟩, "HueWar"), ("HueWar$Law", 107, ⟨"HueWar", "isDigit", "(I)Z"⟩, "HueWar"), ("HueWar$Ground", 73, ⟨"HueWar", "isDigit", "(I)Z"⟩, "HueWar"), ("HueWar$Lines", 61, ⟨"HueWar", "isDigit", "(I)Z"⟩, "HueWar"), ("HueWar$Lines", 91, ⟨"HueWar", "isQuarter", "(I)Z"⟩, "HueWar"), ("HueWar$Lines", 94, ⟨"HueWar", "isEmpire", "(I)Z"⟩, "HueWar"), ("HueWar$Lines", 35, ⟨"HueWar", "isAmong", "(II)Z"⟩, "HueWar"), ("HueWar$State", 54, ⟨"HueWar", "bit", "(II)I"⟩, "HueWar"), ("HueWar$Eyes", 52, ⟨"HueWar", "bit", "(II)I"⟩, "HueWar"), ("HueWar$Eyes", 86, ⟨"HueWar", "isAmong", "(II)Z"⟩, "HueWar"), ("HueWar$Ground", 26, ⟨"HueWar", "isAmong", "(II)Z"⟩, "HueWar"), ("HueWar$Paths", 32, ⟨"HueWar", "isAmong", "(II)Z"⟩, "HueWar"), ("HueWar$Purse", 55, ⟨"HueWar", "bit", "(II)I"⟩, "HueWar"), ("HueWar$Purse", 107, ⟨"HueWar", "isAmong", "(II)Z"⟩, "HueWar")]
set_option maxRecDepth 20000 in
theorem hx_N_in : ∀ w ∈ hx_N, Cond.methodLinkNest w.1 w.2.1 w.2.2.1 w.2.2.2 ∈ lw_tbl := by decide +kernel
end
section
/-! the program as data: a method: its name, its bytes, its instructions (jumps by ordinal, fields by 100 times the class and the place, constants as bipush, methods by number), where they stand, the places of the words, locals, answer, places of its own words, kind (0 static, 1 of an object, 2 constructor), parameters -/
abbrev hx_M : Type := MethodName × ByteArray × List Instr × List Nat × List Nat × Nat × Option FieldType × List Nat × Nat × Nat
abbrev hx_y (u : hx_M) : MethodName := u.1
abbrev hx_b (u : hx_M) : ByteArray := u.2.1
abbrev hx_ops (u : hx_M) : List Instr := u.2.2.1
abbrev hx_pcs (u : hx_M) : List Nat := u.2.2.2.1
abbrev hx_wx (u : hx_M) : List Nat := u.2.2.2.2.1
abbrev hx_L (u : hx_M) : Nat := u.2.2.2.2.2.1
abbrev hx_ret (u : hx_M) : Option FieldType := u.2.2.2.2.2.2.1
abbrev hx_mw (u : hx_M) : List Nat := u.2.2.2.2.2.2.2.1
abbrev hx_kind (u : hx_M) : Nat := u.2.2.2.2.2.2.2.2.1
abbrev hx_na (u : hx_M) : Nat := u.2.2.2.2.2.2.2.2.2
def hm_W_init : hx_M := (⟨"HueWar", "<init>", "()V"⟩, prog_1_method_1_code,
  [.aload 0, .invokespecial 9999, .aload 0, .new 9, .dup, .invokespecial 1, .putfield 1000, .aload 0, .new 5, .dup, .invokespecial 2, .putfield 1001,
  .aload 0, .new 2, .dup, .aload 0, .getfield 1000, .aload 0, .getfield 1001, .invokespecial 3, .putfield 1002, .aload 0, .new 3, .dup,
  .aload 0, .getfield 1000, .invokespecial 4, .putfield 1003, .aload 0, .new 3, .dup, .aload 0, .getfield 1000, .invokespecial 4, .putfield 1004, .aload 0,
  .new 4, .dup, .aload 0, .getfield 1000, .invokespecial 5, .putfield 1005, .aload 0, .new 8, .dup, .invokespecial 6, .putfield 1006, .aload 0,
  .new 8, .dup, .invokespecial 6, .putfield 1007, .aload 0, .new 8, .dup, .invokespecial 6, .putfield 1008, .aload 0, .bipush 0, .putfield 1009,
  .aload 0, .new 1, .dup, .aload 0, .getfield 1001, .aload 0, .getfield 1003, .aload 0, .getfield 1006, .invokespecial 7, .putfield 1010, .aload 0,
  .new 7, .dup, .aload 0, .getfield 1001, .aload 0, .getfield 1003, .aload 0, .getfield 1006, .aload 0, .getfield 1010, .aload 0, .getfield 1002,
  .invokespecial 8, .putfield 1011, .aload 0, .new 0, .dup, .aload 0, .getfield 1006, .aload 0, .getfield 1011, .invokespecial 9, .putfield 1012, .aload 0,
  .new 6, .dup, .invokespecial 10, .putfield 1013, .aload 0, .bipush 24, .newarray .int, .putfield 1014, .aload 0, .bipush 12, .newarray .int, .putfield 1015,
  .return_],
  [0, 1, 4, 5, 8, 9, 12, 15, 16, 19, 20, 23, 26, 27, 30, 31, 32, 35, 36, 39, 42, 45, 46, 49, 50, 51, 54, 57, 60, 61, 64, 65, 66, 69, 72, 75, 76, 79, 80, 81,
  84, 87, 90, 91, 94, 95, 98, 101, 102, 105, 106, 109, 112, 113, 116, 117, 120, 123, 124, 125, 128, 129, 132, 133, 134, 137, 138, 141, 142, 145, 148, 151, 152, 155, 156, 157, 160, 161, 164, 165,
  168, 169, 172, 173, 176, 179, 182, 183, 186, 187, 188, 191, 192, 195, 198, 201, 202, 205, 206, 209, 212, 213, 215, 217, 220, 221, 223, 225, 228],
  [0, 1021, 0, 1024, 0, 0, 2045, 0, 1047, 0, 1, 2046, 0, 1066, 0, 0, 2045, 0, 2046, 1068, 2047, 0, 1085, 0, 0, 2045, 1087, 2048, 0, 1085, 0, 0, 2045, 1087, 2049, 0, 1122, 0, 0, 2045,
  1124, 2050, 0, 1150, 0, 1152, 2051, 0, 1150, 0, 1152, 2052, 0, 1150, 0, 1152, 2053, 0, 0, 2054, 0, 1181, 0, 0, 2046, 0, 2048, 0, 2051, 1183, 2055, 0, 1200, 0, 0, 2046, 0, 2048, 0, 2051,
  0, 2055, 0, 2047, 1202, 2056, 0, 1225, 0, 0, 2051, 0, 2056, 1227, 2057, 0, 2019, 0, 2, 2058, 0, 0, 1046, 2059, 0, 0, 1046, 2060, 0], 1, none, [1020, 1019, 1001], 2, 0)
def hm_T_init : hx_M := (⟨"HueWar$Tape", "<init>", "()V"⟩, prog_11_method_1_code,
  [.aload 0, .invokespecial 9999, .aload 0, .bipush 260, .newarray .int, .putfield 900, .aload 0, .bipush 0, .putfield 901, .aload 0, .bipush 0, .putfield 902,
  .aload 0, .bipush 0, .putfield 903, .aload 0, .bipush 0, .putfield 904, .return_],
  [0, 1, 4, 5, 8, 10, 13, 14, 15, 18, 19, 20, 23, 24, 25, 28, 29, 30, 33],
  [0, 1029, 0, 0, 1046, 1030, 0, 0, 1031, 0, 0, 1032, 0, 0, 1033, 0, 0, 1034, 0], 1, none, [1028, 1027, 1002], 2, 0)
def hm_P_init : hx_M := (⟨"HueWar$Palette", "<init>", "()V"⟩, prog_7_method_1_code,
  [.aload 0, .invokespecial 9999, .aload 0, .bipush 12, .newarray .int, .putfield 500, .aload 0, .bipush 12, .newarray .int, .putfield 501, .aload 0, .bipush 0,
  .putfield 502, .aload 0, .bipush 0, .putfield 503, .return_],
  [0, 1, 4, 5, 7, 9, 12, 13, 15, 17, 20, 21, 22, 25, 26, 27, 30],
  [0, 1052, 0, 0, 1046, 1053, 0, 0, 1046, 1054, 0, 0, 1055, 0, 0, 1056, 0], 1, none, [1051, 1050, 1003], 2, 0)
def hm_G_init : hx_M := (⟨"HueWar$Ground", "<init>", "(LHueWar$Tape;LHueWar$Palette;)V"⟩, prog_4_method_1_code,
  [.aload 0, .invokespecial 9999, .aload 0, .bipush 64, .newarray .int, .putfield 202, .aload 0, .bipush 64, .newarray .int, .putfield 203, .aload 0, .aload 1,
  .putfield 200, .aload 0, .aload 2, .putfield 201, .bipush 0, .istore 3, .iload 3, .bipush 64, .if_icmp .ge 28, .aload 0, .getfield 202, .iload 3,
  .bipush 12, .iastore, .iinc 3 1, .goto 18, .return_],
  [0, 1, 4, 5, 7, 9, 12, 13, 15, 17, 20, 21, 22, 25, 26, 27, 30, 31, 32, 33, 35, 38, 39, 42, 43, 45, 46, 49, 52],
  [0, 1071, 0, 0, 1046, 1074, 0, 0, 1046, 1075, 0, 0, 1072, 0, 0, 1073, 0, 0, 0, 0, 0, 0, 1074, 0, 0, 0, 0, 0, 0], 4, none, [1070, 1069, 1004], 2, 2)
def hm_L_init : hx_M := (⟨"HueWar$Law", "<init>", "(LHueWar$Tape;)V"⟩, prog_5_method_1_code,
  [.aload 0, .invokespecial 9999, .aload 0, .bipush 241, .newarray .int, .putfield 301, .aload 0, .bipush 241, .newarray .int, .putfield 302, .aload 0, .bipush 0,
  .putfield 303, .aload 0, .bipush 16, .newarray .int, .putfield 304, .aload 0, .bipush 16, .newarray .int, .putfield 305, .aload 0, .bipush 16, .newarray .int,
  .putfield 306, .aload 0, .bipush 0, .putfield 307, .aload 0, .bipush 10, .newarray .int, .putfield 308, .aload 0, .bipush 32, .newarray .int, .putfield 309,
  .aload 0, .aload 1, .putfield 300, .return_],
  [0, 1, 4, 5, 8, 10, 13, 14, 17, 19, 22, 23, 24, 27, 28, 30, 32, 35, 36, 38, 40, 43, 44, 46, 48, 51, 52, 53, 56, 57, 59, 61, 64, 65, 67, 69, 72, 73, 74, 77],
  [0, 1090, 0, 0, 1046, 1092, 0, 0, 1046, 1093, 0, 0, 1094, 0, 0, 1046, 1095, 0, 0, 1046, 1096, 0, 0, 1046, 1097, 0, 0, 1098, 0, 0, 1046, 1099, 0, 0, 1046, 1100, 0, 0, 1091, 0], 2, none, [1089, 1088, 1005], 2, 1)
def hm_N_init : hx_M := (⟨"HueWar$Lines", "<init>", "(LHueWar$Tape;)V"⟩, prog_6_method_1_code,
  [.aload 0, .invokespecial 9999, .aload 0, .bipush 8, .newarray .int, .putfield 401, .aload 0, .bipush 8, .newarray .int, .putfield 402, .aload 0, .bipush 8,
  .newarray .int, .putfield 403, .aload 0, .bipush 8, .newarray .int, .putfield 404, .aload 0, .bipush 8, .newarray .int, .putfield 405, .aload 0, .bipush 0,
  .putfield 406, .aload 0, .aload 1, .putfield 400, .return_],
  [0, 1, 4, 5, 7, 9, 12, 13, 15, 17, 20, 21, 23, 25, 28, 29, 31, 33, 36, 37, 39, 41, 44, 45, 46, 49, 50, 51, 54],
  [0, 1127, 0, 0, 1046, 1129, 0, 0, 1046, 1130, 0, 0, 1046, 1131, 0, 0, 1046, 1132, 0, 0, 1046, 1133, 0, 0, 1134, 0, 0, 1128, 0], 2, none, [1126, 1125, 1006], 2, 1)
def hm_S_init : hx_M := (⟨"HueWar$State", "<init>", "()V"⟩, prog_10_method_1_code,
  [.aload 0, .invokespecial 9999, .aload 0, .bipush 48, .newarray .int, .putfield 800, .aload 0, .bipush 64, .newarray .int, .putfield 801, .aload 0, .bipush 96,
  .newarray .int, .putfield 802, .aload 0, .bipush 0, .putfield 803, .aload 0, .bipush 0, .putfield 804, .aload 0, .bipush 1, .putfield 805, .aload 0,
  .bipush (-2), .putfield 806, .aload 0, .bipush (-2), .putfield 807, .bipush 0, .istore 1, .iload 1, .bipush 64, .if_icmp .ge 41, .aload 0, .getfield 801,
  .iload 1, .bipush 6, .iastore, .iinc 1 1, .goto 31, .return_],
  [0, 1, 4, 5, 7, 9, 12, 13, 15, 17, 20, 21, 23, 25, 28, 29, 30, 33, 34, 35, 38, 39, 40, 43, 44, 46, 49, 50, 52, 55, 56, 57, 58, 60, 63, 64, 67, 68, 70, 71,
  74, 77],
  [0, 1155, 0, 0, 1046, 1156, 0, 0, 1046, 1157, 0, 0, 1046, 1158, 0, 0, 1159, 0, 0, 1160, 0, 0, 1161, 0, 0, 1162, 0, 0, 1163, 0, 0, 0, 0, 0, 0, 1157, 0, 0, 0, 0,
  0, 0], 2, none, [1154, 1153, 1007], 2, 0)
def hm_E_init : hx_M := (⟨"HueWar$Eyes", "<init>", "(LHueWar$Palette;LHueWar$Law;LHueWar$State;)V"⟩, prog_3_method_1_code,
  [.aload 0, .invokespecial 9999, .aload 0, .bipush 12, .newarray .int, .putfield 103, .aload 0, .aload 1, .putfield 100, .aload 0, .aload 2, .putfield 101,
  .aload 0, .aload 3, .putfield 102, .return_],
  [0, 1, 4, 5, 7, 9, 12, 13, 14, 17, 18, 19, 22, 23, 24, 27],
  [0, 1186, 0, 0, 1046, 1190, 0, 0, 1187, 0, 0, 1188, 0, 0, 1189, 0], 4, none, [1185, 1184, 1008], 2, 3)
def hm_U_init : hx_M := (⟨"HueWar$Purse", "<init>", "(LHueWar$Palette;LHueWar$Law;LHueWar$State;LHueWar$Eyes;LHueWar$Ground;)V"⟩, prog_9_method_1_code,
  [.aload 0, .invokespecial 9999, .aload 0, .bipush 12, .newarray .int, .putfield 705, .aload 0, .aload 1, .putfield 700, .aload 0, .aload 2, .putfield 701,
  .aload 0, .aload 3, .putfield 702, .aload 0, .aload 4, .putfield 703, .aload 0, .aload 5, .putfield 704, .return_],
  [0, 1, 4, 5, 7, 9, 12, 13, 14, 17, 18, 19, 22, 23, 24, 27, 28, 30, 33, 34, 36, 39],
  [0, 1205, 0, 0, 1046, 1211, 0, 0, 1206, 0, 0, 1207, 0, 0, 1208, 0, 0, 1209, 0, 0, 1210, 0], 6, none, [1204, 1203, 1009], 2, 5)
def hm_D_init : hx_M := (⟨"HueWar$Duel", "<init>", "(LHueWar$State;LHueWar$Purse;)V"⟩, prog_2_method_1_code,
  [.aload 0, .invokespecial 9999, .aload 0, .bipush 144, .newarray .int, .putfield 2, .aload 0, .bipush 144, .newarray .int, .putfield 3, .aload 0, .bipush 0,
  .putfield 4, .aload 0, .bipush 0, .putfield 5, .aload 0, .bipush 0, .putfield 6, .aload 0, .bipush (-2), .putfield 7, .aload 0, .bipush (-2),
  .putfield 8, .aload 0, .aload 1, .putfield 0, .aload 0, .aload 2, .putfield 1, .return_],
  [0, 1, 4, 5, 8, 10, 13, 14, 17, 19, 22, 23, 24, 27, 28, 29, 32, 33, 34, 37, 38, 40, 43, 44, 46, 49, 50, 51, 54, 55, 56, 59],
  [0, 1230, 0, 0, 1046, 1233, 0, 0, 1046, 1234, 0, 0, 1235, 0, 0, 1236, 0, 0, 1237, 0, 0, 1238, 0, 0, 1239, 0, 0, 1231, 0, 0, 1232, 0], 3, none, [1229, 1228, 1010], 2, 2)
def hm_A_init : hx_M := (⟨"HueWar$Paths", "<init>", "()V"⟩, prog_8_method_1_code,
  [.aload 0, .invokespecial 9999, .aload 0, .bipush 64, .newarray .boolean, .putfield 600, .aload 0, .bipush 64, .newarray .boolean, .putfield 601, .aload 0, .bipush 64,
  .newarray .int, .putfield 602, .aload 0, .bipush 64, .newarray .int, .putfield 603, .aload 0, .bipush 0, .putfield 604, .aload 0, .bipush 0, .putfield 605,
  .return_],
  [0, 1, 4, 5, 7, 9, 12, 13, 15, 17, 20, 21, 23, 25, 28, 29, 31, 33, 36, 37, 38, 41, 42, 43, 46],
  [0, 2024, 0, 0, 2044, 2025, 0, 0, 2044, 2026, 0, 0, 1046, 2027, 0, 0, 1046, 2028, 0, 0, 2029, 0, 0, 2030, 0], 1, none, [2023, 2022, 1011], 2, 0)
def hm_W_colour : hx_M := (⟨"HueWar", "colour", "(III)Z"⟩, prog_1_method_2_code,
  [.aload 0, .getfield 1001, .iload 1, .iload 2, .iload 3, .invokevirtual 12, .ireturn],
  [0, 1, 4, 5, 6, 7, 10],
  [0, 2046, 0, 0, 0, 2098, 0], 4, some .boolean, [2097, 2095, 2096, 1001], 1, 3)
def hm_P_tell : hx_M := (⟨"HueWar$Palette", "tell", "(III)Z"⟩, prog_7_method_2_code,
  [.iload 1, .bipush 12, .invokestatic 13, .ifCond .eq 8, .aload 0, .iload 1, .invokevirtual 14, .ifCond .eq 10, .bipush 0, .ireturn, .iload 2, .bipush (-1),
  .if_icmp .ne 16, .iload 3, .bipush (-1), .if_icmp .eq 53, .iload 2, .iload 3, .if_icmp .eq 33, .iload 2, .iload 1, .if_icmp .ge 33, .iload 3, .iload 1,
  .if_icmp .ge 33, .aload 0, .iload 2, .invokevirtual 14, .ifCond .eq 33, .aload 0, .iload 3, .invokevirtual 14, .ifCond .ne 35, .bipush 0, .ireturn, .aload 0,
  .getfield 500, .iload 1, .iload 2, .iastore, .aload 0, .getfield 501, .iload 1, .iload 3, .iastore, .aload 0, .dup, .getfield 503,
  .bipush 1, .iload 1, .ishl, .ior, .putfield 503, .aload 0, .dup, .getfield 502, .bipush 1, .iload 1, .ishl, .ior,
  .putfield 502, .bipush 1, .ireturn],
  [0, 1, 3, 6, 9, 10, 11, 14, 17, 18, 19, 20, 21, 24, 25, 26, 29, 30, 31, 34, 35, 36, 39, 40, 41, 44, 45, 46, 49, 52, 53, 54, 57, 60, 61, 62, 63, 66, 67, 68,
  69, 70, 73, 74, 75, 76, 77, 78, 81, 82, 83, 84, 85, 88, 89, 90, 93, 94, 95, 96, 97, 100, 101],
  [0, 0, 3, 0, 0, 0, 2105, 0, 0, 0, 0, 0, 0, 0, 0, 0, 0, 0, 0, 0, 0, 0, 0, 0, 0, 0, 0, 2105, 0, 0, 0, 2105, 0, 0, 0, 0, 1053, 0, 0, 0,
  0, 1054, 0, 0, 0, 0, 0, 1056, 0, 0, 0, 0, 1056, 0, 0, 1055, 0, 0, 0, 0, 1055, 0, 0], 4, some .boolean, [2101, 2099, 2100, 1003], 1, 3)
def hm_W_isAmong : hx_M := (⟨"HueWar", "isAmong", "(II)Z"⟩, prog_1_method_32_code,
  [.iload 0, .ifCond .lt 7, .iload 0, .iload 1, .if_icmp .ge 7, .bipush 1, .goto 8, .bipush 0, .ireturn],
  [0, 1, 4, 5, 6, 9, 10, 13, 14],
  [0, 0, 0, 0, 0, 0, 0, 0, 0], 2, some .boolean, [2104, 2103, 1001], 0, 2)
def hm_P_isTold : hx_M := (⟨"HueWar$Palette", "isTold", "(I)Z"⟩, prog_7_method_5_code,
  [.iload 1, .bipush 12, .invokestatic 13, .ifCond .eq 12, .aload 0, .getfield 502, .iload 1, .invokestatic 15, .bipush 1, .if_icmp .ne 12, .bipush 1, .goto 13,
  .bipush 0, .ireturn],
  [0, 1, 3, 6, 9, 10, 13, 14, 17, 18, 21, 22, 25, 26],
  [0, 0, 3, 0, 0, 1055, 0, 4, 0, 0, 0, 0, 0, 0], 2, some .boolean, [2108, 2106, 2107, 1003], 1, 1)
def hm_W_bit : hx_M := (⟨"HueWar", "bit", "(II)I"⟩, prog_1_method_38_code,
  [.iload 0, .iload 1, .ishr, .bipush 1, .iand, .ireturn],
  [0, 1, 2, 3, 4, 5],
  [0, 0, 0, 0, 0, 0], 2, some .int, [2111, 2110, 1001], 0, 2)
def hm_W_have : hx_M := (⟨"HueWar", "have", "(III)Z"⟩, prog_1_method_3_code,
  [.aload 0, .getfield 1001, .iload 1, .invokevirtual 17, .ifCond .eq 13, .iload 2, .invokestatic 19, .ifCond .eq 13, .iload 3, .ifCond .lt 13, .iload 3, .bipush 64,
  .if_icmp .lt 15, .bipush 0, .ireturn, .aload 0, .getfield 1006, .iload 1, .iload 2, .iload 3, .invokevirtual 20, .bipush 1, .ireturn],
  [0, 1, 4, 5, 8, 11, 12, 15, 18, 19, 22, 23, 25, 28, 29, 30, 31, 34, 35, 36, 37, 40, 41],
  [0, 2046, 0, 2116, 0, 0, 2124, 0, 0, 0, 0, 0, 0, 0, 0, 0, 2051, 0, 0, 0, 2127, 0, 0], 4, some .boolean, [2115, 2113, 2114, 1001], 1, 3)
def hm_P_isPlain : hx_M := (⟨"HueWar$Palette", "isPlain", "(I)Z"⟩, prog_7_method_7_code,
  [.aload 0, .iload 1, .invokevirtual 14, .ifCond .eq 10, .aload 0, .iload 1, .invokevirtual 18, .ifCond .ne 10, .bipush 1, .goto 11, .bipush 0, .ireturn],
  [0, 1, 2, 5, 8, 9, 10, 13, 16, 17, 20, 21],
  [0, 0, 2105, 0, 0, 0, 2120, 0, 0, 0, 0, 0], 2, some .boolean, [2119, 2117, 2118, 1003], 1, 1)
def hm_P_isMixed : hx_M := (⟨"HueWar$Palette", "isMixed", "(I)Z"⟩, prog_7_method_6_code,
  [.iload 1, .bipush 12, .invokestatic 13, .ifCond .eq 12, .aload 0, .getfield 503, .iload 1, .invokestatic 15, .bipush 1, .if_icmp .ne 12, .bipush 1, .goto 13,
  .bipush 0, .ireturn],
  [0, 1, 3, 6, 9, 10, 13, 14, 17, 18, 21, 22, 25, 26],
  [0, 0, 3, 0, 0, 1056, 0, 4, 0, 0, 0, 0, 0, 0], 2, some .boolean, [2123, 2121, 2122, 1003], 1, 1)
def hm_W_isQuarter : hx_M := (⟨"HueWar", "isQuarter", "(I)Z"⟩, prog_1_method_34_code,
  [.iload 0, .ifCond .lt 7, .iload 0, .bipush 4, .if_icmp .ge 7, .bipush 1, .goto 8, .bipush 0, .ireturn],
  [0, 1, 4, 5, 6, 9, 10, 13, 14],
  [0, 0, 0, 0, 0, 0, 0, 0, 0], 1, some .boolean, [2126, 2125, 1001], 0, 1)
def hm_S_setHavers : hx_M := (⟨"HueWar$State", "setHavers", "(III)V"⟩, prog_10_method_9_code,
  [.iload 1, .bipush 12, .invokestatic 13, .ifCond .eq 16, .iload 2, .invokestatic 19, .ifCond .eq 16, .aload 0, .getfield 800, .bipush 4, .iload 1, .imul,
  .iload 2, .iadd, .iload 3, .iastore, .return_],
  [0, 1, 3, 6, 9, 10, 13, 16, 17, 20, 21, 22, 23, 24, 25, 26, 27],
  [0, 0, 5, 0, 0, 6, 0, 0, 1156, 0, 0, 0, 0, 0, 0, 0, 0], 4, none, [2130, 2128, 2129, 1007], 1, 3)
def hm_W_owner : hx_M := (⟨"HueWar", "owner", "(III)Z"⟩, prog_1_method_4_code,
  [.iload 1, .iload 2, .invokestatic 22, .ifCond .eq 9, .iload 3, .ifCond .lt 9, .iload 3, .bipush 6, .if_icmp .le 11, .bipush 0, .ireturn, .aload 0,
  .getfield 1006, .bipush 8, .iload 2, .imul, .iload 1, .iadd, .iload 3, .invokevirtual 23, .bipush 1, .ireturn],
  [0, 1, 2, 5, 8, 9, 12, 13, 15, 18, 19, 20, 21, 24, 26, 27, 28, 29, 30, 31, 34, 35],
  [0, 0, 2137, 0, 0, 0, 0, 0, 0, 0, 0, 0, 2051, 0, 0, 0, 0, 0, 0, 2141, 0, 0], 4, some .boolean, [2136, 2134, 2135, 1001], 1, 3)
def hm_W_isPlace : hx_M := (⟨"HueWar", "isPlace", "(II)Z"⟩, prog_1_method_35_code,
  [.iload 0, .bipush 8, .invokestatic 13, .ifCond .eq 10, .iload 1, .bipush 8, .invokestatic 13, .ifCond .eq 10, .bipush 1, .goto 11, .bipush 0, .ireturn],
  [0, 1, 3, 6, 9, 10, 12, 15, 18, 19, 22, 23],
  [0, 0, 2140, 0, 0, 0, 2140, 0, 0, 0, 0, 0], 2, some .boolean, [2139, 2138, 1001], 0, 2)
def hm_S_setOwner : hx_M := (⟨"HueWar$State", "setOwner", "(II)V"⟩, prog_10_method_7_code,
  [.iload 1, .bipush 64, .invokestatic 13, .ifCond .eq 9, .aload 0, .getfield 801, .iload 1, .iload 2, .iastore, .return_],
  [0, 1, 3, 6, 9, 10, 13, 14, 15, 16],
  [0, 0, 5, 0, 0, 1157, 0, 0, 0, 0], 3, none, [2144, 2142, 2143, 1007], 1, 2)
def hm_W_feed : hx_M := (⟨"HueWar", "feed", "(IIIII)I"⟩, prog_1_method_5_code,
  [.aload 0, .getfield 1000, .invokevirtual 25, .bipush 20, .iadd, .bipush 260, .if_icmp .le 9, .bipush (-1), .ireturn, .aload 0, .getfield 1000, .iload 1,
  .invokevirtual 26, .aload 0, .getfield 1000, .iload 2, .invokevirtual 26, .aload 0, .getfield 1000, .iload 3, .invokevirtual 26, .aload 0, .getfield 1000, .iload 4,
  .invokevirtual 26, .aload 0, .getfield 1000, .iload 5, .invokevirtual 26, .aload 0, .getfield 1000, .invokevirtual 25, .ireturn],
  [0, 1, 4, 7, 9, 10, 13, 16, 17, 18, 19, 22, 23, 26, 27, 30, 31, 34, 35, 38, 39, 42, 43, 46, 48, 51, 52, 55, 57, 60, 61, 64, 67],
  [0, 2045, 2149, 0, 0, 0, 0, 0, 0, 0, 2045, 0, 2153, 0, 2045, 0, 2153, 0, 2045, 0, 2153, 0, 2045, 0, 2153, 0, 2045, 0, 2153, 0, 2045, 2149, 0], 6, some .int, [2148, 2146, 2147, 1001], 1, 5)
def hm_T_length : hx_M := (⟨"HueWar$Tape", "length", "()I"⟩, prog_11_method_2_code,
  [.aload 0, .getfield 901, .ireturn],
  [0, 1, 4],
  [0, 1031, 0], 1, some .int, [2152, 2150, 2151, 1002], 1, 0)
def hm_T_add : hx_M := (⟨"HueWar$Tape", "add", "(I)V"⟩, prog_11_method_4_code,
  [.bipush 24, .istore 2, .iload 2, .ifCond .lt 26, .aload 0, .getfield 901, .bipush 260, .if_icmp .ge 24, .aload 0, .getfield 900, .aload 0, .getfield 901,
  .iload 1, .iload 2, .ishr, .bipush 255, .iand, .iastore, .aload 0, .dup, .getfield 901, .bipush 1, .iadd, .putfield 901,
  .iinc 2 (-8), .goto 2, .return_],
  [0, 2, 3, 4, 7, 8, 11, 14, 17, 18, 21, 22, 25, 26, 27, 28, 31, 32, 33, 34, 35, 38, 39, 40, 43, 46, 49],
  [0, 0, 0, 0, 0, 1031, 0, 0, 0, 1030, 0, 1031, 0, 0, 0, 0, 0, 0, 0, 0, 1031, 0, 0, 1031, 0, 0, 0], 3, none, [2156, 2154, 2155, 1002], 1, 1)
def hm_W_law : hx_M := (⟨"HueWar", "law", "(I)I"⟩, prog_1_method_6_code,
  [.aload 0, .iload 1, .bipush 240, .invokevirtual 28, .ifCond .ne 7, .bipush (-1), .ireturn, .aload 0, .getfield 1004, .iload 1, .invokevirtual 29, .istore 2,
  .aload 0, .getfield 1000, .invokevirtual 50, .iload 2, .ifCond .eq 19, .iload 2, .ireturn, .aload 0, .getfield 1003, .aload 0, .getfield 1004, .invokevirtual 51,
  .aload 0, .getfield 1003, .invokevirtual 52, .ireturn],
  [0, 1, 2, 5, 8, 11, 12, 13, 14, 17, 18, 21, 22, 23, 26, 29, 30, 33, 34, 35, 36, 39, 40, 43, 46, 47, 50, 53],
  [0, 0, 0, 2161, 0, 0, 0, 0, 2049, 0, 2165, 0, 0, 2045, 3011, 0, 0, 0, 0, 0, 2048, 0, 2049, 3015, 0, 2048, 3022, 0], 3, some .int, [2160, 2158, 2159, 1001], 1, 1)
def hm_W_isOnTape : hx_M := (⟨"HueWar", "isOnTape", "(II)Z"⟩, prog_1_method_40_code,
  [.iload 1, .bipush 1, .if_icmp .lt 13, .iload 1, .iload 2, .if_icmp .gt 13, .iload 1, .aload 0, .getfield 1000, .invokevirtual 25, .if_icmp .gt 13, .bipush 1,
  .goto 14, .bipush 0, .ireturn],
  [0, 1, 2, 5, 6, 7, 10, 11, 12, 15, 18, 21, 22, 25, 26],
  [0, 0, 0, 0, 0, 0, 0, 0, 2045, 2149, 0, 0, 0, 0, 0], 3, some .boolean, [2164, 2163, 0, 1001], 1, 2)
def hm_L_read : hx_M := (⟨"HueWar$Law", "read", "(I)I"⟩, prog_5_method_4_code,
  [.aload 0, .getfield 300, .iload 1, .invokevirtual 30, .aload 0, .bipush 0, .putfield 307, .aload 0, .bipush 0, .putfield 303, .aload 0, .invokevirtual 31,
  .bipush 0, .istore 2, .iload 2, .bipush 16, .if_icmp .ge 29, .aload 0, .getfield 300, .invokevirtual 32, .bipush 59, .if_icmp .ne 29, .aload 0, .getfield 300,
  .invokevirtual 34, .aload 0, .invokevirtual 31, .iinc 2 1, .goto 14, .aload 0, .getfield 300, .invokevirtual 48, .aload 0, .getfield 300, .invokevirtual 49, .ireturn],
  [0, 1, 4, 5, 8, 9, 10, 13, 14, 15, 18, 19, 22, 23, 24, 25, 27, 30, 31, 34, 37, 39, 42, 43, 46, 49, 50, 53, 56, 59, 60, 63, 66, 67, 70, 73],
  [0, 1091, 0, 2169, 0, 0, 1098, 0, 0, 1094, 0, 2176, 0, 0, 0, 0, 0, 0, 1091, 2180, 0, 0, 0, 1091, 2188, 0, 2176, 0, 0, 0, 1091, 3003, 0, 1091, 3007, 0], 3, some .int, [2168, 2166, 2167, 1005], 1, 1)
def hm_T_start : hx_M := (⟨"HueWar$Tape", "start", "(I)V"⟩, prog_11_method_7_code,
  [.aload 0, .iload 1, .aload 0, .getfield 901, .invokestatic 9991, .putfield 902, .aload 0, .bipush 0, .putfield 903, .aload 0, .bipush 0, .putfield 904,
  .return_],
  [0, 1, 2, 3, 6, 9, 12, 13, 14, 17, 18, 19, 22],
  [0, 0, 0, 1031, 2173, 1032, 0, 0, 1033, 0, 0, 1034, 0], 2, none, [2172, 2170, 2171, 1002], 1, 1)
def hm_L_readClause : hx_M := (⟨"HueWar$Law", "readClause", "()V"⟩, prog_5_method_5_code,
  [.aload 0, .getfield 300, .invokevirtual 32, .istore 1, .iload 1, .bipush 118, .if_icmp .eq 10, .iload 1, .bipush 98, .if_icmp .ne 12, .bipush 1, .goto 13,
  .bipush 0, .istore 2, .iload 2, .ifCond .ne 27, .iload 1, .bipush 115, .if_icmp .eq 27, .iload 1, .bipush 107, .if_icmp .eq 27, .aload 0, .getfield 300,
  .bipush 1, .invokevirtual 33, .return_, .aload 0, .getfield 307, .bipush 16, .if_icmp .lt 36, .aload 0, .getfield 300, .bipush 4, .invokevirtual 33, .return_,
  .aload 0, .getfield 300, .invokevirtual 34, .aload 0, .getfield 304, .aload 0, .getfield 307, .iload 1, .iastore, .aload 0, .getfield 305, .aload 0,
  .getfield 307, .aload 0, .getfield 303, .iastore, .iload 2, .ifCond .eq 62, .aload 0, .bipush 0, .invokevirtual 35, .aload 0, .bipush 46, .bipush 0,
  .invokevirtual 40, .pop, .aload 0, .getfield 306, .aload 0, .getfield 307, .aload 0, .getfield 303, .iastore, .aload 0, .getfield 300, .bipush 40,
  .invokevirtual 41, .aload 0, .bipush 1, .invokevirtual 44, .aload 0, .getfield 300, .bipush 41, .invokevirtual 41, .aload 0, .bipush 46, .bipush 0, .invokevirtual 40,
  .pop, .aload 0, .dup, .getfield 307, .bipush 1, .iadd, .putfield 307, .return_],
  [0, 1, 4, 7, 8, 9, 11, 14, 15, 17, 20, 21, 24, 25, 26, 27, 30, 31, 33, 36, 37, 39, 42, 43, 46, 47, 50, 51, 52, 55, 57, 60, 61, 64, 65, 68, 69, 70, 73, 76,
  77, 80, 81, 84, 85, 86, 87, 90, 91, 94, 95, 98, 99, 100, 103, 104, 105, 108, 109, 111, 112, 115, 116, 117, 120, 121, 124, 125, 128, 129, 130, 133, 135, 138, 139, 140, 143, 144, 147, 149,
  152, 153, 155, 156, 159, 160, 161, 162, 165, 166, 167, 170],
  [0, 1091, 2180, 0, 0, 0, 0, 0, 0, 0, 0, 0, 0, 0, 0, 0, 0, 0, 0, 0, 0, 0, 0, 1091, 0, 2184, 0, 0, 1098, 0, 0, 0, 1091, 0, 2184, 0, 0, 1091, 2188, 0,
  1095, 0, 1098, 0, 0, 0, 1096, 0, 1098, 0, 1094, 0, 0, 0, 0, 0, 2192, 0, 0, 0, 2211, 0, 0, 1097, 0, 1098, 0, 1094, 0, 0, 1091, 0, 2215, 0, 0, 2227, 0, 1091, 0, 2215,
  0, 0, 0, 2211, 0, 0, 0, 1098, 0, 0, 1098, 0], 3, none, [2179, 2178, 1, 1005], 1, 0)
def hm_T_next : hx_M := (⟨"HueWar$Tape", "next", "()I"⟩, prog_11_method_8_code,
  [.aload 0, .getfield 904, .ifCond .ne 17, .aload 0, .getfield 903, .ifCond .lt 17, .aload 0, .getfield 903, .aload 0, .getfield 902, .if_icmp .ge 17, .aload 0,
  .getfield 900, .aload 0, .getfield 903, .iaload, .goto 18, .bipush (-1), .ireturn],
  [0, 1, 4, 7, 8, 11, 14, 15, 18, 19, 22, 25, 26, 29, 30, 33, 34, 37, 38],
  [0, 1034, 0, 0, 1033, 0, 0, 1033, 0, 1032, 0, 0, 1030, 0, 1033, 0, 0, 0, 0], 1, some .int, [2183, 2181, 2182, 1002], 1, 0)
def hm_T_fail : hx_M := (⟨"HueWar$Tape", "fail", "(I)V"⟩, prog_11_method_12_code,
  [.aload 0, .getfield 904, .ifCond .ne 11, .aload 0, .bipush (-1000), .iload 1, .imul, .aload 0, .getfield 903, .isub, .putfield 904, .return_],
  [0, 1, 4, 7, 8, 11, 12, 13, 14, 17, 18, 21],
  [0, 1034, 0, 0, 0, 0, 0, 0, 1033, 0, 1034, 0], 2, none, [2187, 2185, 2186, 1002], 1, 1)
def hm_T_step : hx_M := (⟨"HueWar$Tape", "step", "()V"⟩, prog_11_method_10_code,
  [.aload 0, .dup, .getfield 903, .bipush 1, .iadd, .putfield 903, .return_],
  [0, 1, 2, 5, 6, 7, 10],
  [0, 0, 1033, 0, 0, 1033, 0], 1, none, [2191, 2189, 2190, 1002], 1, 0)
def hm_L_readSum : hx_M := (⟨"HueWar$Law", "readSum", "(I)V"⟩, prog_5_method_9_code,
  [.aload 0, .iload 1, .invokevirtual 36, .bipush 0, .istore 2, .iload 2, .bipush 240, .if_icmp .ge 35, .aload 0, .getfield 300, .invokevirtual 32, .bipush 43,
  .if_icmp .eq 18, .aload 0, .getfield 300, .invokevirtual 32, .bipush 45, .if_icmp .ne 35, .aload 0, .getfield 300, .invokevirtual 32, .istore 3, .aload 0, .getfield 300,
  .invokevirtual 34, .aload 0, .iload 1, .invokevirtual 36, .aload 0, .iload 3, .bipush 0, .invokevirtual 40, .pop, .iinc 2 1, .goto 5, .return_],
  [0, 1, 2, 5, 6, 7, 8, 11, 14, 15, 18, 21, 23, 26, 27, 30, 33, 35, 38, 39, 42, 45, 46, 47, 50, 53, 54, 55, 58, 59, 60, 61, 64, 65, 68, 71],
  [0, 0, 2196, 0, 0, 0, 0, 0, 0, 1091, 2180, 0, 0, 0, 1091, 2180, 0, 0, 0, 1091, 2180, 0, 0, 1091, 2188, 0, 0, 2196, 0, 0, 0, 2211, 0, 0, 0, 0], 4, none, [2195, 2194, 2, 1005], 1, 1)
def hm_L_readProduct : hx_M := (⟨"HueWar$Law", "readProduct", "(I)V"⟩, prog_5_method_10_code,
  [.aload 0, .iload 1, .invokevirtual 37, .bipush 0, .istore 2, .iload 2, .bipush 240, .if_icmp .ge 30, .aload 0, .getfield 300, .invokevirtual 32, .invokestatic 43,
  .ifCond .eq 30, .aload 0, .getfield 300, .invokevirtual 32, .istore 3, .aload 0, .getfield 300, .invokevirtual 34, .aload 0, .iload 1, .invokevirtual 37, .aload 0,
  .iload 3, .bipush 0, .invokevirtual 40, .pop, .iinc 2 1, .goto 5, .return_],
  [0, 1, 2, 5, 6, 7, 8, 11, 14, 15, 18, 21, 24, 27, 28, 31, 34, 35, 36, 39, 42, 43, 44, 47, 48, 49, 50, 53, 54, 57, 60],
  [0, 0, 2200, 0, 0, 0, 0, 0, 0, 1091, 2180, 2224, 0, 0, 1091, 2180, 0, 0, 1091, 2188, 0, 0, 2200, 0, 0, 0, 2211, 0, 0, 0, 0], 4, none, [2199, 2198, 3, 1005], 1, 1)
def hm_L_readFactor : hx_M := (⟨"HueWar$Law", "readFactor", "(I)V"⟩, prog_5_method_12_code,
  [.aload 0, .getfield 300, .invokevirtual 32, .istore 2, .iload 2, .invokestatic 38, .ifCond .eq 10, .aload 0, .invokevirtual 39, .return_, .iload 2, .bipush 91,
  .if_icmp .ne 34, .iload 1, .bipush 6, .if_icmp .lt 21, .aload 0, .getfield 300, .bipush 5, .invokevirtual 33, .return_, .aload 0, .getfield 300, .invokevirtual 34,
  .aload 0, .iload 1, .bipush 1, .iadd, .invokevirtual 35, .aload 0, .getfield 300, .bipush 93, .invokevirtual 41, .return_, .iload 2, .invokestatic 42,
  .istore 3, .iload 3, .ifCond .ge 44, .aload 0, .getfield 300, .bipush 1, .invokevirtual 33, .return_, .aload 0, .getfield 300, .invokevirtual 34, .aload 0,
  .bipush 97, .iload 3, .invokevirtual 40, .pop, .return_],
  [0, 1, 4, 7, 8, 9, 12, 15, 16, 19, 20, 21, 23, 26, 27, 29, 32, 33, 36, 37, 40, 41, 42, 45, 48, 49, 50, 51, 52, 55, 56, 59, 61, 64, 65, 66, 69, 70, 71, 74,
  75, 78, 79, 82, 83, 84, 87, 90, 91, 93, 94, 97, 98],
  [0, 1091, 2180, 0, 0, 7, 0, 0, 2207, 0, 0, 0, 0, 0, 0, 0, 0, 1091, 0, 2184, 0, 0, 1091, 2188, 0, 0, 0, 0, 2192, 0, 1091, 0, 2215, 0, 0, 2221, 0, 0, 0, 0,
  1091, 0, 2184, 0, 0, 1091, 2188, 0, 0, 0, 2211, 0, 0], 4, none, [2203, 2202, 4, 1005], 1, 1)
def hm_W_isDigit : hx_M := (⟨"HueWar", "isDigit", "(I)Z"⟩, prog_1_method_37_code,
  [.iload 0, .bipush 48, .if_icmp .lt 8, .iload 0, .bipush 57, .if_icmp .gt 8, .bipush 1, .goto 9, .bipush 0, .ireturn],
  [0, 1, 3, 6, 7, 9, 12, 13, 16, 17],
  [0, 0, 0, 0, 0, 0, 0, 0, 0, 0], 1, some .boolean, [2206, 2205, 1001], 0, 1)
def hm_L_readNumber : hx_M := (⟨"HueWar$Law", "readNumber", "()V"⟩, prog_5_method_13_code,
  [.bipush 0, .istore 1, .bipush 0, .istore 2, .iload 2, .bipush 5, .if_icmp .ge 27, .aload 0, .getfield 300, .invokevirtual 32, .invokestatic 38, .ifCond .eq 27,
  .bipush 10, .iload 1, .imul, .aload 0, .getfield 300, .invokevirtual 32, .iadd, .bipush 48, .isub, .istore 1, .aload 0, .getfield 300,
  .invokevirtual 34, .iinc 2 1, .goto 4, .aload 0, .getfield 300, .invokevirtual 32, .invokestatic 38, .ifCond .eq 36, .aload 0, .getfield 300, .bipush 2, .invokevirtual 33,
  .aload 0, .bipush 48, .iload 1, .invokevirtual 40, .pop, .return_],
  [0, 1, 2, 3, 4, 5, 6, 9, 10, 13, 16, 19, 22, 24, 25, 26, 27, 30, 33, 34, 36, 37, 38, 39, 42, 45, 48, 51, 52, 55, 58, 61, 64, 65, 68, 69, 72, 73, 75, 76,
  79, 80],
  [0, 0, 0, 0, 0, 0, 0, 0, 1091, 2180, 7, 0, 0, 0, 0, 0, 1091, 2180, 0, 0, 0, 0, 0, 1091, 2188, 0, 0, 0, 1091, 2180, 7, 0, 0, 1091, 0, 2184, 0, 0, 0, 2211,
  0, 0], 3, none, [2210, 2209, 5, 1005], 1, 0)
def hm_L_emit : hx_M := (⟨"HueWar$Law", "emit", "(II)I"⟩, prog_5_method_15_code,
  [.aload 0, .getfield 303, .istore 3, .iload 3, .aload 0, .getfield 301, .arraylength, .if_icmp .ge 24, .aload 0, .getfield 301, .iload 3, .iload 1,
  .iastore, .aload 0, .getfield 302, .iload 3, .iload 2, .iastore, .aload 0, .dup, .getfield 303, .bipush 1, .iadd, .putfield 303,
  .iload 3, .ireturn],
  [0, 1, 4, 5, 6, 7, 10, 11, 14, 15, 18, 19, 20, 21, 22, 25, 26, 27, 28, 29, 30, 33, 34, 35, 38, 39],
  [0, 1094, 0, 0, 0, 1092, 0, 0, 0, 1092, 0, 0, 0, 0, 1093, 0, 0, 0, 0, 0, 1094, 0, 0, 1094, 0, 0], 4, some .int, [2214, 2213, 6, 1005], 1, 2)
def hm_T_take : hx_M := (⟨"HueWar$Tape", "take", "(I)V"⟩, prog_11_method_14_code,
  [.aload 0, .invokevirtual 32, .iload 1, .if_icmp .ne 11, .aload 0, .dup, .getfield 903, .bipush 1, .iadd, .putfield 903, .goto 14, .aload 0,
  .bipush 1, .invokevirtual 33, .return_],
  [0, 1, 4, 5, 8, 9, 10, 13, 14, 15, 18, 21, 22, 23, 26],
  [0, 2219, 0, 0, 0, 0, 1033, 0, 0, 1033, 0, 0, 0, 2220, 0], 2, none, [2218, 2216, 2217, 1002], 1, 1)
def hm_L_letterOf : hx_M := (⟨"HueWar$Law", "letterOf", "(I)I"⟩, prog_5_method_14_code,
  [.iload 0, .tableswitch 22 (97) (113) #[12, 14, 4, 8, 2, 22, 18, 22, 22, 22, 22, 22, 10, 16, 20, 22, 6], .bipush 0, .ireturn, .bipush 1, .ireturn, .bipush 2, .ireturn, .bipush 3, .ireturn, .bipush 4, .ireturn,
  .bipush 5, .ireturn, .bipush 6, .ireturn, .bipush 7, .ireturn, .bipush 8, .ireturn, .bipush 9, .ireturn, .bipush (-1), .ireturn],
  [0, 1, 84, 85, 86, 87, 88, 89, 90, 91, 92, 93, 94, 95, 96, 98, 99, 101, 102, 104, 105, 107, 108, 109],
  [0, 0, 0, 0, 0, 0, 0, 0, 0, 0, 0, 0, 0, 0, 0, 0, 0, 0, 0, 0, 0, 0, 0, 0], 1, some .int, [2223, 2222, 1005], 0, 1)
def hm_L_isTimes : hx_M := (⟨"HueWar$Law", "isTimes", "(I)Z"⟩, prog_5_method_11_code,
  [.iload 0, .bipush 42, .if_icmp .eq 9, .iload 0, .bipush 47, .if_icmp .eq 9, .iload 0, .bipush 37, .if_icmp .ne 11, .bipush 1, .goto 12, .bipush 0,
  .ireturn],
  [0, 1, 3, 6, 7, 9, 12, 13, 15, 18, 19, 22, 23],
  [0, 0, 0, 0, 0, 0, 0, 0, 0, 0, 0, 0, 0], 1, some .boolean, [2226, 2225, 1005], 0, 1)
def hm_L_readEither : hx_M := (⟨"HueWar$Law", "readEither", "(I)V"⟩, prog_5_method_6_code,
  [.aload 0, .iload 1, .invokevirtual 45, .bipush (-1), .istore 2, .bipush 0, .istore 3, .iload 3, .bipush 240, .if_icmp .ge 31, .aload 0, .getfield 300,
  .invokevirtual 32, .bipush 124, .if_icmp .ne 31, .aload 0, .getfield 300, .invokevirtual 34, .aload 0, .iload 2, .invokevirtual 47, .aload 0, .bipush 124, .bipush 0,
  .invokevirtual 40, .istore 2, .aload 0, .iload 1, .invokevirtual 45, .iinc 3 1, .goto 7, .aload 0, .iload 2, .invokevirtual 47, .return_],
  [0, 1, 2, 5, 6, 7, 8, 9, 10, 13, 16, 17, 20, 23, 25, 28, 29, 32, 35, 36, 37, 40, 41, 43, 44, 47, 48, 49, 50, 53, 56, 59, 60, 61, 64],
  [0, 0, 2231, 0, 0, 0, 0, 0, 0, 0, 0, 1091, 2180, 0, 0, 0, 1091, 2188, 0, 0, 2239, 0, 0, 0, 2211, 0, 0, 0, 2231, 0, 0, 0, 0, 2239, 0], 4, none, [2230, 2229, 7, 1005], 1, 1)
def hm_L_readBoth : hx_M := (⟨"HueWar$Law", "readBoth", "(I)V"⟩, prog_5_method_7_code,
  [.aload 0, .iload 1, .invokevirtual 46, .bipush (-1), .istore 2, .bipush 0, .istore 3, .iload 3, .bipush 240, .if_icmp .ge 31, .aload 0, .getfield 300,
  .invokevirtual 32, .bipush 38, .if_icmp .ne 31, .aload 0, .getfield 300, .invokevirtual 34, .aload 0, .iload 2, .invokevirtual 47, .aload 0, .bipush 38, .bipush 0,
  .invokevirtual 40, .istore 2, .aload 0, .iload 1, .invokevirtual 46, .iinc 3 1, .goto 7, .aload 0, .iload 2, .invokevirtual 47, .return_],
  [0, 1, 2, 5, 6, 7, 8, 9, 10, 13, 16, 17, 20, 23, 25, 28, 29, 32, 35, 36, 37, 40, 41, 43, 44, 47, 48, 49, 50, 53, 56, 59, 60, 61, 64],
  [0, 0, 2235, 0, 0, 0, 0, 0, 0, 0, 0, 1091, 2180, 0, 0, 0, 1091, 2188, 0, 0, 2239, 0, 0, 0, 2211, 0, 0, 0, 2235, 0, 0, 0, 0, 2239, 0], 4, none, [2234, 2233, 8, 1005], 1, 1)
def hm_L_readPiece : hx_M := (⟨"HueWar$Law", "readPiece", "(I)V"⟩, prog_5_method_8_code,
  [.aload 0, .getfield 300, .invokevirtual 32, .istore 2, .iload 2, .bipush 33, .if_icmp .eq 10, .iload 2, .bipush 40, .if_icmp .ne 45, .iload 1, .bipush 6,
  .if_icmp .lt 18, .aload 0, .getfield 300, .bipush 5, .invokevirtual 33, .return_, .aload 0, .getfield 300, .invokevirtual 34, .iload 2, .bipush 33, .if_icmp .ne 35,
  .aload 0, .iload 1, .bipush 1, .iadd, .invokevirtual 46, .aload 0, .bipush 33, .bipush 0, .invokevirtual 40, .pop, .goto 44, .aload 0,
  .iload 1, .bipush 1, .iadd, .invokevirtual 44, .aload 0, .getfield 300, .bipush 41, .invokevirtual 41, .return_, .aload 0, .iload 1, .invokevirtual 35,
  .aload 0, .getfield 300, .invokevirtual 32, .istore 3, .iload 3, .bipush 60, .if_icmp .eq 66, .iload 3, .bipush 62, .if_icmp .eq 66, .iload 3, .bipush 61,
  .if_icmp .eq 66, .aload 0, .getfield 300, .bipush 1, .invokevirtual 33, .return_, .aload 0, .getfield 300, .invokevirtual 34, .aload 0, .iload 1, .invokevirtual 35,
  .aload 0, .iload 3, .bipush 0, .invokevirtual 40, .pop, .return_],
  [0, 1, 4, 7, 8, 9, 11, 14, 15, 17, 20, 21, 23, 26, 27, 30, 31, 34, 35, 36, 39, 42, 43, 45, 48, 49, 50, 51, 52, 55, 56, 58, 59, 62, 63, 66, 67, 68, 69, 70,
  73, 74, 77, 79, 82, 83, 84, 85, 88, 89, 92, 95, 96, 97, 99, 102, 103, 105, 108, 109, 111, 114, 115, 118, 119, 122, 123, 124, 127, 130, 131, 132, 135, 136, 137, 138, 141, 142],
  [0, 1091, 2180, 0, 0, 0, 0, 0, 0, 0, 0, 0, 0, 0, 1091, 0, 2184, 0, 0, 1091, 2188, 0, 0, 0, 0, 0, 0, 0, 2235, 0, 0, 0, 2211, 0, 0, 0, 0, 0, 0, 2227,
  0, 1091, 0, 2215, 0, 0, 0, 2192, 0, 1091, 2180, 0, 0, 0, 0, 0, 0, 0, 0, 0, 0, 0, 1091, 0, 2184, 0, 0, 1091, 2188, 0, 0, 2192, 0, 0, 0, 2211, 0, 0], 4, none, [2238, 2237, 9, 1005], 1, 1)
def hm_L_leadHere : hx_M := (⟨"HueWar$Law", "leadHere", "(I)V"⟩, prog_5_method_16_code,
  [.iload 1, .ifCond .lt 13, .iload 1, .aload 0, .getfield 302, .arraylength, .if_icmp .ge 13, .aload 0, .getfield 302, .iload 1, .aload 0, .getfield 303,
  .iastore, .return_],
  [0, 1, 4, 5, 6, 9, 10, 13, 14, 17, 18, 19, 22, 23],
  [0, 0, 0, 0, 1093, 0, 0, 0, 1093, 0, 0, 1094, 0, 0], 2, none, [3002, 3001, 10, 1005], 1, 1)
def hm_T_finish : hx_M := (⟨"HueWar$Tape", "finish", "()V"⟩, prog_11_method_15_code,
  [.aload 0, .getfield 903, .aload 0, .getfield 902, .if_icmp .ge 8, .aload 0, .bipush 1, .invokevirtual 33, .return_],
  [0, 1, 4, 5, 8, 11, 12, 13, 16],
  [0, 1033, 0, 1032, 0, 0, 0, 2220, 0], 1, none, [3006, 3004, 3005, 1002], 1, 0)
def hm_T_fault : hx_M := (⟨"HueWar$Tape", "fault", "()I"⟩, prog_11_method_11_code,
  [.aload 0, .getfield 904, .ireturn],
  [0, 1, 4],
  [0, 1034, 0], 1, some .int, [3010, 3008, 3009, 1002], 1, 0)
def hm_T_clear : hx_M := (⟨"HueWar$Tape", "clear", "()V"⟩, prog_11_method_3_code,
  [.aload 0, .bipush 0, .putfield 901, .return_],
  [0, 1, 2, 5],
  [0, 0, 1031, 0], 1, none, [3014, 3012, 3013, 1002], 1, 0)
def hm_L_copyFrom : hx_M := (⟨"HueWar$Law", "copyFrom", "(LHueWar$Law;)V"⟩, prog_5_method_3_code,
  [.aload 1, .getfield 301, .bipush 0, .aload 0, .getfield 301, .bipush 0, .aload 0, .getfield 301, .arraylength, .invokestatic 9999, .aload 1, .getfield 302,
  .bipush 0, .aload 0, .getfield 302, .bipush 0, .aload 0, .getfield 302, .arraylength, .invokestatic 9999, .aload 1, .getfield 304, .bipush 0, .aload 0,
  .getfield 304, .bipush 0, .bipush 16, .invokestatic 9999, .aload 1, .getfield 305, .bipush 0, .aload 0, .getfield 305, .bipush 0, .bipush 16, .invokestatic 9999,
  .aload 1, .getfield 306, .bipush 0, .aload 0, .getfield 306, .bipush 0, .bipush 16, .invokestatic 9999, .aload 0, .aload 1, .getfield 303, .putfield 303,
  .aload 0, .aload 1, .getfield 307, .putfield 307, .return_],
  [0, 1, 4, 5, 6, 9, 10, 11, 14, 15, 18, 19, 22, 23, 24, 27, 28, 29, 32, 33, 36, 37, 40, 41, 42, 45, 46, 48, 51, 52, 55, 56, 57, 60, 61, 63, 66, 67, 70, 71,
  72, 75, 76, 78, 81, 82, 83, 86, 89, 90, 91, 94, 97],
  [0, 1092, 0, 0, 1092, 0, 0, 1092, 0, 3019, 0, 1093, 0, 0, 1093, 0, 0, 1093, 0, 3019, 0, 1095, 0, 0, 1095, 0, 0, 3019, 0, 1096, 0, 0, 1096, 0, 0, 3019, 0, 1097, 0, 0,
  1097, 0, 0, 3019, 0, 0, 1094, 1094, 0, 0, 1098, 1098, 0], 2, none, [3018, 3016, 3017, 1005], 1, 1)
def hm_L_clauses : hx_M := (⟨"HueWar$Law", "clauses", "()I"⟩, prog_5_method_2_code,
  [.aload 0, .getfield 307, .ireturn],
  [0, 1, 4],
  [0, 1098, 0], 1, some .int, [3025, 3023, 3024, 1005], 1, 0)
def hm_W_land : hx_M := (⟨"HueWar", "land", "(I)I"⟩, prog_1_method_7_code,
  [.aload 0, .iload 1, .bipush 160, .invokevirtual 28, .ifCond .ne 7, .bipush (-1), .ireturn, .aload 0, .getfield 1002, .iload 1, .invokevirtual 54, .istore 2,
  .aload 0, .getfield 1000, .invokevirtual 50, .iload 2, .ifCond .eq 19, .iload 2, .goto 22, .aload 0, .getfield 1002, .invokevirtual 59, .ireturn],
  [0, 1, 2, 5, 8, 11, 12, 13, 14, 17, 18, 21, 22, 23, 26, 29, 30, 33, 34, 37, 38, 41, 44],
  [0, 0, 0, 2161, 0, 0, 0, 0, 2047, 0, 3030, 0, 0, 2045, 3011, 0, 0, 0, 0, 0, 2047, 3058, 0], 3, some .int, [3029, 3027, 3028, 1001], 1, 1)
def hm_G_read : hx_M := (⟨"HueWar$Ground", "read", "(I)I"⟩, prog_4_method_4_code,
  [.aload 0, .getfield 200, .iload 1, .invokevirtual 30, .bipush 0, .istore 2, .iload 2, .bipush 8, .if_icmp .ge 20, .iload 2, .ifCond .le 15, .aload 0,
  .getfield 200, .bipush 47, .invokevirtual 41, .aload 0, .iload 2, .invokevirtual 55, .iinc 2 1, .goto 6, .aload 0, .getfield 200, .invokevirtual 48, .aload 0,
  .getfield 200, .invokevirtual 49, .ifCond .ne 35, .aload 0, .getfield 203, .bipush 0, .aload 0, .getfield 202, .bipush 0, .bipush 64, .invokestatic 9999, .aload 0,
  .getfield 200, .invokevirtual 49, .ireturn],
  [0, 1, 4, 5, 8, 9, 10, 11, 13, 16, 17, 20, 21, 24, 26, 29, 30, 31, 34, 37, 40, 41, 44, 47, 48, 51, 54, 57, 58, 61, 62, 63, 66, 67, 69, 72, 73, 76, 79],
  [0, 1072, 0, 3034, 0, 0, 0, 0, 0, 0, 0, 0, 1072, 0, 3035, 0, 0, 3036, 0, 0, 0, 1072, 3055, 0, 1072, 3056, 0, 0, 1075, 0, 0, 1074, 0, 0, 3057, 0, 1072, 3056, 0], 3, some .int, [3033, 3031, 3032, 1004], 1, 1)
def hm_G_readRow : hx_M := (⟨"HueWar$Ground", "readRow", "(I)V"⟩, prog_4_method_5_code,
  [.bipush 0, .istore 2, .bipush 0, .istore 3, .iload 3, .bipush 8, .if_icmp .gt 21, .aload 0, .getfield 200, .invokevirtual 32, .invokestatic 56, .ifCond .eq 21,
  .iload 2, .aload 0, .iload 1, .iload 2, .invokevirtual 58, .iadd, .istore 2, .iinc 3 1, .goto 4, .iload 2, .bipush 8, .if_icmp .ge 28,
  .aload 0, .getfield 200, .bipush 1, .invokevirtual 33, .return_],
  [0, 1, 2, 3, 4, 5, 7, 10, 11, 14, 17, 20, 23, 24, 25, 26, 27, 30, 31, 32, 35, 38, 39, 41, 44, 45, 48, 49, 52],
  [0, 0, 0, 0, 0, 0, 0, 0, 1072, 3040, 3041, 0, 0, 0, 0, 0, 3047, 0, 0, 0, 0, 0, 0, 0, 0, 1072, 0, 3052, 0], 4, none, [3039, 3038, 11, 1004], 1, 1)
def hm_G_isFieldsStart : hx_M := (⟨"HueWar$Ground", "isFieldsStart", "(I)Z"⟩, prog_4_method_6_code,
  [.iload 0, .bipush 49, .if_icmp .lt 6, .iload 0, .bipush 56, .if_icmp .le 9, .iload 0, .invokestatic 57, .ifCond .lt 11, .bipush 1, .goto 12, .bipush 0,
  .ireturn],
  [0, 1, 3, 6, 7, 9, 12, 13, 16, 19, 20, 23, 24],
  [0, 0, 0, 0, 0, 0, 0, 3044, 0, 0, 0, 0, 0], 1, some .boolean, [3043, 3042, 1004], 0, 1)
def hm_G_colourOf : hx_M := (⟨"HueWar$Ground", "colourOf", "(I)I"⟩, prog_4_method_7_code,
  [.iload 0, .bipush 46, .if_icmp .ne 5, .bipush 12, .ireturn, .iload 0, .bipush 97, .if_icmp .lt 15, .iload 0, .bipush 108, .if_icmp .gt 15, .iload 0,
  .bipush 97, .isub, .goto 16, .bipush (-1), .ireturn],
  [0, 1, 3, 6, 8, 9, 10, 12, 15, 16, 18, 21, 22, 24, 25, 28, 29],
  [0, 0, 0, 0, 0, 0, 0, 0, 0, 0, 0, 0, 0, 0, 0, 0, 0], 1, some .int, [3046, 3045, 1004], 0, 1)
def hm_G_readFields : hx_M := (⟨"HueWar$Ground", "readFields", "(II)I"⟩, prog_4_method_8_code,
  [.bipush 1, .istore 3, .aload 0, .getfield 200, .invokevirtual 32, .invokestatic 38, .ifCond .eq 27, .aload 0, .getfield 200, .invokevirtual 32, .bipush 48, .isub,
  .istore 3, .iload 2, .iload 3, .iadd, .bipush 8, .if_icmp .le 24, .aload 0, .getfield 200, .bipush 6, .invokevirtual 33, .bipush 0, .ireturn,
  .aload 0, .getfield 200, .invokevirtual 34, .aload 0, .getfield 200, .invokevirtual 32, .invokestatic 57, .istore 4, .iload 4, .ifCond .ge 40, .aload 0, .getfield 200,
  .bipush 1, .invokevirtual 33, .bipush 0, .ireturn, .iload 2, .iload 3, .iadd, .bipush 8, .if_icmp .le 51, .aload 0, .getfield 200, .bipush 6,
  .invokevirtual 33, .bipush 0, .ireturn, .iload 4, .bipush 12, .if_icmp .eq 65, .aload 0, .getfield 201, .iload 4, .invokevirtual 14, .ifCond .ne 65, .aload 0,
  .getfield 200, .bipush 7, .invokevirtual 33, .bipush 0, .ireturn, .aload 0, .getfield 200, .invokevirtual 34, .bipush 0, .istore 5, .iload 5, .iload 3,
  .if_icmp .ge 86, .aload 0, .getfield 203, .bipush 8, .iload 1, .imul, .iload 2, .iadd, .iload 5, .iadd, .iload 4, .iastore,
  .iinc 5 1, .goto 70, .iload 3, .ireturn],
  [0, 1, 2, 3, 6, 9, 12, 15, 16, 19, 22, 24, 25, 26, 27, 28, 29, 31, 34, 35, 38, 40, 43, 44, 45, 46, 49, 52, 53, 56, 59, 62, 64, 66, 69, 70, 73, 74, 77, 78,
  79, 80, 81, 82, 84, 87, 88, 91, 93, 96, 97, 98, 100, 102, 105, 106, 109, 111, 114, 117, 118, 121, 123, 126, 127, 128, 129, 132, 135, 136, 138, 140, 141, 144, 145, 148, 150, 151, 152, 153,
  154, 156, 157, 159, 160, 163, 166, 167],
  [0, 0, 0, 1072, 3040, 8, 0, 0, 1072, 3040, 0, 0, 0, 0, 0, 0, 0, 0, 0, 1072, 0, 3052, 0, 0, 0, 1072, 3053, 0, 1072, 3040, 3044, 0, 0, 0, 0, 1072, 0, 3052, 0, 0,
  0, 0, 0, 0, 0, 0, 1072, 0, 3052, 0, 0, 0, 0, 0, 0, 1073, 0, 3054, 0, 0, 1072, 0, 3052, 0, 0, 0, 1072, 3053, 0, 0, 0, 0, 0, 0, 1075, 0, 0, 0, 0, 0,
  0, 0, 0, 0, 0, 0, 0, 0], 6, some .int, [3050, 3049, 12, 1004], 1, 2)
def hm_G_painted : hx_M := (⟨"HueWar$Ground", "painted", "()I"⟩, prog_4_method_3_code,
  [.bipush 0, .istore 1, .bipush 0, .istore 2, .iload 2, .bipush 64, .if_icmp .ge 16, .aload 0, .getfield 202, .iload 2, .iaload, .bipush 12,
  .if_icmp .eq 14, .iinc 1 1, .iinc 2 1, .goto 4, .iload 1, .ireturn],
  [0, 1, 2, 3, 4, 5, 7, 10, 11, 14, 15, 16, 18, 21, 24, 27, 30, 31],
  [0, 0, 0, 0, 0, 0, 0, 0, 1074, 0, 0, 0, 0, 0, 0, 0, 0, 0], 3, some .int, [3061, 3059, 3060, 1004], 1, 0)
def hm_W_treaties : hx_M := (⟨"HueWar", "treaties", "(I)I"⟩, prog_1_method_8_code,
  [.aload 0, .iload 1, .bipush 120, .invokevirtual 28, .ifCond .ne 7, .bipush (-1), .ireturn, .aload 0, .getfield 1005, .iload 1, .invokevirtual 61, .istore 2,
  .aload 0, .getfield 1000, .invokevirtual 50, .iload 2, .ifCond .eq 19, .iload 2, .ireturn, .bipush 0, .istore 3, .bipush 0, .istore 4, .iload 4,
  .aload 0, .getfield 1005, .invokevirtual 70, .if_icmp .ge 37, .aload 0, .aload 0, .getfield 1006, .iload 4, .invokevirtual 71, .ifCond .eq 35, .iinc 3 1, .iinc 4 1,
  .goto 23, .iload 3, .ireturn],
  [0, 1, 2, 4, 7, 10, 11, 12, 13, 16, 17, 20, 21, 22, 25, 28, 29, 32, 33, 34, 35, 36, 37, 39, 41, 42, 45, 48, 51, 52, 53, 56, 58, 61, 64, 67, 70, 73, 74],
  [0, 0, 0, 2161, 0, 0, 0, 0, 2050, 0, 3066, 0, 0, 2045, 3011, 0, 0, 0, 0, 0, 0, 0, 0, 0, 0, 2050, 3110, 0, 0, 0, 2051, 0, 3114, 0, 0, 0, 0, 0, 0], 5, some .int, [3065, 3063, 3064, 1001], 1, 1)
def hm_N_read : hx_M := (⟨"HueWar$Lines", "read", "(I)I"⟩, prog_6_method_8_code,
  [.aload 0, .getfield 400, .iload 1, .invokevirtual 30, .aload 0, .bipush 0, .putfield 406, .aload 0, .invokevirtual 62, .bipush 0, .istore 2, .iload 2,
  .bipush 8, .if_icmp .ge 26, .aload 0, .getfield 400, .invokevirtual 32, .bipush 44, .if_icmp .ne 26, .aload 0, .getfield 400, .invokevirtual 34, .aload 0, .invokevirtual 62,
  .iinc 2 1, .goto 11, .aload 0, .getfield 400, .invokevirtual 48, .aload 0, .getfield 400, .invokevirtual 49, .ireturn],
  [0, 1, 4, 5, 8, 9, 10, 13, 14, 17, 18, 19, 20, 22, 25, 26, 29, 32, 34, 37, 38, 41, 44, 45, 48, 51, 54, 55, 58, 61, 62, 65, 68],
  [0, 1128, 0, 3070, 0, 0, 1134, 0, 3071, 0, 0, 0, 0, 0, 0, 1128, 3075, 0, 0, 0, 1128, 3086, 0, 3071, 0, 0, 0, 1128, 3108, 0, 1128, 3109, 0], 3, some .int, [3069, 3067, 3068, 1006], 1, 1)
def hm_N_readLine : hx_M := (⟨"HueWar$Lines", "readLine", "()V"⟩, prog_6_method_9_code,
  [.aload 0, .getfield 400, .invokevirtual 32, .invokestatic 38, .ifCond .ne 10, .aload 0, .getfield 400, .bipush 1, .invokevirtual 33, .return_, .aload 0, .getfield 406,
  .bipush 8, .if_icmp .lt 19, .aload 0, .getfield 400, .bipush 4, .invokevirtual 33, .return_, .aload 0, .getfield 401, .aload 0, .getfield 406, .aload 0,
  .invokevirtual 63, .iastore, .aload 0, .getfield 400, .bipush 64, .invokevirtual 41, .aload 0, .getfield 402, .aload 0, .getfield 406, .aload 0, .invokevirtual 66,
  .iastore, .aload 0, .getfield 403, .aload 0, .getfield 406, .aload 0, .invokevirtual 67, .iastore, .aload 0, .getfield 404, .aload 0, .getfield 406,
  .aload 0, .bipush (-1), .invokevirtual 68, .iastore, .aload 0, .getfield 405, .aload 0, .getfield 406, .aload 0, .aload 0, .getfield 404, .aload 0,
  .getfield 406, .iaload, .invokevirtual 68, .iastore, .aload 0, .dup, .getfield 406, .bipush 1, .iadd, .putfield 406, .return_],
  [0, 1, 4, 7, 10, 13, 14, 17, 18, 21, 22, 23, 26, 28, 31, 32, 35, 36, 39, 40, 41, 44, 45, 48, 49, 52, 53, 54, 57, 59, 62, 63, 66, 67, 70, 71, 74, 75, 76, 79,
  80, 83, 84, 87, 88, 89, 92, 93, 96, 97, 98, 101, 102, 103, 106, 107, 110, 111, 112, 115, 116, 119, 120, 123, 124, 125, 126, 129, 130, 131, 134],
  [0, 1128, 3075, 9, 0, 0, 1128, 0, 3077, 0, 0, 1134, 0, 0, 0, 1128, 0, 3077, 0, 0, 1129, 0, 1134, 0, 3078, 0, 0, 1128, 0, 3091, 0, 1130, 0, 1134, 0, 3092, 0, 0, 1131, 0,
  1134, 0, 3097, 0, 0, 1132, 0, 1134, 0, 0, 3101, 0, 0, 1133, 0, 1134, 0, 0, 1132, 0, 1134, 0, 3101, 0, 0, 0, 1134, 0, 0, 1134, 0], 1, none, [3074, 3073, 13, 1006], 1, 0)
def hm_N_readColour : hx_M := (⟨"HueWar$Lines", "readColour", "()I"⟩, prog_6_method_10_code,
  [.aload 0, .getfield 400, .invokevirtual 64, .istore 1, .bipush 0, .istore 2, .bipush 0, .istore 3, .iload 3, .bipush 2, .if_icmp .ge 31, .aload 0,
  .getfield 400, .invokevirtual 32, .invokestatic 38, .ifCond .eq 31, .bipush 10, .iload 2, .imul, .aload 0, .getfield 400, .invokevirtual 32, .iadd, .bipush 48,
  .isub, .istore 2, .aload 0, .getfield 400, .invokevirtual 34, .iinc 3 1, .goto 8, .iload 2, .bipush 12, .if_icmp .lt 39, .aload 0, .getfield 400,
  .bipush 3, .iload 1, .invokevirtual 65, .iload 2, .ireturn],
  [0, 1, 4, 7, 8, 9, 10, 11, 12, 13, 14, 17, 18, 21, 24, 27, 30, 32, 33, 34, 35, 38, 41, 42, 44, 45, 46, 47, 50, 53, 56, 59, 60, 62, 65, 66, 69, 70, 71, 74,
  75],
  [0, 1128, 3082, 0, 0, 0, 0, 0, 0, 0, 0, 0, 1128, 3075, 9, 0, 0, 0, 0, 0, 1128, 3075, 0, 0, 0, 0, 0, 1128, 3086, 0, 0, 0, 0, 0, 0, 1128, 0, 0, 3087, 0,
  0], 4, some .int, [3081, 3080, 14, 1006], 1, 0)
def hm_T_place : hx_M := (⟨"HueWar$Tape", "place", "()I"⟩, prog_11_method_9_code,
  [.aload 0, .getfield 903, .ireturn],
  [0, 1, 4],
  [0, 1033, 0], 1, some .int, [3085, 3083, 3084, 1002], 1, 0)
def hm_T_failAt : hx_M := (⟨"HueWar$Tape", "failAt", "(II)V"⟩, prog_11_method_13_code,
  [.aload 0, .getfield 904, .ifCond .ne 10, .aload 0, .bipush (-1000), .iload 1, .imul, .iload 2, .isub, .putfield 904, .return_],
  [0, 1, 4, 7, 8, 11, 12, 13, 14, 15, 18],
  [0, 1034, 0, 0, 0, 0, 0, 0, 0, 1034, 0], 3, none, [3090, 3088, 3089, 1002], 1, 2)
def hm_N_readQuarters : hx_M := (⟨"HueWar$Lines", "readQuarters", "()I"⟩, prog_6_method_11_code,
  [.bipush 0, .istore 1, .bipush 0, .istore 2, .iload 2, .bipush 4, .if_icmp .gt 41, .aload 0, .getfield 400, .invokevirtual 32, .bipush 48, .isub,
  .invokestatic 19, .ifCond .eq 41, .aload 0, .getfield 400, .invokevirtual 32, .bipush 48, .isub, .istore 3, .iload 1, .iload 3, .ishr, .ifCond .eq 30,
  .aload 0, .getfield 400, .bipush 6, .invokevirtual 33, .iload 1, .ireturn, .iload 1, .bipush 1, .iload 3, .ishl, .ior, .istore 1,
  .aload 0, .getfield 400, .invokevirtual 34, .iinc 2 1, .goto 4, .iload 1, .ifCond .ne 47, .aload 0, .getfield 400, .bipush 1, .invokevirtual 33, .iload 1,
  .ireturn],
  [0, 1, 2, 3, 4, 5, 6, 9, 10, 13, 16, 18, 19, 22, 25, 26, 29, 32, 34, 35, 36, 37, 38, 39, 42, 43, 46, 48, 51, 52, 53, 54, 55, 56, 57, 58, 59, 60, 63, 66,
  69, 72, 73, 76, 77, 80, 81, 84, 85],
  [0, 0, 0, 0, 0, 0, 0, 0, 1128, 3075, 0, 0, 10, 0, 0, 1128, 3075, 0, 0, 0, 0, 0, 0, 0, 0, 1128, 0, 3077, 0, 0, 0, 0, 0, 0, 0, 0, 0, 1128, 3086, 0,
  0, 0, 0, 0, 1128, 0, 3077, 0, 0], 4, some .int, [3095, 3094, 15, 1006], 1, 0)
def hm_N_readSign : hx_M := (⟨"HueWar$Lines", "readSign", "()I"⟩, prog_6_method_12_code,
  [.aload 0, .getfield 400, .invokevirtual 32, .istore 1, .iload 1, .bipush 62, .if_icmp .eq 16, .iload 1, .bipush 43, .if_icmp .eq 16, .aload 0, .getfield 400,
  .bipush 1, .invokevirtual 33, .bipush 0, .ireturn, .aload 0, .getfield 400, .invokevirtual 34, .iload 1, .ireturn],
  [0, 1, 4, 7, 8, 9, 11, 14, 15, 17, 20, 21, 24, 25, 28, 29, 30, 31, 34, 37, 38],
  [0, 1128, 3075, 0, 0, 0, 0, 0, 0, 0, 0, 1128, 0, 3077, 0, 0, 0, 1128, 3086, 0, 0], 2, some .int, [3100, 3099, 16, 1006], 1, 0)
def hm_N_readEmpire : hx_M := (⟨"HueWar$Lines", "readEmpire", "(I)I"⟩, prog_6_method_13_code,
  [.aload 0, .getfield 400, .invokevirtual 32, .istore 2, .iload 2, .bipush 48, .isub, .istore 3, .iload 2, .invokestatic 38, .ifCond .ne 16, .aload 0,
  .getfield 400, .bipush 1, .invokevirtual 33, .goto 35, .iload 3, .invokestatic 69, .ifCond .ne 24, .aload 0, .getfield 400, .bipush 3, .invokevirtual 33, .goto 35,
  .iload 3, .iload 1, .if_icmp .ne 32, .aload 0, .getfield 400, .bipush 6, .invokevirtual 33, .goto 35, .aload 0, .getfield 400, .invokevirtual 34, .iload 3,
  .ireturn],
  [0, 1, 4, 7, 8, 9, 11, 12, 13, 14, 17, 20, 21, 24, 25, 28, 31, 32, 35, 38, 39, 42, 43, 46, 49, 50, 51, 54, 55, 58, 60, 63, 66, 67, 70, 73, 74],
  [0, 1128, 3075, 0, 0, 0, 0, 0, 0, 9, 0, 0, 1128, 0, 3077, 0, 0, 11, 0, 0, 1128, 0, 3077, 0, 0, 0, 0, 0, 1128, 0, 3077, 0, 0, 1128, 3086, 0, 0], 4, some .int, [3104, 3103, 17, 1006], 1, 1)
def hm_W_isEmpire : hx_M := (⟨"HueWar", "isEmpire", "(I)Z"⟩, prog_1_method_33_code,
  [.iload 0, .bipush 6, .invokestatic 13, .ireturn],
  [0, 1, 3, 6],
  [0, 0, 2140, 0], 1, some .boolean, [3107, 3106, 1001], 0, 1)
def hm_N_length : hx_M := (⟨"HueWar$Lines", "length", "()I"⟩, prog_6_method_2_code,
  [.aload 0, .getfield 406, .ireturn],
  [0, 1, 4],
  [0, 1134, 0], 1, some .int, [3113, 3111, 3112, 1006], 1, 0)
def hm_W_isMade : hx_M := (⟨"HueWar", "isMade", "(LHueWar$State;I)Z"⟩, prog_1_method_41_code,
  [.aload 0, .getfield 1001, .aload 0, .getfield 1005, .iload 2, .invokevirtual 72, .invokevirtual 17, .ifCond .eq 33, .aload 1, .aload 0, .getfield 1005, .iload 2,
  .invokevirtual 72, .aload 0, .getfield 1005, .iload 2, .invokevirtual 73, .aload 0, .getfield 1005, .iload 2, .invokevirtual 74, .aload 0, .getfield 1005, .iload 2,
  .invokevirtual 75, .aload 0, .getfield 1005, .iload 2, .invokevirtual 76, .invokevirtual 77, .ifCond .eq 33, .bipush 1, .goto 34, .bipush 0, .ireturn],
  [0, 1, 4, 5, 8, 9, 12, 15, 18, 19, 20, 23, 24, 27, 28, 31, 32, 35, 36, 39, 40, 43, 44, 47, 48, 51, 52, 55, 56, 59, 62, 65, 66, 69, 70],
  [0, 2046, 0, 2050, 0, 3118, 2116, 0, 0, 0, 2050, 0, 3118, 0, 2050, 0, 3123, 0, 2050, 0, 3127, 0, 2050, 0, 3131, 0, 2050, 0, 3135, 3139, 0, 0, 0, 0, 0], 3, some .boolean, [3117, 3116, 18, 1001], 1, 2)
def hm_N_hue : hx_M := (⟨"HueWar$Lines", "hue", "(I)I"⟩, prog_6_method_3_code,
  [.iload 1, .aload 0, .getfield 406, .invokestatic 13, .ifCond .eq 10, .aload 0, .getfield 401, .iload 1, .iaload, .goto 11, .bipush 0, .ireturn],
  [0, 1, 2, 5, 8, 11, 12, 15, 16, 17, 20, 21],
  [0, 0, 1134, 12, 0, 0, 1129, 0, 0, 0, 0, 0], 2, some .int, [3121, 3119, 3120, 1006], 1, 1)
def hm_N_quarters : hx_M := (⟨"HueWar$Lines", "quarters", "(I)I"⟩, prog_6_method_4_code,
  [.iload 1, .aload 0, .getfield 406, .invokestatic 13, .ifCond .eq 10, .aload 0, .getfield 402, .iload 1, .iaload, .goto 11, .bipush 0, .ireturn],
  [0, 1, 2, 5, 8, 11, 12, 15, 16, 17, 20, 21],
  [0, 0, 1134, 12, 0, 0, 1130, 0, 0, 0, 0, 0], 2, some .int, [3126, 3124, 3125, 1006], 1, 1)
def hm_N_giver : hx_M := (⟨"HueWar$Lines", "giver", "(I)I"⟩, prog_6_method_5_code,
  [.iload 1, .aload 0, .getfield 406, .invokestatic 13, .ifCond .eq 10, .aload 0, .getfield 404, .iload 1, .iaload, .goto 11, .bipush 0, .ireturn],
  [0, 1, 2, 5, 8, 11, 12, 15, 16, 17, 20, 21],
  [0, 0, 1134, 12, 0, 0, 1132, 0, 0, 0, 0, 0], 2, some .int, [3130, 3128, 3129, 1006], 1, 1)
def hm_N_other : hx_M := (⟨"HueWar$Lines", "other", "(I)I"⟩, prog_6_method_6_code,
  [.iload 1, .aload 0, .getfield 406, .invokestatic 13, .ifCond .eq 10, .aload 0, .getfield 405, .iload 1, .iaload, .goto 11, .bipush 0, .ireturn],
  [0, 1, 2, 5, 8, 11, 12, 15, 16, 17, 20, 21],
  [0, 0, 1134, 12, 0, 0, 1133, 0, 0, 0, 0, 0], 2, some .int, [3134, 3132, 3133, 1006], 1, 1)
def hm_N_isShared : hx_M := (⟨"HueWar$Lines", "isShared", "(I)Z"⟩, prog_6_method_7_code,
  [.iload 1, .aload 0, .getfield 406, .invokestatic 13, .ifCond .eq 13, .aload 0, .getfield 403, .iload 1, .iaload, .bipush 43, .if_icmp .ne 13, .bipush 1,
  .goto 14, .bipush 0, .ireturn],
  [0, 1, 2, 5, 8, 11, 12, 15, 16, 17, 19, 22, 23, 26, 27],
  [0, 0, 1134, 12, 0, 0, 1131, 0, 0, 0, 0, 0, 0, 0, 0], 2, some .boolean, [3138, 3136, 3137, 1006], 1, 1)
def hm_S_isMade : hx_M := (⟨"HueWar$State", "isMade", "(IIIIZ)Z"⟩, prog_10_method_14_code,
  [.aload 0, .getfield 803, .bipush 16, .if_icmp .ge 11, .aload 0, .iload 1, .iload 2, .iload 3, .iload 4, .invokevirtual 78, .ifCond .ne 13, .bipush 0,
  .ireturn, .aload 0, .iload 1, .iload 2, .iload 5, .ifCond .eq 20, .bipush (-1), .goto 21, .iload 3, .iload 4, .invokevirtual 80, .bipush 6,
  .aload 0, .getfield 803, .imul, .istore 6, .aload 0, .getfield 802, .iload 6, .iload 1, .iastore, .aload 0, .getfield 802, .iload 6,
  .bipush 1, .iadd, .iload 2, .iastore, .aload 0, .getfield 802, .iload 6, .bipush 2, .iadd, .iload 3, .iastore, .aload 0,
  .getfield 802, .iload 6, .bipush 3, .iadd, .iload 4, .iastore, .aload 0, .getfield 802, .iload 6, .bipush 4, .iadd, .iload 5,
  .ifCond .eq 63, .bipush 1, .goto 64, .bipush 0, .iastore, .aload 0, .getfield 802, .iload 6, .bipush 5, .iadd, .aload 0, .getfield 804,
  .iastore, .aload 0, .dup, .getfield 803, .bipush 1, .iadd, .putfield 803, .bipush 1, .ireturn],
  [0, 1, 4, 6, 9, 10, 11, 12, 13, 15, 18, 21, 22, 23, 24, 25, 26, 28, 31, 32, 35, 36, 38, 41, 43, 44, 47, 48, 50, 51, 54, 56, 57, 58, 59, 62, 64, 65, 66, 67,
  68, 69, 72, 74, 75, 76, 77, 78, 79, 82, 84, 85, 86, 88, 89, 90, 93, 95, 96, 97, 99, 102, 103, 106, 107, 108, 109, 112, 114, 115, 116, 117, 120, 121, 122, 123, 126, 127, 128, 131,
  132],
  [0, 1159, 0, 0, 0, 0, 0, 0, 0, 3143, 0, 0, 0, 0, 0, 0, 0, 0, 0, 0, 0, 0, 3152, 0, 0, 1159, 0, 0, 0, 1158, 0, 0, 0, 0, 1158, 0, 0, 0, 0, 0,
  0, 1158, 0, 0, 0, 0, 0, 0, 1158, 0, 0, 0, 0, 0, 0, 1158, 0, 0, 0, 0, 0, 0, 0, 0, 0, 0, 1158, 0, 0, 0, 0, 1160, 0, 0, 0, 1159, 0, 0, 1159, 0,
  0], 7, some .boolean, [3142, 3140, 3141, 1007], 1, 5)
def hm_S_canGo : hx_M := (⟨"HueWar$State", "canGo", "(IIII)Z"⟩, prog_10_method_15_code,
  [.bipush 0, .istore 5, .iload 5, .bipush 4, .if_icmp .ge 28, .aload 0, .iload 1, .iload 5, .invokevirtual 79, .istore 6, .iload 2, .iload 5,
  .invokestatic 15, .bipush 1, .if_icmp .ne 26, .iload 6, .iload 3, .invokestatic 15, .ifCond .eq 24, .iload 6, .iload 4, .invokestatic 15, .bipush 1, .if_icmp .ne 26,
  .bipush 0, .ireturn, .iinc 5 1, .goto 2, .bipush 1, .ireturn],
  [0, 1, 3, 5, 6, 9, 10, 11, 13, 16, 18, 19, 21, 24, 25, 28, 30, 31, 34, 37, 39, 41, 44, 45, 48, 49, 50, 53, 56, 57],
  [0, 0, 0, 0, 0, 0, 0, 0, 3147, 0, 0, 0, 13, 0, 0, 0, 0, 13, 0, 0, 0, 13, 0, 0, 0, 0, 0, 0, 0, 0], 7, some .boolean, [3146, 3145, 19, 1007], 1, 4)
def hm_S_havers : hx_M := (⟨"HueWar$State", "havers", "(II)I"⟩, prog_10_method_8_code,
  [.iload 1, .bipush 12, .invokestatic 13, .ifCond .eq 16, .iload 2, .invokestatic 19, .ifCond .eq 16, .aload 0, .getfield 800, .bipush 4, .iload 1, .imul,
  .iload 2, .iadd, .iaload, .goto 17, .bipush 0, .ireturn],
  [0, 1, 3, 6, 9, 10, 13, 16, 17, 20, 21, 22, 23, 24, 25, 26, 29, 30],
  [0, 0, 5, 0, 0, 6, 0, 0, 1156, 0, 0, 0, 0, 0, 0, 0, 0, 0], 3, some .int, [3150, 3148, 3149, 1007], 1, 2)
def hm_S_move : hx_M := (⟨"HueWar$State", "move", "(IIII)V"⟩, prog_10_method_16_code,
  [.bipush 0, .istore 5, .iload 5, .bipush 4, .if_icmp .ge 39, .iload 2, .iload 5, .invokestatic 15, .bipush 1, .if_icmp .ne 37, .aload 0, .iload 1,
  .iload 5, .invokevirtual 79, .istore 6, .iload 3, .bipush (-1), .if_icmp .ne 20, .iload 6, .goto 27, .iload 6, .bipush 1, .iload 3, .ishl,
  .bipush (-1), .ixor, .iand, .istore 7, .aload 0, .iload 1, .iload 5, .iload 7, .bipush 1, .iload 4, .ishl, .ior,
  .invokevirtual 20, .iinc 5 1, .goto 2, .return_],
  [0, 1, 3, 5, 6, 9, 10, 12, 15, 16, 19, 20, 21, 23, 26, 28, 29, 30, 33, 35, 38, 40, 41, 42, 43, 44, 45, 46, 48, 49, 50, 52, 54, 55, 57, 58, 59, 62, 65, 68],
  [0, 0, 0, 0, 0, 0, 0, 13, 0, 0, 0, 0, 0, 3147, 0, 0, 0, 0, 0, 0, 0, 0, 0, 0, 0, 0, 0, 0, 0, 0, 0, 0, 0, 0, 0, 0, 3156, 0, 0, 0], 8, none, [3155, 3154, 20, 1007], 1, 4)
def hm_W_judged : hx_M := (⟨"HueWar", "judged", "(I)I"⟩, prog_1_method_9_code,
  [.aload 0, .iload 1, .bipush 120, .invokevirtual 28, .ifCond .ne 7, .bipush (-1), .ireturn, .aload 0, .getfield 1005, .iload 1, .invokevirtual 61, .istore 2,
  .aload 0, .getfield 1000, .invokevirtual 50, .iload 2, .ifCond .eq 19, .iload 2, .ireturn, .aload 0, .getfield 1008, .aload 0, .getfield 1006, .invokevirtual 82,
  .bipush 0, .istore 3, .iload 3, .aload 0, .getfield 1005, .invokevirtual 70, .if_icmp .ge 39, .aload 0, .aload 0, .getfield 1008, .iload 3, .invokevirtual 71,
  .ifCond .eq 39, .iinc 3 1, .goto 26, .iload 3, .ireturn],
  [0, 1, 2, 4, 7, 10, 11, 12, 13, 16, 17, 20, 21, 22, 25, 28, 29, 32, 33, 34, 35, 38, 39, 42, 45, 46, 47, 48, 49, 52, 55, 58, 59, 60, 63, 64, 67, 70, 73, 76,
  77],
  [0, 0, 0, 2161, 0, 0, 0, 0, 2050, 0, 3066, 0, 0, 2045, 3011, 0, 0, 0, 0, 0, 2053, 0, 2051, 3161, 0, 0, 0, 0, 2050, 3110, 0, 0, 0, 2053, 0, 3114, 0, 0, 0, 0,
  0], 4, some .int, [3160, 3158, 3159, 1001], 1, 1)
def hm_S_copyFrom : hx_M := (⟨"HueWar$State", "copyFrom", "(LHueWar$State;)V"⟩, prog_10_method_2_code,
  [.aload 1, .getfield 800, .bipush 0, .aload 0, .getfield 800, .bipush 0, .aload 0, .getfield 800, .arraylength, .invokestatic 9999, .aload 1, .getfield 801,
  .bipush 0, .aload 0, .getfield 801, .bipush 0, .aload 0, .getfield 801, .arraylength, .invokestatic 9999, .aload 1, .getfield 802, .bipush 0, .aload 0,
  .getfield 802, .bipush 0, .aload 0, .getfield 802, .arraylength, .invokestatic 9999, .aload 0, .aload 1, .getfield 803, .putfield 803, .aload 0, .aload 1,
  .getfield 804, .putfield 804, .aload 0, .aload 1, .getfield 805, .putfield 805, .return_],
  [0, 1, 4, 5, 6, 9, 10, 11, 14, 15, 18, 19, 22, 23, 24, 27, 28, 29, 32, 33, 36, 37, 40, 41, 42, 45, 46, 47, 50, 51, 54, 55, 56, 59, 62, 63, 64, 67, 70, 71,
  72, 75, 78],
  [0, 1156, 0, 0, 1156, 0, 0, 1156, 0, 3165, 0, 1157, 0, 0, 1157, 0, 0, 1157, 0, 3165, 0, 1158, 0, 0, 1158, 0, 0, 1158, 0, 3165, 0, 0, 1159, 1159, 0, 0, 1160, 1160, 0, 0,
  1161, 1161, 0], 2, none, [3164, 3162, 3163, 1007], 1, 1)
def hm_W_seed : hx_M := (⟨"HueWar", "seed", "(I)Z"⟩, prog_1_method_10_code,
  [.iload 1, .ifCond .lt 5, .iload 1, .bipush 65535, .if_icmp .le 7, .bipush 0, .ireturn, .aload 0, .getfield 1006, .iload 1, .invokevirtual 84, .bipush 1,
  .ireturn],
  [0, 1, 4, 5, 7, 10, 11, 12, 13, 16, 17, 20, 21],
  [0, 0, 0, 3170, 0, 0, 0, 0, 2051, 0, 3171, 0, 0], 2, some .boolean, [3169, 3167, 3168, 1001], 1, 1)
def hm_S_setDraw : hx_M := (⟨"HueWar$State", "setDraw", "(I)V"⟩, prog_10_method_5_code,
  [.aload 0, .iload 1, .putfield 805, .return_],
  [0, 1, 2, 5],
  [0, 0, 1161, 0], 2, none, [3174, 3172, 3173, 1007], 1, 1)
def hm_W_days : hx_M := (⟨"HueWar", "days", "(I)I"⟩, prog_1_method_11_code,
  [.iload 1, .invokestatic 86, .ifCond .eq 10, .aload 0, .getfield 1006, .aload 0, .getfield 1003, .iload 1, .invokevirtual 87, .goto 11, .bipush (-1), .ireturn],
  [0, 1, 4, 7, 8, 11, 12, 15, 16, 19, 22, 23],
  [0, 3179, 0, 0, 2051, 0, 2048, 0, 3182, 0, 0, 0], 2, some .int, [3178, 3176, 3177, 1001], 1, 1)
def hm_W_isDays : hx_M := (⟨"HueWar", "isDays", "(I)Z"⟩, prog_1_method_36_code,
  [.iload 0, .bipush 1, .if_icmp .lt 8, .iload 0, .bipush 99, .if_icmp .gt 8, .bipush 1, .goto 9, .bipush 0, .ireturn],
  [0, 1, 2, 5, 6, 8, 11, 12, 15, 16],
  [0, 0, 0, 0, 0, 0, 0, 0, 0, 0], 1, some .boolean, [3181, 3180, 1001], 0, 1)
def hm_S_goBy : hx_M := (⟨"HueWar$State", "goBy", "(LHueWar$Law;I)I"⟩, prog_10_method_19_code,
  [.aload 0, .bipush (-2), .putfield 806, .aload 0, .bipush (-2), .putfield 807, .bipush 0, .istore 3, .bipush 0, .istore 4, .iload 4, .iload 2,
  .if_icmp .ge 31, .aload 0, .getfield 804, .bipush 9999, .if_icmp .ge 31, .iload 3, .aload 0, .aload 1, .invokevirtual 88, .iadd, .istore 3, .aload 0,
  .dup, .getfield 804, .bipush 1, .iadd, .putfield 804, .iinc 4 1, .goto 10, .iload 3, .ireturn],
  [0, 1, 3, 6, 7, 9, 12, 13, 14, 15, 17, 19, 20, 23, 24, 27, 30, 33, 34, 35, 36, 39, 40, 41, 42, 43, 46, 47, 48, 51, 54, 57, 58],
  [0, 0, 1162, 0, 0, 1163, 0, 0, 0, 0, 0, 0, 0, 0, 1160, 0, 0, 0, 0, 0, 3186, 0, 0, 0, 0, 1160, 0, 0, 1160, 0, 0, 0, 0], 5, some .int, [3185, 3183, 3184, 1007], 1, 2)
def hm_S_goByOnce : hx_M := (⟨"HueWar$State", "goByOnce", "(LHueWar$Law;)I"⟩, prog_10_method_20_code,
  [.aload 0, .getfield 803, .istore 2, .bipush 0, .istore 3, .bipush 0, .istore 4, .iload 4, .iload 2, .if_icmp .ge 36, .aload 0, .bipush 25173,
  .aload 0, .getfield 805, .imul, .bipush 13849, .iadd, .bipush 65535, .iand, .putfield 805, .aload 0, .getfield 805, .bipush 10, .irem,
  .aload 0, .aload 1, .iload 3, .invokevirtual 89, .if_icmp .ge 33, .aload 0, .iload 3, .invokevirtual 100, .goto 34, .iinc 3 1, .iinc 4 1, .goto 7,
  .iload 2, .aload 0, .getfield 803, .isub, .ireturn],
  [0, 1, 4, 5, 6, 7, 8, 10, 12, 13, 16, 17, 20, 21, 24, 25, 28, 29, 31, 32, 35, 36, 39, 41, 42, 43, 44, 45, 48, 51, 52, 53, 56, 59, 62, 65, 68, 69, 70, 73,
  74],
  [0, 1159, 0, 0, 0, 0, 0, 0, 0, 0, 0, 0, 0, 1161, 0, 0, 0, 3190, 0, 1161, 0, 1161, 0, 0, 0, 0, 0, 3191, 0, 0, 0, 4000, 0, 0, 0, 0, 0, 0, 1159, 0,
  0], 5, some .int, [3189, 3188, 21, 1007], 1, 1)
def hm_S_chance : hx_M := (⟨"HueWar$State", "chance", "(LHueWar$Law;I)I"⟩, prog_10_method_21_code,
  [.aload 0, .iload 2, .bipush 0, .invokevirtual 90, .istore 3, .aload 0, .iload 2, .bipush 1, .invokevirtual 90, .invokestatic 91, .istore 4, .aload 1,
  .aload 0, .iload 2, .bipush 2, .invokevirtual 90, .iload 3, .iload 4, .aload 0, .getfield 804, .bipush 0, .aload 0, .iload 3, .iload 4,
  .invokevirtual 79, .invokestatic 92, .invokevirtual 93, .aload 1, .aload 0, .getfield 804, .aload 0, .iload 2, .bipush 5, .invokevirtual 90, .isub, .invokevirtual 96,
  .aload 1, .bipush 98, .bipush 10, .invokevirtual 97, .ireturn],
  [0, 1, 2, 3, 6, 7, 8, 9, 10, 13, 16, 18, 19, 20, 21, 22, 25, 26, 28, 29, 32, 33, 34, 35, 37, 40, 43, 46, 47, 48, 51, 52, 53, 54, 57, 58, 61, 62, 64, 66,
  69],
  [0, 0, 0, 3195, 0, 0, 0, 0, 3195, 3199, 0, 0, 0, 0, 0, 3195, 0, 0, 0, 1160, 0, 0, 0, 0, 3147, 3202, 3208, 0, 0, 1160, 0, 0, 0, 3195, 0, 3224, 0, 0, 0, 3225,
  0], 5, some .int, [3194, 3193, 22, 1007], 1, 2)
def hm_S_part : hx_M := (⟨"HueWar$State", "part", "(II)I"⟩, prog_10_method_13_code,
  [.iload 1, .aload 0, .getfield 803, .invokestatic 13, .ifCond .eq 18, .iload 2, .bipush 6, .invokestatic 13, .ifCond .eq 18, .aload 0, .getfield 802, .bipush 6,
  .iload 1, .imul, .iload 2, .iadd, .iaload, .goto 19, .bipush 0, .ireturn],
  [0, 1, 2, 5, 8, 11, 12, 14, 17, 20, 21, 24, 26, 27, 28, 29, 30, 31, 34, 35],
  [0, 0, 1159, 5, 0, 0, 0, 5, 0, 0, 1158, 0, 0, 0, 0, 0, 0, 0, 0, 0], 3, some .int, [3198, 3196, 3197, 1007], 1, 2)
def hm_S_lowest : hx_M := (⟨"HueWar$State", "lowest", "(I)I"⟩, prog_10_method_22_code,
  [.bipush 0, .istore 1, .iload 1, .bipush 4, .if_icmp .ge 11, .iload 0, .iload 1, .invokestatic 15, .ifCond .ne 11, .iinc 1 1, .goto 2, .iload 1,
  .ireturn],
  [0, 1, 2, 3, 4, 7, 8, 9, 12, 15, 18, 21, 22],
  [0, 0, 0, 0, 0, 0, 0, 13, 0, 0, 0, 0, 0], 2, some .int, [3201, 3200, 1007], 0, 1)
def hm_J_bitCount : hx_M := (⟨"java/lang/Integer", "bitCount", "(I)I"⟩, prog_14_method_49_code,
  [.iload 0, .iload 0, .bipush 1, .iushr, .bipush 1431655765, .iand, .isub, .istore 0, .iload 0, .bipush 858993459, .iand, .iload 0,
  .bipush 2, .iushr, .bipush 858993459, .iand, .iadd, .istore 0, .iload 0, .iload 0, .bipush 4, .iushr, .iadd, .bipush 252645135,
  .iand, .istore 0, .iload 0, .iload 0, .bipush 8, .iushr, .iadd, .istore 0, .iload 0, .iload 0, .bipush 16, .iushr,
  .iadd, .istore 0, .iload 0, .bipush 63, .iand, .ireturn],
  [0, 1, 2, 3, 4, 7, 8, 9, 10, 11, 14, 15, 16, 17, 18, 21, 22, 23, 24, 25, 26, 27, 28, 29, 32, 33, 34, 35, 36, 38, 39, 40, 41, 42, 43, 45, 46, 47, 48, 49,
  51, 52],
  [0, 0, 0, 0, 3205, 0, 0, 0, 0, 3206, 0, 0, 0, 0, 3206, 0, 0, 0, 0, 0, 0, 0, 0, 3207, 0, 0, 0, 0, 0, 0, 0, 0, 0, 0, 0, 0, 0, 0, 0, 0,
  0, 0], 1, some .int, [3204, 3203, 1015], 0, 1)
def hm_L_tell : hx_M := (⟨"HueWar$Law", "tell", "(IIIIII)V"⟩, prog_5_method_17_code,
  [.aload 0, .getfield 308, .bipush 0, .iload 1, .iastore, .aload 0, .getfield 308, .bipush 1, .iload 2, .iastore, .aload 0, .getfield 308,
  .bipush 2, .iload 3, .iastore, .aload 0, .getfield 308, .bipush 3, .iload 4, .iastore, .aload 0, .getfield 308, .bipush 4, .iload 5,
  .iastore, .aload 0, .getfield 308, .bipush 8, .iload 6, .iastore, .aload 0, .bipush 0, .bipush 0, .invokevirtual 94, .aload 0, .bipush 0,
  .invokevirtual 95, .aload 0, .bipush 0, .invokevirtual 96, .return_],
  [0, 1, 4, 5, 6, 7, 8, 11, 12, 13, 14, 15, 18, 19, 20, 21, 22, 25, 26, 28, 29, 30, 33, 34, 36, 37, 38, 41, 43, 45, 46, 47, 48, 49, 52, 53, 54, 57, 58, 59,
  62],
  [0, 1099, 0, 0, 0, 0, 1099, 0, 0, 0, 0, 1099, 0, 0, 0, 0, 1099, 0, 0, 0, 0, 1099, 0, 0, 0, 0, 1099, 0, 0, 0, 0, 0, 0, 3212, 0, 0, 3216, 0, 0, 3220,
  0], 7, none, [3211, 3209, 3210, 1005], 1, 6)
def hm_L_tellParts : hx_M := (⟨"HueWar$Law", "tellParts", "(II)V"⟩, prog_5_method_18_code,
  [.aload 0, .getfield 308, .bipush 5, .iload 1, .iastore, .aload 0, .getfield 308, .bipush 6, .iload 2, .iastore, .return_],
  [0, 1, 4, 5, 6, 7, 8, 11, 13, 14, 15],
  [0, 1099, 0, 0, 0, 0, 1099, 0, 0, 0, 0], 3, none, [3215, 3213, 3214, 1005], 1, 2)
def hm_L_tellFields : hx_M := (⟨"HueWar$Law", "tellFields", "(I)V"⟩, prog_5_method_19_code,
  [.aload 0, .getfield 308, .bipush 7, .iload 1, .iastore, .return_],
  [0, 1, 4, 6, 7, 8],
  [0, 1099, 0, 0, 0, 0], 2, none, [3219, 3217, 3218, 1005], 1, 1)
def hm_L_tellAge : hx_M := (⟨"HueWar$Law", "tellAge", "(I)V"⟩, prog_5_method_20_code,
  [.aload 0, .getfield 308, .bipush 9, .iload 1, .iastore, .return_],
  [0, 1, 4, 6, 7, 8],
  [0, 1099, 0, 0, 0, 0], 2, none, [3223, 3221, 3222, 1005], 1, 1)
def hm_L_amount : hx_M := (⟨"HueWar$Law", "amount", "(II)I"⟩, prog_5_method_23_code,
  [.bipush 0, .istore 3, .iload 3, .aload 0, .getfield 307, .if_icmp .ge 32, .aload 0, .getfield 304, .iload 3, .iaload, .iload 1, .if_icmp .ne 30,
  .aload 0, .aload 0, .getfield 306, .iload 3, .iaload, .invokevirtual 98, .ifCond .eq 30, .bipush 0, .iload 2, .aload 0, .aload 0, .getfield 305,
  .iload 3, .iaload, .invokevirtual 98, .invokestatic 9991, .invokestatic 9992, .ireturn, .iinc 3 1, .goto 2, .bipush 0, .ireturn],
  [0, 1, 2, 3, 4, 7, 10, 11, 14, 15, 16, 17, 20, 21, 22, 25, 26, 27, 30, 33, 34, 35, 36, 37, 40, 41, 42, 45, 48, 51, 52, 55, 58, 59],
  [0, 0, 0, 0, 1098, 0, 0, 1095, 0, 0, 0, 0, 0, 0, 1097, 0, 0, 3229, 0, 0, 0, 0, 0, 1096, 0, 0, 3229, 3236, 3237, 0, 0, 0, 0, 0], 4, some .int, [3228, 3226, 3227, 1005], 1, 2)
def hm_L_run : hx_M := (⟨"HueWar$Law", "run", "(I)I"⟩, prog_5_method_24_code,
  [.bipush 0, .istore 2, .iload 1, .istore 3, .bipush 0, .istore 4, .iload 4, .bipush 240, .if_icmp .ge 154, .iload 3, .ifCond .lt 154, .iload 3,
  .aload 0, .getfield 303, .if_icmp .ge 154, .aload 0, .getfield 301, .iload 3, .iaload, .bipush 46, .if_icmp .eq 154, .aload 0, .getfield 301, .iload 3,
  .iaload, .istore 5, .aload 0, .getfield 302, .iload 3, .iaload, .istore 6, .iinc 3 1, .iload 5, .bipush 48, .if_icmp .eq 38, .iload 5,
  .bipush 97, .if_icmp .ne 64, .iload 2, .aload 0, .getfield 309, .arraylength, .if_icmp .ge 152, .iload 5, .bipush 48, .if_icmp .eq 49, .iload 6, .bipush 10,
  .if_icmp .ge 152, .aload 0, .getfield 309, .iload 2, .iload 5, .bipush 48, .if_icmp .ne 57, .iload 6, .goto 61, .aload 0, .getfield 308, .iload 6,
  .iaload, .iastore, .iinc 2 1, .goto 152, .iload 2, .bipush 1, .if_icmp .ge 69, .bipush 0, .ireturn, .iload 5, .bipush 33, .if_icmp .ne 87,
  .aload 0, .getfield 309, .iload 2, .bipush 1, .isub, .bipush 1, .aload 0, .getfield 309, .iload 2, .bipush 1, .isub, .iaload,
  .isub, .iastore, .goto 152, .iload 5, .bipush 38, .if_icmp .eq 93, .iload 5, .bipush 124, .if_icmp .ne 115, .aload 0, .getfield 309, .iload 2,
  .bipush 1, .isub, .iaload, .ifCond .eq 102, .bipush 1, .goto 103, .bipush 0, .iload 5, .bipush 124, .if_icmp .ne 108, .bipush 1, .goto 109,
  .bipush 0, .if_icmp .ne 113, .iload 6, .istore 3, .goto 152, .iinc 2 (-1), .goto 152, .iload 2, .bipush 2, .if_icmp .lt 131, .aload 0, .getfield 309,
  .iload 2, .bipush 1, .isub, .iaload, .ifCond .ne 133, .iload 5, .bipush 47, .if_icmp .eq 131, .iload 5, .bipush 37, .if_icmp .ne 133, .bipush 0,
  .ireturn, .iinc 2 (-1), .aload 0, .getfield 309, .iload 2, .bipush 1, .isub, .aload 0, .getfield 309, .iload 2, .bipush 1, .isub,
  .iaload, .iload 5, .aload 0, .getfield 309, .iload 2, .iaload, .invokestatic 99, .iastore, .iinc 4 1, .goto 6, .iload 2, .ifCond .le 161,
  .aload 0, .getfield 309, .bipush 0, .iaload, .goto 162, .bipush 0, .ireturn],
  [0, 1, 2, 3, 4, 5, 7, 9, 12, 15, 16, 19, 20, 21, 24, 27, 28, 31, 32, 33, 35, 38, 39, 42, 43, 44, 46, 47, 50, 51, 52, 54, 57, 59, 61, 64, 66, 68, 71, 72,
  73, 76, 77, 80, 82, 84, 87, 89, 91, 94, 95, 98, 99, 101, 103, 106, 108, 111, 112, 115, 117, 118, 119, 122, 125, 126, 127, 130, 131, 132, 134, 136, 139, 140, 143, 144, 145, 146, 147, 148,
  151, 152, 153, 154, 155, 156, 157, 160, 162, 164, 167, 169, 171, 174, 175, 178, 179, 180, 181, 182, 185, 186, 189, 190, 192, 194, 197, 198, 201, 202, 205, 207, 208, 211, 214, 217, 218, 219, 222, 223,
  226, 227, 228, 229, 230, 233, 235, 237, 240, 242, 244, 247, 248, 249, 252, 253, 256, 257, 258, 259, 260, 263, 264, 265, 266, 267, 269, 270, 273, 274, 275, 278, 279, 282, 285, 286, 289, 290, 293, 294,
  295, 298, 299],
  [0, 0, 0, 0, 0, 0, 0, 0, 0, 0, 0, 0, 0, 1094, 0, 0, 1092, 0, 0, 0, 0, 0, 1092, 0, 0, 0, 0, 1093, 0, 0, 0, 0, 0, 0, 0, 0, 0, 0, 0, 0,
  1100, 0, 0, 0, 0, 0, 0, 0, 0, 0, 1100, 0, 0, 0, 0, 0, 0, 0, 1099, 0, 0, 0, 0, 0, 0, 0, 0, 0, 0, 0, 0, 0, 0, 1100, 0, 0, 0, 0, 0, 1100,
  0, 0, 0, 0, 0, 0, 0, 0, 0, 0, 0, 0, 0, 0, 1100, 0, 0, 0, 0, 0, 0, 0, 0, 0, 0, 0, 0, 0, 0, 0, 0, 0, 0, 0, 0, 0, 0, 0, 0, 1100,
  0, 0, 0, 0, 0, 0, 0, 0, 0, 0, 0, 0, 0, 0, 0, 1100, 0, 0, 0, 0, 1100, 0, 0, 0, 0, 0, 0, 1100, 0, 0, 3233, 0, 0, 0, 0, 0, 0, 1100, 0, 0,
  0, 0, 0], 7, some .int, [3232, 3231, 23, 1005], 1, 1)
def hm_L_reckoned : hx_M := (⟨"HueWar$Law", "reckoned", "(III)I"⟩, prog_5_method_25_code,
  [.iload 1, .lookupswitch 44 #[(37, 22), (42, 10), (43, 2), (45, 6), (47, 14), (60, 30), (62, 37)], .iload 0, .iload 2, .iadd, .ireturn, .iload 0, .iload 2, .isub, .ireturn, .iload 0, .iload 2,
  .imul, .ireturn, .iload 2, .ifCond .eq 20, .iload 0, .iload 2, .idiv, .goto 21, .bipush 0, .ireturn, .iload 2, .ifCond .eq 28,
  .iload 0, .iload 2, .irem, .goto 29, .bipush 0, .ireturn, .iload 0, .iload 2, .if_icmp .ge 35, .bipush 1, .goto 36, .bipush 0,
  .ireturn, .iload 0, .iload 2, .if_icmp .le 42, .bipush 1, .goto 43, .bipush 0, .ireturn, .iload 0, .iload 2, .if_icmp .ne 49, .bipush 1,
  .goto 50, .bipush 0, .ireturn],
  [0, 1, 68, 69, 70, 71, 72, 73, 74, 75, 76, 77, 78, 79, 80, 81, 84, 85, 86, 87, 90, 91, 92, 93, 96, 97, 98, 99, 102, 103, 104, 105, 106, 109, 110, 113, 114, 115, 116, 117,
  120, 121, 124, 125, 126, 127, 128, 131, 132, 135, 136],
  [0, 0, 0, 0, 0, 0, 0, 0, 0, 0, 0, 0, 0, 0, 0, 0, 0, 0, 0, 0, 0, 0, 0, 0, 0, 0, 0, 0, 0, 0, 0, 0, 0, 0, 0, 0, 0, 0, 0, 0,
  0, 0, 0, 0, 0, 0, 0, 0, 0, 0, 0], 3, some .int, [3235, 3234, 1005], 0, 3)
def hm_S_breakTreaty : hx_M := (⟨"HueWar$State", "breakTreaty", "(I)V"⟩, prog_10_method_23_code,
  [.aload 0, .getfield 806, .bipush (-2), .if_icmp .ne 14, .aload 0, .aload 0, .getfield 804, .putfield 806, .aload 0, .aload 0, .iload 1, .bipush 2,
  .invokevirtual 90, .putfield 807, .aload 0, .aload 0, .iload 1, .bipush 0, .invokevirtual 90, .aload 0, .iload 1, .bipush 1, .invokevirtual 90, .aload 0,
  .iload 1, .bipush 3, .invokevirtual 90, .aload 0, .iload 1, .bipush 2, .invokevirtual 90, .invokevirtual 80, .bipush 6, .iload 1, .imul, .istore 2,
  .iload 2, .bipush 6, .aload 0, .getfield 803, .bipush 1, .isub, .imul, .if_icmp .ge 56, .aload 0, .getfield 802, .iload 2, .aload 0,
  .getfield 802, .iload 2, .bipush 6, .iadd, .iaload, .iastore, .iinc 2 1, .goto 36, .aload 0, .dup, .getfield 803, .bipush 1,
  .isub, .putfield 803, .return_],
  [0, 1, 4, 6, 9, 10, 11, 14, 17, 18, 19, 20, 21, 24, 27, 28, 29, 30, 31, 34, 35, 36, 37, 40, 41, 42, 43, 46, 47, 48, 49, 52, 55, 57, 58, 59, 60, 61, 63, 64,
  67, 68, 69, 70, 73, 74, 77, 78, 79, 82, 83, 85, 86, 87, 88, 91, 94, 95, 96, 99, 100, 101, 104],
  [0, 1162, 0, 0, 0, 0, 1160, 1162, 0, 0, 0, 0, 3195, 1163, 0, 0, 0, 0, 3195, 0, 0, 0, 3195, 0, 0, 0, 3195, 0, 0, 0, 3195, 3152, 0, 0, 0, 0, 0, 0, 0, 1159,
  0, 0, 0, 0, 0, 1158, 0, 0, 1158, 0, 0, 0, 0, 0, 0, 0, 0, 0, 1159, 0, 0, 1159, 0], 3, none, [4003, 4002, 24, 1007], 1, 1)
def hm_W_tried : hx_M := (⟨"HueWar", "tried", "(II)I"⟩, prog_1_method_12_code,
  [.aload 0, .getfield 1001, .iload 2, .bipush 10, .isub, .invokevirtual 17, .istore 3, .iload 1, .invokestatic 86, .ifCond .eq 16, .iload 2, .bipush 3,
  .invokestatic 13, .ifCond .ne 18, .iload 3, .ifCond .ne 18, .bipush (-1), .ireturn, .aload 0, .getfield 1008, .aload 0, .getfield 1006, .invokevirtual 82, .aload 0,
  .getfield 1008, .aload 0, .getfield 1003, .iload 1, .invokevirtual 87, .istore 4, .iload 2, .tableswitch 42 (0) (2) #[32, 34, 38], .iload 4, .ireturn, .aload 0, .getfield 1008,
  .invokevirtual 102, .ireturn, .aload 0, .getfield 1008, .invokevirtual 103, .ireturn, .aload 0, .getfield 1008, .iload 2, .bipush 10, .isub, .invokevirtual 104,
  .ireturn],
  [0, 1, 4, 5, 7, 8, 11, 12, 13, 16, 19, 20, 21, 24, 27, 28, 31, 32, 33, 34, 37, 38, 41, 44, 45, 48, 49, 52, 53, 56, 58, 59, 84, 86, 87, 88, 91, 94, 95, 96,
  99, 102, 103, 104, 107, 108, 110, 111, 114],
  [0, 2046, 0, 0, 0, 2116, 0, 0, 3179, 0, 0, 0, 2140, 0, 0, 0, 0, 0, 0, 2053, 0, 2051, 3161, 0, 2053, 0, 2048, 0, 3182, 0, 0, 0, 0, 0, 0, 2053, 4008, 0, 0, 2053,
  4012, 0, 0, 2053, 0, 0, 0, 4016, 0], 5, some .int, [4007, 4005, 4006, 1001], 1, 2)
def hm_S_firstBreakDay : hx_M := (⟨"HueWar$State", "firstBreakDay", "()I"⟩, prog_10_method_17_code,
  [.aload 0, .getfield 806, .ireturn],
  [0, 1, 4],
  [0, 1162, 0], 1, some .int, [4011, 4009, 4010, 1007], 1, 0)
def hm_S_firstBreaker : hx_M := (⟨"HueWar$State", "firstBreaker", "()I"⟩, prog_10_method_18_code,
  [.aload 0, .getfield 807, .ireturn],
  [0, 1, 4],
  [0, 1163, 0], 1, some .int, [4015, 4013, 4014, 1007], 1, 0)
def hm_S_quartersHad : hx_M := (⟨"HueWar$State", "quartersHad", "(I)I"⟩, prog_10_method_11_code,
  [.bipush 0, .istore 2, .bipush 0, .istore 3, .iload 3, .bipush 4, .if_icmp .ge 17, .iload 2, .aload 0, .iload 1, .iload 3, .invokevirtual 79,
  .invokestatic 92, .iadd, .istore 2, .iinc 3 1, .goto 4, .iload 2, .ireturn],
  [0, 1, 2, 3, 4, 5, 6, 9, 10, 11, 12, 13, 16, 19, 20, 21, 24, 27, 28],
  [0, 0, 0, 0, 0, 0, 0, 0, 0, 0, 0, 3147, 3202, 0, 0, 0, 0, 0, 0], 4, some .int, [4019, 4017, 4018, 1007], 1, 1)
def hm_W_treatyIs : hx_M := (⟨"HueWar", "treatyIs", "(II)I"⟩, prog_1_method_13_code,
  [.iload 1, .ifCond .lt 11, .iload 1, .aload 0, .getfield 1006, .invokevirtual 106, .if_icmp .ge 11, .iload 2, .bipush 6, .invokestatic 13, .ifCond .ne 13, .bipush (-1),
  .ireturn, .aload 0, .getfield 1006, .iload 1, .iload 2, .invokevirtual 90, .ireturn],
  [0, 1, 4, 5, 6, 9, 12, 15, 16, 18, 21, 24, 25, 26, 27, 30, 31, 32, 35],
  [0, 0, 0, 0, 2051, 4024, 0, 0, 0, 2140, 0, 0, 0, 0, 2051, 0, 0, 4028, 0], 3, some .int, [4023, 4021, 4022, 1001], 1, 2)
def hm_S_treatyCount : hx_M := (⟨"HueWar$State", "treatyCount", "()I"⟩, prog_10_method_12_code,
  [.aload 0, .getfield 803, .ireturn],
  [0, 1, 4],
  [0, 1159, 0], 1, some .int, [4027, 4025, 4026, 1007], 1, 0)
def hm_W_keep : hx_M := (⟨"HueWar", "keep", "()I"⟩, prog_1_method_14_code,
  [.aload 0, .getfield 1007, .aload 0, .getfield 1006, .invokevirtual 82, .aload 0, .bipush 1, .putfield 1009, .aload 0, .getfield 1006, .invokevirtual 106, .ireturn],
  [0, 1, 4, 5, 8, 11, 12, 13, 16, 17, 20, 23],
  [0, 2052, 0, 2051, 3161, 0, 0, 2054, 0, 2051, 4024, 0], 1, some .int, [4032, 4030, 4031, 1001], 1, 0)
def hm_W_undo : hx_M := (⟨"HueWar", "undo", "()Z"⟩, prog_1_method_15_code,
  [.aload 0, .getfield 1009, .ifCond .ne 5, .bipush 0, .ireturn, .aload 0, .getfield 1006, .aload 0, .getfield 1007, .invokevirtual 82, .bipush 1, .ireturn],
  [0, 1, 4, 7, 8, 9, 10, 13, 14, 17, 20, 21],
  [0, 2054, 0, 0, 0, 0, 2051, 0, 2052, 3161, 0, 0], 1, some .boolean, [4036, 4034, 4035, 1001], 1, 0)
def hm_W_check : hx_M := (⟨"HueWar", "check", "(I)I"⟩, prog_1_method_16_code,
  [.iload 1, .ifCond .lt 12, .iload 1, .bipush 8, .if_icmp .gt 12, .aload 0, .getfield 1000, .invokevirtual 25, .bipush 4, .iload 1, .imul, .if_icmp .ge 14,
  .bipush (-2), .ireturn, .bipush 0, .istore 2, .iload 2, .iload 1, .if_icmp .ge 32, .aload 0, .getfield 1000, .bipush 4, .iload 2, .imul,
  .invokevirtual 110, .aload 0, .getfield 1006, .iload 2, .invokevirtual 112, .if_icmp .ne 32, .iinc 2 1, .goto 16, .aload 0, .getfield 1000, .invokevirtual 50, .iload 2,
  .iload 1, .if_icmp .ne 40, .bipush (-1), .goto 41, .iload 2, .ireturn],
  [0, 1, 4, 5, 7, 10, 11, 14, 17, 18, 19, 20, 23, 25, 26, 27, 28, 29, 30, 33, 34, 37, 38, 39, 40, 43, 44, 47, 48, 51, 54, 57, 60, 61, 64, 67, 68, 69, 72, 73,
  76, 77],
  [0, 0, 0, 0, 0, 0, 2045, 2149, 0, 0, 0, 0, 0, 0, 0, 0, 0, 0, 0, 0, 2045, 0, 0, 0, 4041, 0, 2051, 0, 4049, 0, 0, 0, 0, 2045, 3011, 0, 0, 0, 0, 0,
  0, 0], 3, some .int, [4040, 4038, 4039, 1001], 1, 1)
def hm_T_number : hx_M := (⟨"HueWar$Tape", "number", "(I)I"⟩, prog_11_method_6_code,
  [.aload 0, .iload 1, .invokevirtual 111, .bipush 24, .ishl, .aload 0, .iload 1, .bipush 1, .iadd, .invokevirtual 111, .bipush 16, .ishl,
  .ior, .aload 0, .iload 1, .bipush 2, .iadd, .invokevirtual 111, .bipush 8, .ishl, .ior, .aload 0, .iload 1, .bipush 3,
  .iadd, .invokevirtual 111, .ior, .ireturn],
  [0, 1, 2, 5, 7, 8, 9, 10, 11, 12, 15, 17, 18, 19, 20, 21, 22, 23, 26, 28, 29, 30, 31, 32, 33, 34, 37, 38],
  [0, 0, 4045, 0, 0, 0, 0, 0, 0, 4045, 0, 0, 0, 0, 0, 0, 0, 4045, 0, 0, 0, 0, 0, 0, 0, 4045, 0, 0], 2, some .int, [4044, 4042, 4043, 1002], 1, 1)
def hm_T_at : hx_M := (⟨"HueWar$Tape", "at", "(I)I"⟩, prog_11_method_5_code,
  [.iload 1, .ifCond .lt 11, .iload 1, .aload 0, .getfield 901, .if_icmp .ge 11, .aload 0, .getfield 900, .iload 1, .iaload, .goto 12, .bipush 0,
  .ireturn],
  [0, 1, 4, 5, 6, 9, 12, 13, 16, 17, 18, 21, 22],
  [0, 0, 0, 0, 1031, 0, 0, 1030, 0, 0, 0, 0, 0], 2, some .int, [4048, 4046, 4047, 1002], 1, 1)
def hm_S_ownerOf : hx_M := (⟨"HueWar$State", "ownerOf", "(I)I"⟩, prog_10_method_6_code,
  [.iload 1, .bipush 64, .invokestatic 13, .ifCond .eq 9, .aload 0, .getfield 801, .iload 1, .iaload, .goto 10, .bipush 6, .ireturn],
  [0, 1, 3, 6, 9, 10, 13, 14, 15, 18, 20],
  [0, 0, 5, 0, 0, 1157, 0, 0, 0, 0, 0], 2, some .int, [4052, 4050, 4051, 1007], 1, 1)
def hm_W_sees : hx_M := (⟨"HueWar", "sees", "(III)I"⟩, prog_1_method_17_code,
  [.iload 1, .invokestatic 69, .ifCond .eq 11, .aload 0, .getfield 1001, .iload 2, .invokevirtual 14, .ifCond .eq 11, .iload 3, .invokestatic 19, .ifCond .ne 13, .bipush (-1),
  .ireturn, .aload 0, .getfield 1010, .iload 1, .iload 3, .invokevirtual 114, .iload 2, .invokestatic 15, .ireturn],
  [0, 1, 4, 7, 8, 11, 12, 15, 18, 19, 22, 25, 26, 27, 28, 31, 32, 33, 36, 37, 40],
  [0, 4057, 0, 0, 2046, 0, 4058, 0, 0, 2124, 0, 0, 0, 0, 2055, 0, 0, 4059, 0, 4095, 0], 4, some .int, [4056, 4054, 4055, 1001], 1, 3)
def hm_E_seen : hx_M := (⟨"HueWar$Eyes", "seen", "(II)I"⟩, prog_3_method_2_code,
  [.aload 0, .iload 1, .iload 2, .aload 0, .getfield 102, .iload 1, .iload 2, .invokevirtual 115, .invokevirtual 116, .ireturn],
  [0, 1, 2, 3, 4, 7, 8, 9, 12, 15],
  [0, 0, 0, 0, 1189, 0, 0, 4063, 4067, 0], 3, some .int, [4062, 4060, 4061, 1008], 1, 2)
def hm_S_had : hx_M := (⟨"HueWar$State", "had", "(II)I"⟩, prog_10_method_10_code,
  [.bipush 0, .istore 3, .bipush 0, .istore 4, .iload 4, .bipush 12, .if_icmp .ge 20, .iload 3, .aload 0, .iload 4, .iload 2, .invokevirtual 79,
  .iload 1, .invokestatic 15, .iload 4, .ishl, .ior, .istore 3, .iinc 4 1, .goto 4, .iload 3, .ireturn],
  [0, 1, 2, 3, 5, 7, 9, 12, 13, 14, 16, 17, 20, 21, 24, 26, 27, 28, 29, 32, 35, 36],
  [0, 0, 0, 0, 0, 0, 0, 0, 0, 0, 0, 3147, 0, 13, 0, 0, 0, 0, 0, 0, 0, 0], 5, some .int, [4066, 4064, 4065, 1007], 1, 2)
def hm_E_seenWith : hx_M := (⟨"HueWar$Eyes", "seenWith", "(III)I"⟩, prog_3_method_3_code,
  [.iload 3, .istore 4, .aload 0, .getfield 101, .bipush 115, .invokevirtual 117, .istore 5, .bipush 0, .istore 6, .iload 6, .bipush 12, .if_icmp .ge 75,
  .aload 0, .getfield 100, .iload 6, .invokevirtual 18, .ifCond .eq 73, .iload 4, .aload 0, .getfield 100, .iload 6, .invokevirtual 118, .invokestatic 15, .istore 7,
  .iload 4, .aload 0, .getfield 100, .iload 6, .invokevirtual 119, .invokestatic 15, .istore 8, .iload 7, .iload 8, .iadd, .bipush 2, .if_icmp .ne 38,
  .bipush 1, .goto 39, .bipush 0, .istore 9, .iload 5, .ifCond .eq 63, .aload 0, .getfield 101, .iload 1, .iload 6, .iload 2, .aload 0,
  .getfield 102, .invokevirtual 120, .bipush 1, .bipush 0, .invokevirtual 93, .aload 0, .getfield 101, .iload 7, .iload 8, .invokevirtual 94, .aload 0, .getfield 101,
  .bipush 115, .invokevirtual 121, .istore 9, .iload 4, .iload 9, .ifCond .eq 70, .bipush 1, .iload 6, .ishl, .goto 71, .bipush 0, .ior,
  .istore 4, .iinc 6 1, .goto 9, .iload 4, .ireturn],
  [0, 1, 3, 4, 7, 9, 12, 14, 15, 17, 19, 21, 24, 25, 28, 30, 33, 36, 38, 39, 42, 44, 47, 50, 52, 54, 55, 58, 60, 63, 66, 68, 70, 72, 73, 74, 77, 78, 81, 82,
  84, 86, 89, 90, 93, 94, 96, 97, 98, 101, 104, 105, 106, 109, 110, 113, 115, 117, 120, 121, 124, 126, 129, 131, 133, 135, 138, 139, 141, 142, 145, 146, 147, 149, 152, 155, 157],
  [0, 0, 0, 1188, 0, 4071, 0, 0, 0, 0, 0, 0, 0, 1187, 0, 4075, 0, 0, 0, 1187, 0, 4076, 14, 0, 0, 0, 1187, 0, 4081, 14, 0, 0, 0, 0, 0, 0, 0, 0, 0, 0,
  0, 0, 0, 1188, 0, 0, 0, 0, 1189, 4085, 0, 0, 4089, 0, 1188, 0, 0, 4090, 0, 1188, 0, 4091, 0, 0, 0, 0, 0, 0, 0, 0, 0, 0, 0, 0, 0, 0, 0], 10, some .int, [4070, 4068, 4069, 1008], 1, 3)
def hm_L_hasKind : hx_M := (⟨"HueWar$Law", "hasKind", "(I)Z"⟩, prog_5_method_21_code,
  [.bipush 0, .istore 2, .iload 2, .aload 0, .getfield 307, .if_icmp .ge 16, .aload 0, .getfield 304, .iload 2, .iaload, .iload 1, .if_icmp .ne 14,
  .bipush 1, .ireturn, .iinc 2 1, .goto 2, .bipush 0, .ireturn],
  [0, 1, 2, 3, 4, 7, 10, 11, 14, 15, 16, 17, 20, 21, 22, 25, 28, 29],
  [0, 0, 0, 0, 1098, 0, 0, 1095, 0, 0, 0, 0, 0, 0, 0, 0, 0, 0], 3, some .boolean, [4074, 4072, 4073, 1005], 1, 1)
def hm_P_first : hx_M := (⟨"HueWar$Palette", "first", "(I)I"⟩, prog_7_method_10_code,
  [.aload 0, .iload 1, .invokevirtual 18, .ifCond .eq 9, .aload 0, .getfield 500, .iload 1, .iaload, .goto 10, .bipush 0, .ireturn],
  [0, 1, 2, 5, 8, 9, 12, 13, 14, 17, 18],
  [0, 0, 2120, 0, 0, 1053, 0, 0, 0, 0, 0], 2, some .int, [4079, 4077, 4078, 1003], 1, 1)
def hm_P_second : hx_M := (⟨"HueWar$Palette", "second", "(I)I"⟩, prog_7_method_11_code,
  [.aload 0, .iload 1, .invokevirtual 18, .ifCond .eq 9, .aload 0, .getfield 501, .iload 1, .iaload, .goto 10, .bipush 0, .ireturn],
  [0, 1, 2, 5, 8, 9, 12, 13, 14, 17, 18],
  [0, 0, 2120, 0, 0, 1054, 0, 0, 0, 0, 0], 2, some .int, [4084, 4082, 4083, 1003], 1, 1)
def hm_S_day : hx_M := (⟨"HueWar$State", "day", "()I"⟩, prog_10_method_3_code,
  [.aload 0, .getfield 804, .ireturn],
  [0, 1, 4],
  [0, 1160, 0], 1, some .int, [4088, 4086, 4087, 1007], 1, 0)
def hm_L_holds : hx_M := (⟨"HueWar$Law", "holds", "(I)Z"⟩, prog_5_method_22_code,
  [.bipush 0, .istore 2, .iload 2, .aload 0, .getfield 307, .if_icmp .ge 23, .aload 0, .getfield 304, .iload 2, .iaload, .iload 1, .if_icmp .ne 21,
  .aload 0, .aload 0, .getfield 306, .iload 2, .iaload, .invokevirtual 98, .ifCond .eq 21, .bipush 1, .ireturn, .iinc 2 1, .goto 2, .bipush 0,
  .ireturn],
  [0, 1, 2, 3, 4, 7, 10, 11, 14, 15, 16, 17, 20, 21, 22, 25, 26, 27, 30, 33, 34, 35, 38, 41, 42],
  [0, 0, 0, 0, 1098, 0, 0, 1095, 0, 0, 0, 0, 0, 0, 1097, 0, 0, 3229, 0, 0, 0, 0, 0, 0, 0], 3, some .boolean, [4094, 4092, 4093, 1005], 1, 1)
def hm_W_appears : hx_M := (⟨"HueWar", "appears", "(III)I"⟩, prog_1_method_18_code,
  [.iload 1, .invokestatic 69, .ifCond .eq 14, .aload 0, .getfield 1001, .iload 2, .invokevirtual 14, .ifCond .ne 11, .iload 2, .bipush 12, .if_icmp .ne 14, .iload 3,
  .invokestatic 19, .ifCond .ne 16, .bipush (-1), .ireturn, .aload 0, .getfield 1010, .iload 1, .iload 3, .invokevirtual 123, .aload 0, .getfield 1010, .iload 2,
  .invokevirtual 124, .ireturn],
  [0, 1, 4, 7, 8, 11, 12, 15, 18, 19, 21, 24, 25, 28, 31, 32, 33, 34, 37, 38, 39, 42, 43, 46, 47, 50],
  [0, 4057, 0, 0, 2046, 0, 4058, 0, 0, 0, 0, 0, 2124, 0, 0, 0, 0, 2055, 0, 0, 4100, 0, 2055, 0, 4109, 0], 4, some .int, [4099, 4097, 4098, 1001], 1, 3)
def hm_E_look : hx_M := (⟨"HueWar$Eyes", "look", "(II)V"⟩, prog_3_method_5_code,
  [.aload 0, .iload 1, .iload 2, .aload 0, .getfield 102, .iload 1, .iload 2, .invokevirtual 115, .invokevirtual 116, .istore 3, .bipush 0, .istore 4,
  .iload 4, .bipush 12, .if_icmp .ge 61, .iload 3, .iload 4, .invokestatic 15, .bipush 1, .if_icmp .ne 26, .aload 0, .getfield 103, .iload 4, .iload 4,
  .iastore, .goto 59, .aload 0, .getfield 100, .iload 4, .invokevirtual 18, .ifCond .eq 54, .aload 0, .aload 0, .getfield 100, .iload 4, .invokevirtual 118,
  .invokevirtual 124, .istore 5, .aload 0, .getfield 103, .iload 4, .iload 5, .bipush 12, .if_icmp .eq 46, .iload 5, .goto 52, .aload 0, .aload 0,
  .getfield 100, .iload 4, .invokevirtual 119, .invokevirtual 124, .iastore, .goto 59, .aload 0, .getfield 103, .iload 4, .bipush 12, .iastore, .iinc 4 1,
  .goto 12, .return_],
  [0, 1, 2, 3, 4, 7, 8, 9, 12, 15, 16, 17, 19, 21, 23, 26, 27, 29, 32, 33, 36, 37, 40, 42, 44, 45, 48, 49, 52, 54, 57, 60, 61, 62, 65, 67, 70, 73, 75, 76,
  79, 81, 83, 85, 88, 90, 93, 94, 95, 98, 100, 103, 106, 107, 110, 111, 114, 116, 118, 119, 122, 125],
  [0, 0, 0, 0, 1189, 0, 0, 4063, 4067, 0, 0, 0, 0, 0, 0, 0, 0, 14, 0, 0, 0, 1190, 0, 0, 0, 0, 0, 1187, 0, 4075, 0, 0, 0, 1187, 0, 4076, 4104, 0, 0, 1190,
  0, 0, 0, 0, 0, 0, 0, 0, 1187, 0, 4081, 4104, 0, 0, 0, 1190, 0, 0, 0, 0, 0, 0], 6, none, [4103, 4101, 4102, 1008], 1, 2)
def hm_E_looks : hx_M := (⟨"HueWar$Eyes", "looks", "(I)I"⟩, prog_3_method_6_code,
  [.iload 1, .bipush 12, .invokestatic 13, .ifCond .eq 9, .aload 0, .getfield 103, .iload 1, .iaload, .goto 10, .bipush 12, .ireturn],
  [0, 1, 3, 6, 9, 10, 13, 14, 15, 18, 20],
  [0, 0, 15, 0, 0, 1190, 0, 0, 0, 0, 0], 2, some .int, [4107, 4105, 4106, 1008], 1, 1)
def hm_W_child : hx_M := (⟨"HueWar", "child", "(IIII)I"⟩, prog_1_method_19_code,
  [.iload 1, .invokestatic 69, .ifCond .eq 14, .iload 2, .invokestatic 69, .ifCond .eq 14, .aload 0, .getfield 1001, .iload 3, .invokevirtual 14, .ifCond .eq 14, .iload 4,
  .invokestatic 19, .ifCond .ne 16, .bipush (-1), .ireturn, .aload 0, .getfield 1010, .iload 1, .iload 2, .iload 3, .iload 4, .invokevirtual 126, .ifCond .eq 26,
  .bipush 1, .goto 27, .bipush 0, .ireturn],
  [0, 1, 4, 7, 8, 11, 14, 15, 18, 19, 22, 25, 27, 30, 33, 34, 35, 36, 39, 40, 41, 42, 44, 47, 50, 51, 54, 55],
  [0, 4057, 0, 0, 4057, 0, 0, 2046, 0, 4058, 0, 0, 2124, 0, 0, 0, 0, 2055, 0, 0, 0, 0, 4114, 0, 0, 0, 0, 0], 5, some .int, [4113, 4111, 4112, 1001], 1, 4)
def hm_E_childSees : hx_M := (⟨"HueWar$Eyes", "childSees", "(IIII)Z"⟩, prog_3_method_4_code,
  [.aload 0, .iload 1, .iload 4, .invokevirtual 114, .iload 3, .invokestatic 15, .istore 5, .aload 0, .iload 2, .iload 4, .invokevirtual 114, .iload 3,
  .invokestatic 15, .istore 6, .aload 0, .getfield 101, .bipush 107, .invokevirtual 117, .ifCond .ne 27, .iload 5, .iload 6, .iadd, .ifCond .le 25, .bipush 1,
  .goto 26, .bipush 0, .ireturn, .aload 0, .getfield 100, .iload 3, .invokevirtual 18, .ifCond .eq 34, .bipush 1, .goto 35, .bipush 0, .istore 7,
  .aload 0, .getfield 101, .iload 1, .iload 3, .iload 4, .aload 0, .getfield 102, .invokevirtual 120, .iload 7, .aload 0, .getfield 102, .iload 3,
  .iload 4, .invokevirtual 79, .invokestatic 92, .invokevirtual 93, .aload 0, .getfield 101, .iload 5, .iload 6, .invokevirtual 94, .aload 0, .getfield 101, .bipush 107,
  .invokevirtual 121, .ireturn],
  [0, 1, 2, 4, 7, 8, 11, 13, 14, 15, 17, 20, 21, 24, 26, 27, 30, 32, 35, 38, 40, 42, 43, 46, 47, 50, 51, 52, 53, 56, 57, 60, 63, 64, 67, 68, 70, 71, 74, 75,
  76, 78, 79, 82, 85, 87, 88, 91, 92, 94, 97, 100, 103, 104, 107, 109, 111, 114, 115, 118, 120, 123],
  [0, 0, 0, 4118, 0, 14, 0, 0, 0, 0, 4118, 0, 14, 0, 0, 1188, 0, 4071, 0, 0, 0, 0, 0, 0, 0, 0, 0, 0, 1187, 0, 4075, 0, 0, 0, 0, 0, 0, 1188, 0, 0,
  0, 0, 1189, 4085, 0, 0, 1189, 0, 0, 4119, 4120, 4089, 0, 1188, 0, 0, 4090, 0, 1188, 0, 4091, 0], 8, some .boolean, [4117, 4115, 4116, 1008], 1, 4)
def hm_W_unseen : hx_M := (⟨"HueWar", "unseen", "(IIIII)I"⟩, prog_1_method_20_code,
  [.iload 1, .iload 2, .invokestatic 22, .ifCond .eq 15, .aload 0, .getfield 1001, .iload 3, .invokevirtual 14, .ifCond .eq 15, .iload 4, .invokestatic 69, .ifCond .eq 15,
  .iload 5, .invokestatic 19, .ifCond .ne 17, .bipush (-1), .ireturn, .aload 0, .getfield 1010, .iload 4, .iload 5, .invokevirtual 123, .aload 0, .bipush 8,
  .iload 2, .imul, .iload 1, .iadd, .iload 3, .invokevirtual 128, .ifCond .eq 33, .bipush 1, .goto 34, .bipush 0, .ireturn],
  [0, 1, 2, 5, 8, 9, 12, 13, 16, 19, 21, 24, 27, 29, 32, 35, 36, 37, 38, 41, 43, 45, 48, 49, 51, 52, 53, 54, 55, 56, 59, 62, 63, 66, 67],
  [0, 0, 2137, 0, 0, 2046, 0, 4058, 0, 0, 4057, 0, 0, 2124, 0, 0, 0, 0, 2055, 0, 0, 4100, 0, 0, 0, 0, 0, 0, 0, 4125, 0, 0, 0, 0, 0], 6, some .int, [4124, 4122, 4123, 1001], 1, 5)
def hm_W_isHidden : hx_M := (⟨"HueWar", "isHidden", "(II)Z"⟩, prog_1_method_42_code,
  [.aload 0, .getfield 1010, .aload 0, .getfield 1002, .iload 1, .invokevirtual 129, .invokevirtual 124, .aload 0, .getfield 1010, .iload 2, .invokevirtual 124, .if_icmp .ne 14,
  .bipush 1, .goto 15, .bipush 0, .ireturn],
  [0, 1, 4, 5, 8, 9, 12, 15, 16, 19, 20, 23, 26, 27, 30, 31],
  [0, 2055, 0, 2047, 0, 4129, 4109, 0, 2055, 0, 4109, 0, 0, 0, 0, 0], 3, some .boolean, [4128, 4127, 25, 1001], 1, 2)
def hm_G_at : hx_M := (⟨"HueWar$Ground", "at", "(I)I"⟩, prog_4_method_2_code,
  [.iload 1, .bipush 64, .invokestatic 13, .ifCond .eq 9, .aload 0, .getfield 202, .iload 1, .iaload, .goto 10, .bipush 12, .ireturn],
  [0, 1, 3, 6, 9, 10, 13, 14, 15, 18, 20],
  [0, 0, 16, 0, 0, 1074, 0, 0, 0, 0, 0], 2, some .int, [4132, 4130, 4131, 1004], 1, 1)
def hm_W_way : hx_M := (⟨"HueWar", "way", "(IIIIII)I"⟩, prog_1_method_21_code,
  [.iload 1, .bipush 64, .invokestatic 13, .ifCond .eq 13, .iload 2, .bipush 64, .invokestatic 13, .ifCond .eq 13, .aload 0, .getfield 1001, .iload 3, .invokevirtual 14,
  .ifCond .ne 15, .bipush (-1), .ireturn, .iload 4, .invokestatic 69, .ifCond .eq 25, .iload 5, .invokestatic 19, .ifCond .eq 25, .iload 6, .bipush 3, .invokestatic 13,
  .ifCond .ne 27, .bipush (-1), .ireturn, .aload 0, .getfield 1010, .iload 4, .iload 5, .invokevirtual 123, .bipush 0, .istore 7, .iload 7, .bipush 64,
  .if_icmp .ge 47, .aload 0, .getfield 1013, .iload 7, .aload 0, .iload 7, .iload 3, .invokevirtual 128, .invokevirtual 131, .iinc 7 1, .goto 34, .aload 0,
  .getfield 1013, .iload 1, .invokevirtual 132, .aload 0, .getfield 1013, .iload 2, .invokevirtual 137, .istore 7, .iload 6, .lookupswitch 69 #[(0, 58), (1, 67)], .iload 7, .ifCond .ne 65,
  .aload 0, .getfield 1013, .iload 2, .invokevirtual 138, .goto 66, .bipush (-2), .ireturn, .iload 7, .ireturn, .aload 0, .getfield 1013, .iload 2,
  .invokevirtual 138, .ireturn],
  [0, 1, 3, 6, 9, 10, 12, 15, 18, 19, 22, 23, 26, 29, 30, 31, 33, 36, 39, 41, 44, 47, 49, 50, 53, 56, 57, 58, 59, 62, 64, 66, 69, 70, 72, 74, 76, 79, 80, 83,
  85, 86, 88, 89, 92, 95, 98, 101, 102, 105, 106, 109, 110, 113, 114, 117, 119, 121, 148, 150, 153, 154, 157, 158, 161, 164, 166, 167, 169, 170, 171, 174, 175, 178],
  [0, 0, 2140, 0, 0, 0, 2140, 0, 0, 2046, 0, 4058, 0, 0, 0, 0, 4057, 0, 0, 2124, 0, 0, 0, 2140, 0, 0, 0, 0, 2055, 0, 0, 4100, 0, 0, 0, 0, 0, 0, 2058, 0,
  0, 0, 0, 4125, 4138, 0, 0, 0, 2058, 0, 4143, 0, 2058, 0, 4164, 0, 0, 0, 0, 0, 0, 2058, 0, 4168, 0, 0, 0, 0, 0, 0, 2058, 0, 4168, 0], 8, some .int, [4137, 4135, 4136, 1001], 1, 6)
def hm_A_mark : hx_M := (⟨"HueWar$Paths", "mark", "(IZ)V"⟩, prog_8_method_2_code,
  [.iload 1, .bipush 64, .invokestatic 13, .ifCond .eq 9, .aload 0, .getfield 600, .iload 1, .iload 2, .bastore, .return_],
  [0, 1, 3, 6, 9, 10, 13, 14, 15, 16],
  [0, 0, 17, 0, 0, 2025, 0, 0, 0, 0], 3, none, [4141, 4139, 4140, 1011], 1, 2)
def hm_A_search : hx_M := (⟨"HueWar$Paths", "search", "(I)V"⟩, prog_8_method_5_code,
  [.aload 0, .invokevirtual 133, .iload 1, .bipush 64, .invokestatic 13, .ifCond .eq 11, .aload 0, .getfield 602, .iload 1, .bipush 0, .iastore, .bipush 0,
  .istore 2, .iload 2, .bipush 64, .if_icmp .ge 22, .aload 0, .aload 0, .invokevirtual 134, .invokevirtual 135, .iinc 2 1, .goto 13, .return_],
  [0, 1, 4, 5, 7, 10, 13, 14, 17, 18, 19, 20, 21, 22, 23, 25, 28, 29, 30, 33, 36, 39, 42],
  [0, 4147, 0, 0, 17, 0, 0, 2027, 0, 0, 0, 0, 0, 0, 0, 0, 0, 0, 4152, 4156, 0, 0, 0], 3, none, [4146, 4144, 4145, 1011], 1, 1)
def hm_A_forget : hx_M := (⟨"HueWar$Paths", "forget", "()V"⟩, prog_8_method_4_code,
  [.bipush 0, .istore 1, .iload 1, .bipush 64, .if_icmp .ge 17, .aload 0, .getfield 601, .iload 1, .bipush 0, .bastore, .aload 0, .getfield 602,
  .iload 1, .bipush 1000000, .iastore, .iinc 1 1, .goto 2, .return_],
  [0, 1, 2, 3, 5, 8, 9, 12, 13, 14, 15, 16, 19, 20, 22, 23, 26, 29],
  [0, 0, 0, 0, 0, 0, 2026, 0, 0, 0, 0, 2027, 0, 4151, 0, 0, 0, 0], 2, none, [4150, 4149, 26, 1011], 1, 0)
def hm_A_nearest : hx_M := (⟨"HueWar$Paths", "nearest", "()I"⟩, prog_8_method_6_code,
  [.bipush (-1), .istore 1, .bipush 0, .istore 2, .iload 2, .bipush 64, .if_icmp .ge 27, .aload 0, .getfield 601, .iload 2, .baload, .ifCond .ne 25,
  .iload 1, .ifCond .lt 23, .aload 0, .getfield 602, .iload 2, .iaload, .aload 0, .getfield 602, .iload 1, .iaload, .if_icmp .ge 25, .iload 2,
  .istore 1, .iinc 2 1, .goto 4, .iload 1, .ireturn],
  [0, 1, 2, 3, 4, 5, 7, 10, 11, 14, 15, 16, 19, 20, 23, 24, 27, 28, 29, 30, 33, 34, 35, 38, 39, 40, 43, 46, 47],
  [0, 0, 0, 0, 0, 0, 0, 0, 2026, 0, 0, 0, 0, 0, 0, 2027, 0, 0, 0, 2027, 0, 0, 0, 0, 0, 0, 0, 0, 0], 3, some .int, [4155, 4154, 27, 1011], 1, 0)
def hm_A_leave : hx_M := (⟨"HueWar$Paths", "leave", "(I)V"⟩, prog_8_method_7_code,
  [.iload 1, .bipush 64, .invokestatic 13, .ifCond .ne 5, .return_, .aload 0, .getfield 601, .iload 1, .bipush 1, .bastore, .bipush 0, .istore 2,
  .iload 2, .bipush 4, .if_icmp .ge 47, .iload 1, .iload 2, .invokestatic 136, .istore 3, .iload 3, .ifCond .lt 45, .aload 0, .getfield 602, .iload 3,
  .aload 0, .getfield 602, .iload 3, .iaload, .aload 0, .getfield 602, .iload 1, .iaload, .bipush 1, .iadd, .aload 0, .getfield 600,
  .iload 3, .baload, .ifCond .eq 41, .bipush 0, .goto 42, .bipush 100, .iadd, .invokestatic 9991, .iastore, .iinc 2 1, .goto 12, .return_],
  [0, 1, 3, 6, 9, 10, 11, 14, 15, 16, 17, 18, 19, 20, 21, 24, 25, 26, 29, 30, 31, 34, 35, 38, 39, 40, 43, 44, 45, 46, 49, 50, 51, 52, 53, 54, 57, 58, 59, 62,
  63, 66, 68, 69, 72, 73, 76, 79],
  [0, 0, 17, 0, 0, 0, 2026, 0, 0, 0, 0, 0, 0, 0, 0, 0, 0, 4160, 0, 0, 0, 0, 2027, 0, 0, 2027, 0, 0, 0, 2027, 0, 0, 0, 0, 0, 2025, 0, 0, 0, 0,
  0, 0, 0, 4163, 0, 0, 0, 0], 4, none, [4159, 4158, 28, 1011], 1, 1)
def hm_A_beside : hx_M := (⟨"HueWar$Paths", "beside", "(II)I"⟩, prog_8_method_3_code,
  [.iload 1, .tableswitch 34 (0) (2) #[2, 13, 23], .iload 0, .bipush 8, .irem, .bipush 7, .if_icmp .ge 11, .iload 0, .bipush 1, .iadd, .goto 12, .bipush (-1),
  .ireturn, .iload 0, .bipush 8, .irem, .ifCond .le 21, .iload 0, .bipush 1, .isub, .goto 22, .bipush (-1), .ireturn, .iload 0,
  .bipush 8, .iadd, .bipush 64, .if_icmp .ge 32, .iload 0, .bipush 8, .iadd, .goto 33, .bipush (-1), .ireturn, .iload 0, .bipush 8,
  .if_icmp .lt 41, .iload 0, .bipush 8, .isub, .goto 42, .bipush (-1), .ireturn],
  [0, 1, 28, 29, 31, 32, 34, 37, 38, 39, 40, 43, 44, 45, 46, 48, 49, 52, 53, 54, 55, 58, 59, 60, 61, 63, 64, 66, 69, 70, 72, 73, 76, 77, 78, 79, 81, 84, 85, 87,
  88, 91, 92],
  [0, 0, 0, 0, 0, 0, 0, 0, 0, 0, 0, 0, 0, 0, 0, 0, 0, 0, 0, 0, 0, 0, 0, 0, 0, 0, 0, 0, 0, 0, 0, 0, 0, 0, 0, 0, 0, 0, 0, 0,
  0, 0, 0], 2, some .int, [4162, 4161, 1011], 0, 2)
def hm_A_watchedTo : hx_M := (⟨"HueWar$Paths", "watchedTo", "(I)I"⟩, prog_8_method_8_code,
  [.iload 1, .bipush 64, .invokestatic 13, .ifCond .eq 11, .aload 0, .getfield 602, .iload 1, .iaload, .bipush 100, .idiv, .goto 12, .bipush 0,
  .ireturn],
  [0, 1, 3, 6, 9, 10, 13, 14, 15, 17, 18, 21, 22],
  [0, 0, 17, 0, 0, 2027, 0, 0, 0, 0, 0, 0, 0], 2, some .int, [4167, 4165, 4166, 1011], 1, 1)
def hm_A_stepsTo : hx_M := (⟨"HueWar$Paths", "stepsTo", "(I)I"⟩, prog_8_method_9_code,
  [.iload 1, .bipush 64, .invokestatic 13, .ifCond .eq 11, .aload 0, .getfield 602, .iload 1, .iaload, .bipush 100, .irem, .goto 12, .bipush 0,
  .ireturn],
  [0, 1, 3, 6, 9, 10, 13, 14, 15, 17, 18, 21, 22],
  [0, 0, 17, 0, 0, 2027, 0, 0, 0, 0, 0, 0, 0], 2, some .int, [4171, 4169, 4170, 1011], 1, 1)
def hm_W_painting : hx_M := (⟨"HueWar", "painting", "(II)I"⟩, prog_1_method_22_code,
  [.aload 0, .getfield 1001, .iload 1, .invokevirtual 140, .ifCond .eq 9, .iload 2, .bipush 3, .invokestatic 13, .ifCond .ne 11, .bipush (-1), .ireturn, .bipush 0,
  .istore 3, .bipush (-2), .istore 4, .bipush 0, .istore 5, .iload 5, .bipush 24, .if_icmp .ge 43, .iload 1, .aload 0, .getfield 1010, .iload 5,
  .bipush 4, .idiv, .iload 5, .bipush 4, .irem, .invokevirtual 114, .bipush (-1), .ixor, .iand, .ifCond .ne 41, .iinc 3 1, .iload 4,
  .ifCond .ge 39, .iload 5, .goto 40, .iload 4, .istore 4, .iinc 5 1, .goto 17, .iload 2, .ifCond .eq 47, .iload 4, .ifCond .ge 53, .iload 2,
  .ifCond .ne 51, .iload 3, .goto 52, .bipush (-2), .ireturn, .iload 2, .bipush 1, .if_icmp .ne 60, .iload 4, .bipush 4, .idiv, .goto 63,
  .iload 4, .bipush 4, .irem, .ireturn],
  [0, 1, 4, 5, 8, 11, 12, 13, 16, 19, 20, 21, 22, 23, 25, 27, 28, 30, 32, 34, 37, 38, 39, 42, 44, 45, 46, 48, 49, 50, 53, 54, 55, 56, 59, 62, 64, 67, 69, 72,
  74, 76, 79, 82, 83, 86, 88, 91, 92, 95, 96, 99, 101, 102, 103, 104, 107, 109, 110, 111, 114, 116, 117, 118],
  [0, 2046, 0, 4176, 0, 0, 0, 2140, 0, 0, 0, 0, 0, 0, 0, 0, 0, 0, 0, 0, 0, 0, 2055, 0, 0, 0, 0, 0, 0, 4059, 0, 0, 0, 0, 0, 0, 0, 0, 0, 0,
  0, 0, 0, 0, 0, 0, 0, 0, 0, 0, 0, 0, 0, 0, 0, 0, 0, 0, 0, 0, 0, 0, 0, 0], 6, some .int, [4175, 4173, 4174, 1001], 1, 2)
def hm_P_areTold : hx_M := (⟨"HueWar$Palette", "areTold", "(I)Z"⟩, prog_7_method_8_code,
  [.iload 1, .aload 0, .getfield 502, .bipush (-1), .ixor, .iand, .ifCond .ne 9, .bipush 1, .goto 10, .bipush 0, .ireturn],
  [0, 1, 2, 5, 6, 7, 8, 11, 12, 15, 16],
  [0, 0, 1055, 0, 0, 0, 0, 0, 0, 0, 0], 2, some .boolean, [4179, 4177, 4178, 1003], 1, 1)
def hm_W_ash : hx_M := (⟨"HueWar", "ash", "(III)I"⟩, prog_1_method_23_code,
  [.iload 1, .invokestatic 69, .ifCond .eq 10, .iload 2, .invokestatic 19, .ifCond .eq 10, .iload 3, .bipush 3, .invokestatic 13, .ifCond .ne 12, .bipush (-1), .ireturn,
  .aload 0, .getfield 1010, .iload 1, .iload 2, .invokevirtual 123, .bipush 0, .istore 4, .bipush 0, .istore 5, .iload 5, .bipush 64, .if_icmp .ge 52,
  .aload 0, .getfield 1010, .aload 0, .getfield 1002, .iload 5, .invokevirtual 129, .invokevirtual 124, .bipush 12, .if_icmp .ne 35, .bipush 1, .goto 36, .bipush 0,
  .istore 6, .aload 0, .getfield 1013, .iload 5, .iload 6, .invokevirtual 131, .iload 4, .iload 6, .ifCond .eq 47, .bipush 1, .goto 48, .bipush 0,
  .iadd, .istore 4, .iinc 5 1, .goto 21, .aload 0, .getfield 1013, .invokevirtual 142, .iload 3, .lookupswitch 63 #[(0, 57), (1, 59)], .iload 4, .ireturn, .aload 0,
  .getfield 1013, .invokevirtual 145, .ireturn, .aload 0, .getfield 1013, .invokevirtual 146, .ireturn],
  [0, 1, 4, 7, 8, 11, 14, 15, 16, 19, 22, 23, 24, 25, 28, 29, 30, 33, 34, 36, 37, 39, 41, 43, 46, 47, 50, 51, 54, 56, 59, 62, 64, 67, 68, 71, 72, 74, 75, 78,
  80, 82, 85, 87, 89, 92, 93, 96, 97, 98, 100, 103, 106, 107, 110, 113, 114, 140, 142, 143, 144, 147, 150, 151, 152, 155, 158],
  [0, 4057, 0, 0, 2124, 0, 0, 0, 2140, 0, 0, 0, 0, 2055, 0, 0, 4100, 0, 0, 0, 0, 0, 0, 0, 0, 2055, 0, 2047, 0, 4129, 4109, 0, 0, 0, 0, 0, 0, 0, 2058, 0,
  0, 4138, 0, 0, 0, 0, 0, 0, 0, 0, 0, 0, 0, 2058, 4184, 0, 0, 0, 0, 0, 2058, 4197, 0, 0, 2058, 4201, 0], 7, some .int, [4183, 4181, 4182, 1001], 1, 3)
def hm_A_findSeas : hx_M := (⟨"HueWar$Paths", "findSeas", "()V"⟩, prog_8_method_10_code,
  [.aload 0, .invokevirtual 133, .aload 0, .bipush 0, .putfield 604, .aload 0, .bipush 0, .putfield 605, .bipush 0, .istore 1, .iload 1, .bipush 64,
  .if_icmp .ge 39, .aload 0, .getfield 600, .iload 1, .baload, .ifCond .eq 37, .aload 0, .getfield 601, .iload 1, .baload, .ifCond .ne 37, .aload 0,
  .dup, .getfield 604, .bipush 1, .iadd, .putfield 604, .aload 0, .aload 0, .getfield 605, .aload 0, .iload 1, .invokevirtual 143, .invokestatic 9992,
  .putfield 605, .iinc 1 1, .goto 10, .return_],
  [0, 1, 4, 5, 6, 9, 10, 11, 14, 15, 16, 17, 19, 22, 23, 26, 27, 28, 31, 32, 35, 36, 37, 40, 41, 42, 45, 46, 47, 50, 51, 52, 55, 56, 57, 60, 63, 66, 69, 72],
  [0, 4147, 0, 0, 2029, 0, 0, 2030, 0, 0, 0, 0, 0, 0, 2025, 0, 0, 0, 0, 2026, 0, 0, 0, 0, 0, 2029, 0, 0, 2029, 0, 0, 2030, 0, 0, 4188, 4196, 2030, 0, 0, 0], 2, none, [4187, 4185, 4186, 1011], 1, 0)
def hm_A_fill : hx_M := (⟨"HueWar$Paths", "fill", "(I)I"⟩, prog_8_method_11_code,
  [.bipush 0, .istore 2, .aload 0, .iload 1, .bipush 0, .invokevirtual 144, .istore 3, .bipush 0, .istore 4, .iload 4, .bipush 64, .if_icmp .ge 51,
  .iload 3, .ifCond .le 51, .iinc 3 (-1), .aload 0, .getfield 603, .iload 3, .iaload, .istore 5, .iinc 2 1, .bipush 0, .istore 6, .iload 6,
  .bipush 4, .if_icmp .ge 49, .iload 5, .iload 6, .invokestatic 136, .istore 7, .iload 7, .ifCond .lt 47, .aload 0, .getfield 600, .iload 7, .baload,
  .ifCond .eq 47, .aload 0, .getfield 601, .iload 7, .baload, .ifCond .ne 47, .aload 0, .iload 7, .iload 3, .invokevirtual 144, .istore 3, .iinc 6 1,
  .goto 23, .iinc 4 1, .goto 9, .iload 2, .ireturn],
  [0, 1, 2, 3, 4, 5, 8, 9, 10, 12, 14, 16, 19, 20, 23, 26, 27, 30, 31, 32, 34, 37, 38, 40, 42, 43, 46, 48, 50, 53, 55, 57, 60, 61, 64, 66, 67, 70, 71, 74,
  76, 77, 80, 81, 83, 84, 87, 88, 91, 94, 97, 100, 101],
  [0, 0, 0, 0, 0, 4192, 0, 0, 0, 0, 0, 0, 0, 0, 0, 0, 2028, 0, 0, 0, 0, 0, 0, 0, 0, 0, 0, 0, 4160, 0, 0, 0, 0, 2025, 0, 0, 0, 0, 2026, 0,
  0, 0, 0, 0, 0, 4192, 0, 0, 0, 0, 0, 0, 0], 8, some .int, [4191, 4190, 29, 1011], 1, 1)
def hm_A_push : hx_M := (⟨"HueWar$Paths", "push", "(II)I"⟩, prog_8_method_12_code,
  [.iload 2, .ifCond .lt 9, .iload 2, .bipush 64, .if_icmp .ge 9, .iload 1, .bipush 64, .invokestatic 13, .ifCond .ne 11, .iload 2, .ireturn, .aload 0,
  .getfield 601, .iload 1, .bipush 1, .bastore, .aload 0, .getfield 603, .iload 2, .iload 1, .iastore, .iload 2, .bipush 1, .iadd,
  .ireturn],
  [0, 1, 4, 5, 7, 10, 11, 13, 16, 19, 20, 21, 22, 25, 26, 27, 28, 29, 32, 33, 34, 35, 36, 37, 38],
  [0, 0, 0, 0, 0, 0, 0, 17, 0, 0, 0, 0, 2026, 0, 0, 0, 0, 2028, 0, 0, 0, 0, 0, 0, 0], 3, some .int, [4195, 4194, 30, 1011], 1, 2)
def hm_A_largestSea : hx_M := (⟨"HueWar$Paths", "largestSea", "()I"⟩, prog_8_method_14_code,
  [.aload 0, .getfield 605, .ireturn],
  [0, 1, 4],
  [0, 2030, 0], 1, some .int, [4200, 4198, 4199, 1011], 1, 0)
def hm_A_seas : hx_M := (⟨"HueWar$Paths", "seas", "()I"⟩, prog_8_method_13_code,
  [.aload 0, .getfield 604, .ireturn],
  [0, 1, 4],
  [0, 2029, 0], 1, some .int, [4204, 4202, 4203, 1011], 1, 0)
def hm_W_worth : hx_M := (⟨"HueWar", "worth", "(II)I"⟩, prog_1_method_24_code,
  [.iload 1, .invokestatic 69, .ifCond .eq 6, .iload 2, .invokestatic 19, .ifCond .ne 8, .bipush (-1), .ireturn, .aload 0, .getfield 1011, .iload 1, .iload 2,
  .invokevirtual 148, .ireturn],
  [0, 1, 4, 7, 8, 11, 14, 15, 16, 17, 20, 21, 22, 25],
  [0, 4057, 0, 0, 2124, 0, 0, 0, 0, 2056, 0, 0, 4209, 0], 3, some .int, [4208, 4206, 4207, 1001], 1, 2)
def hm_U_worthTo : hx_M := (⟨"HueWar$Purse", "worthTo", "(II)I"⟩, prog_9_method_2_code,
  [.aload 0, .iload 1, .iload 2, .bipush 0, .invokevirtual 149, .aload 0, .iload 1, .iload 2, .aload 0, .getfield 702, .iload 1, .iload 2,
  .invokevirtual 115, .invokevirtual 152, .ireturn],
  [0, 1, 2, 3, 4, 7, 8, 9, 10, 11, 14, 15, 16, 19, 22],
  [0, 0, 0, 0, 4213, 0, 0, 0, 0, 1208, 0, 0, 4235, 4236, 0], 3, some .int, [4212, 4210, 4211, 1009], 1, 2)
def hm_U_price : hx_M := (⟨"HueWar$Purse", "price", "(III)V"⟩, prog_9_method_3_code,
  [.bipush 0, .istore 4, .iload 4, .bipush 12, .if_icmp .ge 42, .aload 0, .iload 1, .iload 4, .invokevirtual 150, .istore 5, .aload 0, .getfield 702,
  .iload 4, .iload 2, .invokevirtual 79, .iload 3, .iload 4, .invokestatic 15, .iload 1, .ishl, .ior, .istore 6, .aload 0, .getfield 705,
  .iload 4, .iload 5, .ifCond .le 38, .iload 5, .aload 0, .iload 1, .iload 4, .iload 2, .iload 5, .iload 6, .invokestatic 92, .invokevirtual 151,
  .imul, .goto 39, .bipush 0, .iastore, .iinc 4 1, .goto 2, .return_],
  [0, 1, 3, 5, 7, 10, 11, 12, 14, 17, 19, 20, 23, 25, 26, 29, 30, 32, 35, 36, 37, 38, 40, 41, 44, 46, 48, 51, 53, 54, 55, 57, 58, 60, 62, 65, 68, 69, 72, 73,
  74, 77, 80],
  [0, 0, 0, 0, 0, 0, 0, 0, 4217, 0, 0, 1208, 0, 0, 4223, 0, 0, 18, 0, 0, 0, 0, 0, 1211, 0, 0, 0, 0, 0, 0, 0, 0, 0, 0, 4225, 4226, 0, 0, 0, 0,
  0, 0, 0], 7, none, [4216, 4214, 4215, 1009], 1, 3)
def hm_U_fieldsOf : hx_M := (⟨"HueWar$Purse", "fieldsOf", "(II)I"⟩, prog_9_method_4_code,
  [.bipush 0, .istore 3, .bipush 0, .istore 4, .iload 4, .bipush 64, .if_icmp .ge 22, .aload 0, .getfield 704, .iload 4, .invokevirtual 129, .iload 2,
  .if_icmp .ne 20, .aload 0, .getfield 702, .iload 4, .invokevirtual 112, .iload 1, .if_icmp .ne 20, .iinc 3 1, .iinc 4 1, .goto 4, .iload 3, .ireturn],
  [0, 1, 2, 3, 5, 7, 9, 12, 13, 16, 18, 21, 22, 25, 26, 29, 31, 34, 35, 38, 41, 44, 47, 48],
  [0, 0, 0, 0, 0, 0, 0, 0, 1210, 0, 4221, 0, 0, 0, 1208, 0, 4222, 0, 0, 0, 0, 0, 0, 0], 5, some .int, [4220, 4219, 31, 1009], 1, 2)
def hm_U_priceOf : hx_M := (⟨"HueWar$Purse", "priceOf", "(IIIII)I"⟩, prog_9_method_5_code,
  [.aload 0, .getfield 700, .iload 2, .invokevirtual 18, .ifCond .eq 7, .bipush 1, .goto 8, .bipush 0, .istore 6, .aload 0, .getfield 701, .iload 1,
  .iload 2, .iload 3, .aload 0, .getfield 702, .invokevirtual 120, .iload 6, .iload 5, .invokevirtual 93, .aload 0, .getfield 701, .iload 4, .invokevirtual 95,
  .aload 0, .getfield 701, .bipush 118, .bipush 99, .invokevirtual 97, .ireturn],
  [0, 1, 4, 5, 8, 11, 12, 15, 16, 18, 19, 22, 23, 24, 25, 26, 29, 32, 34, 36, 39, 40, 43, 45, 48, 49, 52, 54, 56, 59],
  [0, 1206, 0, 4230, 0, 0, 0, 0, 0, 0, 1207, 0, 0, 0, 0, 1208, 4231, 0, 0, 4232, 0, 1207, 0, 4233, 0, 1207, 0, 0, 4234, 0], 7, some .int, [4229, 4228, 32, 1009], 1, 5)
def hm_U_worthWith : hx_M := (⟨"HueWar$Purse", "worthWith", "(III)I"⟩, prog_9_method_6_code,
  [.aload 0, .getfield 703, .iload 1, .iload 2, .iload 3, .invokevirtual 116, .istore 4, .bipush 0, .istore 5, .bipush 0, .istore 6, .iload 6,
  .bipush 12, .if_icmp .ge 27, .iload 5, .iload 4, .iload 6, .invokestatic 15, .aload 0, .getfield 705, .iload 6, .iaload, .imul, .iadd,
  .istore 5, .iinc 6 1, .goto 11, .iload 5, .ireturn],
  [0, 1, 4, 5, 6, 7, 10, 12, 13, 15, 16, 18, 20, 22, 25, 27, 29, 31, 34, 35, 38, 40, 41, 42, 43, 45, 48, 51, 53],
  [0, 1209, 0, 0, 0, 5000, 0, 0, 0, 0, 0, 0, 0, 0, 0, 0, 0, 18, 0, 1211, 0, 0, 0, 0, 0, 0, 0, 0, 0], 7, some .int, [4239, 4237, 4238, 1009], 1, 3)
def hm_W_gain : hx_M := (⟨"HueWar", "gain", "(III)I"⟩, prog_1_method_25_code,
  [.iload 1, .invokestatic 69, .ifCond .eq 11, .aload 0, .getfield 1001, .iload 2, .invokevirtual 17, .ifCond .eq 11, .iload 3, .invokestatic 19, .ifCond .ne 13, .bipush (-1000000000),
  .ireturn, .aload 0, .getfield 1006, .iload 2, .iload 3, .invokevirtual 79, .istore 4, .iload 4, .iload 1, .invokestatic 15, .bipush 1, .if_icmp .ne 26,
  .bipush (-1000000000), .ireturn, .aload 0, .getfield 1011, .iload 1, .iload 3, .invokevirtual 148, .istore 5, .aload 0, .getfield 1006, .iload 2, .iload 3,
  .iload 4, .bipush 1, .iload 1, .ishl, .ior, .invokevirtual 20, .aload 0, .getfield 1011, .iload 1, .iload 3, .invokevirtual 148, .istore 6,
  .aload 0, .getfield 1006, .iload 2, .iload 3, .iload 4, .invokevirtual 20, .iload 6, .iload 5, .isub, .ireturn],
  [0, 1, 4, 7, 8, 11, 12, 15, 18, 19, 22, 25, 28, 29, 30, 33, 34, 35, 38, 40, 42, 43, 46, 47, 50, 53, 54, 55, 58, 59, 60, 63, 65, 66, 69, 70, 71, 73, 74, 75,
  76, 77, 80, 81, 84, 85, 86, 89, 91, 92, 95, 96, 97, 99, 102, 104, 106, 107],
  [0, 4057, 0, 0, 2046, 0, 2116, 0, 0, 2124, 0, 5005, 0, 0, 2051, 0, 0, 5006, 0, 0, 0, 4095, 0, 0, 5005, 0, 0, 2056, 0, 0, 4209, 0, 0, 2051, 0, 0, 0, 0, 0, 0,
  0, 2127, 0, 2056, 0, 0, 4209, 0, 0, 2051, 0, 0, 0, 2127, 0, 0, 0, 0], 7, some .int, [5004, 5002, 5003, 1001], 1, 3)
def hm_W_power : hx_M := (⟨"HueWar", "power", "(IIIII)I"⟩, prog_1_method_26_code,
  [.iload 1, .invokestatic 92, .istore 6, .aload 0, .getfield 1001, .iload 1, .invokevirtual 155, .ifCond .eq 14, .iload 6, .bipush 1, .if_icmp .lt 14, .iload 6,
  .bipush 5, .if_icmp .le 16, .bipush (-1000000000), .ireturn, .iload 2, .bipush 12, .invokestatic 13, .ifCond .eq 24, .iload 1, .iload 2, .invokestatic 15, .ifCond .ne 26,
  .bipush (-1000000000), .ireturn, .iload 3, .invokestatic 69, .ifCond .eq 36, .iload 4, .invokestatic 19, .ifCond .eq 36, .iload 5, .bipush 2, .invokestatic 13, .ifCond .ne 38,
  .bipush (-1000000000), .ireturn, .aload 0, .getfield 1011, .iload 1, .iload 2, .iload 3, .iload 4, .invokevirtual 156, .istore 7, .iload 6, .invokestatic 157,
  .istore 8, .iload 7, .invokestatic 9993, .iload 8, .invokestatic 158, .istore 9, .iload 9, .bipush 1, .if_icmp .ge 59, .bipush (-1000000000), .ireturn, .iload 5,
  .ifCond .ne 65, .iload 7, .iload 9, .idiv, .goto 68, .iload 8, .iload 9, .idiv, .ireturn],
  [0, 1, 4, 6, 7, 10, 11, 14, 17, 19, 20, 23, 25, 26, 29, 32, 33, 34, 36, 39, 42, 43, 44, 47, 50, 53, 54, 55, 58, 61, 63, 66, 69, 71, 72, 75, 78, 81, 82, 83,
  86, 87, 88, 89, 91, 94, 96, 98, 101, 103, 105, 108, 110, 113, 115, 117, 118, 121, 124, 125, 127, 130, 132, 134, 135, 138, 140, 142, 143],
  [0, 5011, 0, 0, 2046, 0, 5012, 0, 0, 0, 0, 0, 0, 0, 5005, 0, 0, 0, 2140, 0, 0, 0, 4095, 0, 5005, 0, 0, 4057, 0, 0, 2124, 0, 0, 0, 2140, 0, 5005, 0, 0, 2056,
  0, 0, 0, 0, 5016, 0, 0, 5026, 0, 0, 5027, 0, 5030, 0, 0, 0, 0, 5005, 0, 0, 0, 0, 0, 0, 0, 0, 0, 0, 0], 10, some .int, [5010, 5008, 5009, 1001], 1, 5)
def hm_P_arePlain : hx_M := (⟨"HueWar$Palette", "arePlain", "(I)Z"⟩, prog_7_method_9_code,
  [.iload 1, .aload 0, .getfield 502, .aload 0, .getfield 503, .bipush (-1), .ixor, .iand, .bipush (-1), .ixor, .iand, .ifCond .ne 14,
  .bipush 1, .goto 15, .bipush 0, .ireturn],
  [0, 1, 2, 5, 6, 9, 10, 11, 12, 13, 14, 15, 18, 19, 22, 23],
  [0, 0, 1055, 0, 1056, 0, 0, 0, 0, 0, 0, 0, 0, 0, 0, 0], 2, some .boolean, [5015, 5013, 5014, 1003], 1, 1)
def hm_U_addedBy : hx_M := (⟨"HueWar$Purse", "addedBy", "(IIII)I"⟩, prog_9_method_8_code,
  [.aload 0, .iload 3, .iload 4, .iload 1, .invokevirtual 149, .iload 1, .bipush 1, .iload 2, .ishl, .bipush (-1), .ixor, .iand,
  .istore 5, .iload 5, .invokestatic 92, .istore 6, .bipush 0, .istore 7, .iload 5, .istore 8, .bipush 0, .istore 9, .iload 9, .bipush 1,
  .iload 6, .ishl, .if_icmp .ge 66, .iload 8, .invokestatic 92, .istore 10, .aload 0, .iload 3, .iload 4, .iload 8, .bipush 1, .iload 2,
  .ishl, .ior, .invokevirtual 152, .aload 0, .iload 3, .iload 4, .iload 8, .invokevirtual 152, .isub, .istore 11, .iload 7, .iload 10,
  .invokestatic 157, .iload 6, .iload 10, .isub, .invokestatic 157, .imul, .iload 11, .imul, .iadd, .istore 7, .iload 8, .bipush 1,
  .isub, .iload 5, .iand, .istore 8, .iinc 9 1, .goto 22, .iload 7, .ireturn],
  [0, 1, 2, 4, 5, 8, 9, 10, 11, 12, 13, 14, 15, 17, 19, 22, 24, 25, 27, 29, 31, 32, 34, 36, 37, 39, 40, 43, 45, 48, 50, 51, 52, 54, 56, 57, 58, 59, 60, 63,
  64, 65, 67, 69, 72, 73, 75, 77, 79, 82, 84, 86, 87, 90, 91, 93, 94, 95, 97, 99, 100, 101, 103, 104, 106, 109, 112, 114],
  [0, 0, 0, 0, 4213, 0, 0, 0, 0, 0, 0, 0, 0, 0, 4225, 0, 0, 0, 0, 0, 0, 0, 0, 0, 0, 0, 0, 0, 4225, 0, 0, 0, 0, 0, 0, 0, 0, 0, 4236, 0,
  0, 0, 0, 4236, 0, 0, 0, 0, 5020, 0, 0, 0, 5020, 0, 0, 0, 0, 0, 0, 0, 0, 0, 0, 0, 0, 0, 0, 0], 12, some .int, [5019, 5017, 5018, 1009], 1, 4)
def hm_U_orders : hx_M := (⟨"HueWar$Purse", "orders", "(I)I"⟩, prog_9_method_7_code,
  [.iload 0, .getstatic 0, .arraylength, .invokestatic 13, .ifCond .eq 9, .getstatic 0, .iload 0, .iaload, .goto 10, .bipush 0, .ireturn],
  [0, 1, 4, 5, 8, 11, 14, 15, 16, 19, 20],
  [0, 5023, 0, 19, 0, 5023, 0, 0, 0, 0, 0], 1, some .int, [5022, 5021, 1009], 0, 1)
def hm_W_commonDivisor : hx_M := (⟨"HueWar", "commonDivisor", "(II)I"⟩, prog_1_method_39_code,
  [.iload 0, .istore 2, .iload 1, .istore 3, .bipush 0, .istore 4, .iload 4, .bipush 64, .if_icmp .ge 21, .iload 3, .ifCond .eq 21, .iload 2,
  .iload 3, .irem, .istore 5, .iload 3, .istore 2, .iload 5, .istore 3, .iinc 4 1, .goto 6, .iload 2, .ireturn],
  [0, 1, 2, 3, 4, 5, 7, 9, 11, 14, 15, 18, 19, 20, 21, 23, 24, 25, 27, 28, 31, 34, 35],
  [0, 0, 0, 0, 0, 0, 0, 0, 0, 0, 0, 0, 0, 0, 0, 0, 0, 0, 0, 0, 0, 0, 0], 6, some .int, [5032, 5031, 1001], 0, 2)
def hm_W_battle : hx_M := (⟨"HueWar", "battle", "(IIII)I"⟩, prog_1_method_27_code,
  [.iload 1, .invokestatic 69, .ifCond .eq 16, .iload 2, .invokestatic 69, .ifCond .eq 16, .iload 1, .iload 2, .if_icmp .eq 16, .iload 3, .invokestatic 19, .ifCond .eq 16,
  .iload 4, .bipush 3, .invokestatic 13, .ifCond .ne 18, .bipush (-1), .ireturn, .aload 0, .getfield 1012, .iload 1, .iload 2, .iload 3, .invokevirtual 160,
  .iload 4, .lookupswitch 34 #[(0, 26), (1, 30)], .aload 0, .getfield 1012, .invokevirtual 167, .ireturn, .aload 0, .getfield 1012, .invokevirtual 168, .ireturn, .aload 0, .getfield 1012,
  .invokevirtual 169, .ireturn],
  [0, 1, 4, 7, 8, 11, 14, 15, 16, 19, 20, 23, 26, 28, 29, 32, 35, 36, 37, 38, 41, 42, 43, 44, 47, 49, 76, 77, 80, 83, 84, 85, 88, 91, 92, 93, 96, 99],
  [0, 4057, 0, 0, 4057, 0, 0, 0, 0, 0, 2124, 0, 0, 0, 2140, 0, 0, 0, 0, 2057, 0, 0, 0, 5037, 0, 0, 0, 2057, 5066, 0, 0, 2057, 5070, 0, 0, 2057, 5074, 0], 5, some .int, [5036, 5034, 5035, 1001], 1, 4)
def hm_D_fight : hx_M := (⟨"HueWar$Duel", "fight", "(III)V"⟩, prog_2_method_5_code,
  [.aload 0, .getfield 0, .iload 1, .iload 3, .invokevirtual 115, .istore 4, .aload 0, .getfield 0, .iload 2, .iload 3, .invokevirtual 115, .istore 5,
  .aload 0, .iload 5, .iload 4, .bipush (-1), .ixor, .iand, .putfield 4, .aload 0, .iload 4, .iload 5, .bipush (-1), .ixor,
  .iand, .putfield 5, .aload 0, .getfield 1, .iload 1, .iload 3, .bipush 0, .invokevirtual 149, .bipush 0, .istore 6, .iload 6, .bipush 144,
  .if_icmp .ge 61, .aload 0, .iload 6, .invokevirtual 161, .ifCond .eq 59, .aload 0, .getfield 2, .iload 6, .aload 0, .getfield 1, .iload 1, .iload 3,
  .iload 4, .iload 6, .invokestatic 162, .ior, .iload 6, .invokestatic 163, .bipush (-1), .ixor, .iand, .invokevirtual 152, .iastore, .iinc 6 1,
  .goto 34, .aload 0, .getfield 1, .iload 2, .iload 3, .bipush 0, .invokevirtual 149, .bipush 0, .istore 6, .iload 6, .bipush 144, .if_icmp .ge 96,
  .aload 0, .iload 6, .invokevirtual 161, .ifCond .eq 94, .aload 0, .getfield 3, .iload 6, .aload 0, .getfield 1, .iload 2, .iload 3, .iload 5,
  .iload 6, .invokestatic 163, .ior, .iload 6, .invokestatic 162, .bipush (-1), .ixor, .iand, .invokevirtual 152, .iastore, .iinc 6 1, .goto 69,
  .aload 0, .invokevirtual 164, .return_],
  [0, 1, 4, 5, 6, 9, 11, 12, 15, 16, 17, 20, 22, 23, 25, 27, 28, 29, 30, 33, 34, 36, 38, 39, 40, 41, 44, 45, 48, 49, 50, 51, 54, 55, 57, 59, 62, 65, 66, 68,
  71, 74, 75, 78, 80, 81, 84, 85, 86, 88, 90, 93, 94, 96, 99, 100, 101, 102, 105, 106, 109, 112, 113, 116, 117, 118, 119, 122, 123, 125, 127, 130, 133, 134, 136, 139, 142, 143, 146, 148,
  149, 152, 153, 154, 156, 158, 161, 162, 164, 167, 168, 169, 170, 173, 174, 177, 180, 181, 184],
  [0, 1231, 0, 0, 5041, 0, 0, 1231, 0, 0, 5041, 0, 0, 0, 0, 0, 0, 0, 1235, 0, 0, 0, 0, 0, 0, 1236, 0, 1232, 0, 0, 0, 5042, 0, 0, 0, 0, 0, 0, 0, 5043,
  0, 0, 1233, 0, 0, 1232, 0, 0, 0, 0, 5047, 0, 0, 5050, 0, 0, 0, 5053, 0, 0, 0, 0, 1232, 0, 0, 0, 5042, 0, 0, 0, 0, 0, 0, 0, 5043, 0, 0, 1234, 0, 0,
  1232, 0, 0, 0, 0, 5050, 0, 0, 5047, 0, 0, 0, 5053, 0, 0, 0, 0, 5054, 0], 7, none, [5040, 5038, 5039, 1010], 1, 3)
def hm_D_isChosen : hx_M := (⟨"HueWar$Duel", "isChosen", "(I)Z"⟩, prog_2_method_6_code,
  [.aload 0, .getfield 4, .iload 1, .invokestatic 162, .iand, .ifCond .eq 14, .aload 0, .getfield 5, .iload 1, .invokestatic 163, .iand, .ifCond .eq 14,
  .bipush 1, .goto 15, .bipush 0, .ireturn],
  [0, 1, 4, 5, 8, 9, 12, 13, 16, 17, 20, 21, 24, 25, 28, 29],
  [0, 1235, 0, 5047, 0, 0, 0, 1236, 0, 5050, 0, 0, 0, 0, 0, 0], 2, some .boolean, [5046, 5045, 33, 1010], 1, 1)
def hm_D_taken : hx_M := (⟨"HueWar$Duel", "taken", "(I)I"⟩, prog_2_method_7_code,
  [.bipush 1, .iload 0, .bipush 12, .idiv, .ishl, .ireturn],
  [0, 1, 2, 4, 5, 6],
  [0, 0, 0, 0, 0, 0], 1, some .int, [5049, 5048, 1010], 0, 1)
def hm_D_lost : hx_M := (⟨"HueWar$Duel", "lost", "(I)I"⟩, prog_2_method_8_code,
  [.bipush 1, .iload 0, .bipush 12, .irem, .ishl, .ireturn],
  [0, 1, 2, 4, 5, 6],
  [0, 0, 0, 0, 0, 0], 1, some .int, [5052, 5051, 1010], 0, 1)
def hm_D_findTwos : hx_M := (⟨"HueWar$Duel", "findTwos", "()V"⟩, prog_2_method_9_code,
  [.aload 0, .bipush 0, .putfield 6, .aload 0, .bipush (-2), .putfield 7, .aload 0, .bipush (-2), .putfield 8, .bipush 0, .istore 1, .iload 1,
  .bipush 144, .if_icmp .ge 47, .aload 0, .iload 1, .invokevirtual 161, .ifCond .eq 45, .aload 0, .iload 1, .invokevirtual 165, .ifCond .eq 45, .aload 0, .iload 1,
  .invokevirtual 166, .ifCond .eq 45, .aload 0, .getfield 6, .ifCond .ne 39, .aload 0, .iload 1, .bipush 12, .idiv, .putfield 7, .aload 0, .iload 1,
  .bipush 12, .irem, .putfield 8, .aload 0, .dup, .getfield 6, .bipush 1, .iadd, .putfield 6, .iinc 1 1, .goto 11, .return_],
  [0, 1, 2, 5, 6, 8, 11, 12, 14, 17, 18, 19, 20, 23, 26, 27, 28, 31, 34, 35, 36, 39, 42, 43, 44, 47, 50, 51, 54, 57, 58, 59, 61, 62, 65, 66, 67, 69, 70, 73,
  74, 75, 78, 79, 80, 83, 86, 89],
  [0, 0, 1237, 0, 0, 1238, 0, 0, 1239, 0, 0, 0, 0, 0, 0, 0, 5043, 0, 0, 0, 5058, 0, 0, 0, 5062, 0, 0, 1237, 0, 0, 0, 0, 0, 1238, 0, 0, 0, 0, 1239, 0,
  0, 1237, 0, 0, 1237, 0, 0, 0], 2, none, [5057, 5056, 34, 1010], 1, 0)
def hm_D_isBestOfA : hx_M := (⟨"HueWar$Duel", "isBestOfA", "(I)Z"⟩, prog_2_method_10_code,
  [.bipush 0, .istore 2, .iload 2, .bipush 12, .if_icmp .ge 30, .bipush 12, .iload 2, .imul, .iload 1, .bipush 12, .irem, .iadd,
  .istore 3, .aload 0, .iload 3, .invokevirtual 161, .ifCond .eq 28, .aload 0, .getfield 2, .iload 3, .iaload, .aload 0, .getfield 2, .iload 1,
  .iaload, .if_icmp .le 28, .bipush 0, .ireturn, .iinc 2 1, .goto 2, .bipush 1, .ireturn],
  [0, 1, 2, 3, 5, 8, 10, 11, 12, 13, 15, 16, 17, 18, 19, 20, 23, 26, 27, 30, 31, 32, 33, 36, 37, 38, 41, 42, 43, 46, 49, 50],
  [0, 0, 0, 0, 0, 0, 0, 0, 0, 0, 0, 0, 0, 0, 0, 5043, 0, 0, 1233, 0, 0, 0, 1233, 0, 0, 0, 0, 0, 0, 0, 0, 0], 4, some .boolean, [5061, 5060, 35, 1010], 1, 1)
def hm_D_isBestOfB : hx_M := (⟨"HueWar$Duel", "isBestOfB", "(I)Z"⟩, prog_2_method_11_code,
  [.bipush 0, .istore 2, .iload 2, .bipush 12, .if_icmp .ge 30, .iload 1, .iload 1, .bipush 12, .irem, .isub, .iload 2, .iadd,
  .istore 3, .aload 0, .iload 3, .invokevirtual 161, .ifCond .eq 28, .aload 0, .getfield 3, .iload 3, .iaload, .aload 0, .getfield 3, .iload 1,
  .iaload, .if_icmp .le 28, .bipush 0, .ireturn, .iinc 2 1, .goto 2, .bipush 1, .ireturn],
  [0, 1, 2, 3, 5, 8, 9, 10, 12, 13, 14, 15, 16, 17, 18, 19, 22, 25, 26, 29, 30, 31, 32, 35, 36, 37, 40, 41, 42, 45, 48, 49],
  [0, 0, 0, 0, 0, 0, 0, 0, 0, 0, 0, 0, 0, 0, 0, 5043, 0, 0, 1234, 0, 0, 0, 1234, 0, 0, 0, 0, 0, 0, 0, 0, 0], 4, some .boolean, [5065, 5064, 36, 1010], 1, 1)
def hm_D_twos : hx_M := (⟨"HueWar$Duel", "twos", "()I"⟩, prog_2_method_2_code,
  [.aload 0, .getfield 6, .ireturn],
  [0, 1, 4],
  [0, 1237, 0], 1, some .int, [5069, 5067, 5068, 1010], 1, 0)
def hm_D_firstOfA : hx_M := (⟨"HueWar$Duel", "firstOfA", "()I"⟩, prog_2_method_3_code,
  [.aload 0, .getfield 7, .ireturn],
  [0, 1, 4],
  [0, 1238, 0], 1, some .int, [5073, 5071, 5072, 1010], 1, 0)
def hm_D_firstOfB : hx_M := (⟨"HueWar$Duel", "firstOfB", "()I"⟩, prog_2_method_4_code,
  [.aload 0, .getfield 8, .ireturn],
  [0, 1, 4],
  [0, 1239, 0], 1, some .int, [5077, 5075, 5076, 1010], 1, 0)
def hm_W_signals : hx_M := (⟨"HueWar", "signals", "(IIIII)I"⟩, prog_1_method_28_code,
  [.iload 2, .bipush 1, .if_icmp .lt 11, .iload 2, .bipush 64, .if_icmp .ge 11, .iload 3, .ifCond .lt 11, .iload 3, .bipush 64, .if_icmp .lt 13, .bipush (-1),
  .ireturn, .iload 2, .iload 3, .iand, .ifCond .ne 24, .iload 4, .invokestatic 19, .ifCond .eq 24, .iload 5, .bipush 3, .invokestatic 13, .ifCond .ne 26,
  .bipush (-1), .ireturn, .iload 5, .bipush 2, .if_icmp .eq 37, .iload 1, .bipush 2, .if_icmp .lt 35, .iload 1, .bipush 6, .if_icmp .le 37, .bipush (-1),
  .ireturn, .aload 0, .iload 2, .iload 3, .iload 4, .invokevirtual 171, .iload 5, .lookupswitch 52 #[(0, 44), (1, 48)], .aload 0, .iload 1, .invokevirtual 175, .ireturn,
  .aload 0, .iload 1, .invokevirtual 177, .ireturn, .aload 0, .invokevirtual 178, .ireturn],
  [0, 1, 2, 5, 6, 8, 11, 12, 15, 16, 18, 21, 22, 23, 24, 25, 26, 29, 31, 34, 37, 39, 40, 43, 46, 47, 48, 50, 51, 54, 55, 56, 59, 60, 62, 65, 66, 67, 68, 69,
  70, 72, 75, 77, 104, 105, 106, 109, 110, 111, 112, 115, 116, 117, 120],
  [0, 0, 0, 0, 0, 0, 0, 0, 0, 0, 0, 0, 0, 0, 0, 0, 0, 0, 2124, 0, 0, 0, 2140, 0, 0, 0, 0, 0, 0, 0, 0, 0, 0, 0, 0, 0, 0, 0, 0, 0,
  0, 5082, 0, 0, 0, 0, 5098, 0, 0, 0, 5106, 0, 0, 5110, 0], 6, some .int, [5081, 5079, 5080, 1001], 1, 5)
def hm_W_findPartners : hx_M := (⟨"HueWar", "findPartners", "(III)V"⟩, prog_1_method_43_code,
  [.bipush 0, .istore 4, .iload 4, .bipush 12, .if_icmp .ge 21, .aload 0, .getfield 1015, .iload 4, .aload 0, .getfield 1001, .iload 4, .invokevirtual 14,
  .ifCond .eq 17, .aload 0, .getfield 1001, .invokevirtual 172, .goto 18, .bipush 0, .iastore, .iinc 4 1, .goto 2, .bipush 0, .istore 4, .iload 4,
  .bipush 6, .if_icmp .ge 73, .iload 1, .iload 4, .invokestatic 15, .bipush 1, .if_icmp .ne 33, .bipush 1, .goto 34, .bipush 0, .istore 5, .iload 5,
  .ifCond .ne 42, .iload 2, .iload 4, .invokestatic 15, .bipush 1, .if_icmp .ne 71, .aload 0, .getfield 1010, .iload 4, .iload 3, .invokevirtual 123, .bipush 0,
  .istore 6, .iload 6, .bipush 12, .if_icmp .ge 71, .aload 0, .getfield 1015, .iload 6, .dup2, .iaload, .iload 5, .ifCond .eq 63, .aload 0,
  .iload 6, .invokevirtual 173, .goto 67, .aload 0, .getfield 1010, .iload 6, .invokevirtual 174, .iand, .iastore, .iinc 6 1, .goto 49, .iinc 4 1,
  .goto 23, .return_],
  [0, 1, 3, 5, 7, 10, 11, 14, 16, 17, 20, 22, 25, 28, 29, 32, 35, 38, 39, 40, 43, 46, 47, 49, 51, 53, 56, 57, 59, 62, 63, 66, 67, 70, 71, 73, 75, 78, 79, 81,
  84, 85, 88, 89, 92, 94, 95, 98, 99, 101, 103, 105, 108, 109, 112, 114, 115, 116, 118, 121, 122, 124, 127, 130, 131, 134, 136, 139, 140, 141, 144, 147, 150, 153],
  [0, 0, 0, 0, 0, 0, 2060, 0, 0, 2046, 0, 4058, 0, 0, 2046, 5086, 0, 0, 0, 0, 0, 0, 0, 0, 0, 0, 0, 0, 4095, 0, 0, 0, 0, 0, 0, 0, 0, 0, 0, 4095,
  0, 0, 0, 2055, 0, 0, 4100, 0, 0, 0, 0, 0, 0, 2060, 0, 0, 0, 0, 0, 0, 0, 5090, 0, 0, 2055, 0, 5094, 0, 0, 0, 0, 0, 0, 0], 7, none, [5085, 5084, 37, 1001], 1, 3)
def hm_P_told : hx_M := (⟨"HueWar$Palette", "told", "()I"⟩, prog_7_method_3_code,
  [.aload 0, .getfield 502, .ireturn],
  [0, 1, 4],
  [0, 1055, 0], 1, some .int, [5089, 5087, 5088, 1003], 1, 0)
def hm_W_unlike : hx_M := (⟨"HueWar", "unlike", "(I)I"⟩, prog_1_method_44_code,
  [.aload 0, .getfield 1010, .iload 1, .invokevirtual 124, .bipush 12, .if_icmp .ne 8, .bipush 0, .goto 29, .aload 0, .getfield 1001, .invokevirtual 172, .aload 0,
  .getfield 1010, .iload 1, .invokevirtual 174, .bipush (-1), .ixor, .iand, .aload 0, .getfield 1010, .bipush 12, .invokevirtual 174, .bipush (-1), .ixor,
  .iand, .bipush 1, .iload 1, .ishl, .ior, .ireturn],
  [0, 1, 4, 5, 8, 10, 13, 14, 17, 18, 21, 24, 25, 28, 29, 32, 33, 34, 35, 36, 39, 41, 44, 45, 46, 47, 48, 49, 50, 51],
  [0, 2055, 0, 4109, 0, 0, 0, 0, 0, 2046, 5086, 0, 2055, 0, 5094, 0, 0, 0, 0, 2055, 0, 5094, 0, 0, 0, 0, 0, 0, 0, 0], 2, some .int, [5093, 5092, 38, 1001], 1, 1)
def hm_E_alike : hx_M := (⟨"HueWar$Eyes", "alike", "(I)I"⟩, prog_3_method_7_code,
  [.aload 0, .iload 1, .invokevirtual 124, .istore 2, .bipush 0, .istore 3, .bipush 0, .istore 4, .iload 4, .bipush 12, .if_icmp .ge 25, .aload 0,
  .getfield 103, .iload 4, .iaload, .iload 2, .if_icmp .ne 23, .iload 3, .bipush 1, .iload 4, .ishl, .ior, .istore 3, .iinc 4 1,
  .goto 8, .iload 3, .ireturn],
  [0, 1, 2, 5, 6, 7, 8, 9, 11, 13, 15, 18, 19, 22, 24, 25, 26, 29, 30, 31, 33, 34, 35, 36, 39, 42, 43],
  [0, 0, 4104, 0, 0, 0, 0, 0, 0, 0, 0, 0, 1190, 0, 0, 0, 0, 0, 0, 0, 0, 0, 0, 0, 0, 0, 0], 5, some .int, [5097, 5095, 5096, 1008], 1, 1)
def hm_W_setsOf : hx_M := (⟨"HueWar", "setsOf", "(I)I"⟩, prog_1_method_46_code,
  [.bipush 0, .istore 2, .bipush 0, .istore 3, .iload 3, .bipush 4096, .if_icmp .ge 18, .iload 3, .invokestatic 92, .iload 1, .if_icmp .ne 16, .aload 0,
  .iload 3, .invokevirtual 176, .ifCond .eq 16, .iinc 2 1, .iinc 3 1, .goto 4, .iload 2, .ireturn],
  [0, 1, 2, 3, 4, 5, 8, 11, 12, 15, 16, 19, 20, 21, 24, 27, 30, 33, 36, 37],
  [0, 0, 0, 0, 0, 0, 0, 0, 5011, 0, 0, 0, 0, 5102, 0, 0, 0, 0, 0, 0], 4, some .int, [5101, 5100, 39, 1001], 1, 1)
def hm_W_isSignalSet : hx_M := (⟨"HueWar", "isSignalSet", "(I)Z"⟩, prog_1_method_45_code,
  [.bipush 0, .istore 2, .iload 2, .bipush 12, .if_icmp .ge 23, .iload 1, .iload 2, .invokestatic 15, .bipush 1, .if_icmp .ne 21, .iload 1, .aload 0,
  .getfield 1015, .iload 2, .iaload, .bipush (-1), .ixor, .iand, .ifCond .eq 21, .bipush 0, .ireturn, .iinc 2 1, .goto 2, .bipush 1,
  .ireturn],
  [0, 1, 2, 3, 5, 8, 9, 10, 13, 14, 17, 18, 19, 22, 23, 24, 25, 26, 27, 30, 31, 32, 35, 38, 39],
  [0, 0, 0, 0, 0, 0, 0, 4095, 0, 0, 0, 0, 2060, 0, 0, 0, 0, 0, 0, 0, 0, 0, 0, 0, 0], 3, some .boolean, [5105, 5104, 40, 1001], 1, 1)
def hm_W_firstSetOf : hx_M := (⟨"HueWar", "firstSetOf", "(I)I"⟩, prog_1_method_47_code,
  [.bipush 0, .istore 2, .iload 2, .bipush 4096, .if_icmp .ge 17, .iload 2, .invokestatic 92, .iload 1, .if_icmp .ne 15, .aload 0, .iload 2, .invokevirtual 176,
  .ifCond .eq 15, .iload 2, .ireturn, .iinc 2 1, .goto 2, .bipush (-2), .ireturn],
  [0, 1, 2, 3, 6, 9, 10, 13, 14, 17, 18, 19, 22, 25, 26, 27, 30, 33, 35],
  [0, 0, 0, 0, 0, 0, 5011, 0, 0, 0, 0, 5102, 0, 0, 0, 0, 0, 0, 0], 3, some .int, [5109, 5108, 41, 1001], 1, 1)
def hm_W_mostSignals : hx_M := (⟨"HueWar", "mostSignals", "()I"⟩, prog_1_method_48_code,
  [.bipush 6, .istore 1, .iload 1, .bipush 2, .if_icmp .lt 13, .aload 0, .iload 1, .invokevirtual 177, .ifCond .lt 11, .iload 1, .ireturn, .iinc 1 (-1),
  .goto 2, .bipush 0, .ireturn],
  [0, 2, 3, 4, 5, 8, 9, 10, 13, 16, 17, 18, 21, 24, 25],
  [0, 0, 0, 0, 0, 0, 0, 5106, 0, 0, 0, 0, 0, 0, 0], 2, some .int, [5113, 5112, 42, 1001], 1, 0)
def hm_W_parted : hx_M := (⟨"HueWar", "parted", "(II)I"⟩, prog_1_method_29_code,
  [.iload 2, .bipush 10, .isub, .invokestatic 19, .istore 3, .iload 1, .bipush 2, .if_icmp .lt 24, .iload 1, .bipush 3, .if_icmp .gt 24, .iload 2,
  .bipush 2, .invokestatic 13, .ifCond .ne 17, .iload 3, .ifCond .eq 24, .aload 0, .getfield 1000, .invokevirtual 25, .bipush 4, .iload 1, .imul, .if_icmp .ge 26,
  .bipush (-1), .ireturn, .bipush (-2), .istore 4, .aload 0, .bipush 4, .iload 1, .imul, .invokevirtual 180, .ifCond .eq 60, .aload 0, .iload 1,
  .invokevirtual 181, .istore 5, .iload 3, .ifCond .eq 48, .iload 5, .iload 1, .iload 2, .bipush 10, .isub, .invokestatic 184, .istore 4, .goto 60,
  .iload 2, .ifCond .ne 55, .aload 0, .iload 5, .iload 1, .invokevirtual 182, .goto 59, .aload 0, .iload 5, .iload 1, .invokevirtual 185, .istore 4,
  .aload 0, .getfield 1000, .invokevirtual 50, .iload 4, .ireturn],
  [0, 1, 3, 4, 7, 8, 9, 10, 13, 14, 15, 18, 19, 20, 23, 26, 27, 30, 31, 34, 37, 38, 39, 40, 43, 44, 45, 47, 49, 50, 51, 52, 53, 56, 59, 60, 61, 64, 66, 67,
  70, 72, 73, 74, 76, 77, 80, 82, 85, 86, 89, 90, 92, 93, 96, 99, 100, 102, 103, 106, 108, 109, 112, 115, 117],
  [0, 0, 0, 2124, 0, 0, 0, 0, 0, 0, 0, 0, 0, 2140, 0, 0, 0, 0, 2045, 2149, 0, 0, 0, 0, 0, 0, 0, 0, 0, 0, 0, 0, 5118, 0, 0, 0, 5123, 0, 0, 0,
  0, 0, 0, 0, 0, 5135, 0, 0, 0, 0, 0, 0, 0, 5127, 0, 0, 0, 0, 5139, 0, 0, 2045, 3011, 0, 0], 6, some .int, [5117, 5115, 5116, 1001], 1, 2)
def hm_W_areThoughts : hx_M := (⟨"HueWar", "areThoughts", "(I)Z"⟩, prog_1_method_49_code,
  [.bipush 0, .istore 2, .iload 2, .iload 1, .if_icmp .ge 15, .aload 0, .getfield 1000, .iload 2, .invokevirtual 111, .bipush 99, .if_icmp .le 13, .bipush 0,
  .ireturn, .iinc 2 1, .goto 2, .bipush 1, .ireturn],
  [0, 1, 2, 3, 4, 7, 8, 11, 12, 15, 17, 20, 21, 22, 25, 28, 29],
  [0, 0, 0, 0, 0, 0, 2045, 0, 5122, 0, 0, 0, 0, 0, 0, 0, 0], 3, some .boolean, [5121, 5120, 43, 1001], 1, 1)
def hm_W_fairestRow : hx_M := (⟨"HueWar", "fairestRow", "(I)I"⟩, prog_1_method_53_code,
  [.iload 1, .iload 1, .imul, .iload 1, .imul, .iload 1, .imul, .istore 2, .bipush 0, .istore 3, .bipush (-1), .istore 4,
  .bipush 0, .istore 5, .iload 5, .iload 2, .if_icmp .ge 31, .aload 0, .iload 5, .iload 1, .invokevirtual 182, .istore 6, .iload 6, .iload 4,
  .if_icmp .le 29, .iload 6, .istore 4, .iload 5, .istore 3, .iinc 5 1, .goto 14, .iload 3, .ireturn],
  [0, 1, 2, 3, 4, 5, 6, 7, 8, 9, 10, 11, 13, 14, 16, 18, 19, 22, 23, 25, 26, 29, 31, 33, 35, 38, 40, 42, 44, 45, 48, 51, 52],
  [0, 0, 0, 0, 0, 0, 0, 0, 0, 0, 0, 0, 0, 0, 0, 0, 0, 0, 0, 0, 5127, 0, 0, 0, 0, 0, 0, 0, 0, 0, 0, 0, 0], 7, some .int, [5126, 5125, 44, 1001], 1, 1)
def hm_W_leastOf : hx_M := (⟨"HueWar", "leastOf", "(II)I"⟩, prog_1_method_52_code,
  [.aload 0, .iload 1, .iload 2, .bipush 0, .bipush 0, .invokevirtual 183, .istore 3, .bipush 1, .istore 4, .iload 4, .iload 2, .if_icmp .ge 23,
  .iload 3, .aload 0, .iload 1, .iload 2, .iload 4, .iload 4, .invokevirtual 183, .invokestatic 9991, .istore 3, .iinc 4 1, .goto 9, .iload 3,
  .ireturn],
  [0, 1, 2, 3, 4, 5, 8, 9, 10, 12, 14, 15, 18, 19, 20, 21, 22, 24, 26, 29, 32, 33, 36, 39, 40],
  [0, 0, 0, 0, 0, 5131, 0, 0, 0, 0, 0, 0, 0, 0, 0, 0, 0, 0, 5131, 5138, 0, 0, 0, 0, 0], 5, some .int, [5130, 5129, 45, 1001], 1, 2)
def hm_W_thoughtOf : hx_M := (⟨"HueWar", "thoughtOf", "(IIII)I"⟩, prog_1_method_51_code,
  [.bipush 0, .istore 5, .bipush 0, .istore 6, .iload 6, .bipush 4, .if_icmp .ge 26, .iload 1, .iload 2, .iload 6, .invokestatic 184, .iload 4,
  .if_icmp .ne 24, .iload 5, .aload 0, .getfield 1000, .bipush 4, .iload 3, .imul, .iload 6, .iadd, .invokevirtual 111, .iadd, .istore 5,
  .iinc 6 1, .goto 4, .iload 5, .ireturn],
  [0, 1, 3, 4, 6, 8, 9, 12, 13, 14, 16, 19, 21, 24, 26, 27, 30, 31, 32, 33, 35, 36, 39, 40, 42, 45, 48, 50],
  [0, 0, 0, 0, 0, 0, 0, 0, 0, 0, 5135, 0, 0, 0, 0, 2045, 0, 0, 0, 0, 0, 5122, 0, 0, 0, 0, 0, 0], 7, some .int, [5134, 5133, 46, 1001], 1, 4)
def hm_W_placeIn : hx_M := (⟨"HueWar", "placeIn", "(III)I"⟩, prog_1_method_50_code,
  [.iload 0, .istore 3, .bipush 3, .istore 4, .iload 4, .iload 2, .if_icmp .le 17, .iload 1, .ifCond .le 13, .iload 3, .iload 1, .idiv,
  .goto 14, .bipush 0, .istore 3, .iinc 4 (-1), .goto 4, .iload 1, .ifCond .le 23, .iload 3, .iload 1, .irem, .goto 24, .bipush 0,
  .ireturn],
  [0, 1, 2, 3, 5, 7, 8, 11, 12, 15, 16, 17, 18, 21, 22, 23, 26, 29, 30, 33, 34, 35, 36, 39, 40],
  [0, 0, 0, 0, 0, 0, 0, 0, 0, 0, 0, 0, 0, 0, 0, 0, 0, 0, 0, 0, 0, 0, 0, 0, 0], 5, some .int, [5137, 5136, 1001], 0, 3)
def hm_W_envyOf : hx_M := (⟨"HueWar", "envyOf", "(II)I"⟩, prog_1_method_55_code,
  [.bipush 0, .istore 3, .bipush 0, .istore 4, .iload 4, .iload 2, .if_icmp .ge 33, .iload 4, .bipush 1, .iadd, .istore 5, .iload 5,
  .iload 2, .if_icmp .ge 31, .aload 0, .iload 1, .iload 2, .iload 4, .iload 5, .invokevirtual 186, .ifCond .ne 28, .aload 0, .iload 1, .iload 2,
  .iload 5, .iload 4, .invokevirtual 186, .ifCond .eq 29, .iinc 3 1, .iinc 5 1, .goto 11, .iinc 4 1, .goto 4, .iload 3, .ireturn],
  [0, 1, 2, 3, 5, 7, 8, 11, 13, 14, 15, 17, 19, 20, 23, 24, 25, 26, 28, 30, 33, 36, 37, 38, 39, 41, 43, 46, 49, 52, 55, 58, 61, 64, 65],
  [0, 0, 0, 0, 0, 0, 0, 0, 0, 0, 0, 0, 0, 0, 0, 0, 0, 0, 0, 5143, 0, 0, 0, 0, 0, 0, 5143, 0, 0, 0, 0, 0, 0, 0, 0], 6, some .int, [5142, 5141, 47, 1001], 1, 2)
def hm_W_envies : hx_M := (⟨"HueWar", "envies", "(IIII)Z"⟩, prog_1_method_54_code,
  [.aload 0, .iload 1, .iload 2, .iload 3, .iload 4, .invokevirtual 183, .aload 0, .iload 1, .iload 2, .iload 3, .iload 3, .invokevirtual 183,
  .if_icmp .le 15, .bipush 1, .goto 16, .bipush 0, .ireturn],
  [0, 1, 2, 3, 4, 6, 9, 10, 11, 12, 13, 14, 17, 20, 21, 24, 25],
  [0, 0, 0, 0, 0, 5131, 0, 0, 0, 0, 0, 5131, 0, 0, 0, 0, 0], 5, some .boolean, [5146, 5145, 48, 1001], 1, 4)
def hm_W_spies : hx_M := (⟨"HueWar", "spies", "(II)I"⟩, prog_1_method_30_code,
  [.iload 1, .bipush 1, .if_icmp .lt 17, .iload 1, .bipush 10, .if_icmp .gt 17, .iload 2, .bipush 3, .invokestatic 13, .ifCond .eq 17, .aload 0, .getfield 1000,
  .invokevirtual 25, .bipush 3, .iload 1, .imul, .if_icmp .ge 19, .bipush (-1), .ireturn, .aload 0, .iload 1, .invokevirtual 188, .ifCond .ne 28, .aload 0,
  .getfield 1000, .invokevirtual 50, .bipush (-2), .ireturn, .aload 0, .invokevirtual 189, .aload 0, .iload 1, .invokevirtual 190, .istore 3, .aload 0, .getfield 1000,
  .invokevirtual 50, .iload 2, .ifCond .ne 41, .iload 3, .ireturn, .aload 0, .iload 3, .invokevirtual 192, .istore 4, .iload 2, .bipush 1, .if_icmp .ne 52,
  .iload 4, .bipush 4, .idiv, .goto 55, .iload 4, .bipush 4, .irem, .ireturn],
  [0, 1, 2, 5, 6, 8, 11, 12, 13, 16, 19, 20, 23, 26, 27, 28, 29, 32, 33, 34, 35, 36, 39, 42, 43, 46, 49, 51, 52, 53, 56, 57, 58, 61, 62, 63, 66, 69, 70, 73,
  74, 75, 76, 77, 80, 82, 83, 84, 87, 89, 90, 91, 94, 96, 97, 98],
  [0, 0, 0, 0, 0, 0, 0, 0, 2140, 0, 0, 2045, 2149, 0, 0, 0, 0, 0, 0, 0, 0, 5151, 0, 0, 2045, 3011, 0, 0, 0, 5155, 0, 0, 5159, 0, 0, 2045, 3011, 0, 0, 0,
  0, 0, 0, 5167, 0, 0, 0, 0, 0, 0, 0, 0, 0, 0, 0, 0], 5, some .int, [5150, 5148, 5149, 1001], 1, 2)
def hm_W_areShown : hx_M := (⟨"HueWar", "areShown", "(I)Z"⟩, prog_1_method_56_code,
  [.bipush 0, .istore 2, .iload 2, .iload 1, .if_icmp .ge 40, .aload 0, .getfield 1001, .aload 0, .getfield 1000, .bipush 3, .iload 2, .imul,
  .invokevirtual 111, .invokevirtual 14, .ifCond .eq 36, .aload 0, .getfield 1000, .bipush 3, .iload 2, .imul, .bipush 1, .iadd, .invokevirtual 111, .invokestatic 19,
  .ifCond .eq 36, .aload 0, .getfield 1000, .bipush 3, .iload 2, .imul, .bipush 2, .iadd, .invokevirtual 111, .bipush 2, .invokestatic 13, .ifCond .ne 38,
  .bipush 0, .ireturn, .iinc 2 1, .goto 2, .bipush 1, .ireturn],
  [0, 1, 2, 3, 4, 7, 8, 11, 12, 15, 16, 17, 18, 21, 24, 27, 28, 31, 32, 33, 34, 35, 36, 39, 42, 45, 46, 49, 50, 51, 52, 53, 54, 57, 58, 61, 64, 65, 66, 69,
  72, 73],
  [0, 0, 0, 0, 0, 0, 2046, 0, 2045, 0, 0, 0, 5122, 4058, 0, 0, 2045, 0, 0, 0, 0, 0, 5122, 2124, 0, 0, 2045, 0, 0, 0, 0, 0, 5122, 0, 2140, 0, 0, 0, 0, 0,
  0, 0], 3, some .boolean, [5154, 5153, 49, 1001], 1, 1)
def hm_W_findBright : hx_M := (⟨"HueWar", "findBright", "()V"⟩, prog_1_method_57_code,
  [.bipush 0, .istore 1, .iload 1, .bipush 24, .if_icmp .ge 30, .aload 0, .getfield 1010, .iload 1, .bipush 4, .idiv, .iload 1, .bipush 4,
  .irem, .invokevirtual 123, .aload 0, .getfield 1014, .iload 1, .aload 0, .getfield 1001, .invokevirtual 172, .aload 0, .getfield 1010, .bipush 12, .invokevirtual 174,
  .bipush (-1), .ixor, .iand, .iastore, .iinc 1 1, .goto 2, .return_],
  [0, 1, 2, 3, 5, 8, 9, 12, 13, 14, 15, 16, 17, 18, 21, 22, 25, 26, 27, 30, 33, 34, 37, 39, 42, 43, 44, 45, 46, 49, 52],
  [0, 0, 0, 0, 0, 0, 2055, 0, 0, 0, 0, 0, 0, 4100, 0, 2059, 0, 0, 2046, 5086, 0, 2055, 0, 5094, 0, 0, 0, 0, 0, 0, 0], 2, none, [5158, 5157, 50, 1001], 1, 0)
def hm_W_fitting : hx_M := (⟨"HueWar", "fitting", "(I)I"⟩, prog_1_method_59_code,
  [.bipush 0, .istore 2, .bipush 0, .istore 3, .iload 3, .bipush 6, .if_icmp .ge 20, .aload 0, .iload 3, .iload 1, .invokevirtual 191, .ifCond .eq 18,
  .iload 2, .bipush 1, .iload 3, .ishl, .ior, .istore 2, .iinc 3 1, .goto 4, .iload 2, .ireturn],
  [0, 1, 2, 3, 4, 5, 7, 10, 11, 12, 13, 16, 19, 20, 21, 22, 23, 24, 25, 28, 31, 32],
  [0, 0, 0, 0, 0, 0, 0, 0, 0, 0, 5163, 0, 0, 0, 0, 0, 0, 0, 0, 0, 0, 0], 4, some .int, [5162, 5161, 51, 1001], 1, 1)
def hm_W_fits : hx_M := (⟨"HueWar", "fits", "(II)Z"⟩, prog_1_method_58_code,
  [.bipush 0, .istore 3, .iload 3, .iload 2, .if_icmp .ge 48, .bipush 4, .iload 1, .imul, .aload 0, .getfield 1000, .bipush 3, .iload 3,
  .imul, .bipush 1, .iadd, .invokevirtual 111, .iadd, .istore 4, .iload 4, .aload 0, .getfield 1014, .arraylength, .invokestatic 13, .ifCond .eq 44,
  .aload 0, .getfield 1014, .iload 4, .iaload, .aload 0, .getfield 1000, .bipush 3, .iload 3, .imul, .invokevirtual 111, .invokestatic 15, .aload 0,
  .getfield 1000, .bipush 3, .iload 3, .imul, .bipush 2, .iadd, .invokevirtual 111, .if_icmp .eq 46, .bipush 0, .ireturn, .iinc 3 1, .goto 2,
  .bipush 1, .ireturn],
  [0, 1, 2, 3, 4, 7, 8, 9, 10, 11, 14, 15, 16, 17, 18, 19, 22, 23, 25, 27, 28, 31, 32, 35, 38, 39, 42, 44, 45, 46, 49, 50, 51, 52, 55, 58, 59, 62, 63, 64,
  65, 66, 67, 70, 73, 74, 75, 78, 81, 82],
  [0, 0, 0, 0, 0, 0, 0, 0, 0, 2045, 0, 0, 0, 0, 0, 5122, 0, 0, 0, 0, 2059, 0, 2140, 0, 0, 2059, 0, 0, 0, 2045, 0, 0, 0, 5122, 4095, 0, 2045, 0, 0, 0,
  0, 0, 5122, 0, 0, 0, 0, 0, 0, 0], 5, some .boolean, [5166, 5165, 52, 1001], 1, 2)
def hm_W_bestShown : hx_M := (⟨"HueWar", "bestShown", "(I)I"⟩, prog_1_method_61_code,
  [.bipush 0, .istore 2, .bipush 7, .istore 3, .bipush 0, .istore 4, .iload 4, .bipush 48, .if_icmp .ge 35, .iload 4, .bipush 4, .idiv,
  .istore 5, .aload 0, .getfield 1001, .iload 5, .invokevirtual 14, .ifCond .eq 33, .aload 0, .iload 1, .iload 5, .iload 4, .bipush 4, .irem,
  .invokevirtual 193, .istore 6, .iload 6, .iload 3, .if_icmp .ge 33, .iload 6, .istore 3, .iload 4, .istore 2, .iinc 4 1, .goto 6, .iload 2,
  .ireturn],
  [0, 1, 2, 4, 5, 6, 8, 10, 12, 15, 17, 18, 19, 21, 22, 25, 27, 30, 33, 34, 35, 37, 39, 40, 41, 44, 46, 48, 49, 52, 54, 55, 57, 58, 61, 64, 65],
  [0, 0, 0, 0, 0, 0, 0, 0, 0, 0, 0, 0, 0, 0, 2046, 0, 4058, 0, 0, 0, 0, 0, 0, 0, 5171, 0, 0, 0, 0, 0, 0, 0, 0, 0, 0, 0, 0], 7, some .int, [5170, 5169, 53, 1001], 1, 1)
def hm_W_greaterPart : hx_M := (⟨"HueWar", "greaterPart", "(III)I"⟩, prog_1_method_60_code,
  [.bipush 0, .istore 4, .bipush 0, .istore 5, .iload 5, .bipush 6, .if_icmp .ge 26, .iload 4, .iload 1, .iload 5, .invokestatic 15, .aload 0,
  .getfield 1014, .bipush 4, .iload 5, .imul, .iload 3, .iadd, .iaload, .iload 2, .invokestatic 15, .iand, .iadd, .istore 4,
  .iinc 5 1, .goto 4, .iload 4, .iload 1, .invokestatic 92, .iload 4, .isub, .invokestatic 9992, .ireturn],
  [0, 1, 3, 4, 6, 8, 10, 13, 15, 16, 18, 21, 22, 25, 26, 28, 29, 30, 31, 32, 33, 36, 37, 38, 40, 43, 46, 48, 49, 52, 54, 55, 58],
  [0, 0, 0, 0, 0, 0, 0, 0, 0, 0, 4095, 0, 2059, 0, 0, 0, 0, 0, 0, 0, 4095, 0, 0, 0, 0, 0, 0, 0, 5011, 0, 0, 5175, 0], 6, some .int, [5174, 5173, 54, 1001], 1, 3)
def hm_W_count : hx_M := (⟨"HueWar", "count", "(I)I"⟩, prog_1_method_31_code,
  [.iload 1, .bipush 10, .isub, .bipush 12, .invokestatic 13, .ifCond .eq 13, .aload 0, .getfield 1001, .iload 1, .bipush 10, .isub, .invokevirtual 195,
  .ireturn, .iload 1, .bipush 100, .isub, .bipush 48, .invokestatic 13, .ifCond .eq 42, .iload 1, .bipush 100, .isub, .bipush 4, .idiv,
  .istore 2, .aload 0, .getfield 1001, .iload 2, .invokevirtual 17, .ifCond .eq 40, .aload 0, .getfield 1006, .iload 2, .iload 1, .bipush 100, .isub,
  .bipush 4, .irem, .invokevirtual 79, .goto 41, .bipush (-1), .ireturn, .iload 1, .bipush 200, .isub, .bipush 64, .invokestatic 13, .ifCond .eq 55,
  .aload 0, .getfield 1002, .iload 1, .bipush 200, .isub, .invokevirtual 129, .ireturn, .iload 1, .bipush 300, .isub, .bipush 64, .invokestatic 13,
  .ifCond .eq 68, .aload 0, .getfield 1006, .iload 1, .bipush 300, .isub, .invokevirtual 112, .ireturn, .iload 1, .tableswitch 98 (0) (6) #[70, 74, 78, 82, 86, 90, 94], .aload 0, .getfield 1001,
  .invokevirtual 172, .ireturn, .aload 0, .getfield 1001, .invokevirtual 196, .ireturn, .aload 0, .getfield 1003, .invokevirtual 52, .ireturn, .aload 0, .getfield 1000,
  .invokevirtual 25, .ireturn, .aload 0, .getfield 1006, .invokevirtual 197, .ireturn, .aload 0, .getfield 1006, .invokevirtual 120, .ireturn, .aload 0, .getfield 1006,
  .invokevirtual 106, .ireturn, .bipush (-1), .ireturn],
  [0, 1, 3, 4, 6, 9, 12, 13, 16, 17, 19, 20, 23, 24, 25, 27, 28, 30, 33, 36, 37, 39, 40, 41, 42, 43, 44, 47, 48, 51, 54, 55, 58, 59, 60, 62, 63, 64, 65, 68,
  71, 72, 73, 74, 77, 78, 80, 83, 86, 87, 90, 91, 94, 95, 98, 99, 100, 103, 104, 106, 109, 112, 113, 116, 117, 120, 121, 124, 125, 126, 168, 169, 172, 175, 176, 177, 180, 183, 184, 185,
  188, 191, 192, 193, 196, 199, 200, 201, 204, 207, 208, 209, 212, 215, 216, 217, 220, 223, 224, 225],
  [0, 0, 0, 0, 2140, 0, 0, 2046, 0, 0, 0, 5180, 0, 0, 0, 0, 0, 2140, 0, 0, 0, 0, 0, 0, 0, 0, 2046, 0, 2116, 0, 0, 2051, 0, 0, 0, 0, 0, 0, 5006, 0,
  0, 0, 0, 0, 0, 0, 2140, 0, 0, 2047, 0, 0, 0, 4129, 0, 0, 0, 0, 0, 2140, 0, 0, 2051, 0, 0, 0, 4049, 0, 0, 0, 0, 2046, 5086, 0, 0, 2046, 5184, 0, 0, 2048,
  3022, 0, 0, 2045, 2149, 0, 0, 2051, 5188, 0, 0, 2051, 5192, 0, 0, 2051, 4024, 0, 0, 0], 3, some .int, [5179, 5177, 5178, 1001], 1, 1)
def hm_P_parts : hx_M := (⟨"HueWar$Palette", "parts", "(I)I"⟩, prog_7_method_12_code,
  [.aload 0, .iload 1, .invokevirtual 18, .ifCond .eq 16, .bipush 100, .aload 0, .getfield 500, .iload 1, .iaload, .imul, .aload 0, .getfield 501,
  .iload 1, .iaload, .iadd, .goto 17, .bipush (-1), .ireturn],
  [0, 1, 2, 5, 8, 10, 11, 14, 15, 16, 17, 18, 21, 22, 23, 24, 27, 28],
  [0, 0, 2120, 0, 0, 0, 1053, 0, 0, 0, 0, 1054, 0, 0, 0, 0, 0, 0], 2, some .int, [5183, 5181, 5182, 1003], 1, 1)
def hm_P_mixed : hx_M := (⟨"HueWar$Palette", "mixed", "()I"⟩, prog_7_method_4_code,
  [.aload 0, .getfield 503, .ireturn],
  [0, 1, 4],
  [0, 1056, 0], 1, some .int, [5187, 5185, 5186, 1003], 1, 0)
def hm_S_draw : hx_M := (⟨"HueWar$State", "draw", "()I"⟩, prog_10_method_4_code,
  [.aload 0, .getfield 805, .ireturn],
  [0, 1, 4],
  [0, 1161, 0], 1, some .int, [5191, 5189, 5190, 1007], 1, 0)
def hm_M_init : hx_M := (⟨"HueWarModel", "<init>", "()V"⟩, prog_13_method_1_code,
  [.aload 0, .invokespecial 9999, .aload 0, .bipush 12, .newarray .int, .putfield 1103, .aload 0, .bipush 12, .newarray .int, .putfield 1104, .aload 0, .bipush 48,
  .newarray .int, .putfield 1105, .aload 0, .bipush 64, .newarray .int, .putfield 1106, .aload 0, .bipush 64, .newarray .int, .putfield 1107, .aload 0, .bipush 260,
  .newarray .byte, .putfield 1108, .aload 0, .bipush 260, .newarray .int, .putfield 1119, .aload 0, .bipush 260, .newarray .int, .putfield 1120, .aload 0, .bipush 16,
  .newarray .int, .putfield 1121, .aload 0, .bipush 16, .newarray .int, .putfield 1122, .aload 0, .bipush 16, .newarray .int, .putfield 1123, .aload 0, .bipush 16,
  .newarray .int, .putfield 1124, .aload 0, .bipush 260, .newarray .int, .putfield 1125, .aload 0, .bipush 16, .newarray .int, .putfield 1126, .aload 0, .bipush 16,
  .newarray .int, .putfield 1127, .aload 0, .bipush 16, .newarray .int, .putfield 1128, .aload 0, .bipush 16, .newarray .int, .putfield 1129, .aload 0, .bipush 260,
  .newarray .int, .putfield 1130, .aload 0, .bipush 10, .newarray .int, .putfield 1131, .aload 0, .bipush 13, .newarray .int, .putfield 1132, .aload 0, .bipush 8,
  .newarray .int, .putfield 1135, .aload 0, .bipush 8, .newarray .int, .putfield 1136, .aload 0, .bipush 8, .newarray .int, .putfield 1137, .aload 0, .bipush 8,
  .newarray .int, .putfield 1138, .aload 0, .bipush 8, .newarray .int, .putfield 1139, .aload 0, .bipush 16, .newarray .int, .putfield 1140, .aload 0, .bipush 16,
  .newarray .int, .putfield 1141, .aload 0, .bipush 16, .newarray .int, .putfield 1142, .aload 0, .bipush 16, .newarray .int, .putfield 1143, .aload 0, .bipush 16,
  .newarray .int, .putfield 1144, .aload 0, .bipush 16, .newarray .int, .putfield 1145, .aload 0, .bipush 48, .newarray .int, .putfield 1146, .aload 0, .bipush 96,
  .newarray .int, .putfield 1147, .aload 0, .bipush 48, .newarray .int, .putfield 1148, .aload 0, .bipush 96, .newarray .int, .putfield 1149, .aload 0, .bipush 64,
  .newarray .int, .putfield 1150, .aload 0, .bipush 64, .newarray .int, .putfield 1161, .aload 0, .bipush 64, .newarray .int, .putfield 1162, .aload 0, .bipush 72,
  .newarray .int, .putfield 1163, .aload 0, .bipush 144, .newarray .int, .putfield 1164, .aload 0, .bipush 144, .newarray .int, .putfield 1165, .aload 0, .bipush 144,
  .newarray .boolean, .putfield 1166, .aload 0, .bipush 64, .newarray .int, .putfield 1167, .aload 0, .bipush 1, .putfield 1101, .bipush 0, .istore 1, .iload 1,
  .bipush 12, .if_icmp .ge 189, .aload 0, .getfield 1103, .iload 1, .bipush (-1), .iastore, .iinc 1 1, .goto 179, .bipush 0, .istore 1, .iload 1,
  .bipush 64, .if_icmp .ge 206, .aload 0, .getfield 1106, .iload 1, .bipush 12, .iastore, .aload 0, .getfield 1107, .iload 1, .bipush 6, .iastore,
  .iinc 1 1, .goto 191, .return_],
  [0, 1, 4, 5, 7, 9, 12, 13, 15, 17, 20, 21, 23, 25, 28, 29, 31, 33, 36, 37, 39, 41, 44, 45, 48, 50, 53, 54, 57, 59, 62, 63, 66, 68, 71, 72, 74, 76, 79, 80,
  82, 84, 87, 88, 90, 92, 95, 96, 98, 100, 103, 104, 107, 109, 112, 113, 115, 117, 120, 121, 123, 125, 128, 129, 131, 133, 136, 137, 139, 141, 144, 145, 148, 150, 153, 154, 156, 158, 161, 162,
  164, 166, 169, 170, 172, 174, 177, 178, 180, 182, 185, 186, 188, 190, 193, 194, 196, 198, 201, 202, 204, 206, 209, 210, 212, 214, 217, 218, 220, 222, 225, 226, 228, 230, 233, 234, 236, 238, 241, 242,
  244, 246, 249, 250, 252, 254, 257, 258, 260, 262, 265, 266, 268, 270, 273, 274, 276, 278, 281, 282, 284, 286, 289, 290, 292, 294, 297, 298, 300, 302, 305, 306, 308, 310, 313, 314, 316, 318, 321, 322,
  325, 327, 330, 331, 334, 336, 339, 340, 343, 345, 348, 349, 351, 353, 356, 357, 358, 361, 362, 363, 364, 366, 369, 370, 373, 374, 375, 376, 379, 382, 383, 384, 385, 387, 390, 391, 394, 395, 397, 398,
  399, 402, 403, 405, 406, 409, 412],
  [0, 5198, 0, 0, 1046, 5202, 0, 0, 1046, 5203, 0, 0, 1046, 5204, 0, 0, 1046, 5205, 0, 0, 1046, 5206, 0, 0, 6164, 5207, 0, 0, 1046, 5218, 0, 0, 1046, 5219, 0, 0, 1046, 5220, 0, 0,
  1046, 5221, 0, 0, 1046, 5222, 0, 0, 1046, 5223, 0, 0, 1046, 5224, 0, 0, 1046, 5225, 0, 0, 1046, 5226, 0, 0, 1046, 5227, 0, 0, 1046, 5228, 0, 0, 1046, 5229, 0, 0, 1046, 5230, 0, 0,
  1046, 5231, 0, 0, 1046, 5234, 0, 0, 1046, 5235, 0, 0, 1046, 5236, 0, 0, 1046, 5237, 0, 0, 1046, 5238, 0, 0, 1046, 5239, 0, 0, 1046, 6000, 0, 0, 1046, 6001, 0, 0, 1046, 6002, 0, 0,
  1046, 6003, 0, 0, 1046, 6004, 0, 0, 1046, 6005, 0, 0, 1046, 6006, 0, 0, 1046, 6007, 0, 0, 1046, 6008, 0, 0, 1046, 6009, 0, 0, 1046, 6020, 0, 0, 1046, 6021, 0, 0, 1046, 6022, 0, 0,
  1046, 6023, 0, 0, 1046, 6024, 0, 0, 2044, 6025, 0, 0, 1046, 6026, 0, 0, 5200, 0, 0, 0, 0, 0, 0, 5202, 0, 0, 0, 0, 0, 0, 0, 0, 0, 0, 0, 5205, 0, 0, 0, 0,
  5206, 0, 0, 0, 0, 0, 0], 2, none, [5197, 5196, 1012], 2, 0)
def hm_M_colour : hx_M := (⟨"HueWarModel", "colour", "(III)Z"⟩, prog_13_method_12_code,
  [.iload 1, .bipush 0, .bipush 11, .invokestatic 200, .ifCond .eq 9, .aload 0, .iload 1, .invokevirtual 201, .ifCond .eq 11, .bipush 0, .ireturn, .iload 2,
  .bipush (-1), .if_icmp .ne 19, .iload 3, .bipush (-1), .if_icmp .ne 19, .bipush 1, .goto 20, .bipush 0, .istore 4, .iload 4, .ifCond .ne 42, .aload 0,
  .iload 2, .invokevirtual 201, .ifCond .eq 40, .aload 0, .iload 3, .invokevirtual 201, .ifCond .eq 40, .iload 2, .iload 3, .if_icmp .eq 40, .iload 2, .iload 1,
  .if_icmp .ge 40, .iload 3, .iload 1, .if_icmp .lt 42, .bipush 0, .ireturn, .aload 0, .aload 0, .getfield 1100, .bipush 1, .iload 1, .ishl,
  .ior, .putfield 1100, .aload 0, .getfield 1103, .iload 1, .iload 2, .iastore, .aload 0, .getfield 1104, .iload 1, .iload 3, .iastore,
  .bipush 1, .ireturn],
  [0, 1, 2, 4, 7, 10, 11, 12, 15, 18, 19, 20, 21, 22, 25, 26, 27, 30, 31, 34, 35, 37, 39, 42, 43, 44, 47, 50, 51, 52, 55, 58, 59, 60, 63, 64, 65, 68, 69, 70,
  73, 74, 75, 76, 77, 80, 81, 82, 83, 84, 87, 88, 91, 92, 93, 94, 95, 98, 99, 100, 101, 102],
  [0, 0, 0, 6169, 0, 0, 0, 6172, 0, 0, 0, 0, 0, 0, 0, 0, 0, 0, 0, 0, 0, 0, 0, 0, 0, 6172, 0, 0, 0, 6172, 0, 0, 0, 0, 0, 0, 0, 0, 0, 0,
  0, 0, 0, 0, 5199, 0, 0, 0, 0, 5199, 0, 5202, 0, 0, 0, 0, 5203, 0, 0, 0, 0, 0], 5, some .boolean, [6168, 6166, 6167, 1012], 1, 3)
def hm_M_in : hx_M := (⟨"HueWarModel", "in", "(III)Z"⟩, prog_13_method_2_code,
  [.iload 0, .iload 1, .if_icmp .lt 8, .iload 0, .iload 2, .if_icmp .gt 8, .bipush 1, .goto 9, .bipush 0, .ireturn],
  [0, 1, 2, 5, 6, 7, 10, 11, 14, 15],
  [0, 0, 0, 0, 0, 0, 0, 0, 0, 0], 3, some .boolean, [6171, 6170, 1012], 0, 3)
def hm_M_isColour : hx_M := (⟨"HueWarModel", "isColour", "(I)Z"⟩, prog_13_method_7_code,
  [.iload 1, .ifCond .lt 12, .iload 1, .bipush 12, .if_icmp .ge 12, .aload 0, .getfield 1100, .iload 1, .invokestatic 202, .ifCond .eq 12, .bipush 1, .goto 13,
  .bipush 0, .ireturn],
  [0, 1, 4, 5, 7, 10, 11, 14, 15, 18, 21, 22, 25, 26],
  [0, 0, 0, 0, 0, 0, 5199, 0, 6176, 0, 0, 0, 0, 0], 2, some .boolean, [6175, 6174, 55, 1012], 1, 1)
def hm_M_has : hx_M := (⟨"HueWarModel", "has", "(II)Z"⟩, prog_13_method_5_code,
  [.iload 0, .iload 1, .ishr, .bipush 1, .iand, .bipush 1, .if_icmp .ne 9, .bipush 1, .goto 10, .bipush 0, .ireturn],
  [0, 1, 2, 3, 4, 5, 6, 9, 10, 13, 14],
  [0, 0, 0, 0, 0, 0, 0, 0, 0, 0, 0], 2, some .boolean, [6178, 6177, 1012], 0, 2)
def hm_M_have : hx_M := (⟨"HueWarModel", "have", "(III)Z"⟩, prog_13_method_13_code,
  [.aload 0, .iload 1, .invokevirtual 204, .ifCond .eq 12, .iload 2, .invokestatic 205, .ifCond .eq 12, .iload 3, .bipush 0, .bipush 63, .invokestatic 200, .ifCond .ne 14,
  .bipush 0, .ireturn, .aload 0, .getfield 1105, .bipush 4, .iload 1, .imul, .iload 2, .iadd, .iload 3, .iastore, .bipush 1,
  .ireturn],
  [0, 1, 2, 5, 8, 9, 12, 15, 16, 17, 19, 22, 25, 26, 27, 28, 31, 32, 33, 34, 35, 36, 37, 38, 39],
  [0, 0, 6183, 0, 0, 6187, 0, 0, 0, 0, 6169, 0, 0, 0, 0, 5204, 0, 0, 0, 0, 0, 0, 0, 0, 0], 4, some .boolean, [6182, 6180, 6181, 1012], 1, 3)
def hm_M_isPlain : hx_M := (⟨"HueWarModel", "isPlain", "(I)Z"⟩, prog_13_method_9_code,
  [.aload 0, .iload 1, .invokevirtual 201, .ifCond .eq 12, .aload 0, .getfield 1103, .iload 1, .iaload, .bipush (-1), .if_icmp .ne 12, .bipush 1, .goto 13,
  .bipush 0, .ireturn],
  [0, 1, 2, 5, 8, 9, 12, 13, 14, 15, 18, 19, 22, 23],
  [0, 0, 6172, 0, 0, 5202, 0, 0, 0, 0, 0, 0, 0, 0], 2, some .boolean, [6186, 6185, 56, 1012], 1, 1)
def hm_M_isQuarter : hx_M := (⟨"HueWarModel", "isQuarter", "(I)Z"⟩, prog_13_method_11_code,
  [.iload 0, .ifCond .lt 7, .iload 0, .bipush 4, .if_icmp .ge 7, .bipush 1, .goto 8, .bipush 0, .ireturn],
  [0, 1, 4, 5, 6, 9, 10, 13, 14],
  [0, 0, 0, 0, 0, 0, 0, 0, 0], 1, some .boolean, [6189, 6188, 1012], 0, 1)
def hm_M_owner : hx_M := (⟨"HueWarModel", "owner", "(III)Z"⟩, prog_13_method_14_code,
  [.iload 1, .bipush 0, .bipush 7, .invokestatic 200, .ifCond .eq 15, .iload 2, .bipush 0, .bipush 7, .invokestatic 200, .ifCond .eq 15, .iload 3, .bipush 0,
  .bipush 6, .invokestatic 200, .ifCond .ne 17, .bipush 0, .ireturn, .aload 0, .getfield 1107, .bipush 8, .iload 2, .imul, .iload 1, .iadd,
  .iload 3, .iastore, .bipush 1, .ireturn],
  [0, 1, 2, 4, 7, 10, 11, 12, 14, 17, 20, 21, 22, 24, 27, 30, 31, 32, 33, 36, 38, 39, 40, 41, 42, 43, 44, 45],
  [0, 0, 0, 6169, 0, 0, 0, 0, 6169, 0, 0, 0, 0, 6169, 0, 0, 0, 0, 5206, 0, 0, 0, 0, 0, 0, 0, 0, 0], 4, some .boolean, [6193, 6191, 6192, 1012], 1, 3)
def hm_M_feed : hx_M := (⟨"HueWarModel", "feed", "(IIIII)I"⟩, prog_13_method_16_code,
  [.aload 0, .getfield 1109, .bipush 20, .iadd, .bipush 260, .if_icmp .le 8, .bipush (-1), .ireturn, .aload 0, .iload 1, .invokevirtual 208, .aload 0,
  .iload 2, .invokevirtual 208, .aload 0, .iload 3, .invokevirtual 208, .aload 0, .iload 4, .invokevirtual 208, .aload 0, .iload 5, .invokevirtual 208, .aload 0,
  .getfield 1109, .ireturn],
  [0, 1, 4, 6, 7, 10, 13, 14, 15, 16, 17, 20, 21, 22, 25, 26, 27, 30, 31, 33, 36, 37, 39, 42, 43, 46],
  [0, 5208, 0, 0, 0, 0, 0, 0, 0, 0, 6198, 0, 0, 6198, 0, 0, 6198, 0, 0, 6198, 0, 0, 6198, 0, 5208, 0], 6, some .int, [6197, 6195, 6196, 1012], 1, 5)
def hm_M_types : hx_M := (⟨"HueWarModel", "types", "(I)V"⟩, prog_13_method_15_code,
  [.bipush 3, .istore 2, .iload 2, .ifCond .lt 23, .aload 0, .getfield 1108, .aload 0, .getfield 1109, .iload 1, .bipush 8, .iload 2, .imul,
  .ishr, .i2b, .bastore, .aload 0, .aload 0, .getfield 1109, .bipush 1, .iadd, .putfield 1109, .iinc 2 (-1), .goto 2, .return_],
  [0, 1, 2, 3, 6, 7, 10, 11, 14, 15, 17, 18, 19, 20, 21, 22, 23, 24, 27, 28, 29, 32, 35, 38],
  [0, 0, 0, 0, 0, 5207, 0, 5208, 0, 0, 0, 0, 0, 0, 0, 0, 0, 5208, 0, 0, 5208, 0, 0, 0], 3, none, [6201, 6200, 57, 1012], 1, 1)
def hm_M_law : hx_M := (⟨"HueWarModel", "law", "(I)I"⟩, prog_13_method_38_code,
  [.iload 1, .bipush 1, .bipush 240, .invokestatic 200, .ifCond .eq 9, .iload 1, .aload 0, .getfield 1109, .if_icmp .le 11, .bipush (-1), .ireturn, .aload 0,
  .bipush 0, .putfield 1110, .aload 0, .iload 1, .putfield 1111, .aload 0, .bipush 0, .putfield 1115, .aload 0, .bipush 0, .putfield 1117, .aload 0,
  .invokevirtual 210, .istore 2, .iload 2, .ifCond .eq 45, .aload 0, .getfield 1110, .aload 0, .getfield 1111, .if_icmp .ge 45, .aload 0, .bipush 59, .invokevirtual 230,
  .ifCond .eq 42, .aload 0, .invokevirtual 210, .ifCond .eq 42, .bipush 1, .goto 43, .bipush 0, .istore 2, .goto 26, .aload 0, .bipush 0, .putfield 1109,
  .iload 2, .ifCond .ne 53, .aload 0, .getfield 1112, .ireturn, .aload 0, .aload 0, .getfield 1117, .putfield 1118, .bipush 0, .istore 3, .iload 3,
  .aload 0, .getfield 1115, .if_icmp .ge 73, .aload 0, .getfield 1125, .iload 3, .aload 0, .getfield 1119, .iload 3, .iaload, .iastore, .iinc 3 1,
  .goto 59, .bipush 0, .istore 3, .iload 3, .aload 0, .getfield 1117, .if_icmp .ge 113, .aload 0, .getfield 1126, .iload 3, .aload 0, .getfield 1121,
  .iload 3, .iaload, .iastore, .aload 0, .getfield 1127, .iload 3, .aload 0, .getfield 1122, .iload 3, .iaload, .iastore, .aload 0,
  .getfield 1128, .iload 3, .aload 0, .getfield 1123, .iload 3, .iaload, .iastore, .aload 0, .getfield 1129, .iload 3, .aload 0, .getfield 1124,
  .iload 3, .iaload, .iastore, .iinc 3 1, .goto 75, .aload 0, .getfield 1117, .ireturn],
  [0, 1, 2, 5, 8, 11, 12, 13, 16, 19, 20, 21, 22, 23, 26, 27, 28, 31, 32, 33, 36, 37, 38, 41, 42, 45, 46, 47, 50, 51, 54, 55, 58, 61, 62, 64, 67, 70, 71, 74,
  77, 78, 81, 82, 83, 86, 87, 88, 91, 92, 95, 96, 99, 100, 101, 102, 105, 108, 109, 110, 111, 112, 115, 118, 119, 122, 123, 124, 127, 128, 129, 130, 133, 136, 137, 138, 139, 140, 143, 146,
  147, 150, 151, 152, 155, 156, 157, 158, 159, 162, 163, 164, 167, 168, 169, 170, 171, 174, 175, 176, 179, 180, 181, 182, 183, 186, 187, 188, 191, 192, 193, 194, 197, 200, 201, 204],
  [0, 0, 0, 6169, 0, 0, 0, 5208, 0, 0, 0, 0, 0, 5209, 0, 0, 5210, 0, 0, 5214, 0, 0, 5216, 0, 6206, 0, 0, 0, 0, 5209, 0, 5210, 0, 0, 0, 7044, 0, 0, 6206, 0,
  0, 0, 0, 0, 0, 0, 0, 5208, 0, 0, 0, 5211, 0, 0, 0, 5216, 5217, 0, 0, 0, 0, 5214, 0, 0, 5224, 0, 0, 5218, 0, 0, 0, 0, 0, 0, 0, 0, 0, 5216, 0, 0,
  5225, 0, 0, 5220, 0, 0, 0, 0, 5226, 0, 0, 5221, 0, 0, 0, 0, 5227, 0, 0, 5222, 0, 0, 0, 0, 5228, 0, 0, 5223, 0, 0, 0, 0, 0, 0, 5216, 0], 4, some .int, [6205, 6203, 6204, 1012], 1, 1)
def hm_M_readsClause : hx_M := (⟨"HueWarModel", "readsClause", "()Z"⟩, prog_13_method_37_code,
  [.aload 0, .invokevirtual 211, .istore 1, .iload 1, .invokestatic 212, .ifCond .ne 12, .aload 0, .bipush 1, .aload 0, .getfield 1110, .invokevirtual 213, .ireturn,
  .aload 0, .getfield 1117, .bipush 16, .if_icmp .ne 22, .aload 0, .bipush 4, .aload 0, .getfield 1110, .invokevirtual 213, .ireturn, .aload 0, .getfield 1121,
  .aload 0, .getfield 1117, .iload 1, .iastore, .aload 0, .aload 0, .getfield 1110, .bipush 1, .iadd, .putfield 1110, .aload 0, .getfield 1122,
  .aload 0, .getfield 1117, .aload 0, .getfield 1115, .iastore, .aload 0, .bipush 0, .putfield 1114, .aload 0, .bipush 0, .putfield 1116, .iload 1,
  .bipush 115, .if_icmp .eq 58, .iload 1, .bipush 107, .if_icmp .eq 58, .aload 0, .invokevirtual 214, .ifCond .ne 58, .bipush 0, .ireturn, .aload 0, .getfield 1123,
  .aload 0, .getfield 1117, .aload 0, .getfield 1115, .iastore, .aload 0, .invokevirtual 225, .ifCond .ne 70, .bipush 0, .ireturn, .aload 0, .getfield 1124,
  .aload 0, .getfield 1117, .aload 0, .getfield 1115, .iastore, .aload 0, .aload 0, .getfield 1117, .bipush 1, .iadd, .putfield 1117, .bipush 1,
  .ireturn],
  [0, 1, 4, 5, 6, 9, 12, 13, 14, 15, 18, 21, 22, 23, 26, 28, 31, 32, 33, 34, 37, 40, 41, 42, 45, 46, 49, 50, 51, 52, 53, 56, 57, 58, 61, 62, 65, 66, 69, 70,
  73, 74, 75, 76, 79, 80, 81, 84, 85, 87, 90, 91, 93, 96, 97, 100, 103, 104, 105, 106, 109, 110, 113, 114, 117, 118, 119, 122, 125, 126, 127, 128, 131, 132, 135, 136, 139, 140, 141, 142,
  145, 146, 147, 150, 151],
  [0, 6210, 0, 0, 6214, 0, 0, 0, 0, 5209, 6217, 0, 0, 5216, 0, 0, 0, 0, 0, 5209, 6217, 0, 0, 5220, 0, 5216, 0, 0, 0, 0, 5209, 0, 0, 5209, 0, 5221, 0, 5216, 0, 5214,
  0, 0, 0, 5213, 0, 0, 5215, 0, 0, 0, 0, 0, 0, 0, 6221, 0, 0, 0, 0, 5222, 0, 5216, 0, 5214, 0, 0, 7024, 0, 0, 0, 0, 5223, 0, 5216, 0, 5214, 0, 0, 0, 5216,
  0, 0, 5216, 0, 0], 2, some .boolean, [6209, 6208, 58, 1012], 1, 0)
def hm_M_here : hx_M := (⟨"HueWarModel", "here", "()I"⟩, prog_13_method_17_code,
  [.aload 0, .getfield 1110, .aload 0, .getfield 1111, .if_icmp .ge 13, .aload 0, .getfield 1108, .aload 0, .getfield 1110, .baload, .bipush 255, .iand,
  .goto 14, .bipush (-1), .ireturn],
  [0, 1, 4, 5, 8, 11, 12, 15, 16, 19, 20, 23, 24, 27, 28],
  [0, 5209, 0, 5210, 0, 0, 5207, 0, 5209, 0, 0, 0, 0, 0, 0], 1, some .int, [6213, 6212, 59, 1012], 1, 0)
def hm_M_isClause : hx_M := (⟨"HueWarModel", "isClause", "(I)Z"⟩, prog_13_method_36_code,
  [.iload 0, .bipush 115, .if_icmp .eq 12, .iload 0, .bipush 107, .if_icmp .eq 12, .iload 0, .bipush 118, .if_icmp .eq 12, .iload 0, .bipush 98, .if_icmp .ne 14,
  .bipush 1, .goto 15, .bipush 0, .ireturn],
  [0, 1, 3, 6, 7, 9, 12, 13, 15, 18, 19, 21, 24, 25, 28, 29],
  [0, 0, 0, 0, 0, 0, 0, 0, 0, 0, 0, 0, 0, 0, 0, 0], 1, some .boolean, [6216, 6215, 1012], 0, 1)
def hm_M_wrongAt : hx_M := (⟨"HueWarModel", "wrongAt", "(II)Z"⟩, prog_13_method_19_code,
  [.aload 0, .bipush (-1000), .iload 1, .imul, .iload 2, .isub, .putfield 1112, .bipush 0, .ireturn],
  [0, 1, 4, 5, 6, 7, 8, 11, 12],
  [0, 0, 0, 0, 0, 0, 5211, 0, 0], 3, some .boolean, [6220, 6219, 60, 1012], 1, 2)
def hm_M_readsSum : hx_M := (⟨"HueWarModel", "readsSum", "()Z"⟩, prog_13_method_30_code,
  [.aload 0, .getfield 1116, .istore 1, .aload 0, .invokevirtual 215, .ifCond .ne 8, .bipush 0, .ireturn, .aload 0, .invokevirtual 211, .invokestatic 221, .istore 2,
  .iload 2, .bipush (-1), .if_icmp .eq 48, .aload 0, .iload 2, .bipush 4, .if_icmp .ge 21, .bipush 1, .goto 22, .bipush 0, .invokevirtual 222, .aload 0,
  .getfield 1120, .aload 0, .getfield 1116, .bipush 1048576, .iload 2, .imul, .iastore, .aload 0, .aload 0, .getfield 1116, .bipush 1, .iadd,
  .putfield 1116, .aload 0, .aload 0, .getfield 1110, .bipush 1, .iadd, .putfield 1110, .aload 0, .invokevirtual 215, .ifCond .ne 93, .bipush 0, .ireturn,
  .aload 0, .invokevirtual 211, .bipush 93, .if_icmp .ne 78, .aload 0, .iload 1, .invokevirtual 224, .ifCond .eq 78, .aload 0, .bipush 1, .invokevirtual 222, .aload 0,
  .aload 0, .getfield 1116, .bipush 1, .isub, .putfield 1116, .aload 0, .aload 0, .getfield 1114, .bipush 1, .isub, .putfield 1114, .aload 0,
  .aload 0, .getfield 1110, .bipush 1, .iadd, .putfield 1110, .goto 93, .aload 0, .iload 1, .invokevirtual 224, .ifCond .eq 88, .aload 0, .bipush 1,
  .aload 0, .getfield 1110, .invokevirtual 213, .ireturn, .aload 0, .bipush 1, .invokevirtual 222, .bipush 1, .ireturn, .goto 8],
  [0, 1, 4, 5, 6, 9, 12, 13, 14, 15, 18, 21, 22, 23, 24, 27, 28, 29, 30, 33, 34, 37, 38, 41, 42, 45, 46, 49, 51, 52, 53, 54, 55, 56, 59, 60, 61, 64, 65, 66,
  69, 70, 71, 74, 75, 78, 81, 82, 83, 84, 87, 89, 92, 93, 94, 97, 100, 101, 102, 105, 106, 107, 110, 111, 112, 115, 116, 117, 120, 121, 122, 125, 126, 127, 130, 131, 132, 135, 138, 139,
  140, 143, 146, 147, 148, 149, 152, 155, 156, 157, 158, 161, 162, 163],
  [0, 5215, 0, 0, 6225, 0, 0, 0, 0, 6210, 7009, 0, 0, 0, 0, 0, 0, 0, 0, 0, 0, 0, 7012, 0, 5219, 0, 5215, 6233, 0, 0, 0, 0, 0, 5215, 0, 0, 5215, 0, 0, 5209,
  0, 0, 5209, 0, 6225, 0, 0, 0, 0, 6210, 0, 0, 0, 0, 7020, 0, 0, 0, 7012, 0, 0, 5215, 0, 0, 5215, 0, 0, 5213, 0, 0, 5213, 0, 0, 5209, 0, 0, 5209, 0, 0, 0,
  7020, 0, 0, 0, 0, 5209, 6217, 0, 0, 0, 7012, 0, 0, 0], 3, some .boolean, [6224, 6223, 61, 1012], 1, 0)
def hm_M_readsFactor : hx_M := (⟨"HueWarModel", "readsFactor", "()Z"⟩, prog_13_method_28_code,
  [.aload 0, .invokevirtual 211, .bipush 91, .if_icmp .ne 10, .aload 0, .bipush 14, .invokevirtual 216, .ifCond .ne 0, .bipush 0, .ireturn, .aload 0, .invokevirtual 217,
  .ifCond .eq 25, .aload 0, .invokevirtual 218, .ifCond .ne 18, .bipush 0, .ireturn, .aload 0, .bipush 0, .aload 0, .getfield 1113, .invokevirtual 219, .bipush 1,
  .ireturn, .aload 0, .invokevirtual 211, .invokestatic 220, .istore 1, .iload 1, .bipush (-1), .if_icmp .ne 38, .aload 0, .bipush 1, .aload 0, .getfield 1110,
  .invokevirtual 213, .ireturn, .aload 0, .bipush 1, .iload 1, .invokevirtual 219, .aload 0, .aload 0, .getfield 1110, .bipush 1, .iadd, .putfield 1110,
  .bipush 1, .ireturn],
  [0, 1, 4, 6, 9, 10, 12, 15, 18, 19, 20, 21, 24, 27, 28, 31, 34, 35, 36, 37, 38, 39, 42, 45, 46, 47, 48, 51, 54, 55, 56, 57, 60, 61, 62, 63, 66, 69, 70, 71,
  72, 73, 76, 77, 78, 81, 82, 83, 86, 87],
  [0, 6210, 0, 0, 0, 0, 6229, 0, 0, 0, 0, 6234, 0, 0, 6238, 0, 0, 0, 0, 0, 0, 5212, 7002, 0, 0, 0, 6210, 7006, 0, 0, 0, 0, 0, 0, 0, 5209, 6217, 0, 0, 0,
  0, 7002, 0, 0, 5209, 0, 0, 5209, 0, 0], 2, some .boolean, [6228, 6227, 62, 1012], 1, 0)
def hm_M_opens : hx_M := (⟨"HueWarModel", "opens", "(I)Z"⟩, prog_13_method_23_code,
  [.aload 0, .getfield 1114, .bipush 6, .if_icmp .ne 10, .aload 0, .bipush 5, .aload 0, .getfield 1110, .invokevirtual 213, .ireturn, .aload 0, .aload 0,
  .getfield 1114, .bipush 1, .iadd, .putfield 1114, .aload 0, .getfield 1120, .aload 0, .getfield 1116, .bipush 1048576, .iload 1, .imul, .iastore,
  .aload 0, .aload 0, .getfield 1116, .bipush 1, .iadd, .putfield 1116, .aload 0, .aload 0, .getfield 1110, .bipush 1, .iadd, .putfield 1110,
  .bipush 1, .ireturn],
  [0, 1, 4, 6, 9, 10, 11, 12, 15, 18, 19, 20, 21, 24, 25, 26, 29, 30, 33, 34, 37, 39, 40, 41, 42, 43, 44, 47, 48, 49, 52, 53, 54, 57, 58, 59, 62, 63],
  [0, 5213, 0, 0, 0, 0, 0, 5209, 6217, 0, 0, 0, 5213, 0, 0, 5213, 0, 5219, 0, 5215, 6233, 0, 0, 0, 0, 0, 5215, 0, 0, 5215, 0, 0, 5209, 0, 0, 5209, 0, 0], 2, some .boolean, [6232, 6231, 63, 1012], 1, 1)
def hm_M_isDigit : hx_M := (⟨"HueWarModel", "isDigit", "()Z"⟩, prog_13_method_18_code,
  [.aload 0, .invokevirtual 211, .bipush 48, .if_icmp .lt 10, .aload 0, .invokevirtual 211, .bipush 57, .if_icmp .gt 10, .bipush 1, .goto 11, .bipush 0, .ireturn],
  [0, 1, 4, 6, 9, 10, 13, 15, 18, 19, 22, 23],
  [0, 6210, 0, 0, 0, 6210, 0, 0, 0, 0, 0, 0], 1, some .boolean, [6237, 6236, 64, 1012], 1, 0)
def hm_M_readsNumber : hx_M := (⟨"HueWarModel", "readsNumber", "()Z"⟩, prog_13_method_21_code,
  [.aload 0, .getfield 1110, .istore 1, .aload 0, .bipush 0, .putfield 1113, .aload 0, .invokevirtual 217, .ifCond .eq 39, .aload 0, .getfield 1110, .iload 1,
  .bipush 5, .iadd, .if_icmp .ne 21, .aload 0, .bipush 2, .aload 0, .getfield 1110, .invokevirtual 213, .ireturn, .aload 0, .bipush 10, .aload 0,
  .getfield 1113, .imul, .aload 0, .invokevirtual 211, .iadd, .bipush 48, .isub, .putfield 1113, .aload 0, .aload 0, .getfield 1110, .bipush 1,
  .iadd, .putfield 1110, .goto 6, .bipush 1, .ireturn],
  [0, 1, 4, 5, 6, 7, 10, 11, 14, 17, 18, 21, 22, 23, 24, 27, 28, 29, 30, 33, 36, 37, 38, 40, 41, 44, 45, 46, 49, 50, 52, 53, 56, 57, 58, 61, 62, 63, 66, 69,
  70],
  [0, 5209, 0, 0, 0, 5212, 0, 6234, 0, 0, 5209, 0, 0, 0, 0, 0, 0, 0, 5209, 6217, 0, 0, 0, 0, 5212, 0, 0, 6210, 0, 0, 0, 5212, 0, 0, 5209, 0, 0, 5209, 0, 0,
  0], 2, some .boolean, [7001, 7000, 65, 1012], 1, 0)
def hm_M_notes : hx_M := (⟨"HueWarModel", "notes", "(II)V"⟩, prog_13_method_22_code,
  [.aload 0, .getfield 1119, .aload 0, .getfield 1115, .bipush 1048576, .iload 1, .imul, .iload 2, .iadd, .iastore, .aload 0, .aload 0,
  .getfield 1115, .bipush 1, .iadd, .putfield 1115, .return_],
  [0, 1, 4, 5, 8, 10, 11, 12, 13, 14, 15, 16, 17, 20, 21, 22, 25],
  [0, 5218, 0, 5214, 6233, 0, 0, 0, 0, 0, 0, 0, 5214, 0, 0, 5214, 0], 3, none, [7005, 7004, 66, 1012], 1, 2)
def hm_M_factOf : hx_M := (⟨"HueWarModel", "factOf", "(I)I"⟩, prog_13_method_25_code,
  [.iload 0, .tableswitch 22 (97) (113) #[12, 14, 4, 8, 2, 22, 18, 22, 22, 22, 22, 22, 10, 16, 20, 22, 6], .bipush 0, .ireturn, .bipush 1, .ireturn, .bipush 2, .ireturn, .bipush 3, .ireturn, .bipush 4, .ireturn,
  .bipush 5, .ireturn, .bipush 6, .ireturn, .bipush 7, .ireturn, .bipush 8, .ireturn, .bipush 9, .ireturn, .bipush (-1), .ireturn],
  [0, 1, 84, 85, 86, 87, 88, 89, 90, 91, 92, 93, 94, 95, 96, 98, 99, 101, 102, 104, 105, 107, 108, 109],
  [0, 0, 0, 0, 0, 0, 0, 0, 0, 0, 0, 0, 0, 0, 0, 0, 0, 0, 0, 0, 0, 0, 0, 0], 1, some .int, [7008, 7007, 1012], 0, 1)
def hm_M_sumSign : hx_M := (⟨"HueWarModel", "sumSign", "(I)I"⟩, prog_13_method_26_code,
  [.iload 0, .bipush 43, .if_icmp .ne 5, .bipush 2, .goto 26, .iload 0, .bipush 45, .if_icmp .ne 10, .bipush 3, .goto 26, .iload 0, .bipush 42,
  .if_icmp .ne 15, .bipush 4, .goto 26, .iload 0, .bipush 47, .if_icmp .ne 20, .bipush 5, .goto 26, .iload 0, .bipush 37, .if_icmp .ne 25, .bipush 6,
  .goto 26, .bipush (-1), .ireturn],
  [0, 1, 3, 6, 7, 10, 11, 13, 16, 17, 20, 21, 23, 26, 27, 30, 31, 33, 36, 37, 40, 41, 43, 46, 48, 51, 52],
  [0, 0, 0, 0, 0, 0, 0, 0, 0, 0, 0, 0, 0, 0, 0, 0, 0, 0, 0, 0, 0, 0, 0, 0, 0, 0, 0], 1, some .int, [7011, 7010, 1012], 0, 1)
def hm_M_closesSums : hx_M := (⟨"HueWarModel", "closesSums", "(Z)V"⟩, prog_13_method_27_code,
  [.aload 0, .invokevirtual 223, .bipush 4, .if_icmp .lt 8, .aload 0, .invokevirtual 223, .bipush 6, .if_icmp .le 18, .iload 1, .ifCond .eq 30, .aload 0, .invokevirtual 223,
  .bipush 2, .if_icmp .eq 18, .aload 0, .invokevirtual 223, .bipush 3, .if_icmp .ne 30, .aload 0, .aload 0, .invokevirtual 223, .bipush 0, .invokevirtual 219, .aload 0,
  .aload 0, .getfield 1116, .bipush 1, .isub, .putfield 1116, .goto 0, .return_],
  [0, 1, 4, 5, 8, 9, 12, 14, 17, 18, 21, 22, 25, 26, 29, 30, 33, 34, 37, 38, 39, 42, 43, 46, 47, 48, 51, 52, 53, 56, 59],
  [0, 7016, 0, 0, 0, 7016, 0, 0, 0, 0, 0, 7016, 0, 0, 0, 7016, 0, 0, 0, 0, 7016, 0, 7002, 0, 0, 5215, 0, 0, 5215, 0, 0], 2, none, [7015, 7014, 67, 1012], 1, 1)
def hm_M_waitTop : hx_M := (⟨"HueWarModel", "waitTop", "()I"⟩, prog_13_method_24_code,
  [.aload 0, .getfield 1116, .ifCond .ne 5, .bipush (-1), .goto 14, .aload 0, .getfield 1120, .aload 0, .getfield 1116, .bipush 1, .isub, .iaload,
  .bipush 1048576, .idiv, .ireturn],
  [0, 1, 4, 7, 8, 11, 12, 15, 16, 19, 20, 21, 22, 24, 25],
  [0, 5215, 0, 0, 0, 0, 5219, 0, 5215, 0, 0, 0, 6233, 0, 0], 1, some .int, [7019, 7018, 68, 1012], 1, 0)
def hm_M_hasOpenSum : hx_M := (⟨"HueWarModel", "hasOpenSum", "(I)Z"⟩, prog_13_method_29_code,
  [.iload 1, .istore 2, .iload 2, .aload 0, .getfield 1116, .if_icmp .ge 18, .aload 0, .getfield 1120, .iload 2, .iaload, .bipush 1048576, .idiv,
  .bipush 14, .if_icmp .ne 16, .bipush 1, .ireturn, .iinc 2 1, .goto 2, .bipush 0, .ireturn],
  [0, 1, 2, 3, 4, 7, 10, 11, 14, 15, 16, 18, 19, 21, 24, 25, 26, 29, 32, 33],
  [0, 0, 0, 0, 5215, 0, 0, 5219, 0, 0, 6233, 0, 0, 0, 0, 0, 0, 0, 0, 0], 3, some .boolean, [7023, 7022, 69, 1012], 1, 1)
def hm_M_readsCondition : hx_M := (⟨"HueWarModel", "readsCondition", "()Z"⟩, prog_13_method_35_code,
  [.aload 0, .invokevirtual 211, .bipush 40, .if_icmp .eq 10, .aload 0, .bipush 1, .aload 0, .getfield 1110, .invokevirtual 213, .ireturn, .aload 0, .bipush 0,
  .putfield 1114, .aload 0, .bipush 0, .putfield 1116, .aload 0, .bipush 13, .invokevirtual 216, .ifCond .ne 22, .bipush 0, .ireturn, .aload 0, .invokevirtual 211,
  .bipush 33, .if_icmp .eq 30, .aload 0, .invokevirtual 211, .bipush 40, .if_icmp .ne 42, .aload 0, .aload 0, .invokevirtual 211, .bipush 33, .if_icmp .ne 37, .bipush 10,
  .goto 38, .bipush 13, .invokevirtual 216, .ifCond .ne 22, .bipush 0, .ireturn, .aload 0, .invokevirtual 226, .ifCond .ne 47, .bipush 0, .ireturn, .aload 0,
  .invokevirtual 211, .bipush 41, .if_icmp .ne 80, .aload 0, .bipush 1, .invokevirtual 228, .aload 0, .aload 0, .getfield 1116, .bipush 1, .isub, .putfield 1116,
  .aload 0, .aload 0, .getfield 1114, .bipush 1, .isub, .putfield 1114, .aload 0, .aload 0, .getfield 1110, .bipush 1, .iadd, .putfield 1110,
  .aload 0, .getfield 1116, .ifCond .ne 77, .bipush 1, .ireturn, .aload 0, .invokevirtual 227, .goto 47, .aload 0, .invokevirtual 211, .bipush 38, .if_icmp .eq 94,
  .aload 0, .invokevirtual 211, .bipush 124, .if_icmp .eq 94, .aload 0, .bipush 1, .aload 0, .getfield 1110, .invokevirtual 213, .ireturn, .aload 0, .aload 0,
  .invokevirtual 211, .bipush 124, .if_icmp .ne 101, .bipush 1, .goto 102, .bipush 0, .invokevirtual 228, .aload 0, .aload 0, .invokevirtual 211, .bipush 38, .if_icmp .ne 110,
  .bipush 11, .goto 111, .bipush 12, .invokevirtual 229, .goto 22],
  [0, 1, 4, 6, 9, 10, 11, 12, 15, 18, 19, 20, 21, 24, 25, 26, 29, 30, 32, 35, 38, 39, 40, 41, 44, 46, 49, 50, 53, 55, 58, 59, 60, 63, 65, 68, 70, 73, 75, 78,
  81, 82, 83, 84, 87, 90, 91, 92, 93, 96, 98, 101, 102, 103, 106, 107, 108, 111, 112, 113, 116, 117, 118, 121, 122, 123, 126, 127, 128, 131, 132, 133, 136, 137, 140, 143, 144, 145, 146, 149,
  152, 153, 156, 158, 161, 162, 165, 167, 170, 171, 172, 173, 176, 179, 180, 181, 182, 185, 187, 190, 191, 194, 195, 198, 199, 200, 203, 205, 208, 210, 213, 215, 218],
  [0, 6210, 0, 0, 0, 0, 0, 5209, 6217, 0, 0, 0, 5213, 0, 0, 5215, 0, 0, 6229, 0, 0, 0, 0, 6210, 0, 0, 0, 6210, 0, 0, 0, 0, 6210, 0, 0, 0, 0, 0, 6229, 0,
  0, 0, 0, 7028, 0, 0, 0, 0, 6210, 0, 0, 0, 0, 7036, 0, 0, 5215, 0, 0, 5215, 0, 0, 5213, 0, 0, 5213, 0, 0, 5209, 0, 0, 5209, 0, 5215, 0, 0, 0, 0, 7032, 0,
  0, 6210, 0, 0, 0, 6210, 0, 0, 0, 0, 0, 5209, 6217, 0, 0, 0, 6210, 0, 0, 0, 0, 0, 7036, 0, 0, 6210, 0, 0, 0, 0, 0, 7040, 0], 1, some .boolean, [7027, 7026, 70, 1012], 1, 0)
def hm_M_readsCompared : hx_M := (⟨"HueWarModel", "readsCompared", "()Z"⟩, prog_13_method_34_code,
  [.aload 0, .invokevirtual 214, .ifCond .ne 5, .bipush 0, .ireturn, .aload 0, .invokevirtual 211, .bipush 60, .if_icmp .ne 11, .bipush 7, .goto 24, .aload 0,
  .invokevirtual 211, .bipush 62, .if_icmp .ne 17, .bipush 8, .goto 24, .aload 0, .invokevirtual 211, .bipush 61, .if_icmp .ne 23, .bipush 9, .goto 24, .bipush (-1),
  .istore 1, .iload 1, .bipush (-1), .if_icmp .ne 34, .aload 0, .bipush 1, .aload 0, .getfield 1110, .invokevirtual 213, .ireturn, .aload 0, .aload 0,
  .getfield 1110, .bipush 1, .iadd, .putfield 1110, .aload 0, .invokevirtual 214, .ifCond .ne 45, .bipush 0, .ireturn, .aload 0, .iload 1, .bipush 0,
  .invokevirtual 219, .aload 0, .invokevirtual 227, .bipush 1, .ireturn],
  [0, 1, 4, 7, 8, 9, 10, 13, 15, 18, 20, 23, 24, 27, 29, 32, 34, 37, 38, 41, 43, 46, 48, 51, 52, 53, 54, 55, 58, 59, 60, 61, 64, 67, 68, 69, 70, 73, 74, 75,
  78, 79, 82, 85, 86, 87, 88, 89, 90, 93, 94, 97, 98],
  [0, 6221, 0, 0, 0, 0, 6210, 0, 0, 0, 0, 0, 6210, 0, 0, 0, 0, 0, 6210, 0, 0, 0, 0, 0, 0, 0, 0, 0, 0, 0, 0, 5209, 6217, 0, 0, 0, 5209, 0, 0, 5209,
  0, 6221, 0, 0, 0, 0, 0, 0, 7002, 0, 7032, 0, 0], 2, some .boolean, [7031, 7030, 71, 1012], 1, 0)
def hm_M_endsPiece : hx_M := (⟨"HueWarModel", "endsPiece", "()V"⟩, prog_13_method_31_code,
  [.aload 0, .invokevirtual 223, .bipush 10, .if_icmp .ne 21, .aload 0, .bipush 10, .bipush 0, .invokevirtual 219, .aload 0, .aload 0, .getfield 1116, .bipush 1,
  .isub, .putfield 1116, .aload 0, .aload 0, .getfield 1114, .bipush 1, .isub, .putfield 1114, .goto 0, .return_],
  [0, 1, 4, 6, 9, 10, 12, 13, 16, 17, 18, 21, 22, 23, 26, 27, 28, 31, 32, 33, 36, 39],
  [0, 7016, 0, 0, 0, 0, 0, 7002, 0, 0, 5215, 0, 0, 5215, 0, 0, 5213, 0, 0, 5213, 0, 0], 1, none, [7035, 7034, 72, 1012], 1, 0)
def hm_M_lands : hx_M := (⟨"HueWarModel", "lands", "(Z)V"⟩, prog_13_method_32_code,
  [.aload 0, .invokevirtual 223, .bipush 11, .if_icmp .eq 10, .iload 1, .ifCond .eq 42, .aload 0, .invokevirtual 223, .bipush 12, .if_icmp .ne 42, .aload 0, .getfield 1120,
  .aload 0, .getfield 1116, .bipush 1, .isub, .iaload, .bipush 1048576, .irem, .istore 2, .aload 0, .getfield 1119, .iload 2, .bipush 1048576,
  .aload 0, .getfield 1119, .iload 2, .iaload, .bipush 1048576, .idiv, .imul, .aload 0, .getfield 1115, .iadd, .iastore, .aload 0,
  .aload 0, .getfield 1116, .bipush 1, .isub, .putfield 1116, .goto 0, .return_],
  [0, 1, 4, 6, 9, 10, 13, 14, 17, 19, 22, 23, 26, 27, 30, 31, 32, 33, 35, 36, 37, 38, 41, 42, 44, 45, 48, 49, 50, 52, 53, 54, 55, 58, 59, 60, 61, 62, 65, 66,
  67, 70, 73],
  [0, 7016, 0, 0, 0, 0, 0, 7016, 0, 0, 0, 5219, 0, 5215, 0, 0, 0, 6233, 0, 0, 0, 5218, 0, 6233, 0, 5218, 0, 0, 6233, 0, 0, 0, 5214, 0, 0, 0, 0, 5215, 0, 0,
  5215, 0, 0], 3, none, [7039, 7038, 73, 1012], 1, 1)
def hm_M_jumps : hx_M := (⟨"HueWarModel", "jumps", "(I)V"⟩, prog_13_method_33_code,
  [.aload 0, .getfield 1120, .aload 0, .getfield 1116, .bipush 1048576, .iload 1, .imul, .aload 0, .getfield 1115, .iadd, .iastore, .aload 0,
  .aload 0, .getfield 1116, .bipush 1, .iadd, .putfield 1116, .aload 0, .iload 1, .bipush 0, .invokevirtual 219, .aload 0, .aload 0, .getfield 1110,
  .bipush 1, .iadd, .putfield 1110, .return_],
  [0, 1, 4, 5, 8, 10, 11, 12, 13, 16, 17, 18, 19, 20, 23, 24, 25, 28, 29, 30, 31, 34, 35, 36, 39, 40, 41, 44],
  [0, 5219, 0, 5215, 6233, 0, 0, 0, 5214, 0, 0, 0, 0, 5215, 0, 0, 5215, 0, 0, 0, 7002, 0, 0, 5209, 0, 0, 5209, 0], 2, none, [7043, 7042, 74, 1012], 1, 1)
def hm_M_takes : hx_M := (⟨"HueWarModel", "takes", "(I)Z"⟩, prog_13_method_20_code,
  [.aload 0, .invokevirtual 211, .iload 1, .if_icmp .eq 10, .aload 0, .bipush 1, .aload 0, .getfield 1110, .invokevirtual 213, .ireturn, .aload 0, .aload 0,
  .getfield 1110, .bipush 1, .iadd, .putfield 1110, .bipush 1, .ireturn],
  [0, 1, 4, 5, 8, 9, 10, 11, 14, 17, 18, 19, 20, 23, 24, 25, 28, 29],
  [0, 6210, 0, 0, 0, 0, 0, 5209, 6217, 0, 0, 0, 5209, 0, 0, 5209, 0, 0], 2, some .boolean, [7047, 7046, 75, 1012], 1, 1)
def hm_M_sees : hx_M := (⟨"HueWarModel", "sees", "(III)I"⟩, prog_13_method_47_code,
  [.iload 1, .invokestatic 232, .ifCond .eq 10, .aload 0, .iload 2, .invokevirtual 201, .ifCond .eq 10, .iload 3, .invokestatic 205, .ifCond .ne 12, .bipush (-1), .ireturn,
  .aload 0, .iload 1, .iload 3, .invokevirtual 233, .iload 2, .invokestatic 202, .ifCond .eq 21, .bipush 1, .goto 22, .bipush 0, .ireturn],
  [0, 1, 4, 7, 8, 9, 12, 15, 16, 19, 22, 23, 24, 25, 26, 27, 30, 31, 34, 37, 38, 41, 42],
  [0, 7052, 0, 0, 0, 6172, 0, 0, 6187, 0, 0, 0, 0, 0, 0, 7055, 0, 6176, 0, 0, 0, 0, 0], 4, some .int, [7051, 7049, 7050, 1012], 1, 3)
def hm_M_isEmpire : hx_M := (⟨"HueWarModel", "isEmpire", "(I)Z"⟩, prog_13_method_10_code,
  [.iload 0, .ifCond .lt 7, .iload 0, .bipush 6, .if_icmp .ge 7, .bipush 1, .goto 8, .bipush 0, .ireturn],
  [0, 1, 4, 5, 7, 10, 11, 14, 15],
  [0, 0, 0, 0, 0, 0, 0, 0, 0], 1, some .boolean, [7054, 7053, 1012], 0, 1)
def hm_M_seenBy : hx_M := (⟨"HueWarModel", "seenBy", "(II)I"⟩, prog_13_method_44_code,
  [.bipush 0, .istore 3, .bipush 0, .istore 4, .iload 4, .bipush 12, .if_icmp .ge 22, .aload 0, .iload 1, .iload 4, .iload 2, .iload 3,
  .invokevirtual 234, .ifCond .eq 20, .iload 3, .bipush 1, .iload 4, .ishl, .ior, .istore 3, .iinc 4 1, .goto 4, .iload 3, .ireturn],
  [0, 1, 2, 3, 5, 7, 9, 12, 13, 14, 16, 17, 18, 21, 24, 25, 26, 28, 29, 30, 31, 34, 37, 38],
  [0, 0, 0, 0, 0, 0, 0, 0, 0, 0, 0, 0, 7059, 0, 0, 0, 0, 0, 0, 0, 0, 0, 0, 0], 5, some .int, [7058, 7057, 76, 1012], 1, 2)
def hm_M_isSeen : hx_M := (⟨"HueWarModel", "isSeen", "(IIII)Z"⟩, prog_13_method_45_code,
  [.aload 0, .iload 2, .invokevirtual 235, .ifCond .ne 23, .aload 0, .iload 2, .invokevirtual 204, .ifCond .eq 21, .aload 0, .getfield 1105, .bipush 4, .iload 2,
  .imul, .iload 3, .iadd, .iaload, .iload 1, .invokestatic 202, .ifCond .eq 21, .bipush 1, .goto 22, .bipush 0, .ireturn, .aload 0,
  .iload 1, .iload 2, .iload 3, .invokevirtual 236, .aload 0, .getfield 1131, .bipush 5, .iload 4, .aload 0, .getfield 1103, .iload 2, .iaload,
  .invokestatic 202, .ifCond .eq 40, .bipush 1, .goto 41, .bipush 0, .iastore, .aload 0, .getfield 1131, .bipush 6, .iload 4, .aload 0, .getfield 1104,
  .iload 2, .iaload, .invokestatic 202, .ifCond .eq 54, .bipush 1, .goto 55, .bipush 0, .iastore, .aload 0, .bipush 115, .iload 4, .aload 0,
  .getfield 1103, .iload 2, .iaload, .invokestatic 202, .ifCond .eq 74, .iload 4, .aload 0, .getfield 1104, .iload 2, .iaload, .invokestatic 202, .ifCond .eq 74,
  .bipush 1, .goto 75, .bipush 0, .invokevirtual 238, .ireturn],
  [0, 1, 2, 5, 8, 9, 10, 13, 16, 17, 20, 21, 22, 23, 24, 25, 26, 27, 30, 33, 34, 37, 38, 39, 40, 41, 42, 43, 46, 47, 50, 51, 53, 54, 57, 58, 59, 62, 65, 66,
  69, 70, 71, 72, 75, 77, 79, 80, 83, 84, 85, 88, 91, 92, 95, 96, 97, 98, 100, 102, 103, 106, 107, 108, 111, 114, 116, 117, 120, 121, 122, 125, 128, 129, 132, 133, 136],
  [0, 0, 7063, 0, 0, 0, 6183, 0, 0, 5204, 0, 0, 0, 0, 0, 0, 0, 6176, 0, 0, 0, 0, 0, 0, 0, 0, 0, 7067, 0, 5230, 0, 0, 0, 5202, 0, 0, 6176, 0, 0, 0,
  0, 0, 0, 5230, 0, 0, 0, 5203, 0, 0, 6176, 0, 0, 0, 0, 0, 0, 0, 0, 0, 5202, 0, 0, 6176, 0, 0, 0, 5203, 0, 0, 6176, 0, 0, 0, 0, 7074, 0], 5, some .boolean, [7062, 7061, 77, 1012], 1, 4)
def hm_M_isMixed : hx_M := (⟨"HueWarModel", "isMixed", "(I)Z"⟩, prog_13_method_8_code,
  [.aload 0, .iload 1, .invokevirtual 201, .ifCond .eq 12, .aload 0, .getfield 1103, .iload 1, .iaload, .bipush (-1), .if_icmp .eq 12, .bipush 1, .goto 13,
  .bipush 0, .ireturn],
  [0, 1, 2, 5, 8, 9, 12, 13, 14, 15, 18, 19, 22, 23],
  [0, 0, 6172, 0, 0, 5202, 0, 0, 0, 0, 0, 0, 0, 0], 2, some .boolean, [7066, 7065, 78, 1012], 1, 1)
def hm_M_feels : hx_M := (⟨"HueWarModel", "feels", "(III)V"⟩, prog_13_method_43_code,
  [.bipush 0, .istore 4, .iload 4, .bipush 10, .if_icmp .ge 12, .aload 0, .getfield 1131, .iload 4, .bipush 0, .iastore, .iinc 4 1, .goto 2,
  .aload 0, .getfield 1131, .bipush 0, .iload 1, .iastore, .aload 0, .getfield 1131, .bipush 1, .iload 2, .iastore, .aload 0, .getfield 1131,
  .bipush 2, .iload 3, .iastore, .aload 0, .getfield 1131, .bipush 3, .aload 0, .getfield 1102, .iastore, .aload 0, .getfield 1131, .bipush 4,
  .aload 0, .iload 2, .invokevirtual 235, .ifCond .eq 42, .bipush 1, .goto 43, .bipush 0, .iastore, .aload 0, .getfield 1131, .bipush 8, .aload 0,
  .iload 2, .invokevirtual 235, .ifCond .eq 53, .bipush 0, .goto 62, .aload 0, .getfield 1105, .bipush 4, .iload 2, .imul, .iload 3, .iadd,
  .iaload, .invokestatic 237, .iastore, .return_],
  [0, 1, 3, 5, 7, 10, 11, 14, 16, 17, 18, 21, 24, 25, 28, 29, 30, 31, 32, 35, 36, 37, 38, 39, 42, 43, 44, 45, 46, 49, 50, 51, 54, 55, 56, 59, 60, 61, 62, 65,
  68, 69, 72, 73, 74, 75, 78, 80, 81, 82, 85, 88, 89, 92, 93, 96, 97, 98, 99, 100, 101, 102, 105, 106],
  [0, 0, 0, 0, 0, 0, 5230, 0, 0, 0, 0, 0, 0, 5230, 0, 0, 0, 0, 5230, 0, 0, 0, 0, 5230, 0, 0, 0, 0, 5230, 0, 0, 5201, 0, 0, 5230, 0, 0, 0, 7063, 0,
  0, 0, 0, 0, 0, 5230, 0, 0, 0, 7063, 0, 0, 0, 0, 5204, 0, 0, 0, 0, 0, 0, 7071, 0, 0], 5, none, [7070, 7069, 79, 1012], 1, 3)
def hm_M_bits : hx_M := (⟨"HueWarModel", "bits", "(I)I"⟩, prog_13_method_6_code,
  [.bipush 0, .istore 1, .bipush 0, .istore 2, .iload 2, .bipush 12, .if_icmp .ge 17, .iload 1, .iload 0, .iload 2, .ishr, .bipush 1,
  .iand, .iadd, .istore 1, .iinc 2 1, .goto 4, .iload 1, .ireturn],
  [0, 1, 2, 3, 4, 5, 7, 10, 11, 12, 13, 14, 15, 16, 17, 18, 21, 24, 25],
  [0, 0, 0, 0, 0, 0, 0, 0, 0, 0, 0, 0, 0, 0, 0, 0, 0, 0, 0], 3, some .int, [7073, 7072, 1012], 0, 1)
def hm_M_holds : hx_M := (⟨"HueWarModel", "holds", "(IZ)Z"⟩, prog_13_method_42_code,
  [.iload 2, .istore 3, .bipush 0, .istore 4, .iload 4, .aload 0, .getfield 1118, .if_icmp .ge 33, .aload 0, .getfield 1126, .iload 4, .iaload,
  .iload 1, .if_icmp .eq 15, .goto 31, .aload 0, .aload 0, .getfield 1128, .iload 4, .iaload, .aload 0, .getfield 1129, .iload 4, .iaload,
  .invokevirtual 239, .bipush 1, .if_icmp .ne 29, .bipush 1, .ireturn, .bipush 0, .istore 3, .iinc 4 1, .goto 4, .iload 3, .ireturn],
  [0, 1, 2, 3, 5, 7, 8, 11, 14, 15, 18, 20, 21, 22, 25, 28, 29, 30, 33, 35, 36, 37, 40, 42, 43, 46, 47, 50, 51, 52, 53, 54, 57, 60, 61],
  [0, 0, 0, 0, 0, 0, 5217, 0, 0, 5225, 0, 0, 0, 0, 0, 0, 0, 5227, 0, 0, 0, 5228, 0, 0, 7078, 0, 0, 0, 0, 0, 0, 0, 0, 0, 0], 5, some .boolean, [7077, 7076, 80, 1012], 1, 2)
def hm_M_comesTo : hx_M := (⟨"HueWarModel", "comesTo", "(II)I"⟩, prog_13_method_40_code,
  [.bipush 0, .istore 3, .bipush 260, .iload 1, .bipush 260, .idiv, .imul, .istore 4, .iload 1, .istore 5, .iload 5, .iload 2,
  .if_icmp .ge 136, .aload 0, .getfield 1125, .iload 5, .iaload, .bipush 1048576, .idiv, .istore 6, .aload 0, .getfield 1125, .iload 5, .iaload,
  .bipush 1048576, .irem, .istore 7, .iload 5, .bipush 1, .iadd, .istore 5, .iload 6, .ifCond .eq 36, .iload 6, .bipush 1, .if_icmp .ne 53,
  .aload 0, .getfield 1130, .iload 3, .iload 6, .ifCond .ne 43, .iload 7, .goto 47, .aload 0, .getfield 1131, .iload 7, .iaload, .iastore,
  .iload 3, .bipush 1, .iadd, .istore 3, .goto 135, .iload 6, .bipush 10, .if_icmp .ne 71, .aload 0, .getfield 1130, .iload 3, .bipush 1,
  .isub, .bipush 1, .aload 0, .getfield 1130, .iload 3, .bipush 1, .isub, .iaload, .isub, .iastore, .goto 135, .iload 6,
  .bipush 11, .if_icmp .eq 77, .iload 6, .bipush 12, .if_icmp .ne 100, .aload 0, .getfield 1130, .iload 3, .bipush 1, .isub, .iaload, .iload 6,
  .bipush 12, .if_icmp .ne 88, .bipush 1, .goto 89, .bipush 0, .if_icmp .ne 95, .iload 4, .iload 7, .iadd, .istore 5, .goto 135, .iload 3,
  .bipush 1, .isub, .istore 3, .goto 135, .iload 3, .bipush 1, .isub, .istore 3, .iload 6, .bipush 5, .if_icmp .eq 110, .iload 6,
  .bipush 6, .if_icmp .ne 117, .aload 0, .getfield 1130, .iload 3, .iaload, .ifCond .ne 117, .bipush 0, .ireturn, .aload 0, .getfield 1130, .iload 3,
  .bipush 1, .isub, .iload 6, .aload 0, .getfield 1130, .iload 3, .bipush 1, .isub, .iaload, .aload 0, .getfield 1130, .iload 3,
  .iaload, .invokestatic 240, .iastore, .goto 10, .aload 0, .getfield 1130, .bipush 0, .iaload, .ireturn],
  [0, 1, 2, 5, 6, 9, 10, 11, 13, 14, 16, 18, 19, 22, 23, 26, 28, 29, 31, 32, 34, 35, 38, 40, 41, 43, 44, 46, 48, 49, 50, 52, 54, 57, 59, 60, 63, 64, 67, 68,
  70, 73, 75, 78, 79, 82, 84, 85, 86, 87, 88, 89, 90, 93, 95, 97, 100, 101, 104, 105, 106, 107, 108, 109, 112, 113, 114, 115, 116, 117, 118, 121, 123, 125, 128, 130, 132, 135, 136, 139,
  140, 141, 142, 143, 145, 147, 150, 151, 154, 155, 158, 160, 162, 163, 165, 168, 169, 170, 171, 172, 175, 176, 177, 178, 179, 181, 182, 185, 187, 189, 192, 193, 196, 197, 198, 201, 202, 203, 204, 207,
  208, 209, 210, 212, 213, 216, 217, 218, 219, 220, 221, 224, 225, 226, 229, 230, 233, 234, 237, 238, 239],
  [0, 0, 0, 0, 0, 0, 0, 0, 0, 0, 0, 0, 0, 0, 5224, 0, 0, 6233, 0, 0, 0, 5224, 0, 0, 6233, 0, 0, 0, 0, 0, 0, 0, 0, 0, 0, 0, 0, 5229, 0, 0,
  0, 0, 0, 0, 5230, 0, 0, 0, 0, 0, 0, 0, 0, 0, 0, 0, 0, 5229, 0, 0, 0, 0, 0, 5229, 0, 0, 0, 0, 0, 0, 0, 0, 0, 0, 0, 0, 0, 0, 5229, 0,
  0, 0, 0, 0, 0, 0, 0, 0, 0, 0, 0, 0, 0, 0, 0, 0, 0, 0, 0, 0, 0, 0, 0, 0, 0, 0, 0, 0, 0, 0, 0, 5229, 0, 0, 0, 0, 0, 0, 5229, 0,
  0, 0, 0, 0, 5229, 0, 0, 0, 0, 0, 5229, 0, 0, 7082, 0, 0, 0, 5229, 0, 0, 0], 8, some .int, [7081, 7080, 81, 1012], 1, 2)
def hm_M_reckon : hx_M := (⟨"HueWarModel", "reckon", "(III)I"⟩, prog_13_method_39_code,
  [.iload 0, .tableswitch 36 (2) (8) #[2, 6, 10, 14, 18, 22, 29], .iload 1, .iload 2, .iadd, .ireturn, .iload 1, .iload 2, .isub, .ireturn, .iload 1, .iload 2,
  .imul, .ireturn, .iload 1, .iload 2, .idiv, .ireturn, .iload 1, .iload 2, .irem, .ireturn, .iload 1, .iload 2,
  .if_icmp .ge 27, .bipush 1, .goto 28, .bipush 0, .ireturn, .iload 1, .iload 2, .if_icmp .le 34, .bipush 1, .goto 35, .bipush 0, .ireturn,
  .iload 1, .iload 2, .if_icmp .ne 41, .bipush 1, .goto 42, .bipush 0, .ireturn],
  [0, 1, 44, 45, 46, 47, 48, 49, 50, 51, 52, 53, 54, 55, 56, 57, 58, 59, 60, 61, 62, 63, 64, 65, 66, 69, 70, 73, 74, 75, 76, 77, 80, 81, 84, 85, 86, 87, 88, 91,
  92, 95, 96],
  [0, 0, 0, 0, 0, 0, 0, 0, 0, 0, 0, 0, 0, 0, 0, 0, 0, 0, 0, 0, 0, 0, 0, 0, 0, 0, 0, 0, 0, 0, 0, 0, 0, 0, 0, 0, 0, 0, 0, 0,
  0, 0, 0], 3, some .int, [7084, 7083, 1012], 0, 3)
def hm_M_appears : hx_M := (⟨"HueWarModel", "appears", "(III)I"⟩, prog_13_method_48_code,
  [.iload 1, .invokestatic 232, .ifCond .eq 13, .iload 2, .bipush 12, .if_icmp .eq 10, .aload 0, .iload 2, .invokevirtual 201, .ifCond .eq 13, .iload 3, .invokestatic 205,
  .ifCond .ne 15, .bipush (-1), .ireturn, .aload 0, .iload 1, .iload 3, .invokevirtual 242, .aload 0, .getfield 1132, .iload 2, .iaload, .ireturn],
  [0, 1, 4, 7, 8, 10, 13, 14, 15, 18, 21, 22, 25, 28, 29, 30, 31, 32, 33, 36, 37, 40, 41, 42],
  [0, 7052, 0, 0, 0, 0, 0, 0, 6172, 0, 0, 6187, 0, 0, 0, 0, 0, 0, 7089, 0, 5231, 0, 0, 0], 4, some .int, [7088, 7086, 7087, 1012], 1, 3)
def hm_M_laysAs : hx_M := (⟨"HueWarModel", "laysAs", "(II)V"⟩, prog_13_method_46_code,
  [.aload 0, .iload 1, .iload 2, .invokevirtual 233, .istore 3, .aload 0, .getfield 1132, .bipush 12, .bipush 12, .iastore, .bipush 0, .istore 4,
  .iload 4, .bipush 12, .if_icmp .ge 65, .aload 0, .getfield 1132, .iload 4, .iload 3, .iload 4, .invokestatic 202, .ifCond .eq 24, .iload 4, .goto 25,
  .bipush 12, .iastore, .iload 3, .iload 4, .invokestatic 202, .ifCond .ne 63, .aload 0, .iload 4, .invokevirtual 235, .ifCond .ne 35, .goto 63, .aload 0,
  .getfield 1132, .iload 4, .aload 0, .getfield 1132, .aload 0, .getfield 1103, .iload 4, .iaload, .iaload, .bipush 12, .if_icmp .eq 55, .aload 0,
  .getfield 1132, .aload 0, .getfield 1103, .iload 4, .iaload, .iaload, .goto 62, .aload 0, .getfield 1132, .aload 0, .getfield 1104, .iload 4,
  .iaload, .iaload, .iastore, .iinc 4 1, .goto 12, .return_],
  [0, 1, 2, 3, 6, 7, 8, 11, 13, 15, 16, 17, 19, 21, 23, 26, 27, 30, 32, 33, 35, 38, 41, 43, 46, 48, 49, 50, 52, 55, 58, 59, 61, 64, 67, 70, 71, 74, 76, 77,
  80, 81, 84, 86, 87, 88, 90, 93, 94, 97, 98, 101, 103, 104, 105, 108, 109, 112, 113, 116, 118, 119, 120, 121, 124, 127],
  [0, 0, 0, 7055, 0, 0, 5231, 0, 0, 0, 0, 0, 0, 0, 0, 0, 5231, 0, 0, 0, 6176, 0, 0, 0, 0, 0, 0, 0, 6176, 0, 0, 0, 7063, 0, 0, 0, 5231, 0, 0, 5231,
  0, 5202, 0, 0, 0, 0, 0, 0, 5231, 0, 5202, 0, 0, 0, 0, 0, 5231, 0, 5203, 0, 0, 0, 0, 0, 0, 0], 5, none, [7092, 7091, 82, 1012], 1, 2)
def hm_M_child : hx_M := (⟨"HueWarModel", "child", "(IIII)I"⟩, prog_13_method_49_code,
  [.iload 1, .invokestatic 232, .ifCond .eq 13, .iload 2, .invokestatic 232, .ifCond .eq 13, .aload 0, .iload 3, .invokevirtual 201, .ifCond .eq 13, .iload 4, .invokestatic 205,
  .ifCond .ne 15, .bipush (-1), .ireturn, .aload 0, .iload 1, .iload 4, .invokevirtual 233, .iload 3, .invokestatic 202, .istore 5, .aload 0, .iload 2,
  .iload 4, .invokevirtual 233, .iload 3, .invokestatic 202, .istore 6, .aload 0, .iload 1, .iload 3, .iload 4, .invokevirtual 236, .aload 0, .getfield 1131,
  .bipush 5, .iload 5, .ifCond .eq 41, .bipush 1, .goto 42, .bipush 0, .iastore, .aload 0, .getfield 1131, .bipush 6, .iload 6, .ifCond .eq 50,
  .bipush 1, .goto 51, .bipush 0, .iastore, .aload 0, .bipush 107, .iload 5, .ifCond .ne 58, .iload 6, .ifCond .eq 60, .bipush 1, .goto 61,
  .bipush 0, .invokevirtual 238, .ifCond .eq 65, .bipush 1, .goto 66, .bipush 0, .ireturn],
  [0, 1, 4, 7, 8, 11, 14, 15, 16, 19, 22, 24, 27, 30, 31, 32, 33, 34, 36, 39, 40, 43, 45, 46, 47, 49, 52, 53, 56, 58, 59, 60, 61, 63, 66, 67, 70, 71, 73, 76,
  77, 80, 81, 82, 83, 86, 88, 90, 93, 94, 97, 98, 99, 100, 102, 104, 107, 109, 112, 113, 116, 117, 120, 123, 124, 127, 128],
  [0, 7052, 0, 0, 7052, 0, 0, 0, 6172, 0, 0, 6187, 0, 0, 0, 0, 0, 0, 7055, 0, 6176, 0, 0, 0, 0, 7055, 0, 6176, 0, 0, 0, 0, 0, 7067, 0, 5230, 0, 0, 0, 0,
  0, 0, 0, 0, 5230, 0, 0, 0, 0, 0, 0, 0, 0, 0, 0, 0, 0, 0, 0, 0, 0, 7074, 0, 0, 0, 0, 0], 7, some .int, [7096, 7094, 7095, 1012], 1, 4)
def hm_M_treaties : hx_M := (⟨"HueWarModel", "treaties", "(I)I"⟩, prog_13_method_58_code,
  [.iload 1, .bipush 1, .bipush 120, .invokestatic 200, .ifCond .eq 9, .iload 1, .aload 0, .getfield 1109, .if_icmp .le 11, .bipush (-1), .ireturn, .aload 0,
  .iload 1, .invokevirtual 245, .ifCond .ne 18, .aload 0, .getfield 1112, .ireturn, .bipush 0, .istore 2, .bipush 0, .istore 3, .iload 3, .aload 0,
  .getfield 1133, .if_icmp .ge 38, .iload 2, .aload 0, .iload 3, .invokevirtual 250, .ifCond .eq 33, .bipush 1, .goto 34, .bipush 0, .iadd, .istore 2,
  .iinc 3 1, .goto 22, .iload 2, .ireturn],
  [0, 1, 2, 4, 7, 10, 11, 12, 15, 18, 19, 20, 21, 22, 25, 28, 29, 32, 33, 34, 35, 36, 37, 38, 39, 42, 45, 46, 47, 48, 51, 54, 55, 58, 59, 60, 61, 64, 67, 68],
  [0, 0, 0, 6169, 0, 0, 0, 5208, 0, 0, 0, 0, 0, 7101, 0, 0, 5211, 0, 0, 0, 0, 0, 0, 0, 5232, 0, 0, 0, 0, 7121, 0, 0, 0, 0, 0, 0, 0, 0, 0, 0], 4, some .int, [7100, 7098, 7099, 1012], 1, 1)
def hm_M_readsLines : hx_M := (⟨"HueWarModel", "readsLines", "(I)Z"⟩, prog_13_method_54_code,
  [.aload 0, .bipush 0, .putfield 1110, .aload 0, .iload 1, .putfield 1111, .aload 0, .bipush 0, .putfield 1133, .aload 0, .invokevirtual 246, .istore 2,
  .iload 2, .ifCond .eq 31, .aload 0, .getfield 1110, .aload 0, .getfield 1111, .if_icmp .ge 31, .aload 0, .bipush 44, .invokevirtual 230, .ifCond .eq 28, .aload 0,
  .invokevirtual 246, .ifCond .eq 28, .bipush 1, .goto 29, .bipush 0, .istore 2, .goto 12, .aload 0, .bipush 0, .putfield 1109, .iload 2, .ireturn],
  [0, 1, 2, 5, 6, 7, 10, 11, 12, 15, 16, 19, 20, 21, 24, 25, 28, 29, 32, 35, 36, 38, 41, 44, 45, 48, 51, 52, 55, 56, 57, 60, 61, 62, 65, 66],
  [0, 0, 5209, 0, 0, 5210, 0, 0, 5232, 0, 7105, 0, 0, 0, 0, 5209, 0, 5210, 0, 0, 0, 7044, 0, 0, 7105, 0, 0, 0, 0, 0, 0, 0, 0, 5208, 0, 0], 3, some .boolean, [7104, 7103, 83, 1012], 1, 1)
def hm_M_readsLine : hx_M := (⟨"HueWarModel", "readsLine", "()Z"⟩, prog_13_method_53_code,
  [.aload 0, .invokevirtual 217, .ifCond .ne 9, .aload 0, .bipush 1, .aload 0, .getfield 1110, .invokevirtual 213, .ireturn, .aload 0, .getfield 1133, .bipush 8,
  .if_icmp .ne 19, .aload 0, .bipush 4, .aload 0, .getfield 1110, .invokevirtual 213, .ireturn, .aload 0, .invokevirtual 247, .ifCond .eq 25, .aload 0, .invokevirtual 248,
  .ifCond .ne 27, .bipush 0, .ireturn, .aload 0, .invokevirtual 211, .bipush 62, .if_icmp .eq 41, .aload 0, .invokevirtual 211, .bipush 43, .if_icmp .eq 41, .aload 0,
  .bipush 1, .aload 0, .getfield 1110, .invokevirtual 213, .ireturn, .aload 0, .getfield 1139, .aload 0, .getfield 1133, .aload 0, .invokevirtual 211, .bipush 43,
  .if_icmp .ne 51, .bipush 1, .goto 52, .bipush 0, .iastore, .aload 0, .aload 0, .getfield 1110, .bipush 1, .iadd, .putfield 1110, .aload 0,
  .bipush (-1), .invokevirtual 249, .ifCond .ne 65, .bipush 0, .ireturn, .aload 0, .getfield 1137, .aload 0, .getfield 1133, .aload 0, .getfield 1113, .iastore,
  .aload 0, .aload 0, .getfield 1113, .invokevirtual 249, .ifCond .ne 79, .bipush 0, .ireturn, .aload 0, .getfield 1138, .aload 0, .getfield 1133, .aload 0,
  .getfield 1113, .iastore, .aload 0, .aload 0, .getfield 1133, .bipush 1, .iadd, .putfield 1133, .bipush 1, .ireturn],
  [0, 1, 4, 7, 8, 9, 10, 13, 16, 17, 18, 21, 23, 26, 27, 28, 29, 32, 35, 36, 37, 40, 43, 44, 47, 50, 51, 52, 53, 56, 58, 61, 62, 65, 67, 70, 71, 72, 73, 76,
  79, 80, 81, 84, 85, 88, 89, 92, 94, 97, 98, 101, 102, 103, 104, 105, 108, 109, 110, 113, 114, 115, 118, 121, 122, 123, 124, 127, 128, 131, 132, 135, 136, 137, 138, 141, 144, 147, 148, 149,
  150, 153, 154, 157, 158, 161, 162, 163, 164, 167, 168, 169, 172, 173],
  [0, 6234, 0, 0, 0, 0, 5209, 6217, 0, 0, 5232, 0, 0, 0, 0, 0, 5209, 6217, 0, 0, 7109, 0, 0, 7113, 0, 0, 0, 0, 6210, 0, 0, 0, 6210, 0, 0, 0, 0, 0, 5209, 6217,
  0, 0, 5238, 0, 5232, 0, 6210, 0, 0, 0, 0, 0, 0, 0, 0, 5209, 0, 0, 5209, 0, 0, 7117, 0, 0, 0, 0, 5236, 0, 5232, 0, 5212, 0, 0, 0, 5212, 7117, 0, 0, 0, 0,
  5237, 0, 5232, 0, 5212, 0, 0, 0, 5232, 0, 0, 5232, 0, 0], 1, some .boolean, [7108, 7107, 84, 1012], 1, 0)
def hm_M_readsColour : hx_M := (⟨"HueWarModel", "readsColour", "()Z"⟩, prog_13_method_50_code,
  [.aload 0, .getfield 1110, .istore 1, .aload 0, .bipush 0, .putfield 1113, .aload 0, .invokevirtual 217, .ifCond .eq 33, .aload 0, .getfield 1110, .iload 1,
  .bipush 2, .iadd, .if_icmp .ge 33, .aload 0, .bipush 10, .aload 0, .getfield 1113, .imul, .aload 0, .invokevirtual 211, .iadd, .bipush 48,
  .isub, .putfield 1113, .aload 0, .aload 0, .getfield 1110, .bipush 1, .iadd, .putfield 1110, .goto 6, .aload 0, .getfield 1113, .bipush 12,
  .if_icmp .lt 42, .aload 0, .bipush 3, .iload 1, .invokevirtual 213, .ireturn, .aload 0, .getfield 1135, .aload 0, .getfield 1133, .aload 0, .getfield 1113,
  .iastore, .aload 0, .bipush 64, .invokevirtual 230, .ireturn],
  [0, 1, 4, 5, 6, 7, 10, 11, 14, 17, 18, 21, 22, 23, 24, 27, 28, 30, 31, 34, 35, 36, 39, 40, 42, 43, 46, 47, 48, 51, 52, 53, 56, 59, 60, 63, 65, 68, 69, 70,
  71, 74, 75, 76, 79, 80, 83, 84, 87, 88, 89, 91, 94],
  [0, 5209, 0, 0, 0, 5212, 0, 6234, 0, 0, 5209, 0, 0, 0, 0, 0, 0, 0, 5212, 0, 0, 6210, 0, 0, 0, 5212, 0, 0, 5209, 0, 0, 5209, 0, 0, 5212, 0, 0, 0, 0, 0,
  6217, 0, 0, 5234, 0, 5232, 0, 5212, 0, 0, 0, 7044, 0], 2, some .boolean, [7112, 7111, 85, 1012], 1, 0)
def hm_M_readsQuarters : hx_M := (⟨"HueWarModel", "readsQuarters", "()Z"⟩, prog_13_method_51_code,
  [.bipush 0, .istore 1, .bipush (-1), .istore 2, .aload 0, .invokevirtual 211, .bipush 48, .bipush 51, .invokestatic 200, .ifCond .eq 39, .aload 0, .invokevirtual 211,
  .bipush 48, .isub, .istore 3, .iload 3, .iload 2, .if_icmp .gt 24, .aload 0, .bipush 6, .aload 0, .getfield 1110, .invokevirtual 213, .ireturn,
  .iload 3, .istore 2, .iload 1, .bipush 1, .iload 3, .ishl, .ior, .istore 1, .aload 0, .aload 0, .getfield 1110, .bipush 1,
  .iadd, .putfield 1110, .goto 4, .aload 0, .getfield 1136, .aload 0, .getfield 1133, .iload 1, .iastore, .iload 1, .ifCond .gt 53, .aload 0,
  .bipush 1, .aload 0, .getfield 1110, .invokevirtual 213, .ifCond .eq 55, .bipush 1, .goto 56, .bipush 0, .ireturn],
  [0, 1, 2, 3, 4, 5, 8, 10, 12, 15, 18, 19, 22, 24, 25, 26, 27, 28, 31, 32, 34, 35, 38, 41, 42, 43, 44, 45, 46, 47, 48, 49, 50, 51, 52, 55, 56, 57, 60, 63,
  64, 67, 68, 71, 72, 73, 74, 77, 78, 79, 80, 83, 86, 89, 90, 93, 94],
  [0, 0, 0, 0, 0, 6210, 0, 0, 6169, 0, 0, 6210, 0, 0, 0, 0, 0, 0, 0, 0, 0, 5209, 6217, 0, 0, 0, 0, 0, 0, 0, 0, 0, 0, 0, 5209, 0, 0, 5209, 0, 0,
  5235, 0, 5232, 0, 0, 0, 0, 0, 0, 0, 5209, 6217, 0, 0, 0, 0, 0], 4, some .boolean, [7116, 7115, 86, 1012], 1, 0)
def hm_M_readsEmpire : hx_M := (⟨"HueWarModel", "readsEmpire", "(I)Z"⟩, prog_13_method_52_code,
  [.aload 0, .invokevirtual 217, .ifCond .ne 9, .aload 0, .bipush 1, .aload 0, .getfield 1110, .invokevirtual 213, .ireturn, .aload 0, .aload 0, .invokevirtual 211,
  .bipush 48, .isub, .putfield 1113, .aload 0, .getfield 1113, .bipush 6, .if_icmp .lt 25, .aload 0, .bipush 3, .aload 0, .getfield 1110, .invokevirtual 213,
  .ireturn, .aload 0, .getfield 1113, .iload 1, .if_icmp .ne 35, .aload 0, .bipush 6, .aload 0, .getfield 1110, .invokevirtual 213, .ireturn, .aload 0,
  .aload 0, .getfield 1110, .bipush 1, .iadd, .putfield 1110, .bipush 1, .ireturn],
  [0, 1, 4, 7, 8, 9, 10, 13, 16, 17, 18, 19, 22, 24, 25, 28, 29, 32, 34, 37, 38, 39, 40, 43, 46, 47, 48, 51, 52, 55, 56, 58, 59, 62, 65, 66, 67, 68, 71, 72,
  73, 76, 77],
  [0, 6234, 0, 0, 0, 0, 5209, 6217, 0, 0, 0, 6210, 0, 0, 5212, 0, 5212, 0, 0, 0, 0, 0, 5209, 6217, 0, 0, 5212, 0, 0, 0, 0, 0, 5209, 6217, 0, 0, 0, 5209, 0, 0,
  5209, 0, 0], 2, some .boolean, [7120, 7119, 87, 1012], 1, 1)
def hm_M_makes : hx_M := (⟨"HueWarModel", "makes", "(I)Z"⟩, prog_13_method_57_code,
  [.aload 0, .iload 1, .invokevirtual 251, .ifCond .ne 6, .bipush 0, .ireturn, .aload 0, .aload 0, .getfield 1135, .iload 1, .iaload, .aload 0,
  .getfield 1136, .iload 1, .iaload, .aload 0, .getfield 1138, .iload 1, .iaload, .bipush 1, .invokevirtual 252, .aload 0, .getfield 1139, .iload 1,
  .iaload, .ifCond .ne 41, .aload 0, .aload 0, .getfield 1135, .iload 1, .iaload, .aload 0, .getfield 1136, .iload 1, .iaload, .aload 0,
  .getfield 1137, .iload 1, .iaload, .bipush 0, .invokevirtual 252, .aload 0, .getfield 1140, .aload 0, .getfield 1134, .aload 0, .getfield 1135, .iload 1,
  .iaload, .iastore, .aload 0, .getfield 1141, .aload 0, .getfield 1134, .aload 0, .getfield 1136, .iload 1, .iaload, .iastore, .aload 0,
  .getfield 1142, .aload 0, .getfield 1134, .aload 0, .getfield 1137, .iload 1, .iaload, .iastore, .aload 0, .getfield 1143, .aload 0, .getfield 1134,
  .aload 0, .getfield 1138, .iload 1, .iaload, .iastore, .aload 0, .getfield 1144, .aload 0, .getfield 1134, .aload 0, .getfield 1139, .iload 1,
  .iaload, .iastore, .aload 0, .getfield 1145, .aload 0, .getfield 1134, .aload 0, .getfield 1102, .iastore, .aload 0, .aload 0, .getfield 1134,
  .bipush 1, .iadd, .putfield 1134, .bipush 1, .ireturn],
  [0, 1, 2, 5, 8, 9, 10, 11, 12, 15, 16, 17, 18, 21, 22, 23, 24, 27, 28, 29, 30, 33, 34, 37, 38, 39, 42, 43, 44, 47, 48, 49, 50, 53, 54, 55, 56, 59, 60, 61,
  62, 65, 66, 69, 70, 73, 74, 77, 78, 79, 80, 81, 84, 85, 88, 89, 92, 93, 94, 95, 96, 99, 100, 103, 104, 107, 108, 109, 110, 111, 114, 115, 118, 119, 122, 123, 124, 125, 126, 129,
  130, 133, 134, 137, 138, 139, 140, 141, 144, 145, 148, 149, 152, 153, 154, 155, 158, 159, 160, 163, 164],
  [0, 0, 7125, 0, 0, 0, 0, 0, 5234, 0, 0, 0, 5235, 0, 0, 0, 5237, 0, 0, 0, 7129, 0, 5238, 0, 0, 0, 0, 0, 5234, 0, 0, 0, 5235, 0, 0, 0, 5236, 0, 0, 0,
  7129, 0, 5239, 0, 5233, 0, 5234, 0, 0, 0, 0, 6000, 0, 5233, 0, 5235, 0, 0, 0, 0, 6001, 0, 5233, 0, 5236, 0, 0, 0, 0, 6002, 0, 5233, 0, 5237, 0, 0, 0, 0, 6003, 0,
  5233, 0, 5238, 0, 0, 0, 0, 6004, 0, 5233, 0, 5201, 0, 0, 0, 5233, 0, 0, 5233, 0, 0], 2, some .boolean, [7124, 7123, 88, 1012], 1, 1)
def hm_M_canBe : hx_M := (⟨"HueWarModel", "canBe", "(I)Z"⟩, prog_13_method_55_code,
  [.aload 0, .getfield 1135, .iload 1, .iaload, .istore 2, .aload 0, .iload 2, .invokevirtual 204, .ifCond .eq 13, .aload 0, .getfield 1134, .bipush 16,
  .if_icmp .ne 15, .bipush 0, .ireturn, .bipush 0, .istore 3, .iload 3, .bipush 4, .if_icmp .ge 60, .aload 0, .getfield 1136, .iload 1, .iaload,
  .iload 3, .invokestatic 202, .ifCond .ne 28, .goto 58, .aload 0, .getfield 1105, .bipush 4, .iload 2, .imul, .iload 3, .iadd, .iaload,
  .aload 0, .getfield 1137, .iload 1, .iaload, .invokestatic 202, .ifCond .eq 56, .aload 0, .getfield 1105, .bipush 4, .iload 2, .imul, .iload 3,
  .iadd, .iaload, .aload 0, .getfield 1138, .iload 1, .iaload, .invokestatic 202, .ifCond .eq 58, .bipush 0, .ireturn, .iinc 3 1, .goto 17,
  .bipush 1, .ireturn],
  [0, 1, 4, 5, 6, 7, 8, 9, 12, 15, 16, 19, 21, 24, 25, 26, 27, 28, 29, 30, 33, 34, 37, 38, 39, 40, 43, 46, 49, 50, 53, 54, 55, 56, 57, 58, 59, 60, 63, 64,
  65, 68, 71, 72, 75, 76, 77, 78, 79, 80, 81, 82, 85, 86, 87, 90, 93, 94, 95, 98, 101, 102],
  [0, 5234, 0, 0, 0, 0, 0, 6183, 0, 0, 5233, 0, 0, 0, 0, 0, 0, 0, 0, 0, 0, 5235, 0, 0, 0, 6176, 0, 0, 0, 5204, 0, 0, 0, 0, 0, 0, 0, 5236, 0, 0,
  6176, 0, 0, 5204, 0, 0, 0, 0, 0, 0, 0, 5237, 0, 0, 6176, 0, 0, 0, 0, 0, 0, 0], 4, some .boolean, [7128, 7127, 89, 1012], 1, 1)
def hm_M_changes : hx_M := (⟨"HueWarModel", "changes", "(IIIZ)V"⟩, prog_13_method_56_code,
  [.bipush 0, .istore 5, .iload 5, .bipush 4, .if_icmp .ge 43, .iload 2, .iload 5, .invokestatic 202, .ifCond .ne 10, .goto 41, .bipush 4, .iload 1,
  .imul, .iload 5, .iadd, .istore 6, .aload 0, .getfield 1105, .iload 6, .iload 4, .ifCond .eq 30, .aload 0, .getfield 1105, .iload 6,
  .iaload, .bipush 1, .iload 3, .ishl, .ior, .goto 40, .aload 0, .getfield 1105, .iload 6, .iaload, .bipush 1, .iload 3,
  .ishl, .bipush (-1), .ixor, .iand, .iastore, .iinc 5 1, .goto 2, .return_],
  [0, 1, 3, 5, 6, 9, 10, 12, 15, 18, 21, 22, 23, 24, 26, 27, 29, 30, 33, 35, 37, 40, 41, 44, 46, 47, 48, 49, 50, 51, 54, 55, 58, 60, 61, 62, 63, 64, 65, 66,
  67, 68, 71, 74],
  [0, 0, 0, 0, 0, 0, 0, 6176, 0, 0, 0, 0, 0, 0, 0, 0, 0, 5204, 0, 0, 0, 0, 5204, 0, 0, 0, 0, 0, 0, 0, 0, 5204, 0, 0, 0, 0, 0, 0, 0, 0,
  0, 0, 0, 0], 7, none, [7132, 7131, 90, 1012], 1, 4)
def hm_M_judged : hx_M := (⟨"HueWarModel", "judged", "(I)I"⟩, prog_13_method_64_code,
  [.iload 1, .bipush 1, .bipush 120, .invokestatic 200, .ifCond .eq 9, .iload 1, .aload 0, .getfield 1109, .if_icmp .le 11, .bipush (-1), .ireturn, .aload 0,
  .iload 1, .invokevirtual 245, .ifCond .ne 18, .aload 0, .getfield 1112, .ireturn, .aload 0, .invokevirtual 254, .bipush 0, .istore 2, .iload 2, .aload 0,
  .getfield 1133, .if_icmp .ge 35, .aload 0, .iload 2, .invokevirtual 250, .ifCond .eq 35, .iload 2, .bipush 1, .iadd, .istore 2, .goto 22, .aload 0,
  .invokevirtual 257, .iload 2, .ireturn],
  [0, 1, 2, 4, 7, 10, 11, 12, 15, 18, 19, 20, 21, 22, 25, 28, 29, 32, 33, 34, 37, 38, 39, 40, 41, 44, 47, 48, 49, 52, 55, 56, 57, 58, 59, 62, 63, 66, 67],
  [0, 0, 0, 6169, 0, 0, 0, 5208, 0, 0, 0, 0, 0, 7101, 0, 0, 5211, 0, 0, 7137, 0, 0, 0, 0, 5232, 0, 0, 0, 7121, 0, 0, 0, 0, 0, 0, 0, 7148, 0, 0], 3, some .int, [7136, 7134, 7135, 1012], 1, 1)
def hm_M_begins : hx_M := (⟨"HueWarModel", "begins", "()V"⟩, prog_13_method_62_code,
  [.aload 0, .getfield 1105, .aload 0, .getfield 1146, .bipush 48, .invokestatic 255, .aload 0, .aload 0, .getfield 1147, .invokevirtual 256, .aload 0, .aload 0,
  .getfield 1134, .putfield 1151, .aload 0, .aload 0, .getfield 1102, .putfield 1152, .aload 0, .aload 0, .getfield 1101, .putfield 1153, .return_],
  [0, 1, 4, 5, 8, 10, 13, 14, 15, 18, 21, 22, 23, 26, 29, 30, 31, 34, 37, 38, 39, 42, 45],
  [0, 5204, 0, 6005, 0, 7141, 0, 0, 6006, 7144, 0, 0, 5233, 6010, 0, 0, 5201, 6011, 0, 0, 5200, 6012, 0], 1, none, [7140, 7139, 91, 1012], 1, 0)
def hm_M_copies : hx_M := (⟨"HueWarModel", "copies", "([I[II)V"⟩, prog_13_method_59_code,
  [.bipush 0, .istore 3, .iload 3, .iload 2, .if_icmp .ge 13, .aload 1, .iload 3, .aload 0, .iload 3, .iaload, .iastore, .iinc 3 1,
  .goto 2, .return_],
  [0, 1, 2, 3, 4, 7, 8, 9, 10, 11, 12, 13, 16, 19],
  [0, 0, 0, 0, 0, 0, 0, 0, 0, 0, 0, 0, 0, 0], 4, none, [7143, 7142, 1012], 0, 3)
def hm_M_packs : hx_M := (⟨"HueWarModel", "packs", "([I)V"⟩, prog_13_method_60_code,
  [.bipush 0, .istore 2, .iload 2, .bipush 16, .if_icmp .ge 71, .aload 1, .bipush 6, .iload 2, .imul, .aload 0, .getfield 1140, .iload 2,
  .iaload, .iastore, .aload 1, .bipush 6, .iload 2, .imul, .bipush 1, .iadd, .aload 0, .getfield 1141, .iload 2, .iaload,
  .iastore, .aload 1, .bipush 6, .iload 2, .imul, .bipush 2, .iadd, .aload 0, .getfield 1142, .iload 2, .iaload, .iastore,
  .aload 1, .bipush 6, .iload 2, .imul, .bipush 3, .iadd, .aload 0, .getfield 1143, .iload 2, .iaload, .iastore, .aload 1,
  .bipush 6, .iload 2, .imul, .bipush 4, .iadd, .aload 0, .getfield 1144, .iload 2, .iaload, .iastore, .aload 1, .bipush 6,
  .iload 2, .imul, .bipush 5, .iadd, .aload 0, .getfield 1145, .iload 2, .iaload, .iastore, .iinc 2 1, .goto 2, .return_],
  [0, 1, 2, 3, 5, 8, 9, 11, 12, 13, 14, 17, 18, 19, 20, 21, 23, 24, 25, 26, 27, 28, 31, 32, 33, 34, 35, 37, 38, 39, 40, 41, 42, 45, 46, 47, 48, 49, 51, 52,
  53, 54, 55, 56, 59, 60, 61, 62, 63, 65, 66, 67, 68, 69, 70, 73, 74, 75, 76, 77, 79, 80, 81, 82, 83, 84, 87, 88, 89, 90, 93, 96],
  [0, 0, 0, 0, 0, 0, 0, 0, 0, 0, 5239, 0, 0, 0, 0, 0, 0, 0, 0, 0, 0, 6000, 0, 0, 0, 0, 0, 0, 0, 0, 0, 0, 6001, 0, 0, 0, 0, 0, 0, 0,
  0, 0, 0, 6002, 0, 0, 0, 0, 0, 0, 0, 0, 0, 0, 6003, 0, 0, 0, 0, 0, 0, 0, 0, 0, 0, 6004, 0, 0, 0, 0, 0, 0], 3, none, [7147, 7146, 92, 1012], 1, 1)
def hm_M_again : hx_M := (⟨"HueWarModel", "again", "()V"⟩, prog_13_method_63_code,
  [.aload 0, .getfield 1146, .aload 0, .getfield 1105, .bipush 48, .invokestatic 255, .aload 0, .aload 0, .getfield 1147, .invokevirtual 258, .aload 0, .aload 0,
  .getfield 1151, .putfield 1134, .aload 0, .aload 0, .getfield 1152, .putfield 1102, .aload 0, .aload 0, .getfield 1153, .putfield 1101, .return_],
  [0, 1, 4, 5, 8, 10, 13, 14, 15, 18, 21, 22, 23, 26, 29, 30, 31, 34, 37, 38, 39, 42, 45],
  [0, 6005, 0, 5204, 0, 7141, 0, 0, 6006, 7152, 0, 0, 6010, 5233, 0, 0, 6011, 5201, 0, 0, 6012, 5200, 0], 1, none, [7151, 7150, 93, 1012], 1, 0)
def hm_M_unpacks : hx_M := (⟨"HueWarModel", "unpacks", "([I)V"⟩, prog_13_method_61_code,
  [.bipush 0, .istore 2, .iload 2, .bipush 16, .if_icmp .ge 71, .aload 0, .getfield 1140, .iload 2, .aload 1, .bipush 6, .iload 2, .imul,
  .iaload, .iastore, .aload 0, .getfield 1141, .iload 2, .aload 1, .bipush 6, .iload 2, .imul, .bipush 1, .iadd, .iaload,
  .iastore, .aload 0, .getfield 1142, .iload 2, .aload 1, .bipush 6, .iload 2, .imul, .bipush 2, .iadd, .iaload, .iastore,
  .aload 0, .getfield 1143, .iload 2, .aload 1, .bipush 6, .iload 2, .imul, .bipush 3, .iadd, .iaload, .iastore, .aload 0,
  .getfield 1144, .iload 2, .aload 1, .bipush 6, .iload 2, .imul, .bipush 4, .iadd, .iaload, .iastore, .aload 0, .getfield 1145,
  .iload 2, .aload 1, .bipush 6, .iload 2, .imul, .bipush 5, .iadd, .iaload, .iastore, .iinc 2 1, .goto 2, .return_],
  [0, 1, 2, 3, 5, 8, 9, 12, 13, 14, 16, 17, 18, 19, 20, 21, 24, 25, 26, 28, 29, 30, 31, 32, 33, 34, 35, 38, 39, 40, 42, 43, 44, 45, 46, 47, 48, 49, 52, 53,
  54, 56, 57, 58, 59, 60, 61, 62, 63, 66, 67, 68, 70, 71, 72, 73, 74, 75, 76, 77, 80, 81, 82, 84, 85, 86, 87, 88, 89, 90, 93, 96],
  [0, 0, 0, 0, 0, 0, 5239, 0, 0, 0, 0, 0, 0, 0, 0, 6000, 0, 0, 0, 0, 0, 0, 0, 0, 0, 0, 6001, 0, 0, 0, 0, 0, 0, 0, 0, 0, 0, 6002, 0, 0,
  0, 0, 0, 0, 0, 0, 0, 0, 6003, 0, 0, 0, 0, 0, 0, 0, 0, 0, 0, 6004, 0, 0, 0, 0, 0, 0, 0, 0, 0, 0, 0, 0], 3, none, [7155, 7154, 94, 1012], 1, 1)
def hm_M_treatyIs : hx_M := (⟨"HueWarModel", "treatyIs", "(II)I"⟩, prog_13_method_65_code,
  [.iload 1, .bipush 0, .aload 0, .getfield 1134, .bipush 1, .isub, .invokestatic 200, .ifCond .ne 10, .bipush (-1), .ireturn, .iload 2, .tableswitch 42 (0) (5) #[12, 17, 22, 27, 32, 37],
  .aload 0, .getfield 1140, .iload 1, .iaload, .ireturn, .aload 0, .getfield 1141, .iload 1, .iaload, .ireturn, .aload 0, .getfield 1142,
  .iload 1, .iaload, .ireturn, .aload 0, .getfield 1143, .iload 1, .iaload, .ireturn, .aload 0, .getfield 1144, .iload 1, .iaload,
  .ireturn, .aload 0, .getfield 1145, .iload 1, .iaload, .ireturn, .bipush (-1), .ireturn],
  [0, 1, 2, 3, 6, 7, 8, 11, 14, 15, 16, 17, 56, 57, 60, 61, 62, 63, 64, 67, 68, 69, 70, 71, 74, 75, 76, 77, 78, 81, 82, 83, 84, 85, 88, 89, 90, 91, 92, 95,
  96, 97, 98, 99],
  [0, 0, 0, 5233, 0, 0, 6169, 0, 0, 0, 0, 0, 0, 5239, 0, 0, 0, 0, 6000, 0, 0, 0, 0, 6001, 0, 0, 0, 0, 6002, 0, 0, 0, 0, 6003, 0, 0, 0, 0, 6004, 0,
  0, 0, 0, 0], 3, some .int, [7159, 7157, 7158, 1012], 1, 2)
def hm_M_days : hx_M := (⟨"HueWarModel", "days", "(I)I"⟩, prog_13_method_70_code,
  [.iload 1, .bipush 1, .bipush 99, .invokestatic 200, .ifCond .ne 7, .bipush (-1), .ireturn, .aload 0, .iload 1, .invokevirtual 261, .aload 0, .getfield 1158,
  .ireturn],
  [0, 1, 2, 4, 7, 10, 11, 12, 13, 14, 17, 18, 21],
  [0, 0, 0, 6169, 0, 0, 0, 0, 0, 7164, 0, 6017, 0], 2, some .int, [7163, 7161, 7162, 1012], 1, 1)
def hm_M_daysGo : hx_M := (⟨"HueWarModel", "daysGo", "(I)V"⟩, prog_13_method_69_code,
  [.aload 0, .bipush 0, .putfield 1158, .aload 0, .bipush (-2), .putfield 1159, .aload 0, .bipush (-2), .putfield 1160, .bipush 0, .istore 2, .iload 2,
  .iload 1, .if_icmp .ge 59, .aload 0, .getfield 1102, .bipush 9999, .if_icmp .ge 59, .bipush 0, .istore 3, .iload 3, .aload 0, .getfield 1134, .if_icmp .ge 51,
  .aload 0, .bipush 25173, .aload 0, .getfield 1101, .imul, .bipush 13849, .iadd, .bipush 65536, .irem, .putfield 1101, .aload 0, .getfield 1101,
  .bipush 10, .irem, .aload 0, .iload 3, .invokevirtual 262, .if_icmp .ge 46, .aload 0, .iload 3, .invokevirtual 265, .goto 20, .iload 3, .bipush 1,
  .iadd, .istore 3, .goto 20, .aload 0, .aload 0, .getfield 1102, .bipush 1, .iadd, .putfield 1102, .iinc 2 1, .goto 11, .return_],
  [0, 1, 2, 5, 6, 8, 11, 12, 14, 17, 18, 19, 20, 21, 24, 25, 28, 31, 34, 35, 36, 37, 38, 41, 44, 45, 48, 49, 52, 53, 56, 57, 60, 61, 64, 65, 68, 70, 71, 72,
  73, 76, 79, 80, 81, 84, 87, 88, 89, 90, 91, 94, 95, 96, 99, 100, 101, 104, 107, 110],
  [0, 0, 6017, 0, 0, 6018, 0, 0, 6019, 0, 0, 0, 0, 0, 0, 5201, 0, 0, 0, 0, 0, 0, 5233, 0, 0, 0, 0, 5200, 0, 0, 0, 7168, 0, 5200, 0, 5200, 0, 0, 0, 0,
  7169, 0, 0, 0, 7180, 0, 0, 0, 0, 0, 0, 0, 0, 5201, 0, 0, 5201, 0, 0, 0], 4, none, [7167, 7166, 95, 1012], 1, 1)
def hm_M_breaksBy : hx_M := (⟨"HueWarModel", "breaksBy", "(I)I"⟩, prog_13_method_67_code,
  [.aload 0, .aload 0, .getfield 1142, .iload 1, .iaload, .aload 0, .getfield 1140, .iload 1, .iaload, .aload 0, .getfield 1141, .iload 1,
  .iaload, .invokestatic 263, .invokevirtual 236, .aload 0, .getfield 1131, .bipush 9, .aload 0, .getfield 1102, .aload 0, .getfield 1145, .iload 1, .iaload,
  .isub, .iastore, .aload 0, .bipush 98, .bipush 10, .invokevirtual 264, .ireturn],
  [0, 1, 2, 5, 6, 7, 8, 11, 12, 13, 14, 17, 18, 19, 22, 25, 26, 29, 31, 32, 35, 36, 39, 40, 41, 42, 43, 44, 46, 48, 51],
  [0, 0, 6001, 0, 0, 0, 5239, 0, 0, 0, 6000, 0, 0, 7173, 7067, 0, 5230, 0, 0, 5201, 0, 6004, 0, 0, 0, 0, 0, 0, 0, 7176, 0], 2, some .int, [7172, 7171, 96, 1012], 1, 1)
def hm_M_lowest : hx_M := (⟨"HueWarModel", "lowest", "(I)I"⟩, prog_13_method_66_code,
  [.bipush 0, .istore 1, .iload 0, .iload 1, .invokestatic 202, .ifCond .ne 11, .iload 1, .bipush 1, .iadd, .istore 1, .goto 2, .iload 1,
  .ireturn],
  [0, 1, 2, 3, 4, 7, 10, 11, 12, 13, 14, 17, 18],
  [0, 0, 0, 0, 6176, 0, 0, 0, 0, 0, 0, 0, 0], 2, some .int, [7175, 7174, 1012], 0, 1)
def hm_M_byLaw : hx_M := (⟨"HueWarModel", "byLaw", "(II)I"⟩, prog_13_method_41_code,
  [.bipush 0, .istore 3, .iload 3, .aload 0, .getfield 1118, .if_icmp .ge 49, .aload 0, .getfield 1126, .iload 3, .iaload, .iload 1, .if_icmp .ne 47,
  .aload 0, .aload 0, .getfield 1128, .iload 3, .iaload, .aload 0, .getfield 1129, .iload 3, .iaload, .invokevirtual 239, .bipush 1, .if_icmp .eq 25,
  .goto 47, .aload 0, .aload 0, .getfield 1127, .iload 3, .iaload, .aload 0, .getfield 1128, .iload 3, .iaload, .invokevirtual 239, .istore 4,
  .iload 4, .ifCond .ge 40, .bipush 0, .goto 46, .iload 4, .iload 2, .if_icmp .le 45, .iload 2, .goto 46, .iload 4, .ireturn, .iinc 3 1,
  .goto 2, .bipush 0, .ireturn],
  [0, 1, 2, 3, 4, 7, 10, 11, 14, 15, 16, 17, 20, 21, 22, 25, 26, 27, 28, 31, 32, 33, 36, 37, 40, 43, 44, 45, 48, 49, 50, 51, 54, 55, 56, 59, 61, 63, 66, 67,
  70, 72, 73, 76, 77, 80, 82, 83, 86, 89, 90],
  [0, 0, 0, 0, 5217, 0, 0, 5225, 0, 0, 0, 0, 0, 0, 5227, 0, 0, 0, 5228, 0, 0, 7078, 0, 0, 0, 0, 0, 5226, 0, 0, 0, 5227, 0, 0, 7078, 0, 0, 0, 0, 0,
  0, 0, 0, 0, 0, 0, 0, 0, 0, 0, 0], 5, some .int, [7179, 7178, 97, 1012], 1, 2)
def hm_M_ends : hx_M := (⟨"HueWarModel", "ends", "(I)V"⟩, prog_13_method_68_code,
  [.aload 0, .getfield 1158, .ifCond .ne 13, .aload 0, .aload 0, .getfield 1102, .putfield 1159, .aload 0, .aload 0, .getfield 1142, .iload 1, .iaload,
  .putfield 1160, .aload 0, .aload 0, .getfield 1158, .bipush 1, .iadd, .putfield 1158, .aload 0, .aload 0, .getfield 1140, .iload 1, .iaload,
  .aload 0, .getfield 1141, .iload 1, .iaload, .aload 0, .getfield 1143, .iload 1, .iaload, .bipush 0, .invokevirtual 252, .aload 0, .aload 0,
  .getfield 1140, .iload 1, .iaload, .aload 0, .getfield 1141, .iload 1, .iaload, .aload 0, .getfield 1142, .iload 1, .iaload, .bipush 1,
  .invokevirtual 252, .aload 0, .aload 0, .getfield 1134, .bipush 1, .isub, .putfield 1134, .iload 1, .istore 2, .iload 2, .aload 0, .getfield 1134,
  .if_icmp .ge 123, .aload 0, .getfield 1140, .iload 2, .aload 0, .getfield 1140, .iload 2, .bipush 1, .iadd, .iaload, .iastore, .aload 0,
  .getfield 1141, .iload 2, .aload 0, .getfield 1141, .iload 2, .bipush 1, .iadd, .iaload, .iastore, .aload 0, .getfield 1142, .iload 2,
  .aload 0, .getfield 1142, .iload 2, .bipush 1, .iadd, .iaload, .iastore, .aload 0, .getfield 1143, .iload 2, .aload 0, .getfield 1143,
  .iload 2, .bipush 1, .iadd, .iaload, .iastore, .aload 0, .getfield 1144, .iload 2, .aload 0, .getfield 1144, .iload 2, .bipush 1,
  .iadd, .iaload, .iastore, .aload 0, .getfield 1145, .iload 2, .aload 0, .getfield 1145, .iload 2, .bipush 1, .iadd, .iaload,
  .iastore, .iinc 2 1, .goto 57, .return_],
  [0, 1, 4, 7, 8, 9, 12, 15, 16, 17, 20, 21, 22, 25, 26, 27, 30, 31, 32, 35, 36, 37, 40, 41, 42, 43, 46, 47, 48, 49, 52, 53, 54, 55, 58, 59, 60, 63, 64, 65,
  66, 69, 70, 71, 72, 75, 76, 77, 78, 81, 82, 83, 86, 87, 88, 91, 92, 93, 94, 95, 98, 101, 102, 105, 106, 107, 110, 111, 112, 113, 114, 115, 116, 119, 120, 121, 124, 125, 126, 127,
  128, 129, 130, 133, 134, 135, 138, 139, 140, 141, 142, 143, 144, 147, 148, 149, 152, 153, 154, 155, 156, 157, 158, 161, 162, 163, 166, 167, 168, 169, 170, 171, 172, 175, 176, 177, 180, 181, 182, 183,
  184, 185, 188, 191],
  [0, 6017, 0, 0, 0, 5201, 6018, 0, 0, 6001, 0, 0, 6019, 0, 0, 6017, 0, 0, 6017, 0, 0, 5239, 0, 0, 0, 6000, 0, 0, 0, 6002, 0, 0, 0, 7129, 0, 0, 5239, 0, 0, 0,
  6000, 0, 0, 0, 6001, 0, 0, 0, 7129, 0, 0, 5233, 0, 0, 5233, 0, 0, 0, 0, 5233, 0, 0, 5239, 0, 0, 5239, 0, 0, 0, 0, 0, 0, 6000, 0, 0, 6000, 0, 0, 0, 0,
  0, 0, 6001, 0, 0, 6001, 0, 0, 0, 0, 0, 0, 6002, 0, 0, 6002, 0, 0, 0, 0, 0, 0, 6003, 0, 0, 6003, 0, 0, 0, 0, 0, 0, 6004, 0, 0, 6004, 0, 0, 0, 0,
  0, 0, 0, 0], 3, none, [7183, 7182, 98, 1012], 1, 1)
def hm_M_tried : hx_M := (⟨"HueWarModel", "tried", "(II)I"⟩, prog_13_method_72_code,
  [.iload 1, .bipush 1, .bipush 99, .invokestatic 200, .ifCond .eq 16, .iload 2, .bipush 0, .bipush 2, .invokestatic 200, .ifCond .ne 18, .aload 0, .iload 2,
  .bipush 10, .isub, .invokevirtual 204, .ifCond .ne 18, .bipush (-1), .ireturn, .aload 0, .invokevirtual 254, .aload 0, .iload 1, .invokevirtual 261, .iload 2,
  .ifCond .ne 28, .aload 0, .getfield 1158, .goto 45, .iload 2, .bipush 1, .if_icmp .ne 34, .aload 0, .getfield 1159, .goto 45, .iload 2, .bipush 2,
  .if_icmp .ne 40, .aload 0, .getfield 1160, .goto 45, .aload 0, .iload 2, .bipush 10, .isub, .invokevirtual 267, .istore 3, .aload 0, .invokevirtual 257,
  .iload 3, .ireturn],
  [0, 1, 2, 4, 7, 10, 11, 12, 13, 16, 19, 20, 21, 23, 24, 27, 30, 31, 32, 33, 36, 37, 38, 41, 42, 45, 46, 49, 52, 53, 54, 57, 58, 61, 64, 65, 66, 69, 70, 73,
  76, 77, 78, 80, 81, 84, 85, 86, 89, 90],
  [0, 0, 0, 6169, 0, 0, 0, 0, 6169, 0, 0, 0, 0, 0, 6183, 0, 0, 0, 0, 7137, 0, 0, 7164, 0, 0, 0, 6017, 0, 0, 0, 0, 0, 6018, 0, 0, 0, 0, 0, 6019, 0,
  0, 0, 0, 0, 7188, 0, 0, 7148, 0, 0], 4, some .int, [7187, 7185, 7186, 1012], 1, 2)
def hm_M_hadAll : hx_M := (⟨"HueWarModel", "hadAll", "(I)I"⟩, prog_13_method_71_code,
  [.bipush 0, .istore 2, .bipush 0, .istore 3, .iload 3, .bipush 4, .if_icmp .ge 21, .iload 2, .aload 0, .getfield 1105, .bipush 4, .iload 1,
  .imul, .iload 3, .iadd, .iaload, .invokestatic 237, .iadd, .istore 2, .iinc 3 1, .goto 4, .iload 2, .ireturn],
  [0, 1, 2, 3, 4, 5, 6, 9, 10, 11, 14, 15, 16, 17, 18, 19, 20, 23, 24, 25, 28, 31, 32],
  [0, 0, 0, 0, 0, 0, 0, 0, 0, 5204, 0, 0, 0, 0, 0, 0, 7071, 0, 0, 0, 0, 0, 0], 4, some .int, [7191, 7190, 99, 1012], 1, 1)
def hm_M_land : hx_M := (⟨"HueWarModel", "land", "(I)I"⟩, prog_13_method_74_code,
  [.iload 1, .bipush 1, .bipush 160, .invokestatic 200, .ifCond .eq 9, .iload 1, .aload 0, .getfield 1109, .if_icmp .le 11, .bipush (-1), .ireturn, .aload 0,
  .bipush 0, .putfield 1110, .aload 0, .iload 1, .putfield 1111, .aload 0, .bipush 0, .invokevirtual 269, .istore 2, .bipush 1, .istore 3, .iload 3,
  .bipush 8, .if_icmp .ge 42, .iload 2, .ifCond .eq 42, .aload 0, .bipush 47, .invokevirtual 230, .ifCond .eq 38, .aload 0, .iload 3, .invokevirtual 269, .ifCond .eq 38,
  .bipush 1, .goto 39, .bipush 0, .istore 2, .iinc 3 1, .goto 23, .iload 2, .ifCond .eq 55, .aload 0, .getfield 1110, .aload 0, .getfield 1111,
  .if_icmp .ge 55, .aload 0, .bipush 1, .aload 0, .getfield 1110, .invokevirtual 213, .istore 2, .aload 0, .bipush 0, .putfield 1109, .iload 2, .ifCond .ne 63,
  .aload 0, .getfield 1112, .ireturn, .bipush 0, .istore 3, .bipush 0, .istore 4, .iload 4, .bipush 64, .if_icmp .ge 92, .aload 0, .getfield 1106,
  .iload 4, .aload 0, .getfield 1161, .iload 4, .iaload, .iastore, .iload 3, .aload 0, .getfield 1106, .iload 4, .iaload, .bipush 12,
  .if_icmp .ne 87, .bipush 0, .goto 88, .bipush 1, .iadd, .istore 3, .iinc 4 1, .goto 67, .iload 3, .ireturn],
  [0, 1, 2, 5, 8, 11, 12, 13, 16, 19, 20, 21, 22, 23, 26, 27, 28, 31, 32, 33, 36, 37, 38, 39, 40, 42, 45, 46, 49, 50, 52, 55, 58, 59, 60, 63, 66, 67, 70, 71,
  72, 75, 78, 79, 82, 83, 86, 87, 90, 93, 94, 95, 96, 99, 102, 103, 104, 105, 108, 109, 112, 113, 116, 117, 118, 119, 120, 122, 124, 126, 129, 130, 133, 135, 136, 139, 141, 142, 143, 144,
  145, 148, 150, 151, 153, 156, 157, 160, 161, 162, 163, 166, 169, 170],
  [0, 0, 0, 6169, 0, 0, 0, 5208, 0, 0, 0, 0, 0, 5209, 0, 0, 5210, 0, 0, 7196, 0, 0, 0, 0, 0, 0, 0, 0, 0, 0, 7044, 0, 0, 0, 7196, 0, 0, 0, 0, 0,
  0, 0, 0, 0, 0, 5209, 0, 5210, 0, 0, 0, 0, 5209, 6217, 0, 0, 0, 5208, 0, 0, 0, 5211, 0, 0, 0, 0, 0, 0, 0, 0, 0, 5205, 0, 0, 6020, 0, 0, 0, 0, 0,
  5205, 0, 0, 0, 0, 0, 0, 0, 0, 0, 0, 0, 0, 0], 5, some .int, [7195, 7193, 7194, 1012], 1, 1)
def hm_M_readsRow : hx_M := (⟨"HueWarModel", "readsRow", "(I)Z"⟩, prog_13_method_73_code,
  [.bipush 0, .istore 2, .aload 0, .invokevirtual 211, .istore 3, .iload 3, .bipush 49, .bipush 56, .invokestatic 200, .istore 4, .iload 2, .bipush 8,
  .if_icmp .ne 25, .iload 4, .ifCond .ne 25, .iload 3, .bipush 46, .if_icmp .eq 25, .iload 3, .bipush 97, .bipush 108, .invokestatic 200, .ifCond .ne 25, .bipush 1,
  .ireturn, .iload 4, .ifCond .eq 31, .iload 3, .bipush 48, .isub, .goto 32, .bipush 1, .istore 5, .iload 4, .ifCond .ne 43, .iload 3,
  .bipush 46, .if_icmp .eq 43, .iload 3, .bipush 97, .bipush 108, .invokestatic 200, .ifCond .eq 54, .iload 2, .iload 5, .iadd, .bipush 8, .if_icmp .le 54,
  .aload 0, .bipush 6, .aload 0, .getfield 1110, .invokevirtual 213, .ireturn, .iload 4, .ifCond .eq 62, .aload 0, .aload 0, .getfield 1110, .bipush 1,
  .iadd, .putfield 1110, .aload 0, .invokevirtual 211, .istore 3, .iload 3, .bipush 46, .if_icmp .eq 79, .iload 3, .bipush 97, .bipush 108, .invokestatic 200,
  .ifCond .ne 79, .aload 0, .bipush 1, .aload 0, .getfield 1110, .invokevirtual 213, .ireturn, .iload 3, .bipush 46, .if_icmp .eq 94, .aload 0, .iload 3,
  .bipush 97, .isub, .invokevirtual 201, .ifCond .ne 94, .aload 0, .bipush 7, .aload 0, .getfield 1110, .invokevirtual 213, .ireturn, .bipush 0, .istore 6,
  .iload 6, .iload 5, .if_icmp .ge 119, .aload 0, .getfield 1161, .bipush 8, .iload 1, .imul, .iload 2, .iadd, .iload 6, .iadd,
  .iload 3, .bipush 46, .if_icmp .ne 113, .bipush 12, .goto 116, .iload 3, .bipush 97, .isub, .iastore, .iinc 6 1, .goto 96, .iload 2,
  .iload 5, .iadd, .istore 2, .aload 0, .aload 0, .getfield 1110, .bipush 1, .iadd, .putfield 1110, .goto 2],
  [0, 1, 2, 3, 6, 7, 8, 10, 12, 15, 17, 18, 20, 23, 25, 28, 29, 31, 34, 35, 37, 39, 42, 45, 46, 47, 49, 52, 53, 55, 56, 59, 60, 62, 64, 67, 68, 70, 73, 74,
  76, 78, 81, 84, 85, 87, 88, 90, 93, 94, 96, 97, 100, 103, 104, 106, 109, 110, 111, 114, 115, 116, 119, 120, 123, 124, 125, 127, 130, 131, 133, 135, 138, 141, 142, 143, 144, 147, 150, 151,
  152, 154, 157, 158, 159, 161, 162, 165, 168, 169, 171, 172, 175, 178, 179, 180, 182, 184, 186, 189, 190, 193, 195, 196, 197, 198, 199, 201, 202, 203, 205, 208, 210, 213, 214, 216, 217, 218, 221, 224,
  225, 227, 228, 229, 230, 231, 234, 235, 236, 239],
  [0, 0, 0, 6210, 0, 0, 0, 0, 6169, 0, 0, 0, 0, 0, 0, 0, 0, 0, 0, 0, 0, 6169, 0, 0, 0, 0, 0, 0, 0, 0, 0, 0, 0, 0, 0, 0, 0, 0, 0, 0,
  0, 6169, 0, 0, 0, 0, 0, 0, 0, 0, 0, 5209, 6217, 0, 0, 0, 0, 0, 5209, 0, 0, 5209, 0, 6210, 0, 0, 0, 0, 0, 0, 0, 6169, 0, 0, 0, 0, 5209, 6217, 0, 0,
  0, 0, 0, 0, 0, 0, 6172, 0, 0, 0, 0, 5209, 6217, 0, 0, 0, 0, 0, 0, 0, 6020, 0, 0, 0, 0, 0, 0, 0, 0, 0, 0, 0, 0, 0, 0, 0, 0, 0, 0, 0,
  0, 0, 0, 0, 0, 5209, 0, 0, 5209, 0], 7, some .boolean, [7199, 7198, 100, 1012], 1, 1)
def hm_M_unseen : hx_M := (⟨"HueWarModel", "unseen", "(IIIII)I"⟩, prog_13_method_76_code,
  [.iload 1, .bipush 0, .bipush 7, .invokestatic 200, .ifCond .eq 20, .iload 2, .bipush 0, .bipush 7, .invokestatic 200, .ifCond .eq 20, .aload 0, .iload 3,
  .invokevirtual 201, .ifCond .eq 20, .iload 4, .invokestatic 232, .ifCond .eq 20, .iload 5, .invokestatic 205, .ifCond .ne 22, .bipush (-1), .ireturn, .aload 0, .iload 4,
  .iload 5, .invokevirtual 242, .aload 0, .bipush 8, .iload 2, .imul, .iload 1, .iadd, .iload 3, .invokevirtual 271, .ifCond .eq 37, .bipush 1,
  .goto 38, .bipush 0, .ireturn],
  [0, 1, 2, 4, 7, 10, 11, 12, 14, 17, 20, 21, 22, 25, 28, 30, 33, 36, 38, 41, 44, 45, 46, 47, 49, 51, 54, 55, 57, 58, 59, 60, 61, 62, 65, 68, 69, 72, 73],
  [0, 0, 0, 6169, 0, 0, 0, 0, 6169, 0, 0, 0, 6172, 0, 0, 7052, 0, 0, 6187, 0, 0, 0, 0, 0, 0, 7089, 0, 0, 0, 0, 0, 0, 0, 7204, 0, 0, 0, 0, 0], 6, some .int, [7203, 7201, 7202, 1012], 1, 5)
def hm_M_isUnseen : hx_M := (⟨"HueWarModel", "isUnseen", "(II)Z"⟩, prog_13_method_75_code,
  [.aload 0, .getfield 1132, .aload 0, .getfield 1106, .iload 1, .iaload, .iaload, .aload 0, .getfield 1132, .iload 2, .iaload, .if_icmp .ne 14,
  .bipush 1, .goto 15, .bipush 0, .ireturn],
  [0, 1, 4, 5, 8, 9, 10, 11, 12, 15, 16, 17, 20, 21, 24, 25],
  [0, 5231, 0, 5205, 0, 0, 0, 0, 5231, 0, 0, 0, 0, 0, 0, 0], 3, some .boolean, [7207, 7206, 101, 1012], 1, 2)
def hm_M_way : hx_M := (⟨"HueWarModel", "way", "(IIIIII)I"⟩, prog_13_method_79_code,
  [.iload 1, .bipush 0, .bipush 63, .invokestatic 200, .ifCond .eq 25, .iload 2, .bipush 0, .bipush 63, .invokestatic 200, .ifCond .eq 25, .aload 0, .iload 3,
  .invokevirtual 201, .ifCond .eq 25, .iload 4, .invokestatic 232, .ifCond .eq 25, .iload 5, .invokestatic 205, .ifCond .eq 25, .iload 6, .bipush 0, .bipush 2, .invokestatic 200,
  .ifCond .ne 27, .bipush (-1), .ireturn, .aload 0, .iload 4, .iload 5, .invokevirtual 242, .aload 0, .iload 1, .iload 3, .iload 6, .ifCond .ne 38,
  .bipush 1, .goto 39, .bipush 0, .invokevirtual 273, .iload 6, .ifCond .ne 55, .aload 0, .getfield 1162, .iload 2, .iaload, .bipush 1000000000, .if_icmp .ne 50,
  .bipush (-2), .goto 71, .aload 0, .getfield 1162, .iload 2, .iaload, .goto 71, .iload 6, .bipush 1, .if_icmp .ne 65, .aload 0, .getfield 1162,
  .iload 2, .iaload, .bipush 100, .idiv, .goto 71, .aload 0, .getfield 1162, .iload 2, .iaload, .bipush 100, .irem, .ireturn],
  [0, 1, 2, 4, 7, 10, 11, 12, 14, 17, 20, 21, 22, 25, 28, 30, 33, 36, 38, 41, 44, 46, 47, 48, 51, 54, 55, 56, 57, 59, 61, 64, 65, 66, 67, 69, 72, 73, 76, 77,
  80, 82, 85, 86, 89, 90, 91, 94, 97, 99, 102, 103, 106, 107, 108, 111, 113, 114, 117, 118, 121, 122, 123, 125, 126, 129, 130, 133, 134, 135, 137, 138],
  [0, 0, 0, 6169, 0, 0, 0, 0, 6169, 0, 0, 0, 6172, 0, 0, 7052, 0, 0, 6187, 0, 0, 0, 0, 6169, 0, 0, 0, 0, 0, 0, 7089, 0, 0, 0, 0, 0, 0, 0, 0, 7212,
  0, 0, 0, 6021, 0, 0, 7216, 0, 0, 0, 0, 6021, 0, 0, 0, 0, 0, 0, 0, 6021, 0, 0, 0, 0, 0, 0, 6021, 0, 0, 0, 0, 0], 7, some .int, [7211, 7209, 7210, 1012], 1, 6)
def hm_M_laysCosts : hx_M := (⟨"HueWarModel", "laysCosts", "(IIZ)V"⟩, prog_13_method_78_code,
  [.bipush 0, .istore 4, .iload 4, .bipush 64, .if_icmp .ge 17, .aload 0, .getfield 1162, .iload 4, .iload 4, .iload 1, .if_icmp .ne 13, .bipush 0,
  .goto 14, .bipush 1000000000, .iastore, .iinc 4 1, .goto 2, .bipush 1, .istore 4, .iload 4, .ifCond .eq 90, .bipush 0, .istore 4, .bipush 0,
  .istore 5, .iload 5, .bipush 64, .if_icmp .ge 89, .bipush 0, .istore 6, .iload 6, .bipush 4, .if_icmp .ge 87, .aload 0, .getfield 1162, .iload 5,
  .iaload, .bipush 1000000000, .if_icmp .ge 87, .aload 0, .iload 5, .iload 6, .invokevirtual 274, .istore 7, .iload 7, .bipush (-1), .if_icmp .eq 85, .iload 3,
  .ifCond .eq 55, .aload 0, .iload 7, .iload 2, .invokevirtual 271, .ifCond .ne 55, .goto 85, .aload 0, .getfield 1162, .iload 5, .iaload, .bipush 1,
  .iadd, .aload 0, .iload 7, .iload 2, .invokevirtual 271, .ifCond .eq 68, .bipush 0, .goto 69, .bipush 100, .iadd, .istore 8, .iload 8,
  .aload 0, .getfield 1162, .iload 7, .iaload, .if_icmp .lt 78, .goto 85, .aload 0, .getfield 1162, .iload 7, .iload 8, .iastore, .bipush 1,
  .istore 4, .iinc 6 1, .goto 30, .iinc 5 1, .goto 25, .goto 19, .return_],
  [0, 1, 3, 5, 7, 10, 11, 14, 16, 18, 19, 22, 23, 26, 29, 30, 33, 36, 37, 39, 41, 44, 45, 47, 48, 50, 52, 54, 57, 58, 60, 62, 63, 66, 67, 70, 72, 73, 76, 79,
  80, 82, 84, 87, 89, 91, 92, 95, 96, 99, 100, 102, 103, 106, 109, 112, 113, 116, 118, 119, 120, 121, 122, 124, 125, 128, 131, 132, 135, 137, 138, 140, 142, 143, 146, 148, 149, 152, 155, 156,
  159, 161, 163, 164, 165, 167, 170, 173, 176, 179, 182],
  [0, 0, 0, 0, 0, 0, 6021, 0, 0, 0, 0, 0, 0, 7216, 0, 0, 0, 0, 0, 0, 0, 0, 0, 0, 0, 0, 0, 0, 0, 0, 0, 0, 0, 0, 6021, 0, 0, 7216, 0, 0,
  0, 0, 7217, 0, 0, 0, 0, 0, 0, 0, 0, 0, 7204, 0, 0, 0, 6021, 0, 0, 0, 0, 0, 0, 0, 7204, 0, 0, 0, 0, 0, 0, 0, 0, 6021, 0, 0, 0, 0, 0, 6021,
  0, 0, 0, 0, 0, 0, 0, 0, 0, 0, 0], 9, none, [7215, 7214, 102, 1012], 1, 3)
def hm_M_beside : hx_M := (⟨"HueWarModel", "beside", "(II)I"⟩, prog_13_method_77_code,
  [.iload 1, .bipush 8, .irem, .iload 2, .ifCond .ne 7, .bipush 1, .goto 13, .iload 2, .bipush 1, .if_icmp .ne 12, .bipush (-1), .goto 13,
  .bipush 0, .iadd, .istore 3, .iload 1, .bipush 8, .idiv, .iload 2, .bipush 2, .if_icmp .ne 23, .bipush 1, .goto 29, .iload 2,
  .bipush 3, .if_icmp .ne 28, .bipush (-1), .goto 29, .bipush 0, .iadd, .istore 4, .iload 3, .bipush 0, .bipush 7, .invokestatic 200, .ifCond .eq 47,
  .iload 4, .bipush 0, .bipush 7, .invokestatic 200, .ifCond .eq 47, .bipush 8, .iload 4, .imul, .iload 3, .iadd, .goto 48, .bipush (-1),
  .ireturn],
  [0, 1, 3, 4, 5, 8, 9, 12, 13, 14, 17, 18, 21, 22, 23, 24, 25, 27, 28, 29, 30, 33, 34, 37, 38, 39, 42, 43, 46, 47, 48, 50, 51, 52, 54, 57, 60, 62, 63, 65,
  68, 71, 73, 75, 76, 77, 78, 81, 82],
  [0, 0, 0, 0, 0, 0, 0, 0, 0, 0, 0, 0, 0, 0, 0, 0, 0, 0, 0, 0, 0, 0, 0, 0, 0, 0, 0, 0, 0, 0, 0, 0, 0, 0, 6169, 0, 0, 0, 0, 6169,
  0, 0, 0, 0, 0, 0, 0, 0, 0], 5, some .int, [7220, 7219, 103, 1012], 1, 2)
def hm_M_worth : hx_M := (⟨"HueWarModel", "worth", "(II)I"⟩, prog_13_method_82_code,
  [.iload 1, .invokestatic 232, .ifCond .eq 11, .iload 2, .invokestatic 205, .ifCond .eq 11, .aload 0, .iload 1, .iload 2, .invokevirtual 276, .goto 12, .bipush (-1),
  .ireturn],
  [0, 1, 4, 7, 8, 11, 14, 15, 16, 17, 20, 23, 24],
  [0, 7052, 0, 0, 6187, 0, 0, 0, 0, 7225, 0, 0, 0], 3, some .int, [7224, 7222, 7223, 1012], 1, 2)
def hm_M_worthOf : hx_M := (⟨"HueWarModel", "worthOf", "(II)I"⟩, prog_13_method_81_code,
  [.aload 0, .iload 1, .iload 2, .invokevirtual 233, .istore 3, .bipush 0, .istore 4, .bipush 0, .istore 5, .iload 5, .bipush 12, .if_icmp .ge 47,
  .iload 3, .iload 5, .invokestatic 202, .ifCond .eq 21, .aload 0, .iload 1, .iload 5, .invokevirtual 277, .goto 22, .bipush 0, .istore 6, .iload 6,
  .ifCond .ne 26, .goto 45, .aload 0, .iload 1, .iload 5, .iload 2, .invokevirtual 236, .aload 0, .getfield 1131, .bipush 7, .iload 6, .iastore,
  .iload 4, .iload 6, .aload 0, .bipush 118, .bipush 99, .invokevirtual 264, .imul, .iadd, .istore 4, .iinc 5 1, .goto 9, .iload 4,
  .ireturn],
  [0, 1, 2, 3, 6, 7, 8, 10, 11, 13, 15, 17, 20, 21, 23, 26, 29, 30, 31, 33, 36, 39, 40, 42, 44, 47, 50, 51, 52, 54, 55, 58, 59, 62, 64, 66, 67, 69, 71, 72,
  74, 76, 79, 80, 81, 83, 86, 89, 91],
  [0, 0, 0, 7055, 0, 0, 0, 0, 0, 0, 0, 0, 0, 0, 6176, 0, 0, 0, 0, 7229, 0, 0, 0, 0, 0, 0, 0, 0, 0, 0, 7067, 0, 5230, 0, 0, 0, 0, 0, 0, 0,
  0, 7176, 0, 0, 0, 0, 0, 0, 0], 7, some .int, [7228, 7227, 104, 1012], 1, 2)
def hm_M_ownedOf : hx_M := (⟨"HueWarModel", "ownedOf", "(II)I"⟩, prog_13_method_80_code,
  [.bipush 0, .istore 3, .bipush 0, .istore 4, .iload 4, .bipush 64, .if_icmp .ge 27, .iload 3, .aload 0, .getfield 1107, .iload 4, .iaload,
  .iload 1, .if_icmp .ne 22, .aload 0, .getfield 1106, .iload 4, .iaload, .iload 2, .if_icmp .ne 22, .bipush 1, .goto 23, .bipush 0, .iadd,
  .istore 3, .iinc 4 1, .goto 4, .iload 3, .ireturn],
  [0, 1, 2, 3, 5, 7, 9, 12, 13, 14, 17, 19, 20, 21, 24, 25, 28, 30, 31, 32, 35, 36, 39, 40, 41, 42, 45, 48, 49],
  [0, 0, 0, 0, 0, 0, 0, 0, 0, 5206, 0, 0, 0, 0, 0, 5205, 0, 0, 0, 0, 0, 0, 0, 0, 0, 0, 0, 0, 0], 5, some .int, [7232, 7231, 105, 1012], 1, 2)
def hm_M_gain : hx_M := (⟨"HueWarModel", "gain", "(III)I"⟩, prog_13_method_83_code,
  [.iload 1, .invokestatic 232, .ifCond .eq 21, .aload 0, .iload 2, .invokevirtual 204, .ifCond .eq 21, .iload 3, .invokestatic 205, .ifCond .eq 21, .aload 0, .getfield 1105,
  .bipush 4, .iload 2, .imul, .iload 3, .iadd, .iaload, .iload 1, .invokestatic 202, .ifCond .eq 23, .bipush (-1000000000), .ireturn, .aload 0,
  .iload 1, .iload 3, .invokevirtual 276, .istore 4, .aload 0, .iload 2, .bipush 1, .iload 3, .ishl, .iload 1, .bipush 1, .invokevirtual 252,
  .aload 0, .iload 1, .iload 3, .invokevirtual 276, .istore 5, .aload 0, .iload 2, .bipush 1, .iload 3, .ishl, .iload 1, .bipush 0,
  .invokevirtual 252, .iload 5, .iload 4, .isub, .ireturn],
  [0, 1, 4, 7, 8, 9, 12, 15, 16, 19, 22, 23, 26, 27, 28, 29, 30, 31, 32, 33, 36, 39, 42, 43, 44, 45, 46, 49, 51, 52, 53, 54, 55, 56, 57, 58, 61, 62, 63, 64,
  67, 69, 70, 71, 72, 73, 74, 75, 76, 79, 81, 83, 84],
  [0, 7052, 0, 0, 0, 6183, 0, 0, 6187, 0, 0, 5204, 0, 0, 0, 0, 0, 0, 0, 6176, 0, 7237, 0, 0, 0, 0, 7225, 0, 0, 0, 0, 0, 0, 0, 0, 7129, 0, 0, 0, 7225,
  0, 0, 0, 0, 0, 0, 0, 0, 7129, 0, 0, 0, 0], 6, some .int, [7236, 7234, 7235, 1012], 1, 3)
def hm_M_power : hx_M := (⟨"HueWarModel", "power", "(IIIII)I"⟩, prog_13_method_87_code,
  [.iload 1, .bipush 1, .bipush 4095, .invokestatic 200, .ifCond .eq 29, .iload 1, .invokestatic 237, .bipush 5, .if_icmp .gt 29, .iload 2, .bipush 0, .bipush 11,
  .invokestatic 200, .ifCond .eq 29, .iload 1, .iload 2, .invokestatic 202, .ifCond .eq 29, .iload 3, .invokestatic 232, .ifCond .eq 29, .iload 4, .invokestatic 205, .ifCond .eq 29,
  .iload 5, .bipush 0, .bipush 1, .invokestatic 200, .ifCond .ne 31, .bipush (-1000000000), .ireturn, .bipush 0, .istore 6, .iload 6, .bipush 12, .if_icmp .ge 48,
  .iload 1, .iload 6, .invokestatic 202, .ifCond .eq 46, .aload 0, .iload 6, .invokevirtual 204, .ifCond .ne 46, .bipush (-1000000000), .ireturn, .iinc 6 1, .goto 33,
  .aload 0, .invokevirtual 254, .iload 1, .invokestatic 237, .istore 6, .bipush 0, .istore 7, .bipush 0, .istore 8, .iload 8, .bipush 4096, .if_icmp .ge 103,
  .iload 8, .iload 1, .bipush (-1), .ixor, .iand, .ifCond .ne 101, .iload 8, .iload 2, .invokestatic 202, .ifCond .eq 71, .goto 101, .iload 7,
  .iload 8, .invokestatic 237, .invokestatic 280, .iload 6, .bipush 1, .isub, .iload 8, .invokestatic 237, .isub, .invokestatic 280, .imul, .aload 0,
  .iload 8, .bipush 1, .iload 2, .ishl, .ior, .iload 3, .iload 4, .invokevirtual 281, .aload 0, .iload 8, .iload 3, .iload 4,
  .invokevirtual 281, .isub, .imul, .iadd, .istore 7, .iinc 8 1, .goto 57, .iload 7, .iload 6, .invokestatic 280, .invokestatic 282, .istore 8,
  .iload 5, .ifCond .ne 114, .iload 7, .iload 8, .idiv, .goto 118, .iload 6, .invokestatic 280, .iload 8, .idiv, .ireturn],
  [0, 1, 2, 5, 8, 11, 12, 15, 16, 19, 20, 21, 23, 26, 29, 30, 31, 34, 37, 38, 41, 44, 46, 49, 52, 54, 55, 56, 59, 62, 65, 66, 67, 69, 71, 73, 76, 77, 79, 82,
  85, 86, 88, 91, 94, 97, 98, 101, 104, 105, 108, 109, 112, 114, 115, 117, 118, 120, 122, 125, 128, 130, 131, 132, 133, 134, 137, 139, 140, 143, 146, 149, 151, 153, 156, 159, 161, 162, 163, 165,
  168, 169, 172, 173, 174, 176, 177, 178, 179, 180, 181, 183, 186, 187, 189, 190, 192, 195, 196, 197, 198, 200, 203, 206, 208, 210, 213, 216, 218, 220, 223, 225, 227, 228, 231, 233, 236, 238, 239],
  [0, 0, 0, 6169, 0, 0, 7071, 0, 0, 0, 0, 0, 6169, 0, 0, 0, 6176, 0, 0, 7052, 0, 0, 6187, 0, 0, 0, 0, 6169, 0, 7237, 0, 0, 0, 0, 0, 0, 0, 0, 6176, 0,
  0, 0, 6183, 0, 7237, 0, 0, 0, 0, 7137, 0, 7071, 0, 0, 0, 0, 0, 0, 0, 0, 0, 0, 0, 0, 0, 0, 0, 0, 6176, 0, 0, 0, 0, 7071, 8002, 0, 0, 0, 0, 7071,
  0, 8002, 0, 0, 0, 0, 0, 0, 0, 0, 0, 8005, 0, 0, 0, 0, 8005, 0, 0, 0, 0, 0, 0, 0, 0, 8002, 8009, 0, 0, 0, 0, 0, 0, 0, 0, 8002, 0, 0, 0], 9, some .int, [8001, 7239, 8000, 1012], 1, 5)
def hm_M_orders : hx_M := (⟨"HueWarModel", "orders", "(I)I"⟩, prog_13_method_85_code,
  [.bipush 1, .istore 1, .bipush 2, .istore 2, .iload 2, .iload 0, .if_icmp .gt 13, .iload 1, .iload 2, .imul, .istore 1, .iinc 2 1,
  .goto 4, .iload 1, .ireturn],
  [0, 1, 2, 3, 4, 5, 6, 9, 10, 11, 12, 13, 16, 19, 20],
  [0, 0, 0, 0, 0, 0, 0, 0, 0, 0, 0, 0, 0, 0, 0], 3, some .int, [8004, 8003, 1012], 0, 1)
def hm_M_worthWith : hx_M := (⟨"HueWarModel", "worthWith", "(III)I"⟩, prog_13_method_86_code,
  [.bipush 0, .istore 4, .iload 4, .bipush 12, .if_icmp .ge 21, .aload 0, .iload 4, .invokevirtual 204, .ifCond .eq 19, .aload 0, .iload 4, .bipush 1,
  .iload 3, .ishl, .iload 2, .iload 1, .iload 4, .invokestatic 202, .invokevirtual 252, .iinc 4 1, .goto 2, .aload 0, .iload 2, .iload 3,
  .invokevirtual 276, .istore 4, .aload 0, .invokevirtual 257, .iload 4, .ireturn],
  [0, 1, 3, 5, 7, 10, 11, 13, 16, 19, 20, 22, 23, 24, 25, 26, 27, 29, 32, 35, 38, 41, 42, 43, 44, 47, 49, 50, 53, 55],
  [0, 0, 0, 0, 0, 0, 0, 6183, 0, 0, 0, 0, 0, 0, 0, 0, 0, 6176, 7129, 0, 0, 0, 0, 0, 7225, 0, 0, 7148, 0, 0], 5, some .int, [8008, 8007, 106, 1012], 1, 3)
def hm_M_gcd : hx_M := (⟨"HueWarModel", "gcd", "(II)I"⟩, prog_13_method_84_code,
  [.iload 0, .ifCond .ge 5, .iload 0, .ineg, .goto 6, .iload 0, .istore 2, .iload 1, .istore 3, .iload 3, .ifCond .eq 20, .iload 2,
  .iload 3, .irem, .istore 4, .iload 3, .istore 2, .iload 4, .istore 3, .goto 9, .iload 2, .ireturn],
  [0, 1, 4, 5, 6, 9, 10, 11, 12, 13, 14, 17, 18, 19, 20, 22, 23, 24, 26, 27, 30, 31],
  [0, 0, 0, 0, 0, 0, 0, 0, 0, 0, 0, 0, 0, 0, 0, 0, 0, 0, 0, 0, 0, 0], 5, some .int, [8011, 8010, 1012], 0, 2)
def hm_M_signals : hx_M := (⟨"HueWarModel", "signals", "(IIIII)I"⟩, prog_13_method_92_code,
  [.iload 2, .bipush 1, .bipush 63, .invokestatic 200, .ifCond .eq 30, .iload 3, .bipush 0, .bipush 63, .invokestatic 200, .ifCond .eq 30, .iload 2, .iload 3,
  .iand, .ifCond .ne 30, .iload 4, .invokestatic 205, .ifCond .eq 30, .iload 5, .bipush 0, .bipush 2, .invokestatic 200, .ifCond .eq 30, .iload 5, .bipush 2,
  .if_icmp .ge 32, .iload 1, .bipush 2, .bipush 6, .invokestatic 200, .ifCond .ne 32, .bipush (-1), .ireturn, .aload 0, .iload 4, .invokevirtual 284, .bipush 0,
  .istore 6, .bipush (-2), .istore 7, .bipush 0, .istore 8, .bipush 0, .istore 9, .iload 9, .bipush 4096, .if_icmp .ge 88, .iload 9, .aload 0,
  .getfield 1100, .bipush (-1), .ixor, .iand, .ifCond .ne 86, .iload 9, .invokestatic 237, .bipush 2, .bipush 6, .invokestatic 200, .ifCond .eq 86, .aload 0,
  .iload 9, .iload 2, .iload 3, .invokevirtual 285, .ifCond .ne 66, .goto 86, .iload 8, .iload 9, .invokestatic 237, .invokestatic 288, .istore 8, .iload 9,
  .invokestatic 237, .iload 1, .if_icmp .eq 76, .goto 86, .iload 6, .ifCond .ne 80, .iload 9, .goto 81, .iload 7, .istore 7, .iload 6, .bipush 1,
  .iadd, .istore 6, .iinc 9 1, .goto 43, .iload 5, .ifCond .ne 92, .iload 6, .goto 98, .iload 5, .bipush 1, .if_icmp .ne 97, .iload 7,
  .goto 98, .iload 8, .ireturn],
  [0, 1, 2, 4, 7, 10, 11, 12, 14, 17, 20, 21, 22, 23, 26, 28, 31, 34, 36, 37, 38, 41, 44, 46, 47, 50, 51, 52, 54, 57, 60, 61, 62, 63, 65, 68, 69, 71, 73, 75,
  76, 78, 79, 81, 83, 86, 89, 91, 92, 95, 96, 97, 98, 101, 103, 106, 107, 109, 112, 115, 116, 118, 119, 120, 123, 126, 129, 131, 133, 136, 139, 141, 143, 146, 147, 150, 153, 155, 158, 160,
  163, 165, 167, 169, 170, 171, 173, 176, 179, 181, 184, 186, 189, 191, 192, 195, 197, 200, 202],
  [0, 0, 0, 6169, 0, 0, 0, 0, 6169, 0, 0, 0, 0, 0, 0, 6187, 0, 0, 0, 0, 6169, 0, 0, 0, 0, 0, 0, 0, 6169, 0, 0, 0, 0, 0, 8016, 0, 0, 0, 0, 0,
  0, 0, 0, 0, 0, 0, 0, 0, 5199, 0, 0, 0, 0, 0, 7071, 0, 0, 6169, 0, 0, 0, 0, 0, 8020, 0, 0, 0, 0, 7071, 8032, 0, 0, 7071, 0, 0, 0, 0, 0, 0, 0,
  0, 0, 0, 0, 0, 0, 0, 0, 0, 0, 0, 0, 0, 0, 0, 0, 0, 0, 0], 10, some .int, [8015, 8013, 8014, 1012], 1, 5)
def hm_M_laysAll : hx_M := (⟨"HueWarModel", "laysAll", "(I)V"⟩, prog_13_method_88_code,
  [.bipush 0, .istore 2, .iload 2, .bipush 6, .if_icmp .ge 30, .aload 0, .iload 2, .iload 1, .invokevirtual 242, .bipush 0, .istore 3, .iload 3,
  .bipush 12, .if_icmp .ge 28, .aload 0, .getfield 1163, .bipush 12, .iload 2, .imul, .iload 3, .iadd, .aload 0, .getfield 1132, .iload 3,
  .iaload, .iastore, .iinc 3 1, .goto 11, .iinc 2 1, .goto 2, .return_],
  [0, 1, 2, 3, 5, 8, 9, 10, 11, 14, 15, 16, 17, 19, 22, 23, 26, 28, 29, 30, 31, 32, 33, 36, 37, 38, 39, 42, 45, 48, 51],
  [0, 0, 0, 0, 0, 0, 0, 0, 7089, 0, 0, 0, 0, 0, 0, 6022, 0, 0, 0, 0, 0, 0, 5231, 0, 0, 0, 0, 0, 0, 0, 0], 4, none, [8019, 8018, 107, 1012], 1, 1)
def hm_M_isSignal : hx_M := (⟨"HueWarModel", "isSignal", "(III)Z"⟩, prog_13_method_91_code,
  [.bipush 0, .istore 4, .iload 4, .bipush 6, .if_icmp .ge 27, .iload 2, .iload 4, .invokestatic 202, .ifCond .eq 14, .aload 0, .iload 1, .iload 4,
  .invokevirtual 286, .ifCond .eq 23, .iload 3, .iload 4, .invokestatic 202, .ifCond .eq 25, .aload 0, .iload 1, .iload 4, .invokevirtual 287, .ifCond .ne 25, .bipush 0,
  .ireturn, .iinc 4 1, .goto 2, .bipush 1, .ireturn],
  [0, 1, 3, 5, 7, 10, 11, 13, 16, 19, 20, 21, 23, 26, 29, 30, 32, 35, 38, 39, 40, 42, 45, 48, 49, 50, 53, 56, 57],
  [0, 0, 0, 0, 0, 0, 0, 6176, 0, 0, 0, 0, 8024, 0, 0, 0, 6176, 0, 0, 0, 0, 8028, 0, 0, 0, 0, 0, 0, 0], 5, some .boolean, [8023, 8022, 108, 1012], 1, 3)
def hm_M_tellsApart : hx_M := (⟨"HueWarModel", "tellsApart", "(II)Z"⟩, prog_13_method_89_code,
  [.bipush 0, .istore 3, .bipush 0, .istore 4, .iload 4, .bipush 12, .if_icmp .ge 38, .iload 1, .iload 4, .invokestatic 202, .ifCond .ne 12, .goto 36,
  .aload 0, .getfield 1163, .bipush 12, .iload 2, .imul, .iload 4, .iadd, .iaload, .istore 5, .iload 5, .bipush 12, .if_icmp .eq 28,
  .iload 3, .iload 5, .invokestatic 202, .ifCond .eq 30, .bipush 0, .ireturn, .iload 3, .bipush 1, .iload 5, .ishl, .ior, .istore 3,
  .iinc 4 1, .goto 4, .bipush 1, .ireturn],
  [0, 1, 2, 3, 5, 7, 9, 12, 13, 15, 18, 21, 24, 25, 28, 30, 31, 32, 34, 35, 36, 38, 40, 42, 45, 46, 48, 51, 54, 55, 56, 57, 58, 60, 61, 62, 63, 66, 69, 70],
  [0, 0, 0, 0, 0, 0, 0, 0, 0, 6176, 0, 0, 0, 6022, 0, 0, 0, 0, 0, 0, 0, 0, 0, 0, 0, 0, 6176, 0, 0, 0, 0, 0, 0, 0, 0, 0, 0, 0, 0, 0], 6, some .boolean, [8027, 8026, 109, 1012], 1, 2)
def hm_M_seesOne : hx_M := (⟨"HueWarModel", "seesOne", "(II)Z"⟩, prog_13_method_90_code,
  [.bipush (-1), .istore 3, .bipush 0, .istore 4, .iload 4, .bipush 12, .if_icmp .ge 38, .iload 1, .iload 4, .invokestatic 202, .ifCond .ne 12, .goto 36,
  .iload 3, .bipush (-1), .if_icmp .eq 27, .aload 0, .getfield 1163, .bipush 12, .iload 2, .imul, .iload 4, .iadd, .iaload, .iload 3,
  .if_icmp .eq 27, .bipush 0, .ireturn, .aload 0, .getfield 1163, .bipush 12, .iload 2, .imul, .iload 4, .iadd, .iaload, .istore 3,
  .iinc 4 1, .goto 4, .bipush 1, .ireturn],
  [0, 1, 2, 3, 5, 7, 9, 12, 13, 15, 18, 21, 24, 25, 26, 29, 30, 33, 35, 36, 37, 39, 40, 41, 42, 45, 46, 47, 48, 51, 53, 54, 55, 57, 58, 59, 60, 63, 66, 67],
  [0, 0, 0, 0, 0, 0, 0, 0, 0, 6176, 0, 0, 0, 0, 0, 0, 6022, 0, 0, 0, 0, 0, 0, 0, 0, 0, 0, 0, 6022, 0, 0, 0, 0, 0, 0, 0, 0, 0, 0, 0], 5, some .boolean, [8031, 8030, 110, 1012], 1, 2)
def hm_M_max : hx_M := (⟨"HueWarModel", "max", "(II)I"⟩, prog_13_method_4_code,
  [.iload 0, .iload 1, .if_icmp .le 5, .iload 0, .goto 6, .iload 1, .ireturn],
  [0, 1, 2, 5, 6, 9, 10],
  [0, 0, 0, 0, 0, 0, 0], 2, some .int, [8034, 8033, 1012], 0, 2)
def hm_M_parted : hx_M := (⟨"HueWarModel", "parted", "(II)I"⟩, prog_13_method_95_code,
  [.iload 1, .bipush 2, .bipush 3, .invokestatic 200, .ifCond .eq 21, .iload 2, .bipush 0, .bipush 1, .invokestatic 200, .ifCond .ne 15, .iload 2, .bipush 10,
  .bipush 13, .invokestatic 200, .ifCond .eq 21, .bipush 4, .iload 1, .imul, .aload 0, .getfield 1109, .if_icmp .le 23, .bipush (-1), .ireturn, .aload 0,
  .bipush 0, .putfield 1109, .bipush 0, .istore 3, .iload 3, .bipush 4, .iload 1, .imul, .if_icmp .ge 45, .aload 0, .getfield 1108, .iload 3,
  .baload, .bipush 255, .iand, .bipush 99, .if_icmp .le 43, .bipush (-2), .ireturn, .iinc 3 1, .goto 28, .bipush 0, .istore 3, .bipush 1,
  .istore 4, .iload 4, .iload 1, .iload 1, .imul, .iload 1, .imul, .iload 1, .imul, .if_icmp .ge 71, .aload 0, .iload 1,
  .iload 4, .invokevirtual 290, .aload 0, .iload 1, .iload 3, .invokevirtual 290, .if_icmp .le 69, .iload 4, .istore 3, .iinc 4 1, .goto 49, .iload 2,
  .ifCond .ne 78, .aload 0, .iload 1, .iload 3, .invokevirtual 290, .ireturn, .iload 2, .bipush 1, .if_icmp .ne 118, .bipush 0, .istore 4, .bipush 0,
  .istore 5, .iload 5, .iload 1, .if_icmp .ge 116, .bipush 0, .istore 6, .iload 6, .iload 1, .if_icmp .ge 114, .iload 4, .aload 0, .iload 1,
  .iload 5, .iload 6, .iload 3, .invokevirtual 291, .aload 0, .iload 1, .iload 5, .iload 5, .iload 3, .invokevirtual 291, .if_icmp .le 109, .bipush 1,
  .goto 110, .bipush 0, .iadd, .istore 4, .iinc 6 1, .goto 90, .iinc 5 1, .goto 85, .iload 4, .ireturn, .iload 3, .istore 4,
  .bipush 3, .istore 5, .iload 5, .iload 2, .bipush 10, .isub, .if_icmp .le 133, .iload 4, .iload 1, .idiv, .istore 4, .iinc 5 (-1),
  .goto 122, .iload 4, .iload 1, .irem, .ireturn],
  [0, 1, 2, 3, 6, 9, 10, 11, 12, 15, 18, 19, 21, 23, 26, 29, 30, 31, 32, 33, 36, 39, 40, 41, 42, 43, 46, 47, 48, 49, 50, 51, 52, 55, 56, 59, 60, 61, 64, 65,
  67, 70, 72, 73, 76, 79, 80, 81, 82, 84, 86, 87, 88, 89, 90, 91, 92, 93, 96, 97, 98, 100, 103, 104, 105, 106, 109, 112, 114, 115, 118, 121, 122, 125, 126, 127, 128, 131, 132, 133,
  134, 137, 138, 140, 141, 143, 145, 146, 149, 150, 152, 154, 155, 158, 160, 161, 162, 164, 166, 167, 170, 171, 172, 174, 176, 177, 180, 183, 184, 187, 188, 189, 191, 194, 197, 200, 203, 205, 206, 207,
  209, 210, 212, 214, 215, 217, 218, 221, 223, 224, 225, 227, 230, 233, 235, 236, 237],
  [0, 0, 0, 6169, 0, 0, 0, 0, 6169, 0, 0, 0, 0, 6169, 0, 0, 0, 0, 0, 5208, 0, 0, 0, 0, 0, 5208, 0, 0, 0, 0, 0, 0, 0, 0, 5207, 0, 0, 0, 0, 0,
  0, 0, 0, 0, 0, 0, 0, 0, 0, 0, 0, 0, 0, 0, 0, 0, 0, 0, 0, 0, 0, 8039, 0, 0, 0, 8039, 0, 0, 0, 0, 0, 0, 0, 0, 0, 0, 8039, 0, 0, 0,
  0, 0, 0, 0, 0, 0, 0, 0, 0, 0, 0, 0, 0, 0, 0, 0, 0, 0, 0, 8043, 0, 0, 0, 0, 0, 8043, 0, 0, 0, 0, 0, 0, 0, 0, 0, 0, 0, 0, 0, 0,
  0, 0, 0, 0, 0, 0, 0, 0, 0, 0, 0, 0, 0, 0, 0, 0, 0], 7, some .int, [8038, 8036, 8037, 1012], 1, 2)
def hm_M_leastBy : hx_M := (⟨"HueWarModel", "leastBy", "(II)I"⟩, prog_13_method_94_code,
  [.bipush 1000000000, .istore 3, .bipush 0, .istore 4, .iload 4, .iload 1, .if_icmp .ge 18, .iload 3, .aload 0, .iload 1, .iload 4, .iload 4,
  .iload 2, .invokevirtual 291, .invokestatic 292, .istore 3, .iinc 4 1, .goto 4, .iload 3, .ireturn],
  [0, 3, 4, 5, 7, 9, 10, 13, 14, 15, 16, 18, 20, 21, 24, 27, 28, 31, 34, 35],
  [7216, 0, 0, 0, 0, 0, 0, 0, 0, 0, 0, 0, 0, 8043, 8047, 0, 0, 0, 0, 0], 5, some .int, [8042, 8041, 111, 1012], 1, 2)
def hm_M_hasBy : hx_M := (⟨"HueWarModel", "hasBy", "(IIII)I"⟩, prog_13_method_93_code,
  [.bipush 0, .istore 5, .iload 4, .istore 6, .bipush 3, .istore 7, .iload 7, .ifCond .lt 32, .iload 6, .iload 1, .irem, .iload 3,
  .if_icmp .ne 26, .iload 5, .aload 0, .getfield 1108, .bipush 4, .iload 2, .imul, .iload 7, .iadd, .baload, .bipush 255, .iand,
  .iadd, .istore 5, .iload 6, .iload 1, .idiv, .istore 6, .iinc 7 (-1), .goto 6, .iload 5, .ireturn],
  [0, 1, 3, 5, 7, 8, 10, 12, 15, 17, 18, 19, 20, 23, 25, 26, 29, 30, 31, 32, 34, 35, 36, 39, 40, 41, 43, 45, 46, 47, 49, 52, 55, 57],
  [0, 0, 0, 0, 0, 0, 0, 0, 0, 0, 0, 0, 0, 0, 0, 5207, 0, 0, 0, 0, 0, 0, 0, 0, 0, 0, 0, 0, 0, 0, 0, 0, 0, 0], 8, some .int, [8046, 8045, 112, 1012], 1, 4)
def hm_M_min : hx_M := (⟨"HueWarModel", "min", "(II)I"⟩, prog_13_method_3_code,
  [.iload 0, .iload 1, .if_icmp .ge 5, .iload 0, .goto 6, .iload 1, .ireturn],
  [0, 1, 2, 5, 6, 9, 10],
  [0, 0, 0, 0, 0, 0, 0], 2, some .int, [8049, 8048, 1012], 0, 2)
def hm_M_battle : hx_M := (⟨"HueWarModel", "battle", "(IIII)I"⟩, prog_13_method_99_code,
  [.iload 1, .invokestatic 232, .ifCond .eq 17, .iload 2, .invokestatic 232, .ifCond .eq 17, .iload 1, .iload 2, .if_icmp .eq 17, .iload 3, .invokestatic 205, .ifCond .eq 17,
  .iload 4, .bipush 0, .bipush 2, .invokestatic 200, .ifCond .ne 19, .bipush (-1), .ireturn, .aload 0, .iload 1, .iload 2, .iload 3, .invokevirtual 294,
  .bipush 0, .istore 5, .bipush (-1), .istore 6, .bipush 0, .istore 7, .iload 7, .bipush 144, .if_icmp .ge 56, .aload 0, .getfield 1166, .iload 7,
  .baload, .ifCond .eq 54, .aload 0, .iload 7, .invokevirtual 296, .ifCond .ne 43, .goto 54, .iload 6, .bipush (-1), .if_icmp .ne 48, .iload 7, .goto 49,
  .iload 6, .istore 6, .iload 5, .bipush 1, .iadd, .istore 5, .iinc 7 1, .goto 30, .iload 4, .ifCond .ne 60, .iload 5, .goto 75,
  .iload 6, .bipush (-1), .if_icmp .ne 65, .bipush (-2), .goto 75, .iload 4, .bipush 1, .if_icmp .ne 72, .iload 6, .bipush 12, .idiv, .goto 75,
  .iload 6, .bipush 12, .irem, .ireturn],
  [0, 1, 4, 7, 8, 11, 14, 15, 16, 19, 20, 23, 26, 28, 29, 30, 33, 36, 37, 38, 39, 40, 41, 42, 45, 46, 48, 49, 51, 52, 54, 56, 59, 62, 63, 66, 68, 69, 72, 73,
  75, 78, 81, 84, 86, 87, 90, 92, 95, 97, 99, 101, 102, 103, 105, 108, 111, 113, 116, 118, 121, 123, 124, 127, 129, 132, 134, 135, 138, 140, 142, 143, 146, 148, 150, 151],
  [0, 7052, 0, 0, 7052, 0, 0, 0, 0, 0, 6187, 0, 0, 0, 0, 6169, 0, 0, 0, 0, 0, 0, 0, 8054, 0, 0, 0, 0, 0, 0, 0, 0, 0, 0, 6025, 0, 0, 0, 0, 0,
  8062, 0, 0, 0, 0, 0, 0, 0, 0, 0, 0, 0, 0, 0, 0, 0, 0, 0, 0, 0, 0, 0, 0, 0, 0, 0, 0, 0, 0, 0, 0, 0, 0, 0, 0, 0], 8, some .int, [8053, 8051, 8052, 1012], 1, 4)
def hm_M_laysFights : hx_M := (⟨"HueWarModel", "laysFights", "(III)V"⟩, prog_13_method_97_code,
  [.aload 0, .invokevirtual 254, .bipush 0, .istore 4, .iload 4, .bipush 144, .if_icmp .ge 94, .iload 4, .bipush 12, .idiv, .istore 5, .iload 4,
  .bipush 12, .irem, .istore 6, .aload 0, .getfield 1166, .iload 4, .aload 0, .iload 1, .iload 2, .iload 5, .iload 3, .invokevirtual 295,
  .ifCond .eq 34, .aload 0, .iload 2, .iload 1, .iload 6, .iload 3, .invokevirtual 295, .ifCond .eq 34, .bipush 1, .goto 35, .bipush 0, .bastore,
  .aload 0, .getfield 1166, .iload 4, .baload, .ifCond .ne 42, .goto 92, .aload 0, .iload 5, .bipush 1, .iload 3, .ishl, .iload 1,
  .bipush 1, .invokevirtual 252, .aload 0, .iload 5, .bipush 1, .iload 3, .ishl, .iload 2, .bipush 0, .invokevirtual 252, .aload 0, .iload 6,
  .bipush 1, .iload 3, .ishl, .iload 2, .bipush 1, .invokevirtual 252, .aload 0, .iload 6, .bipush 1, .iload 3, .ishl, .iload 1,
  .bipush 0, .invokevirtual 252, .aload 0, .getfield 1164, .iload 4, .aload 0, .iload 1, .iload 3, .invokevirtual 276, .iastore, .aload 0, .getfield 1165,
  .iload 4, .aload 0, .iload 2, .iload 3, .invokevirtual 276, .iastore, .aload 0, .invokevirtual 257, .iinc 4 1, .goto 4, .return_],
  [0, 1, 4, 5, 7, 9, 12, 15, 17, 19, 20, 22, 24, 26, 27, 29, 30, 33, 35, 36, 37, 38, 40, 41, 44, 47, 48, 49, 50, 52, 53, 56, 59, 60, 63, 64, 65, 66, 69, 71,
  72, 75, 78, 79, 81, 82, 83, 84, 85, 86, 89, 90, 92, 93, 94, 95, 96, 97, 100, 101, 103, 104, 105, 106, 107, 108, 111, 112, 114, 115, 116, 117, 118, 119, 122, 123, 126, 128, 129, 130,
  131, 134, 135, 136, 139, 141, 142, 143, 144, 147, 148, 149, 152, 155, 158],
  [0, 7137, 0, 0, 0, 0, 0, 0, 0, 0, 0, 0, 0, 0, 0, 0, 6025, 0, 0, 0, 0, 0, 0, 8058, 0, 0, 0, 0, 0, 0, 8058, 0, 0, 0, 0, 0, 0, 6025, 0, 0,
  0, 0, 0, 0, 0, 0, 0, 0, 0, 7129, 0, 0, 0, 0, 0, 0, 0, 7129, 0, 0, 0, 0, 0, 0, 0, 7129, 0, 0, 0, 0, 0, 0, 0, 7129, 0, 6023, 0, 0, 0, 0,
  7225, 0, 0, 6024, 0, 0, 0, 0, 7225, 0, 0, 7148, 0, 0, 0], 7, none, [8057, 8056, 113, 1012], 1, 3)
def hm_M_canTake : hx_M := (⟨"HueWarModel", "canTake", "(IIII)Z"⟩, prog_13_method_96_code,
  [.aload 0, .iload 3, .invokevirtual 204, .ifCond .eq 28, .aload 0, .getfield 1105, .bipush 4, .iload 3, .imul, .iload 4, .iadd, .iaload,
  .iload 2, .invokestatic 202, .ifCond .eq 28, .aload 0, .getfield 1105, .bipush 4, .iload 3, .imul, .iload 4, .iadd, .iaload, .iload 1,
  .invokestatic 202, .ifCond .ne 28, .bipush 1, .goto 29, .bipush 0, .ireturn],
  [0, 1, 2, 5, 8, 9, 12, 13, 14, 15, 17, 18, 19, 20, 23, 26, 27, 30, 31, 32, 33, 35, 36, 37, 38, 41, 44, 45, 48, 49],
  [0, 0, 6183, 0, 0, 5204, 0, 0, 0, 0, 0, 0, 0, 6176, 0, 0, 5204, 0, 0, 0, 0, 0, 0, 0, 6176, 0, 0, 0, 0, 0], 5, some .boolean, [8061, 8060, 114, 1012], 1, 4)
def hm_M_rests : hx_M := (⟨"HueWarModel", "rests", "(I)Z"⟩, prog_13_method_98_code,
  [.bipush 0, .istore 2, .iload 2, .bipush 12, .if_icmp .ge 55, .bipush 12, .iload 2, .imul, .iload 1, .bipush 12, .irem, .iadd,
  .istore 3, .aload 0, .getfield 1166, .iload 3, .baload, .ifCond .eq 29, .aload 0, .getfield 1164, .iload 3, .iaload, .aload 0, .getfield 1164,
  .iload 1, .iaload, .if_icmp .le 29, .bipush 0, .ireturn, .iload 1, .bipush 12, .idiv, .bipush 12, .imul, .iload 2, .iadd,
  .istore 3, .aload 0, .getfield 1166, .iload 3, .baload, .ifCond .eq 53, .aload 0, .getfield 1165, .iload 3, .iaload, .aload 0, .getfield 1165,
  .iload 1, .iaload, .if_icmp .le 53, .bipush 0, .ireturn, .iinc 2 1, .goto 2, .bipush 1, .ireturn],
  [0, 1, 2, 3, 5, 8, 10, 11, 12, 13, 15, 16, 17, 18, 19, 22, 23, 24, 27, 28, 31, 32, 33, 34, 37, 38, 39, 42, 43, 44, 45, 47, 48, 50, 51, 52, 53, 54, 55, 58,
  59, 60, 63, 64, 67, 68, 69, 70, 73, 74, 75, 78, 79, 80, 83, 86, 87],
  [0, 0, 0, 0, 0, 0, 0, 0, 0, 0, 0, 0, 0, 0, 6025, 0, 0, 0, 0, 6023, 0, 0, 0, 6023, 0, 0, 0, 0, 0, 0, 0, 0, 0, 0, 0, 0, 0, 0, 6025, 0,
  0, 0, 0, 6024, 0, 0, 0, 6024, 0, 0, 0, 0, 0, 0, 0, 0, 0], 4, some .boolean, [8065, 8064, 115, 1012], 1, 1)
def hm_M_spies : hx_M := (⟨"HueWarModel", "spies", "(II)I"⟩, prog_13_method_104_code,
  [.iload 1, .bipush 1, .bipush 10, .invokestatic 200, .ifCond .eq 16, .iload 2, .bipush 0, .bipush 2, .invokestatic 200, .ifCond .eq 16, .bipush 3, .iload 1,
  .imul, .aload 0, .getfield 1109, .if_icmp .le 18, .bipush (-1), .ireturn, .aload 0, .bipush 0, .putfield 1109, .aload 0, .iload 1, .invokevirtual 298,
  .ifCond .ne 27, .bipush (-2), .ireturn, .aload 0, .iload 1, .invokevirtual 299, .istore 3, .iload 2, .ifCond .ne 35, .iload 3, .ireturn, .bipush (-1),
  .istore 4, .bipush 1000000000, .istore 5, .bipush 0, .istore 6, .iload 6, .bipush 48, .if_icmp .ge 71, .aload 0, .iload 6, .bipush 4, .idiv,
  .invokevirtual 201, .ifCond .ne 51, .goto 69, .aload 0, .iload 3, .iload 6, .bipush 4, .idiv, .iload 6, .bipush 4, .irem, .invokevirtual 301,
  .istore 7, .iload 7, .iload 5, .if_icmp .lt 65, .goto 69, .iload 7, .istore 5, .iload 6, .istore 4, .iinc 6 1, .goto 41, .iload 2,
  .bipush 1, .if_icmp .ne 78, .iload 4, .bipush 4, .idiv, .goto 81, .iload 4, .bipush 4, .irem, .ireturn],
  [0, 1, 2, 4, 7, 10, 11, 12, 13, 16, 19, 20, 21, 22, 23, 26, 29, 30, 31, 32, 33, 36, 37, 38, 41, 44, 46, 47, 48, 49, 52, 53, 54, 57, 58, 59, 60, 62, 65, 67,
  68, 70, 72, 74, 77, 78, 80, 81, 82, 85, 88, 91, 92, 93, 95, 96, 97, 99, 100, 101, 104, 106, 108, 110, 113, 116, 118, 120, 122, 124, 127, 130, 131, 132, 135, 137, 138, 139, 142, 144,
  145, 146],
  [0, 0, 0, 6169, 0, 0, 0, 0, 6169, 0, 0, 0, 0, 0, 5208, 0, 0, 0, 0, 0, 5208, 0, 0, 8070, 0, 0, 0, 0, 0, 8074, 0, 0, 0, 0, 0, 0, 0, 7216, 0, 0,
  0, 0, 0, 0, 0, 0, 0, 0, 6172, 0, 0, 0, 0, 0, 0, 0, 0, 0, 0, 8082, 0, 0, 0, 0, 0, 0, 0, 0, 0, 0, 0, 0, 0, 0, 0, 0, 0, 0, 0, 0,
  0, 0], 8, some .int, [8069, 8067, 8068, 1012], 1, 2)
def hm_M_areShown : hx_M := (⟨"HueWarModel", "areShown", "(I)Z"⟩, prog_13_method_101_code,
  [.bipush 0, .istore 2, .iload 2, .iload 1, .if_icmp .ge 44, .aload 0, .aload 0, .getfield 1108, .bipush 3, .iload 2, .imul, .baload,
  .bipush 255, .iand, .invokevirtual 201, .ifCond .eq 40, .aload 0, .getfield 1108, .bipush 3, .iload 2, .imul, .bipush 1, .iadd, .baload,
  .bipush 255, .iand, .bipush 3, .if_icmp .gt 40, .aload 0, .getfield 1108, .bipush 3, .iload 2, .imul, .bipush 2, .iadd, .baload,
  .bipush 255, .iand, .bipush 1, .if_icmp .le 42, .bipush 0, .ireturn, .iinc 2 1, .goto 2, .bipush 1, .ireturn],
  [0, 1, 2, 3, 4, 7, 8, 9, 12, 13, 14, 15, 16, 19, 20, 23, 26, 27, 30, 31, 32, 33, 34, 35, 36, 39, 40, 41, 44, 45, 48, 49, 50, 51, 52, 53, 54, 57, 58, 59,
  62, 63, 64, 67, 70, 71],
  [0, 0, 0, 0, 0, 0, 0, 5207, 0, 0, 0, 0, 0, 0, 6172, 0, 0, 5207, 0, 0, 0, 0, 0, 0, 0, 0, 0, 0, 0, 5207, 0, 0, 0, 0, 0, 0, 0, 0, 0, 0,
  0, 0, 0, 0, 0, 0], 3, some .boolean, [8073, 8072, 116, 1012], 1, 1)
def hm_M_fitting : hx_M := (⟨"HueWarModel", "fitting", "(I)I"⟩, prog_13_method_102_code,
  [.bipush 0, .istore 2, .bipush 0, .istore 3, .iload 3, .bipush 6, .if_icmp .ge 69, .bipush 1, .istore 4, .bipush 0, .istore 5, .iload 5,
  .iload 1, .if_icmp .ge 57, .iload 4, .ifCond .eq 57, .aload 0, .iload 3, .aload 0, .getfield 1108, .bipush 3, .iload 5, .imul, .baload,
  .bipush 255, .iand, .aload 0, .getfield 1108, .bipush 3, .iload 5, .imul, .bipush 1, .iadd, .baload, .bipush 255, .iand,
  .invokevirtual 300, .aload 0, .getfield 1108, .bipush 3, .iload 5, .imul, .bipush 2, .iadd, .baload, .bipush 1, .if_icmp .ne 49, .bipush 1,
  .goto 50, .bipush 0, .if_icmp .ne 53, .bipush 1, .goto 54, .bipush 0, .istore 4, .iinc 5 1, .goto 11, .iload 4, .ifCond .eq 65, .iload 2,
  .bipush 1, .iload 3, .ishl, .ior, .goto 66, .iload 2, .istore 2, .iinc 3 1, .goto 4, .iload 2, .ireturn],
  [0, 1, 2, 3, 4, 5, 7, 10, 11, 13, 14, 16, 18, 19, 22, 24, 27, 28, 29, 30, 33, 34, 36, 37, 38, 41, 42, 43, 46, 47, 49, 50, 51, 52, 53, 56, 57, 60, 61, 64,
  65, 67, 68, 69, 70, 71, 72, 75, 76, 79, 80, 83, 84, 87, 88, 90, 93, 96, 98, 101, 102, 103, 104, 105, 106, 109, 110, 111, 114, 117, 118],
  [0, 0, 0, 0, 0, 0, 0, 0, 0, 0, 0, 0, 0, 0, 0, 0, 0, 0, 0, 5207, 0, 0, 0, 0, 0, 0, 0, 5207, 0, 0, 0, 0, 0, 0, 0, 0, 8078, 0, 5207, 0,
  0, 0, 0, 0, 0, 0, 0, 0, 0, 0, 0, 0, 0, 0, 0, 0, 0, 0, 0, 0, 0, 0, 0, 0, 0, 0, 0, 0, 0, 0, 0], 6, some .int, [8077, 8076, 117, 1012], 1, 1)
def hm_M_stops : hx_M := (⟨"HueWarModel", "stops", "(III)Z"⟩, prog_13_method_100_code,
  [.aload 0, .iload 1, .iload 3, .invokevirtual 242, .aload 0, .getfield 1132, .iload 2, .iaload, .bipush 12, .if_icmp .eq 12, .bipush 1, .goto 13,
  .bipush 0, .ireturn],
  [0, 1, 2, 3, 6, 7, 10, 11, 12, 14, 17, 18, 21, 22],
  [0, 0, 0, 7089, 0, 5231, 0, 0, 0, 0, 0, 0, 0, 0], 4, some .boolean, [8081, 8080, 118, 1012], 1, 3)
def hm_M_greaterBy : hx_M := (⟨"HueWarModel", "greaterBy", "(III)I"⟩, prog_13_method_103_code,
  [.bipush 0, .istore 4, .bipush 0, .istore 5, .iload 5, .bipush 6, .if_icmp .ge 25, .iload 4, .iload 1, .iload 5, .invokestatic 202, .ifCond .eq 20,
  .aload 0, .iload 5, .iload 2, .iload 3, .invokevirtual 300, .ifCond .eq 20, .bipush 1, .goto 21, .bipush 0, .iadd, .istore 4, .iinc 5 1,
  .goto 4, .iload 4, .iload 1, .invokestatic 237, .iload 4, .isub, .invokestatic 288, .ireturn],
  [0, 1, 3, 4, 6, 8, 10, 13, 15, 16, 18, 21, 24, 25, 27, 28, 29, 32, 35, 36, 39, 40, 41, 43, 46, 49, 51, 52, 55, 57, 58, 61],
  [0, 0, 0, 0, 0, 0, 0, 0, 0, 0, 6176, 0, 0, 0, 0, 0, 8078, 0, 0, 0, 0, 0, 0, 0, 0, 0, 0, 7071, 0, 0, 8032, 0], 6, some .int, [8085, 8084, 119, 1012], 1, 3)
def hm_M_painting : hx_M := (⟨"HueWarModel", "painting", "(II)I"⟩, prog_13_method_105_code,
  [.iload 1, .bipush 0, .bipush 4095, .invokestatic 200, .ifCond .eq 17, .iload 1, .aload 0, .getfield 1100, .bipush (-1), .ixor, .iand, .ifCond .ne 17,
  .iload 2, .bipush 0, .bipush 2, .invokestatic 200, .ifCond .ne 19, .bipush (-1), .ireturn, .bipush 0, .istore 3, .bipush (-1), .istore 4, .bipush 0,
  .istore 5, .iload 5, .bipush 24, .if_icmp .ge 55, .iload 1, .aload 0, .iload 5, .bipush 4, .idiv, .iload 5, .bipush 4, .irem,
  .invokevirtual 233, .bipush (-1), .ixor, .iand, .ifCond .eq 42, .goto 53, .iload 4, .bipush (-1), .if_icmp .ne 47, .iload 5, .goto 48, .iload 4,
  .istore 4, .iload 3, .bipush 1, .iadd, .istore 3, .iinc 5 1, .goto 25, .iload 2, .ifCond .ne 59, .iload 3, .goto 74, .iload 4,
  .bipush (-1), .if_icmp .ne 64, .bipush (-2), .goto 74, .iload 2, .bipush 1, .if_icmp .ne 71, .iload 4, .bipush 4, .idiv, .goto 74, .iload 4,
  .bipush 4, .irem, .ireturn],
  [0, 1, 2, 5, 8, 11, 12, 13, 16, 17, 18, 19, 22, 23, 24, 25, 28, 31, 32, 33, 34, 35, 36, 38, 39, 41, 43, 45, 48, 49, 50, 52, 53, 54, 56, 57, 58, 61, 62, 63,
  64, 67, 70, 72, 73, 76, 78, 81, 83, 85, 86, 87, 88, 89, 92, 95, 96, 99, 100, 103, 105, 106, 109, 111, 114, 115, 116, 119, 121, 122, 123, 126, 128, 129, 130],
  [0, 0, 0, 6169, 0, 0, 0, 5199, 0, 0, 0, 0, 0, 0, 0, 6169, 0, 0, 0, 0, 0, 0, 0, 0, 0, 0, 0, 0, 0, 0, 0, 0, 0, 0, 0, 0, 7055, 0, 0, 0,
  0, 0, 0, 0, 0, 0, 0, 0, 0, 0, 0, 0, 0, 0, 0, 0, 0, 0, 0, 0, 0, 0, 0, 0, 0, 0, 0, 0, 0, 0, 0, 0, 0, 0, 0], 6, some .int, [8089, 8087, 8088, 1012], 1, 2)
def hm_M_ash : hx_M := (⟨"HueWarModel", "ash", "(III)I"⟩, prog_13_method_108_code,
  [.iload 1, .invokestatic 232, .ifCond .eq 11, .iload 2, .invokestatic 205, .ifCond .eq 11, .iload 3, .bipush 0, .bipush 2, .invokestatic 200, .ifCond .ne 13, .bipush (-1),
  .ireturn, .aload 0, .iload 1, .iload 2, .invokevirtual 242, .aload 0, .invokevirtual 304, .bipush 0, .istore 4, .bipush 0, .istore 5, .bipush 0,
  .istore 6, .bipush 0, .istore 7, .iload 7, .bipush 64, .if_icmp .ge 80, .iload 4, .aload 0, .getfield 1167, .iload 7, .iaload, .bipush (-1),
  .if_icmp .ne 39, .bipush 0, .goto 40, .bipush 1, .iadd, .istore 4, .aload 0, .getfield 1167, .iload 7, .iaload, .iload 7, .if_icmp .eq 49,
  .goto 78, .bipush 0, .istore 8, .bipush 0, .istore 9, .iload 9, .bipush 64, .if_icmp .ge 70, .iload 8, .aload 0, .getfield 1167, .iload 9,
  .iaload, .iload 7, .if_icmp .ne 65, .bipush 1, .goto 66, .bipush 0, .iadd, .istore 8, .iinc 9 1, .goto 53, .iload 5, .bipush 1,
  .iadd, .istore 5, .iload 6, .iload 8, .invokestatic 288, .istore 6, .iinc 7 1, .goto 27, .iload 3, .ifCond .ne 84, .iload 4, .goto 90,
  .iload 3, .bipush 1, .if_icmp .ne 89, .iload 6, .goto 90, .iload 5, .ireturn],
  [0, 1, 4, 7, 8, 11, 14, 15, 16, 17, 20, 23, 24, 25, 26, 27, 28, 31, 32, 35, 36, 38, 39, 41, 42, 44, 45, 47, 49, 51, 54, 56, 57, 60, 62, 63, 64, 67, 68, 71,
  72, 73, 75, 76, 79, 81, 82, 84, 87, 90, 91, 93, 94, 96, 98, 100, 103, 105, 106, 109, 111, 112, 114, 117, 118, 121, 122, 123, 125, 128, 131, 133, 134, 135, 137, 139, 141, 144, 146, 149,
  152, 153, 156, 158, 161, 162, 163, 166, 168, 171, 173],
  [0, 7052, 0, 0, 6187, 0, 0, 0, 0, 6169, 0, 0, 0, 0, 0, 0, 7089, 0, 8094, 0, 0, 0, 0, 0, 0, 0, 0, 0, 0, 0, 0, 0, 6026, 0, 0, 0, 0, 0, 0, 0,
  0, 0, 0, 6026, 0, 0, 0, 0, 0, 0, 0, 0, 0, 0, 0, 0, 0, 0, 6026, 0, 0, 0, 0, 0, 0, 0, 0, 0, 0, 0, 0, 0, 0, 0, 0, 0, 8032, 0, 0, 0,
  0, 0, 0, 0, 0, 0, 0, 0, 0, 0, 0], 10, some .int, [8093, 8091, 8092, 1012], 1, 3)
def hm_M_laysSeas : hx_M := (⟨"HueWarModel", "laysSeas", "()V"⟩, prog_13_method_107_code,
  [.bipush 0, .istore 1, .iload 1, .bipush 64, .if_icmp .ge 23, .aload 0, .getfield 1167, .iload 1, .aload 0, .getfield 1132, .aload 0, .getfield 1106,
  .iload 1, .iaload, .iaload, .bipush 12, .if_icmp .ne 19, .iload 1, .goto 20, .bipush (-1), .iastore, .iinc 1 1, .goto 2, .bipush 1,
  .istore 1, .iload 1, .ifCond .eq 65, .bipush 0, .istore 1, .bipush 0, .istore 2, .iload 2, .bipush 64, .if_icmp .ge 64, .aload 0, .iload 2,
  .aload 0, .iload 2, .bipush 0, .invokevirtual 274, .invokevirtual 305, .ifCond .ne 44, .iload 1, .ifCond .eq 46, .bipush 1, .goto 47, .bipush 0, .istore 1,
  .aload 0, .iload 2, .aload 0, .iload 2, .bipush 2, .invokevirtual 274, .invokevirtual 305, .ifCond .ne 58, .iload 1, .ifCond .eq 60, .bipush 1, .goto 61,
  .bipush 0, .istore 1, .iinc 2 1, .goto 31, .goto 25, .return_],
  [0, 1, 2, 3, 5, 8, 9, 12, 13, 14, 17, 18, 21, 22, 23, 24, 26, 29, 30, 33, 34, 35, 38, 41, 42, 43, 44, 47, 48, 49, 50, 51, 52, 54, 57, 58, 59, 60, 61, 62,
  65, 68, 71, 72, 75, 76, 79, 80, 81, 82, 83, 84, 85, 86, 89, 92, 95, 96, 99, 100, 103, 104, 105, 108, 111, 114],
  [0, 0, 0, 0, 0, 0, 6026, 0, 0, 5231, 0, 5205, 0, 0, 0, 0, 0, 0, 0, 0, 0, 0, 0, 0, 0, 0, 0, 0, 0, 0, 0, 0, 0, 0, 0, 0, 0, 0, 0, 7217,
  8098, 0, 0, 0, 0, 0, 0, 0, 0, 0, 0, 0, 0, 7217, 8098, 0, 0, 0, 0, 0, 0, 0, 0, 0, 0, 0], 3, none, [8097, 8096, 120, 1012], 1, 0)
def hm_M_joins : hx_M := (⟨"HueWarModel", "joins", "(II)Z"⟩, prog_13_method_106_code,
  [.iload 2, .bipush (-1), .if_icmp .eq 24, .aload 0, .getfield 1167, .iload 1, .iaload, .bipush (-1), .if_icmp .eq 24, .aload 0, .getfield 1167, .iload 2,
  .iaload, .bipush (-1), .if_icmp .eq 24, .aload 0, .getfield 1167, .iload 1, .iaload, .aload 0, .getfield 1167, .iload 2, .iaload, .if_icmp .ne 26,
  .bipush 0, .ireturn, .aload 0, .getfield 1167, .iload 1, .iaload, .aload 0, .getfield 1167, .iload 2, .iaload, .invokestatic 292, .istore 3,
  .aload 0, .getfield 1167, .iload 1, .iload 3, .iastore, .aload 0, .getfield 1167, .iload 2, .iload 3, .iastore, .bipush 1, .ireturn],
  [0, 1, 2, 5, 6, 9, 10, 11, 12, 15, 16, 19, 20, 21, 22, 25, 26, 29, 30, 31, 32, 35, 36, 37, 40, 41, 42, 43, 46, 47, 48, 49, 52, 53, 54, 57, 58, 59, 62, 63,
  64, 65, 66, 69, 70, 71, 72, 73],
  [0, 0, 0, 0, 6026, 0, 0, 0, 0, 0, 6026, 0, 0, 0, 0, 0, 6026, 0, 0, 0, 6026, 0, 0, 0, 0, 0, 0, 6026, 0, 0, 0, 6026, 0, 0, 8047, 0, 0, 6026, 0, 0,
  0, 0, 6026, 0, 0, 0, 0, 0], 4, some .boolean, [8101, 8100, 121, 1012], 1, 2)
def hm_M_seed : hx_M := (⟨"HueWarModel", "seed", "(I)Z"⟩, prog_13_method_109_code,
  [.iload 1, .bipush 0, .bipush 65535, .invokestatic 200, .ifCond .ne 7, .bipush 0, .ireturn, .aload 0, .iload 1, .putfield 1101, .bipush 1, .ireturn],
  [0, 1, 2, 5, 8, 11, 12, 13, 14, 15, 18, 19],
  [0, 0, 8106, 6169, 0, 0, 0, 0, 0, 5200, 0, 0], 2, some .boolean, [8105, 8103, 8104, 1012], 1, 1)
def hm_M_keep : hx_M := (⟨"HueWarModel", "keep", "()I"⟩, prog_13_method_110_code,
  [.aload 0, .bipush 1, .putfield 1157, .aload 0, .getfield 1105, .aload 0, .getfield 1148, .bipush 48, .invokestatic 255, .aload 0, .aload 0, .getfield 1149,
  .invokevirtual 256, .aload 0, .getfield 1107, .aload 0, .getfield 1150, .bipush 64, .invokestatic 255, .aload 0, .aload 0, .getfield 1134, .putfield 1154, .aload 0,
  .aload 0, .getfield 1102, .putfield 1155, .aload 0, .aload 0, .getfield 1101, .putfield 1156, .aload 0, .getfield 1134, .ireturn],
  [0, 1, 2, 5, 6, 9, 10, 13, 15, 18, 19, 20, 23, 26, 27, 30, 31, 34, 36, 39, 40, 41, 44, 47, 48, 49, 52, 55, 56, 57, 60, 63, 64, 67],
  [0, 0, 6016, 0, 5204, 0, 6007, 0, 7141, 0, 0, 6008, 7144, 0, 5206, 0, 6009, 0, 7141, 0, 0, 5233, 6013, 0, 0, 5201, 6014, 0, 0, 5200, 6015, 0, 5233, 0], 1, some .int, [8110, 8108, 8109, 1012], 1, 0)
def hm_M_undo : hx_M := (⟨"HueWarModel", "undo", "()Z"⟩, prog_13_method_111_code,
  [.aload 0, .getfield 1157, .ifCond .ne 5, .bipush 0, .ireturn, .aload 0, .getfield 1148, .aload 0, .getfield 1105, .bipush 48, .invokestatic 255, .aload 0,
  .aload 0, .getfield 1149, .invokevirtual 258, .aload 0, .getfield 1150, .aload 0, .getfield 1107, .bipush 64, .invokestatic 255, .aload 0, .aload 0, .getfield 1154,
  .putfield 1134, .aload 0, .aload 0, .getfield 1155, .putfield 1102, .aload 0, .aload 0, .getfield 1156, .putfield 1101, .bipush 1, .ireturn],
  [0, 1, 4, 7, 8, 9, 10, 13, 14, 17, 19, 22, 23, 24, 27, 30, 31, 34, 35, 38, 40, 43, 44, 45, 48, 51, 52, 53, 56, 59, 60, 61, 64, 67, 68],
  [0, 6016, 0, 0, 0, 0, 6007, 0, 5204, 0, 7141, 0, 0, 6008, 7152, 0, 6009, 0, 5206, 0, 7141, 0, 0, 6013, 5233, 0, 0, 6014, 5201, 0, 0, 6015, 5200, 0, 0], 1, some .boolean, [8114, 8112, 8113, 1012], 1, 0)
def hm_M_check : hx_M := (⟨"HueWarModel", "check", "(I)I"⟩, prog_13_method_113_code,
  [.iload 1, .bipush 0, .bipush 8, .invokestatic 200, .ifCond .eq 11, .iload 1, .aload 0, .getfield 1109, .bipush 4, .idiv, .if_icmp .le 13, .bipush (-2),
  .ireturn, .aload 0, .bipush 0, .putfield 1109, .bipush 0, .istore 2, .iload 2, .iload 1, .if_icmp .ge 33, .aload 0, .iload 2, .invokevirtual 310,
  .aload 0, .getfield 1107, .iload 2, .iaload, .if_icmp .eq 31, .iload 2, .ireturn, .iinc 2 1, .goto 18, .bipush (-1), .ireturn],
  [0, 1, 2, 4, 7, 10, 11, 12, 15, 16, 17, 20, 22, 23, 24, 25, 28, 29, 30, 31, 32, 35, 36, 37, 40, 41, 44, 45, 46, 49, 50, 51, 54, 57, 58],
  [0, 0, 0, 6169, 0, 0, 0, 5208, 0, 0, 0, 0, 0, 0, 0, 5208, 0, 0, 0, 0, 0, 0, 0, 8119, 0, 5206, 0, 0, 0, 0, 0, 0, 0, 0, 0], 3, some .int, [8118, 8116, 8117, 1012], 1, 1)
def hm_M_tapeNumber : hx_M := (⟨"HueWarModel", "tapeNumber", "(I)I"⟩, prog_13_method_112_code,
  [.bipush 0, .istore 2, .bipush 4, .iload 1, .imul, .istore 3, .iload 3, .bipush 4, .iload 1, .imul, .bipush 4, .iadd,
  .if_icmp .ge 26, .iload 2, .bipush 8, .ishl, .aload 0, .getfield 1108, .iload 3, .baload, .bipush 255, .iand, .ior, .istore 2,
  .iinc 3 1, .goto 6, .iload 2, .ireturn],
  [0, 1, 2, 3, 4, 5, 6, 7, 8, 9, 10, 11, 12, 15, 16, 18, 19, 20, 23, 24, 25, 28, 29, 30, 31, 34, 37, 38],
  [0, 0, 0, 0, 0, 0, 0, 0, 0, 0, 0, 0, 0, 0, 0, 0, 0, 5207, 0, 0, 0, 0, 0, 0, 0, 0, 0, 0], 4, some .int, [8122, 8121, 122, 1012], 1, 1)
def hm_M_count : hx_M := (⟨"HueWarModel", "count", "(I)I"⟩, prog_13_method_115_code,
  [.iload 1, .tableswitch 23 (0) (6) #[2, 5, 8, 11, 14, 17, 20], .aload 0, .getfield 1100, .ireturn, .aload 0, .invokevirtual 312, .ireturn, .aload 0, .getfield 1118, .ireturn, .aload 0,
  .getfield 1109, .ireturn, .aload 0, .getfield 1101, .ireturn, .aload 0, .getfield 1102, .ireturn, .aload 0, .getfield 1134, .ireturn, .iload 1,
  .bipush 10, .bipush 21, .invokestatic 200, .ifCond .eq 50, .aload 0, .iload 1, .bipush 10, .isub, .invokevirtual 235, .ifCond .eq 50, .bipush 100, .aload 0,
  .getfield 1103, .iload 1, .bipush 10, .isub, .iaload, .imul, .aload 0, .getfield 1104, .iload 1, .bipush 10, .isub, .iaload,
  .iadd, .ireturn, .iload 1, .bipush 100, .bipush 147, .invokestatic 200, .ifCond .eq 70, .aload 0, .iload 1, .bipush 100, .isub, .bipush 4,
  .idiv, .invokevirtual 204, .ifCond .eq 70, .aload 0, .getfield 1105, .iload 1, .bipush 100, .isub, .iaload, .ireturn, .iload 1, .bipush 200,
  .bipush 263, .invokestatic 200, .ifCond .eq 82, .aload 0, .getfield 1106, .iload 1, .bipush 200, .isub, .iaload, .ireturn, .iload 1, .bipush 300,
  .bipush 363, .invokestatic 200, .ifCond .eq 94, .aload 0, .getfield 1107, .iload 1, .bipush 300, .isub, .iaload, .goto 95, .bipush (-1), .ireturn],
  [0, 1, 44, 45, 48, 49, 50, 53, 54, 55, 58, 59, 60, 63, 64, 65, 68, 69, 70, 73, 74, 75, 78, 79, 80, 82, 84, 87, 90, 91, 92, 94, 95, 98, 101, 103, 104, 107, 108, 110,
  111, 112, 113, 114, 117, 118, 120, 121, 122, 123, 124, 125, 127, 130, 133, 136, 137, 138, 140, 141, 142, 143, 146, 149, 150, 153, 154, 156, 157, 158, 159, 160, 163, 166, 169, 172, 173, 176, 177, 180,
  181, 182, 183, 184, 187, 190, 193, 196, 197, 200, 201, 204, 205, 206, 209, 210],
  [0, 0, 0, 5199, 0, 0, 8127, 0, 0, 5217, 0, 0, 5208, 0, 0, 5200, 0, 0, 5201, 0, 0, 5233, 0, 0, 0, 0, 6169, 0, 0, 0, 0, 0, 7063, 0, 0, 0, 5202, 0, 0, 0,
  0, 0, 0, 5203, 0, 0, 0, 0, 0, 0, 0, 0, 0, 6169, 0, 0, 0, 0, 0, 0, 0, 6183, 0, 0, 5204, 0, 0, 0, 0, 0, 0, 0, 0, 6169, 0, 0, 5205, 0, 0, 0,
  0, 0, 0, 0, 0, 6169, 0, 0, 5206, 0, 0, 0, 0, 0, 0, 0], 2, some .int, [8126, 8124, 8125, 1012], 1, 1)
def hm_M_mixedBits : hx_M := (⟨"HueWarModel", "mixedBits", "()I"⟩, prog_13_method_114_code,
  [.bipush 0, .istore 1, .bipush 0, .istore 2, .iload 2, .bipush 12, .if_icmp .ge 21, .iload 1, .aload 0, .iload 2, .invokevirtual 235, .ifCond .eq 16,
  .bipush 1, .iload 2, .ishl, .goto 17, .bipush 0, .ior, .istore 1, .iinc 2 1, .goto 4, .iload 1, .ireturn],
  [0, 1, 2, 3, 4, 5, 7, 10, 11, 12, 13, 16, 19, 20, 21, 22, 25, 26, 27, 28, 31, 34, 35],
  [0, 0, 0, 0, 0, 0, 0, 0, 0, 0, 7063, 0, 0, 0, 0, 0, 0, 0, 0, 0, 0, 0, 0], 3, some .int, [8130, 8129, 123, 1012], 1, 0)
def hx_ms : List hx_M := [hm_W_init, hm_T_init, hm_P_init, hm_G_init, hm_L_init, hm_N_init, hm_S_init, hm_E_init, hm_U_init, hm_D_init, hm_A_init, hm_W_colour,
  hm_P_tell, hm_W_isAmong, hm_P_isTold, hm_W_bit, hm_W_have, hm_P_isPlain, hm_P_isMixed, hm_W_isQuarter, hm_S_setHavers, hm_W_owner, hm_W_isPlace, hm_S_setOwner,
  hm_W_feed, hm_T_length, hm_T_add, hm_W_law, hm_W_isOnTape, hm_L_read, hm_T_start, hm_L_readClause, hm_T_next, hm_T_fail, hm_T_step, hm_L_readSum,
  hm_L_readProduct, hm_L_readFactor, hm_W_isDigit, hm_L_readNumber, hm_L_emit, hm_T_take, hm_L_letterOf, hm_L_isTimes, hm_L_readEither, hm_L_readBoth, hm_L_readPiece, hm_L_leadHere,
  hm_T_finish, hm_T_fault, hm_T_clear, hm_L_copyFrom, hm_L_clauses, hm_W_land, hm_G_read, hm_G_readRow, hm_G_isFieldsStart, hm_G_colourOf, hm_G_readFields, hm_G_painted,
  hm_W_treaties, hm_N_read, hm_N_readLine, hm_N_readColour, hm_T_place, hm_T_failAt, hm_N_readQuarters, hm_N_readSign, hm_N_readEmpire, hm_W_isEmpire, hm_N_length, hm_W_isMade,
  hm_N_hue, hm_N_quarters, hm_N_giver, hm_N_other, hm_N_isShared, hm_S_isMade, hm_S_canGo, hm_S_havers, hm_S_move, hm_W_judged, hm_S_copyFrom, hm_W_seed,
  hm_S_setDraw, hm_W_days, hm_W_isDays, hm_S_goBy, hm_S_goByOnce, hm_S_chance, hm_S_part, hm_S_lowest, hm_J_bitCount, hm_L_tell, hm_L_tellParts, hm_L_tellFields,
  hm_L_tellAge, hm_L_amount, hm_L_run, hm_L_reckoned, hm_S_breakTreaty, hm_W_tried, hm_S_firstBreakDay, hm_S_firstBreaker, hm_S_quartersHad, hm_W_treatyIs, hm_S_treatyCount, hm_W_keep,
  hm_W_undo, hm_W_check, hm_T_number, hm_T_at, hm_S_ownerOf, hm_W_sees, hm_E_seen, hm_S_had, hm_E_seenWith, hm_L_hasKind, hm_P_first, hm_P_second,
  hm_S_day, hm_L_holds, hm_W_appears, hm_E_look, hm_E_looks, hm_W_child, hm_E_childSees, hm_W_unseen, hm_W_isHidden, hm_G_at, hm_W_way, hm_A_mark,
  hm_A_search, hm_A_forget, hm_A_nearest, hm_A_leave, hm_A_beside, hm_A_watchedTo, hm_A_stepsTo, hm_W_painting, hm_P_areTold, hm_W_ash, hm_A_findSeas, hm_A_fill,
  hm_A_push, hm_A_largestSea, hm_A_seas, hm_W_worth, hm_U_worthTo, hm_U_price, hm_U_fieldsOf, hm_U_priceOf, hm_U_worthWith, hm_W_gain, hm_W_power, hm_P_arePlain,
  hm_U_addedBy, hm_U_orders, hm_W_commonDivisor, hm_W_battle, hm_D_fight, hm_D_isChosen, hm_D_taken, hm_D_lost, hm_D_findTwos, hm_D_isBestOfA, hm_D_isBestOfB, hm_D_twos,
  hm_D_firstOfA, hm_D_firstOfB, hm_W_signals, hm_W_findPartners, hm_P_told, hm_W_unlike, hm_E_alike, hm_W_setsOf, hm_W_isSignalSet, hm_W_firstSetOf, hm_W_mostSignals, hm_W_parted,
  hm_W_areThoughts, hm_W_fairestRow, hm_W_leastOf, hm_W_thoughtOf, hm_W_placeIn, hm_W_envyOf, hm_W_envies, hm_W_spies, hm_W_areShown, hm_W_findBright, hm_W_fitting, hm_W_fits,
  hm_W_bestShown, hm_W_greaterPart, hm_W_count, hm_P_parts, hm_P_mixed, hm_S_draw, hm_M_init, hm_M_colour, hm_M_in, hm_M_isColour, hm_M_has, hm_M_have,
  hm_M_isPlain, hm_M_isQuarter, hm_M_owner, hm_M_feed, hm_M_types, hm_M_law, hm_M_readsClause, hm_M_here, hm_M_isClause, hm_M_wrongAt, hm_M_readsSum, hm_M_readsFactor,
  hm_M_opens, hm_M_isDigit, hm_M_readsNumber, hm_M_notes, hm_M_factOf, hm_M_sumSign, hm_M_closesSums, hm_M_waitTop, hm_M_hasOpenSum, hm_M_readsCondition, hm_M_readsCompared, hm_M_endsPiece,
  hm_M_lands, hm_M_jumps, hm_M_takes, hm_M_sees, hm_M_isEmpire, hm_M_seenBy, hm_M_isSeen, hm_M_isMixed, hm_M_feels, hm_M_bits, hm_M_holds, hm_M_comesTo,
  hm_M_reckon, hm_M_appears, hm_M_laysAs, hm_M_child, hm_M_treaties, hm_M_readsLines, hm_M_readsLine, hm_M_readsColour, hm_M_readsQuarters, hm_M_readsEmpire, hm_M_makes, hm_M_canBe,
  hm_M_changes, hm_M_judged, hm_M_begins, hm_M_copies, hm_M_packs, hm_M_again, hm_M_unpacks, hm_M_treatyIs, hm_M_days, hm_M_daysGo, hm_M_breaksBy, hm_M_lowest,
  hm_M_byLaw, hm_M_ends, hm_M_tried, hm_M_hadAll, hm_M_land, hm_M_readsRow, hm_M_unseen, hm_M_isUnseen, hm_M_way, hm_M_laysCosts, hm_M_beside, hm_M_worth,
  hm_M_worthOf, hm_M_ownedOf, hm_M_gain, hm_M_power, hm_M_orders, hm_M_worthWith, hm_M_gcd, hm_M_signals, hm_M_laysAll, hm_M_isSignal, hm_M_tellsApart, hm_M_seesOne,
  hm_M_max, hm_M_parted, hm_M_leastBy, hm_M_hasBy, hm_M_min, hm_M_battle, hm_M_laysFights, hm_M_canTake, hm_M_rests, hm_M_spies, hm_M_areShown, hm_M_fitting,
  hm_M_stops, hm_M_greaterBy, hm_M_painting, hm_M_ash, hm_M_laysSeas, hm_M_joins, hm_M_seed, hm_M_keep, hm_M_undo, hm_M_check, hm_M_tapeNumber, hm_M_count,
  hm_M_mixedBits]
/-- for each class the places of its words instantiable, initialized -/
def hx_cw : List (Nat × Nat) := [(1226, 1010), (1182, 1008), (1067, 1004), (1086, 1005), (1123, 1006), (1048, 1003), (2020, 1011), (1201, 1009), (1151, 1007), (1025, 1002), (1017, 1001), (5194, 1012)]
def hm_law : hx_M := (⟨"HueWarLaw", "law", "([I)Z"⟩, code,
  [.new 10, .dup, .invokespecial 0, .astore 1, .new 11, .dup, .invokespecial 198, .astore 2, .bipush 0, .istore 3, .iload 3, .aload 0,
  .arraylength, .bipush 7, .isub, .if_icmp .gt 984, .aload 0, .iload 3, .iaload, .bipush 31, .iand, .tableswitch 982 (0) (29) #[22, 59, 96, 133, 190, 207, 224, 241, 258, 275, 302, 329, 366, 403, 450, 507, 574, 601, 638, 695, 752, 779, 826, 853, 880, 917, 934, 941, 948, 965], .aload 1, .aload 0,
  .iload 3, .bipush 1, .iadd, .iaload, .aload 0, .iload 3, .bipush 2, .iadd, .iaload, .aload 0, .iload 3, .bipush 3,
  .iadd, .iaload, .invokevirtual 11, .pop, .aload 2, .aload 0, .iload 3, .bipush 1, .iadd, .iaload, .aload 0, .iload 3,
  .bipush 2, .iadd, .iaload, .aload 0, .iload 3, .bipush 3, .iadd, .iaload, .invokevirtual 199, .pop, .goto 982, .aload 1,
  .aload 0, .iload 3, .bipush 1, .iadd, .iaload, .aload 0, .iload 3, .bipush 2, .iadd, .iaload, .aload 0, .iload 3,
  .bipush 3, .iadd, .iaload, .invokevirtual 16, .pop, .aload 2, .aload 0, .iload 3, .bipush 1, .iadd, .iaload, .aload 0,
  .iload 3, .bipush 2, .iadd, .iaload, .aload 0, .iload 3, .bipush 3, .iadd, .iaload, .invokevirtual 203, .pop, .goto 982,
  .aload 1, .aload 0, .iload 3, .bipush 1, .iadd, .iaload, .aload 0, .iload 3, .bipush 2, .iadd, .iaload, .aload 0,
  .iload 3, .bipush 3, .iadd, .iaload, .invokevirtual 21, .pop, .aload 2, .aload 0, .iload 3, .bipush 1, .iadd, .iaload,
  .aload 0, .iload 3, .bipush 2, .iadd, .iaload, .aload 0, .iload 3, .bipush 3, .iadd, .iaload, .invokevirtual 206, .pop,
  .goto 982, .aload 1, .aload 0, .iload 3, .bipush 1, .iadd, .iaload, .aload 0, .iload 3, .bipush 2, .iadd, .iaload,
  .aload 0, .iload 3, .bipush 3, .iadd, .iaload, .aload 0, .iload 3, .bipush 4, .iadd, .iaload, .aload 0, .iload 3,
  .bipush 5, .iadd, .iaload, .invokevirtual 24, .pop, .aload 2, .aload 0, .iload 3, .bipush 1, .iadd, .iaload, .aload 0,
  .iload 3, .bipush 2, .iadd, .iaload, .aload 0, .iload 3, .bipush 3, .iadd, .iaload, .aload 0, .iload 3, .bipush 4,
  .iadd, .iaload, .aload 0, .iload 3, .bipush 5, .iadd, .iaload, .invokevirtual 207, .pop, .goto 982, .aload 1, .aload 0,
  .iload 3, .bipush 1, .iadd, .iaload, .invokevirtual 27, .pop, .aload 2, .aload 0, .iload 3, .bipush 1, .iadd, .iaload,
  .invokevirtual 209, .pop, .goto 982, .aload 1, .aload 0, .iload 3, .bipush 1, .iadd, .iaload, .invokevirtual 53, .pop, .aload 2,
  .aload 0, .iload 3, .bipush 1, .iadd, .iaload, .invokevirtual 268, .pop, .goto 982, .aload 1, .aload 0, .iload 3, .bipush 1,
  .iadd, .iaload, .invokevirtual 60, .pop, .aload 2, .aload 0, .iload 3, .bipush 1, .iadd, .iaload, .invokevirtual 244, .pop,
  .goto 982, .aload 1, .aload 0, .iload 3, .bipush 1, .iadd, .iaload, .invokevirtual 81, .pop, .aload 2, .aload 0, .iload 3,
  .bipush 1, .iadd, .iaload, .invokevirtual 253, .pop, .goto 982, .aload 1, .aload 0, .iload 3, .bipush 1, .iadd, .iaload,
  .invokevirtual 85, .aload 2, .aload 0, .iload 3, .bipush 1, .iadd, .iaload, .invokevirtual 260, .if_icmp .eq 982, .bipush 0, .ireturn, .aload 1,
  .aload 0, .iload 3, .bipush 1, .iadd, .iaload, .aload 0, .iload 3, .bipush 2, .iadd, .iaload, .invokevirtual 101, .pop,
  .aload 2, .aload 0, .iload 3, .bipush 1, .iadd, .iaload, .aload 0, .iload 3, .bipush 2, .iadd, .iaload, .invokevirtual 266,
  .pop, .goto 982, .aload 1, .aload 0, .iload 3, .bipush 1, .iadd, .iaload, .aload 0, .iload 3, .bipush 2, .iadd,
  .iaload, .invokevirtual 105, .pop, .aload 2, .aload 0, .iload 3, .bipush 1, .iadd, .iaload, .aload 0, .iload 3, .bipush 2,
  .iadd, .iaload, .invokevirtual 259, .pop, .goto 982, .aload 1, .aload 0, .iload 3, .bipush 1, .iadd, .iaload, .aload 0,
  .iload 3, .bipush 2, .iadd, .iaload, .aload 0, .iload 3, .bipush 3, .iadd, .iaload, .invokevirtual 113, .pop, .aload 2,
  .aload 0, .iload 3, .bipush 1, .iadd, .iaload, .aload 0, .iload 3, .bipush 2, .iadd, .iaload, .aload 0, .iload 3,
  .bipush 3, .iadd, .iaload, .invokevirtual 231, .pop, .goto 982, .aload 1, .aload 0, .iload 3, .bipush 1, .iadd, .iaload,
  .aload 0, .iload 3, .bipush 2, .iadd, .iaload, .aload 0, .iload 3, .bipush 3, .iadd, .iaload, .invokevirtual 122, .pop,
  .aload 2, .aload 0, .iload 3, .bipush 1, .iadd, .iaload, .aload 0, .iload 3, .bipush 2, .iadd, .iaload, .aload 0,
  .iload 3, .bipush 3, .iadd, .iaload, .invokevirtual 241, .pop, .goto 982, .aload 1, .aload 0, .iload 3, .bipush 1, .iadd,
  .iaload, .aload 0, .iload 3, .bipush 2, .iadd, .iaload, .aload 0, .iload 3, .bipush 3, .iadd, .iaload, .aload 0,
  .iload 3, .bipush 4, .iadd, .iaload, .invokevirtual 125, .pop, .aload 2, .aload 0, .iload 3, .bipush 1, .iadd, .iaload,
  .aload 0, .iload 3, .bipush 2, .iadd, .iaload, .aload 0, .iload 3, .bipush 3, .iadd, .iaload, .aload 0, .iload 3,
  .bipush 4, .iadd, .iaload, .invokevirtual 243, .pop, .goto 982, .aload 1, .aload 0, .iload 3, .bipush 1, .iadd, .iaload,
  .aload 0, .iload 3, .bipush 2, .iadd, .iaload, .aload 0, .iload 3, .bipush 3, .iadd, .iaload, .aload 0, .iload 3,
  .bipush 4, .iadd, .iaload, .aload 0, .iload 3, .bipush 5, .iadd, .iaload, .invokevirtual 127, .pop, .aload 2, .aload 0,
  .iload 3, .bipush 1, .iadd, .iaload, .aload 0, .iload 3, .bipush 2, .iadd, .iaload, .aload 0, .iload 3, .bipush 3,
  .iadd, .iaload, .aload 0, .iload 3, .bipush 4, .iadd, .iaload, .aload 0, .iload 3, .bipush 5, .iadd, .iaload,
  .invokevirtual 270, .pop, .goto 982, .aload 1, .aload 0, .iload 3, .bipush 1, .iadd, .iaload, .aload 0, .iload 3, .bipush 2,
  .iadd, .iaload, .aload 0, .iload 3, .bipush 3, .iadd, .iaload, .aload 0, .iload 3, .bipush 4, .iadd, .iaload,
  .aload 0, .iload 3, .bipush 5, .iadd, .iaload, .aload 0, .iload 3, .bipush 6, .iadd, .iaload, .invokevirtual 130, .pop,
  .aload 2, .aload 0, .iload 3, .bipush 1, .iadd, .iaload, .aload 0, .iload 3, .bipush 2, .iadd, .iaload, .aload 0,
  .iload 3, .bipush 3, .iadd, .iaload, .aload 0, .iload 3, .bipush 4, .iadd, .iaload, .aload 0, .iload 3, .bipush 5,
  .iadd, .iaload, .aload 0, .iload 3, .bipush 6, .iadd, .iaload, .invokevirtual 272, .pop, .goto 982, .aload 1, .aload 0,
  .iload 3, .bipush 1, .iadd, .iaload, .aload 0, .iload 3, .bipush 2, .iadd, .iaload, .invokevirtual 147, .pop, .aload 2,
  .aload 0, .iload 3, .bipush 1, .iadd, .iaload, .aload 0, .iload 3, .bipush 2, .iadd, .iaload, .invokevirtual 275, .pop,
  .goto 982, .aload 1, .aload 0, .iload 3, .bipush 1, .iadd, .iaload, .aload 0, .iload 3, .bipush 2, .iadd, .iaload,
  .aload 0, .iload 3, .bipush 3, .iadd, .iaload, .invokevirtual 153, .pop, .aload 2, .aload 0, .iload 3, .bipush 1, .iadd,
  .iaload, .aload 0, .iload 3, .bipush 2, .iadd, .iaload, .aload 0, .iload 3, .bipush 3, .iadd, .iaload, .invokevirtual 278,
  .pop, .goto 982, .aload 1, .aload 0, .iload 3, .bipush 1, .iadd, .iaload, .aload 0, .iload 3, .bipush 2, .iadd,
  .iaload, .aload 0, .iload 3, .bipush 3, .iadd, .iaload, .aload 0, .iload 3, .bipush 4, .iadd, .iaload, .aload 0,
  .iload 3, .bipush 5, .iadd, .iaload, .invokevirtual 154, .pop, .aload 2, .aload 0, .iload 3, .bipush 1, .iadd, .iaload,
  .aload 0, .iload 3, .bipush 2, .iadd, .iaload, .aload 0, .iload 3, .bipush 3, .iadd, .iaload, .aload 0, .iload 3,
  .bipush 4, .iadd, .iaload, .aload 0, .iload 3, .bipush 5, .iadd, .iaload, .invokevirtual 279, .pop, .goto 982, .aload 1,
  .aload 0, .iload 3, .bipush 1, .iadd, .iaload, .aload 0, .iload 3, .bipush 2, .iadd, .iaload, .aload 0, .iload 3,
  .bipush 3, .iadd, .iaload, .aload 0, .iload 3, .bipush 4, .iadd, .iaload, .aload 0, .iload 3, .bipush 5, .iadd,
  .iaload, .invokevirtual 170, .pop, .aload 2, .aload 0, .iload 3, .bipush 1, .iadd, .iaload, .aload 0, .iload 3, .bipush 2,
  .iadd, .iaload, .aload 0, .iload 3, .bipush 3, .iadd, .iaload, .aload 0, .iload 3, .bipush 4, .iadd, .iaload,
  .aload 0, .iload 3, .bipush 5, .iadd, .iaload, .invokevirtual 283, .pop, .goto 982, .aload 1, .aload 0, .iload 3, .bipush 1,
  .iadd, .iaload, .aload 0, .iload 3, .bipush 2, .iadd, .iaload, .invokevirtual 179, .pop, .aload 2, .aload 0, .iload 3,
  .bipush 1, .iadd, .iaload, .aload 0, .iload 3, .bipush 2, .iadd, .iaload, .invokevirtual 289, .pop, .goto 982, .aload 1,
  .aload 0, .iload 3, .bipush 1, .iadd, .iaload, .aload 0, .iload 3, .bipush 2, .iadd, .iaload, .aload 0, .iload 3,
  .bipush 3, .iadd, .iaload, .aload 0, .iload 3, .bipush 4, .iadd, .iaload, .invokevirtual 159, .pop, .aload 2, .aload 0,
  .iload 3, .bipush 1, .iadd, .iaload, .aload 0, .iload 3, .bipush 2, .iadd, .iaload, .aload 0, .iload 3, .bipush 3,
  .iadd, .iaload, .aload 0, .iload 3, .bipush 4, .iadd, .iaload, .invokevirtual 293, .pop, .goto 982, .aload 1, .aload 0,
  .iload 3, .bipush 1, .iadd, .iaload, .aload 0, .iload 3, .bipush 2, .iadd, .iaload, .invokevirtual 187, .pop, .aload 2,
  .aload 0, .iload 3, .bipush 1, .iadd, .iaload, .aload 0, .iload 3, .bipush 2, .iadd, .iaload, .invokevirtual 297, .pop,
  .goto 982, .aload 1, .aload 0, .iload 3, .bipush 1, .iadd, .iaload, .aload 0, .iload 3, .bipush 2, .iadd, .iaload,
  .invokevirtual 139, .pop, .aload 2, .aload 0, .iload 3, .bipush 1, .iadd, .iaload, .aload 0, .iload 3, .bipush 2, .iadd,
  .iaload, .invokevirtual 302, .pop, .goto 982, .aload 1, .aload 0, .iload 3, .bipush 1, .iadd, .iaload, .aload 0, .iload 3,
  .bipush 2, .iadd, .iaload, .aload 0, .iload 3, .bipush 3, .iadd, .iaload, .invokevirtual 141, .pop, .aload 2, .aload 0,
  .iload 3, .bipush 1, .iadd, .iaload, .aload 0, .iload 3, .bipush 2, .iadd, .iaload, .aload 0, .iload 3, .bipush 3,
  .iadd, .iaload, .invokevirtual 303, .pop, .goto 982, .aload 1, .aload 0, .iload 3, .bipush 1, .iadd, .iaload, .invokevirtual 83,
  .pop, .aload 2, .aload 0, .iload 3, .bipush 1, .iadd, .iaload, .invokevirtual 306, .pop, .goto 982, .aload 1, .invokevirtual 107,
  .pop, .aload 2, .invokevirtual 307, .pop, .goto 982, .aload 1, .invokevirtual 108, .pop, .aload 2, .invokevirtual 308, .pop, .goto 982,
  .aload 1, .aload 0, .iload 3, .bipush 1, .iadd, .iaload, .invokevirtual 109, .pop, .aload 2, .aload 0, .iload 3, .bipush 1,
  .iadd, .iaload, .invokevirtual 309, .pop, .goto 982, .aload 1, .aload 0, .iload 3, .bipush 1, .iadd, .iaload, .invokevirtual 194,
  .pop, .aload 2, .aload 0, .iload 3, .bipush 1, .iadd, .iaload, .invokevirtual 311, .pop, .goto 982, .iinc 3 7, .goto 10,
  .bipush 1, .ireturn],
  [0, 3, 4, 7, 8, 11, 12, 15, 16, 17, 18, 19, 20, 21, 23, 24, 27, 28, 29, 30, 32, 33, 168, 169, 170, 171, 172, 173, 174, 175, 176, 177, 178, 179, 180, 181, 182, 183, 184, 187,
  188, 189, 190, 191, 192, 193, 194, 195, 196, 197, 198, 199, 200, 201, 202, 203, 204, 207, 208, 211, 212, 213, 214, 215, 216, 217, 218, 219, 220, 221, 222, 223, 224, 225, 226, 227, 230, 231, 232, 233,
  234, 235, 236, 237, 238, 239, 240, 241, 242, 243, 244, 245, 246, 247, 250, 251, 254, 255, 256, 257, 258, 259, 260, 261, 262, 263, 264, 265, 266, 267, 268, 269, 270, 273, 274, 275, 276, 277, 278, 279,
  280, 281, 282, 283, 284, 285, 286, 287, 288, 289, 290, 293, 294, 297, 298, 299, 300, 301, 302, 303, 304, 305, 306, 307, 308, 309, 310, 311, 312, 313, 314, 315, 316, 317, 318, 319, 320, 321, 322, 323,
  326, 327, 328, 329, 330, 331, 332, 333, 334, 335, 336, 337, 338, 339, 340, 341, 342, 343, 344, 345, 346, 347, 348, 349, 350, 351, 352, 353, 356, 357, 360, 361, 362, 363, 364, 365, 366, 369, 370, 371,
  372, 373, 374, 375, 376, 379, 380, 383, 384, 385, 386, 387, 388, 389, 392, 393, 394, 395, 396, 397, 398, 399, 402, 403, 406, 407, 408, 409, 410, 411, 412, 415, 416, 417, 418, 419, 420, 421, 422, 425,
  426, 429, 430, 431, 432, 433, 434, 435, 438, 439, 440, 441, 442, 443, 444, 445, 448, 449, 452, 453, 454, 455, 456, 457, 458, 461, 462, 463, 464, 465, 466, 467, 470, 473, 474, 475, 476, 477, 478, 479,
  480, 481, 482, 483, 484, 485, 486, 489, 490, 491, 492, 493, 494, 495, 496, 497, 498, 499, 500, 501, 504, 505, 508, 509, 510, 511, 512, 513, 514, 515, 516, 517, 518, 519, 522, 523, 524, 525, 526, 527,
  528, 529, 530, 531, 532, 533, 534, 537, 538, 541, 542, 543, 544, 545, 546, 547, 548, 549, 550, 551, 552, 553, 554, 555, 556, 557, 560, 561, 562, 563, 564, 565, 566, 567, 568, 569, 570, 571, 572, 573,
  574, 575, 576, 577, 580, 581, 584, 585, 586, 587, 588, 589, 590, 591, 592, 593, 594, 595, 596, 597, 598, 599, 600, 603, 604, 605, 606, 607, 608, 609, 610, 611, 612, 613, 614, 615, 616, 617, 618, 619,
  620, 623, 624, 627, 628, 629, 630, 631, 632, 633, 634, 635, 636, 637, 638, 639, 640, 641, 642, 643, 644, 645, 646, 647, 648, 651, 652, 653, 654, 655, 656, 657, 658, 659, 660, 661, 662, 663, 664, 665,
  666, 667, 668, 669, 670, 671, 672, 673, 676, 677, 680, 681, 682, 683, 684, 685, 686, 687, 688, 689, 690, 691, 692, 693, 694, 695, 696, 697, 698, 699, 700, 701, 702, 703, 704, 705, 706, 709, 710, 711,
  712, 713, 714, 715, 716, 717, 718, 719, 720, 721, 722, 723, 724, 725, 726, 727, 728, 729, 730, 731, 732, 733, 734, 735, 736, 739, 740, 743, 744, 745, 746, 747, 748, 749, 750, 751, 752, 753, 754, 755,
  756, 757, 758, 759, 760, 761, 762, 763, 764, 765, 766, 767, 768, 769, 770, 771, 773, 774, 775, 778, 779, 780, 781, 782, 783, 784, 785, 786, 787, 788, 789, 790, 791, 792, 793, 794, 795, 796, 797, 798,
  799, 800, 801, 802, 803, 804, 805, 806, 807, 809, 810, 811, 814, 815, 818, 819, 820, 821, 822, 823, 824, 825, 826, 827, 828, 829, 832, 833, 834, 835, 836, 837, 838, 839, 840, 841, 842, 843, 844, 847,
  848, 851, 852, 853, 854, 855, 856, 857, 858, 859, 860, 861, 862, 863, 864, 865, 866, 867, 870, 871, 872, 873, 874, 875, 876, 877, 878, 879, 880, 881, 882, 883, 884, 885, 886, 887, 890, 891, 894, 895,
  896, 897, 898, 899, 900, 901, 902, 903, 904, 905, 906, 907, 908, 909, 910, 911, 912, 913, 914, 915, 916, 917, 918, 919, 920, 923, 924, 925, 926, 927, 928, 929, 930, 931, 932, 933, 934, 935, 936, 937,
  938, 939, 940, 941, 942, 943, 944, 945, 946, 947, 948, 949, 950, 953, 954, 957, 958, 959, 960, 961, 962, 963, 964, 965, 966, 967, 968, 969, 970, 971, 972, 973, 974, 975, 976, 977, 978, 979, 980, 981,
  982, 983, 986, 987, 988, 989, 990, 991, 992, 993, 994, 995, 996, 997, 998, 999, 1000, 1001, 1002, 1003, 1004, 1005, 1006, 1007, 1008, 1009, 1010, 1011, 1012, 1013, 1016, 1017, 1020, 1021, 1022, 1023, 1024, 1025, 1026, 1027,
  1028, 1029, 1030, 1031, 1034, 1035, 1036, 1037, 1038, 1039, 1040, 1041, 1042, 1043, 1044, 1045, 1046, 1049, 1050, 1053, 1054, 1055, 1056, 1057, 1058, 1059, 1060, 1061, 1062, 1063, 1064, 1065, 1066, 1067, 1068, 1069, 1070, 1071, 1072, 1073,
  1074, 1077, 1078, 1079, 1080, 1081, 1082, 1083, 1084, 1085, 1086, 1087, 1088, 1089, 1090, 1091, 1092, 1093, 1094, 1095, 1096, 1097, 1098, 1099, 1102, 1103, 1106, 1107, 1108, 1109, 1110, 1111, 1112, 1113, 1114, 1115, 1116, 1117, 1120, 1121,
  1122, 1123, 1124, 1125, 1126, 1127, 1128, 1129, 1130, 1131, 1132, 1135, 1136, 1139, 1140, 1141, 1142, 1143, 1144, 1145, 1146, 1147, 1148, 1149, 1150, 1153, 1154, 1155, 1156, 1157, 1158, 1159, 1160, 1161, 1162, 1163, 1164, 1165, 1168, 1169,
  1172, 1173, 1174, 1175, 1176, 1177, 1178, 1179, 1180, 1181, 1182, 1183, 1184, 1185, 1186, 1187, 1188, 1191, 1192, 1193, 1194, 1195, 1196, 1197, 1198, 1199, 1200, 1201, 1202, 1203, 1204, 1205, 1206, 1207, 1208, 1211, 1212, 1215, 1216, 1217,
  1218, 1219, 1220, 1221, 1224, 1225, 1226, 1227, 1228, 1229, 1230, 1231, 1234, 1235, 1238, 1239, 1242, 1243, 1244, 1247, 1248, 1251, 1252, 1255, 1256, 1257, 1260, 1261, 1264, 1265, 1266, 1267, 1268, 1269, 1270, 1273, 1274, 1275, 1276, 1277,
  1278, 1279, 1280, 1283, 1284, 1287, 1288, 1289, 1290, 1291, 1292, 1293, 1296, 1297, 1298, 1299, 1300, 1301, 1302, 1303, 1306, 1307, 1310, 1313, 1316, 1317],
  [1016, 0, 1018, 0, 5193, 0, 5195, 0, 0, 0, 0, 0, 0, 0, 0, 0, 0, 0, 0, 0, 0, 0, 0, 0, 0, 0, 0, 0, 0, 0, 0, 0, 0, 0, 0, 0, 0, 0, 2094, 0,
  0, 0, 0, 0, 0, 0, 0, 0, 0, 0, 0, 0, 0, 0, 0, 0, 6165, 0, 0, 0, 0, 0, 0, 0, 0, 0, 0, 0, 0, 0, 0, 0, 0, 0, 0, 2112, 0, 0, 0, 0,
  0, 0, 0, 0, 0, 0, 0, 0, 0, 0, 0, 0, 0, 6179, 0, 0, 0, 0, 0, 0, 0, 0, 0, 0, 0, 0, 0, 0, 0, 0, 0, 0, 2133, 0, 0, 0, 0, 0, 0, 0,
  0, 0, 0, 0, 0, 0, 0, 0, 0, 0, 6190, 0, 0, 0, 0, 0, 0, 0, 0, 0, 0, 0, 0, 0, 0, 0, 0, 0, 0, 0, 0, 0, 0, 0, 0, 0, 0, 0, 0, 2145,
  0, 0, 0, 0, 0, 0, 0, 0, 0, 0, 0, 0, 0, 0, 0, 0, 0, 0, 0, 0, 0, 0, 0, 0, 0, 0, 0, 6194, 0, 0, 0, 0, 0, 0, 0, 0, 2157, 0, 0, 0,
  0, 0, 0, 0, 6202, 0, 0, 0, 0, 0, 0, 0, 0, 3026, 0, 0, 0, 0, 0, 0, 0, 7192, 0, 0, 0, 0, 0, 0, 0, 0, 3062, 0, 0, 0, 0, 0, 0, 0, 7097, 0,
  0, 0, 0, 0, 0, 0, 0, 3157, 0, 0, 0, 0, 0, 0, 0, 7133, 0, 0, 0, 0, 0, 0, 0, 0, 3175, 0, 0, 0, 0, 0, 0, 7160, 0, 0, 0, 0, 0, 0, 0, 0,
  0, 0, 0, 0, 0, 0, 4004, 0, 0, 0, 0, 0, 0, 0, 0, 0, 0, 0, 0, 7184, 0, 0, 0, 0, 0, 0, 0, 0, 0, 0, 0, 0, 0, 4020, 0, 0, 0, 0, 0, 0,
  0, 0, 0, 0, 0, 0, 7156, 0, 0, 0, 0, 0, 0, 0, 0, 0, 0, 0, 0, 0, 0, 0, 0, 0, 0, 4053, 0, 0, 0, 0, 0, 0, 0, 0, 0, 0, 0, 0, 0, 0,
  0, 0, 0, 7048, 0, 0, 0, 0, 0, 0, 0, 0, 0, 0, 0, 0, 0, 0, 0, 0, 0, 0, 4096, 0, 0, 0, 0, 0, 0, 0, 0, 0, 0, 0, 0, 0, 0, 0, 0, 0,
  7085, 0, 0, 0, 0, 0, 0, 0, 0, 0, 0, 0, 0, 0, 0, 0, 0, 0, 0, 0, 0, 0, 0, 0, 4110, 0, 0, 0, 0, 0, 0, 0, 0, 0, 0, 0, 0, 0, 0, 0,
  0, 0, 0, 0, 0, 0, 0, 7093, 0, 0, 0, 0, 0, 0, 0, 0, 0, 0, 0, 0, 0, 0, 0, 0, 0, 0, 0, 0, 0, 0, 0, 0, 0, 0, 0, 0, 4121, 0, 0, 0,
  0, 0, 0, 0, 0, 0, 0, 0, 0, 0, 0, 0, 0, 0, 0, 0, 0, 0, 0, 0, 0, 0, 0, 0, 7200, 0, 0, 0, 0, 0, 0, 0, 0, 0, 0, 0, 0, 0, 0, 0,
  0, 0, 0, 0, 0, 0, 0, 0, 0, 0, 0, 0, 0, 0, 0, 0, 0, 0, 4134, 0, 0, 0, 0, 0, 0, 0, 0, 0, 0, 0, 0, 0, 0, 0, 0, 0, 0, 0, 0, 0,
  0, 0, 0, 0, 0, 0, 0, 0, 0, 0, 0, 7208, 0, 0, 0, 0, 0, 0, 0, 0, 0, 0, 0, 0, 0, 4205, 0, 0, 0, 0, 0, 0, 0, 0, 0, 0, 0, 0, 7221, 0,
  0, 0, 0, 0, 0, 0, 0, 0, 0, 0, 0, 0, 0, 0, 0, 0, 0, 5001, 0, 0, 0, 0, 0, 0, 0, 0, 0, 0, 0, 0, 0, 0, 0, 0, 0, 7233, 0, 0, 0, 0,
  0, 0, 0, 0, 0, 0, 0, 0, 0, 0, 0, 0, 0, 0, 0, 0, 0, 0, 0, 0, 0, 0, 0, 0, 5007, 0, 0, 0, 0, 0, 0, 0, 0, 0, 0, 0, 0, 0, 0, 0,
  0, 0, 0, 0, 0, 0, 0, 0, 0, 0, 0, 0, 7238, 0, 0, 0, 0, 0, 0, 0, 0, 0, 0, 0, 0, 0, 0, 0, 0, 0, 0, 0, 0, 0, 0, 0, 0, 0, 0, 0,
  0, 5078, 0, 0, 0, 0, 0, 0, 0, 0, 0, 0, 0, 0, 0, 0, 0, 0, 0, 0, 0, 0, 0, 0, 0, 0, 0, 0, 0, 8012, 0, 0, 0, 0, 0, 0, 0, 0, 0, 0,
  0, 0, 0, 5114, 0, 0, 0, 0, 0, 0, 0, 0, 0, 0, 0, 0, 8035, 0, 0, 0, 0, 0, 0, 0, 0, 0, 0, 0, 0, 0, 0, 0, 0, 0, 0, 0, 0, 0, 0, 0,
  5033, 0, 0, 0, 0, 0, 0, 0, 0, 0, 0, 0, 0, 0, 0, 0, 0, 0, 0, 0, 0, 0, 0, 8050, 0, 0, 0, 0, 0, 0, 0, 0, 0, 0, 0, 0, 0, 5147, 0, 0,
  0, 0, 0, 0, 0, 0, 0, 0, 0, 0, 8066, 0, 0, 0, 0, 0, 0, 0, 0, 0, 0, 0, 0, 0, 4172, 0, 0, 0, 0, 0, 0, 0, 0, 0, 0, 0, 0, 8086, 0, 0,
  0, 0, 0, 0, 0, 0, 0, 0, 0, 0, 0, 0, 0, 0, 0, 0, 4180, 0, 0, 0, 0, 0, 0, 0, 0, 0, 0, 0, 0, 0, 0, 0, 0, 0, 8090, 0, 0, 0, 0, 0,
  0, 0, 0, 3166, 0, 0, 0, 0, 0, 0, 0, 8102, 0, 0, 0, 4029, 0, 0, 8107, 0, 0, 0, 4033, 0, 0, 8111, 0, 0, 0, 0, 0, 0, 0, 0, 4037, 0, 0, 0, 0, 0,
  0, 0, 8115, 0, 0, 0, 0, 0, 0, 0, 0, 5176, 0, 0, 0, 0, 0, 0, 0, 8123, 0, 0, 0, 0, 0, 0], 4, some .boolean, [], 0, 1)
end
section
/-! the check that the data are the bytecode and its links -/
def hx_pc (u : hx_M) (i : Nat) : Nat := (hx_pcs u).getD i 0
def hx_dec (u : hx_M) (i : Nat) (j : Instr) (n : Nat) : Bool := decide (decode (hx_b u) (hx_pc u i) = .ok (j, n)) && decide (hx_pc u (i + 1) = hx_pc u i + n)
def hx_decl (u : hx_M) (i : Nat) (j : Instr) : Bool := decide (decode (hx_b u) (hx_pc u i) = .ok (j, 3))
def hx_off (u : hx_M) (i : Nat) (t : Int) : Int := (hx_pc u t.toNat : Int) - (hx_pc u i : Int)
def hx_ch : List (List Cond) := [k2_sels lw_privs, tables_1_1, tables_1_2, tables_1_3, tables_1_4, tables_1_5, tables_1_6, tables_1_7, tables_1_8]
theorem hx_ch_in : ∀ l ∈ hx_ch, ∀ w ∈ l, w ∈ lw_tbl := by
  intro l hl w hw
  simp only [hx_ch, List.mem_cons, List.not_mem_nil, or_false] at hl
  unfold lw_tbl tables_1
  simp only [List.mem_append]
  rcases hl with rfl | rfl | rfl | rfl | rfl | rfl | rfl | rfl | rfl <;> simp [hw]
/-- the words that hold at a callee's start too -/
def hx_T : List Cond := lw_tbl.filter goodWord
theorem hx_T_in {w : Cond} (h : w ∈ lw_tbl) (hg : goodWord w = true) : w ∈ hx_T := List.mem_filter.mpr ⟨h, hg⟩
theorem hx_good : GoodIn hx_T hx_T := fun w hw => ⟨hw, good_of_word (List.mem_filter.mp hw).2⟩
def hx_wd (k : Nat) (w : Cond) : Bool := match hx_ch[k / 1000]? with
  | some l => decide (l[k % 1000]? = some w) && goodWord w
  | none => false
theorem hx_wd_in {k : Nat} {w : Cond} (h : hx_wd k w = true) : w ∈ hx_T := by
  unfold hx_wd at h
  split at h
  · next l hl =>
    rw [Bool.and_eq_true] at h
    exact hx_T_in (hx_ch_in l (List.mem_of_getElem? hl) w (List.mem_of_getElem? (of_decide_eq_true h.1))) h.2
  · cases h
def hx_wk (u : hx_M) (i : Nat) : Nat := (hx_wx u).getD i 0
/-- the number that an instruction bears -/
def hx_ix (u : hx_M) (i : Nat) : Nat := match decode (hx_b u) (hx_pc u i) with
  | .ok (.getfield x, _) => x
  | .ok (.putfield x, _) => x
  | .ok (.getstatic x, _) => x
  | .ok (.new x, _) => x
  | .ok (.invokevirtual x, _) => x
  | .ok (.invokespecial x, _) => x
  | .ok (.invokestatic x, _) => x
  | .ok (.ldc x, _) => x
  | .ok (.ldc_w x, _) => x
  | _ => 0
/-- a switch's offsets as they stand in the bytes -/
def hx_tb (u : hx_M) (i : Nat) (d lo hi : Int) (offs : Array Int) : Bool := match decode (hx_b u) (hx_pc u i) with
  | .ok (.tableswitch d' lo' hi' offs', _) => decide (d' = hx_off u i d) && decide (lo' = lo) && decide (hi' = hi) && decide (offs'.toList = offs.toList.map (hx_off u i)) && decide (offs.toList.length = (hi - lo + 1).toNat) && decide (lo ≤ hi)
  | _ => false
def hx_lk (u : hx_M) (i : Nat) (d : Int) (ps : Array (Int × Int)) : Bool := match decode (hx_b u) (hx_pc u i) with
  | .ok (.lookupswitch d' ps', _) => decide (d' = hx_off u i d) && decide (ps'.toList = ps.toList.map (fun q => (q.1, hx_off u i q.2))) && (ps'.toList.zip (ps'.toList.drop 1)).all (fun (a, next) => a.1 < next.1)
  | _ => false
def hx_okI (u : hx_M) (i : Nat) (ins : Instr) : Bool := match ins with
  | .iload k => if h : k < 4 then hx_dec u i (.iload_n ⟨k, h⟩) 1 else hx_dec u i (.iload k) 2
  | .aload k => if h : k < 4 then hx_dec u i (.aload_n ⟨k, h⟩) 1 else hx_dec u i (.aload k) 2
  | .istore k => decide (k < hx_L u) && if h : k < 4 then hx_dec u i (.istore_n ⟨k, h⟩) 1 else hx_dec u i (.istore k) 2
  | .astore k => decide (k < hx_L u) && if h : k < 4 then hx_dec u i (.astore_n ⟨k, h⟩) 1 else hx_dec u i (.astore k) 2
  | .bipush n => hx_dec u i (.iconst n) 1 || (hx_dec u i (.bipush n) 2 && decide ((Int8.ofInt n).toInt32 = Int32.ofInt n)) || (hx_dec u i (.sipush n) 3 && decide ((Int16.ofInt n).toInt32 = Int32.ofInt n)) ||
      (hx_dec u i (.ldc (hx_ix u i)) 2 && hx_wd (hx_wk u i) (.constant (hx_y u).cls (hx_ix u i) (Int32.ofInt n))) || (hx_dec u i (.ldc_w (hx_ix u i)) 3 && hx_wd (hx_wk u i) (.constant (hx_y u).cls (hx_ix u i) (Int32.ofInt n)))
  | .iinc k n => decide (k < hx_L u) && hx_dec u i (.iinc k n) 3
  | .goto t => hx_decl u i (.goto (hx_off u i t))
  | .ifCond c t => hx_dec u i (.ifCond c (hx_off u i t)) 3
  | .if_icmp c t => hx_dec u i (.if_icmp c (hx_off u i t)) 3
  | .tableswitch d lo hi offs => hx_tb u i d lo hi offs
  | .lookupswitch d ps => hx_lk u i d ps
  | .getfield f => match hx_cl[f / 100]? with
      | some q => decide (f % 100 < q.2.2) && hx_dec u i (.getfield (hx_ix u i)) 3 && hx_wd (hx_wk u i) (.fieldLink (hx_y u).cls (hx_ix u i) (q.2.1 (f % 100)).1 (q.2.1 (f % 100)).2.1 (q.2.1 (f % 100)).2.2.1)
      | none => false
  | .putfield f => match hx_cl[f / 100]? with
      | some q => decide (f % 100 < q.2.2) && hx_dec u i (.putfield (hx_ix u i)) 3 && hx_wd (hx_wk u i) (.fieldLink (hx_y u).cls (hx_ix u i) (q.2.1 (f % 100)).1 (q.2.1 (f % 100)).2.1 (q.2.1 (f % 100)).2.2.1) &&
          (!(q.2.1 (f % 100)).2.2.2 || (decide ((hx_y u).name = "<init>") && decide ((q.2.1 (f % 100)).1 = (hx_y u).cls)))
      | none => false
  | .getstatic _ => hx_dec u i (.getstatic (hx_ix u i)) 3 && hx_wd (hx_wk u i) (.fieldLink (hx_y u).cls (hx_ix u i) "HueWar$Purse" "ORDERS" "[I")
  | .new ci => match hx_cl[ci]? with
      | some q => hx_dec u i (.new (hx_ix u i)) 3 && hx_wd (hx_wk u i) (.classLink (hx_y u).cls (hx_ix u i) q.1) && hx_wd (hx_cw.getD ci (0, 0)).1 (.instantiable q.1 q.2.2) && hx_wd (hx_cw.getD ci (0, 0)).2 (.initialized q.1)
      | none => false
  | .newarray t => hx_dec u i (.newarray t) 2 && hx_wd (hx_wk u i) (.arrayClass (Op.newarray.typeOf t))
  | .invokevirtual j => match hx_ms[j]? with
      | some v => decide (hx_kind v = 1) && hx_dec u i (.invokevirtual (hx_ix u i)) 3 && hx_wd (hx_wk u i) (.methodLink (hx_y u).cls (hx_ix u i) (hx_y v))
      | none => false
  | .invokestatic j => if j = 9991 then hx_dec u i (.invokestatic (hx_ix u i)) 3 && hx_wd (hx_wk u i) (.methodLink (hx_y u).cls (hx_ix u i) Lib.Math.min.name)
      else if j = 9992 then hx_dec u i (.invokestatic (hx_ix u i)) 3 && hx_wd (hx_wk u i) (.methodLink (hx_y u).cls (hx_ix u i) Lib.Math.max.name)
      else if j = 9993 then hx_dec u i (.invokestatic (hx_ix u i)) 3 && hx_wd (hx_wk u i) (.methodLink (hx_y u).cls (hx_ix u i) Lib.Math.abs.name)
      else if j = 9999 then hx_dec u i (.invokestatic (hx_ix u i)) 3 && hx_wd (hx_wk u i) (.methodLink (hx_y u).cls (hx_ix u i) arraycopyName) else match hx_ms[j]? with
      | some v => decide (hx_kind v = 0) && hx_dec u i (.invokestatic (hx_ix u i)) 3 && (hx_wd (hx_wk u i) (.methodLink (hx_y u).cls (hx_ix u i) (hx_y v)) || decide (hx_N[hx_wk u i]? = some ((hx_y u).cls, hx_ix u i, hx_y v, "HueWar")))
      | none => false
  | .invokespecial j => if j = 9999 then hx_dec u i (.invokespecial (hx_ix u i)) 3 && hx_wd (hx_wk u i) (.methodLink (hx_y u).cls (hx_ix u i) Lib.objectInit) else match hx_ms[j]? with
      | some v => decide (hx_kind v = 2) && hx_dec u i (.invokespecial (hx_ix u i)) 3 && (hx_wd (hx_wk u i) (.methodLink (hx_y u).cls (hx_ix u i) (hx_y v)) || decide (hx_N[hx_wk u i]? = some ((hx_y u).cls, hx_ix u i, hx_y v, "HueWar")))
      | none => false
  | .iadd => hx_dec u i .iadd 1
  | .isub => hx_dec u i .isub 1
  | .imul => hx_dec u i .imul 1
  | .idiv => hx_dec u i .idiv 1
  | .irem => hx_dec u i .irem 1
  | .ineg => hx_dec u i .ineg 1
  | .iand => hx_dec u i .iand 1
  | .ior => hx_dec u i .ior 1
  | .ixor => hx_dec u i .ixor 1
  | .ishl => hx_dec u i .ishl 1
  | .ishr => hx_dec u i .ishr 1
  | .iushr => hx_dec u i .iushr 1
  | .i2b => hx_dec u i .i2b 1
  | .iaload => hx_dec u i .iaload 1
  | .baload => hx_dec u i .baload 1
  | .iastore => hx_dec u i .iastore 1
  | .bastore => hx_dec u i .bastore 1
  | .arraylength => hx_dec u i .arraylength 1
  | .dup => hx_dec u i .dup 1
  | .dup2 => hx_dec u i .dup2 1
  | .pop => hx_dec u i .pop 1
  | .ireturn => decide (decode (hx_b u) (hx_pc u i) = .ok (.ireturn, 1))
  | .return_ => decide (decode (hx_b u) (hx_pc u i) = .ok (.return_, 1))
  | _ => false
/-- every instruction is what the bytes say -/
def hx_okO (u : hx_M) : Bool := (List.range (hx_ops u).length).all (fun i => match (hx_ops u)[i]? with
  | some ins => hx_okI u i ins
  | none => true) && decide (hx_pc u 0 = 0)
/-- it can be called: what is read off, and its code's word -/
def hx_okC (u : hx_M) : Bool := plainName (hx_y u).cls && decide ((hx_y u).cls ≠ "java/lang/invoke/MethodHandle" ∧ (hx_y u).cls ≠ "java/lang/invoke/VarHandle") && decide ((parseMethodDescriptor (hx_y u).desc).map (fun d => d.parameters.length) = some (hx_na u)) && decide (hx_L u ≤ 21) &&
  match hx_kind u with
  | 0 => hx_wd ((hx_mw u).getD 1 0) (.static (hx_y u)) && hx_wd ((hx_mw u).getD 2 0) (.initialized (hx_y u).cls)
  | 1 => hx_wd ((hx_mw u).getD 1 0) (.instanceMethod (hx_y u)) && hx_wd ((hx_mw u).getD 2 0) (.selects (hx_y u).cls (hx_y u) (hx_y u)) && hx_wd ((hx_mw u).getD 3 0) (.initialized (hx_y u).cls)
  | 2 => hx_wd ((hx_mw u).getD 1 0) (.instanceMethod (hx_y u)) && hx_wd ((hx_mw u).getD 2 0) (.initialized (hx_y u).cls) && decide ((hx_y u).name = "<init>") && decide (hx_ret u = none)
  | _ => false
def hx_cal (u : hx_M) : Prop := hx_okC u = true ∧ Cond.code (hx_y u) (hx_b u) (hx_L u) (hx_ret u) ∈ hx_T
def hx_okR (u : hx_M) (a n : Nat) : Bool := (List.range n).all (fun i => match (hx_ops u)[a + i]? with
  | some ins => hx_okI u (a + i) ins
  | none => true)
theorem hx_okO_of {u : hx_M} (h0 : hx_pc u 0 = 0) (as : List Nat) (hl : (List.range (hx_ops u).length).all (fun i => as.any (fun a => decide (a ≤ i) && decide (i < a + 50))) = true) (h : ∀ a ∈ as, hx_okR u a 50 = true) : hx_okO u = true := by
  unfold hx_okO
  rw [Bool.and_eq_true]
  refine ⟨List.all_eq_true.mpr fun i hi => ?_, decide_eq_true h0⟩
  have h1 := List.all_eq_true.mp hl i hi
  obtain ⟨a, ha, hb⟩ := List.any_eq_true.mp h1
  simp only [Bool.and_eq_true, decide_eq_true_eq] at hb
  have h2 := List.all_eq_true.mp (h a ha) (i - a) (List.mem_range.mpr (by omega))
  rw [show a + (i - a) = i by omega] at h2
  exact h2
theorem hx_at {u : hx_M} {i : Nat} {ins : Instr} (h : hx_okO u = true) (hi : (hx_ops u)[i]? = some ins) : hx_okI u i ins = true := by
  unfold hx_okO at h
  rw [Bool.and_eq_true] at h
  have hl : i < (hx_ops u).length := (List.getElem?_eq_some_iff.mp hi).1
  have h2 := List.all_eq_true.mp h.1 i (List.mem_range.mpr hl)
  rw [hi] at h2
  exact h2
theorem hx_at0 {u : hx_M} (h : hx_okO u = true) : hx_pc u 0 = 0 := by
  unfold hx_okO at h
  rw [Bool.and_eq_true] at h
  exact of_decide_eq_true h.2
theorem hx_dec_s {u : hx_M} {i : Nat} {j : Instr} {n : Nat} (h : hx_dec u i j n = true) : decode (hx_b u) (hx_pc u i) = .ok (j, n) ∧ hx_pc u (i + 1) = hx_pc u i + n := by
  unfold hx_dec at h
  rw [Bool.and_eq_true] at h
  exact ⟨of_decide_eq_true h.1, of_decide_eq_true h.2⟩
end
section
/-! the check by the bytes themselves: quicker than to decode each -/
theorem hq_u1e (c : ByteArray) (p : Nat) : (Reader.u1 : Decoder Nat) c p = (if h : p < c.size then .ok (c[p].toNat, p + 1) else .error (HasTruncated.truncated p)) := by
  show (do if h : p < c.size then do set (p + 1); Pure.pure c[p].toNat else MonadExcept.throw (HasTruncated.truncated p) : Decoder Nat) c p = _
  by_cases hi : p < c.size
  · rw [dif_pos hi, dif_pos hi]; rfl
  · rw [dif_neg hi, dif_neg hi]; rfl
theorem hq_bind {α β : Type} {r : Decoder α} {f : α → Decoder β} {c : ByteArray} {p q : Nat} {a : α} (h : r c p = .ok (a, q)) : (r >>= f) c p = f a c q := by
  show (do let (a, s) ← r c p; f a c s : Except DecodeError (β × Nat)) = _
  rw [h]; rfl
theorem hq_map {α β : Type} {r : Decoder α} {g : α → β} {c : ByteArray} {p q : Nat} {a : α} (h : r c p = .ok (a, q)) : (g <$> r) c p = .ok (g a, q) := by
  show (do let (a, s) ← r c p; .ok (g a, s) : Except DecodeError (β × Nat)) = _
  rw [h]; rfl
theorem hq_tl {α : Type} {l : List α} {i : Nat} {a : α} {r : List α} (h : l.drop i = a :: r) : l[i]? = some a ∧ l.drop (i + 1) = r := by
  have hl : i < l.length := by
    have h2 := congrArg List.length h
    simp only [List.length_drop, List.length_cons] at h2
    omega
  rw [List.drop_eq_getElem_cons hl] at h
  injection h with h1 h2
  exact ⟨by rw [List.getElem?_eq_getElem hl, h1], h2⟩
theorem hq_b1 {c : ByteArray} {p : Nat} {b : UInt8} {r : List UInt8} (h : c.data.toList.drop p = b :: r) : (Reader.u1 : Decoder Nat) c p = .ok (b.toNat, p + 1) := by
  have hl : p < c.data.toList.length := by
    have h2 := congrArg List.length h
    simp only [List.length_drop, List.length_cons] at h2
    omega
  rw [List.drop_eq_getElem_cons hl] at h
  injection h with h1 h2
  have hs : p < c.size := by simpa using hl
  rw [hq_u1e, dif_pos hs, ← h1]
  rfl
theorem hq_b2 {c : ByteArray} {p : Nat} {b d : UInt8} {r : List UInt8} (h : c.data.toList.drop p = b :: d :: r) : (Reader.u2 : Decoder Nat) c p = .ok (b.toNat * 256 + d.toNat, p + 2) := by
  have h2 := (hq_tl h).2
  show (Reader.u1 >>= fun hi => Reader.u1 >>= fun lo => Pure.pure (hi * 256 + lo) : Decoder Nat) c p = _
  rw [hq_bind (hq_b1 h), hq_bind (hq_b1 h2)]
  rfl
theorem hq_of {c : ByteArray} {p q : Nat} {j : Instr} (h : Decoder.instr p c p = .ok (j, q)) : decode c p = .ok (j, q - p) := by
  show (do let (i, n) ← Decoder.instr p c p; Pure.pure (i, n - p) : Except DecodeError (Instr × Nat)) = _
  rw [h]; rfl
/-- what is read behind an opcode -/
def hq_H (v : Nat) (m : Decoder Instr) : Prop := ∃ K : Nat → Nat → Decoder Instr, (∀ p, Decoder.instr p = Reader.u1 >>= K p) ∧ ∀ p, K p v = m
theorem hq_run {v : Nat} {m : Decoder Instr} (hH : hq_H v m) {c : ByteArray} {p q : Nat} {b : UInt8} {r : List UInt8} {j : Instr} (hb : c.data.toList.drop p = b :: r) (hv : b.toNat = v) (hm : m c (p + 1) = .ok (j, q)) : decode c p = .ok (j, q - p) := by
  obtain ⟨K, h1, h2⟩ := hH
  apply hq_of
  rw [h1, hq_bind (hq_b1 hb), hv, h2]
  exact hm
theorem hq_r1 {v : Nat} {j : Instr} (hH : hq_H v (Pure.pure j)) {c : ByteArray} {p : Nat} {b : UInt8} {r : List UInt8} (hb : c.data.toList.drop p = b :: r) (hv : b.toNat = v) : decode c p = .ok (j, 1) := by
  have h := hq_run hH hb hv (q := p + 1) (j := j) rfl
  rwa [Nat.add_sub_cancel_left] at h
theorem hq_r2 {v : Nat} {f : Nat → Instr} (hH : hq_H v (Reader.u1 >>= fun x => Pure.pure (f x))) {c : ByteArray} {p : Nat} {b d : UInt8} {r : List UInt8} (hb : c.data.toList.drop p = b :: d :: r) (hv : b.toNat = v) : decode c p = .ok (f d.toNat, 2) := by
  have h := hq_run hH hb hv (q := p + 2) (j := f d.toNat) (by rw [hq_bind (hq_b1 (hq_tl hb).2)]; rfl)
  rwa [Nat.add_sub_cancel_left] at h
theorem hq_r2s {v : Nat} {f : Int → Instr} (hH : hq_H v (Reader.s1 >>= fun x => Pure.pure (f x))) {c : ByteArray} {p : Nat} {b d : UInt8} {r : List UInt8} (hb : c.data.toList.drop p = b :: d :: r) (hv : b.toNat = v) : decode c p = .ok (f (Reader.signed 8 d.toNat), 2) := by
  have h := hq_run hH hb hv (q := p + 2) (j := f (Reader.signed 8 d.toNat)) (by
    have e : (Reader.s1 : Decoder Int) c (p + 1) = .ok (Reader.signed 8 d.toNat, p + 2) := hq_map (hq_b1 (hq_tl hb).2)
    rw [hq_bind e]; rfl)
  rwa [Nat.add_sub_cancel_left] at h
theorem hq_r3 {v : Nat} {f : Nat → Instr} (hH : hq_H v (Reader.u2 >>= fun x => Pure.pure (f x))) {c : ByteArray} {p : Nat} {b d e : UInt8} {r : List UInt8} (hb : c.data.toList.drop p = b :: d :: e :: r) (hv : b.toNat = v) : decode c p = .ok (f (d.toNat * 256 + e.toNat), 3) := by
  have h := hq_run hH hb hv (q := p + 3) (j := f (d.toNat * 256 + e.toNat)) (by rw [hq_bind (hq_b2 (hq_tl hb).2)]; rfl)
  rwa [Nat.add_sub_cancel_left] at h
theorem hq_r3s {v : Nat} {f : Int → Instr} (hH : hq_H v (Reader.s2 >>= fun x => Pure.pure (f x))) {c : ByteArray} {p : Nat} {b d e : UInt8} {r : List UInt8} (hb : c.data.toList.drop p = b :: d :: e :: r) (hv : b.toNat = v) : decode c p = .ok (f (Reader.signed 16 (d.toNat * 256 + e.toNat)), 3) := by
  have h := hq_run hH hb hv (q := p + 3) (j := f (Reader.signed 16 (d.toNat * 256 + e.toNat))) (by
    have e1 : (Reader.s2 : Decoder Int) c (p + 1) = .ok (Reader.signed 16 (d.toNat * 256 + e.toNat), p + 3) := hq_map (hq_b2 (hq_tl hb).2)
    rw [hq_bind e1]; rfl)
  rwa [Nat.add_sub_cancel_left] at h
theorem hq_rinc (hH : hq_H 132 (Reader.u1 >>= fun x => Reader.s1 >>= fun y => Pure.pure (.iinc x y))) {c : ByteArray} {p : Nat} {b d e : UInt8} {r : List UInt8} (hb : c.data.toList.drop p = b :: d :: e :: r) (hv : b.toNat = 132) : decode c p = .ok (.iinc d.toNat (Reader.signed 8 e.toNat), 3) := by
  have h := hq_run hH hb hv (q := p + 3) (j := .iinc d.toNat (Reader.signed 8 e.toNat)) (by
    have e1 : (Reader.s1 : Decoder Int) c (p + 1 + 1) = .ok (Reader.signed 8 e.toNat, p + 1 + 1 + 1) := hq_map (hq_b1 (hq_tl (hq_tl hb).2).2)
    rw [hq_bind (hq_b1 (hq_tl hb).2), hq_bind e1]; rfl)
  rwa [Nat.add_sub_cancel_left] at h
theorem hq_h_iadd : hq_H 96 (Pure.pure .iadd) := ⟨_, fun _ => rfl, fun _ => rfl⟩
theorem hq_h_isub : hq_H 100 (Pure.pure .isub) := ⟨_, fun _ => rfl, fun _ => rfl⟩
theorem hq_h_imul : hq_H 104 (Pure.pure .imul) := ⟨_, fun _ => rfl, fun _ => rfl⟩
theorem hq_h_idiv : hq_H 108 (Pure.pure .idiv) := ⟨_, fun _ => rfl, fun _ => rfl⟩
theorem hq_h_irem : hq_H 112 (Pure.pure .irem) := ⟨_, fun _ => rfl, fun _ => rfl⟩
theorem hq_h_iand : hq_H 126 (Pure.pure .iand) := ⟨_, fun _ => rfl, fun _ => rfl⟩
theorem hq_h_ior : hq_H 128 (Pure.pure .ior) := ⟨_, fun _ => rfl, fun _ => rfl⟩
theorem hq_h_ixor : hq_H 130 (Pure.pure .ixor) := ⟨_, fun _ => rfl, fun _ => rfl⟩
theorem hq_h_ishl : hq_H 120 (Pure.pure .ishl) := ⟨_, fun _ => rfl, fun _ => rfl⟩
theorem hq_h_iaload : hq_H 46 (Pure.pure .iaload) := ⟨_, fun _ => rfl, fun _ => rfl⟩
theorem hq_h_baload : hq_H 51 (Pure.pure .baload) := ⟨_, fun _ => rfl, fun _ => rfl⟩
theorem hq_h_iastore : hq_H 79 (Pure.pure .iastore) := ⟨_, fun _ => rfl, fun _ => rfl⟩
theorem hq_h_pop : hq_H 87 (Pure.pure .pop) := ⟨_, fun _ => rfl, fun _ => rfl⟩
theorem hq_h_dup : hq_H 89 (Pure.pure .dup) := ⟨_, fun _ => rfl, fun _ => rfl⟩
theorem hq_h_arraylength : hq_H 190 (Pure.pure .arraylength) := ⟨_, fun _ => rfl, fun _ => rfl⟩
theorem hq_h_ireturn : hq_H 172 (Pure.pure .ireturn) := ⟨_, fun _ => rfl, fun _ => rfl⟩
theorem hq_h_return_ : hq_H 177 (Pure.pure .return_) := ⟨_, fun _ => rfl, fun _ => rfl⟩
theorem hq_h_iload : hq_H 21 (Reader.u1 >>= fun x => Pure.pure (.iload x)) := ⟨_, fun _ => rfl, fun _ => rfl⟩
theorem hq_h_aload : hq_H 25 (Reader.u1 >>= fun x => Pure.pure (.aload x)) := ⟨_, fun _ => rfl, fun _ => rfl⟩
theorem hq_h_istore : hq_H 54 (Reader.u1 >>= fun x => Pure.pure (.istore x)) := ⟨_, fun _ => rfl, fun _ => rfl⟩
theorem hq_h_astore : hq_H 58 (Reader.u1 >>= fun x => Pure.pure (.astore x)) := ⟨_, fun _ => rfl, fun _ => rfl⟩
theorem hq_h_iload_n : ∀ (k : Nat) (hk : k < 4), hq_H (26 + k) (Pure.pure (.iload_n ⟨k, hk⟩))
  | 0, _ => (⟨_, fun _ => rfl, fun _ => rfl⟩ : hq_H 26 _)
  | 1, _ => (⟨_, fun _ => rfl, fun _ => rfl⟩ : hq_H 27 _)
  | 2, _ => (⟨_, fun _ => rfl, fun _ => rfl⟩ : hq_H 28 _)
  | 3, _ => (⟨_, fun _ => rfl, fun _ => rfl⟩ : hq_H 29 _)
theorem hq_h_aload_n : ∀ (k : Nat) (hk : k < 4), hq_H (42 + k) (Pure.pure (.aload_n ⟨k, hk⟩))
  | 0, _ => (⟨_, fun _ => rfl, fun _ => rfl⟩ : hq_H 42 _)
  | 1, _ => (⟨_, fun _ => rfl, fun _ => rfl⟩ : hq_H 43 _)
  | 2, _ => (⟨_, fun _ => rfl, fun _ => rfl⟩ : hq_H 44 _)
  | 3, _ => (⟨_, fun _ => rfl, fun _ => rfl⟩ : hq_H 45 _)
theorem hq_h_istore_n : ∀ (k : Nat) (hk : k < 4), hq_H (59 + k) (Pure.pure (.istore_n ⟨k, hk⟩))
  | 0, _ => (⟨_, fun _ => rfl, fun _ => rfl⟩ : hq_H 59 _)
  | 1, _ => (⟨_, fun _ => rfl, fun _ => rfl⟩ : hq_H 60 _)
  | 2, _ => (⟨_, fun _ => rfl, fun _ => rfl⟩ : hq_H 61 _)
  | 3, _ => (⟨_, fun _ => rfl, fun _ => rfl⟩ : hq_H 62 _)
theorem hq_h_astore_n : ∀ (k : Nat) (hk : k < 4), hq_H (75 + k) (Pure.pure (.astore_n ⟨k, hk⟩))
  | 0, _ => (⟨_, fun _ => rfl, fun _ => rfl⟩ : hq_H 75 _)
  | 1, _ => (⟨_, fun _ => rfl, fun _ => rfl⟩ : hq_H 76 _)
  | 2, _ => (⟨_, fun _ => rfl, fun _ => rfl⟩ : hq_H 77 _)
  | 3, _ => (⟨_, fun _ => rfl, fun _ => rfl⟩ : hq_H 78 _)
theorem hq_h_iconst (n : Int) (h1 : -1 ≤ n) (h2 : n ≤ 5) : hq_H (n + 3).toNat (Pure.pure (.iconst n)) := by
  have h3 : n = -1 ∨ n = 0 ∨ n = 1 ∨ n = 2 ∨ n = 3 ∨ n = 4 ∨ n = 5 := by omega
  rcases h3 with rfl | rfl | rfl | rfl | rfl | rfl | rfl
  · exact (⟨_, fun _ => rfl, fun _ => rfl⟩ : hq_H 2 _)
  · exact (⟨_, fun _ => rfl, fun _ => rfl⟩ : hq_H 3 _)
  · exact (⟨_, fun _ => rfl, fun _ => rfl⟩ : hq_H 4 _)
  · exact (⟨_, fun _ => rfl, fun _ => rfl⟩ : hq_H 5 _)
  · exact (⟨_, fun _ => rfl, fun _ => rfl⟩ : hq_H 6 _)
  · exact (⟨_, fun _ => rfl, fun _ => rfl⟩ : hq_H 7 _)
  · exact (⟨_, fun _ => rfl, fun _ => rfl⟩ : hq_H 8 _)
theorem hq_h_bipush : hq_H 16 (Reader.s1 >>= fun x => Pure.pure (.bipush x)) := ⟨_, fun _ => rfl, fun _ => rfl⟩
theorem hq_h_sipush : hq_H 17 (Reader.s2 >>= fun x => Pure.pure (.sipush x)) := ⟨_, fun _ => rfl, fun _ => rfl⟩
theorem hq_h_iinc : hq_H 132 (Reader.u1 >>= fun x => Reader.s1 >>= fun y => Pure.pure (.iinc x y)) := ⟨_, fun _ => rfl, fun _ => rfl⟩
theorem hq_h_goto : hq_H 167 (Reader.s2 >>= fun x => Pure.pure (.goto x)) := ⟨_, fun _ => rfl, fun _ => rfl⟩
def hq_cn : Jvm.ClassFile.Cond → Nat
  | .eq => 0
  | .ne => 1
  | .lt => 2
  | .ge => 3
  | .gt => 4
  | .le => 5
theorem hq_h_ifCond : ∀ k : Jvm.ClassFile.Cond, hq_H (153 + hq_cn k) (Reader.s2 >>= fun x => Pure.pure (.ifCond k x))
  | .eq => (⟨_, fun _ => rfl, fun _ => rfl⟩ : hq_H 153 _)
  | .ne => (⟨_, fun _ => rfl, fun _ => rfl⟩ : hq_H 154 _)
  | .lt => (⟨_, fun _ => rfl, fun _ => rfl⟩ : hq_H 155 _)
  | .ge => (⟨_, fun _ => rfl, fun _ => rfl⟩ : hq_H 156 _)
  | .gt => (⟨_, fun _ => rfl, fun _ => rfl⟩ : hq_H 157 _)
  | .le => (⟨_, fun _ => rfl, fun _ => rfl⟩ : hq_H 158 _)
theorem hq_h_if_icmp : ∀ k : Jvm.ClassFile.Cond, hq_H (159 + hq_cn k) (Reader.s2 >>= fun x => Pure.pure (.if_icmp k x))
  | .eq => (⟨_, fun _ => rfl, fun _ => rfl⟩ : hq_H 159 _)
  | .ne => (⟨_, fun _ => rfl, fun _ => rfl⟩ : hq_H 160 _)
  | .lt => (⟨_, fun _ => rfl, fun _ => rfl⟩ : hq_H 161 _)
  | .ge => (⟨_, fun _ => rfl, fun _ => rfl⟩ : hq_H 162 _)
  | .gt => (⟨_, fun _ => rfl, fun _ => rfl⟩ : hq_H 163 _)
  | .le => (⟨_, fun _ => rfl, fun _ => rfl⟩ : hq_H 164 _)
theorem hq_h_getfield : hq_H 180 (Reader.u2 >>= fun x => Pure.pure (.getfield x)) := ⟨_, fun _ => rfl, fun _ => rfl⟩
theorem hq_h_putfield : hq_H 181 (Reader.u2 >>= fun x => Pure.pure (.putfield x)) := ⟨_, fun _ => rfl, fun _ => rfl⟩
theorem hq_h_invokevirtual : hq_H 182 (Reader.u2 >>= fun x => Pure.pure (.invokevirtual x)) := ⟨_, fun _ => rfl, fun _ => rfl⟩
theorem hq_h_invokestatic : hq_H 184 (Reader.u2 >>= fun x => Pure.pure (.invokestatic x)) := ⟨_, fun _ => rfl, fun _ => rfl⟩
/-- the bytes of an instruction of one, two, three bytes -/
def hq_1 (v pc n : Nat) (bs : List UInt8) : Bool := match bs with
  | b :: _ => Nat.beq b.toNat v && Nat.beq n (pc + 1)
  | _ => false
def hq_0 (v : Nat) (bs : List UInt8) : Bool := match bs with
  | b :: _ => Nat.beq b.toNat v
  | _ => false
def hq_2 (v x pc n : Nat) (bs : List UInt8) : Bool := match bs with
  | b :: d :: _ => Nat.beq b.toNat v && Nat.beq d.toNat x && Nat.beq n (pc + 2)
  | _ => false
def hq_2s (v : Nat) (x : Int) (pc n : Nat) (bs : List UInt8) : Bool := match bs with
  | b :: d :: _ => Nat.beq b.toNat v && decide (Reader.signed 8 d.toNat = x) && Nat.beq n (pc + 2)
  | _ => false
def hq_x (bs : List UInt8) : Nat := match bs with
  | _ :: d :: e :: _ => d.toNat * 256 + e.toNat
  | _ => 0
def hq_3 (v pc n : Nat) (bs : List UInt8) : Bool := match bs with
  | b :: _ :: _ :: _ => Nat.beq b.toNat v && Nat.beq n (pc + 3)
  | _ => false
def hq_g (v : Nat) (bs : List UInt8) : Bool := match bs with
  | b :: _ :: _ :: _ => Nat.beq b.toNat v
  | _ => false
def hq_i (k : Nat) (x : Int) (pc n : Nat) (bs : List UInt8) : Bool := match bs with
  | b :: d :: e :: _ => Nat.beq b.toNat 132 && Nat.beq d.toNat k && decide (Reader.signed 8 e.toNat = x) && Nat.beq n (pc + 3)
  | _ => false
/-- a jump's goal -/
def hq_j (pc t x : Nat) : Bool := if x < 32768 then Nat.beq (pc + x) t else Nat.beq (pc + x) (t + 65536)
theorem hq_j_s {pc t x : Nat} (h : hq_j pc t x = true) : Reader.signed 16 x = (t : Int) - (pc : Int) := by
  unfold hq_j at h
  unfold Reader.signed
  by_cases hx : x < 32768
  · rw [if_pos hx] at h
    have e := Nat.eq_of_beq_eq_true h
    rw [if_pos (show x < 2 ^ (16 - 1) from hx)]
    omega
  · rw [if_neg hx] at h
    have e := Nat.eq_of_beq_eq_true h
    rw [if_neg (show ¬ x < 2 ^ (16 - 1) from hx)]
    omega
def hq_A (u : hx_M) (i pc n : Nat) (bs : List UInt8) : Prop := hx_pc u i = pc ∧ hx_pc u (i + 1) = n ∧ (hx_b u).data.toList.drop pc = bs
theorem hq_dec_of {u : hx_M} {i n : Nat} {j : Instr} (h : decode (hx_b u) (hx_pc u i) = .ok (j, n)) (hn : hx_pc u (i + 1) = hx_pc u i + n) : hx_dec u i j n = true := by
  unfold hx_dec
  rw [Bool.and_eq_true]
  exact ⟨decide_eq_true h, decide_eq_true hn⟩
theorem hq_s1 {u : hx_M} {i pc n v : Nat} {bs : List UInt8} {j : Instr} (hA : hq_A u i pc n bs) (hH : hq_H v (Pure.pure j)) (h : hq_1 v pc n bs = true) : hx_dec u i j 1 = true := by
  obtain ⟨rfl, rfl, hb⟩ := hA
  match bs, hb, h with
  | b :: _, hb, h =>
    simp only [hq_1, Bool.and_eq_true] at h
    exact hq_dec_of (hq_r1 hH hb (Nat.eq_of_beq_eq_true h.1)) (Nat.eq_of_beq_eq_true h.2)
theorem hq_s0 {u : hx_M} {i pc n v : Nat} {bs : List UInt8} {j : Instr} (hA : hq_A u i pc n bs) (hH : hq_H v (Pure.pure j)) (h : hq_0 v bs = true) : decode (hx_b u) (hx_pc u i) = .ok (j, 1) := by
  obtain ⟨rfl, rfl, hb⟩ := hA
  match bs, hb, h with
  | b :: _, hb, h => exact hq_r1 hH hb (Nat.eq_of_beq_eq_true h)
theorem hq_s2 {u : hx_M} {i pc n v x : Nat} {bs : List UInt8} {f : Nat → Instr} (hA : hq_A u i pc n bs) (hH : hq_H v (Reader.u1 >>= fun x => Pure.pure (f x))) (h : hq_2 v x pc n bs = true) : hx_dec u i (f x) 2 = true := by
  obtain ⟨rfl, rfl, hb⟩ := hA
  match bs, hb, h with
  | b :: d :: _, hb, h =>
    simp only [hq_2, Bool.and_eq_true] at h
    have e := hq_r2 hH hb (Nat.eq_of_beq_eq_true h.1.1)
    rw [Nat.eq_of_beq_eq_true h.1.2] at e
    exact hq_dec_of e (Nat.eq_of_beq_eq_true h.2)
theorem hq_s2s {u : hx_M} {i pc n v : Nat} {x : Int} {bs : List UInt8} {f : Int → Instr} (hA : hq_A u i pc n bs) (hH : hq_H v (Reader.s1 >>= fun x => Pure.pure (f x))) (h : hq_2s v x pc n bs = true) : hx_dec u i (f x) 2 = true := by
  obtain ⟨rfl, rfl, hb⟩ := hA
  match bs, hb, h with
  | b :: d :: _, hb, h =>
    simp only [hq_2s, Bool.and_eq_true] at h
    have e := hq_r2s hH hb (Nat.eq_of_beq_eq_true h.1.1)
    rw [of_decide_eq_true h.1.2] at e
    exact hq_dec_of e (Nat.eq_of_beq_eq_true h.2)
theorem hq_s3 {u : hx_M} {i pc n v : Nat} {bs : List UInt8} {f : Nat → Instr} (hA : hq_A u i pc n bs) (hH : hq_H v (Reader.u2 >>= fun x => Pure.pure (f x))) (h : hq_3 v pc n bs = true) : hx_dec u i (f (hq_x bs)) 3 = true := by
  obtain ⟨rfl, rfl, hb⟩ := hA
  match bs, hb, h with
  | b :: d :: e :: _, hb, h =>
    simp only [hq_3, Bool.and_eq_true] at h
    exact hq_dec_of (hq_r3 hH hb (Nat.eq_of_beq_eq_true h.1)) (Nat.eq_of_beq_eq_true h.2)
theorem hq_s3s {u : hx_M} {i pc n v : Nat} {bs : List UInt8} {f : Int → Instr} (hA : hq_A u i pc n bs) (hH : hq_H v (Reader.s2 >>= fun x => Pure.pure (f x))) (h : hq_3 v pc n bs = true) : hx_dec u i (f (Reader.signed 16 (hq_x bs))) 3 = true := by
  obtain ⟨rfl, rfl, hb⟩ := hA
  match bs, hb, h with
  | b :: d :: e :: _, hb, h =>
    simp only [hq_3, Bool.and_eq_true] at h
    exact hq_dec_of (hq_r3s hH hb (Nat.eq_of_beq_eq_true h.1)) (Nat.eq_of_beq_eq_true h.2)
theorem hq_sj {u : hx_M} {i pc n v : Nat} {t : Int} {bs : List UInt8} {f : Int → Instr} (hA : hq_A u i pc n bs) (hH : hq_H v (Reader.s2 >>= fun x => Pure.pure (f x))) (h : hq_3 v pc n bs = true) (hj : hq_j pc (hx_pc u t.toNat) (hq_x bs) = true) : hx_dec u i (f (hx_off u i t)) 3 = true := by
  have e := hq_s3s hA hH h
  rw [hq_j_s hj, ← hA.1] at e
  exact e
theorem hq_sg {u : hx_M} {i pc n v : Nat} {t : Int} {bs : List UInt8} {f : Int → Instr} (hA : hq_A u i pc n bs) (hH : hq_H v (Reader.s2 >>= fun x => Pure.pure (f x))) (h : hq_g v bs = true) (hj : hq_j pc (hx_pc u t.toNat) (hq_x bs) = true) : hx_decl u i (f (hx_off u i t)) = true := by
  obtain ⟨rfl, rfl, hb⟩ := hA
  match bs, hb, h, hj with
  | b :: d :: e :: _, hb, h, hj =>
    have e1 := hq_r3s hH hb (Nat.eq_of_beq_eq_true h)
    have e2 := hq_j_s hj
    rw [show d.toNat * 256 + e.toNat = hq_x (b :: d :: e :: _) from rfl, e2] at e1
    exact decide_eq_true e1
theorem hq_si {u : hx_M} {i pc n k : Nat} {x : Int} {bs : List UInt8} (hA : hq_A u i pc n bs) (h : hq_i k x pc n bs = true) : hx_dec u i (.iinc k x) 3 = true := by
  obtain ⟨rfl, rfl, hb⟩ := hA
  match bs, hb, h with
  | b :: d :: e :: _, hb, h =>
    simp only [hq_i, Bool.and_eq_true] at h
    have e1 := hq_rinc hq_h_iinc hb (Nat.eq_of_beq_eq_true h.1.1.1)
    rw [Nat.eq_of_beq_eq_true h.1.1.2, of_decide_eq_true h.1.2] at e1
    exact hq_dec_of e1 (Nat.eq_of_beq_eq_true h.2)
/-- an instruction by its bytes; what is rare as before -/
def hq_I (u : hx_M) (i : Nat) (ins : Instr) (pc n w : Nat) (bs : List UInt8) : Bool := match ins with
  | .iload k => if k < 4 then hq_1 (26 + k) pc n bs else hq_2 21 k pc n bs
  | .aload k => if k < 4 then hq_1 (42 + k) pc n bs else hq_2 25 k pc n bs
  | .istore k => decide (k < hx_L u) && (if k < 4 then hq_1 (59 + k) pc n bs else hq_2 54 k pc n bs)
  | .astore k => decide (k < hx_L u) && (if k < 4 then hq_1 (75 + k) pc n bs else hq_2 58 k pc n bs)
  | .bipush x => (decide (-1 ≤ x) && decide (x ≤ 5) && hq_1 (x + 3).toNat pc n bs) || (hq_2s 16 x pc n bs && decide ((Int8.ofInt x).toInt32 = Int32.ofInt x)) || (hq_3 17 pc n bs && decide (Reader.signed 16 (hq_x bs) = x) && decide ((Int16.ofInt x).toInt32 = Int32.ofInt x)) || hx_okI u i (.bipush x)
  | .iinc k x => decide (k < hx_L u) && hq_i k x pc n bs
  | .goto t => hq_g 167 bs && hq_j pc (hx_pc u t.toNat) (hq_x bs)
  | .ifCond c t => hq_3 (153 + hq_cn c) pc n bs && hq_j pc (hx_pc u t.toNat) (hq_x bs)
  | .if_icmp c t => hq_3 (159 + hq_cn c) pc n bs && hq_j pc (hx_pc u t.toNat) (hq_x bs)
  | .getfield f => match hx_cl[f / 100]? with
      | some q => decide (f % 100 < q.2.2) && hq_3 180 pc n bs && hx_wd w (.fieldLink (hx_y u).cls (hq_x bs) (q.2.1 (f % 100)).1 (q.2.1 (f % 100)).2.1 (q.2.1 (f % 100)).2.2.1)
      | none => false
  | .putfield f => match hx_cl[f / 100]? with
      | some q => decide (f % 100 < q.2.2) && hq_3 181 pc n bs && hx_wd w (.fieldLink (hx_y u).cls (hq_x bs) (q.2.1 (f % 100)).1 (q.2.1 (f % 100)).2.1 (q.2.1 (f % 100)).2.2.1) &&
          (!(q.2.1 (f % 100)).2.2.2 || (decide ((hx_y u).name = "<init>") && decide ((q.2.1 (f % 100)).1 = (hx_y u).cls)))
      | none => false
  | .invokevirtual j => match hx_ms[j]? with
      | some v => decide (hx_kind v = 1) && hq_3 182 pc n bs && hx_wd w (.methodLink (hx_y u).cls (hq_x bs) (hx_y v))
      | none => false
  | .invokestatic j => if 9990 < j then hx_okI u i (.invokestatic j) else match hx_ms[j]? with
      | some v => decide (hx_kind v = 0) && hq_3 184 pc n bs && (hx_wd w (.methodLink (hx_y u).cls (hq_x bs) (hx_y v)) || decide (hx_N[w]? = some ((hx_y u).cls, hq_x bs, hx_y v, "HueWar")))
      | none => false
  | .iadd => hq_1 96 pc n bs
  | .isub => hq_1 100 pc n bs
  | .imul => hq_1 104 pc n bs
  | .idiv => hq_1 108 pc n bs
  | .irem => hq_1 112 pc n bs
  | .iand => hq_1 126 pc n bs
  | .ior => hq_1 128 pc n bs
  | .ixor => hq_1 130 pc n bs
  | .ishl => hq_1 120 pc n bs
  | .iaload => hq_1 46 pc n bs
  | .baload => hq_1 51 pc n bs
  | .iastore => hq_1 79 pc n bs
  | .pop => hq_1 87 pc n bs
  | .dup => hq_1 89 pc n bs
  | .arraylength => hq_1 190 pc n bs
  | .ireturn => hq_0 172 bs
  | .return_ => hq_0 177 bs
  | j => hx_okI u i j
theorem hq_I_s {u : hx_M} {i pc n w : Nat} {ins : Instr} {bs : List UInt8} (hA : hq_A u i pc n bs) (hw : hx_wk u i = w) (h : hq_I u i ins pc n w bs = true) : hx_okI u i ins = true := by
  cases ins
  case iload k =>
    show (if h : k < 4 then hx_dec u i (.iload_n ⟨k, h⟩) 1 else hx_dec u i (.iload k) 2) = true
    replace h : (if k < 4 then hq_1 (26 + k) pc n bs else hq_2 21 k pc n bs) = true := h
    by_cases hk : k < 4
    · rw [if_pos hk] at h; rw [dif_pos hk]; exact hq_s1 hA (hq_h_iload_n k hk) h
    · rw [if_neg hk] at h; rw [dif_neg hk]; exact hq_s2 (f := fun x => .iload x) hA hq_h_iload h
  case aload k =>
    show (if h : k < 4 then hx_dec u i (.aload_n ⟨k, h⟩) 1 else hx_dec u i (.aload k) 2) = true
    replace h : (if k < 4 then hq_1 (42 + k) pc n bs else hq_2 25 k pc n bs) = true := h
    by_cases hk : k < 4
    · rw [if_pos hk] at h; rw [dif_pos hk]; exact hq_s1 hA (hq_h_aload_n k hk) h
    · rw [if_neg hk] at h; rw [dif_neg hk]; exact hq_s2 (f := fun x => .aload x) hA hq_h_aload h
  case istore k =>
    show (decide (k < hx_L u) && if h : k < 4 then hx_dec u i (.istore_n ⟨k, h⟩) 1 else hx_dec u i (.istore k) 2) = true
    replace h : (decide (k < hx_L u) && (if k < 4 then hq_1 (59 + k) pc n bs else hq_2 54 k pc n bs)) = true := h
    rw [Bool.and_eq_true] at h ⊢
    refine ⟨h.1, ?_⟩
    replace h := h.2
    by_cases hk : k < 4
    · rw [if_pos hk] at h; rw [dif_pos hk]; exact hq_s1 hA (hq_h_istore_n k hk) h
    · rw [if_neg hk] at h; rw [dif_neg hk]; exact hq_s2 (f := fun x => .istore x) hA hq_h_istore h
  case astore k =>
    show (decide (k < hx_L u) && if h : k < 4 then hx_dec u i (.astore_n ⟨k, h⟩) 1 else hx_dec u i (.astore k) 2) = true
    replace h : (decide (k < hx_L u) && (if k < 4 then hq_1 (75 + k) pc n bs else hq_2 58 k pc n bs)) = true := h
    rw [Bool.and_eq_true] at h ⊢
    refine ⟨h.1, ?_⟩
    replace h := h.2
    by_cases hk : k < 4
    · rw [if_pos hk] at h; rw [dif_pos hk]; exact hq_s1 hA (hq_h_astore_n k hk) h
    · rw [if_neg hk] at h; rw [dif_neg hk]; exact hq_s2 (f := fun x => .astore x) hA hq_h_astore h
  case bipush x =>
    replace h : ((decide (-1 ≤ x) && decide (x ≤ 5) && hq_1 (x + 3).toNat pc n bs) || (hq_2s 16 x pc n bs && decide ((Int8.ofInt x).toInt32 = Int32.ofInt x)) || (hq_3 17 pc n bs && decide (Reader.signed 16 (hq_x bs) = x) && decide ((Int16.ofInt x).toInt32 = Int32.ofInt x)) || hx_okI u i (.bipush x)) = true := h
    rw [Bool.or_eq_true, Bool.or_eq_true, Bool.or_eq_true] at h
    rcases h with ((h | h) | h) | h
    · rw [Bool.and_eq_true, Bool.and_eq_true] at h
      have e := hq_s1 hA (hq_h_iconst x (of_decide_eq_true h.1.1) (of_decide_eq_true h.1.2)) h.2
      simp only [hx_okI, Bool.or_eq_true]
      exact Or.inl (Or.inl (Or.inl (Or.inl e)))
    · rw [Bool.and_eq_true] at h
      have e := hq_s2s (f := fun x => .bipush x) hA hq_h_bipush h.1
      simp only [hx_okI, Bool.or_eq_true]
      refine Or.inl (Or.inl (Or.inl (Or.inr ?_)))
      rw [Bool.and_eq_true]; exact ⟨e, h.2⟩
    · rw [Bool.and_eq_true, Bool.and_eq_true] at h
      have e := hq_s3s (f := fun x => .sipush x) hA hq_h_sipush h.1.1
      rw [of_decide_eq_true h.1.2] at e
      simp only [hx_okI, Bool.or_eq_true]
      refine Or.inl (Or.inl (Or.inr ?_))
      rw [Bool.and_eq_true]; exact ⟨e, h.2⟩
    · exact h
  case iinc k x =>
    show (decide (k < hx_L u) && hx_dec u i (.iinc k x) 3) = true
    replace h : (decide (k < hx_L u) && hq_i k x pc n bs) = true := h
    rw [Bool.and_eq_true] at h ⊢
    exact ⟨h.1, hq_si hA h.2⟩
  case goto t =>
    replace h : (hq_g 167 bs && hq_j pc (hx_pc u t.toNat) (hq_x bs)) = true := h
    rw [Bool.and_eq_true] at h
    exact hq_sg (f := fun x => .goto x) hA hq_h_goto h.1 h.2
  case ifCond c t =>
    replace h : (hq_3 (153 + hq_cn c) pc n bs && hq_j pc (hx_pc u t.toNat) (hq_x bs)) = true := h
    rw [Bool.and_eq_true] at h
    exact hq_sj (f := fun x => .ifCond c x) hA (hq_h_ifCond c) h.1 h.2
  case if_icmp c t =>
    replace h : (hq_3 (159 + hq_cn c) pc n bs && hq_j pc (hx_pc u t.toNat) (hq_x bs)) = true := h
    rw [Bool.and_eq_true] at h
    exact hq_sj (f := fun x => .if_icmp c x) hA (hq_h_if_icmp c) h.1 h.2
  case getfield f =>
    simp only [hq_I] at h
    simp only [hx_okI]
    split at h
    · next q hq =>
      rw [Bool.and_eq_true, Bool.and_eq_true] at h
      have d := hq_s3 (f := fun x => .getfield x) hA hq_h_getfield h.1.2
      have ix : hx_ix u i = hq_x bs := by unfold hx_ix; rw [(hx_dec_s d).1]
      rw [hq, Bool.and_eq_true, Bool.and_eq_true, ix, hw]
      exact ⟨⟨h.1.1, d⟩, h.2⟩
    · cases h
  case putfield f =>
    simp only [hq_I] at h
    simp only [hx_okI]
    split at h
    · next q hq =>
      rw [Bool.and_eq_true, Bool.and_eq_true, Bool.and_eq_true] at h
      have d := hq_s3 (f := fun x => .putfield x) hA hq_h_putfield h.1.1.2
      have ix : hx_ix u i = hq_x bs := by unfold hx_ix; rw [(hx_dec_s d).1]
      rw [hq, Bool.and_eq_true, Bool.and_eq_true, Bool.and_eq_true, ix, hw]
      exact ⟨⟨⟨h.1.1.1, d⟩, h.1.2⟩, h.2⟩
    · cases h
  case invokevirtual j =>
    simp only [hq_I] at h
    simp only [hx_okI]
    split at h
    · next v hv =>
      rw [Bool.and_eq_true, Bool.and_eq_true] at h
      have d := hq_s3 (f := fun x => .invokevirtual x) hA hq_h_invokevirtual h.1.2
      have ix : hx_ix u i = hq_x bs := by unfold hx_ix; rw [(hx_dec_s d).1]
      rw [hv, Bool.and_eq_true, Bool.and_eq_true, ix, hw]
      exact ⟨⟨h.1.1, d⟩, h.2⟩
    · cases h
  case invokestatic j =>
    by_cases hj : 9990 < j
    · simp only [hq_I] at h
      rw [if_pos hj] at h
      exact h
    · simp only [hq_I] at h
      rw [if_neg hj] at h
      simp only [hx_okI]
      rw [if_neg (by omega), if_neg (by omega), if_neg (by omega), if_neg (by omega)]
      split at h
      · next v hv =>
        rw [Bool.and_eq_true, Bool.and_eq_true] at h
        have d := hq_s3 (f := fun x => .invokestatic x) hA hq_h_invokestatic h.1.2
        have ix : hx_ix u i = hq_x bs := by unfold hx_ix; rw [(hx_dec_s d).1]
        rw [hv, Bool.and_eq_true, Bool.and_eq_true, ix, hw]
        exact ⟨⟨h.1.1, d⟩, h.2⟩
      · cases h
  case iadd => exact hq_s1 hA hq_h_iadd h
  case isub => exact hq_s1 hA hq_h_isub h
  case imul => exact hq_s1 hA hq_h_imul h
  case idiv => exact hq_s1 hA hq_h_idiv h
  case irem => exact hq_s1 hA hq_h_irem h
  case iand => exact hq_s1 hA hq_h_iand h
  case ior => exact hq_s1 hA hq_h_ior h
  case ixor => exact hq_s1 hA hq_h_ixor h
  case ishl => exact hq_s1 hA hq_h_ishl h
  case iaload => exact hq_s1 hA hq_h_iaload h
  case baload => exact hq_s1 hA hq_h_baload h
  case iastore => exact hq_s1 hA hq_h_iastore h
  case pop => exact hq_s1 hA hq_h_pop h
  case dup => exact hq_s1 hA hq_h_dup h
  case arraylength => exact hq_s1 hA hq_h_arraylength h
  case ireturn => exact decide_eq_true (hq_s0 hA hq_h_ireturn h)
  case return_ => exact decide_eq_true (hq_s0 hA hq_h_return_ h)
  all_goals exact h
def hq_hd (l : List Nat) : Nat := match l with
  | a :: _ => a
  | [] => 0
/-- one step along the instructions, their places, their words and the bytes -/
def hq_st (u : hx_M) (ins : Instr) (rest : List Instr) (go : Nat → List Nat → List Nat → List UInt8 → Bool) (i : Nat) (pcs wx : List Nat) (bs : List UInt8) : Bool := match pcs, wx, bs with
  | pc :: pcs, w :: wx, b :: r => hq_I u i ins pc (hq_hd pcs) w (b :: r) && (rest.isEmpty || (Nat.ble (pc + 1) (hq_hd pcs) && go (i + 1) pcs wx (r.drop (hq_hd pcs - (pc + 1)))))
  | _, _, _ => false
noncomputable def hq_go (u : hx_M) (ops : List Instr) : Nat → List Nat → List Nat → List UInt8 → Bool :=
  List.rec (motive := fun _ => Nat → List Nat → List Nat → List UInt8 → Bool) (fun _ _ _ _ => true) (fun ins rest go => hq_st u ins rest go) ops
theorem hq_pc_of {u : hx_M} {i : Nat} {l : List Nat} (h : (hx_pcs u).drop i = l) : hx_pc u i = hq_hd l := by
  unfold hx_pc
  rw [List.getD_eq_getElem?_getD]
  cases l with
  | nil =>
    have hl : (hx_pcs u).length ≤ i := by
      have h2 := congrArg List.length h
      simp only [List.length_drop, List.length_nil] at h2
      omega
    rw [List.getElem?_eq_none hl]
    rfl
  | cons a r => rw [(hq_tl h).1]; rfl
theorem hq_go_s (u : hx_M) : ∀ (ops : List Instr) (i : Nat) (pcs wx : List Nat) (bs : List UInt8), hq_go u ops i pcs wx bs = true → (hx_pcs u).drop i = pcs → (hx_wx u).drop i = wx → (hx_b u).data.toList.drop (hx_pc u i) = bs →
    ∀ (k : Nat) (ins : Instr), ops[k]? = some ins → hx_okI u (i + k) ins = true := by
  intro ops
  induction ops with
  | nil => intro i pcs wx bs _ _ _ _ k ins hk; cases hk
  | cons a rest ih =>
    intro i pcs wx bs h hp hw hb k ins hk
    replace h : hq_st u a rest (hq_go u rest) i pcs wx bs = true := h
    cases pcs with
    | nil => cases h
    | cons pc pcs =>
      cases wx with
      | nil => cases h
      | cons w wx =>
        cases bs with
        | nil => cases h
        | cons b r =>
          simp only [hq_st, Bool.and_eq_true, Bool.or_eq_true] at h
          have e1 : hx_pc u i = pc := hq_pc_of hp
          have e2 := (hq_tl hp).2
          have e3 : hx_pc u (i + 1) = hq_hd pcs := hq_pc_of e2
          have e4 : hx_wk u i = w := by
            unfold hx_wk
            rw [List.getD_eq_getElem?_getD, (hq_tl hw).1]
            rfl
          rw [e1] at hb
          cases k with
          | zero =>
            cases hk
            exact hq_I_s ⟨e1, e3, hb⟩ e4 h.1
          | succ k =>
            replace hk : rest[k]? = some ins := hk
            rcases h.2 with h2 | h2
            · cases rest with
              | nil => cases hk
              | cons _ _ => cases h2
            · have hlt := Nat.le_of_ble_eq_true h2.1
              have e5 : (hx_b u).data.toList.drop (hx_pc u (i + 1)) = r.drop (hq_hd pcs - (pc + 1)) := by
                rw [← (hq_tl hb).2, List.drop_drop, e3]
                congr 1
                omega
              have e6 := ih (i + 1) pcs wx _ h2.2 e2 (hq_tl hw).2 e5 k ins hk
              rw [show i + (k + 1) = i + 1 + k by omega]
              exact e6
noncomputable def hq_O (u : hx_M) : Bool := hq_go u (hx_ops u) 0 (hx_pcs u) (hx_wx u) (hx_b u).data.toList && decide (hx_pc u 0 = 0)
theorem hq_okO {u : hx_M} (h : hq_O u = true) : hx_okO u = true := by
  unfold hq_O at h
  rw [Bool.and_eq_true] at h
  have h0 := of_decide_eq_true h.2
  unfold hx_okO
  rw [Bool.and_eq_true]
  refine ⟨List.all_eq_true.mpr fun i _ => ?_, h.2⟩
  split
  · next ins hi =>
    have e := hq_go_s u _ 0 _ _ _ h.1 rfl rfl (by rw [h0]; rfl) i ins hi
    rwa [Nat.zero_add] at e
  · rfl
noncomputable def hq_R (u : hx_M) (a n : Nat) : Bool := hq_go u (((hx_ops u).drop a).take n) a ((hx_pcs u).drop a) ((hx_wx u).drop a) ((hx_b u).data.toList.drop (hx_pc u a))
theorem hq_okR {u : hx_M} {a n : Nat} (h : hq_R u a n = true) : hx_okR u a n = true := by
  unfold hx_okR
  refine List.all_eq_true.mpr fun i hi => ?_
  split
  · next ins hins =>
    refine hq_go_s u _ a _ _ _ h rfl rfl rfl i ins ?_
    rw [List.getElem?_take_of_lt (List.mem_range.mp hi), List.getElem?_drop]
    exact hins
  · rfl
end
section
set_option maxRecDepth 100000 in
theorem ok_W_init : hx_okO hm_W_init = true := hq_okO (by decide +kernel)
theorem cw_W_init : Cond.code (hx_y hm_W_init) (hx_b hm_W_init) (hx_L hm_W_init) (hx_ret hm_W_init) ∈ hx_T := hx_T_in (hx_ch_in tables_1_1 (List.mem_of_getElem? (i := 1) rfl) _ (List.mem_of_getElem? (i := 20) rfl)) rfl
set_option maxRecDepth 100000 in
theorem ck_W_init : hx_cal hm_W_init := ⟨by decide +kernel, cw_W_init⟩
set_option maxRecDepth 20000 in
theorem mj_W_init : hx_ms[0]? = some hm_W_init := rfl
set_option maxRecDepth 100000 in
theorem ok_T_init : hx_okO hm_T_init = true := hq_okO (by decide +kernel)
theorem cw_T_init : Cond.code (hx_y hm_T_init) (hx_b hm_T_init) (hx_L hm_T_init) (hx_ret hm_T_init) ∈ hx_T := hx_T_in (hx_ch_in tables_1_1 (List.mem_of_getElem? (i := 1) rfl) _ (List.mem_of_getElem? (i := 28) rfl)) rfl
set_option maxRecDepth 100000 in
theorem ck_T_init : hx_cal hm_T_init := ⟨by decide +kernel, cw_T_init⟩
set_option maxRecDepth 20000 in
theorem mj_T_init : hx_ms[1]? = some hm_T_init := rfl
set_option maxRecDepth 100000 in
theorem ok_P_init : hx_okO hm_P_init = true := hq_okO (by decide +kernel)
theorem cw_P_init : Cond.code (hx_y hm_P_init) (hx_b hm_P_init) (hx_L hm_P_init) (hx_ret hm_P_init) ∈ hx_T := hx_T_in (hx_ch_in tables_1_1 (List.mem_of_getElem? (i := 1) rfl) _ (List.mem_of_getElem? (i := 51) rfl)) rfl
set_option maxRecDepth 100000 in
theorem ck_P_init : hx_cal hm_P_init := ⟨by decide +kernel, cw_P_init⟩
set_option maxRecDepth 20000 in
theorem mj_P_init : hx_ms[2]? = some hm_P_init := rfl
set_option maxRecDepth 100000 in
theorem ok_G_init : hx_okO hm_G_init = true := hq_okO (by decide +kernel)
theorem cw_G_init : Cond.code (hx_y hm_G_init) (hx_b hm_G_init) (hx_L hm_G_init) (hx_ret hm_G_init) ∈ hx_T := hx_T_in (hx_ch_in tables_1_1 (List.mem_of_getElem? (i := 1) rfl) _ (List.mem_of_getElem? (i := 70) rfl)) rfl
set_option maxRecDepth 100000 in
theorem ck_G_init : hx_cal hm_G_init := ⟨by decide +kernel, cw_G_init⟩
set_option maxRecDepth 20000 in
theorem mj_G_init : hx_ms[3]? = some hm_G_init := rfl
set_option maxRecDepth 100000 in
theorem ok_L_init : hx_okO hm_L_init = true := hq_okO (by decide +kernel)
theorem cw_L_init : Cond.code (hx_y hm_L_init) (hx_b hm_L_init) (hx_L hm_L_init) (hx_ret hm_L_init) ∈ hx_T := hx_T_in (hx_ch_in tables_1_1 (List.mem_of_getElem? (i := 1) rfl) _ (List.mem_of_getElem? (i := 89) rfl)) rfl
set_option maxRecDepth 100000 in
theorem ck_L_init : hx_cal hm_L_init := ⟨by decide +kernel, cw_L_init⟩
set_option maxRecDepth 20000 in
theorem mj_L_init : hx_ms[4]? = some hm_L_init := rfl
set_option maxRecDepth 100000 in
theorem ok_N_init : hx_okO hm_N_init = true := hq_okO (by decide +kernel)
theorem cw_N_init : Cond.code (hx_y hm_N_init) (hx_b hm_N_init) (hx_L hm_N_init) (hx_ret hm_N_init) ∈ hx_T := hx_T_in (hx_ch_in tables_1_1 (List.mem_of_getElem? (i := 1) rfl) _ (List.mem_of_getElem? (i := 126) rfl)) rfl
set_option maxRecDepth 100000 in
theorem ck_N_init : hx_cal hm_N_init := ⟨by decide +kernel, cw_N_init⟩
set_option maxRecDepth 20000 in
theorem mj_N_init : hx_ms[5]? = some hm_N_init := rfl
set_option maxRecDepth 100000 in
theorem ok_S_init : hx_okO hm_S_init = true := hq_okO (by decide +kernel)
theorem cw_S_init : Cond.code (hx_y hm_S_init) (hx_b hm_S_init) (hx_L hm_S_init) (hx_ret hm_S_init) ∈ hx_T := hx_T_in (hx_ch_in tables_1_1 (List.mem_of_getElem? (i := 1) rfl) _ (List.mem_of_getElem? (i := 154) rfl)) rfl
set_option maxRecDepth 100000 in
theorem ck_S_init : hx_cal hm_S_init := ⟨by decide +kernel, cw_S_init⟩
set_option maxRecDepth 20000 in
theorem mj_S_init : hx_ms[6]? = some hm_S_init := rfl
set_option maxRecDepth 100000 in
theorem ok_E_init : hx_okO hm_E_init = true := hq_okO (by decide +kernel)
theorem cw_E_init : Cond.code (hx_y hm_E_init) (hx_b hm_E_init) (hx_L hm_E_init) (hx_ret hm_E_init) ∈ hx_T := hx_T_in (hx_ch_in tables_1_1 (List.mem_of_getElem? (i := 1) rfl) _ (List.mem_of_getElem? (i := 185) rfl)) rfl
set_option maxRecDepth 100000 in
theorem ck_E_init : hx_cal hm_E_init := ⟨by decide +kernel, cw_E_init⟩
set_option maxRecDepth 20000 in
theorem mj_E_init : hx_ms[7]? = some hm_E_init := rfl
set_option maxRecDepth 100000 in
theorem ok_U_init : hx_okO hm_U_init = true := hq_okO (by decide +kernel)
theorem cw_U_init : Cond.code (hx_y hm_U_init) (hx_b hm_U_init) (hx_L hm_U_init) (hx_ret hm_U_init) ∈ hx_T := hx_T_in (hx_ch_in tables_1_1 (List.mem_of_getElem? (i := 1) rfl) _ (List.mem_of_getElem? (i := 204) rfl)) rfl
set_option maxRecDepth 100000 in
theorem ck_U_init : hx_cal hm_U_init := ⟨by decide +kernel, cw_U_init⟩
set_option maxRecDepth 20000 in
theorem mj_U_init : hx_ms[8]? = some hm_U_init := rfl
set_option maxRecDepth 100000 in
theorem ok_D_init : hx_okO hm_D_init = true := hq_okO (by decide +kernel)
theorem cw_D_init : Cond.code (hx_y hm_D_init) (hx_b hm_D_init) (hx_L hm_D_init) (hx_ret hm_D_init) ∈ hx_T := hx_T_in (hx_ch_in tables_1_1 (List.mem_of_getElem? (i := 1) rfl) _ (List.mem_of_getElem? (i := 229) rfl)) rfl
set_option maxRecDepth 100000 in
theorem ck_D_init : hx_cal hm_D_init := ⟨by decide +kernel, cw_D_init⟩
set_option maxRecDepth 20000 in
theorem mj_D_init : hx_ms[9]? = some hm_D_init := rfl
set_option maxRecDepth 100000 in
theorem ok_A_init : hx_okO hm_A_init = true := hq_okO (by decide +kernel)
theorem cw_A_init : Cond.code (hx_y hm_A_init) (hx_b hm_A_init) (hx_L hm_A_init) (hx_ret hm_A_init) ∈ hx_T := hx_T_in (hx_ch_in tables_1_2 (List.mem_of_getElem? (i := 2) rfl) _ (List.mem_of_getElem? (i := 23) rfl)) rfl
set_option maxRecDepth 100000 in
theorem ck_A_init : hx_cal hm_A_init := ⟨by decide +kernel, cw_A_init⟩
set_option maxRecDepth 20000 in
theorem mj_A_init : hx_ms[10]? = some hm_A_init := rfl
set_option maxRecDepth 100000 in
theorem ok_W_colour : hx_okO hm_W_colour = true := hq_okO (by decide +kernel)
theorem cw_W_colour : Cond.code (hx_y hm_W_colour) (hx_b hm_W_colour) (hx_L hm_W_colour) (hx_ret hm_W_colour) ∈ hx_T := hx_T_in (hx_ch_in tables_1_2 (List.mem_of_getElem? (i := 2) rfl) _ (List.mem_of_getElem? (i := 97) rfl)) rfl
set_option maxRecDepth 100000 in
theorem ck_W_colour : hx_cal hm_W_colour := ⟨by decide +kernel, cw_W_colour⟩
set_option maxRecDepth 20000 in
theorem mj_W_colour : hx_ms[11]? = some hm_W_colour := rfl
set_option maxRecDepth 100000 in
theorem ok_P_tell : hx_okO hm_P_tell = true := hq_okO (by decide +kernel)
theorem cw_P_tell : Cond.code (hx_y hm_P_tell) (hx_b hm_P_tell) (hx_L hm_P_tell) (hx_ret hm_P_tell) ∈ hx_T := hx_T_in (hx_ch_in tables_1_2 (List.mem_of_getElem? (i := 2) rfl) _ (List.mem_of_getElem? (i := 101) rfl)) rfl
set_option maxRecDepth 100000 in
theorem ck_P_tell : hx_cal hm_P_tell := ⟨by decide +kernel, cw_P_tell⟩
set_option maxRecDepth 20000 in
theorem mj_P_tell : hx_ms[12]? = some hm_P_tell := rfl
set_option maxRecDepth 100000 in
theorem ok_W_isAmong : hx_okO hm_W_isAmong = true := hq_okO (by decide +kernel)
theorem cw_W_isAmong : Cond.code (hx_y hm_W_isAmong) (hx_b hm_W_isAmong) (hx_L hm_W_isAmong) (hx_ret hm_W_isAmong) ∈ hx_T := hx_T_in (hx_ch_in tables_1_2 (List.mem_of_getElem? (i := 2) rfl) _ (List.mem_of_getElem? (i := 104) rfl)) rfl
set_option maxRecDepth 100000 in
theorem ck_W_isAmong : hx_cal hm_W_isAmong := ⟨by decide +kernel, cw_W_isAmong⟩
set_option maxRecDepth 20000 in
theorem mj_W_isAmong : hx_ms[13]? = some hm_W_isAmong := rfl
set_option maxRecDepth 100000 in
theorem ok_P_isTold : hx_okO hm_P_isTold = true := hq_okO (by decide +kernel)
theorem cw_P_isTold : Cond.code (hx_y hm_P_isTold) (hx_b hm_P_isTold) (hx_L hm_P_isTold) (hx_ret hm_P_isTold) ∈ hx_T := hx_T_in (hx_ch_in tables_1_2 (List.mem_of_getElem? (i := 2) rfl) _ (List.mem_of_getElem? (i := 108) rfl)) rfl
set_option maxRecDepth 100000 in
theorem ck_P_isTold : hx_cal hm_P_isTold := ⟨by decide +kernel, cw_P_isTold⟩
set_option maxRecDepth 20000 in
theorem mj_P_isTold : hx_ms[14]? = some hm_P_isTold := rfl
set_option maxRecDepth 100000 in
theorem ok_W_bit : hx_okO hm_W_bit = true := hq_okO (by decide +kernel)
theorem cw_W_bit : Cond.code (hx_y hm_W_bit) (hx_b hm_W_bit) (hx_L hm_W_bit) (hx_ret hm_W_bit) ∈ hx_T := hx_T_in (hx_ch_in tables_1_2 (List.mem_of_getElem? (i := 2) rfl) _ (List.mem_of_getElem? (i := 111) rfl)) rfl
set_option maxRecDepth 100000 in
theorem ck_W_bit : hx_cal hm_W_bit := ⟨by decide +kernel, cw_W_bit⟩
set_option maxRecDepth 20000 in
theorem mj_W_bit : hx_ms[15]? = some hm_W_bit := rfl
set_option maxRecDepth 100000 in
theorem ok_W_have : hx_okO hm_W_have = true := hq_okO (by decide +kernel)
theorem cw_W_have : Cond.code (hx_y hm_W_have) (hx_b hm_W_have) (hx_L hm_W_have) (hx_ret hm_W_have) ∈ hx_T := hx_T_in (hx_ch_in tables_1_2 (List.mem_of_getElem? (i := 2) rfl) _ (List.mem_of_getElem? (i := 115) rfl)) rfl
set_option maxRecDepth 100000 in
theorem ck_W_have : hx_cal hm_W_have := ⟨by decide +kernel, cw_W_have⟩
set_option maxRecDepth 20000 in
theorem mj_W_have : hx_ms[16]? = some hm_W_have := rfl
set_option maxRecDepth 100000 in
theorem ok_P_isPlain : hx_okO hm_P_isPlain = true := hq_okO (by decide +kernel)
theorem cw_P_isPlain : Cond.code (hx_y hm_P_isPlain) (hx_b hm_P_isPlain) (hx_L hm_P_isPlain) (hx_ret hm_P_isPlain) ∈ hx_T := hx_T_in (hx_ch_in tables_1_2 (List.mem_of_getElem? (i := 2) rfl) _ (List.mem_of_getElem? (i := 119) rfl)) rfl
set_option maxRecDepth 100000 in
theorem ck_P_isPlain : hx_cal hm_P_isPlain := ⟨by decide +kernel, cw_P_isPlain⟩
set_option maxRecDepth 20000 in
theorem mj_P_isPlain : hx_ms[17]? = some hm_P_isPlain := rfl
set_option maxRecDepth 100000 in
theorem ok_P_isMixed : hx_okO hm_P_isMixed = true := hq_okO (by decide +kernel)
theorem cw_P_isMixed : Cond.code (hx_y hm_P_isMixed) (hx_b hm_P_isMixed) (hx_L hm_P_isMixed) (hx_ret hm_P_isMixed) ∈ hx_T := hx_T_in (hx_ch_in tables_1_2 (List.mem_of_getElem? (i := 2) rfl) _ (List.mem_of_getElem? (i := 123) rfl)) rfl
set_option maxRecDepth 100000 in
theorem ck_P_isMixed : hx_cal hm_P_isMixed := ⟨by decide +kernel, cw_P_isMixed⟩
set_option maxRecDepth 20000 in
theorem mj_P_isMixed : hx_ms[18]? = some hm_P_isMixed := rfl
set_option maxRecDepth 100000 in
theorem ok_W_isQuarter : hx_okO hm_W_isQuarter = true := hq_okO (by decide +kernel)
theorem cw_W_isQuarter : Cond.code (hx_y hm_W_isQuarter) (hx_b hm_W_isQuarter) (hx_L hm_W_isQuarter) (hx_ret hm_W_isQuarter) ∈ hx_T := hx_T_in (hx_ch_in tables_1_2 (List.mem_of_getElem? (i := 2) rfl) _ (List.mem_of_getElem? (i := 126) rfl)) rfl
set_option maxRecDepth 100000 in
theorem ck_W_isQuarter : hx_cal hm_W_isQuarter := ⟨by decide +kernel, cw_W_isQuarter⟩
set_option maxRecDepth 20000 in
theorem mj_W_isQuarter : hx_ms[19]? = some hm_W_isQuarter := rfl
set_option maxRecDepth 100000 in
theorem ok_S_setHavers : hx_okO hm_S_setHavers = true := hq_okO (by decide +kernel)
theorem cw_S_setHavers : Cond.code (hx_y hm_S_setHavers) (hx_b hm_S_setHavers) (hx_L hm_S_setHavers) (hx_ret hm_S_setHavers) ∈ hx_T := hx_T_in (hx_ch_in tables_1_2 (List.mem_of_getElem? (i := 2) rfl) _ (List.mem_of_getElem? (i := 130) rfl)) rfl
set_option maxRecDepth 100000 in
theorem ck_S_setHavers : hx_cal hm_S_setHavers := ⟨by decide +kernel, cw_S_setHavers⟩
set_option maxRecDepth 20000 in
theorem mj_S_setHavers : hx_ms[20]? = some hm_S_setHavers := rfl
set_option maxRecDepth 100000 in
theorem ok_W_owner : hx_okO hm_W_owner = true := hq_okO (by decide +kernel)
theorem cw_W_owner : Cond.code (hx_y hm_W_owner) (hx_b hm_W_owner) (hx_L hm_W_owner) (hx_ret hm_W_owner) ∈ hx_T := hx_T_in (hx_ch_in tables_1_2 (List.mem_of_getElem? (i := 2) rfl) _ (List.mem_of_getElem? (i := 136) rfl)) rfl
set_option maxRecDepth 100000 in
theorem ck_W_owner : hx_cal hm_W_owner := ⟨by decide +kernel, cw_W_owner⟩
set_option maxRecDepth 20000 in
theorem mj_W_owner : hx_ms[21]? = some hm_W_owner := rfl
set_option maxRecDepth 100000 in
theorem ok_W_isPlace : hx_okO hm_W_isPlace = true := hq_okO (by decide +kernel)
theorem cw_W_isPlace : Cond.code (hx_y hm_W_isPlace) (hx_b hm_W_isPlace) (hx_L hm_W_isPlace) (hx_ret hm_W_isPlace) ∈ hx_T := hx_T_in (hx_ch_in tables_1_2 (List.mem_of_getElem? (i := 2) rfl) _ (List.mem_of_getElem? (i := 139) rfl)) rfl
set_option maxRecDepth 100000 in
theorem ck_W_isPlace : hx_cal hm_W_isPlace := ⟨by decide +kernel, cw_W_isPlace⟩
set_option maxRecDepth 20000 in
theorem mj_W_isPlace : hx_ms[22]? = some hm_W_isPlace := rfl
set_option maxRecDepth 100000 in
theorem ok_S_setOwner : hx_okO hm_S_setOwner = true := hq_okO (by decide +kernel)
theorem cw_S_setOwner : Cond.code (hx_y hm_S_setOwner) (hx_b hm_S_setOwner) (hx_L hm_S_setOwner) (hx_ret hm_S_setOwner) ∈ hx_T := hx_T_in (hx_ch_in tables_1_2 (List.mem_of_getElem? (i := 2) rfl) _ (List.mem_of_getElem? (i := 144) rfl)) rfl
set_option maxRecDepth 100000 in
theorem ck_S_setOwner : hx_cal hm_S_setOwner := ⟨by decide +kernel, cw_S_setOwner⟩
set_option maxRecDepth 20000 in
theorem mj_S_setOwner : hx_ms[23]? = some hm_S_setOwner := rfl
set_option maxRecDepth 100000 in
theorem ok_W_feed : hx_okO hm_W_feed = true := hq_okO (by decide +kernel)
theorem cw_W_feed : Cond.code (hx_y hm_W_feed) (hx_b hm_W_feed) (hx_L hm_W_feed) (hx_ret hm_W_feed) ∈ hx_T := hx_T_in (hx_ch_in tables_1_2 (List.mem_of_getElem? (i := 2) rfl) _ (List.mem_of_getElem? (i := 148) rfl)) rfl
set_option maxRecDepth 100000 in
theorem ck_W_feed : hx_cal hm_W_feed := ⟨by decide +kernel, cw_W_feed⟩
set_option maxRecDepth 20000 in
theorem mj_W_feed : hx_ms[24]? = some hm_W_feed := rfl
set_option maxRecDepth 100000 in
theorem ok_T_length : hx_okO hm_T_length = true := hq_okO (by decide +kernel)
theorem cw_T_length : Cond.code (hx_y hm_T_length) (hx_b hm_T_length) (hx_L hm_T_length) (hx_ret hm_T_length) ∈ hx_T := hx_T_in (hx_ch_in tables_1_2 (List.mem_of_getElem? (i := 2) rfl) _ (List.mem_of_getElem? (i := 152) rfl)) rfl
set_option maxRecDepth 100000 in
theorem ck_T_length : hx_cal hm_T_length := ⟨by decide +kernel, cw_T_length⟩
set_option maxRecDepth 20000 in
theorem mj_T_length : hx_ms[25]? = some hm_T_length := rfl
set_option maxRecDepth 100000 in
theorem ok_T_add : hx_okO hm_T_add = true := hq_okO (by decide +kernel)
theorem cw_T_add : Cond.code (hx_y hm_T_add) (hx_b hm_T_add) (hx_L hm_T_add) (hx_ret hm_T_add) ∈ hx_T := hx_T_in (hx_ch_in tables_1_2 (List.mem_of_getElem? (i := 2) rfl) _ (List.mem_of_getElem? (i := 156) rfl)) rfl
set_option maxRecDepth 100000 in
theorem ck_T_add : hx_cal hm_T_add := ⟨by decide +kernel, cw_T_add⟩
set_option maxRecDepth 20000 in
theorem mj_T_add : hx_ms[26]? = some hm_T_add := rfl
set_option maxRecDepth 100000 in
theorem ok_W_law : hx_okO hm_W_law = true := hq_okO (by decide +kernel)
theorem cw_W_law : Cond.code (hx_y hm_W_law) (hx_b hm_W_law) (hx_L hm_W_law) (hx_ret hm_W_law) ∈ hx_T := hx_T_in (hx_ch_in tables_1_2 (List.mem_of_getElem? (i := 2) rfl) _ (List.mem_of_getElem? (i := 160) rfl)) rfl
set_option maxRecDepth 100000 in
theorem ck_W_law : hx_cal hm_W_law := ⟨by decide +kernel, cw_W_law⟩
set_option maxRecDepth 20000 in
theorem mj_W_law : hx_ms[27]? = some hm_W_law := rfl
set_option maxRecDepth 100000 in
theorem ok_W_isOnTape : hx_okO hm_W_isOnTape = true := hq_okO (by decide +kernel)
theorem cw_W_isOnTape : Cond.code (hx_y hm_W_isOnTape) (hx_b hm_W_isOnTape) (hx_L hm_W_isOnTape) (hx_ret hm_W_isOnTape) ∈ hx_T := hx_T_in (hx_ch_in tables_1_2 (List.mem_of_getElem? (i := 2) rfl) _ (List.mem_of_getElem? (i := 164) rfl)) rfl
set_option maxRecDepth 100000 in
theorem ck_W_isOnTape : hx_cal hm_W_isOnTape := ⟨by decide +kernel, cw_W_isOnTape⟩
set_option maxRecDepth 20000 in
theorem mj_W_isOnTape : hx_ms[28]? = some hm_W_isOnTape := rfl
set_option maxRecDepth 100000 in
theorem ok_L_read : hx_okO hm_L_read = true := hq_okO (by decide +kernel)
theorem cw_L_read : Cond.code (hx_y hm_L_read) (hx_b hm_L_read) (hx_L hm_L_read) (hx_ret hm_L_read) ∈ hx_T := hx_T_in (hx_ch_in tables_1_2 (List.mem_of_getElem? (i := 2) rfl) _ (List.mem_of_getElem? (i := 168) rfl)) rfl
set_option maxRecDepth 100000 in
theorem ck_L_read : hx_cal hm_L_read := ⟨by decide +kernel, cw_L_read⟩
set_option maxRecDepth 20000 in
theorem mj_L_read : hx_ms[29]? = some hm_L_read := rfl
set_option maxRecDepth 100000 in
theorem ok_T_start : hx_okO hm_T_start = true := hq_okO (by decide +kernel)
theorem cw_T_start : Cond.code (hx_y hm_T_start) (hx_b hm_T_start) (hx_L hm_T_start) (hx_ret hm_T_start) ∈ hx_T := hx_T_in (hx_ch_in tables_1_2 (List.mem_of_getElem? (i := 2) rfl) _ (List.mem_of_getElem? (i := 172) rfl)) rfl
set_option maxRecDepth 100000 in
theorem ck_T_start : hx_cal hm_T_start := ⟨by decide +kernel, cw_T_start⟩
set_option maxRecDepth 20000 in
theorem mj_T_start : hx_ms[30]? = some hm_T_start := rfl
set_option maxRecDepth 100000 in
theorem ok_L_readClause : hx_okO hm_L_readClause = true := hq_okO (by decide +kernel)
theorem cw_L_readClause : Cond.code (hx_y hm_L_readClause) (hx_b hm_L_readClause) (hx_L hm_L_readClause) (hx_ret hm_L_readClause) ∈ hx_T := hx_T_in (hx_ch_in tables_1_2 (List.mem_of_getElem? (i := 2) rfl) _ (List.mem_of_getElem? (i := 179) rfl)) rfl
set_option maxRecDepth 100000 in
theorem ck_L_readClause : hx_cal hm_L_readClause := ⟨by decide +kernel, cw_L_readClause⟩
set_option maxRecDepth 20000 in
theorem mj_L_readClause : hx_ms[31]? = some hm_L_readClause := rfl
set_option maxRecDepth 100000 in
theorem ok_T_next : hx_okO hm_T_next = true := hq_okO (by decide +kernel)
theorem cw_T_next : Cond.code (hx_y hm_T_next) (hx_b hm_T_next) (hx_L hm_T_next) (hx_ret hm_T_next) ∈ hx_T := hx_T_in (hx_ch_in tables_1_2 (List.mem_of_getElem? (i := 2) rfl) _ (List.mem_of_getElem? (i := 183) rfl)) rfl
set_option maxRecDepth 100000 in
theorem ck_T_next : hx_cal hm_T_next := ⟨by decide +kernel, cw_T_next⟩
set_option maxRecDepth 20000 in
theorem mj_T_next : hx_ms[32]? = some hm_T_next := rfl
set_option maxRecDepth 100000 in
theorem ok_T_fail : hx_okO hm_T_fail = true := hq_okO (by decide +kernel)
theorem cw_T_fail : Cond.code (hx_y hm_T_fail) (hx_b hm_T_fail) (hx_L hm_T_fail) (hx_ret hm_T_fail) ∈ hx_T := hx_T_in (hx_ch_in tables_1_2 (List.mem_of_getElem? (i := 2) rfl) _ (List.mem_of_getElem? (i := 187) rfl)) rfl
set_option maxRecDepth 100000 in
theorem ck_T_fail : hx_cal hm_T_fail := ⟨by decide +kernel, cw_T_fail⟩
set_option maxRecDepth 20000 in
theorem mj_T_fail : hx_ms[33]? = some hm_T_fail := rfl
set_option maxRecDepth 100000 in
theorem ok_T_step : hx_okO hm_T_step = true := hq_okO (by decide +kernel)
theorem cw_T_step : Cond.code (hx_y hm_T_step) (hx_b hm_T_step) (hx_L hm_T_step) (hx_ret hm_T_step) ∈ hx_T := hx_T_in (hx_ch_in tables_1_2 (List.mem_of_getElem? (i := 2) rfl) _ (List.mem_of_getElem? (i := 191) rfl)) rfl
set_option maxRecDepth 100000 in
theorem ck_T_step : hx_cal hm_T_step := ⟨by decide +kernel, cw_T_step⟩
set_option maxRecDepth 20000 in
theorem mj_T_step : hx_ms[34]? = some hm_T_step := rfl
set_option maxRecDepth 100000 in
theorem ok_L_readSum : hx_okO hm_L_readSum = true := hq_okO (by decide +kernel)
theorem cw_L_readSum : Cond.code (hx_y hm_L_readSum) (hx_b hm_L_readSum) (hx_L hm_L_readSum) (hx_ret hm_L_readSum) ∈ hx_T := hx_T_in (hx_ch_in tables_1_2 (List.mem_of_getElem? (i := 2) rfl) _ (List.mem_of_getElem? (i := 195) rfl)) rfl
set_option maxRecDepth 100000 in
theorem ck_L_readSum : hx_cal hm_L_readSum := ⟨by decide +kernel, cw_L_readSum⟩
set_option maxRecDepth 20000 in
theorem mj_L_readSum : hx_ms[35]? = some hm_L_readSum := rfl
set_option maxRecDepth 100000 in
theorem ok_L_readProduct : hx_okO hm_L_readProduct = true := hq_okO (by decide +kernel)
theorem cw_L_readProduct : Cond.code (hx_y hm_L_readProduct) (hx_b hm_L_readProduct) (hx_L hm_L_readProduct) (hx_ret hm_L_readProduct) ∈ hx_T := hx_T_in (hx_ch_in tables_1_2 (List.mem_of_getElem? (i := 2) rfl) _ (List.mem_of_getElem? (i := 199) rfl)) rfl
set_option maxRecDepth 100000 in
theorem ck_L_readProduct : hx_cal hm_L_readProduct := ⟨by decide +kernel, cw_L_readProduct⟩
set_option maxRecDepth 20000 in
theorem mj_L_readProduct : hx_ms[36]? = some hm_L_readProduct := rfl
set_option maxRecDepth 100000 in
theorem ok_L_readFactor : hx_okO hm_L_readFactor = true := hq_okO (by decide +kernel)
theorem cw_L_readFactor : Cond.code (hx_y hm_L_readFactor) (hx_b hm_L_readFactor) (hx_L hm_L_readFactor) (hx_ret hm_L_readFactor) ∈ hx_T := hx_T_in (hx_ch_in tables_1_2 (List.mem_of_getElem? (i := 2) rfl) _ (List.mem_of_getElem? (i := 203) rfl)) rfl
set_option maxRecDepth 100000 in
theorem ck_L_readFactor : hx_cal hm_L_readFactor := ⟨by decide +kernel, cw_L_readFactor⟩
set_option maxRecDepth 20000 in
theorem mj_L_readFactor : hx_ms[37]? = some hm_L_readFactor := rfl
set_option maxRecDepth 100000 in
theorem ok_W_isDigit : hx_okO hm_W_isDigit = true := hq_okO (by decide +kernel)
theorem cw_W_isDigit : Cond.code (hx_y hm_W_isDigit) (hx_b hm_W_isDigit) (hx_L hm_W_isDigit) (hx_ret hm_W_isDigit) ∈ hx_T := hx_T_in (hx_ch_in tables_1_2 (List.mem_of_getElem? (i := 2) rfl) _ (List.mem_of_getElem? (i := 206) rfl)) rfl
set_option maxRecDepth 100000 in
theorem ck_W_isDigit : hx_cal hm_W_isDigit := ⟨by decide +kernel, cw_W_isDigit⟩
set_option maxRecDepth 20000 in
theorem mj_W_isDigit : hx_ms[38]? = some hm_W_isDigit := rfl
set_option maxRecDepth 100000 in
theorem ok_L_readNumber : hx_okO hm_L_readNumber = true := hq_okO (by decide +kernel)
theorem cw_L_readNumber : Cond.code (hx_y hm_L_readNumber) (hx_b hm_L_readNumber) (hx_L hm_L_readNumber) (hx_ret hm_L_readNumber) ∈ hx_T := hx_T_in (hx_ch_in tables_1_2 (List.mem_of_getElem? (i := 2) rfl) _ (List.mem_of_getElem? (i := 210) rfl)) rfl
set_option maxRecDepth 100000 in
theorem ck_L_readNumber : hx_cal hm_L_readNumber := ⟨by decide +kernel, cw_L_readNumber⟩
set_option maxRecDepth 20000 in
theorem mj_L_readNumber : hx_ms[39]? = some hm_L_readNumber := rfl
set_option maxRecDepth 100000 in
theorem ok_L_emit : hx_okO hm_L_emit = true := hq_okO (by decide +kernel)
theorem cw_L_emit : Cond.code (hx_y hm_L_emit) (hx_b hm_L_emit) (hx_L hm_L_emit) (hx_ret hm_L_emit) ∈ hx_T := hx_T_in (hx_ch_in tables_1_2 (List.mem_of_getElem? (i := 2) rfl) _ (List.mem_of_getElem? (i := 214) rfl)) rfl
set_option maxRecDepth 100000 in
theorem ck_L_emit : hx_cal hm_L_emit := ⟨by decide +kernel, cw_L_emit⟩
set_option maxRecDepth 20000 in
theorem mj_L_emit : hx_ms[40]? = some hm_L_emit := rfl
set_option maxRecDepth 100000 in
theorem ok_T_take : hx_okO hm_T_take = true := hq_okO (by decide +kernel)
theorem cw_T_take : Cond.code (hx_y hm_T_take) (hx_b hm_T_take) (hx_L hm_T_take) (hx_ret hm_T_take) ∈ hx_T := hx_T_in (hx_ch_in tables_1_2 (List.mem_of_getElem? (i := 2) rfl) _ (List.mem_of_getElem? (i := 218) rfl)) rfl
set_option maxRecDepth 100000 in
theorem ck_T_take : hx_cal hm_T_take := ⟨by decide +kernel, cw_T_take⟩
set_option maxRecDepth 20000 in
theorem mj_T_take : hx_ms[41]? = some hm_T_take := rfl
set_option maxRecDepth 100000 in
theorem ok_L_letterOf : hx_okO hm_L_letterOf = true := hq_okO (by decide +kernel)
theorem cw_L_letterOf : Cond.code (hx_y hm_L_letterOf) (hx_b hm_L_letterOf) (hx_L hm_L_letterOf) (hx_ret hm_L_letterOf) ∈ hx_T := hx_T_in (hx_ch_in tables_1_2 (List.mem_of_getElem? (i := 2) rfl) _ (List.mem_of_getElem? (i := 223) rfl)) rfl
set_option maxRecDepth 100000 in
theorem ck_L_letterOf : hx_cal hm_L_letterOf := ⟨by decide +kernel, cw_L_letterOf⟩
set_option maxRecDepth 20000 in
theorem mj_L_letterOf : hx_ms[42]? = some hm_L_letterOf := rfl
set_option maxRecDepth 100000 in
theorem ok_L_isTimes : hx_okO hm_L_isTimes = true := hq_okO (by decide +kernel)
theorem cw_L_isTimes : Cond.code (hx_y hm_L_isTimes) (hx_b hm_L_isTimes) (hx_L hm_L_isTimes) (hx_ret hm_L_isTimes) ∈ hx_T := hx_T_in (hx_ch_in tables_1_2 (List.mem_of_getElem? (i := 2) rfl) _ (List.mem_of_getElem? (i := 226) rfl)) rfl
set_option maxRecDepth 100000 in
theorem ck_L_isTimes : hx_cal hm_L_isTimes := ⟨by decide +kernel, cw_L_isTimes⟩
set_option maxRecDepth 20000 in
theorem mj_L_isTimes : hx_ms[43]? = some hm_L_isTimes := rfl
set_option maxRecDepth 100000 in
theorem ok_L_readEither : hx_okO hm_L_readEither = true := hq_okO (by decide +kernel)
theorem cw_L_readEither : Cond.code (hx_y hm_L_readEither) (hx_b hm_L_readEither) (hx_L hm_L_readEither) (hx_ret hm_L_readEither) ∈ hx_T := hx_T_in (hx_ch_in tables_1_2 (List.mem_of_getElem? (i := 2) rfl) _ (List.mem_of_getElem? (i := 230) rfl)) rfl
set_option maxRecDepth 100000 in
theorem ck_L_readEither : hx_cal hm_L_readEither := ⟨by decide +kernel, cw_L_readEither⟩
set_option maxRecDepth 20000 in
theorem mj_L_readEither : hx_ms[44]? = some hm_L_readEither := rfl
set_option maxRecDepth 100000 in
theorem ok_L_readBoth : hx_okO hm_L_readBoth = true := hq_okO (by decide +kernel)
theorem cw_L_readBoth : Cond.code (hx_y hm_L_readBoth) (hx_b hm_L_readBoth) (hx_L hm_L_readBoth) (hx_ret hm_L_readBoth) ∈ hx_T := hx_T_in (hx_ch_in tables_1_2 (List.mem_of_getElem? (i := 2) rfl) _ (List.mem_of_getElem? (i := 234) rfl)) rfl
set_option maxRecDepth 100000 in
theorem ck_L_readBoth : hx_cal hm_L_readBoth := ⟨by decide +kernel, cw_L_readBoth⟩
set_option maxRecDepth 20000 in
theorem mj_L_readBoth : hx_ms[45]? = some hm_L_readBoth := rfl
set_option maxRecDepth 100000 in
theorem ok_L_readPiece : hx_okO hm_L_readPiece = true := hq_okO (by decide +kernel)
theorem cw_L_readPiece : Cond.code (hx_y hm_L_readPiece) (hx_b hm_L_readPiece) (hx_L hm_L_readPiece) (hx_ret hm_L_readPiece) ∈ hx_T := hx_T_in (hx_ch_in tables_1_2 (List.mem_of_getElem? (i := 2) rfl) _ (List.mem_of_getElem? (i := 238) rfl)) rfl
set_option maxRecDepth 100000 in
theorem ck_L_readPiece : hx_cal hm_L_readPiece := ⟨by decide +kernel, cw_L_readPiece⟩
set_option maxRecDepth 20000 in
theorem mj_L_readPiece : hx_ms[46]? = some hm_L_readPiece := rfl
set_option maxRecDepth 100000 in
theorem ok_L_leadHere : hx_okO hm_L_leadHere = true := hq_okO (by decide +kernel)
theorem cw_L_leadHere : Cond.code (hx_y hm_L_leadHere) (hx_b hm_L_leadHere) (hx_L hm_L_leadHere) (hx_ret hm_L_leadHere) ∈ hx_T := hx_T_in (hx_ch_in tables_1_3 (List.mem_of_getElem? (i := 3) rfl) _ (List.mem_of_getElem? (i := 2) rfl)) rfl
set_option maxRecDepth 100000 in
theorem ck_L_leadHere : hx_cal hm_L_leadHere := ⟨by decide +kernel, cw_L_leadHere⟩
set_option maxRecDepth 20000 in
theorem mj_L_leadHere : hx_ms[47]? = some hm_L_leadHere := rfl
set_option maxRecDepth 100000 in
theorem ok_T_finish : hx_okO hm_T_finish = true := hq_okO (by decide +kernel)
theorem cw_T_finish : Cond.code (hx_y hm_T_finish) (hx_b hm_T_finish) (hx_L hm_T_finish) (hx_ret hm_T_finish) ∈ hx_T := hx_T_in (hx_ch_in tables_1_3 (List.mem_of_getElem? (i := 3) rfl) _ (List.mem_of_getElem? (i := 6) rfl)) rfl
set_option maxRecDepth 100000 in
theorem ck_T_finish : hx_cal hm_T_finish := ⟨by decide +kernel, cw_T_finish⟩
set_option maxRecDepth 20000 in
theorem mj_T_finish : hx_ms[48]? = some hm_T_finish := rfl
set_option maxRecDepth 100000 in
theorem ok_T_fault : hx_okO hm_T_fault = true := hq_okO (by decide +kernel)
theorem cw_T_fault : Cond.code (hx_y hm_T_fault) (hx_b hm_T_fault) (hx_L hm_T_fault) (hx_ret hm_T_fault) ∈ hx_T := hx_T_in (hx_ch_in tables_1_3 (List.mem_of_getElem? (i := 3) rfl) _ (List.mem_of_getElem? (i := 10) rfl)) rfl
set_option maxRecDepth 100000 in
theorem ck_T_fault : hx_cal hm_T_fault := ⟨by decide +kernel, cw_T_fault⟩
set_option maxRecDepth 20000 in
theorem mj_T_fault : hx_ms[49]? = some hm_T_fault := rfl
set_option maxRecDepth 100000 in
theorem ok_T_clear : hx_okO hm_T_clear = true := hq_okO (by decide +kernel)
theorem cw_T_clear : Cond.code (hx_y hm_T_clear) (hx_b hm_T_clear) (hx_L hm_T_clear) (hx_ret hm_T_clear) ∈ hx_T := hx_T_in (hx_ch_in tables_1_3 (List.mem_of_getElem? (i := 3) rfl) _ (List.mem_of_getElem? (i := 14) rfl)) rfl
set_option maxRecDepth 100000 in
theorem ck_T_clear : hx_cal hm_T_clear := ⟨by decide +kernel, cw_T_clear⟩
set_option maxRecDepth 20000 in
theorem mj_T_clear : hx_ms[50]? = some hm_T_clear := rfl
set_option maxRecDepth 100000 in
theorem ok_L_copyFrom : hx_okO hm_L_copyFrom = true := hq_okO (by decide +kernel)
theorem cw_L_copyFrom : Cond.code (hx_y hm_L_copyFrom) (hx_b hm_L_copyFrom) (hx_L hm_L_copyFrom) (hx_ret hm_L_copyFrom) ∈ hx_T := hx_T_in (hx_ch_in tables_1_3 (List.mem_of_getElem? (i := 3) rfl) _ (List.mem_of_getElem? (i := 18) rfl)) rfl
set_option maxRecDepth 100000 in
theorem ck_L_copyFrom : hx_cal hm_L_copyFrom := ⟨by decide +kernel, cw_L_copyFrom⟩
set_option maxRecDepth 20000 in
theorem mj_L_copyFrom : hx_ms[51]? = some hm_L_copyFrom := rfl
set_option maxRecDepth 100000 in
theorem ok_L_clauses : hx_okO hm_L_clauses = true := hq_okO (by decide +kernel)
theorem cw_L_clauses : Cond.code (hx_y hm_L_clauses) (hx_b hm_L_clauses) (hx_L hm_L_clauses) (hx_ret hm_L_clauses) ∈ hx_T := hx_T_in (hx_ch_in tables_1_3 (List.mem_of_getElem? (i := 3) rfl) _ (List.mem_of_getElem? (i := 25) rfl)) rfl
set_option maxRecDepth 100000 in
theorem ck_L_clauses : hx_cal hm_L_clauses := ⟨by decide +kernel, cw_L_clauses⟩
set_option maxRecDepth 20000 in
theorem mj_L_clauses : hx_ms[52]? = some hm_L_clauses := rfl
set_option maxRecDepth 100000 in
theorem ok_W_land : hx_okO hm_W_land = true := hq_okO (by decide +kernel)
theorem cw_W_land : Cond.code (hx_y hm_W_land) (hx_b hm_W_land) (hx_L hm_W_land) (hx_ret hm_W_land) ∈ hx_T := hx_T_in (hx_ch_in tables_1_3 (List.mem_of_getElem? (i := 3) rfl) _ (List.mem_of_getElem? (i := 29) rfl)) rfl
set_option maxRecDepth 100000 in
theorem ck_W_land : hx_cal hm_W_land := ⟨by decide +kernel, cw_W_land⟩
set_option maxRecDepth 20000 in
theorem mj_W_land : hx_ms[53]? = some hm_W_land := rfl
set_option maxRecDepth 100000 in
theorem ok_G_read : hx_okO hm_G_read = true := hq_okO (by decide +kernel)
theorem cw_G_read : Cond.code (hx_y hm_G_read) (hx_b hm_G_read) (hx_L hm_G_read) (hx_ret hm_G_read) ∈ hx_T := hx_T_in (hx_ch_in tables_1_3 (List.mem_of_getElem? (i := 3) rfl) _ (List.mem_of_getElem? (i := 33) rfl)) rfl
set_option maxRecDepth 100000 in
theorem ck_G_read : hx_cal hm_G_read := ⟨by decide +kernel, cw_G_read⟩
set_option maxRecDepth 20000 in
theorem mj_G_read : hx_ms[54]? = some hm_G_read := rfl
set_option maxRecDepth 100000 in
theorem ok_G_readRow : hx_okO hm_G_readRow = true := hq_okO (by decide +kernel)
theorem cw_G_readRow : Cond.code (hx_y hm_G_readRow) (hx_b hm_G_readRow) (hx_L hm_G_readRow) (hx_ret hm_G_readRow) ∈ hx_T := hx_T_in (hx_ch_in tables_1_3 (List.mem_of_getElem? (i := 3) rfl) _ (List.mem_of_getElem? (i := 39) rfl)) rfl
set_option maxRecDepth 100000 in
theorem ck_G_readRow : hx_cal hm_G_readRow := ⟨by decide +kernel, cw_G_readRow⟩
set_option maxRecDepth 20000 in
theorem mj_G_readRow : hx_ms[55]? = some hm_G_readRow := rfl
set_option maxRecDepth 100000 in
theorem ok_G_isFieldsStart : hx_okO hm_G_isFieldsStart = true := hq_okO (by decide +kernel)
theorem cw_G_isFieldsStart : Cond.code (hx_y hm_G_isFieldsStart) (hx_b hm_G_isFieldsStart) (hx_L hm_G_isFieldsStart) (hx_ret hm_G_isFieldsStart) ∈ hx_T := hx_T_in (hx_ch_in tables_1_3 (List.mem_of_getElem? (i := 3) rfl) _ (List.mem_of_getElem? (i := 43) rfl)) rfl
set_option maxRecDepth 100000 in
theorem ck_G_isFieldsStart : hx_cal hm_G_isFieldsStart := ⟨by decide +kernel, cw_G_isFieldsStart⟩
set_option maxRecDepth 20000 in
theorem mj_G_isFieldsStart : hx_ms[56]? = some hm_G_isFieldsStart := rfl
set_option maxRecDepth 100000 in
theorem ok_G_colourOf : hx_okO hm_G_colourOf = true := hq_okO (by decide +kernel)
theorem cw_G_colourOf : Cond.code (hx_y hm_G_colourOf) (hx_b hm_G_colourOf) (hx_L hm_G_colourOf) (hx_ret hm_G_colourOf) ∈ hx_T := hx_T_in (hx_ch_in tables_1_3 (List.mem_of_getElem? (i := 3) rfl) _ (List.mem_of_getElem? (i := 46) rfl)) rfl
set_option maxRecDepth 100000 in
theorem ck_G_colourOf : hx_cal hm_G_colourOf := ⟨by decide +kernel, cw_G_colourOf⟩
set_option maxRecDepth 20000 in
theorem mj_G_colourOf : hx_ms[57]? = some hm_G_colourOf := rfl
set_option maxRecDepth 100000 in
theorem ok_G_readFields : hx_okO hm_G_readFields = true := hq_okO (by decide +kernel)
theorem cw_G_readFields : Cond.code (hx_y hm_G_readFields) (hx_b hm_G_readFields) (hx_L hm_G_readFields) (hx_ret hm_G_readFields) ∈ hx_T := hx_T_in (hx_ch_in tables_1_3 (List.mem_of_getElem? (i := 3) rfl) _ (List.mem_of_getElem? (i := 50) rfl)) rfl
set_option maxRecDepth 100000 in
theorem ck_G_readFields : hx_cal hm_G_readFields := ⟨by decide +kernel, cw_G_readFields⟩
set_option maxRecDepth 20000 in
theorem mj_G_readFields : hx_ms[58]? = some hm_G_readFields := rfl
set_option maxRecDepth 100000 in
theorem ok_G_painted : hx_okO hm_G_painted = true := hq_okO (by decide +kernel)
theorem cw_G_painted : Cond.code (hx_y hm_G_painted) (hx_b hm_G_painted) (hx_L hm_G_painted) (hx_ret hm_G_painted) ∈ hx_T := hx_T_in (hx_ch_in tables_1_3 (List.mem_of_getElem? (i := 3) rfl) _ (List.mem_of_getElem? (i := 61) rfl)) rfl
set_option maxRecDepth 100000 in
theorem ck_G_painted : hx_cal hm_G_painted := ⟨by decide +kernel, cw_G_painted⟩
set_option maxRecDepth 20000 in
theorem mj_G_painted : hx_ms[59]? = some hm_G_painted := rfl
set_option maxRecDepth 100000 in
theorem ok_W_treaties : hx_okO hm_W_treaties = true := hq_okO (by decide +kernel)
theorem cw_W_treaties : Cond.code (hx_y hm_W_treaties) (hx_b hm_W_treaties) (hx_L hm_W_treaties) (hx_ret hm_W_treaties) ∈ hx_T := hx_T_in (hx_ch_in tables_1_3 (List.mem_of_getElem? (i := 3) rfl) _ (List.mem_of_getElem? (i := 65) rfl)) rfl
set_option maxRecDepth 100000 in
theorem ck_W_treaties : hx_cal hm_W_treaties := ⟨by decide +kernel, cw_W_treaties⟩
set_option maxRecDepth 20000 in
theorem mj_W_treaties : hx_ms[60]? = some hm_W_treaties := rfl
set_option maxRecDepth 100000 in
theorem ok_N_read : hx_okO hm_N_read = true := hq_okO (by decide +kernel)
theorem cw_N_read : Cond.code (hx_y hm_N_read) (hx_b hm_N_read) (hx_L hm_N_read) (hx_ret hm_N_read) ∈ hx_T := hx_T_in (hx_ch_in tables_1_3 (List.mem_of_getElem? (i := 3) rfl) _ (List.mem_of_getElem? (i := 69) rfl)) rfl
set_option maxRecDepth 100000 in
theorem ck_N_read : hx_cal hm_N_read := ⟨by decide +kernel, cw_N_read⟩
set_option maxRecDepth 20000 in
theorem mj_N_read : hx_ms[61]? = some hm_N_read := rfl
set_option maxRecDepth 100000 in
theorem ok_N_readLine : hx_okO hm_N_readLine = true := hq_okO (by decide +kernel)
theorem cw_N_readLine : Cond.code (hx_y hm_N_readLine) (hx_b hm_N_readLine) (hx_L hm_N_readLine) (hx_ret hm_N_readLine) ∈ hx_T := hx_T_in (hx_ch_in tables_1_3 (List.mem_of_getElem? (i := 3) rfl) _ (List.mem_of_getElem? (i := 74) rfl)) rfl
set_option maxRecDepth 100000 in
theorem ck_N_readLine : hx_cal hm_N_readLine := ⟨by decide +kernel, cw_N_readLine⟩
set_option maxRecDepth 20000 in
theorem mj_N_readLine : hx_ms[62]? = some hm_N_readLine := rfl
set_option maxRecDepth 100000 in
theorem ok_N_readColour : hx_okO hm_N_readColour = true := hq_okO (by decide +kernel)
theorem cw_N_readColour : Cond.code (hx_y hm_N_readColour) (hx_b hm_N_readColour) (hx_L hm_N_readColour) (hx_ret hm_N_readColour) ∈ hx_T := hx_T_in (hx_ch_in tables_1_3 (List.mem_of_getElem? (i := 3) rfl) _ (List.mem_of_getElem? (i := 81) rfl)) rfl
set_option maxRecDepth 100000 in
theorem ck_N_readColour : hx_cal hm_N_readColour := ⟨by decide +kernel, cw_N_readColour⟩
set_option maxRecDepth 20000 in
theorem mj_N_readColour : hx_ms[63]? = some hm_N_readColour := rfl
set_option maxRecDepth 100000 in
theorem ok_T_place : hx_okO hm_T_place = true := hq_okO (by decide +kernel)
theorem cw_T_place : Cond.code (hx_y hm_T_place) (hx_b hm_T_place) (hx_L hm_T_place) (hx_ret hm_T_place) ∈ hx_T := hx_T_in (hx_ch_in tables_1_3 (List.mem_of_getElem? (i := 3) rfl) _ (List.mem_of_getElem? (i := 85) rfl)) rfl
set_option maxRecDepth 100000 in
theorem ck_T_place : hx_cal hm_T_place := ⟨by decide +kernel, cw_T_place⟩
set_option maxRecDepth 20000 in
theorem mj_T_place : hx_ms[64]? = some hm_T_place := rfl
set_option maxRecDepth 100000 in
theorem ok_T_failAt : hx_okO hm_T_failAt = true := hq_okO (by decide +kernel)
theorem cw_T_failAt : Cond.code (hx_y hm_T_failAt) (hx_b hm_T_failAt) (hx_L hm_T_failAt) (hx_ret hm_T_failAt) ∈ hx_T := hx_T_in (hx_ch_in tables_1_3 (List.mem_of_getElem? (i := 3) rfl) _ (List.mem_of_getElem? (i := 90) rfl)) rfl
set_option maxRecDepth 100000 in
theorem ck_T_failAt : hx_cal hm_T_failAt := ⟨by decide +kernel, cw_T_failAt⟩
set_option maxRecDepth 20000 in
theorem mj_T_failAt : hx_ms[65]? = some hm_T_failAt := rfl
set_option maxRecDepth 100000 in
theorem ok_N_readQuarters : hx_okO hm_N_readQuarters = true := hq_okO (by decide +kernel)
theorem cw_N_readQuarters : Cond.code (hx_y hm_N_readQuarters) (hx_b hm_N_readQuarters) (hx_L hm_N_readQuarters) (hx_ret hm_N_readQuarters) ∈ hx_T := hx_T_in (hx_ch_in tables_1_3 (List.mem_of_getElem? (i := 3) rfl) _ (List.mem_of_getElem? (i := 95) rfl)) rfl
set_option maxRecDepth 100000 in
theorem ck_N_readQuarters : hx_cal hm_N_readQuarters := ⟨by decide +kernel, cw_N_readQuarters⟩
set_option maxRecDepth 20000 in
theorem mj_N_readQuarters : hx_ms[66]? = some hm_N_readQuarters := rfl
set_option maxRecDepth 100000 in
theorem ok_N_readSign : hx_okO hm_N_readSign = true := hq_okO (by decide +kernel)
theorem cw_N_readSign : Cond.code (hx_y hm_N_readSign) (hx_b hm_N_readSign) (hx_L hm_N_readSign) (hx_ret hm_N_readSign) ∈ hx_T := hx_T_in (hx_ch_in tables_1_3 (List.mem_of_getElem? (i := 3) rfl) _ (List.mem_of_getElem? (i := 100) rfl)) rfl
set_option maxRecDepth 100000 in
theorem ck_N_readSign : hx_cal hm_N_readSign := ⟨by decide +kernel, cw_N_readSign⟩
set_option maxRecDepth 20000 in
theorem mj_N_readSign : hx_ms[67]? = some hm_N_readSign := rfl
set_option maxRecDepth 100000 in
theorem ok_N_readEmpire : hx_okO hm_N_readEmpire = true := hq_okO (by decide +kernel)
theorem cw_N_readEmpire : Cond.code (hx_y hm_N_readEmpire) (hx_b hm_N_readEmpire) (hx_L hm_N_readEmpire) (hx_ret hm_N_readEmpire) ∈ hx_T := hx_T_in (hx_ch_in tables_1_3 (List.mem_of_getElem? (i := 3) rfl) _ (List.mem_of_getElem? (i := 104) rfl)) rfl
set_option maxRecDepth 100000 in
theorem ck_N_readEmpire : hx_cal hm_N_readEmpire := ⟨by decide +kernel, cw_N_readEmpire⟩
set_option maxRecDepth 20000 in
theorem mj_N_readEmpire : hx_ms[68]? = some hm_N_readEmpire := rfl
set_option maxRecDepth 100000 in
theorem ok_W_isEmpire : hx_okO hm_W_isEmpire = true := hq_okO (by decide +kernel)
theorem cw_W_isEmpire : Cond.code (hx_y hm_W_isEmpire) (hx_b hm_W_isEmpire) (hx_L hm_W_isEmpire) (hx_ret hm_W_isEmpire) ∈ hx_T := hx_T_in (hx_ch_in tables_1_3 (List.mem_of_getElem? (i := 3) rfl) _ (List.mem_of_getElem? (i := 107) rfl)) rfl
set_option maxRecDepth 100000 in
theorem ck_W_isEmpire : hx_cal hm_W_isEmpire := ⟨by decide +kernel, cw_W_isEmpire⟩
set_option maxRecDepth 20000 in
theorem mj_W_isEmpire : hx_ms[69]? = some hm_W_isEmpire := rfl
set_option maxRecDepth 100000 in
theorem ok_N_length : hx_okO hm_N_length = true := hq_okO (by decide +kernel)
theorem cw_N_length : Cond.code (hx_y hm_N_length) (hx_b hm_N_length) (hx_L hm_N_length) (hx_ret hm_N_length) ∈ hx_T := hx_T_in (hx_ch_in tables_1_3 (List.mem_of_getElem? (i := 3) rfl) _ (List.mem_of_getElem? (i := 113) rfl)) rfl
set_option maxRecDepth 100000 in
theorem ck_N_length : hx_cal hm_N_length := ⟨by decide +kernel, cw_N_length⟩
set_option maxRecDepth 20000 in
theorem mj_N_length : hx_ms[70]? = some hm_N_length := rfl
set_option maxRecDepth 100000 in
theorem ok_W_isMade : hx_okO hm_W_isMade = true := hq_okO (by decide +kernel)
theorem cw_W_isMade : Cond.code (hx_y hm_W_isMade) (hx_b hm_W_isMade) (hx_L hm_W_isMade) (hx_ret hm_W_isMade) ∈ hx_T := hx_T_in (hx_ch_in tables_1_3 (List.mem_of_getElem? (i := 3) rfl) _ (List.mem_of_getElem? (i := 117) rfl)) rfl
set_option maxRecDepth 100000 in
theorem ck_W_isMade : hx_cal hm_W_isMade := ⟨by decide +kernel, cw_W_isMade⟩
set_option maxRecDepth 20000 in
theorem mj_W_isMade : hx_ms[71]? = some hm_W_isMade := rfl
set_option maxRecDepth 100000 in
theorem ok_N_hue : hx_okO hm_N_hue = true := hq_okO (by decide +kernel)
theorem cw_N_hue : Cond.code (hx_y hm_N_hue) (hx_b hm_N_hue) (hx_L hm_N_hue) (hx_ret hm_N_hue) ∈ hx_T := hx_T_in (hx_ch_in tables_1_3 (List.mem_of_getElem? (i := 3) rfl) _ (List.mem_of_getElem? (i := 121) rfl)) rfl
set_option maxRecDepth 100000 in
theorem ck_N_hue : hx_cal hm_N_hue := ⟨by decide +kernel, cw_N_hue⟩
set_option maxRecDepth 20000 in
theorem mj_N_hue : hx_ms[72]? = some hm_N_hue := rfl
set_option maxRecDepth 100000 in
theorem ok_N_quarters : hx_okO hm_N_quarters = true := hq_okO (by decide +kernel)
theorem cw_N_quarters : Cond.code (hx_y hm_N_quarters) (hx_b hm_N_quarters) (hx_L hm_N_quarters) (hx_ret hm_N_quarters) ∈ hx_T := hx_T_in (hx_ch_in tables_1_3 (List.mem_of_getElem? (i := 3) rfl) _ (List.mem_of_getElem? (i := 126) rfl)) rfl
set_option maxRecDepth 100000 in
theorem ck_N_quarters : hx_cal hm_N_quarters := ⟨by decide +kernel, cw_N_quarters⟩
set_option maxRecDepth 20000 in
theorem mj_N_quarters : hx_ms[73]? = some hm_N_quarters := rfl
set_option maxRecDepth 100000 in
theorem ok_N_giver : hx_okO hm_N_giver = true := hq_okO (by decide +kernel)
theorem cw_N_giver : Cond.code (hx_y hm_N_giver) (hx_b hm_N_giver) (hx_L hm_N_giver) (hx_ret hm_N_giver) ∈ hx_T := hx_T_in (hx_ch_in tables_1_3 (List.mem_of_getElem? (i := 3) rfl) _ (List.mem_of_getElem? (i := 130) rfl)) rfl
set_option maxRecDepth 100000 in
theorem ck_N_giver : hx_cal hm_N_giver := ⟨by decide +kernel, cw_N_giver⟩
set_option maxRecDepth 20000 in
theorem mj_N_giver : hx_ms[74]? = some hm_N_giver := rfl
set_option maxRecDepth 100000 in
theorem ok_N_other : hx_okO hm_N_other = true := hq_okO (by decide +kernel)
theorem cw_N_other : Cond.code (hx_y hm_N_other) (hx_b hm_N_other) (hx_L hm_N_other) (hx_ret hm_N_other) ∈ hx_T := hx_T_in (hx_ch_in tables_1_3 (List.mem_of_getElem? (i := 3) rfl) _ (List.mem_of_getElem? (i := 134) rfl)) rfl
set_option maxRecDepth 100000 in
theorem ck_N_other : hx_cal hm_N_other := ⟨by decide +kernel, cw_N_other⟩
set_option maxRecDepth 20000 in
theorem mj_N_other : hx_ms[75]? = some hm_N_other := rfl
set_option maxRecDepth 100000 in
theorem ok_N_isShared : hx_okO hm_N_isShared = true := hq_okO (by decide +kernel)
theorem cw_N_isShared : Cond.code (hx_y hm_N_isShared) (hx_b hm_N_isShared) (hx_L hm_N_isShared) (hx_ret hm_N_isShared) ∈ hx_T := hx_T_in (hx_ch_in tables_1_3 (List.mem_of_getElem? (i := 3) rfl) _ (List.mem_of_getElem? (i := 138) rfl)) rfl
set_option maxRecDepth 100000 in
theorem ck_N_isShared : hx_cal hm_N_isShared := ⟨by decide +kernel, cw_N_isShared⟩
set_option maxRecDepth 20000 in
theorem mj_N_isShared : hx_ms[76]? = some hm_N_isShared := rfl
set_option maxRecDepth 100000 in
theorem ok_S_isMade : hx_okO hm_S_isMade = true := hq_okO (by decide +kernel)
theorem cw_S_isMade : Cond.code (hx_y hm_S_isMade) (hx_b hm_S_isMade) (hx_L hm_S_isMade) (hx_ret hm_S_isMade) ∈ hx_T := hx_T_in (hx_ch_in tables_1_3 (List.mem_of_getElem? (i := 3) rfl) _ (List.mem_of_getElem? (i := 142) rfl)) rfl
set_option maxRecDepth 100000 in
theorem ck_S_isMade : hx_cal hm_S_isMade := ⟨by decide +kernel, cw_S_isMade⟩
set_option maxRecDepth 20000 in
theorem mj_S_isMade : hx_ms[77]? = some hm_S_isMade := rfl
set_option maxRecDepth 100000 in
theorem ok_S_canGo : hx_okO hm_S_canGo = true := hq_okO (by decide +kernel)
theorem cw_S_canGo : Cond.code (hx_y hm_S_canGo) (hx_b hm_S_canGo) (hx_L hm_S_canGo) (hx_ret hm_S_canGo) ∈ hx_T := hx_T_in (hx_ch_in tables_1_3 (List.mem_of_getElem? (i := 3) rfl) _ (List.mem_of_getElem? (i := 146) rfl)) rfl
set_option maxRecDepth 100000 in
theorem ck_S_canGo : hx_cal hm_S_canGo := ⟨by decide +kernel, cw_S_canGo⟩
set_option maxRecDepth 20000 in
theorem mj_S_canGo : hx_ms[78]? = some hm_S_canGo := rfl
set_option maxRecDepth 100000 in
theorem ok_S_havers : hx_okO hm_S_havers = true := hq_okO (by decide +kernel)
theorem cw_S_havers : Cond.code (hx_y hm_S_havers) (hx_b hm_S_havers) (hx_L hm_S_havers) (hx_ret hm_S_havers) ∈ hx_T := hx_T_in (hx_ch_in tables_1_3 (List.mem_of_getElem? (i := 3) rfl) _ (List.mem_of_getElem? (i := 150) rfl)) rfl
set_option maxRecDepth 100000 in
theorem ck_S_havers : hx_cal hm_S_havers := ⟨by decide +kernel, cw_S_havers⟩
set_option maxRecDepth 20000 in
theorem mj_S_havers : hx_ms[79]? = some hm_S_havers := rfl
end
section
set_option maxRecDepth 100000 in
theorem ok_S_move : hx_okO hm_S_move = true := hq_okO (by decide +kernel)
theorem cw_S_move : Cond.code (hx_y hm_S_move) (hx_b hm_S_move) (hx_L hm_S_move) (hx_ret hm_S_move) ∈ hx_T := hx_T_in (hx_ch_in tables_1_3 (List.mem_of_getElem? (i := 3) rfl) _ (List.mem_of_getElem? (i := 155) rfl)) rfl
set_option maxRecDepth 100000 in
theorem ck_S_move : hx_cal hm_S_move := ⟨by decide +kernel, cw_S_move⟩
set_option maxRecDepth 20000 in
theorem mj_S_move : hx_ms[80]? = some hm_S_move := rfl
set_option maxRecDepth 100000 in
theorem ok_W_judged : hx_okO hm_W_judged = true := hq_okO (by decide +kernel)
theorem cw_W_judged : Cond.code (hx_y hm_W_judged) (hx_b hm_W_judged) (hx_L hm_W_judged) (hx_ret hm_W_judged) ∈ hx_T := hx_T_in (hx_ch_in tables_1_3 (List.mem_of_getElem? (i := 3) rfl) _ (List.mem_of_getElem? (i := 160) rfl)) rfl
set_option maxRecDepth 100000 in
theorem ck_W_judged : hx_cal hm_W_judged := ⟨by decide +kernel, cw_W_judged⟩
set_option maxRecDepth 20000 in
theorem mj_W_judged : hx_ms[81]? = some hm_W_judged := rfl
set_option maxRecDepth 100000 in
theorem ok_S_copyFrom : hx_okO hm_S_copyFrom = true := hq_okO (by decide +kernel)
theorem cw_S_copyFrom : Cond.code (hx_y hm_S_copyFrom) (hx_b hm_S_copyFrom) (hx_L hm_S_copyFrom) (hx_ret hm_S_copyFrom) ∈ hx_T := hx_T_in (hx_ch_in tables_1_3 (List.mem_of_getElem? (i := 3) rfl) _ (List.mem_of_getElem? (i := 164) rfl)) rfl
set_option maxRecDepth 100000 in
theorem ck_S_copyFrom : hx_cal hm_S_copyFrom := ⟨by decide +kernel, cw_S_copyFrom⟩
set_option maxRecDepth 20000 in
theorem mj_S_copyFrom : hx_ms[82]? = some hm_S_copyFrom := rfl
set_option maxRecDepth 100000 in
theorem ok_W_seed : hx_okO hm_W_seed = true := hq_okO (by decide +kernel)
theorem cw_W_seed : Cond.code (hx_y hm_W_seed) (hx_b hm_W_seed) (hx_L hm_W_seed) (hx_ret hm_W_seed) ∈ hx_T := hx_T_in (hx_ch_in tables_1_3 (List.mem_of_getElem? (i := 3) rfl) _ (List.mem_of_getElem? (i := 169) rfl)) rfl
set_option maxRecDepth 100000 in
theorem ck_W_seed : hx_cal hm_W_seed := ⟨by decide +kernel, cw_W_seed⟩
set_option maxRecDepth 20000 in
theorem mj_W_seed : hx_ms[83]? = some hm_W_seed := rfl
set_option maxRecDepth 100000 in
theorem ok_S_setDraw : hx_okO hm_S_setDraw = true := hq_okO (by decide +kernel)
theorem cw_S_setDraw : Cond.code (hx_y hm_S_setDraw) (hx_b hm_S_setDraw) (hx_L hm_S_setDraw) (hx_ret hm_S_setDraw) ∈ hx_T := hx_T_in (hx_ch_in tables_1_3 (List.mem_of_getElem? (i := 3) rfl) _ (List.mem_of_getElem? (i := 174) rfl)) rfl
set_option maxRecDepth 100000 in
theorem ck_S_setDraw : hx_cal hm_S_setDraw := ⟨by decide +kernel, cw_S_setDraw⟩
set_option maxRecDepth 20000 in
theorem mj_S_setDraw : hx_ms[84]? = some hm_S_setDraw := rfl
set_option maxRecDepth 100000 in
theorem ok_W_days : hx_okO hm_W_days = true := hq_okO (by decide +kernel)
theorem cw_W_days : Cond.code (hx_y hm_W_days) (hx_b hm_W_days) (hx_L hm_W_days) (hx_ret hm_W_days) ∈ hx_T := hx_T_in (hx_ch_in tables_1_3 (List.mem_of_getElem? (i := 3) rfl) _ (List.mem_of_getElem? (i := 178) rfl)) rfl
set_option maxRecDepth 100000 in
theorem ck_W_days : hx_cal hm_W_days := ⟨by decide +kernel, cw_W_days⟩
set_option maxRecDepth 20000 in
theorem mj_W_days : hx_ms[85]? = some hm_W_days := rfl
set_option maxRecDepth 100000 in
theorem ok_W_isDays : hx_okO hm_W_isDays = true := hq_okO (by decide +kernel)
theorem cw_W_isDays : Cond.code (hx_y hm_W_isDays) (hx_b hm_W_isDays) (hx_L hm_W_isDays) (hx_ret hm_W_isDays) ∈ hx_T := hx_T_in (hx_ch_in tables_1_3 (List.mem_of_getElem? (i := 3) rfl) _ (List.mem_of_getElem? (i := 181) rfl)) rfl
set_option maxRecDepth 100000 in
theorem ck_W_isDays : hx_cal hm_W_isDays := ⟨by decide +kernel, cw_W_isDays⟩
set_option maxRecDepth 20000 in
theorem mj_W_isDays : hx_ms[86]? = some hm_W_isDays := rfl
set_option maxRecDepth 100000 in
theorem ok_S_goBy : hx_okO hm_S_goBy = true := hq_okO (by decide +kernel)
theorem cw_S_goBy : Cond.code (hx_y hm_S_goBy) (hx_b hm_S_goBy) (hx_L hm_S_goBy) (hx_ret hm_S_goBy) ∈ hx_T := hx_T_in (hx_ch_in tables_1_3 (List.mem_of_getElem? (i := 3) rfl) _ (List.mem_of_getElem? (i := 185) rfl)) rfl
set_option maxRecDepth 100000 in
theorem ck_S_goBy : hx_cal hm_S_goBy := ⟨by decide +kernel, cw_S_goBy⟩
set_option maxRecDepth 20000 in
theorem mj_S_goBy : hx_ms[87]? = some hm_S_goBy := rfl
set_option maxRecDepth 100000 in
theorem ok_S_goByOnce : hx_okO hm_S_goByOnce = true := hq_okO (by decide +kernel)
theorem cw_S_goByOnce : Cond.code (hx_y hm_S_goByOnce) (hx_b hm_S_goByOnce) (hx_L hm_S_goByOnce) (hx_ret hm_S_goByOnce) ∈ hx_T := hx_T_in (hx_ch_in tables_1_3 (List.mem_of_getElem? (i := 3) rfl) _ (List.mem_of_getElem? (i := 189) rfl)) rfl
set_option maxRecDepth 100000 in
theorem ck_S_goByOnce : hx_cal hm_S_goByOnce := ⟨by decide +kernel, cw_S_goByOnce⟩
set_option maxRecDepth 20000 in
theorem mj_S_goByOnce : hx_ms[88]? = some hm_S_goByOnce := rfl
set_option maxRecDepth 100000 in
theorem ok_S_chance : hx_okO hm_S_chance = true := hq_okO (by decide +kernel)
theorem cw_S_chance : Cond.code (hx_y hm_S_chance) (hx_b hm_S_chance) (hx_L hm_S_chance) (hx_ret hm_S_chance) ∈ hx_T := hx_T_in (hx_ch_in tables_1_3 (List.mem_of_getElem? (i := 3) rfl) _ (List.mem_of_getElem? (i := 194) rfl)) rfl
set_option maxRecDepth 100000 in
theorem ck_S_chance : hx_cal hm_S_chance := ⟨by decide +kernel, cw_S_chance⟩
set_option maxRecDepth 20000 in
theorem mj_S_chance : hx_ms[89]? = some hm_S_chance := rfl
set_option maxRecDepth 100000 in
theorem ok_S_part : hx_okO hm_S_part = true := hq_okO (by decide +kernel)
theorem cw_S_part : Cond.code (hx_y hm_S_part) (hx_b hm_S_part) (hx_L hm_S_part) (hx_ret hm_S_part) ∈ hx_T := hx_T_in (hx_ch_in tables_1_3 (List.mem_of_getElem? (i := 3) rfl) _ (List.mem_of_getElem? (i := 198) rfl)) rfl
set_option maxRecDepth 100000 in
theorem ck_S_part : hx_cal hm_S_part := ⟨by decide +kernel, cw_S_part⟩
set_option maxRecDepth 20000 in
theorem mj_S_part : hx_ms[90]? = some hm_S_part := rfl
set_option maxRecDepth 100000 in
theorem ok_S_lowest : hx_okO hm_S_lowest = true := hq_okO (by decide +kernel)
theorem cw_S_lowest : Cond.code (hx_y hm_S_lowest) (hx_b hm_S_lowest) (hx_L hm_S_lowest) (hx_ret hm_S_lowest) ∈ hx_T := hx_T_in (hx_ch_in tables_1_3 (List.mem_of_getElem? (i := 3) rfl) _ (List.mem_of_getElem? (i := 201) rfl)) rfl
set_option maxRecDepth 100000 in
theorem ck_S_lowest : hx_cal hm_S_lowest := ⟨by decide +kernel, cw_S_lowest⟩
set_option maxRecDepth 20000 in
theorem mj_S_lowest : hx_ms[91]? = some hm_S_lowest := rfl
set_option maxRecDepth 100000 in
theorem ok_J_bitCount : hx_okO hm_J_bitCount = true := hq_okO (by decide +kernel)
theorem cw_J_bitCount : Cond.code (hx_y hm_J_bitCount) (hx_b hm_J_bitCount) (hx_L hm_J_bitCount) (hx_ret hm_J_bitCount) ∈ hx_T := hx_T_in (hx_ch_in tables_1_3 (List.mem_of_getElem? (i := 3) rfl) _ (List.mem_of_getElem? (i := 204) rfl)) rfl
set_option maxRecDepth 100000 in
theorem ck_J_bitCount : hx_cal hm_J_bitCount := ⟨by decide +kernel, cw_J_bitCount⟩
set_option maxRecDepth 20000 in
theorem mj_J_bitCount : hx_ms[92]? = some hm_J_bitCount := rfl
set_option maxRecDepth 100000 in
theorem ok_L_tell : hx_okO hm_L_tell = true := hq_okO (by decide +kernel)
theorem cw_L_tell : Cond.code (hx_y hm_L_tell) (hx_b hm_L_tell) (hx_L hm_L_tell) (hx_ret hm_L_tell) ∈ hx_T := hx_T_in (hx_ch_in tables_1_3 (List.mem_of_getElem? (i := 3) rfl) _ (List.mem_of_getElem? (i := 211) rfl)) rfl
set_option maxRecDepth 100000 in
theorem ck_L_tell : hx_cal hm_L_tell := ⟨by decide +kernel, cw_L_tell⟩
set_option maxRecDepth 20000 in
theorem mj_L_tell : hx_ms[93]? = some hm_L_tell := rfl
set_option maxRecDepth 100000 in
theorem ok_L_tellParts : hx_okO hm_L_tellParts = true := hq_okO (by decide +kernel)
theorem cw_L_tellParts : Cond.code (hx_y hm_L_tellParts) (hx_b hm_L_tellParts) (hx_L hm_L_tellParts) (hx_ret hm_L_tellParts) ∈ hx_T := hx_T_in (hx_ch_in tables_1_3 (List.mem_of_getElem? (i := 3) rfl) _ (List.mem_of_getElem? (i := 215) rfl)) rfl
set_option maxRecDepth 100000 in
theorem ck_L_tellParts : hx_cal hm_L_tellParts := ⟨by decide +kernel, cw_L_tellParts⟩
set_option maxRecDepth 20000 in
theorem mj_L_tellParts : hx_ms[94]? = some hm_L_tellParts := rfl
set_option maxRecDepth 100000 in
theorem ok_L_tellFields : hx_okO hm_L_tellFields = true := hq_okO (by decide +kernel)
theorem cw_L_tellFields : Cond.code (hx_y hm_L_tellFields) (hx_b hm_L_tellFields) (hx_L hm_L_tellFields) (hx_ret hm_L_tellFields) ∈ hx_T := hx_T_in (hx_ch_in tables_1_3 (List.mem_of_getElem? (i := 3) rfl) _ (List.mem_of_getElem? (i := 219) rfl)) rfl
set_option maxRecDepth 100000 in
theorem ck_L_tellFields : hx_cal hm_L_tellFields := ⟨by decide +kernel, cw_L_tellFields⟩
set_option maxRecDepth 20000 in
theorem mj_L_tellFields : hx_ms[95]? = some hm_L_tellFields := rfl
set_option maxRecDepth 100000 in
theorem ok_L_tellAge : hx_okO hm_L_tellAge = true := hq_okO (by decide +kernel)
theorem cw_L_tellAge : Cond.code (hx_y hm_L_tellAge) (hx_b hm_L_tellAge) (hx_L hm_L_tellAge) (hx_ret hm_L_tellAge) ∈ hx_T := hx_T_in (hx_ch_in tables_1_3 (List.mem_of_getElem? (i := 3) rfl) _ (List.mem_of_getElem? (i := 223) rfl)) rfl
set_option maxRecDepth 100000 in
theorem ck_L_tellAge : hx_cal hm_L_tellAge := ⟨by decide +kernel, cw_L_tellAge⟩
set_option maxRecDepth 20000 in
theorem mj_L_tellAge : hx_ms[96]? = some hm_L_tellAge := rfl
set_option maxRecDepth 100000 in
theorem ok_L_amount : hx_okO hm_L_amount = true := hq_okO (by decide +kernel)
theorem cw_L_amount : Cond.code (hx_y hm_L_amount) (hx_b hm_L_amount) (hx_L hm_L_amount) (hx_ret hm_L_amount) ∈ hx_T := hx_T_in (hx_ch_in tables_1_3 (List.mem_of_getElem? (i := 3) rfl) _ (List.mem_of_getElem? (i := 228) rfl)) rfl
set_option maxRecDepth 100000 in
theorem ck_L_amount : hx_cal hm_L_amount := ⟨by decide +kernel, cw_L_amount⟩
set_option maxRecDepth 20000 in
theorem mj_L_amount : hx_ms[97]? = some hm_L_amount := rfl
set_option maxRecDepth 100000 in
theorem ok_L_run : hx_okO hm_L_run = true := hq_okO (by decide +kernel)
theorem cw_L_run : Cond.code (hx_y hm_L_run) (hx_b hm_L_run) (hx_L hm_L_run) (hx_ret hm_L_run) ∈ hx_T := hx_T_in (hx_ch_in tables_1_3 (List.mem_of_getElem? (i := 3) rfl) _ (List.mem_of_getElem? (i := 232) rfl)) rfl
set_option maxRecDepth 100000 in
theorem ck_L_run : hx_cal hm_L_run := ⟨by decide +kernel, cw_L_run⟩
set_option maxRecDepth 20000 in
theorem mj_L_run : hx_ms[98]? = some hm_L_run := rfl
set_option maxRecDepth 100000 in
theorem ok_L_reckoned : hx_okO hm_L_reckoned = true := hq_okO (by decide +kernel)
theorem cw_L_reckoned : Cond.code (hx_y hm_L_reckoned) (hx_b hm_L_reckoned) (hx_L hm_L_reckoned) (hx_ret hm_L_reckoned) ∈ hx_T := hx_T_in (hx_ch_in tables_1_3 (List.mem_of_getElem? (i := 3) rfl) _ (List.mem_of_getElem? (i := 235) rfl)) rfl
set_option maxRecDepth 100000 in
theorem ck_L_reckoned : hx_cal hm_L_reckoned := ⟨by decide +kernel, cw_L_reckoned⟩
set_option maxRecDepth 20000 in
theorem mj_L_reckoned : hx_ms[99]? = some hm_L_reckoned := rfl
set_option maxRecDepth 100000 in
theorem ok_S_breakTreaty : hx_okO hm_S_breakTreaty = true := hq_okO (by decide +kernel)
theorem cw_S_breakTreaty : Cond.code (hx_y hm_S_breakTreaty) (hx_b hm_S_breakTreaty) (hx_L hm_S_breakTreaty) (hx_ret hm_S_breakTreaty) ∈ hx_T := hx_T_in (hx_ch_in tables_1_4 (List.mem_of_getElem? (i := 4) rfl) _ (List.mem_of_getElem? (i := 3) rfl)) rfl
set_option maxRecDepth 100000 in
theorem ck_S_breakTreaty : hx_cal hm_S_breakTreaty := ⟨by decide +kernel, cw_S_breakTreaty⟩
set_option maxRecDepth 20000 in
theorem mj_S_breakTreaty : hx_ms[100]? = some hm_S_breakTreaty := rfl
set_option maxRecDepth 100000 in
theorem ok_W_tried : hx_okO hm_W_tried = true := hq_okO (by decide +kernel)
theorem cw_W_tried : Cond.code (hx_y hm_W_tried) (hx_b hm_W_tried) (hx_L hm_W_tried) (hx_ret hm_W_tried) ∈ hx_T := hx_T_in (hx_ch_in tables_1_4 (List.mem_of_getElem? (i := 4) rfl) _ (List.mem_of_getElem? (i := 7) rfl)) rfl
set_option maxRecDepth 100000 in
theorem ck_W_tried : hx_cal hm_W_tried := ⟨by decide +kernel, cw_W_tried⟩
set_option maxRecDepth 20000 in
theorem mj_W_tried : hx_ms[101]? = some hm_W_tried := rfl
set_option maxRecDepth 100000 in
theorem ok_S_firstBreakDay : hx_okO hm_S_firstBreakDay = true := hq_okO (by decide +kernel)
theorem cw_S_firstBreakDay : Cond.code (hx_y hm_S_firstBreakDay) (hx_b hm_S_firstBreakDay) (hx_L hm_S_firstBreakDay) (hx_ret hm_S_firstBreakDay) ∈ hx_T := hx_T_in (hx_ch_in tables_1_4 (List.mem_of_getElem? (i := 4) rfl) _ (List.mem_of_getElem? (i := 11) rfl)) rfl
set_option maxRecDepth 100000 in
theorem ck_S_firstBreakDay : hx_cal hm_S_firstBreakDay := ⟨by decide +kernel, cw_S_firstBreakDay⟩
set_option maxRecDepth 20000 in
theorem mj_S_firstBreakDay : hx_ms[102]? = some hm_S_firstBreakDay := rfl
set_option maxRecDepth 100000 in
theorem ok_S_firstBreaker : hx_okO hm_S_firstBreaker = true := hq_okO (by decide +kernel)
theorem cw_S_firstBreaker : Cond.code (hx_y hm_S_firstBreaker) (hx_b hm_S_firstBreaker) (hx_L hm_S_firstBreaker) (hx_ret hm_S_firstBreaker) ∈ hx_T := hx_T_in (hx_ch_in tables_1_4 (List.mem_of_getElem? (i := 4) rfl) _ (List.mem_of_getElem? (i := 15) rfl)) rfl
set_option maxRecDepth 100000 in
theorem ck_S_firstBreaker : hx_cal hm_S_firstBreaker := ⟨by decide +kernel, cw_S_firstBreaker⟩
set_option maxRecDepth 20000 in
theorem mj_S_firstBreaker : hx_ms[103]? = some hm_S_firstBreaker := rfl
set_option maxRecDepth 100000 in
theorem ok_S_quartersHad : hx_okO hm_S_quartersHad = true := hq_okO (by decide +kernel)
theorem cw_S_quartersHad : Cond.code (hx_y hm_S_quartersHad) (hx_b hm_S_quartersHad) (hx_L hm_S_quartersHad) (hx_ret hm_S_quartersHad) ∈ hx_T := hx_T_in (hx_ch_in tables_1_4 (List.mem_of_getElem? (i := 4) rfl) _ (List.mem_of_getElem? (i := 19) rfl)) rfl
set_option maxRecDepth 100000 in
theorem ck_S_quartersHad : hx_cal hm_S_quartersHad := ⟨by decide +kernel, cw_S_quartersHad⟩
set_option maxRecDepth 20000 in
theorem mj_S_quartersHad : hx_ms[104]? = some hm_S_quartersHad := rfl
set_option maxRecDepth 100000 in
theorem ok_W_treatyIs : hx_okO hm_W_treatyIs = true := hq_okO (by decide +kernel)
theorem cw_W_treatyIs : Cond.code (hx_y hm_W_treatyIs) (hx_b hm_W_treatyIs) (hx_L hm_W_treatyIs) (hx_ret hm_W_treatyIs) ∈ hx_T := hx_T_in (hx_ch_in tables_1_4 (List.mem_of_getElem? (i := 4) rfl) _ (List.mem_of_getElem? (i := 23) rfl)) rfl
set_option maxRecDepth 100000 in
theorem ck_W_treatyIs : hx_cal hm_W_treatyIs := ⟨by decide +kernel, cw_W_treatyIs⟩
set_option maxRecDepth 20000 in
theorem mj_W_treatyIs : hx_ms[105]? = some hm_W_treatyIs := rfl
set_option maxRecDepth 100000 in
theorem ok_S_treatyCount : hx_okO hm_S_treatyCount = true := hq_okO (by decide +kernel)
theorem cw_S_treatyCount : Cond.code (hx_y hm_S_treatyCount) (hx_b hm_S_treatyCount) (hx_L hm_S_treatyCount) (hx_ret hm_S_treatyCount) ∈ hx_T := hx_T_in (hx_ch_in tables_1_4 (List.mem_of_getElem? (i := 4) rfl) _ (List.mem_of_getElem? (i := 27) rfl)) rfl
set_option maxRecDepth 100000 in
theorem ck_S_treatyCount : hx_cal hm_S_treatyCount := ⟨by decide +kernel, cw_S_treatyCount⟩
set_option maxRecDepth 20000 in
theorem mj_S_treatyCount : hx_ms[106]? = some hm_S_treatyCount := rfl
set_option maxRecDepth 100000 in
theorem ok_W_keep : hx_okO hm_W_keep = true := hq_okO (by decide +kernel)
theorem cw_W_keep : Cond.code (hx_y hm_W_keep) (hx_b hm_W_keep) (hx_L hm_W_keep) (hx_ret hm_W_keep) ∈ hx_T := hx_T_in (hx_ch_in tables_1_4 (List.mem_of_getElem? (i := 4) rfl) _ (List.mem_of_getElem? (i := 32) rfl)) rfl
set_option maxRecDepth 100000 in
theorem ck_W_keep : hx_cal hm_W_keep := ⟨by decide +kernel, cw_W_keep⟩
set_option maxRecDepth 20000 in
theorem mj_W_keep : hx_ms[107]? = some hm_W_keep := rfl
set_option maxRecDepth 100000 in
theorem ok_W_undo : hx_okO hm_W_undo = true := hq_okO (by decide +kernel)
theorem cw_W_undo : Cond.code (hx_y hm_W_undo) (hx_b hm_W_undo) (hx_L hm_W_undo) (hx_ret hm_W_undo) ∈ hx_T := hx_T_in (hx_ch_in tables_1_4 (List.mem_of_getElem? (i := 4) rfl) _ (List.mem_of_getElem? (i := 36) rfl)) rfl
set_option maxRecDepth 100000 in
theorem ck_W_undo : hx_cal hm_W_undo := ⟨by decide +kernel, cw_W_undo⟩
set_option maxRecDepth 20000 in
theorem mj_W_undo : hx_ms[108]? = some hm_W_undo := rfl
set_option maxRecDepth 100000 in
theorem ok_W_check : hx_okO hm_W_check = true := hq_okO (by decide +kernel)
theorem cw_W_check : Cond.code (hx_y hm_W_check) (hx_b hm_W_check) (hx_L hm_W_check) (hx_ret hm_W_check) ∈ hx_T := hx_T_in (hx_ch_in tables_1_4 (List.mem_of_getElem? (i := 4) rfl) _ (List.mem_of_getElem? (i := 40) rfl)) rfl
set_option maxRecDepth 100000 in
theorem ck_W_check : hx_cal hm_W_check := ⟨by decide +kernel, cw_W_check⟩
set_option maxRecDepth 20000 in
theorem mj_W_check : hx_ms[109]? = some hm_W_check := rfl
set_option maxRecDepth 100000 in
theorem ok_T_number : hx_okO hm_T_number = true := hq_okO (by decide +kernel)
theorem cw_T_number : Cond.code (hx_y hm_T_number) (hx_b hm_T_number) (hx_L hm_T_number) (hx_ret hm_T_number) ∈ hx_T := hx_T_in (hx_ch_in tables_1_4 (List.mem_of_getElem? (i := 4) rfl) _ (List.mem_of_getElem? (i := 44) rfl)) rfl
set_option maxRecDepth 100000 in
theorem ck_T_number : hx_cal hm_T_number := ⟨by decide +kernel, cw_T_number⟩
set_option maxRecDepth 20000 in
theorem mj_T_number : hx_ms[110]? = some hm_T_number := rfl
set_option maxRecDepth 100000 in
theorem ok_T_at : hx_okO hm_T_at = true := hq_okO (by decide +kernel)
theorem cw_T_at : Cond.code (hx_y hm_T_at) (hx_b hm_T_at) (hx_L hm_T_at) (hx_ret hm_T_at) ∈ hx_T := hx_T_in (hx_ch_in tables_1_4 (List.mem_of_getElem? (i := 4) rfl) _ (List.mem_of_getElem? (i := 48) rfl)) rfl
set_option maxRecDepth 100000 in
theorem ck_T_at : hx_cal hm_T_at := ⟨by decide +kernel, cw_T_at⟩
set_option maxRecDepth 20000 in
theorem mj_T_at : hx_ms[111]? = some hm_T_at := rfl
set_option maxRecDepth 100000 in
theorem ok_S_ownerOf : hx_okO hm_S_ownerOf = true := hq_okO (by decide +kernel)
theorem cw_S_ownerOf : Cond.code (hx_y hm_S_ownerOf) (hx_b hm_S_ownerOf) (hx_L hm_S_ownerOf) (hx_ret hm_S_ownerOf) ∈ hx_T := hx_T_in (hx_ch_in tables_1_4 (List.mem_of_getElem? (i := 4) rfl) _ (List.mem_of_getElem? (i := 52) rfl)) rfl
set_option maxRecDepth 100000 in
theorem ck_S_ownerOf : hx_cal hm_S_ownerOf := ⟨by decide +kernel, cw_S_ownerOf⟩
set_option maxRecDepth 20000 in
theorem mj_S_ownerOf : hx_ms[112]? = some hm_S_ownerOf := rfl
set_option maxRecDepth 100000 in
theorem ok_W_sees : hx_okO hm_W_sees = true := hq_okO (by decide +kernel)
theorem cw_W_sees : Cond.code (hx_y hm_W_sees) (hx_b hm_W_sees) (hx_L hm_W_sees) (hx_ret hm_W_sees) ∈ hx_T := hx_T_in (hx_ch_in tables_1_4 (List.mem_of_getElem? (i := 4) rfl) _ (List.mem_of_getElem? (i := 56) rfl)) rfl
set_option maxRecDepth 100000 in
theorem ck_W_sees : hx_cal hm_W_sees := ⟨by decide +kernel, cw_W_sees⟩
set_option maxRecDepth 20000 in
theorem mj_W_sees : hx_ms[113]? = some hm_W_sees := rfl
set_option maxRecDepth 100000 in
theorem ok_E_seen : hx_okO hm_E_seen = true := hq_okO (by decide +kernel)
theorem cw_E_seen : Cond.code (hx_y hm_E_seen) (hx_b hm_E_seen) (hx_L hm_E_seen) (hx_ret hm_E_seen) ∈ hx_T := hx_T_in (hx_ch_in tables_1_4 (List.mem_of_getElem? (i := 4) rfl) _ (List.mem_of_getElem? (i := 62) rfl)) rfl
set_option maxRecDepth 100000 in
theorem ck_E_seen : hx_cal hm_E_seen := ⟨by decide +kernel, cw_E_seen⟩
set_option maxRecDepth 20000 in
theorem mj_E_seen : hx_ms[114]? = some hm_E_seen := rfl
set_option maxRecDepth 100000 in
theorem ok_S_had : hx_okO hm_S_had = true := hq_okO (by decide +kernel)
theorem cw_S_had : Cond.code (hx_y hm_S_had) (hx_b hm_S_had) (hx_L hm_S_had) (hx_ret hm_S_had) ∈ hx_T := hx_T_in (hx_ch_in tables_1_4 (List.mem_of_getElem? (i := 4) rfl) _ (List.mem_of_getElem? (i := 66) rfl)) rfl
set_option maxRecDepth 100000 in
theorem ck_S_had : hx_cal hm_S_had := ⟨by decide +kernel, cw_S_had⟩
set_option maxRecDepth 20000 in
theorem mj_S_had : hx_ms[115]? = some hm_S_had := rfl
set_option maxRecDepth 100000 in
theorem ok_E_seenWith : hx_okO hm_E_seenWith = true := hq_okO (by decide +kernel)
theorem cw_E_seenWith : Cond.code (hx_y hm_E_seenWith) (hx_b hm_E_seenWith) (hx_L hm_E_seenWith) (hx_ret hm_E_seenWith) ∈ hx_T := hx_T_in (hx_ch_in tables_1_4 (List.mem_of_getElem? (i := 4) rfl) _ (List.mem_of_getElem? (i := 70) rfl)) rfl
set_option maxRecDepth 100000 in
theorem ck_E_seenWith : hx_cal hm_E_seenWith := ⟨by decide +kernel, cw_E_seenWith⟩
set_option maxRecDepth 20000 in
theorem mj_E_seenWith : hx_ms[116]? = some hm_E_seenWith := rfl
set_option maxRecDepth 100000 in
theorem ok_L_hasKind : hx_okO hm_L_hasKind = true := hq_okO (by decide +kernel)
theorem cw_L_hasKind : Cond.code (hx_y hm_L_hasKind) (hx_b hm_L_hasKind) (hx_L hm_L_hasKind) (hx_ret hm_L_hasKind) ∈ hx_T := hx_T_in (hx_ch_in tables_1_4 (List.mem_of_getElem? (i := 4) rfl) _ (List.mem_of_getElem? (i := 74) rfl)) rfl
set_option maxRecDepth 100000 in
theorem ck_L_hasKind : hx_cal hm_L_hasKind := ⟨by decide +kernel, cw_L_hasKind⟩
set_option maxRecDepth 20000 in
theorem mj_L_hasKind : hx_ms[117]? = some hm_L_hasKind := rfl
set_option maxRecDepth 100000 in
theorem ok_P_first : hx_okO hm_P_first = true := hq_okO (by decide +kernel)
theorem cw_P_first : Cond.code (hx_y hm_P_first) (hx_b hm_P_first) (hx_L hm_P_first) (hx_ret hm_P_first) ∈ hx_T := hx_T_in (hx_ch_in tables_1_4 (List.mem_of_getElem? (i := 4) rfl) _ (List.mem_of_getElem? (i := 79) rfl)) rfl
set_option maxRecDepth 100000 in
theorem ck_P_first : hx_cal hm_P_first := ⟨by decide +kernel, cw_P_first⟩
set_option maxRecDepth 20000 in
theorem mj_P_first : hx_ms[118]? = some hm_P_first := rfl
set_option maxRecDepth 100000 in
theorem ok_P_second : hx_okO hm_P_second = true := hq_okO (by decide +kernel)
theorem cw_P_second : Cond.code (hx_y hm_P_second) (hx_b hm_P_second) (hx_L hm_P_second) (hx_ret hm_P_second) ∈ hx_T := hx_T_in (hx_ch_in tables_1_4 (List.mem_of_getElem? (i := 4) rfl) _ (List.mem_of_getElem? (i := 84) rfl)) rfl
set_option maxRecDepth 100000 in
theorem ck_P_second : hx_cal hm_P_second := ⟨by decide +kernel, cw_P_second⟩
set_option maxRecDepth 20000 in
theorem mj_P_second : hx_ms[119]? = some hm_P_second := rfl
set_option maxRecDepth 100000 in
theorem ok_S_day : hx_okO hm_S_day = true := hq_okO (by decide +kernel)
theorem cw_S_day : Cond.code (hx_y hm_S_day) (hx_b hm_S_day) (hx_L hm_S_day) (hx_ret hm_S_day) ∈ hx_T := hx_T_in (hx_ch_in tables_1_4 (List.mem_of_getElem? (i := 4) rfl) _ (List.mem_of_getElem? (i := 88) rfl)) rfl
set_option maxRecDepth 100000 in
theorem ck_S_day : hx_cal hm_S_day := ⟨by decide +kernel, cw_S_day⟩
set_option maxRecDepth 20000 in
theorem mj_S_day : hx_ms[120]? = some hm_S_day := rfl
set_option maxRecDepth 100000 in
theorem ok_L_holds : hx_okO hm_L_holds = true := hq_okO (by decide +kernel)
theorem cw_L_holds : Cond.code (hx_y hm_L_holds) (hx_b hm_L_holds) (hx_L hm_L_holds) (hx_ret hm_L_holds) ∈ hx_T := hx_T_in (hx_ch_in tables_1_4 (List.mem_of_getElem? (i := 4) rfl) _ (List.mem_of_getElem? (i := 94) rfl)) rfl
set_option maxRecDepth 100000 in
theorem ck_L_holds : hx_cal hm_L_holds := ⟨by decide +kernel, cw_L_holds⟩
set_option maxRecDepth 20000 in
theorem mj_L_holds : hx_ms[121]? = some hm_L_holds := rfl
set_option maxRecDepth 100000 in
theorem ok_W_appears : hx_okO hm_W_appears = true := hq_okO (by decide +kernel)
theorem cw_W_appears : Cond.code (hx_y hm_W_appears) (hx_b hm_W_appears) (hx_L hm_W_appears) (hx_ret hm_W_appears) ∈ hx_T := hx_T_in (hx_ch_in tables_1_4 (List.mem_of_getElem? (i := 4) rfl) _ (List.mem_of_getElem? (i := 99) rfl)) rfl
set_option maxRecDepth 100000 in
theorem ck_W_appears : hx_cal hm_W_appears := ⟨by decide +kernel, cw_W_appears⟩
set_option maxRecDepth 20000 in
theorem mj_W_appears : hx_ms[122]? = some hm_W_appears := rfl
set_option maxRecDepth 100000 in
theorem ok_E_look : hx_okO hm_E_look = true := hq_okO (by decide +kernel)
theorem cw_E_look : Cond.code (hx_y hm_E_look) (hx_b hm_E_look) (hx_L hm_E_look) (hx_ret hm_E_look) ∈ hx_T := hx_T_in (hx_ch_in tables_1_4 (List.mem_of_getElem? (i := 4) rfl) _ (List.mem_of_getElem? (i := 103) rfl)) rfl
set_option maxRecDepth 100000 in
theorem ck_E_look : hx_cal hm_E_look := ⟨by decide +kernel, cw_E_look⟩
set_option maxRecDepth 20000 in
theorem mj_E_look : hx_ms[123]? = some hm_E_look := rfl
set_option maxRecDepth 100000 in
theorem ok_E_looks : hx_okO hm_E_looks = true := hq_okO (by decide +kernel)
theorem cw_E_looks : Cond.code (hx_y hm_E_looks) (hx_b hm_E_looks) (hx_L hm_E_looks) (hx_ret hm_E_looks) ∈ hx_T := hx_T_in (hx_ch_in tables_1_4 (List.mem_of_getElem? (i := 4) rfl) _ (List.mem_of_getElem? (i := 107) rfl)) rfl
set_option maxRecDepth 100000 in
theorem ck_E_looks : hx_cal hm_E_looks := ⟨by decide +kernel, cw_E_looks⟩
set_option maxRecDepth 20000 in
theorem mj_E_looks : hx_ms[124]? = some hm_E_looks := rfl
set_option maxRecDepth 100000 in
theorem ok_W_child : hx_okO hm_W_child = true := hq_okO (by decide +kernel)
theorem cw_W_child : Cond.code (hx_y hm_W_child) (hx_b hm_W_child) (hx_L hm_W_child) (hx_ret hm_W_child) ∈ hx_T := hx_T_in (hx_ch_in tables_1_4 (List.mem_of_getElem? (i := 4) rfl) _ (List.mem_of_getElem? (i := 113) rfl)) rfl
set_option maxRecDepth 100000 in
theorem ck_W_child : hx_cal hm_W_child := ⟨by decide +kernel, cw_W_child⟩
set_option maxRecDepth 20000 in
theorem mj_W_child : hx_ms[125]? = some hm_W_child := rfl
set_option maxRecDepth 100000 in
theorem ok_E_childSees : hx_okO hm_E_childSees = true := hq_okO (by decide +kernel)
theorem cw_E_childSees : Cond.code (hx_y hm_E_childSees) (hx_b hm_E_childSees) (hx_L hm_E_childSees) (hx_ret hm_E_childSees) ∈ hx_T := hx_T_in (hx_ch_in tables_1_4 (List.mem_of_getElem? (i := 4) rfl) _ (List.mem_of_getElem? (i := 117) rfl)) rfl
set_option maxRecDepth 100000 in
theorem ck_E_childSees : hx_cal hm_E_childSees := ⟨by decide +kernel, cw_E_childSees⟩
set_option maxRecDepth 20000 in
theorem mj_E_childSees : hx_ms[126]? = some hm_E_childSees := rfl
set_option maxRecDepth 100000 in
theorem ok_W_unseen : hx_okO hm_W_unseen = true := hq_okO (by decide +kernel)
theorem cw_W_unseen : Cond.code (hx_y hm_W_unseen) (hx_b hm_W_unseen) (hx_L hm_W_unseen) (hx_ret hm_W_unseen) ∈ hx_T := hx_T_in (hx_ch_in tables_1_4 (List.mem_of_getElem? (i := 4) rfl) _ (List.mem_of_getElem? (i := 124) rfl)) rfl
set_option maxRecDepth 100000 in
theorem ck_W_unseen : hx_cal hm_W_unseen := ⟨by decide +kernel, cw_W_unseen⟩
set_option maxRecDepth 20000 in
theorem mj_W_unseen : hx_ms[127]? = some hm_W_unseen := rfl
set_option maxRecDepth 100000 in
theorem ok_W_isHidden : hx_okO hm_W_isHidden = true := hq_okO (by decide +kernel)
theorem cw_W_isHidden : Cond.code (hx_y hm_W_isHidden) (hx_b hm_W_isHidden) (hx_L hm_W_isHidden) (hx_ret hm_W_isHidden) ∈ hx_T := hx_T_in (hx_ch_in tables_1_4 (List.mem_of_getElem? (i := 4) rfl) _ (List.mem_of_getElem? (i := 128) rfl)) rfl
set_option maxRecDepth 100000 in
theorem ck_W_isHidden : hx_cal hm_W_isHidden := ⟨by decide +kernel, cw_W_isHidden⟩
set_option maxRecDepth 20000 in
theorem mj_W_isHidden : hx_ms[128]? = some hm_W_isHidden := rfl
set_option maxRecDepth 100000 in
theorem ok_G_at : hx_okO hm_G_at = true := hq_okO (by decide +kernel)
theorem cw_G_at : Cond.code (hx_y hm_G_at) (hx_b hm_G_at) (hx_L hm_G_at) (hx_ret hm_G_at) ∈ hx_T := hx_T_in (hx_ch_in tables_1_4 (List.mem_of_getElem? (i := 4) rfl) _ (List.mem_of_getElem? (i := 132) rfl)) rfl
set_option maxRecDepth 100000 in
theorem ck_G_at : hx_cal hm_G_at := ⟨by decide +kernel, cw_G_at⟩
set_option maxRecDepth 20000 in
theorem mj_G_at : hx_ms[129]? = some hm_G_at := rfl
set_option maxRecDepth 100000 in
theorem ok_W_way : hx_okO hm_W_way = true := hq_okO (by decide +kernel)
theorem cw_W_way : Cond.code (hx_y hm_W_way) (hx_b hm_W_way) (hx_L hm_W_way) (hx_ret hm_W_way) ∈ hx_T := hx_T_in (hx_ch_in tables_1_4 (List.mem_of_getElem? (i := 4) rfl) _ (List.mem_of_getElem? (i := 137) rfl)) rfl
set_option maxRecDepth 100000 in
theorem ck_W_way : hx_cal hm_W_way := ⟨by decide +kernel, cw_W_way⟩
set_option maxRecDepth 20000 in
theorem mj_W_way : hx_ms[130]? = some hm_W_way := rfl
set_option maxRecDepth 100000 in
theorem ok_A_mark : hx_okO hm_A_mark = true := hq_okO (by decide +kernel)
theorem cw_A_mark : Cond.code (hx_y hm_A_mark) (hx_b hm_A_mark) (hx_L hm_A_mark) (hx_ret hm_A_mark) ∈ hx_T := hx_T_in (hx_ch_in tables_1_4 (List.mem_of_getElem? (i := 4) rfl) _ (List.mem_of_getElem? (i := 141) rfl)) rfl
set_option maxRecDepth 100000 in
theorem ck_A_mark : hx_cal hm_A_mark := ⟨by decide +kernel, cw_A_mark⟩
set_option maxRecDepth 20000 in
theorem mj_A_mark : hx_ms[131]? = some hm_A_mark := rfl
set_option maxRecDepth 100000 in
theorem ok_A_search : hx_okO hm_A_search = true := hq_okO (by decide +kernel)
theorem cw_A_search : Cond.code (hx_y hm_A_search) (hx_b hm_A_search) (hx_L hm_A_search) (hx_ret hm_A_search) ∈ hx_T := hx_T_in (hx_ch_in tables_1_4 (List.mem_of_getElem? (i := 4) rfl) _ (List.mem_of_getElem? (i := 146) rfl)) rfl
set_option maxRecDepth 100000 in
theorem ck_A_search : hx_cal hm_A_search := ⟨by decide +kernel, cw_A_search⟩
set_option maxRecDepth 20000 in
theorem mj_A_search : hx_ms[132]? = some hm_A_search := rfl
set_option maxRecDepth 100000 in
theorem ok_A_forget : hx_okO hm_A_forget = true := hq_okO (by decide +kernel)
theorem cw_A_forget : Cond.code (hx_y hm_A_forget) (hx_b hm_A_forget) (hx_L hm_A_forget) (hx_ret hm_A_forget) ∈ hx_T := hx_T_in (hx_ch_in tables_1_4 (List.mem_of_getElem? (i := 4) rfl) _ (List.mem_of_getElem? (i := 150) rfl)) rfl
set_option maxRecDepth 100000 in
theorem ck_A_forget : hx_cal hm_A_forget := ⟨by decide +kernel, cw_A_forget⟩
set_option maxRecDepth 20000 in
theorem mj_A_forget : hx_ms[133]? = some hm_A_forget := rfl
set_option maxRecDepth 100000 in
theorem ok_A_nearest : hx_okO hm_A_nearest = true := hq_okO (by decide +kernel)
theorem cw_A_nearest : Cond.code (hx_y hm_A_nearest) (hx_b hm_A_nearest) (hx_L hm_A_nearest) (hx_ret hm_A_nearest) ∈ hx_T := hx_T_in (hx_ch_in tables_1_4 (List.mem_of_getElem? (i := 4) rfl) _ (List.mem_of_getElem? (i := 155) rfl)) rfl
set_option maxRecDepth 100000 in
theorem ck_A_nearest : hx_cal hm_A_nearest := ⟨by decide +kernel, cw_A_nearest⟩
set_option maxRecDepth 20000 in
theorem mj_A_nearest : hx_ms[134]? = some hm_A_nearest := rfl
set_option maxRecDepth 100000 in
theorem ok_A_leave : hx_okO hm_A_leave = true := hq_okO (by decide +kernel)
theorem cw_A_leave : Cond.code (hx_y hm_A_leave) (hx_b hm_A_leave) (hx_L hm_A_leave) (hx_ret hm_A_leave) ∈ hx_T := hx_T_in (hx_ch_in tables_1_4 (List.mem_of_getElem? (i := 4) rfl) _ (List.mem_of_getElem? (i := 159) rfl)) rfl
set_option maxRecDepth 100000 in
theorem ck_A_leave : hx_cal hm_A_leave := ⟨by decide +kernel, cw_A_leave⟩
set_option maxRecDepth 20000 in
theorem mj_A_leave : hx_ms[135]? = some hm_A_leave := rfl
set_option maxRecDepth 100000 in
theorem ok_A_beside : hx_okO hm_A_beside = true := hq_okO (by decide +kernel)
theorem cw_A_beside : Cond.code (hx_y hm_A_beside) (hx_b hm_A_beside) (hx_L hm_A_beside) (hx_ret hm_A_beside) ∈ hx_T := hx_T_in (hx_ch_in tables_1_4 (List.mem_of_getElem? (i := 4) rfl) _ (List.mem_of_getElem? (i := 162) rfl)) rfl
set_option maxRecDepth 100000 in
theorem ck_A_beside : hx_cal hm_A_beside := ⟨by decide +kernel, cw_A_beside⟩
set_option maxRecDepth 20000 in
theorem mj_A_beside : hx_ms[136]? = some hm_A_beside := rfl
set_option maxRecDepth 100000 in
theorem ok_A_watchedTo : hx_okO hm_A_watchedTo = true := hq_okO (by decide +kernel)
theorem cw_A_watchedTo : Cond.code (hx_y hm_A_watchedTo) (hx_b hm_A_watchedTo) (hx_L hm_A_watchedTo) (hx_ret hm_A_watchedTo) ∈ hx_T := hx_T_in (hx_ch_in tables_1_4 (List.mem_of_getElem? (i := 4) rfl) _ (List.mem_of_getElem? (i := 167) rfl)) rfl
set_option maxRecDepth 100000 in
theorem ck_A_watchedTo : hx_cal hm_A_watchedTo := ⟨by decide +kernel, cw_A_watchedTo⟩
set_option maxRecDepth 20000 in
theorem mj_A_watchedTo : hx_ms[137]? = some hm_A_watchedTo := rfl
set_option maxRecDepth 100000 in
theorem ok_A_stepsTo : hx_okO hm_A_stepsTo = true := hq_okO (by decide +kernel)
theorem cw_A_stepsTo : Cond.code (hx_y hm_A_stepsTo) (hx_b hm_A_stepsTo) (hx_L hm_A_stepsTo) (hx_ret hm_A_stepsTo) ∈ hx_T := hx_T_in (hx_ch_in tables_1_4 (List.mem_of_getElem? (i := 4) rfl) _ (List.mem_of_getElem? (i := 171) rfl)) rfl
set_option maxRecDepth 100000 in
theorem ck_A_stepsTo : hx_cal hm_A_stepsTo := ⟨by decide +kernel, cw_A_stepsTo⟩
set_option maxRecDepth 20000 in
theorem mj_A_stepsTo : hx_ms[138]? = some hm_A_stepsTo := rfl
set_option maxRecDepth 100000 in
theorem ok_W_painting : hx_okO hm_W_painting = true := hq_okO (by decide +kernel)
theorem cw_W_painting : Cond.code (hx_y hm_W_painting) (hx_b hm_W_painting) (hx_L hm_W_painting) (hx_ret hm_W_painting) ∈ hx_T := hx_T_in (hx_ch_in tables_1_4 (List.mem_of_getElem? (i := 4) rfl) _ (List.mem_of_getElem? (i := 175) rfl)) rfl
set_option maxRecDepth 100000 in
theorem ck_W_painting : hx_cal hm_W_painting := ⟨by decide +kernel, cw_W_painting⟩
set_option maxRecDepth 20000 in
theorem mj_W_painting : hx_ms[139]? = some hm_W_painting := rfl
set_option maxRecDepth 100000 in
theorem ok_P_areTold : hx_okO hm_P_areTold = true := hq_okO (by decide +kernel)
theorem cw_P_areTold : Cond.code (hx_y hm_P_areTold) (hx_b hm_P_areTold) (hx_L hm_P_areTold) (hx_ret hm_P_areTold) ∈ hx_T := hx_T_in (hx_ch_in tables_1_4 (List.mem_of_getElem? (i := 4) rfl) _ (List.mem_of_getElem? (i := 179) rfl)) rfl
set_option maxRecDepth 100000 in
theorem ck_P_areTold : hx_cal hm_P_areTold := ⟨by decide +kernel, cw_P_areTold⟩
set_option maxRecDepth 20000 in
theorem mj_P_areTold : hx_ms[140]? = some hm_P_areTold := rfl
set_option maxRecDepth 100000 in
theorem ok_W_ash : hx_okO hm_W_ash = true := hq_okO (by decide +kernel)
theorem cw_W_ash : Cond.code (hx_y hm_W_ash) (hx_b hm_W_ash) (hx_L hm_W_ash) (hx_ret hm_W_ash) ∈ hx_T := hx_T_in (hx_ch_in tables_1_4 (List.mem_of_getElem? (i := 4) rfl) _ (List.mem_of_getElem? (i := 183) rfl)) rfl
set_option maxRecDepth 100000 in
theorem ck_W_ash : hx_cal hm_W_ash := ⟨by decide +kernel, cw_W_ash⟩
set_option maxRecDepth 20000 in
theorem mj_W_ash : hx_ms[141]? = some hm_W_ash := rfl
set_option maxRecDepth 100000 in
theorem ok_A_findSeas : hx_okO hm_A_findSeas = true := hq_okO (by decide +kernel)
theorem cw_A_findSeas : Cond.code (hx_y hm_A_findSeas) (hx_b hm_A_findSeas) (hx_L hm_A_findSeas) (hx_ret hm_A_findSeas) ∈ hx_T := hx_T_in (hx_ch_in tables_1_4 (List.mem_of_getElem? (i := 4) rfl) _ (List.mem_of_getElem? (i := 187) rfl)) rfl
set_option maxRecDepth 100000 in
theorem ck_A_findSeas : hx_cal hm_A_findSeas := ⟨by decide +kernel, cw_A_findSeas⟩
set_option maxRecDepth 20000 in
theorem mj_A_findSeas : hx_ms[142]? = some hm_A_findSeas := rfl
set_option maxRecDepth 100000 in
theorem ok_A_fill : hx_okO hm_A_fill = true := hq_okO (by decide +kernel)
theorem cw_A_fill : Cond.code (hx_y hm_A_fill) (hx_b hm_A_fill) (hx_L hm_A_fill) (hx_ret hm_A_fill) ∈ hx_T := hx_T_in (hx_ch_in tables_1_4 (List.mem_of_getElem? (i := 4) rfl) _ (List.mem_of_getElem? (i := 191) rfl)) rfl
set_option maxRecDepth 100000 in
theorem ck_A_fill : hx_cal hm_A_fill := ⟨by decide +kernel, cw_A_fill⟩
set_option maxRecDepth 20000 in
theorem mj_A_fill : hx_ms[143]? = some hm_A_fill := rfl
set_option maxRecDepth 100000 in
theorem ok_A_push : hx_okO hm_A_push = true := hq_okO (by decide +kernel)
theorem cw_A_push : Cond.code (hx_y hm_A_push) (hx_b hm_A_push) (hx_L hm_A_push) (hx_ret hm_A_push) ∈ hx_T := hx_T_in (hx_ch_in tables_1_4 (List.mem_of_getElem? (i := 4) rfl) _ (List.mem_of_getElem? (i := 195) rfl)) rfl
set_option maxRecDepth 100000 in
theorem ck_A_push : hx_cal hm_A_push := ⟨by decide +kernel, cw_A_push⟩
set_option maxRecDepth 20000 in
theorem mj_A_push : hx_ms[144]? = some hm_A_push := rfl
set_option maxRecDepth 100000 in
theorem ok_A_largestSea : hx_okO hm_A_largestSea = true := hq_okO (by decide +kernel)
theorem cw_A_largestSea : Cond.code (hx_y hm_A_largestSea) (hx_b hm_A_largestSea) (hx_L hm_A_largestSea) (hx_ret hm_A_largestSea) ∈ hx_T := hx_T_in (hx_ch_in tables_1_4 (List.mem_of_getElem? (i := 4) rfl) _ (List.mem_of_getElem? (i := 200) rfl)) rfl
set_option maxRecDepth 100000 in
theorem ck_A_largestSea : hx_cal hm_A_largestSea := ⟨by decide +kernel, cw_A_largestSea⟩
set_option maxRecDepth 20000 in
theorem mj_A_largestSea : hx_ms[145]? = some hm_A_largestSea := rfl
set_option maxRecDepth 100000 in
theorem ok_A_seas : hx_okO hm_A_seas = true := hq_okO (by decide +kernel)
theorem cw_A_seas : Cond.code (hx_y hm_A_seas) (hx_b hm_A_seas) (hx_L hm_A_seas) (hx_ret hm_A_seas) ∈ hx_T := hx_T_in (hx_ch_in tables_1_4 (List.mem_of_getElem? (i := 4) rfl) _ (List.mem_of_getElem? (i := 204) rfl)) rfl
set_option maxRecDepth 100000 in
theorem ck_A_seas : hx_cal hm_A_seas := ⟨by decide +kernel, cw_A_seas⟩
set_option maxRecDepth 20000 in
theorem mj_A_seas : hx_ms[146]? = some hm_A_seas := rfl
set_option maxRecDepth 100000 in
theorem ok_W_worth : hx_okO hm_W_worth = true := hq_okO (by decide +kernel)
theorem cw_W_worth : Cond.code (hx_y hm_W_worth) (hx_b hm_W_worth) (hx_L hm_W_worth) (hx_ret hm_W_worth) ∈ hx_T := hx_T_in (hx_ch_in tables_1_4 (List.mem_of_getElem? (i := 4) rfl) _ (List.mem_of_getElem? (i := 208) rfl)) rfl
set_option maxRecDepth 100000 in
theorem ck_W_worth : hx_cal hm_W_worth := ⟨by decide +kernel, cw_W_worth⟩
set_option maxRecDepth 20000 in
theorem mj_W_worth : hx_ms[147]? = some hm_W_worth := rfl
set_option maxRecDepth 100000 in
theorem ok_U_worthTo : hx_okO hm_U_worthTo = true := hq_okO (by decide +kernel)
theorem cw_U_worthTo : Cond.code (hx_y hm_U_worthTo) (hx_b hm_U_worthTo) (hx_L hm_U_worthTo) (hx_ret hm_U_worthTo) ∈ hx_T := hx_T_in (hx_ch_in tables_1_4 (List.mem_of_getElem? (i := 4) rfl) _ (List.mem_of_getElem? (i := 212) rfl)) rfl
set_option maxRecDepth 100000 in
theorem ck_U_worthTo : hx_cal hm_U_worthTo := ⟨by decide +kernel, cw_U_worthTo⟩
set_option maxRecDepth 20000 in
theorem mj_U_worthTo : hx_ms[148]? = some hm_U_worthTo := rfl
set_option maxRecDepth 100000 in
theorem ok_U_price : hx_okO hm_U_price = true := hq_okO (by decide +kernel)
theorem cw_U_price : Cond.code (hx_y hm_U_price) (hx_b hm_U_price) (hx_L hm_U_price) (hx_ret hm_U_price) ∈ hx_T := hx_T_in (hx_ch_in tables_1_4 (List.mem_of_getElem? (i := 4) rfl) _ (List.mem_of_getElem? (i := 216) rfl)) rfl
set_option maxRecDepth 100000 in
theorem ck_U_price : hx_cal hm_U_price := ⟨by decide +kernel, cw_U_price⟩
set_option maxRecDepth 20000 in
theorem mj_U_price : hx_ms[149]? = some hm_U_price := rfl
set_option maxRecDepth 100000 in
theorem ok_U_fieldsOf : hx_okO hm_U_fieldsOf = true := hq_okO (by decide +kernel)
theorem cw_U_fieldsOf : Cond.code (hx_y hm_U_fieldsOf) (hx_b hm_U_fieldsOf) (hx_L hm_U_fieldsOf) (hx_ret hm_U_fieldsOf) ∈ hx_T := hx_T_in (hx_ch_in tables_1_4 (List.mem_of_getElem? (i := 4) rfl) _ (List.mem_of_getElem? (i := 220) rfl)) rfl
set_option maxRecDepth 100000 in
theorem ck_U_fieldsOf : hx_cal hm_U_fieldsOf := ⟨by decide +kernel, cw_U_fieldsOf⟩
set_option maxRecDepth 20000 in
theorem mj_U_fieldsOf : hx_ms[150]? = some hm_U_fieldsOf := rfl
set_option maxRecDepth 100000 in
theorem ok_U_priceOf : hx_okO hm_U_priceOf = true := hq_okO (by decide +kernel)
theorem cw_U_priceOf : Cond.code (hx_y hm_U_priceOf) (hx_b hm_U_priceOf) (hx_L hm_U_priceOf) (hx_ret hm_U_priceOf) ∈ hx_T := hx_T_in (hx_ch_in tables_1_4 (List.mem_of_getElem? (i := 4) rfl) _ (List.mem_of_getElem? (i := 229) rfl)) rfl
set_option maxRecDepth 100000 in
theorem ck_U_priceOf : hx_cal hm_U_priceOf := ⟨by decide +kernel, cw_U_priceOf⟩
set_option maxRecDepth 20000 in
theorem mj_U_priceOf : hx_ms[151]? = some hm_U_priceOf := rfl
set_option maxRecDepth 100000 in
theorem ok_U_worthWith : hx_okO hm_U_worthWith = true := hq_okO (by decide +kernel)
theorem cw_U_worthWith : Cond.code (hx_y hm_U_worthWith) (hx_b hm_U_worthWith) (hx_L hm_U_worthWith) (hx_ret hm_U_worthWith) ∈ hx_T := hx_T_in (hx_ch_in tables_1_4 (List.mem_of_getElem? (i := 4) rfl) _ (List.mem_of_getElem? (i := 239) rfl)) rfl
set_option maxRecDepth 100000 in
theorem ck_U_worthWith : hx_cal hm_U_worthWith := ⟨by decide +kernel, cw_U_worthWith⟩
set_option maxRecDepth 20000 in
theorem mj_U_worthWith : hx_ms[152]? = some hm_U_worthWith := rfl
set_option maxRecDepth 100000 in
theorem ok_W_gain : hx_okO hm_W_gain = true := hq_okO (by decide +kernel)
theorem cw_W_gain : Cond.code (hx_y hm_W_gain) (hx_b hm_W_gain) (hx_L hm_W_gain) (hx_ret hm_W_gain) ∈ hx_T := hx_T_in (hx_ch_in tables_1_5 (List.mem_of_getElem? (i := 5) rfl) _ (List.mem_of_getElem? (i := 4) rfl)) rfl
set_option maxRecDepth 100000 in
theorem ck_W_gain : hx_cal hm_W_gain := ⟨by decide +kernel, cw_W_gain⟩
set_option maxRecDepth 20000 in
theorem mj_W_gain : hx_ms[153]? = some hm_W_gain := rfl
set_option maxRecDepth 100000 in
theorem ok_W_power : hx_okO hm_W_power = true := hq_okO (by decide +kernel)
theorem cw_W_power : Cond.code (hx_y hm_W_power) (hx_b hm_W_power) (hx_L hm_W_power) (hx_ret hm_W_power) ∈ hx_T := hx_T_in (hx_ch_in tables_1_5 (List.mem_of_getElem? (i := 5) rfl) _ (List.mem_of_getElem? (i := 10) rfl)) rfl
set_option maxRecDepth 100000 in
theorem ck_W_power : hx_cal hm_W_power := ⟨by decide +kernel, cw_W_power⟩
set_option maxRecDepth 20000 in
theorem mj_W_power : hx_ms[154]? = some hm_W_power := rfl
set_option maxRecDepth 100000 in
theorem ok_P_arePlain : hx_okO hm_P_arePlain = true := hq_okO (by decide +kernel)
theorem cw_P_arePlain : Cond.code (hx_y hm_P_arePlain) (hx_b hm_P_arePlain) (hx_L hm_P_arePlain) (hx_ret hm_P_arePlain) ∈ hx_T := hx_T_in (hx_ch_in tables_1_5 (List.mem_of_getElem? (i := 5) rfl) _ (List.mem_of_getElem? (i := 15) rfl)) rfl
set_option maxRecDepth 100000 in
theorem ck_P_arePlain : hx_cal hm_P_arePlain := ⟨by decide +kernel, cw_P_arePlain⟩
set_option maxRecDepth 20000 in
theorem mj_P_arePlain : hx_ms[155]? = some hm_P_arePlain := rfl
set_option maxRecDepth 100000 in
theorem ok_U_addedBy : hx_okO hm_U_addedBy = true := hq_okO (by decide +kernel)
theorem cw_U_addedBy : Cond.code (hx_y hm_U_addedBy) (hx_b hm_U_addedBy) (hx_L hm_U_addedBy) (hx_ret hm_U_addedBy) ∈ hx_T := hx_T_in (hx_ch_in tables_1_5 (List.mem_of_getElem? (i := 5) rfl) _ (List.mem_of_getElem? (i := 19) rfl)) rfl
set_option maxRecDepth 100000 in
theorem ck_U_addedBy : hx_cal hm_U_addedBy := ⟨by decide +kernel, cw_U_addedBy⟩
set_option maxRecDepth 20000 in
theorem mj_U_addedBy : hx_ms[156]? = some hm_U_addedBy := rfl
set_option maxRecDepth 100000 in
theorem ok_U_orders : hx_okO hm_U_orders = true := hq_okO (by decide +kernel)
theorem cw_U_orders : Cond.code (hx_y hm_U_orders) (hx_b hm_U_orders) (hx_L hm_U_orders) (hx_ret hm_U_orders) ∈ hx_T := hx_T_in (hx_ch_in tables_1_5 (List.mem_of_getElem? (i := 5) rfl) _ (List.mem_of_getElem? (i := 22) rfl)) rfl
set_option maxRecDepth 100000 in
theorem ck_U_orders : hx_cal hm_U_orders := ⟨by decide +kernel, cw_U_orders⟩
set_option maxRecDepth 20000 in
theorem mj_U_orders : hx_ms[157]? = some hm_U_orders := rfl
set_option maxRecDepth 100000 in
theorem ok_W_commonDivisor : hx_okO hm_W_commonDivisor = true := hq_okO (by decide +kernel)
theorem cw_W_commonDivisor : Cond.code (hx_y hm_W_commonDivisor) (hx_b hm_W_commonDivisor) (hx_L hm_W_commonDivisor) (hx_ret hm_W_commonDivisor) ∈ hx_T := hx_T_in (hx_ch_in tables_1_5 (List.mem_of_getElem? (i := 5) rfl) _ (List.mem_of_getElem? (i := 32) rfl)) rfl
set_option maxRecDepth 100000 in
theorem ck_W_commonDivisor : hx_cal hm_W_commonDivisor := ⟨by decide +kernel, cw_W_commonDivisor⟩
set_option maxRecDepth 20000 in
theorem mj_W_commonDivisor : hx_ms[158]? = some hm_W_commonDivisor := rfl
set_option maxRecDepth 100000 in
theorem ok_W_battle : hx_okO hm_W_battle = true := hq_okO (by decide +kernel)
theorem cw_W_battle : Cond.code (hx_y hm_W_battle) (hx_b hm_W_battle) (hx_L hm_W_battle) (hx_ret hm_W_battle) ∈ hx_T := hx_T_in (hx_ch_in tables_1_5 (List.mem_of_getElem? (i := 5) rfl) _ (List.mem_of_getElem? (i := 36) rfl)) rfl
set_option maxRecDepth 100000 in
theorem ck_W_battle : hx_cal hm_W_battle := ⟨by decide +kernel, cw_W_battle⟩
set_option maxRecDepth 20000 in
theorem mj_W_battle : hx_ms[159]? = some hm_W_battle := rfl
end
section
set_option maxRecDepth 100000 in
theorem ok_D_fight : hx_okO hm_D_fight = true := hq_okO (by decide +kernel)
theorem cw_D_fight : Cond.code (hx_y hm_D_fight) (hx_b hm_D_fight) (hx_L hm_D_fight) (hx_ret hm_D_fight) ∈ hx_T := hx_T_in (hx_ch_in tables_1_5 (List.mem_of_getElem? (i := 5) rfl) _ (List.mem_of_getElem? (i := 40) rfl)) rfl
set_option maxRecDepth 100000 in
theorem ck_D_fight : hx_cal hm_D_fight := ⟨by decide +kernel, cw_D_fight⟩
set_option maxRecDepth 20000 in
theorem mj_D_fight : hx_ms[160]? = some hm_D_fight := rfl
set_option maxRecDepth 100000 in
theorem ok_D_isChosen : hx_okO hm_D_isChosen = true := hq_okO (by decide +kernel)
theorem cw_D_isChosen : Cond.code (hx_y hm_D_isChosen) (hx_b hm_D_isChosen) (hx_L hm_D_isChosen) (hx_ret hm_D_isChosen) ∈ hx_T := hx_T_in (hx_ch_in tables_1_5 (List.mem_of_getElem? (i := 5) rfl) _ (List.mem_of_getElem? (i := 46) rfl)) rfl
set_option maxRecDepth 100000 in
theorem ck_D_isChosen : hx_cal hm_D_isChosen := ⟨by decide +kernel, cw_D_isChosen⟩
set_option maxRecDepth 20000 in
theorem mj_D_isChosen : hx_ms[161]? = some hm_D_isChosen := rfl
set_option maxRecDepth 100000 in
theorem ok_D_taken : hx_okO hm_D_taken = true := hq_okO (by decide +kernel)
theorem cw_D_taken : Cond.code (hx_y hm_D_taken) (hx_b hm_D_taken) (hx_L hm_D_taken) (hx_ret hm_D_taken) ∈ hx_T := hx_T_in (hx_ch_in tables_1_5 (List.mem_of_getElem? (i := 5) rfl) _ (List.mem_of_getElem? (i := 49) rfl)) rfl
set_option maxRecDepth 100000 in
theorem ck_D_taken : hx_cal hm_D_taken := ⟨by decide +kernel, cw_D_taken⟩
set_option maxRecDepth 20000 in
theorem mj_D_taken : hx_ms[162]? = some hm_D_taken := rfl
set_option maxRecDepth 100000 in
theorem ok_D_lost : hx_okO hm_D_lost = true := hq_okO (by decide +kernel)
theorem cw_D_lost : Cond.code (hx_y hm_D_lost) (hx_b hm_D_lost) (hx_L hm_D_lost) (hx_ret hm_D_lost) ∈ hx_T := hx_T_in (hx_ch_in tables_1_5 (List.mem_of_getElem? (i := 5) rfl) _ (List.mem_of_getElem? (i := 52) rfl)) rfl
set_option maxRecDepth 100000 in
theorem ck_D_lost : hx_cal hm_D_lost := ⟨by decide +kernel, cw_D_lost⟩
set_option maxRecDepth 20000 in
theorem mj_D_lost : hx_ms[163]? = some hm_D_lost := rfl
set_option maxRecDepth 100000 in
theorem ok_D_findTwos : hx_okO hm_D_findTwos = true := hq_okO (by decide +kernel)
theorem cw_D_findTwos : Cond.code (hx_y hm_D_findTwos) (hx_b hm_D_findTwos) (hx_L hm_D_findTwos) (hx_ret hm_D_findTwos) ∈ hx_T := hx_T_in (hx_ch_in tables_1_5 (List.mem_of_getElem? (i := 5) rfl) _ (List.mem_of_getElem? (i := 57) rfl)) rfl
set_option maxRecDepth 100000 in
theorem ck_D_findTwos : hx_cal hm_D_findTwos := ⟨by decide +kernel, cw_D_findTwos⟩
set_option maxRecDepth 20000 in
theorem mj_D_findTwos : hx_ms[164]? = some hm_D_findTwos := rfl
set_option maxRecDepth 100000 in
theorem ok_D_isBestOfA : hx_okO hm_D_isBestOfA = true := hq_okO (by decide +kernel)
theorem cw_D_isBestOfA : Cond.code (hx_y hm_D_isBestOfA) (hx_b hm_D_isBestOfA) (hx_L hm_D_isBestOfA) (hx_ret hm_D_isBestOfA) ∈ hx_T := hx_T_in (hx_ch_in tables_1_5 (List.mem_of_getElem? (i := 5) rfl) _ (List.mem_of_getElem? (i := 61) rfl)) rfl
set_option maxRecDepth 100000 in
theorem ck_D_isBestOfA : hx_cal hm_D_isBestOfA := ⟨by decide +kernel, cw_D_isBestOfA⟩
set_option maxRecDepth 20000 in
theorem mj_D_isBestOfA : hx_ms[165]? = some hm_D_isBestOfA := rfl
set_option maxRecDepth 100000 in
theorem ok_D_isBestOfB : hx_okO hm_D_isBestOfB = true := hq_okO (by decide +kernel)
theorem cw_D_isBestOfB : Cond.code (hx_y hm_D_isBestOfB) (hx_b hm_D_isBestOfB) (hx_L hm_D_isBestOfB) (hx_ret hm_D_isBestOfB) ∈ hx_T := hx_T_in (hx_ch_in tables_1_5 (List.mem_of_getElem? (i := 5) rfl) _ (List.mem_of_getElem? (i := 65) rfl)) rfl
set_option maxRecDepth 100000 in
theorem ck_D_isBestOfB : hx_cal hm_D_isBestOfB := ⟨by decide +kernel, cw_D_isBestOfB⟩
set_option maxRecDepth 20000 in
theorem mj_D_isBestOfB : hx_ms[166]? = some hm_D_isBestOfB := rfl
set_option maxRecDepth 100000 in
theorem ok_D_twos : hx_okO hm_D_twos = true := hq_okO (by decide +kernel)
theorem cw_D_twos : Cond.code (hx_y hm_D_twos) (hx_b hm_D_twos) (hx_L hm_D_twos) (hx_ret hm_D_twos) ∈ hx_T := hx_T_in (hx_ch_in tables_1_5 (List.mem_of_getElem? (i := 5) rfl) _ (List.mem_of_getElem? (i := 69) rfl)) rfl
set_option maxRecDepth 100000 in
theorem ck_D_twos : hx_cal hm_D_twos := ⟨by decide +kernel, cw_D_twos⟩
set_option maxRecDepth 20000 in
theorem mj_D_twos : hx_ms[167]? = some hm_D_twos := rfl
set_option maxRecDepth 100000 in
theorem ok_D_firstOfA : hx_okO hm_D_firstOfA = true := hq_okO (by decide +kernel)
theorem cw_D_firstOfA : Cond.code (hx_y hm_D_firstOfA) (hx_b hm_D_firstOfA) (hx_L hm_D_firstOfA) (hx_ret hm_D_firstOfA) ∈ hx_T := hx_T_in (hx_ch_in tables_1_5 (List.mem_of_getElem? (i := 5) rfl) _ (List.mem_of_getElem? (i := 73) rfl)) rfl
set_option maxRecDepth 100000 in
theorem ck_D_firstOfA : hx_cal hm_D_firstOfA := ⟨by decide +kernel, cw_D_firstOfA⟩
set_option maxRecDepth 20000 in
theorem mj_D_firstOfA : hx_ms[168]? = some hm_D_firstOfA := rfl
set_option maxRecDepth 100000 in
theorem ok_D_firstOfB : hx_okO hm_D_firstOfB = true := hq_okO (by decide +kernel)
theorem cw_D_firstOfB : Cond.code (hx_y hm_D_firstOfB) (hx_b hm_D_firstOfB) (hx_L hm_D_firstOfB) (hx_ret hm_D_firstOfB) ∈ hx_T := hx_T_in (hx_ch_in tables_1_5 (List.mem_of_getElem? (i := 5) rfl) _ (List.mem_of_getElem? (i := 77) rfl)) rfl
set_option maxRecDepth 100000 in
theorem ck_D_firstOfB : hx_cal hm_D_firstOfB := ⟨by decide +kernel, cw_D_firstOfB⟩
set_option maxRecDepth 20000 in
theorem mj_D_firstOfB : hx_ms[169]? = some hm_D_firstOfB := rfl
set_option maxRecDepth 100000 in
theorem ok_W_signals : hx_okO hm_W_signals = true := hq_okO (by decide +kernel)
theorem cw_W_signals : Cond.code (hx_y hm_W_signals) (hx_b hm_W_signals) (hx_L hm_W_signals) (hx_ret hm_W_signals) ∈ hx_T := hx_T_in (hx_ch_in tables_1_5 (List.mem_of_getElem? (i := 5) rfl) _ (List.mem_of_getElem? (i := 81) rfl)) rfl
set_option maxRecDepth 100000 in
theorem ck_W_signals : hx_cal hm_W_signals := ⟨by decide +kernel, cw_W_signals⟩
set_option maxRecDepth 20000 in
theorem mj_W_signals : hx_ms[170]? = some hm_W_signals := rfl
set_option maxRecDepth 100000 in
theorem ok_W_findPartners : hx_okO hm_W_findPartners = true := hq_okO (by decide +kernel)
theorem cw_W_findPartners : Cond.code (hx_y hm_W_findPartners) (hx_b hm_W_findPartners) (hx_L hm_W_findPartners) (hx_ret hm_W_findPartners) ∈ hx_T := hx_T_in (hx_ch_in tables_1_5 (List.mem_of_getElem? (i := 5) rfl) _ (List.mem_of_getElem? (i := 85) rfl)) rfl
set_option maxRecDepth 100000 in
theorem ck_W_findPartners : hx_cal hm_W_findPartners := ⟨by decide +kernel, cw_W_findPartners⟩
set_option maxRecDepth 20000 in
theorem mj_W_findPartners : hx_ms[171]? = some hm_W_findPartners := rfl
set_option maxRecDepth 100000 in
theorem ok_P_told : hx_okO hm_P_told = true := hq_okO (by decide +kernel)
theorem cw_P_told : Cond.code (hx_y hm_P_told) (hx_b hm_P_told) (hx_L hm_P_told) (hx_ret hm_P_told) ∈ hx_T := hx_T_in (hx_ch_in tables_1_5 (List.mem_of_getElem? (i := 5) rfl) _ (List.mem_of_getElem? (i := 89) rfl)) rfl
set_option maxRecDepth 100000 in
theorem ck_P_told : hx_cal hm_P_told := ⟨by decide +kernel, cw_P_told⟩
set_option maxRecDepth 20000 in
theorem mj_P_told : hx_ms[172]? = some hm_P_told := rfl
set_option maxRecDepth 100000 in
theorem ok_W_unlike : hx_okO hm_W_unlike = true := hq_okO (by decide +kernel)
theorem cw_W_unlike : Cond.code (hx_y hm_W_unlike) (hx_b hm_W_unlike) (hx_L hm_W_unlike) (hx_ret hm_W_unlike) ∈ hx_T := hx_T_in (hx_ch_in tables_1_5 (List.mem_of_getElem? (i := 5) rfl) _ (List.mem_of_getElem? (i := 93) rfl)) rfl
set_option maxRecDepth 100000 in
theorem ck_W_unlike : hx_cal hm_W_unlike := ⟨by decide +kernel, cw_W_unlike⟩
set_option maxRecDepth 20000 in
theorem mj_W_unlike : hx_ms[173]? = some hm_W_unlike := rfl
set_option maxRecDepth 100000 in
theorem ok_E_alike : hx_okO hm_E_alike = true := hq_okO (by decide +kernel)
theorem cw_E_alike : Cond.code (hx_y hm_E_alike) (hx_b hm_E_alike) (hx_L hm_E_alike) (hx_ret hm_E_alike) ∈ hx_T := hx_T_in (hx_ch_in tables_1_5 (List.mem_of_getElem? (i := 5) rfl) _ (List.mem_of_getElem? (i := 97) rfl)) rfl
set_option maxRecDepth 100000 in
theorem ck_E_alike : hx_cal hm_E_alike := ⟨by decide +kernel, cw_E_alike⟩
set_option maxRecDepth 20000 in
theorem mj_E_alike : hx_ms[174]? = some hm_E_alike := rfl
set_option maxRecDepth 100000 in
theorem ok_W_setsOf : hx_okO hm_W_setsOf = true := hq_okO (by decide +kernel)
theorem cw_W_setsOf : Cond.code (hx_y hm_W_setsOf) (hx_b hm_W_setsOf) (hx_L hm_W_setsOf) (hx_ret hm_W_setsOf) ∈ hx_T := hx_T_in (hx_ch_in tables_1_5 (List.mem_of_getElem? (i := 5) rfl) _ (List.mem_of_getElem? (i := 101) rfl)) rfl
set_option maxRecDepth 100000 in
theorem ck_W_setsOf : hx_cal hm_W_setsOf := ⟨by decide +kernel, cw_W_setsOf⟩
set_option maxRecDepth 20000 in
theorem mj_W_setsOf : hx_ms[175]? = some hm_W_setsOf := rfl
set_option maxRecDepth 100000 in
theorem ok_W_isSignalSet : hx_okO hm_W_isSignalSet = true := hq_okO (by decide +kernel)
theorem cw_W_isSignalSet : Cond.code (hx_y hm_W_isSignalSet) (hx_b hm_W_isSignalSet) (hx_L hm_W_isSignalSet) (hx_ret hm_W_isSignalSet) ∈ hx_T := hx_T_in (hx_ch_in tables_1_5 (List.mem_of_getElem? (i := 5) rfl) _ (List.mem_of_getElem? (i := 105) rfl)) rfl
set_option maxRecDepth 100000 in
theorem ck_W_isSignalSet : hx_cal hm_W_isSignalSet := ⟨by decide +kernel, cw_W_isSignalSet⟩
set_option maxRecDepth 20000 in
theorem mj_W_isSignalSet : hx_ms[176]? = some hm_W_isSignalSet := rfl
set_option maxRecDepth 100000 in
theorem ok_W_firstSetOf : hx_okO hm_W_firstSetOf = true := hq_okO (by decide +kernel)
theorem cw_W_firstSetOf : Cond.code (hx_y hm_W_firstSetOf) (hx_b hm_W_firstSetOf) (hx_L hm_W_firstSetOf) (hx_ret hm_W_firstSetOf) ∈ hx_T := hx_T_in (hx_ch_in tables_1_5 (List.mem_of_getElem? (i := 5) rfl) _ (List.mem_of_getElem? (i := 109) rfl)) rfl
set_option maxRecDepth 100000 in
theorem ck_W_firstSetOf : hx_cal hm_W_firstSetOf := ⟨by decide +kernel, cw_W_firstSetOf⟩
set_option maxRecDepth 20000 in
theorem mj_W_firstSetOf : hx_ms[177]? = some hm_W_firstSetOf := rfl
set_option maxRecDepth 100000 in
theorem ok_W_mostSignals : hx_okO hm_W_mostSignals = true := hq_okO (by decide +kernel)
theorem cw_W_mostSignals : Cond.code (hx_y hm_W_mostSignals) (hx_b hm_W_mostSignals) (hx_L hm_W_mostSignals) (hx_ret hm_W_mostSignals) ∈ hx_T := hx_T_in (hx_ch_in tables_1_5 (List.mem_of_getElem? (i := 5) rfl) _ (List.mem_of_getElem? (i := 113) rfl)) rfl
set_option maxRecDepth 100000 in
theorem ck_W_mostSignals : hx_cal hm_W_mostSignals := ⟨by decide +kernel, cw_W_mostSignals⟩
set_option maxRecDepth 20000 in
theorem mj_W_mostSignals : hx_ms[178]? = some hm_W_mostSignals := rfl
set_option maxRecDepth 100000 in
theorem ok_W_parted : hx_okO hm_W_parted = true := hq_okO (by decide +kernel)
theorem cw_W_parted : Cond.code (hx_y hm_W_parted) (hx_b hm_W_parted) (hx_L hm_W_parted) (hx_ret hm_W_parted) ∈ hx_T := hx_T_in (hx_ch_in tables_1_5 (List.mem_of_getElem? (i := 5) rfl) _ (List.mem_of_getElem? (i := 117) rfl)) rfl
set_option maxRecDepth 100000 in
theorem ck_W_parted : hx_cal hm_W_parted := ⟨by decide +kernel, cw_W_parted⟩
set_option maxRecDepth 20000 in
theorem mj_W_parted : hx_ms[179]? = some hm_W_parted := rfl
set_option maxRecDepth 100000 in
theorem ok_W_areThoughts : hx_okO hm_W_areThoughts = true := hq_okO (by decide +kernel)
theorem cw_W_areThoughts : Cond.code (hx_y hm_W_areThoughts) (hx_b hm_W_areThoughts) (hx_L hm_W_areThoughts) (hx_ret hm_W_areThoughts) ∈ hx_T := hx_T_in (hx_ch_in tables_1_5 (List.mem_of_getElem? (i := 5) rfl) _ (List.mem_of_getElem? (i := 121) rfl)) rfl
set_option maxRecDepth 100000 in
theorem ck_W_areThoughts : hx_cal hm_W_areThoughts := ⟨by decide +kernel, cw_W_areThoughts⟩
set_option maxRecDepth 20000 in
theorem mj_W_areThoughts : hx_ms[180]? = some hm_W_areThoughts := rfl
set_option maxRecDepth 100000 in
theorem ok_W_fairestRow : hx_okO hm_W_fairestRow = true := hq_okO (by decide +kernel)
theorem cw_W_fairestRow : Cond.code (hx_y hm_W_fairestRow) (hx_b hm_W_fairestRow) (hx_L hm_W_fairestRow) (hx_ret hm_W_fairestRow) ∈ hx_T := hx_T_in (hx_ch_in tables_1_5 (List.mem_of_getElem? (i := 5) rfl) _ (List.mem_of_getElem? (i := 126) rfl)) rfl
set_option maxRecDepth 100000 in
theorem ck_W_fairestRow : hx_cal hm_W_fairestRow := ⟨by decide +kernel, cw_W_fairestRow⟩
set_option maxRecDepth 20000 in
theorem mj_W_fairestRow : hx_ms[181]? = some hm_W_fairestRow := rfl
set_option maxRecDepth 100000 in
theorem ok_W_leastOf : hx_okO hm_W_leastOf = true := hq_okO (by decide +kernel)
theorem cw_W_leastOf : Cond.code (hx_y hm_W_leastOf) (hx_b hm_W_leastOf) (hx_L hm_W_leastOf) (hx_ret hm_W_leastOf) ∈ hx_T := hx_T_in (hx_ch_in tables_1_5 (List.mem_of_getElem? (i := 5) rfl) _ (List.mem_of_getElem? (i := 130) rfl)) rfl
set_option maxRecDepth 100000 in
theorem ck_W_leastOf : hx_cal hm_W_leastOf := ⟨by decide +kernel, cw_W_leastOf⟩
set_option maxRecDepth 20000 in
theorem mj_W_leastOf : hx_ms[182]? = some hm_W_leastOf := rfl
set_option maxRecDepth 100000 in
theorem ok_W_thoughtOf : hx_okO hm_W_thoughtOf = true := hq_okO (by decide +kernel)
theorem cw_W_thoughtOf : Cond.code (hx_y hm_W_thoughtOf) (hx_b hm_W_thoughtOf) (hx_L hm_W_thoughtOf) (hx_ret hm_W_thoughtOf) ∈ hx_T := hx_T_in (hx_ch_in tables_1_5 (List.mem_of_getElem? (i := 5) rfl) _ (List.mem_of_getElem? (i := 134) rfl)) rfl
set_option maxRecDepth 100000 in
theorem ck_W_thoughtOf : hx_cal hm_W_thoughtOf := ⟨by decide +kernel, cw_W_thoughtOf⟩
set_option maxRecDepth 20000 in
theorem mj_W_thoughtOf : hx_ms[183]? = some hm_W_thoughtOf := rfl
set_option maxRecDepth 100000 in
theorem ok_W_placeIn : hx_okO hm_W_placeIn = true := hq_okO (by decide +kernel)
theorem cw_W_placeIn : Cond.code (hx_y hm_W_placeIn) (hx_b hm_W_placeIn) (hx_L hm_W_placeIn) (hx_ret hm_W_placeIn) ∈ hx_T := hx_T_in (hx_ch_in tables_1_5 (List.mem_of_getElem? (i := 5) rfl) _ (List.mem_of_getElem? (i := 137) rfl)) rfl
set_option maxRecDepth 100000 in
theorem ck_W_placeIn : hx_cal hm_W_placeIn := ⟨by decide +kernel, cw_W_placeIn⟩
set_option maxRecDepth 20000 in
theorem mj_W_placeIn : hx_ms[184]? = some hm_W_placeIn := rfl
set_option maxRecDepth 100000 in
theorem ok_W_envyOf : hx_okO hm_W_envyOf = true := hq_okO (by decide +kernel)
theorem cw_W_envyOf : Cond.code (hx_y hm_W_envyOf) (hx_b hm_W_envyOf) (hx_L hm_W_envyOf) (hx_ret hm_W_envyOf) ∈ hx_T := hx_T_in (hx_ch_in tables_1_5 (List.mem_of_getElem? (i := 5) rfl) _ (List.mem_of_getElem? (i := 142) rfl)) rfl
set_option maxRecDepth 100000 in
theorem ck_W_envyOf : hx_cal hm_W_envyOf := ⟨by decide +kernel, cw_W_envyOf⟩
set_option maxRecDepth 20000 in
theorem mj_W_envyOf : hx_ms[185]? = some hm_W_envyOf := rfl
set_option maxRecDepth 100000 in
theorem ok_W_envies : hx_okO hm_W_envies = true := hq_okO (by decide +kernel)
theorem cw_W_envies : Cond.code (hx_y hm_W_envies) (hx_b hm_W_envies) (hx_L hm_W_envies) (hx_ret hm_W_envies) ∈ hx_T := hx_T_in (hx_ch_in tables_1_5 (List.mem_of_getElem? (i := 5) rfl) _ (List.mem_of_getElem? (i := 146) rfl)) rfl
set_option maxRecDepth 100000 in
theorem ck_W_envies : hx_cal hm_W_envies := ⟨by decide +kernel, cw_W_envies⟩
set_option maxRecDepth 20000 in
theorem mj_W_envies : hx_ms[186]? = some hm_W_envies := rfl
set_option maxRecDepth 100000 in
theorem ok_W_spies : hx_okO hm_W_spies = true := hq_okO (by decide +kernel)
theorem cw_W_spies : Cond.code (hx_y hm_W_spies) (hx_b hm_W_spies) (hx_L hm_W_spies) (hx_ret hm_W_spies) ∈ hx_T := hx_T_in (hx_ch_in tables_1_5 (List.mem_of_getElem? (i := 5) rfl) _ (List.mem_of_getElem? (i := 150) rfl)) rfl
set_option maxRecDepth 100000 in
theorem ck_W_spies : hx_cal hm_W_spies := ⟨by decide +kernel, cw_W_spies⟩
set_option maxRecDepth 20000 in
theorem mj_W_spies : hx_ms[187]? = some hm_W_spies := rfl
set_option maxRecDepth 100000 in
theorem ok_W_areShown : hx_okO hm_W_areShown = true := hq_okO (by decide +kernel)
theorem cw_W_areShown : Cond.code (hx_y hm_W_areShown) (hx_b hm_W_areShown) (hx_L hm_W_areShown) (hx_ret hm_W_areShown) ∈ hx_T := hx_T_in (hx_ch_in tables_1_5 (List.mem_of_getElem? (i := 5) rfl) _ (List.mem_of_getElem? (i := 154) rfl)) rfl
set_option maxRecDepth 100000 in
theorem ck_W_areShown : hx_cal hm_W_areShown := ⟨by decide +kernel, cw_W_areShown⟩
set_option maxRecDepth 20000 in
theorem mj_W_areShown : hx_ms[188]? = some hm_W_areShown := rfl
set_option maxRecDepth 100000 in
theorem ok_W_findBright : hx_okO hm_W_findBright = true := hq_okO (by decide +kernel)
theorem cw_W_findBright : Cond.code (hx_y hm_W_findBright) (hx_b hm_W_findBright) (hx_L hm_W_findBright) (hx_ret hm_W_findBright) ∈ hx_T := hx_T_in (hx_ch_in tables_1_5 (List.mem_of_getElem? (i := 5) rfl) _ (List.mem_of_getElem? (i := 158) rfl)) rfl
set_option maxRecDepth 100000 in
theorem ck_W_findBright : hx_cal hm_W_findBright := ⟨by decide +kernel, cw_W_findBright⟩
set_option maxRecDepth 20000 in
theorem mj_W_findBright : hx_ms[189]? = some hm_W_findBright := rfl
set_option maxRecDepth 100000 in
theorem ok_W_fitting : hx_okO hm_W_fitting = true := hq_okO (by decide +kernel)
theorem cw_W_fitting : Cond.code (hx_y hm_W_fitting) (hx_b hm_W_fitting) (hx_L hm_W_fitting) (hx_ret hm_W_fitting) ∈ hx_T := hx_T_in (hx_ch_in tables_1_5 (List.mem_of_getElem? (i := 5) rfl) _ (List.mem_of_getElem? (i := 162) rfl)) rfl
set_option maxRecDepth 100000 in
theorem ck_W_fitting : hx_cal hm_W_fitting := ⟨by decide +kernel, cw_W_fitting⟩
set_option maxRecDepth 20000 in
theorem mj_W_fitting : hx_ms[190]? = some hm_W_fitting := rfl
set_option maxRecDepth 100000 in
theorem ok_W_fits : hx_okO hm_W_fits = true := hq_okO (by decide +kernel)
theorem cw_W_fits : Cond.code (hx_y hm_W_fits) (hx_b hm_W_fits) (hx_L hm_W_fits) (hx_ret hm_W_fits) ∈ hx_T := hx_T_in (hx_ch_in tables_1_5 (List.mem_of_getElem? (i := 5) rfl) _ (List.mem_of_getElem? (i := 166) rfl)) rfl
set_option maxRecDepth 100000 in
theorem ck_W_fits : hx_cal hm_W_fits := ⟨by decide +kernel, cw_W_fits⟩
set_option maxRecDepth 20000 in
theorem mj_W_fits : hx_ms[191]? = some hm_W_fits := rfl
set_option maxRecDepth 100000 in
theorem ok_W_bestShown : hx_okO hm_W_bestShown = true := hq_okO (by decide +kernel)
theorem cw_W_bestShown : Cond.code (hx_y hm_W_bestShown) (hx_b hm_W_bestShown) (hx_L hm_W_bestShown) (hx_ret hm_W_bestShown) ∈ hx_T := hx_T_in (hx_ch_in tables_1_5 (List.mem_of_getElem? (i := 5) rfl) _ (List.mem_of_getElem? (i := 170) rfl)) rfl
set_option maxRecDepth 100000 in
theorem ck_W_bestShown : hx_cal hm_W_bestShown := ⟨by decide +kernel, cw_W_bestShown⟩
set_option maxRecDepth 20000 in
theorem mj_W_bestShown : hx_ms[192]? = some hm_W_bestShown := rfl
set_option maxRecDepth 100000 in
theorem ok_W_greaterPart : hx_okO hm_W_greaterPart = true := hq_okO (by decide +kernel)
theorem cw_W_greaterPart : Cond.code (hx_y hm_W_greaterPart) (hx_b hm_W_greaterPart) (hx_L hm_W_greaterPart) (hx_ret hm_W_greaterPart) ∈ hx_T := hx_T_in (hx_ch_in tables_1_5 (List.mem_of_getElem? (i := 5) rfl) _ (List.mem_of_getElem? (i := 174) rfl)) rfl
set_option maxRecDepth 100000 in
theorem ck_W_greaterPart : hx_cal hm_W_greaterPart := ⟨by decide +kernel, cw_W_greaterPart⟩
set_option maxRecDepth 20000 in
theorem mj_W_greaterPart : hx_ms[193]? = some hm_W_greaterPart := rfl
set_option maxRecDepth 100000 in
theorem ok_W_count : hx_okO hm_W_count = true := hq_okO (by decide +kernel)
theorem cw_W_count : Cond.code (hx_y hm_W_count) (hx_b hm_W_count) (hx_L hm_W_count) (hx_ret hm_W_count) ∈ hx_T := hx_T_in (hx_ch_in tables_1_5 (List.mem_of_getElem? (i := 5) rfl) _ (List.mem_of_getElem? (i := 179) rfl)) rfl
set_option maxRecDepth 100000 in
theorem ck_W_count : hx_cal hm_W_count := ⟨by decide +kernel, cw_W_count⟩
set_option maxRecDepth 20000 in
theorem mj_W_count : hx_ms[194]? = some hm_W_count := rfl
set_option maxRecDepth 100000 in
theorem ok_P_parts : hx_okO hm_P_parts = true := hq_okO (by decide +kernel)
theorem cw_P_parts : Cond.code (hx_y hm_P_parts) (hx_b hm_P_parts) (hx_L hm_P_parts) (hx_ret hm_P_parts) ∈ hx_T := hx_T_in (hx_ch_in tables_1_5 (List.mem_of_getElem? (i := 5) rfl) _ (List.mem_of_getElem? (i := 183) rfl)) rfl
set_option maxRecDepth 100000 in
theorem ck_P_parts : hx_cal hm_P_parts := ⟨by decide +kernel, cw_P_parts⟩
set_option maxRecDepth 20000 in
theorem mj_P_parts : hx_ms[195]? = some hm_P_parts := rfl
set_option maxRecDepth 100000 in
theorem ok_P_mixed : hx_okO hm_P_mixed = true := hq_okO (by decide +kernel)
theorem cw_P_mixed : Cond.code (hx_y hm_P_mixed) (hx_b hm_P_mixed) (hx_L hm_P_mixed) (hx_ret hm_P_mixed) ∈ hx_T := hx_T_in (hx_ch_in tables_1_5 (List.mem_of_getElem? (i := 5) rfl) _ (List.mem_of_getElem? (i := 187) rfl)) rfl
set_option maxRecDepth 100000 in
theorem ck_P_mixed : hx_cal hm_P_mixed := ⟨by decide +kernel, cw_P_mixed⟩
set_option maxRecDepth 20000 in
theorem mj_P_mixed : hx_ms[196]? = some hm_P_mixed := rfl
set_option maxRecDepth 100000 in
theorem ok_S_draw : hx_okO hm_S_draw = true := hq_okO (by decide +kernel)
theorem cw_S_draw : Cond.code (hx_y hm_S_draw) (hx_b hm_S_draw) (hx_L hm_S_draw) (hx_ret hm_S_draw) ∈ hx_T := hx_T_in (hx_ch_in tables_1_5 (List.mem_of_getElem? (i := 5) rfl) _ (List.mem_of_getElem? (i := 191) rfl)) rfl
set_option maxRecDepth 100000 in
theorem ck_S_draw : hx_cal hm_S_draw := ⟨by decide +kernel, cw_S_draw⟩
set_option maxRecDepth 20000 in
theorem mj_S_draw : hx_ms[197]? = some hm_S_draw := rfl
set_option maxRecDepth 100000 in
theorem ok_M_init : hx_okO hm_M_init = true := hq_okO (by decide +kernel)
theorem cw_M_init : Cond.code (hx_y hm_M_init) (hx_b hm_M_init) (hx_L hm_M_init) (hx_ret hm_M_init) ∈ hx_T := hx_T_in (hx_ch_in tables_1_5 (List.mem_of_getElem? (i := 5) rfl) _ (List.mem_of_getElem? (i := 197) rfl)) rfl
set_option maxRecDepth 100000 in
theorem ck_M_init : hx_cal hm_M_init := ⟨by decide +kernel, cw_M_init⟩
set_option maxRecDepth 20000 in
theorem mj_M_init : hx_ms[198]? = some hm_M_init := rfl
set_option maxRecDepth 100000 in
theorem ok_M_colour : hx_okO hm_M_colour = true := hq_okO (by decide +kernel)
theorem cw_M_colour : Cond.code (hx_y hm_M_colour) (hx_b hm_M_colour) (hx_L hm_M_colour) (hx_ret hm_M_colour) ∈ hx_T := hx_T_in (hx_ch_in tables_1_6 (List.mem_of_getElem? (i := 6) rfl) _ (List.mem_of_getElem? (i := 168) rfl)) rfl
set_option maxRecDepth 100000 in
theorem ck_M_colour : hx_cal hm_M_colour := ⟨by decide +kernel, cw_M_colour⟩
set_option maxRecDepth 20000 in
theorem mj_M_colour : hx_ms[199]? = some hm_M_colour := rfl
set_option maxRecDepth 100000 in
theorem ok_M_in : hx_okO hm_M_in = true := hq_okO (by decide +kernel)
theorem cw_M_in : Cond.code (hx_y hm_M_in) (hx_b hm_M_in) (hx_L hm_M_in) (hx_ret hm_M_in) ∈ hx_T := hx_T_in (hx_ch_in tables_1_6 (List.mem_of_getElem? (i := 6) rfl) _ (List.mem_of_getElem? (i := 171) rfl)) rfl
set_option maxRecDepth 100000 in
theorem ck_M_in : hx_cal hm_M_in := ⟨by decide +kernel, cw_M_in⟩
set_option maxRecDepth 20000 in
theorem mj_M_in : hx_ms[200]? = some hm_M_in := rfl
set_option maxRecDepth 100000 in
theorem ok_M_isColour : hx_okO hm_M_isColour = true := hq_okO (by decide +kernel)
theorem cw_M_isColour : Cond.code (hx_y hm_M_isColour) (hx_b hm_M_isColour) (hx_L hm_M_isColour) (hx_ret hm_M_isColour) ∈ hx_T := hx_T_in (hx_ch_in tables_1_6 (List.mem_of_getElem? (i := 6) rfl) _ (List.mem_of_getElem? (i := 175) rfl)) rfl
set_option maxRecDepth 100000 in
theorem ck_M_isColour : hx_cal hm_M_isColour := ⟨by decide +kernel, cw_M_isColour⟩
set_option maxRecDepth 20000 in
theorem mj_M_isColour : hx_ms[201]? = some hm_M_isColour := rfl
set_option maxRecDepth 100000 in
theorem ok_M_has : hx_okO hm_M_has = true := hq_okO (by decide +kernel)
theorem cw_M_has : Cond.code (hx_y hm_M_has) (hx_b hm_M_has) (hx_L hm_M_has) (hx_ret hm_M_has) ∈ hx_T := hx_T_in (hx_ch_in tables_1_6 (List.mem_of_getElem? (i := 6) rfl) _ (List.mem_of_getElem? (i := 178) rfl)) rfl
set_option maxRecDepth 100000 in
theorem ck_M_has : hx_cal hm_M_has := ⟨by decide +kernel, cw_M_has⟩
set_option maxRecDepth 20000 in
theorem mj_M_has : hx_ms[202]? = some hm_M_has := rfl
set_option maxRecDepth 100000 in
theorem ok_M_have : hx_okO hm_M_have = true := hq_okO (by decide +kernel)
theorem cw_M_have : Cond.code (hx_y hm_M_have) (hx_b hm_M_have) (hx_L hm_M_have) (hx_ret hm_M_have) ∈ hx_T := hx_T_in (hx_ch_in tables_1_6 (List.mem_of_getElem? (i := 6) rfl) _ (List.mem_of_getElem? (i := 182) rfl)) rfl
set_option maxRecDepth 100000 in
theorem ck_M_have : hx_cal hm_M_have := ⟨by decide +kernel, cw_M_have⟩
set_option maxRecDepth 20000 in
theorem mj_M_have : hx_ms[203]? = some hm_M_have := rfl
set_option maxRecDepth 100000 in
theorem ok_M_isPlain : hx_okO hm_M_isPlain = true := hq_okO (by decide +kernel)
theorem cw_M_isPlain : Cond.code (hx_y hm_M_isPlain) (hx_b hm_M_isPlain) (hx_L hm_M_isPlain) (hx_ret hm_M_isPlain) ∈ hx_T := hx_T_in (hx_ch_in tables_1_6 (List.mem_of_getElem? (i := 6) rfl) _ (List.mem_of_getElem? (i := 186) rfl)) rfl
set_option maxRecDepth 100000 in
theorem ck_M_isPlain : hx_cal hm_M_isPlain := ⟨by decide +kernel, cw_M_isPlain⟩
set_option maxRecDepth 20000 in
theorem mj_M_isPlain : hx_ms[204]? = some hm_M_isPlain := rfl
set_option maxRecDepth 100000 in
theorem ok_M_isQuarter : hx_okO hm_M_isQuarter = true := hq_okO (by decide +kernel)
theorem cw_M_isQuarter : Cond.code (hx_y hm_M_isQuarter) (hx_b hm_M_isQuarter) (hx_L hm_M_isQuarter) (hx_ret hm_M_isQuarter) ∈ hx_T := hx_T_in (hx_ch_in tables_1_6 (List.mem_of_getElem? (i := 6) rfl) _ (List.mem_of_getElem? (i := 189) rfl)) rfl
set_option maxRecDepth 100000 in
theorem ck_M_isQuarter : hx_cal hm_M_isQuarter := ⟨by decide +kernel, cw_M_isQuarter⟩
set_option maxRecDepth 20000 in
theorem mj_M_isQuarter : hx_ms[205]? = some hm_M_isQuarter := rfl
set_option maxRecDepth 100000 in
theorem ok_M_owner : hx_okO hm_M_owner = true := hq_okO (by decide +kernel)
theorem cw_M_owner : Cond.code (hx_y hm_M_owner) (hx_b hm_M_owner) (hx_L hm_M_owner) (hx_ret hm_M_owner) ∈ hx_T := hx_T_in (hx_ch_in tables_1_6 (List.mem_of_getElem? (i := 6) rfl) _ (List.mem_of_getElem? (i := 193) rfl)) rfl
set_option maxRecDepth 100000 in
theorem ck_M_owner : hx_cal hm_M_owner := ⟨by decide +kernel, cw_M_owner⟩
set_option maxRecDepth 20000 in
theorem mj_M_owner : hx_ms[206]? = some hm_M_owner := rfl
set_option maxRecDepth 100000 in
theorem ok_M_feed : hx_okO hm_M_feed = true := hq_okO (by decide +kernel)
theorem cw_M_feed : Cond.code (hx_y hm_M_feed) (hx_b hm_M_feed) (hx_L hm_M_feed) (hx_ret hm_M_feed) ∈ hx_T := hx_T_in (hx_ch_in tables_1_6 (List.mem_of_getElem? (i := 6) rfl) _ (List.mem_of_getElem? (i := 197) rfl)) rfl
set_option maxRecDepth 100000 in
theorem ck_M_feed : hx_cal hm_M_feed := ⟨by decide +kernel, cw_M_feed⟩
set_option maxRecDepth 20000 in
theorem mj_M_feed : hx_ms[207]? = some hm_M_feed := rfl
set_option maxRecDepth 100000 in
theorem ok_M_types : hx_okO hm_M_types = true := hq_okO (by decide +kernel)
theorem cw_M_types : Cond.code (hx_y hm_M_types) (hx_b hm_M_types) (hx_L hm_M_types) (hx_ret hm_M_types) ∈ hx_T := hx_T_in (hx_ch_in tables_1_6 (List.mem_of_getElem? (i := 6) rfl) _ (List.mem_of_getElem? (i := 201) rfl)) rfl
set_option maxRecDepth 100000 in
theorem ck_M_types : hx_cal hm_M_types := ⟨by decide +kernel, cw_M_types⟩
set_option maxRecDepth 20000 in
theorem mj_M_types : hx_ms[208]? = some hm_M_types := rfl
set_option maxRecDepth 100000 in
theorem ok_M_law : hx_okO hm_M_law = true := hq_okO (by decide +kernel)
theorem cw_M_law : Cond.code (hx_y hm_M_law) (hx_b hm_M_law) (hx_L hm_M_law) (hx_ret hm_M_law) ∈ hx_T := hx_T_in (hx_ch_in tables_1_6 (List.mem_of_getElem? (i := 6) rfl) _ (List.mem_of_getElem? (i := 205) rfl)) rfl
set_option maxRecDepth 100000 in
theorem ck_M_law : hx_cal hm_M_law := ⟨by decide +kernel, cw_M_law⟩
set_option maxRecDepth 20000 in
theorem mj_M_law : hx_ms[209]? = some hm_M_law := rfl
set_option maxRecDepth 100000 in
theorem ok_M_readsClause : hx_okO hm_M_readsClause = true := hq_okO (by decide +kernel)
theorem cw_M_readsClause : Cond.code (hx_y hm_M_readsClause) (hx_b hm_M_readsClause) (hx_L hm_M_readsClause) (hx_ret hm_M_readsClause) ∈ hx_T := hx_T_in (hx_ch_in tables_1_6 (List.mem_of_getElem? (i := 6) rfl) _ (List.mem_of_getElem? (i := 209) rfl)) rfl
set_option maxRecDepth 100000 in
theorem ck_M_readsClause : hx_cal hm_M_readsClause := ⟨by decide +kernel, cw_M_readsClause⟩
set_option maxRecDepth 20000 in
theorem mj_M_readsClause : hx_ms[210]? = some hm_M_readsClause := rfl
set_option maxRecDepth 100000 in
theorem ok_M_here : hx_okO hm_M_here = true := hq_okO (by decide +kernel)
theorem cw_M_here : Cond.code (hx_y hm_M_here) (hx_b hm_M_here) (hx_L hm_M_here) (hx_ret hm_M_here) ∈ hx_T := hx_T_in (hx_ch_in tables_1_6 (List.mem_of_getElem? (i := 6) rfl) _ (List.mem_of_getElem? (i := 213) rfl)) rfl
set_option maxRecDepth 100000 in
theorem ck_M_here : hx_cal hm_M_here := ⟨by decide +kernel, cw_M_here⟩
set_option maxRecDepth 20000 in
theorem mj_M_here : hx_ms[211]? = some hm_M_here := rfl
set_option maxRecDepth 100000 in
theorem ok_M_isClause : hx_okO hm_M_isClause = true := hq_okO (by decide +kernel)
theorem cw_M_isClause : Cond.code (hx_y hm_M_isClause) (hx_b hm_M_isClause) (hx_L hm_M_isClause) (hx_ret hm_M_isClause) ∈ hx_T := hx_T_in (hx_ch_in tables_1_6 (List.mem_of_getElem? (i := 6) rfl) _ (List.mem_of_getElem? (i := 216) rfl)) rfl
set_option maxRecDepth 100000 in
theorem ck_M_isClause : hx_cal hm_M_isClause := ⟨by decide +kernel, cw_M_isClause⟩
set_option maxRecDepth 20000 in
theorem mj_M_isClause : hx_ms[212]? = some hm_M_isClause := rfl
set_option maxRecDepth 100000 in
theorem ok_M_wrongAt : hx_okO hm_M_wrongAt = true := hq_okO (by decide +kernel)
theorem cw_M_wrongAt : Cond.code (hx_y hm_M_wrongAt) (hx_b hm_M_wrongAt) (hx_L hm_M_wrongAt) (hx_ret hm_M_wrongAt) ∈ hx_T := hx_T_in (hx_ch_in tables_1_6 (List.mem_of_getElem? (i := 6) rfl) _ (List.mem_of_getElem? (i := 220) rfl)) rfl
set_option maxRecDepth 100000 in
theorem ck_M_wrongAt : hx_cal hm_M_wrongAt := ⟨by decide +kernel, cw_M_wrongAt⟩
set_option maxRecDepth 20000 in
theorem mj_M_wrongAt : hx_ms[213]? = some hm_M_wrongAt := rfl
set_option maxRecDepth 100000 in
theorem ok_M_readsSum : hx_okO hm_M_readsSum = true := hq_okO (by decide +kernel)
theorem cw_M_readsSum : Cond.code (hx_y hm_M_readsSum) (hx_b hm_M_readsSum) (hx_L hm_M_readsSum) (hx_ret hm_M_readsSum) ∈ hx_T := hx_T_in (hx_ch_in tables_1_6 (List.mem_of_getElem? (i := 6) rfl) _ (List.mem_of_getElem? (i := 224) rfl)) rfl
set_option maxRecDepth 100000 in
theorem ck_M_readsSum : hx_cal hm_M_readsSum := ⟨by decide +kernel, cw_M_readsSum⟩
set_option maxRecDepth 20000 in
theorem mj_M_readsSum : hx_ms[214]? = some hm_M_readsSum := rfl
set_option maxRecDepth 100000 in
theorem ok_M_readsFactor : hx_okO hm_M_readsFactor = true := hq_okO (by decide +kernel)
theorem cw_M_readsFactor : Cond.code (hx_y hm_M_readsFactor) (hx_b hm_M_readsFactor) (hx_L hm_M_readsFactor) (hx_ret hm_M_readsFactor) ∈ hx_T := hx_T_in (hx_ch_in tables_1_6 (List.mem_of_getElem? (i := 6) rfl) _ (List.mem_of_getElem? (i := 228) rfl)) rfl
set_option maxRecDepth 100000 in
theorem ck_M_readsFactor : hx_cal hm_M_readsFactor := ⟨by decide +kernel, cw_M_readsFactor⟩
set_option maxRecDepth 20000 in
theorem mj_M_readsFactor : hx_ms[215]? = some hm_M_readsFactor := rfl
set_option maxRecDepth 100000 in
theorem ok_M_opens : hx_okO hm_M_opens = true := hq_okO (by decide +kernel)
theorem cw_M_opens : Cond.code (hx_y hm_M_opens) (hx_b hm_M_opens) (hx_L hm_M_opens) (hx_ret hm_M_opens) ∈ hx_T := hx_T_in (hx_ch_in tables_1_6 (List.mem_of_getElem? (i := 6) rfl) _ (List.mem_of_getElem? (i := 232) rfl)) rfl
set_option maxRecDepth 100000 in
theorem ck_M_opens : hx_cal hm_M_opens := ⟨by decide +kernel, cw_M_opens⟩
set_option maxRecDepth 20000 in
theorem mj_M_opens : hx_ms[216]? = some hm_M_opens := rfl
set_option maxRecDepth 100000 in
theorem ok_M_isDigit : hx_okO hm_M_isDigit = true := hq_okO (by decide +kernel)
theorem cw_M_isDigit : Cond.code (hx_y hm_M_isDigit) (hx_b hm_M_isDigit) (hx_L hm_M_isDigit) (hx_ret hm_M_isDigit) ∈ hx_T := hx_T_in (hx_ch_in tables_1_6 (List.mem_of_getElem? (i := 6) rfl) _ (List.mem_of_getElem? (i := 237) rfl)) rfl
set_option maxRecDepth 100000 in
theorem ck_M_isDigit : hx_cal hm_M_isDigit := ⟨by decide +kernel, cw_M_isDigit⟩
set_option maxRecDepth 20000 in
theorem mj_M_isDigit : hx_ms[217]? = some hm_M_isDigit := rfl
set_option maxRecDepth 100000 in
theorem ok_M_readsNumber : hx_okO hm_M_readsNumber = true := hq_okO (by decide +kernel)
theorem cw_M_readsNumber : Cond.code (hx_y hm_M_readsNumber) (hx_b hm_M_readsNumber) (hx_L hm_M_readsNumber) (hx_ret hm_M_readsNumber) ∈ hx_T := hx_T_in (hx_ch_in tables_1_7 (List.mem_of_getElem? (i := 7) rfl) _ (List.mem_of_getElem? (i := 1) rfl)) rfl
set_option maxRecDepth 100000 in
theorem ck_M_readsNumber : hx_cal hm_M_readsNumber := ⟨by decide +kernel, cw_M_readsNumber⟩
set_option maxRecDepth 20000 in
theorem mj_M_readsNumber : hx_ms[218]? = some hm_M_readsNumber := rfl
set_option maxRecDepth 100000 in
theorem ok_M_notes : hx_okO hm_M_notes = true := hq_okO (by decide +kernel)
theorem cw_M_notes : Cond.code (hx_y hm_M_notes) (hx_b hm_M_notes) (hx_L hm_M_notes) (hx_ret hm_M_notes) ∈ hx_T := hx_T_in (hx_ch_in tables_1_7 (List.mem_of_getElem? (i := 7) rfl) _ (List.mem_of_getElem? (i := 5) rfl)) rfl
set_option maxRecDepth 100000 in
theorem ck_M_notes : hx_cal hm_M_notes := ⟨by decide +kernel, cw_M_notes⟩
set_option maxRecDepth 20000 in
theorem mj_M_notes : hx_ms[219]? = some hm_M_notes := rfl
set_option maxRecDepth 100000 in
theorem ok_M_factOf : hx_okO hm_M_factOf = true := hq_okO (by decide +kernel)
theorem cw_M_factOf : Cond.code (hx_y hm_M_factOf) (hx_b hm_M_factOf) (hx_L hm_M_factOf) (hx_ret hm_M_factOf) ∈ hx_T := hx_T_in (hx_ch_in tables_1_7 (List.mem_of_getElem? (i := 7) rfl) _ (List.mem_of_getElem? (i := 8) rfl)) rfl
set_option maxRecDepth 100000 in
theorem ck_M_factOf : hx_cal hm_M_factOf := ⟨by decide +kernel, cw_M_factOf⟩
set_option maxRecDepth 20000 in
theorem mj_M_factOf : hx_ms[220]? = some hm_M_factOf := rfl
set_option maxRecDepth 100000 in
theorem ok_M_sumSign : hx_okO hm_M_sumSign = true := hq_okO (by decide +kernel)
theorem cw_M_sumSign : Cond.code (hx_y hm_M_sumSign) (hx_b hm_M_sumSign) (hx_L hm_M_sumSign) (hx_ret hm_M_sumSign) ∈ hx_T := hx_T_in (hx_ch_in tables_1_7 (List.mem_of_getElem? (i := 7) rfl) _ (List.mem_of_getElem? (i := 11) rfl)) rfl
set_option maxRecDepth 100000 in
theorem ck_M_sumSign : hx_cal hm_M_sumSign := ⟨by decide +kernel, cw_M_sumSign⟩
set_option maxRecDepth 20000 in
theorem mj_M_sumSign : hx_ms[221]? = some hm_M_sumSign := rfl
set_option maxRecDepth 100000 in
theorem ok_M_closesSums : hx_okO hm_M_closesSums = true := hq_okO (by decide +kernel)
theorem cw_M_closesSums : Cond.code (hx_y hm_M_closesSums) (hx_b hm_M_closesSums) (hx_L hm_M_closesSums) (hx_ret hm_M_closesSums) ∈ hx_T := hx_T_in (hx_ch_in tables_1_7 (List.mem_of_getElem? (i := 7) rfl) _ (List.mem_of_getElem? (i := 15) rfl)) rfl
set_option maxRecDepth 100000 in
theorem ck_M_closesSums : hx_cal hm_M_closesSums := ⟨by decide +kernel, cw_M_closesSums⟩
set_option maxRecDepth 20000 in
theorem mj_M_closesSums : hx_ms[222]? = some hm_M_closesSums := rfl
set_option maxRecDepth 100000 in
theorem ok_M_waitTop : hx_okO hm_M_waitTop = true := hq_okO (by decide +kernel)
theorem cw_M_waitTop : Cond.code (hx_y hm_M_waitTop) (hx_b hm_M_waitTop) (hx_L hm_M_waitTop) (hx_ret hm_M_waitTop) ∈ hx_T := hx_T_in (hx_ch_in tables_1_7 (List.mem_of_getElem? (i := 7) rfl) _ (List.mem_of_getElem? (i := 19) rfl)) rfl
set_option maxRecDepth 100000 in
theorem ck_M_waitTop : hx_cal hm_M_waitTop := ⟨by decide +kernel, cw_M_waitTop⟩
set_option maxRecDepth 20000 in
theorem mj_M_waitTop : hx_ms[223]? = some hm_M_waitTop := rfl
set_option maxRecDepth 100000 in
theorem ok_M_hasOpenSum : hx_okO hm_M_hasOpenSum = true := hq_okO (by decide +kernel)
theorem cw_M_hasOpenSum : Cond.code (hx_y hm_M_hasOpenSum) (hx_b hm_M_hasOpenSum) (hx_L hm_M_hasOpenSum) (hx_ret hm_M_hasOpenSum) ∈ hx_T := hx_T_in (hx_ch_in tables_1_7 (List.mem_of_getElem? (i := 7) rfl) _ (List.mem_of_getElem? (i := 23) rfl)) rfl
set_option maxRecDepth 100000 in
theorem ck_M_hasOpenSum : hx_cal hm_M_hasOpenSum := ⟨by decide +kernel, cw_M_hasOpenSum⟩
set_option maxRecDepth 20000 in
theorem mj_M_hasOpenSum : hx_ms[224]? = some hm_M_hasOpenSum := rfl
set_option maxRecDepth 100000 in
theorem ok_M_readsCondition : hx_okO hm_M_readsCondition = true := hq_okO (by decide +kernel)
theorem cw_M_readsCondition : Cond.code (hx_y hm_M_readsCondition) (hx_b hm_M_readsCondition) (hx_L hm_M_readsCondition) (hx_ret hm_M_readsCondition) ∈ hx_T := hx_T_in (hx_ch_in tables_1_7 (List.mem_of_getElem? (i := 7) rfl) _ (List.mem_of_getElem? (i := 27) rfl)) rfl
set_option maxRecDepth 100000 in
theorem ck_M_readsCondition : hx_cal hm_M_readsCondition := ⟨by decide +kernel, cw_M_readsCondition⟩
set_option maxRecDepth 20000 in
theorem mj_M_readsCondition : hx_ms[225]? = some hm_M_readsCondition := rfl
set_option maxRecDepth 100000 in
theorem ok_M_readsCompared : hx_okO hm_M_readsCompared = true := hq_okO (by decide +kernel)
theorem cw_M_readsCompared : Cond.code (hx_y hm_M_readsCompared) (hx_b hm_M_readsCompared) (hx_L hm_M_readsCompared) (hx_ret hm_M_readsCompared) ∈ hx_T := hx_T_in (hx_ch_in tables_1_7 (List.mem_of_getElem? (i := 7) rfl) _ (List.mem_of_getElem? (i := 31) rfl)) rfl
set_option maxRecDepth 100000 in
theorem ck_M_readsCompared : hx_cal hm_M_readsCompared := ⟨by decide +kernel, cw_M_readsCompared⟩
set_option maxRecDepth 20000 in
theorem mj_M_readsCompared : hx_ms[226]? = some hm_M_readsCompared := rfl
set_option maxRecDepth 100000 in
theorem ok_M_endsPiece : hx_okO hm_M_endsPiece = true := hq_okO (by decide +kernel)
theorem cw_M_endsPiece : Cond.code (hx_y hm_M_endsPiece) (hx_b hm_M_endsPiece) (hx_L hm_M_endsPiece) (hx_ret hm_M_endsPiece) ∈ hx_T := hx_T_in (hx_ch_in tables_1_7 (List.mem_of_getElem? (i := 7) rfl) _ (List.mem_of_getElem? (i := 35) rfl)) rfl
set_option maxRecDepth 100000 in
theorem ck_M_endsPiece : hx_cal hm_M_endsPiece := ⟨by decide +kernel, cw_M_endsPiece⟩
set_option maxRecDepth 20000 in
theorem mj_M_endsPiece : hx_ms[227]? = some hm_M_endsPiece := rfl
set_option maxRecDepth 100000 in
theorem ok_M_lands : hx_okO hm_M_lands = true := hq_okO (by decide +kernel)
theorem cw_M_lands : Cond.code (hx_y hm_M_lands) (hx_b hm_M_lands) (hx_L hm_M_lands) (hx_ret hm_M_lands) ∈ hx_T := hx_T_in (hx_ch_in tables_1_7 (List.mem_of_getElem? (i := 7) rfl) _ (List.mem_of_getElem? (i := 39) rfl)) rfl
set_option maxRecDepth 100000 in
theorem ck_M_lands : hx_cal hm_M_lands := ⟨by decide +kernel, cw_M_lands⟩
set_option maxRecDepth 20000 in
theorem mj_M_lands : hx_ms[228]? = some hm_M_lands := rfl
set_option maxRecDepth 100000 in
theorem ok_M_jumps : hx_okO hm_M_jumps = true := hq_okO (by decide +kernel)
theorem cw_M_jumps : Cond.code (hx_y hm_M_jumps) (hx_b hm_M_jumps) (hx_L hm_M_jumps) (hx_ret hm_M_jumps) ∈ hx_T := hx_T_in (hx_ch_in tables_1_7 (List.mem_of_getElem? (i := 7) rfl) _ (List.mem_of_getElem? (i := 43) rfl)) rfl
set_option maxRecDepth 100000 in
theorem ck_M_jumps : hx_cal hm_M_jumps := ⟨by decide +kernel, cw_M_jumps⟩
set_option maxRecDepth 20000 in
theorem mj_M_jumps : hx_ms[229]? = some hm_M_jumps := rfl
set_option maxRecDepth 100000 in
theorem ok_M_takes : hx_okO hm_M_takes = true := hq_okO (by decide +kernel)
theorem cw_M_takes : Cond.code (hx_y hm_M_takes) (hx_b hm_M_takes) (hx_L hm_M_takes) (hx_ret hm_M_takes) ∈ hx_T := hx_T_in (hx_ch_in tables_1_7 (List.mem_of_getElem? (i := 7) rfl) _ (List.mem_of_getElem? (i := 47) rfl)) rfl
set_option maxRecDepth 100000 in
theorem ck_M_takes : hx_cal hm_M_takes := ⟨by decide +kernel, cw_M_takes⟩
set_option maxRecDepth 20000 in
theorem mj_M_takes : hx_ms[230]? = some hm_M_takes := rfl
set_option maxRecDepth 100000 in
theorem ok_M_sees : hx_okO hm_M_sees = true := hq_okO (by decide +kernel)
theorem cw_M_sees : Cond.code (hx_y hm_M_sees) (hx_b hm_M_sees) (hx_L hm_M_sees) (hx_ret hm_M_sees) ∈ hx_T := hx_T_in (hx_ch_in tables_1_7 (List.mem_of_getElem? (i := 7) rfl) _ (List.mem_of_getElem? (i := 51) rfl)) rfl
set_option maxRecDepth 100000 in
theorem ck_M_sees : hx_cal hm_M_sees := ⟨by decide +kernel, cw_M_sees⟩
set_option maxRecDepth 20000 in
theorem mj_M_sees : hx_ms[231]? = some hm_M_sees := rfl
set_option maxRecDepth 100000 in
theorem ok_M_isEmpire : hx_okO hm_M_isEmpire = true := hq_okO (by decide +kernel)
theorem cw_M_isEmpire : Cond.code (hx_y hm_M_isEmpire) (hx_b hm_M_isEmpire) (hx_L hm_M_isEmpire) (hx_ret hm_M_isEmpire) ∈ hx_T := hx_T_in (hx_ch_in tables_1_7 (List.mem_of_getElem? (i := 7) rfl) _ (List.mem_of_getElem? (i := 54) rfl)) rfl
set_option maxRecDepth 100000 in
theorem ck_M_isEmpire : hx_cal hm_M_isEmpire := ⟨by decide +kernel, cw_M_isEmpire⟩
set_option maxRecDepth 20000 in
theorem mj_M_isEmpire : hx_ms[232]? = some hm_M_isEmpire := rfl
set_option maxRecDepth 100000 in
theorem ok_M_seenBy : hx_okO hm_M_seenBy = true := hq_okO (by decide +kernel)
theorem cw_M_seenBy : Cond.code (hx_y hm_M_seenBy) (hx_b hm_M_seenBy) (hx_L hm_M_seenBy) (hx_ret hm_M_seenBy) ∈ hx_T := hx_T_in (hx_ch_in tables_1_7 (List.mem_of_getElem? (i := 7) rfl) _ (List.mem_of_getElem? (i := 58) rfl)) rfl
set_option maxRecDepth 100000 in
theorem ck_M_seenBy : hx_cal hm_M_seenBy := ⟨by decide +kernel, cw_M_seenBy⟩
set_option maxRecDepth 20000 in
theorem mj_M_seenBy : hx_ms[233]? = some hm_M_seenBy := rfl
set_option maxRecDepth 100000 in
theorem ok_M_isSeen : hx_okO hm_M_isSeen = true := hq_okO (by decide +kernel)
theorem cw_M_isSeen : Cond.code (hx_y hm_M_isSeen) (hx_b hm_M_isSeen) (hx_L hm_M_isSeen) (hx_ret hm_M_isSeen) ∈ hx_T := hx_T_in (hx_ch_in tables_1_7 (List.mem_of_getElem? (i := 7) rfl) _ (List.mem_of_getElem? (i := 62) rfl)) rfl
set_option maxRecDepth 100000 in
theorem ck_M_isSeen : hx_cal hm_M_isSeen := ⟨by decide +kernel, cw_M_isSeen⟩
set_option maxRecDepth 20000 in
theorem mj_M_isSeen : hx_ms[234]? = some hm_M_isSeen := rfl
set_option maxRecDepth 100000 in
theorem ok_M_isMixed : hx_okO hm_M_isMixed = true := hq_okO (by decide +kernel)
theorem cw_M_isMixed : Cond.code (hx_y hm_M_isMixed) (hx_b hm_M_isMixed) (hx_L hm_M_isMixed) (hx_ret hm_M_isMixed) ∈ hx_T := hx_T_in (hx_ch_in tables_1_7 (List.mem_of_getElem? (i := 7) rfl) _ (List.mem_of_getElem? (i := 66) rfl)) rfl
set_option maxRecDepth 100000 in
theorem ck_M_isMixed : hx_cal hm_M_isMixed := ⟨by decide +kernel, cw_M_isMixed⟩
set_option maxRecDepth 20000 in
theorem mj_M_isMixed : hx_ms[235]? = some hm_M_isMixed := rfl
set_option maxRecDepth 100000 in
theorem ok_M_feels : hx_okO hm_M_feels = true := hq_okO (by decide +kernel)
theorem cw_M_feels : Cond.code (hx_y hm_M_feels) (hx_b hm_M_feels) (hx_L hm_M_feels) (hx_ret hm_M_feels) ∈ hx_T := hx_T_in (hx_ch_in tables_1_7 (List.mem_of_getElem? (i := 7) rfl) _ (List.mem_of_getElem? (i := 70) rfl)) rfl
set_option maxRecDepth 100000 in
theorem ck_M_feels : hx_cal hm_M_feels := ⟨by decide +kernel, cw_M_feels⟩
set_option maxRecDepth 20000 in
theorem mj_M_feels : hx_ms[236]? = some hm_M_feels := rfl
set_option maxRecDepth 100000 in
theorem ok_M_bits : hx_okO hm_M_bits = true := hq_okO (by decide +kernel)
theorem cw_M_bits : Cond.code (hx_y hm_M_bits) (hx_b hm_M_bits) (hx_L hm_M_bits) (hx_ret hm_M_bits) ∈ hx_T := hx_T_in (hx_ch_in tables_1_7 (List.mem_of_getElem? (i := 7) rfl) _ (List.mem_of_getElem? (i := 73) rfl)) rfl
set_option maxRecDepth 100000 in
theorem ck_M_bits : hx_cal hm_M_bits := ⟨by decide +kernel, cw_M_bits⟩
set_option maxRecDepth 20000 in
theorem mj_M_bits : hx_ms[237]? = some hm_M_bits := rfl
set_option maxRecDepth 100000 in
theorem ok_M_holds : hx_okO hm_M_holds = true := hq_okO (by decide +kernel)
theorem cw_M_holds : Cond.code (hx_y hm_M_holds) (hx_b hm_M_holds) (hx_L hm_M_holds) (hx_ret hm_M_holds) ∈ hx_T := hx_T_in (hx_ch_in tables_1_7 (List.mem_of_getElem? (i := 7) rfl) _ (List.mem_of_getElem? (i := 77) rfl)) rfl
set_option maxRecDepth 100000 in
theorem ck_M_holds : hx_cal hm_M_holds := ⟨by decide +kernel, cw_M_holds⟩
set_option maxRecDepth 20000 in
theorem mj_M_holds : hx_ms[238]? = some hm_M_holds := rfl
set_option maxRecDepth 100000 in
theorem ok_M_comesTo : hx_okO hm_M_comesTo = true := hq_okO (by decide +kernel)
theorem cw_M_comesTo : Cond.code (hx_y hm_M_comesTo) (hx_b hm_M_comesTo) (hx_L hm_M_comesTo) (hx_ret hm_M_comesTo) ∈ hx_T := hx_T_in (hx_ch_in tables_1_7 (List.mem_of_getElem? (i := 7) rfl) _ (List.mem_of_getElem? (i := 81) rfl)) rfl
set_option maxRecDepth 100000 in
theorem ck_M_comesTo : hx_cal hm_M_comesTo := ⟨by decide +kernel, cw_M_comesTo⟩
set_option maxRecDepth 20000 in
theorem mj_M_comesTo : hx_ms[239]? = some hm_M_comesTo := rfl
end
section
set_option maxRecDepth 100000 in
theorem ok_M_reckon : hx_okO hm_M_reckon = true := hq_okO (by decide +kernel)
theorem cw_M_reckon : Cond.code (hx_y hm_M_reckon) (hx_b hm_M_reckon) (hx_L hm_M_reckon) (hx_ret hm_M_reckon) ∈ hx_T := hx_T_in (hx_ch_in tables_1_7 (List.mem_of_getElem? (i := 7) rfl) _ (List.mem_of_getElem? (i := 84) rfl)) rfl
set_option maxRecDepth 100000 in
theorem ck_M_reckon : hx_cal hm_M_reckon := ⟨by decide +kernel, cw_M_reckon⟩
set_option maxRecDepth 20000 in
theorem mj_M_reckon : hx_ms[240]? = some hm_M_reckon := rfl
set_option maxRecDepth 100000 in
theorem ok_M_appears : hx_okO hm_M_appears = true := hq_okO (by decide +kernel)
theorem cw_M_appears : Cond.code (hx_y hm_M_appears) (hx_b hm_M_appears) (hx_L hm_M_appears) (hx_ret hm_M_appears) ∈ hx_T := hx_T_in (hx_ch_in tables_1_7 (List.mem_of_getElem? (i := 7) rfl) _ (List.mem_of_getElem? (i := 88) rfl)) rfl
set_option maxRecDepth 100000 in
theorem ck_M_appears : hx_cal hm_M_appears := ⟨by decide +kernel, cw_M_appears⟩
set_option maxRecDepth 20000 in
theorem mj_M_appears : hx_ms[241]? = some hm_M_appears := rfl
set_option maxRecDepth 100000 in
theorem ok_M_laysAs : hx_okO hm_M_laysAs = true := hq_okO (by decide +kernel)
theorem cw_M_laysAs : Cond.code (hx_y hm_M_laysAs) (hx_b hm_M_laysAs) (hx_L hm_M_laysAs) (hx_ret hm_M_laysAs) ∈ hx_T := hx_T_in (hx_ch_in tables_1_7 (List.mem_of_getElem? (i := 7) rfl) _ (List.mem_of_getElem? (i := 92) rfl)) rfl
set_option maxRecDepth 100000 in
theorem ck_M_laysAs : hx_cal hm_M_laysAs := ⟨by decide +kernel, cw_M_laysAs⟩
set_option maxRecDepth 20000 in
theorem mj_M_laysAs : hx_ms[242]? = some hm_M_laysAs := rfl
set_option maxRecDepth 100000 in
theorem ok_M_child : hx_okO hm_M_child = true := hq_okO (by decide +kernel)
theorem cw_M_child : Cond.code (hx_y hm_M_child) (hx_b hm_M_child) (hx_L hm_M_child) (hx_ret hm_M_child) ∈ hx_T := hx_T_in (hx_ch_in tables_1_7 (List.mem_of_getElem? (i := 7) rfl) _ (List.mem_of_getElem? (i := 96) rfl)) rfl
set_option maxRecDepth 100000 in
theorem ck_M_child : hx_cal hm_M_child := ⟨by decide +kernel, cw_M_child⟩
set_option maxRecDepth 20000 in
theorem mj_M_child : hx_ms[243]? = some hm_M_child := rfl
set_option maxRecDepth 100000 in
theorem ok_M_treaties : hx_okO hm_M_treaties = true := hq_okO (by decide +kernel)
theorem cw_M_treaties : Cond.code (hx_y hm_M_treaties) (hx_b hm_M_treaties) (hx_L hm_M_treaties) (hx_ret hm_M_treaties) ∈ hx_T := hx_T_in (hx_ch_in tables_1_7 (List.mem_of_getElem? (i := 7) rfl) _ (List.mem_of_getElem? (i := 100) rfl)) rfl
set_option maxRecDepth 100000 in
theorem ck_M_treaties : hx_cal hm_M_treaties := ⟨by decide +kernel, cw_M_treaties⟩
set_option maxRecDepth 20000 in
theorem mj_M_treaties : hx_ms[244]? = some hm_M_treaties := rfl
set_option maxRecDepth 100000 in
theorem ok_M_readsLines : hx_okO hm_M_readsLines = true := hq_okO (by decide +kernel)
theorem cw_M_readsLines : Cond.code (hx_y hm_M_readsLines) (hx_b hm_M_readsLines) (hx_L hm_M_readsLines) (hx_ret hm_M_readsLines) ∈ hx_T := hx_T_in (hx_ch_in tables_1_7 (List.mem_of_getElem? (i := 7) rfl) _ (List.mem_of_getElem? (i := 104) rfl)) rfl
set_option maxRecDepth 100000 in
theorem ck_M_readsLines : hx_cal hm_M_readsLines := ⟨by decide +kernel, cw_M_readsLines⟩
set_option maxRecDepth 20000 in
theorem mj_M_readsLines : hx_ms[245]? = some hm_M_readsLines := rfl
set_option maxRecDepth 100000 in
theorem ok_M_readsLine : hx_okO hm_M_readsLine = true := hq_okO (by decide +kernel)
theorem cw_M_readsLine : Cond.code (hx_y hm_M_readsLine) (hx_b hm_M_readsLine) (hx_L hm_M_readsLine) (hx_ret hm_M_readsLine) ∈ hx_T := hx_T_in (hx_ch_in tables_1_7 (List.mem_of_getElem? (i := 7) rfl) _ (List.mem_of_getElem? (i := 108) rfl)) rfl
set_option maxRecDepth 100000 in
theorem ck_M_readsLine : hx_cal hm_M_readsLine := ⟨by decide +kernel, cw_M_readsLine⟩
set_option maxRecDepth 20000 in
theorem mj_M_readsLine : hx_ms[246]? = some hm_M_readsLine := rfl
set_option maxRecDepth 100000 in
theorem ok_M_readsColour : hx_okO hm_M_readsColour = true := hq_okO (by decide +kernel)
theorem cw_M_readsColour : Cond.code (hx_y hm_M_readsColour) (hx_b hm_M_readsColour) (hx_L hm_M_readsColour) (hx_ret hm_M_readsColour) ∈ hx_T := hx_T_in (hx_ch_in tables_1_7 (List.mem_of_getElem? (i := 7) rfl) _ (List.mem_of_getElem? (i := 112) rfl)) rfl
set_option maxRecDepth 100000 in
theorem ck_M_readsColour : hx_cal hm_M_readsColour := ⟨by decide +kernel, cw_M_readsColour⟩
set_option maxRecDepth 20000 in
theorem mj_M_readsColour : hx_ms[247]? = some hm_M_readsColour := rfl
set_option maxRecDepth 100000 in
theorem ok_M_readsQuarters : hx_okO hm_M_readsQuarters = true := hq_okO (by decide +kernel)
theorem cw_M_readsQuarters : Cond.code (hx_y hm_M_readsQuarters) (hx_b hm_M_readsQuarters) (hx_L hm_M_readsQuarters) (hx_ret hm_M_readsQuarters) ∈ hx_T := hx_T_in (hx_ch_in tables_1_7 (List.mem_of_getElem? (i := 7) rfl) _ (List.mem_of_getElem? (i := 116) rfl)) rfl
set_option maxRecDepth 100000 in
theorem ck_M_readsQuarters : hx_cal hm_M_readsQuarters := ⟨by decide +kernel, cw_M_readsQuarters⟩
set_option maxRecDepth 20000 in
theorem mj_M_readsQuarters : hx_ms[248]? = some hm_M_readsQuarters := rfl
set_option maxRecDepth 100000 in
theorem ok_M_readsEmpire : hx_okO hm_M_readsEmpire = true := hq_okO (by decide +kernel)
theorem cw_M_readsEmpire : Cond.code (hx_y hm_M_readsEmpire) (hx_b hm_M_readsEmpire) (hx_L hm_M_readsEmpire) (hx_ret hm_M_readsEmpire) ∈ hx_T := hx_T_in (hx_ch_in tables_1_7 (List.mem_of_getElem? (i := 7) rfl) _ (List.mem_of_getElem? (i := 120) rfl)) rfl
set_option maxRecDepth 100000 in
theorem ck_M_readsEmpire : hx_cal hm_M_readsEmpire := ⟨by decide +kernel, cw_M_readsEmpire⟩
set_option maxRecDepth 20000 in
theorem mj_M_readsEmpire : hx_ms[249]? = some hm_M_readsEmpire := rfl
set_option maxRecDepth 100000 in
theorem ok_M_makes : hx_okO hm_M_makes = true := hq_okO (by decide +kernel)
theorem cw_M_makes : Cond.code (hx_y hm_M_makes) (hx_b hm_M_makes) (hx_L hm_M_makes) (hx_ret hm_M_makes) ∈ hx_T := hx_T_in (hx_ch_in tables_1_7 (List.mem_of_getElem? (i := 7) rfl) _ (List.mem_of_getElem? (i := 124) rfl)) rfl
set_option maxRecDepth 100000 in
theorem ck_M_makes : hx_cal hm_M_makes := ⟨by decide +kernel, cw_M_makes⟩
set_option maxRecDepth 20000 in
theorem mj_M_makes : hx_ms[250]? = some hm_M_makes := rfl
set_option maxRecDepth 100000 in
theorem ok_M_canBe : hx_okO hm_M_canBe = true := hq_okO (by decide +kernel)
theorem cw_M_canBe : Cond.code (hx_y hm_M_canBe) (hx_b hm_M_canBe) (hx_L hm_M_canBe) (hx_ret hm_M_canBe) ∈ hx_T := hx_T_in (hx_ch_in tables_1_7 (List.mem_of_getElem? (i := 7) rfl) _ (List.mem_of_getElem? (i := 128) rfl)) rfl
set_option maxRecDepth 100000 in
theorem ck_M_canBe : hx_cal hm_M_canBe := ⟨by decide +kernel, cw_M_canBe⟩
set_option maxRecDepth 20000 in
theorem mj_M_canBe : hx_ms[251]? = some hm_M_canBe := rfl
set_option maxRecDepth 100000 in
theorem ok_M_changes : hx_okO hm_M_changes = true := hq_okO (by decide +kernel)
theorem cw_M_changes : Cond.code (hx_y hm_M_changes) (hx_b hm_M_changes) (hx_L hm_M_changes) (hx_ret hm_M_changes) ∈ hx_T := hx_T_in (hx_ch_in tables_1_7 (List.mem_of_getElem? (i := 7) rfl) _ (List.mem_of_getElem? (i := 132) rfl)) rfl
set_option maxRecDepth 100000 in
theorem ck_M_changes : hx_cal hm_M_changes := ⟨by decide +kernel, cw_M_changes⟩
set_option maxRecDepth 20000 in
theorem mj_M_changes : hx_ms[252]? = some hm_M_changes := rfl
set_option maxRecDepth 100000 in
theorem ok_M_judged : hx_okO hm_M_judged = true := hq_okO (by decide +kernel)
theorem cw_M_judged : Cond.code (hx_y hm_M_judged) (hx_b hm_M_judged) (hx_L hm_M_judged) (hx_ret hm_M_judged) ∈ hx_T := hx_T_in (hx_ch_in tables_1_7 (List.mem_of_getElem? (i := 7) rfl) _ (List.mem_of_getElem? (i := 136) rfl)) rfl
set_option maxRecDepth 100000 in
theorem ck_M_judged : hx_cal hm_M_judged := ⟨by decide +kernel, cw_M_judged⟩
set_option maxRecDepth 20000 in
theorem mj_M_judged : hx_ms[253]? = some hm_M_judged := rfl
set_option maxRecDepth 100000 in
theorem ok_M_begins : hx_okO hm_M_begins = true := hq_okO (by decide +kernel)
theorem cw_M_begins : Cond.code (hx_y hm_M_begins) (hx_b hm_M_begins) (hx_L hm_M_begins) (hx_ret hm_M_begins) ∈ hx_T := hx_T_in (hx_ch_in tables_1_7 (List.mem_of_getElem? (i := 7) rfl) _ (List.mem_of_getElem? (i := 140) rfl)) rfl
set_option maxRecDepth 100000 in
theorem ck_M_begins : hx_cal hm_M_begins := ⟨by decide +kernel, cw_M_begins⟩
set_option maxRecDepth 20000 in
theorem mj_M_begins : hx_ms[254]? = some hm_M_begins := rfl
set_option maxRecDepth 100000 in
theorem ok_M_copies : hx_okO hm_M_copies = true := hq_okO (by decide +kernel)
theorem cw_M_copies : Cond.code (hx_y hm_M_copies) (hx_b hm_M_copies) (hx_L hm_M_copies) (hx_ret hm_M_copies) ∈ hx_T := hx_T_in (hx_ch_in tables_1_7 (List.mem_of_getElem? (i := 7) rfl) _ (List.mem_of_getElem? (i := 143) rfl)) rfl
set_option maxRecDepth 100000 in
theorem ck_M_copies : hx_cal hm_M_copies := ⟨by decide +kernel, cw_M_copies⟩
set_option maxRecDepth 20000 in
theorem mj_M_copies : hx_ms[255]? = some hm_M_copies := rfl
set_option maxRecDepth 100000 in
theorem ok_M_packs : hx_okO hm_M_packs = true := hq_okO (by decide +kernel)
theorem cw_M_packs : Cond.code (hx_y hm_M_packs) (hx_b hm_M_packs) (hx_L hm_M_packs) (hx_ret hm_M_packs) ∈ hx_T := hx_T_in (hx_ch_in tables_1_7 (List.mem_of_getElem? (i := 7) rfl) _ (List.mem_of_getElem? (i := 147) rfl)) rfl
set_option maxRecDepth 100000 in
theorem ck_M_packs : hx_cal hm_M_packs := ⟨by decide +kernel, cw_M_packs⟩
set_option maxRecDepth 20000 in
theorem mj_M_packs : hx_ms[256]? = some hm_M_packs := rfl
set_option maxRecDepth 100000 in
theorem ok_M_again : hx_okO hm_M_again = true := hq_okO (by decide +kernel)
theorem cw_M_again : Cond.code (hx_y hm_M_again) (hx_b hm_M_again) (hx_L hm_M_again) (hx_ret hm_M_again) ∈ hx_T := hx_T_in (hx_ch_in tables_1_7 (List.mem_of_getElem? (i := 7) rfl) _ (List.mem_of_getElem? (i := 151) rfl)) rfl
set_option maxRecDepth 100000 in
theorem ck_M_again : hx_cal hm_M_again := ⟨by decide +kernel, cw_M_again⟩
set_option maxRecDepth 20000 in
theorem mj_M_again : hx_ms[257]? = some hm_M_again := rfl
set_option maxRecDepth 100000 in
theorem ok_M_unpacks : hx_okO hm_M_unpacks = true := hq_okO (by decide +kernel)
theorem cw_M_unpacks : Cond.code (hx_y hm_M_unpacks) (hx_b hm_M_unpacks) (hx_L hm_M_unpacks) (hx_ret hm_M_unpacks) ∈ hx_T := hx_T_in (hx_ch_in tables_1_7 (List.mem_of_getElem? (i := 7) rfl) _ (List.mem_of_getElem? (i := 155) rfl)) rfl
set_option maxRecDepth 100000 in
theorem ck_M_unpacks : hx_cal hm_M_unpacks := ⟨by decide +kernel, cw_M_unpacks⟩
set_option maxRecDepth 20000 in
theorem mj_M_unpacks : hx_ms[258]? = some hm_M_unpacks := rfl
set_option maxRecDepth 100000 in
theorem ok_M_treatyIs : hx_okO hm_M_treatyIs = true := hq_okO (by decide +kernel)
theorem cw_M_treatyIs : Cond.code (hx_y hm_M_treatyIs) (hx_b hm_M_treatyIs) (hx_L hm_M_treatyIs) (hx_ret hm_M_treatyIs) ∈ hx_T := hx_T_in (hx_ch_in tables_1_7 (List.mem_of_getElem? (i := 7) rfl) _ (List.mem_of_getElem? (i := 159) rfl)) rfl
set_option maxRecDepth 100000 in
theorem ck_M_treatyIs : hx_cal hm_M_treatyIs := ⟨by decide +kernel, cw_M_treatyIs⟩
set_option maxRecDepth 20000 in
theorem mj_M_treatyIs : hx_ms[259]? = some hm_M_treatyIs := rfl
set_option maxRecDepth 100000 in
theorem ok_M_days : hx_okO hm_M_days = true := hq_okO (by decide +kernel)
theorem cw_M_days : Cond.code (hx_y hm_M_days) (hx_b hm_M_days) (hx_L hm_M_days) (hx_ret hm_M_days) ∈ hx_T := hx_T_in (hx_ch_in tables_1_7 (List.mem_of_getElem? (i := 7) rfl) _ (List.mem_of_getElem? (i := 163) rfl)) rfl
set_option maxRecDepth 100000 in
theorem ck_M_days : hx_cal hm_M_days := ⟨by decide +kernel, cw_M_days⟩
set_option maxRecDepth 20000 in
theorem mj_M_days : hx_ms[260]? = some hm_M_days := rfl
set_option maxRecDepth 100000 in
theorem ok_M_daysGo : hx_okO hm_M_daysGo = true := hq_okO (by decide +kernel)
theorem cw_M_daysGo : Cond.code (hx_y hm_M_daysGo) (hx_b hm_M_daysGo) (hx_L hm_M_daysGo) (hx_ret hm_M_daysGo) ∈ hx_T := hx_T_in (hx_ch_in tables_1_7 (List.mem_of_getElem? (i := 7) rfl) _ (List.mem_of_getElem? (i := 167) rfl)) rfl
set_option maxRecDepth 100000 in
theorem ck_M_daysGo : hx_cal hm_M_daysGo := ⟨by decide +kernel, cw_M_daysGo⟩
set_option maxRecDepth 20000 in
theorem mj_M_daysGo : hx_ms[261]? = some hm_M_daysGo := rfl
set_option maxRecDepth 100000 in
theorem ok_M_breaksBy : hx_okO hm_M_breaksBy = true := hq_okO (by decide +kernel)
theorem cw_M_breaksBy : Cond.code (hx_y hm_M_breaksBy) (hx_b hm_M_breaksBy) (hx_L hm_M_breaksBy) (hx_ret hm_M_breaksBy) ∈ hx_T := hx_T_in (hx_ch_in tables_1_7 (List.mem_of_getElem? (i := 7) rfl) _ (List.mem_of_getElem? (i := 172) rfl)) rfl
set_option maxRecDepth 100000 in
theorem ck_M_breaksBy : hx_cal hm_M_breaksBy := ⟨by decide +kernel, cw_M_breaksBy⟩
set_option maxRecDepth 20000 in
theorem mj_M_breaksBy : hx_ms[262]? = some hm_M_breaksBy := rfl
set_option maxRecDepth 100000 in
theorem ok_M_lowest : hx_okO hm_M_lowest = true := hq_okO (by decide +kernel)
theorem cw_M_lowest : Cond.code (hx_y hm_M_lowest) (hx_b hm_M_lowest) (hx_L hm_M_lowest) (hx_ret hm_M_lowest) ∈ hx_T := hx_T_in (hx_ch_in tables_1_7 (List.mem_of_getElem? (i := 7) rfl) _ (List.mem_of_getElem? (i := 175) rfl)) rfl
set_option maxRecDepth 100000 in
theorem ck_M_lowest : hx_cal hm_M_lowest := ⟨by decide +kernel, cw_M_lowest⟩
set_option maxRecDepth 20000 in
theorem mj_M_lowest : hx_ms[263]? = some hm_M_lowest := rfl
set_option maxRecDepth 100000 in
theorem ok_M_byLaw : hx_okO hm_M_byLaw = true := hq_okO (by decide +kernel)
theorem cw_M_byLaw : Cond.code (hx_y hm_M_byLaw) (hx_b hm_M_byLaw) (hx_L hm_M_byLaw) (hx_ret hm_M_byLaw) ∈ hx_T := hx_T_in (hx_ch_in tables_1_7 (List.mem_of_getElem? (i := 7) rfl) _ (List.mem_of_getElem? (i := 179) rfl)) rfl
set_option maxRecDepth 100000 in
theorem ck_M_byLaw : hx_cal hm_M_byLaw := ⟨by decide +kernel, cw_M_byLaw⟩
set_option maxRecDepth 20000 in
theorem mj_M_byLaw : hx_ms[264]? = some hm_M_byLaw := rfl
set_option maxRecDepth 100000 in
theorem ok_M_ends : hx_okO hm_M_ends = true := hq_okO (by decide +kernel)
theorem cw_M_ends : Cond.code (hx_y hm_M_ends) (hx_b hm_M_ends) (hx_L hm_M_ends) (hx_ret hm_M_ends) ∈ hx_T := hx_T_in (hx_ch_in tables_1_7 (List.mem_of_getElem? (i := 7) rfl) _ (List.mem_of_getElem? (i := 183) rfl)) rfl
set_option maxRecDepth 100000 in
theorem ck_M_ends : hx_cal hm_M_ends := ⟨by decide +kernel, cw_M_ends⟩
set_option maxRecDepth 20000 in
theorem mj_M_ends : hx_ms[265]? = some hm_M_ends := rfl
set_option maxRecDepth 100000 in
theorem ok_M_tried : hx_okO hm_M_tried = true := hq_okO (by decide +kernel)
theorem cw_M_tried : Cond.code (hx_y hm_M_tried) (hx_b hm_M_tried) (hx_L hm_M_tried) (hx_ret hm_M_tried) ∈ hx_T := hx_T_in (hx_ch_in tables_1_7 (List.mem_of_getElem? (i := 7) rfl) _ (List.mem_of_getElem? (i := 187) rfl)) rfl
set_option maxRecDepth 100000 in
theorem ck_M_tried : hx_cal hm_M_tried := ⟨by decide +kernel, cw_M_tried⟩
set_option maxRecDepth 20000 in
theorem mj_M_tried : hx_ms[266]? = some hm_M_tried := rfl
set_option maxRecDepth 100000 in
theorem ok_M_hadAll : hx_okO hm_M_hadAll = true := hq_okO (by decide +kernel)
theorem cw_M_hadAll : Cond.code (hx_y hm_M_hadAll) (hx_b hm_M_hadAll) (hx_L hm_M_hadAll) (hx_ret hm_M_hadAll) ∈ hx_T := hx_T_in (hx_ch_in tables_1_7 (List.mem_of_getElem? (i := 7) rfl) _ (List.mem_of_getElem? (i := 191) rfl)) rfl
set_option maxRecDepth 100000 in
theorem ck_M_hadAll : hx_cal hm_M_hadAll := ⟨by decide +kernel, cw_M_hadAll⟩
set_option maxRecDepth 20000 in
theorem mj_M_hadAll : hx_ms[267]? = some hm_M_hadAll := rfl
set_option maxRecDepth 100000 in
theorem ok_M_land : hx_okO hm_M_land = true := hq_okO (by decide +kernel)
theorem cw_M_land : Cond.code (hx_y hm_M_land) (hx_b hm_M_land) (hx_L hm_M_land) (hx_ret hm_M_land) ∈ hx_T := hx_T_in (hx_ch_in tables_1_7 (List.mem_of_getElem? (i := 7) rfl) _ (List.mem_of_getElem? (i := 195) rfl)) rfl
set_option maxRecDepth 100000 in
theorem ck_M_land : hx_cal hm_M_land := ⟨by decide +kernel, cw_M_land⟩
set_option maxRecDepth 20000 in
theorem mj_M_land : hx_ms[268]? = some hm_M_land := rfl
set_option maxRecDepth 100000 in
theorem ok_M_readsRow : hx_okO hm_M_readsRow = true := hq_okO (by decide +kernel)
theorem cw_M_readsRow : Cond.code (hx_y hm_M_readsRow) (hx_b hm_M_readsRow) (hx_L hm_M_readsRow) (hx_ret hm_M_readsRow) ∈ hx_T := hx_T_in (hx_ch_in tables_1_7 (List.mem_of_getElem? (i := 7) rfl) _ (List.mem_of_getElem? (i := 199) rfl)) rfl
set_option maxRecDepth 100000 in
theorem ck_M_readsRow : hx_cal hm_M_readsRow := ⟨by decide +kernel, cw_M_readsRow⟩
set_option maxRecDepth 20000 in
theorem mj_M_readsRow : hx_ms[269]? = some hm_M_readsRow := rfl
set_option maxRecDepth 100000 in
theorem ok_M_unseen : hx_okO hm_M_unseen = true := hq_okO (by decide +kernel)
theorem cw_M_unseen : Cond.code (hx_y hm_M_unseen) (hx_b hm_M_unseen) (hx_L hm_M_unseen) (hx_ret hm_M_unseen) ∈ hx_T := hx_T_in (hx_ch_in tables_1_7 (List.mem_of_getElem? (i := 7) rfl) _ (List.mem_of_getElem? (i := 203) rfl)) rfl
set_option maxRecDepth 100000 in
theorem ck_M_unseen : hx_cal hm_M_unseen := ⟨by decide +kernel, cw_M_unseen⟩
set_option maxRecDepth 20000 in
theorem mj_M_unseen : hx_ms[270]? = some hm_M_unseen := rfl
set_option maxRecDepth 100000 in
theorem ok_M_isUnseen : hx_okO hm_M_isUnseen = true := hq_okO (by decide +kernel)
theorem cw_M_isUnseen : Cond.code (hx_y hm_M_isUnseen) (hx_b hm_M_isUnseen) (hx_L hm_M_isUnseen) (hx_ret hm_M_isUnseen) ∈ hx_T := hx_T_in (hx_ch_in tables_1_7 (List.mem_of_getElem? (i := 7) rfl) _ (List.mem_of_getElem? (i := 207) rfl)) rfl
set_option maxRecDepth 100000 in
theorem ck_M_isUnseen : hx_cal hm_M_isUnseen := ⟨by decide +kernel, cw_M_isUnseen⟩
set_option maxRecDepth 20000 in
theorem mj_M_isUnseen : hx_ms[271]? = some hm_M_isUnseen := rfl
set_option maxRecDepth 100000 in
theorem ok_M_way : hx_okO hm_M_way = true := hq_okO (by decide +kernel)
theorem cw_M_way : Cond.code (hx_y hm_M_way) (hx_b hm_M_way) (hx_L hm_M_way) (hx_ret hm_M_way) ∈ hx_T := hx_T_in (hx_ch_in tables_1_7 (List.mem_of_getElem? (i := 7) rfl) _ (List.mem_of_getElem? (i := 211) rfl)) rfl
set_option maxRecDepth 100000 in
theorem ck_M_way : hx_cal hm_M_way := ⟨by decide +kernel, cw_M_way⟩
set_option maxRecDepth 20000 in
theorem mj_M_way : hx_ms[272]? = some hm_M_way := rfl
set_option maxRecDepth 100000 in
theorem ok_M_laysCosts : hx_okO hm_M_laysCosts = true := hq_okO (by decide +kernel)
theorem cw_M_laysCosts : Cond.code (hx_y hm_M_laysCosts) (hx_b hm_M_laysCosts) (hx_L hm_M_laysCosts) (hx_ret hm_M_laysCosts) ∈ hx_T := hx_T_in (hx_ch_in tables_1_7 (List.mem_of_getElem? (i := 7) rfl) _ (List.mem_of_getElem? (i := 215) rfl)) rfl
set_option maxRecDepth 100000 in
theorem ck_M_laysCosts : hx_cal hm_M_laysCosts := ⟨by decide +kernel, cw_M_laysCosts⟩
set_option maxRecDepth 20000 in
theorem mj_M_laysCosts : hx_ms[273]? = some hm_M_laysCosts := rfl
set_option maxRecDepth 100000 in
theorem ok_M_beside : hx_okO hm_M_beside = true := hq_okO (by decide +kernel)
theorem cw_M_beside : Cond.code (hx_y hm_M_beside) (hx_b hm_M_beside) (hx_L hm_M_beside) (hx_ret hm_M_beside) ∈ hx_T := hx_T_in (hx_ch_in tables_1_7 (List.mem_of_getElem? (i := 7) rfl) _ (List.mem_of_getElem? (i := 220) rfl)) rfl
set_option maxRecDepth 100000 in
theorem ck_M_beside : hx_cal hm_M_beside := ⟨by decide +kernel, cw_M_beside⟩
set_option maxRecDepth 20000 in
theorem mj_M_beside : hx_ms[274]? = some hm_M_beside := rfl
set_option maxRecDepth 100000 in
theorem ok_M_worth : hx_okO hm_M_worth = true := hq_okO (by decide +kernel)
theorem cw_M_worth : Cond.code (hx_y hm_M_worth) (hx_b hm_M_worth) (hx_L hm_M_worth) (hx_ret hm_M_worth) ∈ hx_T := hx_T_in (hx_ch_in tables_1_7 (List.mem_of_getElem? (i := 7) rfl) _ (List.mem_of_getElem? (i := 224) rfl)) rfl
set_option maxRecDepth 100000 in
theorem ck_M_worth : hx_cal hm_M_worth := ⟨by decide +kernel, cw_M_worth⟩
set_option maxRecDepth 20000 in
theorem mj_M_worth : hx_ms[275]? = some hm_M_worth := rfl
set_option maxRecDepth 100000 in
theorem ok_M_worthOf : hx_okO hm_M_worthOf = true := hq_okO (by decide +kernel)
theorem cw_M_worthOf : Cond.code (hx_y hm_M_worthOf) (hx_b hm_M_worthOf) (hx_L hm_M_worthOf) (hx_ret hm_M_worthOf) ∈ hx_T := hx_T_in (hx_ch_in tables_1_7 (List.mem_of_getElem? (i := 7) rfl) _ (List.mem_of_getElem? (i := 228) rfl)) rfl
set_option maxRecDepth 100000 in
theorem ck_M_worthOf : hx_cal hm_M_worthOf := ⟨by decide +kernel, cw_M_worthOf⟩
set_option maxRecDepth 20000 in
theorem mj_M_worthOf : hx_ms[276]? = some hm_M_worthOf := rfl
set_option maxRecDepth 100000 in
theorem ok_M_ownedOf : hx_okO hm_M_ownedOf = true := hq_okO (by decide +kernel)
theorem cw_M_ownedOf : Cond.code (hx_y hm_M_ownedOf) (hx_b hm_M_ownedOf) (hx_L hm_M_ownedOf) (hx_ret hm_M_ownedOf) ∈ hx_T := hx_T_in (hx_ch_in tables_1_7 (List.mem_of_getElem? (i := 7) rfl) _ (List.mem_of_getElem? (i := 232) rfl)) rfl
set_option maxRecDepth 100000 in
theorem ck_M_ownedOf : hx_cal hm_M_ownedOf := ⟨by decide +kernel, cw_M_ownedOf⟩
set_option maxRecDepth 20000 in
theorem mj_M_ownedOf : hx_ms[277]? = some hm_M_ownedOf := rfl
set_option maxRecDepth 100000 in
theorem ok_M_gain : hx_okO hm_M_gain = true := hq_okO (by decide +kernel)
theorem cw_M_gain : Cond.code (hx_y hm_M_gain) (hx_b hm_M_gain) (hx_L hm_M_gain) (hx_ret hm_M_gain) ∈ hx_T := hx_T_in (hx_ch_in tables_1_7 (List.mem_of_getElem? (i := 7) rfl) _ (List.mem_of_getElem? (i := 236) rfl)) rfl
set_option maxRecDepth 100000 in
theorem ck_M_gain : hx_cal hm_M_gain := ⟨by decide +kernel, cw_M_gain⟩
set_option maxRecDepth 20000 in
theorem mj_M_gain : hx_ms[278]? = some hm_M_gain := rfl
set_option maxRecDepth 100000 in
theorem ok_M_power : hx_okO hm_M_power = true := hq_okO (by decide +kernel)
theorem cw_M_power : Cond.code (hx_y hm_M_power) (hx_b hm_M_power) (hx_L hm_M_power) (hx_ret hm_M_power) ∈ hx_T := hx_T_in (hx_ch_in tables_1_8 (List.mem_of_getElem? (i := 8) rfl) _ (List.mem_of_getElem? (i := 1) rfl)) rfl
set_option maxRecDepth 100000 in
theorem ck_M_power : hx_cal hm_M_power := ⟨by decide +kernel, cw_M_power⟩
set_option maxRecDepth 20000 in
theorem mj_M_power : hx_ms[279]? = some hm_M_power := rfl
set_option maxRecDepth 100000 in
theorem ok_M_orders : hx_okO hm_M_orders = true := hq_okO (by decide +kernel)
theorem cw_M_orders : Cond.code (hx_y hm_M_orders) (hx_b hm_M_orders) (hx_L hm_M_orders) (hx_ret hm_M_orders) ∈ hx_T := hx_T_in (hx_ch_in tables_1_8 (List.mem_of_getElem? (i := 8) rfl) _ (List.mem_of_getElem? (i := 4) rfl)) rfl
set_option maxRecDepth 100000 in
theorem ck_M_orders : hx_cal hm_M_orders := ⟨by decide +kernel, cw_M_orders⟩
set_option maxRecDepth 20000 in
theorem mj_M_orders : hx_ms[280]? = some hm_M_orders := rfl
set_option maxRecDepth 100000 in
theorem ok_M_worthWith : hx_okO hm_M_worthWith = true := hq_okO (by decide +kernel)
theorem cw_M_worthWith : Cond.code (hx_y hm_M_worthWith) (hx_b hm_M_worthWith) (hx_L hm_M_worthWith) (hx_ret hm_M_worthWith) ∈ hx_T := hx_T_in (hx_ch_in tables_1_8 (List.mem_of_getElem? (i := 8) rfl) _ (List.mem_of_getElem? (i := 8) rfl)) rfl
set_option maxRecDepth 100000 in
theorem ck_M_worthWith : hx_cal hm_M_worthWith := ⟨by decide +kernel, cw_M_worthWith⟩
set_option maxRecDepth 20000 in
theorem mj_M_worthWith : hx_ms[281]? = some hm_M_worthWith := rfl
set_option maxRecDepth 100000 in
theorem ok_M_gcd : hx_okO hm_M_gcd = true := hq_okO (by decide +kernel)
theorem cw_M_gcd : Cond.code (hx_y hm_M_gcd) (hx_b hm_M_gcd) (hx_L hm_M_gcd) (hx_ret hm_M_gcd) ∈ hx_T := hx_T_in (hx_ch_in tables_1_8 (List.mem_of_getElem? (i := 8) rfl) _ (List.mem_of_getElem? (i := 11) rfl)) rfl
set_option maxRecDepth 100000 in
theorem ck_M_gcd : hx_cal hm_M_gcd := ⟨by decide +kernel, cw_M_gcd⟩
set_option maxRecDepth 20000 in
theorem mj_M_gcd : hx_ms[282]? = some hm_M_gcd := rfl
set_option maxRecDepth 100000 in
theorem ok_M_signals : hx_okO hm_M_signals = true := hq_okO (by decide +kernel)
theorem cw_M_signals : Cond.code (hx_y hm_M_signals) (hx_b hm_M_signals) (hx_L hm_M_signals) (hx_ret hm_M_signals) ∈ hx_T := hx_T_in (hx_ch_in tables_1_8 (List.mem_of_getElem? (i := 8) rfl) _ (List.mem_of_getElem? (i := 15) rfl)) rfl
set_option maxRecDepth 100000 in
theorem ck_M_signals : hx_cal hm_M_signals := ⟨by decide +kernel, cw_M_signals⟩
set_option maxRecDepth 20000 in
theorem mj_M_signals : hx_ms[283]? = some hm_M_signals := rfl
set_option maxRecDepth 100000 in
theorem ok_M_laysAll : hx_okO hm_M_laysAll = true := hq_okO (by decide +kernel)
theorem cw_M_laysAll : Cond.code (hx_y hm_M_laysAll) (hx_b hm_M_laysAll) (hx_L hm_M_laysAll) (hx_ret hm_M_laysAll) ∈ hx_T := hx_T_in (hx_ch_in tables_1_8 (List.mem_of_getElem? (i := 8) rfl) _ (List.mem_of_getElem? (i := 19) rfl)) rfl
set_option maxRecDepth 100000 in
theorem ck_M_laysAll : hx_cal hm_M_laysAll := ⟨by decide +kernel, cw_M_laysAll⟩
set_option maxRecDepth 20000 in
theorem mj_M_laysAll : hx_ms[284]? = some hm_M_laysAll := rfl
set_option maxRecDepth 100000 in
theorem ok_M_isSignal : hx_okO hm_M_isSignal = true := hq_okO (by decide +kernel)
theorem cw_M_isSignal : Cond.code (hx_y hm_M_isSignal) (hx_b hm_M_isSignal) (hx_L hm_M_isSignal) (hx_ret hm_M_isSignal) ∈ hx_T := hx_T_in (hx_ch_in tables_1_8 (List.mem_of_getElem? (i := 8) rfl) _ (List.mem_of_getElem? (i := 23) rfl)) rfl
set_option maxRecDepth 100000 in
theorem ck_M_isSignal : hx_cal hm_M_isSignal := ⟨by decide +kernel, cw_M_isSignal⟩
set_option maxRecDepth 20000 in
theorem mj_M_isSignal : hx_ms[285]? = some hm_M_isSignal := rfl
set_option maxRecDepth 100000 in
theorem ok_M_tellsApart : hx_okO hm_M_tellsApart = true := hq_okO (by decide +kernel)
theorem cw_M_tellsApart : Cond.code (hx_y hm_M_tellsApart) (hx_b hm_M_tellsApart) (hx_L hm_M_tellsApart) (hx_ret hm_M_tellsApart) ∈ hx_T := hx_T_in (hx_ch_in tables_1_8 (List.mem_of_getElem? (i := 8) rfl) _ (List.mem_of_getElem? (i := 27) rfl)) rfl
set_option maxRecDepth 100000 in
theorem ck_M_tellsApart : hx_cal hm_M_tellsApart := ⟨by decide +kernel, cw_M_tellsApart⟩
set_option maxRecDepth 20000 in
theorem mj_M_tellsApart : hx_ms[286]? = some hm_M_tellsApart := rfl
set_option maxRecDepth 100000 in
theorem ok_M_seesOne : hx_okO hm_M_seesOne = true := hq_okO (by decide +kernel)
theorem cw_M_seesOne : Cond.code (hx_y hm_M_seesOne) (hx_b hm_M_seesOne) (hx_L hm_M_seesOne) (hx_ret hm_M_seesOne) ∈ hx_T := hx_T_in (hx_ch_in tables_1_8 (List.mem_of_getElem? (i := 8) rfl) _ (List.mem_of_getElem? (i := 31) rfl)) rfl
set_option maxRecDepth 100000 in
theorem ck_M_seesOne : hx_cal hm_M_seesOne := ⟨by decide +kernel, cw_M_seesOne⟩
set_option maxRecDepth 20000 in
theorem mj_M_seesOne : hx_ms[287]? = some hm_M_seesOne := rfl
set_option maxRecDepth 100000 in
theorem ok_M_max : hx_okO hm_M_max = true := hq_okO (by decide +kernel)
theorem cw_M_max : Cond.code (hx_y hm_M_max) (hx_b hm_M_max) (hx_L hm_M_max) (hx_ret hm_M_max) ∈ hx_T := hx_T_in (hx_ch_in tables_1_8 (List.mem_of_getElem? (i := 8) rfl) _ (List.mem_of_getElem? (i := 34) rfl)) rfl
set_option maxRecDepth 100000 in
theorem ck_M_max : hx_cal hm_M_max := ⟨by decide +kernel, cw_M_max⟩
set_option maxRecDepth 20000 in
theorem mj_M_max : hx_ms[288]? = some hm_M_max := rfl
set_option maxRecDepth 100000 in
theorem ok_M_parted : hx_okO hm_M_parted = true := hq_okO (by decide +kernel)
theorem cw_M_parted : Cond.code (hx_y hm_M_parted) (hx_b hm_M_parted) (hx_L hm_M_parted) (hx_ret hm_M_parted) ∈ hx_T := hx_T_in (hx_ch_in tables_1_8 (List.mem_of_getElem? (i := 8) rfl) _ (List.mem_of_getElem? (i := 38) rfl)) rfl
set_option maxRecDepth 100000 in
theorem ck_M_parted : hx_cal hm_M_parted := ⟨by decide +kernel, cw_M_parted⟩
set_option maxRecDepth 20000 in
theorem mj_M_parted : hx_ms[289]? = some hm_M_parted := rfl
set_option maxRecDepth 100000 in
theorem ok_M_leastBy : hx_okO hm_M_leastBy = true := hq_okO (by decide +kernel)
theorem cw_M_leastBy : Cond.code (hx_y hm_M_leastBy) (hx_b hm_M_leastBy) (hx_L hm_M_leastBy) (hx_ret hm_M_leastBy) ∈ hx_T := hx_T_in (hx_ch_in tables_1_8 (List.mem_of_getElem? (i := 8) rfl) _ (List.mem_of_getElem? (i := 42) rfl)) rfl
set_option maxRecDepth 100000 in
theorem ck_M_leastBy : hx_cal hm_M_leastBy := ⟨by decide +kernel, cw_M_leastBy⟩
set_option maxRecDepth 20000 in
theorem mj_M_leastBy : hx_ms[290]? = some hm_M_leastBy := rfl
set_option maxRecDepth 100000 in
theorem ok_M_hasBy : hx_okO hm_M_hasBy = true := hq_okO (by decide +kernel)
theorem cw_M_hasBy : Cond.code (hx_y hm_M_hasBy) (hx_b hm_M_hasBy) (hx_L hm_M_hasBy) (hx_ret hm_M_hasBy) ∈ hx_T := hx_T_in (hx_ch_in tables_1_8 (List.mem_of_getElem? (i := 8) rfl) _ (List.mem_of_getElem? (i := 46) rfl)) rfl
set_option maxRecDepth 100000 in
theorem ck_M_hasBy : hx_cal hm_M_hasBy := ⟨by decide +kernel, cw_M_hasBy⟩
set_option maxRecDepth 20000 in
theorem mj_M_hasBy : hx_ms[291]? = some hm_M_hasBy := rfl
set_option maxRecDepth 100000 in
theorem ok_M_min : hx_okO hm_M_min = true := hq_okO (by decide +kernel)
theorem cw_M_min : Cond.code (hx_y hm_M_min) (hx_b hm_M_min) (hx_L hm_M_min) (hx_ret hm_M_min) ∈ hx_T := hx_T_in (hx_ch_in tables_1_8 (List.mem_of_getElem? (i := 8) rfl) _ (List.mem_of_getElem? (i := 49) rfl)) rfl
set_option maxRecDepth 100000 in
theorem ck_M_min : hx_cal hm_M_min := ⟨by decide +kernel, cw_M_min⟩
set_option maxRecDepth 20000 in
theorem mj_M_min : hx_ms[292]? = some hm_M_min := rfl
set_option maxRecDepth 100000 in
theorem ok_M_battle : hx_okO hm_M_battle = true := hq_okO (by decide +kernel)
theorem cw_M_battle : Cond.code (hx_y hm_M_battle) (hx_b hm_M_battle) (hx_L hm_M_battle) (hx_ret hm_M_battle) ∈ hx_T := hx_T_in (hx_ch_in tables_1_8 (List.mem_of_getElem? (i := 8) rfl) _ (List.mem_of_getElem? (i := 53) rfl)) rfl
set_option maxRecDepth 100000 in
theorem ck_M_battle : hx_cal hm_M_battle := ⟨by decide +kernel, cw_M_battle⟩
set_option maxRecDepth 20000 in
theorem mj_M_battle : hx_ms[293]? = some hm_M_battle := rfl
set_option maxRecDepth 100000 in
theorem ok_M_laysFights : hx_okO hm_M_laysFights = true := hq_okO (by decide +kernel)
theorem cw_M_laysFights : Cond.code (hx_y hm_M_laysFights) (hx_b hm_M_laysFights) (hx_L hm_M_laysFights) (hx_ret hm_M_laysFights) ∈ hx_T := hx_T_in (hx_ch_in tables_1_8 (List.mem_of_getElem? (i := 8) rfl) _ (List.mem_of_getElem? (i := 57) rfl)) rfl
set_option maxRecDepth 100000 in
theorem ck_M_laysFights : hx_cal hm_M_laysFights := ⟨by decide +kernel, cw_M_laysFights⟩
set_option maxRecDepth 20000 in
theorem mj_M_laysFights : hx_ms[294]? = some hm_M_laysFights := rfl
set_option maxRecDepth 100000 in
theorem ok_M_canTake : hx_okO hm_M_canTake = true := hq_okO (by decide +kernel)
theorem cw_M_canTake : Cond.code (hx_y hm_M_canTake) (hx_b hm_M_canTake) (hx_L hm_M_canTake) (hx_ret hm_M_canTake) ∈ hx_T := hx_T_in (hx_ch_in tables_1_8 (List.mem_of_getElem? (i := 8) rfl) _ (List.mem_of_getElem? (i := 61) rfl)) rfl
set_option maxRecDepth 100000 in
theorem ck_M_canTake : hx_cal hm_M_canTake := ⟨by decide +kernel, cw_M_canTake⟩
set_option maxRecDepth 20000 in
theorem mj_M_canTake : hx_ms[295]? = some hm_M_canTake := rfl
set_option maxRecDepth 100000 in
theorem ok_M_rests : hx_okO hm_M_rests = true := hq_okO (by decide +kernel)
theorem cw_M_rests : Cond.code (hx_y hm_M_rests) (hx_b hm_M_rests) (hx_L hm_M_rests) (hx_ret hm_M_rests) ∈ hx_T := hx_T_in (hx_ch_in tables_1_8 (List.mem_of_getElem? (i := 8) rfl) _ (List.mem_of_getElem? (i := 65) rfl)) rfl
set_option maxRecDepth 100000 in
theorem ck_M_rests : hx_cal hm_M_rests := ⟨by decide +kernel, cw_M_rests⟩
set_option maxRecDepth 20000 in
theorem mj_M_rests : hx_ms[296]? = some hm_M_rests := rfl
set_option maxRecDepth 100000 in
theorem ok_M_spies : hx_okO hm_M_spies = true := hq_okO (by decide +kernel)
theorem cw_M_spies : Cond.code (hx_y hm_M_spies) (hx_b hm_M_spies) (hx_L hm_M_spies) (hx_ret hm_M_spies) ∈ hx_T := hx_T_in (hx_ch_in tables_1_8 (List.mem_of_getElem? (i := 8) rfl) _ (List.mem_of_getElem? (i := 69) rfl)) rfl
set_option maxRecDepth 100000 in
theorem ck_M_spies : hx_cal hm_M_spies := ⟨by decide +kernel, cw_M_spies⟩
set_option maxRecDepth 20000 in
theorem mj_M_spies : hx_ms[297]? = some hm_M_spies := rfl
set_option maxRecDepth 100000 in
theorem ok_M_areShown : hx_okO hm_M_areShown = true := hq_okO (by decide +kernel)
theorem cw_M_areShown : Cond.code (hx_y hm_M_areShown) (hx_b hm_M_areShown) (hx_L hm_M_areShown) (hx_ret hm_M_areShown) ∈ hx_T := hx_T_in (hx_ch_in tables_1_8 (List.mem_of_getElem? (i := 8) rfl) _ (List.mem_of_getElem? (i := 73) rfl)) rfl
set_option maxRecDepth 100000 in
theorem ck_M_areShown : hx_cal hm_M_areShown := ⟨by decide +kernel, cw_M_areShown⟩
set_option maxRecDepth 20000 in
theorem mj_M_areShown : hx_ms[298]? = some hm_M_areShown := rfl
set_option maxRecDepth 100000 in
theorem ok_M_fitting : hx_okO hm_M_fitting = true := hq_okO (by decide +kernel)
theorem cw_M_fitting : Cond.code (hx_y hm_M_fitting) (hx_b hm_M_fitting) (hx_L hm_M_fitting) (hx_ret hm_M_fitting) ∈ hx_T := hx_T_in (hx_ch_in tables_1_8 (List.mem_of_getElem? (i := 8) rfl) _ (List.mem_of_getElem? (i := 77) rfl)) rfl
set_option maxRecDepth 100000 in
theorem ck_M_fitting : hx_cal hm_M_fitting := ⟨by decide +kernel, cw_M_fitting⟩
set_option maxRecDepth 20000 in
theorem mj_M_fitting : hx_ms[299]? = some hm_M_fitting := rfl
set_option maxRecDepth 100000 in
theorem ok_M_stops : hx_okO hm_M_stops = true := hq_okO (by decide +kernel)
theorem cw_M_stops : Cond.code (hx_y hm_M_stops) (hx_b hm_M_stops) (hx_L hm_M_stops) (hx_ret hm_M_stops) ∈ hx_T := hx_T_in (hx_ch_in tables_1_8 (List.mem_of_getElem? (i := 8) rfl) _ (List.mem_of_getElem? (i := 81) rfl)) rfl
set_option maxRecDepth 100000 in
theorem ck_M_stops : hx_cal hm_M_stops := ⟨by decide +kernel, cw_M_stops⟩
set_option maxRecDepth 20000 in
theorem mj_M_stops : hx_ms[300]? = some hm_M_stops := rfl
set_option maxRecDepth 100000 in
theorem ok_M_greaterBy : hx_okO hm_M_greaterBy = true := hq_okO (by decide +kernel)
theorem cw_M_greaterBy : Cond.code (hx_y hm_M_greaterBy) (hx_b hm_M_greaterBy) (hx_L hm_M_greaterBy) (hx_ret hm_M_greaterBy) ∈ hx_T := hx_T_in (hx_ch_in tables_1_8 (List.mem_of_getElem? (i := 8) rfl) _ (List.mem_of_getElem? (i := 85) rfl)) rfl
set_option maxRecDepth 100000 in
theorem ck_M_greaterBy : hx_cal hm_M_greaterBy := ⟨by decide +kernel, cw_M_greaterBy⟩
set_option maxRecDepth 20000 in
theorem mj_M_greaterBy : hx_ms[301]? = some hm_M_greaterBy := rfl
set_option maxRecDepth 100000 in
theorem ok_M_painting : hx_okO hm_M_painting = true := hq_okO (by decide +kernel)
theorem cw_M_painting : Cond.code (hx_y hm_M_painting) (hx_b hm_M_painting) (hx_L hm_M_painting) (hx_ret hm_M_painting) ∈ hx_T := hx_T_in (hx_ch_in tables_1_8 (List.mem_of_getElem? (i := 8) rfl) _ (List.mem_of_getElem? (i := 89) rfl)) rfl
set_option maxRecDepth 100000 in
theorem ck_M_painting : hx_cal hm_M_painting := ⟨by decide +kernel, cw_M_painting⟩
set_option maxRecDepth 20000 in
theorem mj_M_painting : hx_ms[302]? = some hm_M_painting := rfl
set_option maxRecDepth 100000 in
theorem ok_M_ash : hx_okO hm_M_ash = true := hq_okO (by decide +kernel)
theorem cw_M_ash : Cond.code (hx_y hm_M_ash) (hx_b hm_M_ash) (hx_L hm_M_ash) (hx_ret hm_M_ash) ∈ hx_T := hx_T_in (hx_ch_in tables_1_8 (List.mem_of_getElem? (i := 8) rfl) _ (List.mem_of_getElem? (i := 93) rfl)) rfl
set_option maxRecDepth 100000 in
theorem ck_M_ash : hx_cal hm_M_ash := ⟨by decide +kernel, cw_M_ash⟩
set_option maxRecDepth 20000 in
theorem mj_M_ash : hx_ms[303]? = some hm_M_ash := rfl
set_option maxRecDepth 100000 in
theorem ok_M_laysSeas : hx_okO hm_M_laysSeas = true := hq_okO (by decide +kernel)
theorem cw_M_laysSeas : Cond.code (hx_y hm_M_laysSeas) (hx_b hm_M_laysSeas) (hx_L hm_M_laysSeas) (hx_ret hm_M_laysSeas) ∈ hx_T := hx_T_in (hx_ch_in tables_1_8 (List.mem_of_getElem? (i := 8) rfl) _ (List.mem_of_getElem? (i := 97) rfl)) rfl
set_option maxRecDepth 100000 in
theorem ck_M_laysSeas : hx_cal hm_M_laysSeas := ⟨by decide +kernel, cw_M_laysSeas⟩
set_option maxRecDepth 20000 in
theorem mj_M_laysSeas : hx_ms[304]? = some hm_M_laysSeas := rfl
set_option maxRecDepth 100000 in
theorem ok_M_joins : hx_okO hm_M_joins = true := hq_okO (by decide +kernel)
theorem cw_M_joins : Cond.code (hx_y hm_M_joins) (hx_b hm_M_joins) (hx_L hm_M_joins) (hx_ret hm_M_joins) ∈ hx_T := hx_T_in (hx_ch_in tables_1_8 (List.mem_of_getElem? (i := 8) rfl) _ (List.mem_of_getElem? (i := 101) rfl)) rfl
set_option maxRecDepth 100000 in
theorem ck_M_joins : hx_cal hm_M_joins := ⟨by decide +kernel, cw_M_joins⟩
set_option maxRecDepth 20000 in
theorem mj_M_joins : hx_ms[305]? = some hm_M_joins := rfl
set_option maxRecDepth 100000 in
theorem ok_M_seed : hx_okO hm_M_seed = true := hq_okO (by decide +kernel)
theorem cw_M_seed : Cond.code (hx_y hm_M_seed) (hx_b hm_M_seed) (hx_L hm_M_seed) (hx_ret hm_M_seed) ∈ hx_T := hx_T_in (hx_ch_in tables_1_8 (List.mem_of_getElem? (i := 8) rfl) _ (List.mem_of_getElem? (i := 105) rfl)) rfl
set_option maxRecDepth 100000 in
theorem ck_M_seed : hx_cal hm_M_seed := ⟨by decide +kernel, cw_M_seed⟩
set_option maxRecDepth 20000 in
theorem mj_M_seed : hx_ms[306]? = some hm_M_seed := rfl
set_option maxRecDepth 100000 in
theorem ok_M_keep : hx_okO hm_M_keep = true := hq_okO (by decide +kernel)
theorem cw_M_keep : Cond.code (hx_y hm_M_keep) (hx_b hm_M_keep) (hx_L hm_M_keep) (hx_ret hm_M_keep) ∈ hx_T := hx_T_in (hx_ch_in tables_1_8 (List.mem_of_getElem? (i := 8) rfl) _ (List.mem_of_getElem? (i := 110) rfl)) rfl
set_option maxRecDepth 100000 in
theorem ck_M_keep : hx_cal hm_M_keep := ⟨by decide +kernel, cw_M_keep⟩
set_option maxRecDepth 20000 in
theorem mj_M_keep : hx_ms[307]? = some hm_M_keep := rfl
set_option maxRecDepth 100000 in
theorem ok_M_undo : hx_okO hm_M_undo = true := hq_okO (by decide +kernel)
theorem cw_M_undo : Cond.code (hx_y hm_M_undo) (hx_b hm_M_undo) (hx_L hm_M_undo) (hx_ret hm_M_undo) ∈ hx_T := hx_T_in (hx_ch_in tables_1_8 (List.mem_of_getElem? (i := 8) rfl) _ (List.mem_of_getElem? (i := 114) rfl)) rfl
set_option maxRecDepth 100000 in
theorem ck_M_undo : hx_cal hm_M_undo := ⟨by decide +kernel, cw_M_undo⟩
set_option maxRecDepth 20000 in
theorem mj_M_undo : hx_ms[308]? = some hm_M_undo := rfl
set_option maxRecDepth 100000 in
theorem ok_M_check : hx_okO hm_M_check = true := hq_okO (by decide +kernel)
theorem cw_M_check : Cond.code (hx_y hm_M_check) (hx_b hm_M_check) (hx_L hm_M_check) (hx_ret hm_M_check) ∈ hx_T := hx_T_in (hx_ch_in tables_1_8 (List.mem_of_getElem? (i := 8) rfl) _ (List.mem_of_getElem? (i := 118) rfl)) rfl
set_option maxRecDepth 100000 in
theorem ck_M_check : hx_cal hm_M_check := ⟨by decide +kernel, cw_M_check⟩
set_option maxRecDepth 20000 in
theorem mj_M_check : hx_ms[309]? = some hm_M_check := rfl
set_option maxRecDepth 100000 in
theorem ok_M_tapeNumber : hx_okO hm_M_tapeNumber = true := hq_okO (by decide +kernel)
theorem cw_M_tapeNumber : Cond.code (hx_y hm_M_tapeNumber) (hx_b hm_M_tapeNumber) (hx_L hm_M_tapeNumber) (hx_ret hm_M_tapeNumber) ∈ hx_T := hx_T_in (hx_ch_in tables_1_8 (List.mem_of_getElem? (i := 8) rfl) _ (List.mem_of_getElem? (i := 122) rfl)) rfl
set_option maxRecDepth 100000 in
theorem ck_M_tapeNumber : hx_cal hm_M_tapeNumber := ⟨by decide +kernel, cw_M_tapeNumber⟩
set_option maxRecDepth 20000 in
theorem mj_M_tapeNumber : hx_ms[310]? = some hm_M_tapeNumber := rfl
set_option maxRecDepth 100000 in
theorem ok_M_count : hx_okO hm_M_count = true := hq_okO (by decide +kernel)
theorem cw_M_count : Cond.code (hx_y hm_M_count) (hx_b hm_M_count) (hx_L hm_M_count) (hx_ret hm_M_count) ∈ hx_T := hx_T_in (hx_ch_in tables_1_8 (List.mem_of_getElem? (i := 8) rfl) _ (List.mem_of_getElem? (i := 126) rfl)) rfl
set_option maxRecDepth 100000 in
theorem ck_M_count : hx_cal hm_M_count := ⟨by decide +kernel, cw_M_count⟩
set_option maxRecDepth 20000 in
theorem mj_M_count : hx_ms[311]? = some hm_M_count := rfl
set_option maxRecDepth 100000 in
theorem ok_M_mixedBits : hx_okO hm_M_mixedBits = true := hq_okO (by decide +kernel)
theorem cw_M_mixedBits : Cond.code (hx_y hm_M_mixedBits) (hx_b hm_M_mixedBits) (hx_L hm_M_mixedBits) (hx_ret hm_M_mixedBits) ∈ hx_T := hx_T_in (hx_ch_in tables_1_8 (List.mem_of_getElem? (i := 8) rfl) _ (List.mem_of_getElem? (i := 130) rfl)) rfl
set_option maxRecDepth 100000 in
theorem ck_M_mixedBits : hx_cal hm_M_mixedBits := ⟨by decide +kernel, cw_M_mixedBits⟩
set_option maxRecDepth 20000 in
theorem mj_M_mixedBits : hx_ms[312]? = some hm_M_mixedBits := rfl
end
section
set_option maxRecDepth 100000 in
theorem ok_law : hx_okO hm_law = true := hq_okO (by decide +kernel)
end
