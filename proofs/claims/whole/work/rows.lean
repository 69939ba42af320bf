section
-- ===== PART A: goes FIRST, ahead of the names: the tables' words, and 'selects' of the private methods out of them =====
/-- a private method of a class that the tables say can be made, by its rows of tables_1 -/
def lw_okq (q : MethodName × Nat) : Prop := (q.1.cls ≠ "java/lang/invoke/MethodHandle" ∧ q.1.cls ≠ "java/lang/invoke/VarHandle") ∧ Cond.instantiable q.1.cls q.2 ∈ tables_1 ∧ Cond.privateMethod q.1 ∈ tables_1 ∧ Cond.instanceMethod q.1 ∈ tables_1
theorem lw_p0 : lw_okq (⟨"TwiceRunning", "finding", "(I)I"⟩, 8) := ⟨⟨by decide +kernel, by decide +kernel⟩, List.mem_of_getElem? (i := 16) (by decide +kernel), List.mem_of_getElem? (i := 312) (by decide +kernel), List.mem_of_getElem? (i := 313) (by decide +kernel)⟩
theorem lw_p1 : lw_okq (⟨"TwiceRunning$Tape", "goOn", "()V"⟩, 6) := ⟨⟨by decide +kernel, by decide +kernel⟩, List.mem_of_getElem? (i := 231) (by decide +kernel), List.mem_of_getElem? (i := 415) (by decide +kernel), List.mem_of_getElem? (i := 416) (by decide +kernel)⟩
theorem lw_p2 : lw_okq (⟨"TwiceRunning$Tape", "goThroughDigits", "()V"⟩, 6) := ⟨⟨by decide +kernel, by decide +kernel⟩, List.mem_of_getElem? (i := 231) (by decide +kernel), List.mem_of_getElem? (i := 425) (by decide +kernel), List.mem_of_getElem? (i := 426) (by decide +kernel)⟩
theorem lw_p3 : lw_okq (⟨"TwiceRunning$Tape", "readItem", "(LTwiceRunning$League;)Z"⟩, 6) := ⟨⟨by decide +kernel, by decide +kernel⟩, List.mem_of_getElem? (i := 231) (by decide +kernel), List.mem_of_getElem? (i := 432) (by decide +kernel), List.mem_of_getElem? (i := 433) (by decide +kernel)⟩
theorem lw_p4 : lw_okq (⟨"TwiceRunning$Tape", "kindOfWord", "()I"⟩, 6) := ⟨⟨by decide +kernel, by decide +kernel⟩, List.mem_of_getElem? (i := 231) (by decide +kernel), List.mem_of_getElem? (i := 436) (by decide +kernel), List.mem_of_getElem? (i := 437) (by decide +kernel)⟩
theorem lw_p5 : lw_okq (⟨"TwiceRunning$Tape", "isWord", "(Ljava/lang/String;)Z"⟩, 6) := ⟨⟨by decide +kernel, by decide +kernel⟩, List.mem_of_getElem? (i := 231) (by decide +kernel), List.mem_of_getElem? (i := 441) (by decide +kernel), List.mem_of_getElem? (i := 442) (by decide +kernel)⟩
theorem lw_p6 : lw_okq (⟨"TwiceRunning$Tape", "readSide", "(LTwiceRunning$League;I)Z"⟩, 6) := ⟨⟨by decide +kernel, by decide +kernel⟩, List.mem_of_getElem? (i := 231) (by decide +kernel), List.mem_of_getElem? (i := 499) (by decide +kernel), List.mem_of_getElem? (i := 500) (by decide +kernel)⟩
theorem lw_p7 : lw_okq (⟨"TwiceRunning$Tape", "isNumber", "(II)Z"⟩, 6) := ⟨⟨by decide +kernel, by decide +kernel⟩, List.mem_of_getElem? (i := 231) (by decide +kernel), List.mem_of_getElem? (i := 503) (by decide +kernel), List.mem_of_getElem? (i := 504) (by decide +kernel)⟩
theorem lw_p8 : lw_okq (⟨"TwiceRunning$Tape", "readPerhaps", "(Ljava/lang/String;III)I"⟩, 6) := ⟨⟨by decide +kernel, by decide +kernel⟩, List.mem_of_getElem? (i := 231) (by decide +kernel), List.mem_of_getElem? (i := 508) (by decide +kernel), List.mem_of_getElem? (i := 509) (by decide +kernel)⟩
theorem lw_p9 : lw_okq (⟨"TwiceRunning$Tape", "readGame", "(LTwiceRunning$League;)Z"⟩, 6) := ⟨⟨by decide +kernel, by decide +kernel⟩, List.mem_of_getElem? (i := 231) (by decide +kernel), List.mem_of_getElem? (i := 514) (by decide +kernel), List.mem_of_getElem? (i := 515) (by decide +kernel)⟩
theorem lw_p10 : lw_okq (⟨"TwiceRunning$Tape", "readLaw", "(LTwiceRunning$League;)Z"⟩, 6) := ⟨⟨by decide +kernel, by decide +kernel⟩, List.mem_of_getElem? (i := 231) (by decide +kernel), List.mem_of_getElem? (i := 521) (by decide +kernel), List.mem_of_getElem? (i := 522) (by decide +kernel)⟩
theorem lw_p11 : lw_okq (⟨"TwiceRunning", "goLikelyWays", "()V"⟩, 8) := ⟨⟨by decide +kernel, by decide +kernel⟩, List.mem_of_getElem? (i := 16) (by decide +kernel), List.mem_of_getElem? (i := 615) (by decide +kernel), List.mem_of_getElem? (i := 616) (by decide +kernel)⟩
theorem lw_p12 : lw_okq (⟨"TwiceRunning$Walk", "startSums", "()V"⟩, 13) := ⟨⟨by decide +kernel, by decide +kernel⟩, List.mem_of_getElem? (i := 173) (by decide +kernel), List.mem_of_getElem? (i := 624) (by decide +kernel), List.mem_of_getElem? (i := 625) (by decide +kernel)⟩
theorem lw_p13 : lw_okq (⟨"TwiceRunning$Walk", "follow", "(IJ)V"⟩, 13) := ⟨⟨by decide +kernel, by decide +kernel⟩, List.mem_of_getElem? (i := 173) (by decide +kernel), List.mem_of_getElem? (i := 628) (by decide +kernel), List.mem_of_getElem? (i := 629) (by decide +kernel)⟩
theorem lw_p14 : lw_okq (⟨"TwiceRunning$Walk", "arrive", "(J)V"⟩, 13) := ⟨⟨by decide +kernel, by decide +kernel⟩, List.mem_of_getElem? (i := 173) (by decide +kernel), List.mem_of_getElem? (i := 633) (by decide +kernel), List.mem_of_getElem? (i := 634) (by decide +kernel)⟩
theorem lw_p15 : lw_okq (⟨"TwiceRunning", "greatestMean", "(IIII)I"⟩, 8) := ⟨⟨by decide +kernel, by decide +kernel⟩, List.mem_of_getElem? (i := 16) (by decide +kernel), List.mem_of_getElem? (i := 677) (by decide +kernel), List.mem_of_getElem? (i := 678) (by decide +kernel)⟩
def lw_privs_1 : List (MethodName × Nat) := [(⟨"TwiceRunning", "finding", "(I)I"⟩, 8), (⟨"TwiceRunning$Tape", "goOn", "()V"⟩, 6), (⟨"TwiceRunning$Tape", "goThroughDigits", "()V"⟩, 6), (⟨"TwiceRunning$Tape", "readItem", "(LTwiceRunning$League;)Z"⟩, 6), (⟨"TwiceRunning$Tape", "kindOfWord", "()I"⟩, 6), (⟨"TwiceRunning$Tape", "isWord", "(Ljava/lang/String;)Z"⟩, 6), (⟨"TwiceRunning$Tape", "readSide", "(LTwiceRunning$League;I)Z"⟩, 6), (⟨"TwiceRunning$Tape", "isNumber", "(II)Z"⟩, 6), (⟨"TwiceRunning$Tape", "readPerhaps", "(Ljava/lang/String;III)I"⟩, 6), (⟨"TwiceRunning$Tape", "readGame", "(LTwiceRunning$League;)Z"⟩, 6), (⟨"TwiceRunning$Tape", "readLaw", "(LTwiceRunning$League;)Z"⟩, 6), (⟨"TwiceRunning", "goLikelyWays", "()V"⟩, 8), (⟨"TwiceRunning$Walk", "startSums", "()V"⟩, 13), (⟨"TwiceRunning$Walk", "follow", "(IJ)V"⟩, 13), (⟨"TwiceRunning$Walk", "arrive", "(J)V"⟩, 13), (⟨"TwiceRunning", "greatestMean", "(IIII)I"⟩, 8)]
theorem lw_r1 : ∀ q ∈ lw_privs_1, lw_okq q := List.forall_mem_cons.mpr ⟨lw_p0, List.forall_mem_cons.mpr ⟨lw_p1, List.forall_mem_cons.mpr ⟨lw_p2, List.forall_mem_cons.mpr ⟨lw_p3, List.forall_mem_cons.mpr ⟨lw_p4, List.forall_mem_cons.mpr ⟨lw_p5, List.forall_mem_cons.mpr ⟨lw_p6, List.forall_mem_cons.mpr ⟨lw_p7, List.forall_mem_cons.mpr ⟨lw_p8, List.forall_mem_cons.mpr ⟨lw_p9, List.forall_mem_cons.mpr ⟨lw_p10, List.forall_mem_cons.mpr ⟨lw_p11, List.forall_mem_cons.mpr ⟨lw_p12, List.forall_mem_cons.mpr ⟨lw_p13, List.forall_mem_cons.mpr ⟨lw_p14, List.forall_mem_cons.mpr ⟨lw_p15, fun _ h => absurd h List.not_mem_nil⟩⟩⟩⟩⟩⟩⟩⟩⟩⟩⟩⟩⟩⟩⟩⟩
theorem lw_p16 : lw_okq (⟨"TwiceRunning", "suppose", "(III)V"⟩, 8) := ⟨⟨by decide +kernel, by decide +kernel⟩, List.mem_of_getElem? (i := 16) (by decide +kernel), List.mem_of_getElem? (i := 682) (by decide +kernel), List.mem_of_getElem? (i := 683) (by decide +kernel)⟩
theorem lw_p17 : lw_okq (⟨"TwiceRunning", "bestOrder", "(II)I"⟩, 8) := ⟨⟨by decide +kernel, by decide +kernel⟩, List.mem_of_getElem? (i := 16) (by decide +kernel), List.mem_of_getElem? (i := 702) (by decide +kernel), List.mem_of_getElem? (i := 703) (by decide +kernel)⟩
theorem lw_p18 : lw_okq (⟨"TwiceRunning", "arrangeTrial", "(II)I"⟩, 8) := ⟨⟨by decide +kernel, by decide +kernel⟩, List.mem_of_getElem? (i := 16) (by decide +kernel), List.mem_of_getElem? (i := 706) (by decide +kernel), List.mem_of_getElem? (i := 707) (by decide +kernel)⟩
theorem lw_p19 : lw_okq (⟨"TwiceRunningModel", "finding", "(I)I"⟩, 30) := ⟨⟨by decide +kernel, by decide +kernel⟩, List.mem_of_getElem? (i := 825) (by decide +kernel), List.mem_of_getElem? (i := 929) (by decide +kernel), List.mem_of_getElem? (i := 930) (by decide +kernel)⟩
theorem lw_p20 : lw_okq (⟨"TwiceRunningModel", "addSide", "(III)V"⟩, 30) := ⟨⟨by decide +kernel, by decide +kernel⟩, List.mem_of_getElem? (i := 825) (by decide +kernel), List.mem_of_getElem? (i := 934) (by decide +kernel), List.mem_of_getElem? (i := 935) (by decide +kernel)⟩
theorem lw_p21 : lw_okq (⟨"TwiceRunningModel", "isSide", "(I)Z"⟩, 30) := ⟨⟨by decide +kernel, by decide +kernel⟩, List.mem_of_getElem? (i := 825) (by decide +kernel), List.mem_of_getElem? (i := 942) (by decide +kernel), List.mem_of_getElem? (i := 943) (by decide +kernel)⟩
theorem lw_p22 : lw_okq (⟨"TwiceRunningModel", "points", "(I)I"⟩, 30) := ⟨⟨by decide +kernel, by decide +kernel⟩, List.mem_of_getElem? (i := 825) (by decide +kernel), List.mem_of_getElem? (i := 946) (by decide +kernel), List.mem_of_getElem? (i := 947) (by decide +kernel)⟩
theorem lw_p23 : lw_okq (⟨"TwiceRunningModel", "of", "(II)I"⟩, 30) := ⟨⟨by decide +kernel, by decide +kernel⟩, List.mem_of_getElem? (i := 825) (by decide +kernel), List.mem_of_getElem? (i := 950) (by decide +kernel), List.mem_of_getElem? (i := 951) (by decide +kernel)⟩
theorem lw_p24 : lw_okq (⟨"TwiceRunningModel", "isBarred", "(I)Z"⟩, 30) := ⟨⟨by decide +kernel, by decide +kernel⟩, List.mem_of_getElem? (i := 825) (by decide +kernel), List.mem_of_getElem? (i := 954) (by decide +kernel), List.mem_of_getElem? (i := 955) (by decide +kernel)⟩
theorem lw_p25 : lw_okq (⟨"TwiceRunningModel", "plays", "(II)Z"⟩, 30) := ⟨⟨by decide +kernel, by decide +kernel⟩, List.mem_of_getElem? (i := 825) (by decide +kernel), List.mem_of_getElem? (i := 958) (by decide +kernel), List.mem_of_getElem? (i := 959) (by decide +kernel)⟩
theorem lw_p26 : lw_okq (⟨"TwiceRunningModel", "isTired", "(I)Z"⟩, 30) := ⟨⟨by decide +kernel, by decide +kernel⟩, List.mem_of_getElem? (i := 825) (by decide +kernel), List.mem_of_getElem? (i := 962) (by decide +kernel), List.mem_of_getElem? (i := 963) (by decide +kernel)⟩
theorem lw_p27 : lw_okq (⟨"TwiceRunningModel", "games", "(IZ)I"⟩, 30) := ⟨⟨by decide +kernel, by decide +kernel⟩, List.mem_of_getElem? (i := 825) (by decide +kernel), List.mem_of_getElem? (i := 966) (by decide +kernel), List.mem_of_getElem? (i := 967) (by decide +kernel)⟩
theorem lw_p28 : lw_okq (⟨"TwiceRunningModel", "its", "(II)I"⟩, 30) := ⟨⟨by decide +kernel, by decide +kernel⟩, List.mem_of_getElem? (i := 825) (by decide +kernel), List.mem_of_getElem? (i := 970) (by decide +kernel), List.mem_of_getElem? (i := 971) (by decide +kernel)⟩
theorem lw_p29 : lw_okq (⟨"TwiceRunningModel", "addGame", "(III)V"⟩, 30) := ⟨⟨by decide +kernel, by decide +kernel⟩, List.mem_of_getElem? (i := 825) (by decide +kernel), List.mem_of_getElem? (i := 982) (by decide +kernel), List.mem_of_getElem? (i := 983) (by decide +kernel)⟩
theorem lw_p30 : lw_okq (⟨"TwiceRunningModel", "isGame", "(I)Z"⟩, 30) := ⟨⟨by decide +kernel, by decide +kernel⟩, List.mem_of_getElem? (i := 825) (by decide +kernel), List.mem_of_getElem? (i := 990) (by decide +kernel), List.mem_of_getElem? (i := 991) (by decide +kernel)⟩
theorem lw_p31 : lw_okq (⟨"TwiceRunningModel", "swaps", "(II)V"⟩, 30) := ⟨⟨by decide +kernel, by decide +kernel⟩, List.mem_of_getElem? (i := 825) (by decide +kernel), List.mem_of_getElem? (i := 998) (by decide +kernel), List.mem_of_getElem? (i := 999) (by decide +kernel)⟩
def lw_privs_2 : List (MethodName × Nat) := [(⟨"TwiceRunning", "suppose", "(III)V"⟩, 8), (⟨"TwiceRunning", "bestOrder", "(II)I"⟩, 8), (⟨"TwiceRunning", "arrangeTrial", "(II)I"⟩, 8), (⟨"TwiceRunningModel", "finding", "(I)I"⟩, 30), (⟨"TwiceRunningModel", "addSide", "(III)V"⟩, 30), (⟨"TwiceRunningModel", "isSide", "(I)Z"⟩, 30), (⟨"TwiceRunningModel", "points", "(I)I"⟩, 30), (⟨"TwiceRunningModel", "of", "(II)I"⟩, 30), (⟨"TwiceRunningModel", "isBarred", "(I)Z"⟩, 30), (⟨"TwiceRunningModel", "plays", "(II)Z"⟩, 30), (⟨"TwiceRunningModel", "isTired", "(I)Z"⟩, 30), (⟨"TwiceRunningModel", "games", "(IZ)I"⟩, 30), (⟨"TwiceRunningModel", "its", "(II)I"⟩, 30), (⟨"TwiceRunningModel", "addGame", "(III)V"⟩, 30), (⟨"TwiceRunningModel", "isGame", "(I)Z"⟩, 30), (⟨"TwiceRunningModel", "swaps", "(II)V"⟩, 30)]
theorem lw_r2 : ∀ q ∈ lw_privs_2, lw_okq q := List.forall_mem_cons.mpr ⟨lw_p16, List.forall_mem_cons.mpr ⟨lw_p17, List.forall_mem_cons.mpr ⟨lw_p18, List.forall_mem_cons.mpr ⟨lw_p19, List.forall_mem_cons.mpr ⟨lw_p20, List.forall_mem_cons.mpr ⟨lw_p21, List.forall_mem_cons.mpr ⟨lw_p22, List.forall_mem_cons.mpr ⟨lw_p23, List.forall_mem_cons.mpr ⟨lw_p24, List.forall_mem_cons.mpr ⟨lw_p25, List.forall_mem_cons.mpr ⟨lw_p26, List.forall_mem_cons.mpr ⟨lw_p27, List.forall_mem_cons.mpr ⟨lw_p28, List.forall_mem_cons.mpr ⟨lw_p29, List.forall_mem_cons.mpr ⟨lw_p30, List.forall_mem_cons.mpr ⟨lw_p31, fun _ h => absurd h List.not_mem_nil⟩⟩⟩⟩⟩⟩⟩⟩⟩⟩⟩⟩⟩⟩⟩⟩
theorem lw_p32 : lw_okq (⟨"TwiceRunningModel", "takesAll", "()Z"⟩, 30) := ⟨⟨by decide +kernel, by decide +kernel⟩, List.mem_of_getElem? (i := 825) (by decide +kernel), List.mem_of_getElem? (i := 1021) (by decide +kernel), List.mem_of_getElem? (i := 1022) (by decide +kernel)⟩
theorem lw_p33 : lw_okq (⟨"TwiceRunningModel", "nextToken", "()V"⟩, 30) := ⟨⟨by decide +kernel, by decide +kernel⟩, List.mem_of_getElem? (i := 825) (by decide +kernel), List.mem_of_getElem? (i := 1025) (by decide +kernel), List.mem_of_getElem? (i := 1026) (by decide +kernel)⟩
theorem lw_p34 : lw_okq (⟨"TwiceRunningModel", "byteAt", "(I)I"⟩, 30) := ⟨⟨by decide +kernel, by decide +kernel⟩, List.mem_of_getElem? (i := 825) (by decide +kernel), List.mem_of_getElem? (i := 1029) (by decide +kernel), List.mem_of_getElem? (i := 1030) (by decide +kernel)⟩
theorem lw_p35 : lw_okq (⟨"TwiceRunningModel", "takesItem", "()Z"⟩, 30) := ⟨⟨by decide +kernel, by decide +kernel⟩, List.mem_of_getElem? (i := 825) (by decide +kernel), List.mem_of_getElem? (i := 1033) (by decide +kernel), List.mem_of_getElem? (i := 1034) (by decide +kernel)⟩
theorem lw_p36 : lw_okq (⟨"TwiceRunningModel", "takes", "(Ljava/lang/String;)Z"⟩, 30) := ⟨⟨by decide +kernel, by decide +kernel⟩, List.mem_of_getElem? (i := 825) (by decide +kernel), List.mem_of_getElem? (i := 1038) (by decide +kernel), List.mem_of_getElem? (i := 1039) (by decide +kernel)⟩
theorem lw_p37 : lw_okq (⟨"TwiceRunningModel", "isWord", "(Ljava/lang/String;)Z"⟩, 30) := ⟨⟨by decide +kernel, by decide +kernel⟩, List.mem_of_getElem? (i := 825) (by decide +kernel), List.mem_of_getElem? (i := 1042) (by decide +kernel), List.mem_of_getElem? (i := 1043) (by decide +kernel)⟩
theorem lw_p38 : lw_okq (⟨"TwiceRunningModel", "takesNumber", "(II)Z"⟩, 30) := ⟨⟨by decide +kernel, by decide +kernel⟩, List.mem_of_getElem? (i := 825) (by decide +kernel), List.mem_of_getElem? (i := 1048) (by decide +kernel), List.mem_of_getElem? (i := 1049) (by decide +kernel)⟩
theorem lw_p39 : lw_okq (⟨"TwiceRunningModel", "isNumber", "(II)Z"⟩, 30) := ⟨⟨by decide +kernel, by decide +kernel⟩, List.mem_of_getElem? (i := 825) (by decide +kernel), List.mem_of_getElem? (i := 1052) (by decide +kernel), List.mem_of_getElem? (i := 1053) (by decide +kernel)⟩
theorem lw_p40 : lw_okq (⟨"TwiceRunningModel", "takesGame", "()Z"⟩, 30) := ⟨⟨by decide +kernel, by decide +kernel⟩, List.mem_of_getElem? (i := 825) (by decide +kernel), List.mem_of_getElem? (i := 1057) (by decide +kernel), List.mem_of_getElem? (i := 1058) (by decide +kernel)⟩
theorem lw_p41 : lw_okq (⟨"TwiceRunningModel", "takesSide", "(I)Z"⟩, 30) := ⟨⟨by decide +kernel, by decide +kernel⟩, List.mem_of_getElem? (i := 825) (by decide +kernel), List.mem_of_getElem? (i := 1069) (by decide +kernel), List.mem_of_getElem? (i := 1070) (by decide +kernel)⟩
theorem lw_p42 : lw_okq (⟨"TwiceRunningModel", "isOver", "()Z"⟩, 30) := ⟨⟨by decide +kernel, by decide +kernel⟩, List.mem_of_getElem? (i := 825) (by decide +kernel), List.mem_of_getElem? (i := 1078) (by decide +kernel), List.mem_of_getElem? (i := 1079) (by decide +kernel)⟩
theorem lw_p43 : lw_okq (⟨"TwiceRunningModel", "effort", "(II)I"⟩, 30) := ⟨⟨by decide +kernel, by decide +kernel⟩, List.mem_of_getElem? (i := 825) (by decide +kernel), List.mem_of_getElem? (i := 1082) (by decide +kernel), List.mem_of_getElem? (i := 1083) (by decide +kernel)⟩
theorem lw_p44 : lw_okq (⟨"TwiceRunningModel", "hasGreater", "(II)Z"⟩, 30) := ⟨⟨by decide +kernel, by decide +kernel⟩, List.mem_of_getElem? (i := 825) (by decide +kernel), List.mem_of_getElem? (i := 1086) (by decide +kernel), List.mem_of_getElem? (i := 1087) (by decide +kernel)⟩
theorem lw_p45 : lw_okq (⟨"TwiceRunningModel", "chance", "(III)I"⟩, 30) := ⟨⟨by decide +kernel, by decide +kernel⟩, List.mem_of_getElem? (i := 825) (by decide +kernel), List.mem_of_getElem? (i := 1090) (by decide +kernel), List.mem_of_getElem? (i := 1091) (by decide +kernel)⟩
theorem lw_p46 : lw_okq (⟨"TwiceRunningModel", "force", "(II)I"⟩, 30) := ⟨⟨by decide +kernel, by decide +kernel⟩, List.mem_of_getElem? (i := 825) (by decide +kernel), List.mem_of_getElem? (i := 1094) (by decide +kernel), List.mem_of_getElem? (i := 1095) (by decide +kernel)⟩
theorem lw_p47 : lw_okq (⟨"TwiceRunningModel", "winsNow", "(I)V"⟩, 30) := ⟨⟨by decide +kernel, by decide +kernel⟩, List.mem_of_getElem? (i := 825) (by decide +kernel), List.mem_of_getElem? (i := 1102) (by decide +kernel), List.mem_of_getElem? (i := 1103) (by decide +kernel)⟩
def lw_privs_3 : List (MethodName × Nat) := [(⟨"TwiceRunningModel", "takesAll", "()Z"⟩, 30), (⟨"TwiceRunningModel", "nextToken", "()V"⟩, 30), (⟨"TwiceRunningModel", "byteAt", "(I)I"⟩, 30), (⟨"TwiceRunningModel", "takesItem", "()Z"⟩, 30), (⟨"TwiceRunningModel", "takes", "(Ljava/lang/String;)Z"⟩, 30), (⟨"TwiceRunningModel", "isWord", "(Ljava/lang/String;)Z"⟩, 30), (⟨"TwiceRunningModel", "takesNumber", "(II)Z"⟩, 30), (⟨"TwiceRunningModel", "isNumber", "(II)Z"⟩, 30), (⟨"TwiceRunningModel", "takesGame", "()Z"⟩, 30), (⟨"TwiceRunningModel", "takesSide", "(I)Z"⟩, 30), (⟨"TwiceRunningModel", "isOver", "()Z"⟩, 30), (⟨"TwiceRunningModel", "effort", "(II)I"⟩, 30), (⟨"TwiceRunningModel", "hasGreater", "(II)Z"⟩, 30), (⟨"TwiceRunningModel", "chance", "(III)I"⟩, 30), (⟨"TwiceRunningModel", "force", "(II)I"⟩, 30), (⟨"TwiceRunningModel", "winsNow", "(I)V"⟩, 30)]
theorem lw_r3 : ∀ q ∈ lw_privs_3, lw_okq q := List.forall_mem_cons.mpr ⟨lw_p32, List.forall_mem_cons.mpr ⟨lw_p33, List.forall_mem_cons.mpr ⟨lw_p34, List.forall_mem_cons.mpr ⟨lw_p35, List.forall_mem_cons.mpr ⟨lw_p36, List.forall_mem_cons.mpr ⟨lw_p37, List.forall_mem_cons.mpr ⟨lw_p38, List.forall_mem_cons.mpr ⟨lw_p39, List.forall_mem_cons.mpr ⟨lw_p40, List.forall_mem_cons.mpr ⟨lw_p41, List.forall_mem_cons.mpr ⟨lw_p42, List.forall_mem_cons.mpr ⟨lw_p43, List.forall_mem_cons.mpr ⟨lw_p44, List.forall_mem_cons.mpr ⟨lw_p45, List.forall_mem_cons.mpr ⟨lw_p46, List.forall_mem_cons.mpr ⟨lw_p47, fun _ h => absurd h List.not_mem_nil⟩⟩⟩⟩⟩⟩⟩⟩⟩⟩⟩⟩⟩⟩⟩⟩
theorem lw_p48 : lw_okq (⟨"TwiceRunningModel", "wins", "(III)V"⟩, 30) := ⟨⟨by decide +kernel, by decide +kernel⟩, List.mem_of_getElem? (i := 825) (by decide +kernel), List.mem_of_getElem? (i := 1106) (by decide +kernel), List.mem_of_getElem? (i := 1107) (by decide +kernel)⟩
theorem lw_p49 : lw_okq (⟨"TwiceRunningModel", "givenTo", "(II)I"⟩, 30) := ⟨⟨by decide +kernel, by decide +kernel⟩, List.mem_of_getElem? (i := 825) (by decide +kernel), List.mem_of_getElem? (i := 1110) (by decide +kernel), List.mem_of_getElem? (i := 1111) (by decide +kernel)⟩
theorem lw_p50 : lw_okq (⟨"TwiceRunningModel", "drawsNext", "()V"⟩, 30) := ⟨⟨by decide +kernel, by decide +kernel⟩, List.mem_of_getElem? (i := 825) (by decide +kernel), List.mem_of_getElem? (i := 1118) (by decide +kernel), List.mem_of_getElem? (i := 1119) (by decide +kernel)⟩
theorem lw_p51 : lw_okq (⟨"TwiceRunningModel", "draw", "()I"⟩, 30) := ⟨⟨by decide +kernel, by decide +kernel⟩, List.mem_of_getElem? (i := 825) (by decide +kernel), List.mem_of_getElem? (i := 1122) (by decide +kernel), List.mem_of_getElem? (i := 1123) (by decide +kernel)⟩
theorem lw_p52 : lw_okq (⟨"TwiceRunningModel", "leader", "()I"⟩, 30) := ⟨⟨by decide +kernel, by decide +kernel⟩, List.mem_of_getElem? (i := 825) (by decide +kernel), List.mem_of_getElem? (i := 1135) (by decide +kernel), List.mem_of_getElem? (i := 1136) (by decide +kernel)⟩
theorem lw_p53 : lw_okq (⟨"TwiceRunningModel", "findWays", "()J"⟩, 30) := ⟨⟨by decide +kernel, by decide +kernel⟩, List.mem_of_getElem? (i := 825) (by decide +kernel), List.mem_of_getElem? (i := 1150) (by decide +kernel), List.mem_of_getElem? (i := 1151) (by decide +kernel)⟩
theorem lw_p54 : lw_okq (⟨"TwiceRunningModel", "goesOn", "(J)V"⟩, 30) := ⟨⟨by decide +kernel, by decide +kernel⟩, List.mem_of_getElem? (i := 825) (by decide +kernel), List.mem_of_getElem? (i := 1154) (by decide +kernel), List.mem_of_getElem? (i := 1155) (by decide +kernel)⟩
theorem lw_p55 : lw_okq (⟨"TwiceRunningModel", "ends", "(J)V"⟩, 30) := ⟨⟨by decide +kernel, by decide +kernel⟩, List.mem_of_getElem? (i := 825) (by decide +kernel), List.mem_of_getElem? (i := 1158) (by decide +kernel), List.mem_of_getElem? (i := 1159) (by decide +kernel)⟩
theorem lw_p56 : lw_okq (⟨"TwiceRunningModel", "meanOf", "(I)J"⟩, 30) := ⟨⟨by decide +kernel, by decide +kernel⟩, List.mem_of_getElem? (i := 825) (by decide +kernel), List.mem_of_getElem? (i := 1194) (by decide +kernel), List.mem_of_getElem? (i := 1195) (by decide +kernel)⟩
theorem lw_p57 : lw_okq (⟨"TwiceRunningModel", "bestLaid", "(IIII)I"⟩, 30) := ⟨⟨by decide +kernel, by decide +kernel⟩, List.mem_of_getElem? (i := 825) (by decide +kernel), List.mem_of_getElem? (i := 1202) (by decide +kernel), List.mem_of_getElem? (i := 1203) (by decide +kernel)⟩
theorem lw_p58 : lw_okq (⟨"TwiceRunningModel", "nextRow", "(I)Z"⟩, 30) := ⟨⟨by decide +kernel, by decide +kernel⟩, List.mem_of_getElem? (i := 825) (by decide +kernel), List.mem_of_getElem? (i := 1214) (by decide +kernel), List.mem_of_getElem? (i := 1215) (by decide +kernel)⟩
theorem lw_p59 : lw_okq (⟨"TwiceRunningModel", "lacks", "(I)I"⟩, 30) := ⟨⟨by decide +kernel, by decide +kernel⟩, List.mem_of_getElem? (i := 825) (by decide +kernel), List.mem_of_getElem? (i := 1268) (by decide +kernel), List.mem_of_getElem? (i := 1269) (by decide +kernel)⟩
def lw_privs_4 : List (MethodName × Nat) := [(⟨"TwiceRunningModel", "wins", "(III)V"⟩, 30), (⟨"TwiceRunningModel", "givenTo", "(II)I"⟩, 30), (⟨"TwiceRunningModel", "drawsNext", "()V"⟩, 30), (⟨"TwiceRunningModel", "draw", "()I"⟩, 30), (⟨"TwiceRunningModel", "leader", "()I"⟩, 30), (⟨"TwiceRunningModel", "findWays", "()J"⟩, 30), (⟨"TwiceRunningModel", "goesOn", "(J)V"⟩, 30), (⟨"TwiceRunningModel", "ends", "(J)V"⟩, 30), (⟨"TwiceRunningModel", "meanOf", "(I)J"⟩, 30), (⟨"TwiceRunningModel", "bestLaid", "(IIII)I"⟩, 30), (⟨"TwiceRunningModel", "nextRow", "(I)Z"⟩, 30), (⟨"TwiceRunningModel", "lacks", "(I)I"⟩, 30)]
theorem lw_r4 : ∀ q ∈ lw_privs_4, lw_okq q := List.forall_mem_cons.mpr ⟨lw_p48, List.forall_mem_cons.mpr ⟨lw_p49, List.forall_mem_cons.mpr ⟨lw_p50, List.forall_mem_cons.mpr ⟨lw_p51, List.forall_mem_cons.mpr ⟨lw_p52, List.forall_mem_cons.mpr ⟨lw_p53, List.forall_mem_cons.mpr ⟨lw_p54, List.forall_mem_cons.mpr ⟨lw_p55, List.forall_mem_cons.mpr ⟨lw_p56, List.forall_mem_cons.mpr ⟨lw_p57, List.forall_mem_cons.mpr ⟨lw_p58, List.forall_mem_cons.mpr ⟨lw_p59, fun _ h => absurd h List.not_mem_nil⟩⟩⟩⟩⟩⟩⟩⟩⟩⟩⟩⟩
def lw_privs : List (MethodName × Nat) := lw_privs_1 ++ (lw_privs_2 ++ (lw_privs_3 ++ (lw_privs_4)))
def lw_tbl : List Cond := k2_sels lw_privs ++ tables_1
theorem lw_privs_ok : ∀ q ∈ lw_privs, lw_okq q := by
  show ∀ q ∈ lw_privs_1 ++ (lw_privs_2 ++ (lw_privs_3 ++ (lw_privs_4))), lw_okq q
  exact List.forall_mem_append.mpr ⟨lw_r1, List.forall_mem_append.mpr ⟨lw_r2, List.forall_mem_append.mpr ⟨lw_r3, lw_r4⟩⟩⟩
-- ===== end of PART A; then your names; then what follows =====
end
section
/-! ===== BEGIN words of one list among another's, by their places ===== -/
theorem goodIn_r {big : List Cond} (ws : List Cond) (ps : List Nat) (hp : ws = ps.filterMap (fun i => big[i]?)) (h : ws.all goodWord = true) : GoodIn big ws := by
  intro w hw
  have h1 := List.all_eq_true.mp h w hw
  rw [hp] at hw
  obtain ⟨i, -, hi⟩ := List.mem_filterMap.mp hw
  have hm : w ∈ big := by first | exact List.mem_of_getElem? hi | exact List.getElem?_mem hi
  exact ⟨hm, good_of_word h1⟩
theorem goodIn_app {big a b : List Cond} (ha : GoodIn big a) (hb : GoodIn big b) : GoodIn big (a ++ b) := fun w h => (List.mem_append.mp h).elim (ha w) (hb w)
theorem goodIn_ca {big a b : List Cond} {c : Cond} (ha : GoodIn big (c :: a)) (hb : GoodIn big b) : GoodIn big (c :: (a ++ b)) := fun w h => (List.mem_cons.mp h).elim (fun e => ha w (List.mem_cons.mpr (Or.inl e))) (fun h => (List.mem_append.mp h).elim (fun h => ha w (List.mem_cons.mpr (Or.inr h))) (hb w))
theorem goodIn_sub {big ws : List Cond} (hm : ∀ w ∈ ws, w ∈ big) (h : ws.all goodWord = true) : GoodIn big ws := fun w hw => ⟨hm w hw, good_of_word (List.all_eq_true.mp h w hw)⟩
/-! ===== END ===== -/

/-! ===== BEGIN printed: names, fields, word lists, decode rows ===== -/
def RX0 : String := "TwiceRunning$Game"
def TX0 : u_T := fun k => match k with
  | 0 => ("TwiceRunning$Game", "first", "I", false)
  | 1 => ("TwiceRunning$Game", "other", "I", false)
  | 2 => ("TwiceRunning$Game", "worth", "I", false)
  | 3 => ("TwiceRunning$Game", "winner", "I", false)
  | 4 => ("TwiceRunning$Game", "given", "I", false)
  | 5 => ("TwiceRunning$Game", "firstStreak", "I", false)
  | 6 => ("TwiceRunning$Game", "otherStreak", "I", false)
  | 7 => ("TwiceRunning$Game", "firstTired", "Z", false)
  | _ => ("TwiceRunning$Game", "otherTired", "Z", false)
def tyX0 : Nat → FieldType := fun k => match k with
  | 0 => .int
  | 1 => .int
  | 2 => .int
  | 3 => .int
  | 4 => .int
  | 5 => .int
  | 6 => .int
  | 7 => .boolean
  | _ => .boolean
abbrev wsX00 : List Cond := u_ws RX0 TX0 9
theorem nmX0 : ∀ a, a < 9 → ∀ b, b < 9 → a ≠ b → (TX0 a).2.1 ≠ (TX0 b).2.1 := by decide +kernel
theorem tyX0_ok : ∀ k, k < 9 → parseFieldDescriptor (TX0 k).2.2.1 = some (tyX0 k) := by decide +kernel
abbrev cX0_init : ByteArray := prog_2_method_1_code
def yX0_init : MethodName := ⟨RX0, "<init>", "()V"⟩
abbrev cX0_become : ByteArray := prog_2_method_2_code
def yX0_become : MethodName := ⟨RX0, "become", "(LTwiceRunning$Game;)V"⟩
abbrev cX0_isOf : ByteArray := prog_2_method_3_code
def yX0_isOf : MethodName := ⟨RX0, "isOf", "(I)Z"⟩
def RX1 : String := "TwiceRunning$League"
def TX1 : u_T := fun k => match k with
  | 0 => ("TwiceRunning$League", "sides", "[LTwiceRunning$Side;", true)
  | 1 => ("TwiceRunning$League", "games", "[LTwiceRunning$Game;", true)
  | 2 => ("TwiceRunning$League", "spots", "[I", true)
  | 3 => ("TwiceRunning$League", "sideCount", "I", false)
  | 4 => ("TwiceRunning$League", "gameCount", "I", false)
  | 5 => ("TwiceRunning$League", "played", "I", false)
  | 6 => ("TwiceRunning$League", "law", "I", false)
  | 7 => ("TwiceRunning$League", "z", "I", false)
  | 8 => ("TwiceRunning$League", "forcedGame", "I", false)
  | 9 => ("TwiceRunning$League", "forcedSide", "I", false)
  | _ => ("TwiceRunning$League", "forcedEffort", "I", false)
def tyX1 : Nat → FieldType := fun k => match k with
  | 0 => .array (.object "TwiceRunning$Side")
  | 1 => .array (.object "TwiceRunning$Game")
  | 2 => .array .int
  | 3 => .int
  | 4 => .int
  | 5 => .int
  | 6 => .int
  | 7 => .int
  | 8 => .int
  | 9 => .int
  | _ => .int
abbrev wsX10 : List Cond := u_ws RX1 TX1 11
theorem nmX1 : ∀ a, a < 11 → ∀ b, b < 11 → a ≠ b → (TX1 a).2.1 ≠ (TX1 b).2.1 := by decide +kernel
theorem tyX1_ok : ∀ k, k < 11 → parseFieldDescriptor (TX1 k).2.2.1 = some (tyX1 k) := by decide +kernel
abbrev cX1_init : ByteArray := prog_3_method_1_code
def yX1_init : MethodName := ⟨RX1, "<init>", "()V"⟩
abbrev cX1_become : ByteArray := prog_3_method_2_code
def yX1_become : MethodName := ⟨RX1, "become", "(LTwiceRunning$League;)V"⟩
abbrev cX1_hasSide : ByteArray := prog_3_method_3_code
def yX1_hasSide : MethodName := ⟨RX1, "hasSide", "(I)Z"⟩
abbrev cX1_hasGame : ByteArray := prog_3_method_4_code
def yX1_hasGame : MethodName := ⟨RX1, "hasGame", "(I)Z"⟩
abbrev cX1_allPlayed : ByteArray := prog_3_method_5_code
def yX1_allPlayed : MethodName := ⟨RX1, "allPlayed", "()Z"⟩
abbrev cX1_addSide : ByteArray := prog_3_method_6_code
def yX1_addSide : MethodName := ⟨RX1, "addSide", "(III)I"⟩
abbrev cX1_addGame : ByteArray := prog_3_method_7_code
def yX1_addGame : MethodName := ⟨RX1, "addGame", "(III)I"⟩
abbrev cX1_gamesPlayedBy : ByteArray := prog_3_method_8_code
def yX1_gamesPlayedBy : MethodName := ⟨RX1, "gamesPlayedBy", "(I)I"⟩
abbrev cX1_gamesGivenTo : ByteArray := prog_3_method_9_code
def yX1_gamesGivenTo : MethodName := ⟨RX1, "gamesGivenTo", "(I)I"⟩
abbrev cX1_spotsInUse : ByteArray := prog_3_method_10_code
def yX1_spotsInUse : MethodName := ⟨RX1, "spotsInUse", "()I"⟩
abbrev cX1_isBarred : ByteArray := prog_3_method_11_code
def yX1_isBarred : MethodName := ⟨RX1, "isBarred", "(I)Z"⟩
abbrev cX1_force : ByteArray := prog_3_method_12_code
def yX1_force : MethodName := ⟨RX1, "force", "(II)V"⟩
abbrev cX1_effortOf : ByteArray := prog_3_method_13_code
def yX1_effortOf : MethodName := ⟨RX1, "effortOf", "(I)I"⟩
abbrev cX1_nextWorthOf : ByteArray := prog_3_method_14_code
def yX1_nextWorthOf : MethodName := ⟨RX1, "nextWorthOf", "(I)I"⟩
abbrev cX1_forceOf : ByteArray := prog_3_method_15_code
def yX1_forceOf : MethodName := ⟨RX1, "forceOf", "(II)I"⟩
abbrev cX1_chanceOfFirst : ByteArray := prog_3_method_16_code
def yX1_chanceOfFirst : MethodName := ⟨RX1, "chanceOfFirst", "(II)I"⟩
abbrev cX1_givenIfWonBy : ByteArray := prog_3_method_17_code
def yX1_givenIfWonBy : MethodName := ⟨RX1, "givenIfWonBy", "(I)I"⟩
abbrev cX1_settle : ByteArray := prog_3_method_18_code
def yX1_settle : MethodName := ⟨RX1, "settle", "(III)I"⟩
abbrev cX1_takeBack : ByteArray := prog_3_method_19_code
def yX1_takeBack : MethodName := ⟨RX1, "takeBack", "()V"⟩
abbrev cX1_canBeWonBy : ByteArray := prog_3_method_20_code
def yX1_canBeWonBy : MethodName := ⟨RX1, "canBeWonBy", "(I)Z"⟩
abbrev cX1_playWonBy : ByteArray := prog_3_method_21_code
def yX1_playWonBy : MethodName := ⟨RX1, "playWonBy", "(I)I"⟩
abbrev cX1_playDrawn : ByteArray := prog_3_method_22_code
def yX1_playDrawn : MethodName := ⟨RX1, "playDrawn", "()I"⟩
abbrev cX1_forgetGames : ByteArray := prog_3_method_23_code
def yX1_forgetGames : MethodName := ⟨RX1, "forgetGames", "()I"⟩
abbrev cX1_leader : ByteArray := prog_3_method_24_code
def yX1_leader : MethodName := ⟨RX1, "leader", "()I"⟩
def RX2 : String := "TwiceRunning$Sheet"
def TX2 : u_T := fun k => match k with
  | 0 => ("TwiceRunning$Sheet", "numbers", "[I", true)
  | 1 => ("TwiceRunning$Sheet", "bits", "I", false)
  | _ => ("TwiceRunning$Sheet", "size", "I", false)
def tyX2 : Nat → FieldType := fun k => match k with
  | 0 => .array .int
  | 1 => .int
  | _ => .int
abbrev wsX20 : List Cond := u_ws RX2 TX2 3
theorem nmX2 : ∀ a, a < 3 → ∀ b, b < 3 → a ≠ b → (TX2 a).2.1 ≠ (TX2 b).2.1 := by decide +kernel
theorem tyX2_ok : ∀ k, k < 3 → parseFieldDescriptor (TX2 k).2.2.1 = some (tyX2 k) := by decide +kernel
abbrev cX2_init : ByteArray := prog_4_method_1_code
def yX2_init : MethodName := ⟨RX2, "<init>", "()V"⟩
abbrev cX2_isMissing : ByteArray := prog_4_method_2_code
def yX2_isMissing : MethodName := ⟨RX2, "isMissing", "()Z"⟩
abbrev cX2_renew : ByteArray := prog_4_method_3_code
def yX2_renew : MethodName := ⟨RX2, "renew", "(II)V"⟩
abbrev cX2_put : ByteArray := prog_4_method_4_code
def yX2_put : MethodName := ⟨RX2, "put", "(II)V"⟩
abbrev cX2_hasRange : ByteArray := prog_4_method_5_code
def yX2_hasRange : MethodName := ⟨RX2, "hasRange", "(II)Z"⟩
def RX3 : String := "TwiceRunning$Side"
def TX3 : u_T := fun k => match k with
  | 0 => ("TwiceRunning$Side", "kind", "I", false)
  | 1 => ("TwiceRunning$Side", "strength", "I", false)
  | 2 => ("TwiceRunning$Side", "tells", "I", false)
  | 3 => ("TwiceRunning$Side", "points", "I", false)
  | 4 => ("TwiceRunning$Side", "streak", "I", false)
  | _ => ("TwiceRunning$Side", "tired", "Z", false)
def tyX3 : Nat → FieldType := fun k => match k with
  | 0 => .int
  | 1 => .int
  | 2 => .int
  | 3 => .int
  | 4 => .int
  | _ => .boolean
abbrev wsX30 : List Cond := u_ws RX3 TX3 6
theorem nmX3 : ∀ a, a < 6 → ∀ b, b < 6 → a ≠ b → (TX3 a).2.1 ≠ (TX3 b).2.1 := by decide +kernel
theorem tyX3_ok : ∀ k, k < 6 → parseFieldDescriptor (TX3 k).2.2.1 = some (tyX3 k) := by decide +kernel
abbrev cX3_init : ByteArray := prog_5_method_1_code
def yX3_init : MethodName := ⟨RX3, "<init>", "()V"⟩
abbrev cX3_become : ByteArray := prog_5_method_2_code
def yX3_become : MethodName := ⟨RX3, "become", "(LTwiceRunning$Side;)V"⟩
abbrev cX3_rest : ByteArray := prog_5_method_3_code
def yX3_rest : MethodName := ⟨RX3, "rest", "()V"⟩
abbrev cX3_remember : ByteArray := prog_5_method_4_code
def yX3_remember : MethodName := ⟨RX3, "remember", "(ZII)V"⟩
def RX4 : String := "TwiceRunning$Tape"
def TX4 : u_T := fun k => match k with
  | 0 => ("TwiceRunning$Tape", "bytes", "[I", true)
  | 1 => ("TwiceRunning$Tape", "length", "I", false)
  | 2 => ("TwiceRunning$Tape", "tokenSort", "I", false)
  | 3 => ("TwiceRunning$Tape", "tokenBegin", "I", false)
  | 4 => ("TwiceRunning$Tape", "tokenEnd", "I", false)
  | _ => ("TwiceRunning$Tape", "tokenNumber", "I", false)
def tyX4 : Nat → FieldType := fun k => match k with
  | 0 => .array .int
  | 1 => .int
  | 2 => .int
  | 3 => .int
  | 4 => .int
  | _ => .int
abbrev wsX40 : List Cond := u_ws RX4 TX4 6
theorem nmX4 : ∀ a, a < 6 → ∀ b, b < 6 → a ≠ b → (TX4 a).2.1 ≠ (TX4 b).2.1 := by decide +kernel
theorem tyX4_ok : ∀ k, k < 6 → parseFieldDescriptor (TX4 k).2.2.1 = some (tyX4 k) := by decide +kernel
abbrev cX4_init : ByteArray := prog_6_method_1_code
def yX4_init : MethodName := ⟨RX4, "<init>", "()V"⟩
abbrev cX4_append : ByteArray := prog_6_method_2_code
def yX4_append : MethodName := ⟨RX4, "append", "(II)V"⟩
abbrev cX4_readInto : ByteArray := prog_6_method_3_code
def yX4_readInto : MethodName := ⟨RX4, "readInto", "(LTwiceRunning$League;)I"⟩
abbrev cX4_readItem : ByteArray := prog_6_method_4_code
def yX4_readItem : MethodName := ⟨RX4, "readItem", "(LTwiceRunning$League;)Z"⟩
abbrev cX4_readSide : ByteArray := prog_6_method_5_code
def yX4_readSide : MethodName := ⟨RX4, "readSide", "(LTwiceRunning$League;I)Z"⟩
abbrev cX4_readGame : ByteArray := prog_6_method_6_code
def yX4_readGame : MethodName := ⟨RX4, "readGame", "(LTwiceRunning$League;)Z"⟩
abbrev cX4_readLaw : ByteArray := prog_6_method_7_code
def yX4_readLaw : MethodName := ⟨RX4, "readLaw", "(LTwiceRunning$League;)Z"⟩
abbrev cX4_readPerhaps : ByteArray := prog_6_method_8_code
def yX4_readPerhaps : MethodName := ⟨RX4, "readPerhaps", "(Ljava/lang/String;III)I"⟩
abbrev cX4_isNumber : ByteArray := prog_6_method_9_code
def yX4_isNumber : MethodName := ⟨RX4, "isNumber", "(II)Z"⟩
abbrev cX4_isWord : ByteArray := prog_6_method_10_code
def yX4_isWord : MethodName := ⟨RX4, "isWord", "(Ljava/lang/String;)Z"⟩
abbrev cX4_kindOfWord : ByteArray := prog_6_method_11_code
def yX4_kindOfWord : MethodName := ⟨RX4, "kindOfWord", "()I"⟩
abbrev cX4_goOn : ByteArray := prog_6_method_12_code
def yX4_goOn : MethodName := ⟨RX4, "goOn", "()V"⟩
abbrev cX4_goThroughDigits : ByteArray := prog_6_method_13_code
def yX4_goThroughDigits : MethodName := ⟨RX4, "goThroughDigits", "()V"⟩
abbrev cX4_isLetter : ByteArray := prog_6_method_14_code
def yX4_isLetter : MethodName := ⟨RX4, "isLetter", "(I)Z"⟩
abbrev cX4_isDigit : ByteArray := prog_6_method_15_code
def yX4_isDigit : MethodName := ⟨RX4, "isDigit", "(I)Z"⟩
def RX5 : String := "TwiceRunning$Walk"
def TX5 : u_T := fun k => match k with
  | 0 => ("TwiceRunning$Walk", "league", "LTwiceRunning$League;", true)
  | 1 => ("TwiceRunning$Walk", "pointSums", "[J", true)
  | 2 => ("TwiceRunning$Walk", "firstSums", "[J", true)
  | 3 => ("TwiceRunning$Walk", "toFirst", "[J", true)
  | 4 => ("TwiceRunning$Walk", "movedSums", "[J", true)
  | 5 => ("TwiceRunning$Walk", "keptSums", "[J", true)
  | 6 => ("TwiceRunning$Walk", "all", "J", false)
  | 7 => ("TwiceRunning$Walk", "likely", "I", false)
  | 8 => ("TwiceRunning$Walk", "goalSide", "I", false)
  | 9 => ("TwiceRunning$Walk", "goalPoints", "I", false)
  | 10 => ("TwiceRunning$Walk", "alsoUnlikely", "Z", false)
  | 11 => ("TwiceRunning$Walk", "goalSum", "J", false)
  | _ => ("TwiceRunning$Walk", "mostPoints", "I", false)
def tyX5 : Nat → FieldType := fun k => match k with
  | 0 => .object "TwiceRunning$League"
  | 1 => .array .long
  | 2 => .array .long
  | 3 => .array .long
  | 4 => .array .long
  | 5 => .array .long
  | 6 => .long
  | 7 => .int
  | 8 => .int
  | 9 => .int
  | 10 => .boolean
  | 11 => .long
  | _ => .int
abbrev wsX50 : List Cond := u_ws RX5 TX5 13
theorem nmX5 : ∀ a, a < 13 → ∀ b, b < 13 → a ≠ b → (TX5 a).2.1 ≠ (TX5 b).2.1 := by decide +kernel
theorem tyX5_ok : ∀ k, k < 13 → parseFieldDescriptor (TX5 k).2.2.1 = some (tyX5 k) := by decide +kernel
abbrev cX5_init : ByteArray := prog_7_method_1_code
def yX5_init : MethodName := ⟨RX5, "<init>", "()V"⟩
abbrev cX5_over : ByteArray := prog_7_method_2_code
def yX5_over : MethodName := ⟨RX5, "over", "(IIZ)V"⟩
abbrev cX5_keepPointSums : ByteArray := prog_7_method_3_code
def yX5_keepPointSums : MethodName := ⟨RX5, "keepPointSums", "()V"⟩
abbrev cX5_keptAbovePointSum : ByteArray := prog_7_method_4_code
def yX5_keptAbovePointSum : MethodName := ⟨RX5, "keptAbovePointSum", "(I)J"⟩
abbrev cX5_startSums : ByteArray := prog_7_method_5_code
def yX5_startSums : MethodName := ⟨RX5, "startSums", "()V"⟩
abbrev cX5_follow : ByteArray := prog_7_method_6_code
def yX5_follow : MethodName := ⟨RX5, "follow", "(IJ)V"⟩
abbrev cX5_arrive : ByteArray := prog_7_method_7_code
def yX5_arrive : MethodName := ⟨RX5, "arrive", "(J)V"⟩
def RX6 : String := "TwiceRunning"
def TX6 : u_T := fun k => match k with
  | 0 => ("TwiceRunning", "league", "LTwiceRunning$League;", true)
  | 1 => ("TwiceRunning", "kept", "LTwiceRunning$League;", true)
  | 2 => ("TwiceRunning", "isKept", "Z", false)
  | 3 => ("TwiceRunning", "walk", "LTwiceRunning$Walk;", true)
  | 4 => ("TwiceRunning", "trial", "LTwiceRunning$League;", true)
  | 5 => ("TwiceRunning", "tape", "LTwiceRunning$Tape;", true)
  | 6 => ("TwiceRunning", "sheets", "[LTwiceRunning$Sheet;", true)
  | _ => ("TwiceRunning", "findings", "[I", true)
def tyX6 : Nat → FieldType := fun k => match k with
  | 0 => .object "TwiceRunning$League"
  | 1 => .object "TwiceRunning$League"
  | 2 => .boolean
  | 3 => .object "TwiceRunning$Walk"
  | 4 => .object "TwiceRunning$League"
  | 5 => .object "TwiceRunning$Tape"
  | 6 => .array (.object "TwiceRunning$Sheet")
  | _ => .array .int
abbrev wsX60 : List Cond := u_ws RX6 TX6 8
theorem nmX6 : ∀ a, a < 8 → ∀ b, b < 8 → a ≠ b → (TX6 a).2.1 ≠ (TX6 b).2.1 := by decide +kernel
theorem tyX6_ok : ∀ k, k < 8 → parseFieldDescriptor (TX6 k).2.2.1 = some (tyX6 k) := by decide +kernel
abbrev cX6_init : ByteArray := prog_1_method_1_code
def yX6_init : MethodName := ⟨RX6, "<init>", "()V"⟩
abbrev cX6_side : ByteArray := prog_1_method_2_code
def yX6_side : MethodName := ⟨RX6, "side", "(II)I"⟩
abbrev cX6_sideOf : ByteArray := prog_1_method_3_code
def yX6_sideOf : MethodName := ⟨RX6, "sideOf", "(II)I"⟩
abbrev cX6_change : ByteArray := prog_1_method_4_code
def yX6_change : MethodName := ⟨RX6, "change", "(III)I"⟩
abbrev cX6_game : ByteArray := prog_1_method_5_code
def yX6_game : MethodName := ⟨RX6, "game", "(III)I"⟩
abbrev cX6_gameOf : ByteArray := prog_1_method_6_code
def yX6_gameOf : MethodName := ⟨RX6, "gameOf", "(II)I"⟩
abbrev cX6_swap : ByteArray := prog_1_method_7_code
def yX6_swap : MethodName := ⟨RX6, "swap", "(II)I"⟩
abbrev cX6_law : ByteArray := prog_1_method_8_code
def yX6_law : MethodName := ⟨RX6, "law", "(I)I"⟩
abbrev cX6_feed : ByteArray := prog_1_method_9_code
def yX6_feed : MethodName := ⟨RX6, "feed", "(II)I"⟩
abbrev cX6_wipe : ByteArray := prog_1_method_10_code
def yX6_wipe : MethodName := ⟨RX6, "wipe", "()I"⟩
abbrev cX6_text : ByteArray := prog_1_method_11_code
def yX6_text : MethodName := ⟨RX6, "text", "()I"⟩
abbrev cX6_next : ByteArray := prog_1_method_12_code
def yX6_next : MethodName := ⟨RX6, "next", "(I)I"⟩
abbrev cX6_win : ByteArray := prog_1_method_13_code
def yX6_win : MethodName := ⟨RX6, "win", "(I)I"⟩
abbrev cX6_play : ByteArray := prog_1_method_14_code
def yX6_play : MethodName := ⟨RX6, "play", "()I"⟩
abbrev cX6_anew : ByteArray := prog_1_method_15_code
def yX6_anew : MethodName := ⟨RX6, "anew", "()I"⟩
abbrev cX6_leads : ByteArray := prog_1_method_16_code
def yX6_leads : MethodName := ⟨RX6, "leads", "()I"⟩
abbrev cX6_place : ByteArray := prog_1_method_17_code
def yX6_place : MethodName := ⟨RX6, "place", "(I)I"⟩
abbrev cX6_gets : ByteArray := prog_1_method_18_code
def yX6_gets : MethodName := ⟨RX6, "gets", "(III)J"⟩
abbrev cX6_first : ByteArray := prog_1_method_19_code
def yX6_first : MethodName := ⟨RX6, "first", "(II)J"⟩
abbrev cX6_mean : ByteArray := prog_1_method_20_code
def yX6_mean : MethodName := ⟨RX6, "mean", "(II)J"⟩
abbrev cX6_least : ByteArray := prog_1_method_21_code
def yX6_least : MethodName := ⟨RX6, "least", "(III)J"⟩
abbrev cX6_most : ByteArray := prog_1_method_22_code
def yX6_most : MethodName := ⟨RX6, "most", "(I)I"⟩
abbrev cX6_ways : ByteArray := prog_1_method_23_code
def yX6_ways : MethodName := ⟨RX6, "ways", "()I"⟩
abbrev cX6_moved : ByteArray := prog_1_method_24_code
def yX6_moved : MethodName := ⟨RX6, "moved", "(II)J"⟩
abbrev cX6_best : ByteArray := prog_1_method_25_code
def yX6_best : MethodName := ⟨RX6, "best", "(I)I"⟩
abbrev cX6_kindFor : ByteArray := prog_1_method_26_code
def yX6_kindFor : MethodName := ⟨RX6, "kindFor", "(I)I"⟩
abbrev cX6_tellsFor : ByteArray := prog_1_method_27_code
def yX6_tellsFor : MethodName := ⟨RX6, "tellsFor", "(I)I"⟩
abbrev cX6_order : ByteArray := prog_1_method_28_code
def yX6_order : MethodName := ⟨RX6, "order", "(I)I"⟩
abbrev cX6_lawFor : ByteArray := prog_1_method_29_code
def yX6_lawFor : MethodName := ⟨RX6, "lawFor", "(I)I"⟩
abbrev cX6_gains : ByteArray := prog_1_method_30_code
def yX6_gains : MethodName := ⟨RX6, "gains", "()I"⟩
abbrev cX6_wronged : ByteArray := prog_1_method_31_code
def yX6_wronged : MethodName := ⟨RX6, "wronged", "()I"⟩
abbrev cX6_tries : ByteArray := prog_1_method_32_code
def yX6_tries : MethodName := ⟨RX6, "tries", "(II)I"⟩
abbrev cX6_seed : ByteArray := prog_1_method_33_code
def yX6_seed : MethodName := ⟨RX6, "seed", "(I)I"⟩
abbrev cX6_hold : ByteArray := prog_1_method_34_code
def yX6_hold : MethodName := ⟨RX6, "hold", "(II)I"⟩
abbrev cX6_as : ByteArray := prog_1_method_35_code
def yX6_as : MethodName := ⟨RX6, "as", "(II)I"⟩
abbrev cX6_sheet : ByteArray := prog_1_method_36_code
def yX6_sheet : MethodName := ⟨RX6, "sheet", "(III)I"⟩
abbrev cX6_write : ByteArray := prog_1_method_37_code
def yX6_write : MethodName := ⟨RX6, "write", "(III)I"⟩
abbrev cX6_copy : ByteArray := prog_1_method_38_code
def yX6_copy : MethodName := ⟨RX6, "copy", "(IIIII)I"⟩
abbrev cX6_load : ByteArray := prog_1_method_39_code
def yX6_load : MethodName := ⟨RX6, "load", "(I)I"⟩
abbrev cX6_judge : ByteArray := prog_1_method_40_code
def yX6_judge : MethodName := ⟨RX6, "judge", "(I)I"⟩
abbrev cX6_image : ByteArray := prog_1_method_41_code
def yX6_image : MethodName := ⟨RX6, "image", "()I"⟩
abbrev cX6_undo : ByteArray := prog_1_method_42_code
def yX6_undo : MethodName := ⟨RX6, "undo", "()I"⟩
abbrev cX6_tear : ByteArray := prog_1_method_43_code
def yX6_tear : MethodName := ⟨RX6, "tear", "()I"⟩
abbrev cX6_count : ByteArray := prog_1_method_44_code
def yX6_count : MethodName := ⟨RX6, "count", "(I)I"⟩
abbrev cX6_status : ByteArray := prog_1_method_45_code
def yX6_status : MethodName := ⟨RX6, "status", "(I)I"⟩
abbrev cX6_finding : ByteArray := prog_1_method_46_code
def yX6_finding : MethodName := ⟨RX6, "finding", "(I)I"⟩
abbrev cX6_isKind : ByteArray := prog_1_method_47_code
def yX6_isKind : MethodName := ⟨RX6, "isKind", "(I)Z"⟩
abbrev cX6_isStrength : ByteArray := prog_1_method_48_code
def yX6_isStrength : MethodName := ⟨RX6, "isStrength", "(I)Z"⟩
abbrev cX6_isPart : ByteArray := prog_1_method_49_code
def yX6_isPart : MethodName := ⟨RX6, "isPart", "(I)Z"⟩
abbrev cX6_isSpot : ByteArray := prog_1_method_50_code
def yX6_isSpot : MethodName := ⟨RX6, "isSpot", "(I)Z"⟩
abbrev cX6_isSheet : ByteArray := prog_1_method_51_code
def yX6_isSheet : MethodName := ⟨RX6, "isSheet", "(I)Z"⟩
abbrev cX6_canBecome : ByteArray := prog_1_method_52_code
def yX6_canBecome : MethodName := ⟨RX6, "canBecome", "(II)Z"⟩
abbrev cX6_isUnder : ByteArray := prog_1_method_53_code
def yX6_isUnder : MethodName := ⟨RX6, "isUnder", "(II)Z"⟩
abbrev cX6_goLikelyWays : ByteArray := prog_1_method_54_code
def yX6_goLikelyWays : MethodName := ⟨RX6, "goLikelyWays", "()V"⟩
abbrev cX6_greatestMean : ByteArray := prog_1_method_55_code
def yX6_greatestMean : MethodName := ⟨RX6, "greatestMean", "(IIII)I"⟩
abbrev cX6_suppose : ByteArray := prog_1_method_56_code
def yX6_suppose : MethodName := ⟨RX6, "suppose", "(III)V"⟩
abbrev cX6_bestOrder : ByteArray := prog_1_method_57_code
def yX6_bestOrder : MethodName := ⟨RX6, "bestOrder", "(II)I"⟩
abbrev cX6_arrangeTrial : ByteArray := prog_1_method_58_code
def yX6_arrangeTrial : MethodName := ⟨RX6, "arrangeTrial", "(II)I"⟩
abbrev cX6_inLowestTerms : ByteArray := prog_1_method_59_code
def yX6_inLowestTerms : MethodName := ⟨RX6, "inLowestTerms", "(JJI)J"⟩
def RX7 : String := "TwiceRunningModel"
def TX7 : u_T := fun k => match k with
  | 0 => ("TwiceRunningModel", "s", "[I", true)
  | 1 => ("TwiceRunningModel", "kept", "[I", true)
  | 2 => ("TwiceRunningModel", "put", "[I", true)
  | 3 => ("TwiceRunningModel", "isKept", "Z", false)
  | 4 => ("TwiceRunningModel", "findings", "[I", true)
  | 5 => ("TwiceRunningModel", "toldGame", "I", false)
  | 6 => ("TwiceRunningModel", "toldSide", "I", false)
  | 7 => ("TwiceRunningModel", "toldEffort", "I", false)
  | 8 => ("TwiceRunningModel", "tape", "[I", true)
  | 9 => ("TwiceRunningModel", "taped", "I", false)
  | 10 => ("TwiceRunningModel", "at", "I", false)
  | 11 => ("TwiceRunningModel", "token", "I", false)
  | 12 => ("TwiceRunningModel", "tokenAt", "I", false)
  | 13 => ("TwiceRunningModel", "value", "I", false)
  | 14 => ("TwiceRunningModel", "taken", "I", false)
  | 15 => ("TwiceRunningModel", "items", "I", false)
  | 16 => ("TwiceRunningModel", "given", "[J", true)
  | 17 => ("TwiceRunningModel", "moves", "[J", true)
  | 18 => ("TwiceRunningModel", "firsts", "[J", true)
  | 19 => ("TwiceRunningModel", "means", "[J", true)
  | 20 => ("TwiceRunningModel", "mosts", "[I", true)
  | 21 => ("TwiceRunningModel", "asked", "I", false)
  | 22 => ("TwiceRunningModel", "leasts", "[J", true)
  | 23 => ("TwiceRunningModel", "wayCount", "I", false)
  | 24 => ("TwiceRunningModel", "row", "[I", true)
  | 25 => ("TwiceRunningModel", "meansBy", "[J", true)
  | 26 => ("TwiceRunningModel", "bits", "[I", true)
  | 27 => ("TwiceRunningModel", "sizes", "[I", true)
  | 28 => ("TwiceRunningModel", "number", "[I", true)
  | _ => ("TwiceRunningModel", "carried", "[I", true)
def tyX7 : Nat → FieldType := fun k => match k with
  | 0 => .array .int
  | 1 => .array .int
  | 2 => .array .int
  | 3 => .boolean
  | 4 => .array .int
  | 5 => .int
  | 6 => .int
  | 7 => .int
  | 8 => .array .int
  | 9 => .int
  | 10 => .int
  | 11 => .int
  | 12 => .int
  | 13 => .int
  | 14 => .int
  | 15 => .int
  | 16 => .array .long
  | 17 => .array .long
  | 18 => .array .long
  | 19 => .array .long
  | 20 => .array .int
  | 21 => .int
  | 22 => .array .long
  | 23 => .int
  | 24 => .array .int
  | 25 => .array .long
  | 26 => .array .int
  | 27 => .array .int
  | 28 => .array .int
  | _ => .array .int
abbrev wsX70 : List Cond := u_ws RX7 TX7 30
theorem nmX7 : ∀ a, a < 30 → ∀ b, b < 30 → a ≠ b → (TX7 a).2.1 ≠ (TX7 b).2.1 := by decide +kernel
theorem tyX7_ok : ∀ k, k < 30 → parseFieldDescriptor (TX7 k).2.2.1 = some (tyX7 k) := by decide +kernel
abbrev cX7_init : ByteArray := prog_9_method_1_code
def yX7_init : MethodName := ⟨RX7, "<init>", "()V"⟩
abbrev cX7_finding : ByteArray := prog_9_method_2_code
def yX7_finding : MethodName := ⟨RX7, "finding", "(I)I"⟩
abbrev cX7_in : ByteArray := prog_9_method_3_code
def yX7_in : MethodName := ⟨RX7, "in", "(III)Z"⟩
abbrev cX7_carry : ByteArray := prog_9_method_4_code
def yX7_carry : MethodName := ⟨RX7, "carry", "([I[I)V"⟩
abbrev cX7_isSide : ByteArray := prog_9_method_5_code
def yX7_isSide : MethodName := ⟨RX7, "isSide", "(I)Z"⟩
abbrev cX7_isGame : ByteArray := prog_9_method_6_code
def yX7_isGame : MethodName := ⟨RX7, "isGame", "(I)Z"⟩
abbrev cX7_its : ByteArray := prog_9_method_7_code
def yX7_its : MethodName := ⟨RX7, "its", "(II)I"⟩
abbrev cX7_of : ByteArray := prog_9_method_8_code
def yX7_of : MethodName := ⟨RX7, "of", "(II)I"⟩
abbrev cX7_plays : ByteArray := prog_9_method_9_code
def yX7_plays : MethodName := ⟨RX7, "plays", "(II)Z"⟩
abbrev cX7_points : ByteArray := prog_9_method_10_code
def yX7_points : MethodName := ⟨RX7, "points", "(I)I"⟩
abbrev cX7_isBarred : ByteArray := prog_9_method_11_code
def yX7_isBarred : MethodName := ⟨RX7, "isBarred", "(I)Z"⟩
abbrev cX7_isTired : ByteArray := prog_9_method_12_code
def yX7_isTired : MethodName := ⟨RX7, "isTired", "(I)Z"⟩
abbrev cX7_hasGreater : ByteArray := prog_9_method_13_code
def yX7_hasGreater : MethodName := ⟨RX7, "hasGreater", "(II)Z"⟩
abbrev cX7_effort : ByteArray := prog_9_method_14_code
def yX7_effort : MethodName := ⟨RX7, "effort", "(II)I"⟩
abbrev cX7_force : ByteArray := prog_9_method_15_code
def yX7_force : MethodName := ⟨RX7, "force", "(II)I"⟩
abbrev cX7_chance : ByteArray := prog_9_method_16_code
def yX7_chance : MethodName := ⟨RX7, "chance", "(III)I"⟩
abbrev cX7_givenTo : ByteArray := prog_9_method_17_code
def yX7_givenTo : MethodName := ⟨RX7, "givenTo", "(II)I"⟩
abbrev cX7_wins : ByteArray := prog_9_method_18_code
def yX7_wins : MethodName := ⟨RX7, "wins", "(III)V"⟩
abbrev cX7_winsNow : ByteArray := prog_9_method_19_code
def yX7_winsNow : MethodName := ⟨RX7, "winsNow", "(I)V"⟩
abbrev cX7_isOver : ByteArray := prog_9_method_20_code
def yX7_isOver : MethodName := ⟨RX7, "isOver", "()Z"⟩
abbrev cX7_leader : ByteArray := prog_9_method_21_code
def yX7_leader : MethodName := ⟨RX7, "leader", "()I"⟩
abbrev cX7_side : ByteArray := prog_9_method_22_code
def yX7_side : MethodName := ⟨RX7, "side", "(II)I"⟩
abbrev cX7_addSide : ByteArray := prog_9_method_23_code
def yX7_addSide : MethodName := ⟨RX7, "addSide", "(III)V"⟩
abbrev cX7_games : ByteArray := prog_9_method_24_code
def yX7_games : MethodName := ⟨RX7, "games", "(IZ)I"⟩
abbrev cX7_sideOf : ByteArray := prog_9_method_25_code
def yX7_sideOf : MethodName := ⟨RX7, "sideOf", "(II)I"⟩
abbrev cX7_change : ByteArray := prog_9_method_26_code
def yX7_change : MethodName := ⟨RX7, "change", "(III)I"⟩
abbrev cX7_addGame : ByteArray := prog_9_method_27_code
def yX7_addGame : MethodName := ⟨RX7, "addGame", "(III)V"⟩
abbrev cX7_game : ByteArray := prog_9_method_28_code
def yX7_game : MethodName := ⟨RX7, "game", "(III)I"⟩
abbrev cX7_gameOf : ByteArray := prog_9_method_29_code
def yX7_gameOf : MethodName := ⟨RX7, "gameOf", "(II)I"⟩
abbrev cX7_swaps : ByteArray := prog_9_method_30_code
def yX7_swaps : MethodName := ⟨RX7, "swaps", "(II)V"⟩
abbrev cX7_swap : ByteArray := prog_9_method_31_code
def yX7_swap : MethodName := ⟨RX7, "swap", "(II)I"⟩
abbrev cX7_law : ByteArray := prog_9_method_32_code
def yX7_law : MethodName := ⟨RX7, "law", "(I)I"⟩
abbrev cX7_feed : ByteArray := prog_9_method_33_code
def yX7_feed : MethodName := ⟨RX7, "feed", "(II)I"⟩
abbrev cX7_wipe : ByteArray := prog_9_method_34_code
def yX7_wipe : MethodName := ⟨RX7, "wipe", "()I"⟩
abbrev cX7_byteAt : ByteArray := prog_9_method_35_code
def yX7_byteAt : MethodName := ⟨RX7, "byteAt", "(I)I"⟩
abbrev cX7_nextToken : ByteArray := prog_9_method_36_code
def yX7_nextToken : MethodName := ⟨RX7, "nextToken", "()V"⟩
abbrev cX7_isWord : ByteArray := prog_9_method_37_code
def yX7_isWord : MethodName := ⟨RX7, "isWord", "(Ljava/lang/String;)Z"⟩
abbrev cX7_isNumber : ByteArray := prog_9_method_38_code
def yX7_isNumber : MethodName := ⟨RX7, "isNumber", "(II)Z"⟩
abbrev cX7_takes : ByteArray := prog_9_method_39_code
def yX7_takes : MethodName := ⟨RX7, "takes", "(Ljava/lang/String;)Z"⟩
abbrev cX7_takesNumber : ByteArray := prog_9_method_40_code
def yX7_takesNumber : MethodName := ⟨RX7, "takesNumber", "(II)Z"⟩
abbrev cX7_takesSide : ByteArray := prog_9_method_41_code
def yX7_takesSide : MethodName := ⟨RX7, "takesSide", "(I)Z"⟩
abbrev cX7_takesGame : ByteArray := prog_9_method_42_code
def yX7_takesGame : MethodName := ⟨RX7, "takesGame", "()Z"⟩
abbrev cX7_takesItem : ByteArray := prog_9_method_43_code
def yX7_takesItem : MethodName := ⟨RX7, "takesItem", "()Z"⟩
abbrev cX7_takesAll : ByteArray := prog_9_method_44_code
def yX7_takesAll : MethodName := ⟨RX7, "takesAll", "()Z"⟩
abbrev cX7_text : ByteArray := prog_9_method_45_code
def yX7_text : MethodName := ⟨RX7, "text", "()I"⟩
abbrev cX7_next : ByteArray := prog_9_method_46_code
def yX7_next : MethodName := ⟨RX7, "next", "(I)I"⟩
abbrev cX7_win : ByteArray := prog_9_method_47_code
def yX7_win : MethodName := ⟨RX7, "win", "(I)I"⟩
abbrev cX7_draw : ByteArray := prog_9_method_48_code
def yX7_draw : MethodName := ⟨RX7, "draw", "()I"⟩
abbrev cX7_drawsNext : ByteArray := prog_9_method_49_code
def yX7_drawsNext : MethodName := ⟨RX7, "drawsNext", "()V"⟩
abbrev cX7_play : ByteArray := prog_9_method_50_code
def yX7_play : MethodName := ⟨RX7, "play", "()I"⟩
abbrev cX7_anew : ByteArray := prog_9_method_51_code
def yX7_anew : MethodName := ⟨RX7, "anew", "()I"⟩
abbrev cX7_leads : ByteArray := prog_9_method_52_code
def yX7_leads : MethodName := ⟨RX7, "leads", "()I"⟩
abbrev cX7_place : ByteArray := prog_9_method_53_code
def yX7_place : MethodName := ⟨RX7, "place", "(I)I"⟩
abbrev cX7_ends : ByteArray := prog_9_method_54_code
def yX7_ends : MethodName := ⟨RX7, "ends", "(J)V"⟩
abbrev cX7_goesOn : ByteArray := prog_9_method_55_code
def yX7_goesOn : MethodName := ⟨RX7, "goesOn", "(J)V"⟩
abbrev cX7_findWays : ByteArray := prog_9_method_56_code
def yX7_findWays : MethodName := ⟨RX7, "findWays", "()J"⟩
abbrev cX7_told : ByteArray := prog_9_method_57_code
def yX7_told : MethodName := ⟨RX7, "told", "(JJI)J"⟩
abbrev cX7_isPart : ByteArray := prog_9_method_58_code
def yX7_isPart : MethodName := ⟨RX7, "isPart", "(I)Z"⟩
abbrev cX7_gets : ByteArray := prog_9_method_59_code
def yX7_gets : MethodName := ⟨RX7, "gets", "(III)J"⟩
abbrev cX7_first : ByteArray := prog_9_method_60_code
def yX7_first : MethodName := ⟨RX7, "first", "(II)J"⟩
abbrev cX7_mean : ByteArray := prog_9_method_61_code
def yX7_mean : MethodName := ⟨RX7, "mean", "(II)J"⟩
abbrev cX7_least : ByteArray := prog_9_method_62_code
def yX7_least : MethodName := ⟨RX7, "least", "(III)J"⟩
abbrev cX7_most : ByteArray := prog_9_method_63_code
def yX7_most : MethodName := ⟨RX7, "most", "(I)I"⟩
abbrev cX7_ways : ByteArray := prog_9_method_64_code
def yX7_ways : MethodName := ⟨RX7, "ways", "()I"⟩
abbrev cX7_moved : ByteArray := prog_9_method_65_code
def yX7_moved : MethodName := ⟨RX7, "moved", "(II)J"⟩
abbrev cX7_meanOf : ByteArray := prog_9_method_66_code
def yX7_meanOf : MethodName := ⟨RX7, "meanOf", "(I)J"⟩
abbrev cX7_best : ByteArray := prog_9_method_67_code
def yX7_best : MethodName := ⟨RX7, "best", "(I)I"⟩
abbrev cX7_bestLaid : ByteArray := prog_9_method_68_code
def yX7_bestLaid : MethodName := ⟨RX7, "bestLaid", "(IIII)I"⟩
abbrev cX7_kindFor : ByteArray := prog_9_method_69_code
def yX7_kindFor : MethodName := ⟨RX7, "kindFor", "(I)I"⟩
abbrev cX7_tellsFor : ByteArray := prog_9_method_70_code
def yX7_tellsFor : MethodName := ⟨RX7, "tellsFor", "(I)I"⟩
abbrev cX7_nextRow : ByteArray := prog_9_method_71_code
def yX7_nextRow : MethodName := ⟨RX7, "nextRow", "(I)Z"⟩
abbrev cX7_order : ByteArray := prog_9_method_72_code
def yX7_order : MethodName := ⟨RX7, "order", "(I)I"⟩
abbrev cX7_lawFor : ByteArray := prog_9_method_73_code
def yX7_lawFor : MethodName := ⟨RX7, "lawFor", "(I)I"⟩
abbrev cX7_gains : ByteArray := prog_9_method_74_code
def yX7_gains : MethodName := ⟨RX7, "gains", "()I"⟩
abbrev cX7_wronged : ByteArray := prog_9_method_75_code
def yX7_wronged : MethodName := ⟨RX7, "wronged", "()I"⟩
abbrev cX7_tries : ByteArray := prog_9_method_76_code
def yX7_tries : MethodName := ⟨RX7, "tries", "(II)I"⟩
abbrev cX7_seed : ByteArray := prog_9_method_77_code
def yX7_seed : MethodName := ⟨RX7, "seed", "(I)I"⟩
abbrev cX7_hold : ByteArray := prog_9_method_78_code
def yX7_hold : MethodName := ⟨RX7, "hold", "(II)I"⟩
abbrev cX7_isUnder : ByteArray := prog_9_method_79_code
def yX7_isUnder : MethodName := ⟨RX7, "isUnder", "(II)Z"⟩
abbrev cX7_as : ByteArray := prog_9_method_80_code
def yX7_as : MethodName := ⟨RX7, "as", "(II)I"⟩
abbrev cX7_isSheet : ByteArray := prog_9_method_81_code
def yX7_isSheet : MethodName := ⟨RX7, "isSheet", "(I)Z"⟩
abbrev cX7_sheet : ByteArray := prog_9_method_82_code
def yX7_sheet : MethodName := ⟨RX7, "sheet", "(III)I"⟩
abbrev cX7_write : ByteArray := prog_9_method_83_code
def yX7_write : MethodName := ⟨RX7, "write", "(III)I"⟩
abbrev cX7_copy : ByteArray := prog_9_method_84_code
def yX7_copy : MethodName := ⟨RX7, "copy", "(IIIII)I"⟩
abbrev cX7_lacks : ByteArray := prog_9_method_85_code
def yX7_lacks : MethodName := ⟨RX7, "lacks", "(I)I"⟩
abbrev cX7_load : ByteArray := prog_9_method_86_code
def yX7_load : MethodName := ⟨RX7, "load", "(I)I"⟩
abbrev cX7_judge : ByteArray := prog_9_method_87_code
def yX7_judge : MethodName := ⟨RX7, "judge", "(I)I"⟩
abbrev cX7_image : ByteArray := prog_9_method_88_code
def yX7_image : MethodName := ⟨RX7, "image", "()I"⟩
abbrev cX7_undo : ByteArray := prog_9_method_89_code
def yX7_undo : MethodName := ⟨RX7, "undo", "()I"⟩
abbrev cX7_tear : ByteArray := prog_9_method_90_code
def yX7_tear : MethodName := ⟨RX7, "tear", "()I"⟩
abbrev cX7_count : ByteArray := prog_9_method_91_code
def yX7_count : MethodName := ⟨RX7, "count", "(I)I"⟩
abbrev cX7_status : ByteArray := prog_9_method_92_code
def yX7_status : MethodName := ⟨RX7, "status", "(I)I"⟩
def RJ9 : String := "java/lang/Math"
def TJ9 : u_T := fun k => match k with
  | _ => ("", "", "", false)
def tyJ9 : Nat → FieldType := fun k => match k with
  | _ => .int
abbrev wsJ90 : List Cond := u_ws RJ9 TJ9 0
theorem nmJ9 : ∀ a, a < 0 → ∀ b, b < 0 → a ≠ b → (TJ9 a).2.1 ≠ (TJ9 b).2.1 := by decide +kernel
theorem tyJ9_ok : ∀ k, k < 0 → parseFieldDescriptor (TJ9 k).2.2.1 = some (tyJ9 k) := by decide +kernel
abbrev cJ9_max_7cf53 : ByteArray := prog_10_method_65_code
def yJ9_max_7cf53 : MethodName := ⟨RJ9, "max", "(II)I"⟩
abbrev cJ9_min_7cf53 : ByteArray := prog_10_method_69_code
def yJ9_min_7cf53 : MethodName := ⟨RJ9, "min", "(II)I"⟩
def RJ0 : String := "java/lang/String"
def TJ0 : u_T := fun k => match k with
  | _ => ("", "", "", false)
def tyJ0 : Nat → FieldType := fun k => match k with
  | _ => .int
abbrev wsJ00 : List Cond := u_ws RJ0 TJ0 0
theorem nmJ0 : ∀ a, a < 0 → ∀ b, b < 0 → a ≠ b → (TJ0 a).2.1 ≠ (TJ0 b).2.1 := by decide +kernel
theorem tyJ0_ok : ∀ k, k < 0 → parseFieldDescriptor (TJ0 k).2.2.1 = some (tyJ0 k) := by decide +kernel
abbrev cJ0_length_8abf5 : ByteArray := prog_11_method_54_code
def yJ0_length_8abf5 : MethodName := ⟨RJ0, "length", "()I"⟩
abbrev cJ0_charAt_5068e : ByteArray := prog_11_method_56_code
def yJ0_charAt_5068e : MethodName := ⟨RJ0, "charAt", "(I)C"⟩
abbrev cJ0_coder_7d493 : ByteArray := prog_11_method_152_code
def yJ0_coder_7d493 : MethodName := ⟨RJ0, "coder", "()B"⟩
abbrev cJ0_isLatin1_aae02 : ByteArray := prog_11_method_154_code
def yJ0_isLatin1_aae02 : MethodName := ⟨RJ0, "isLatin1", "()Z"⟩
abbrev cJ0_checkIndex_df160 : ByteArray := prog_11_method_155_code
def yJ0_checkIndex_df160 : MethodName := ⟨RJ0, "checkIndex", "(II)V"⟩
def RJ1 : String := "java/lang/StringLatin1"
def TJ1 : u_T := fun k => match k with
  | _ => ("", "", "", false)
def tyJ1 : Nat → FieldType := fun k => match k with
  | _ => .int
abbrev wsJ10 : List Cond := u_ws RJ1 TJ1 0
theorem nmJ1 : ∀ a, a < 0 → ∀ b, b < 0 → a ≠ b → (TJ1 a).2.1 ≠ (TJ1 b).2.1 := by decide +kernel
theorem tyJ1_ok : ∀ k, k < 0 → parseFieldDescriptor (TJ1 k).2.2.1 = some (tyJ1 k) := by decide +kernel
abbrev cJ1_charAt_3b067 : ByteArray := prog_12_method_2_code
def yJ1_charAt_3b067 : MethodName := ⟨RJ1, "charAt", "([BI)C"⟩
def RJ2 : String := "java/lang/StringUTF16"
def TJ2 : u_T := fun k => match k with
  | _ => ("", "", "", false)
def tyJ2 : Nat → FieldType := fun k => match k with
  | _ => .int
abbrev wsJ20 : List Cond := u_ws RJ2 TJ2 0
theorem nmJ2 : ∀ a, a < 0 → ∀ b, b < 0 → a ≠ b → (TJ2 a).2.1 ≠ (TJ2 b).2.1 := by decide +kernel
theorem tyJ2_ok : ∀ k, k < 0 → parseFieldDescriptor (TJ2 k).2.2.1 = some (tyJ2 k) := by decide +kernel
abbrev cJ2_getChar_3b067 : ByteArray := prog_13_method_5_code
def yJ2_getChar_3b067 : MethodName := ⟨RJ2, "getChar", "([BI)C"⟩
abbrev cJ2_length_9d52b : ByteArray := prog_13_method_6_code
def yJ2_length_9d52b : MethodName := ⟨RJ2, "length", "([B)I"⟩
abbrev cJ2_charAt_3b067 : ByteArray := prog_13_method_83_code
def yJ2_charAt_3b067 : MethodName := ⟨RJ2, "charAt", "([BI)C"⟩
abbrev cJ2_checkIndex_2214a : ByteArray := prog_13_method_91_code
def yJ2_checkIndex_2214a : MethodName := ⟨RJ2, "checkIndex", "(I[B)V"⟩
def RJ10 : String := "java/lang/System"
def TJ10 : u_T := fun k => match k with
  | _ => ("", "", "", false)
def tyJ10 : Nat → FieldType := fun k => match k with
  | _ => .int
abbrev wsJ100 : List Cond := u_ws RJ10 TJ10 0
theorem nmJ10 : ∀ a, a < 0 → ∀ b, b < 0 → a ≠ b → (TJ10 a).2.1 ≠ (TJ10 b).2.1 := by decide +kernel
theorem tyJ10_ok : ∀ k, k < 0 → parseFieldDescriptor (TJ10 k).2.2.1 = some (tyJ10 k) := by decide +kernel
def RJ3 : String := "jdk/internal/util/Preconditions"
def TJ3 : u_T := fun k => match k with
  | _ => ("", "", "", false)
def tyJ3 : Nat → FieldType := fun k => match k with
  | _ => .int
abbrev wsJ30 : List Cond := u_ws RJ3 TJ3 0
theorem nmJ3 : ∀ a, a < 0 → ∀ b, b < 0 → a ≠ b → (TJ3 a).2.1 ≠ (TJ3 b).2.1 := by decide +kernel
theorem tyJ3_ok : ∀ k, k < 0 → parseFieldDescriptor (TJ3 k).2.2.1 = some (tyJ3 k) := by decide +kernel
abbrev cJ3_checkIndex_8e157 : ByteArray := prog_15_method_11_code
def yJ3_checkIndex_8e157 : MethodName := ⟨RJ3, "checkIndex", "(IILjava/util/function/BiFunction;)I"⟩
def RL : String := "TwiceRunningLaw"
abbrev cL_law : ByteArray := code
def yL_law : MethodName := ⟨RL, "law", "([I)Z"⟩
abbrev vwCl : List vw_C := [(RX0, TX0, 9), (RX1, TX1, 11), (RX2, TX2, 3), (RX3, TX3, 6), (RX4, TX4, 6), (RX5, TX5, 13), (RX6, TX6, 8), (RX7, TX7, 30)]
/-- the words that every method's contract takes: those of the tables that a call keeps -/
def gW : List Cond := lw_tbl.filter goodWord
theorem gW_mem {i : Nat} {w : Cond} (h : lw_tbl[i]? = some w) (hg : goodWord w = true) : w ∈ gW := List.mem_filter.mpr ⟨List.mem_of_getElem? h, hg⟩
def wU (y : MethodName) (cc : ByteArray) (nL : Nat) (rt : Option FieldType) : List Cond := Cond.code y cc nL rt :: gW
theorem gW_good {y : MethodName} {cc : ByteArray} {nL : Nat} {rt : Option FieldType} {big : List Cond} (h : ∀ w ∈ gW, w ∈ big) (hc : Cond.code y cc nL rt ∈ gW) : GoodIn big (wU y cc nL rt) := by
  intro w hw
  rcases List.mem_cons.mp hw with e | e
  · subst e
    exact ⟨h _ hc, good_of_word (List.mem_filter.mp hc).2⟩
  · exact ⟨h w e, good_of_word (List.mem_filter.mp e).2⟩
theorem gW_goodV {own C : String} {idx : Nat} {y : MethodName} {cc : ByteArray} {nL : Nat} {rt : Option FieldType} {big : List Cond} (h : ∀ w ∈ gW, w ∈ big) (hc : Cond.code y cc nL rt ∈ gW) (h1 : Cond.methodLink own idx y ∈ gW) (h2 : Cond.instanceMethod y ∈ gW) (h3 : Cond.selects C y y ∈ gW) (h4 : Cond.initialized C ∈ gW) : GoodIn big (wsV own idx C y (wU y cc nL rt)) := by
  intro w hw
  rcases List.mem_append.mp hw with e | e
  · have e2 : w ∈ gW := by
      rcases List.mem_cons.mp e with e | e
      · subst e; exact h1
      rcases List.mem_cons.mp e with e | e
      · subst e; exact h2
      rcases List.mem_cons.mp e with e | e
      · subst e; exact h3
      rcases List.mem_cons.mp e with e | e
      · subst e; exact h4
      · cases e
    exact ⟨h w e2, good_of_word (List.mem_filter.mp e2).2⟩
  · exact gW_good h hc w e
theorem gW_goodS {own : String} {idx : Nat} {y : MethodName} {cc : ByteArray} {nL : Nat} {rt : Option FieldType} {big : List Cond} (h : ∀ w ∈ gW, w ∈ big) (hc : Cond.code y cc nL rt ∈ gW) (h1 : Cond.methodLink own idx y ∈ gW) (h2 : Cond.static y ∈ gW) (h3 : Cond.initialized y.cls ∈ gW) : GoodIn big (va_wsS own idx y (wU y cc nL rt)) := by
  intro w hw
  rcases List.mem_append.mp hw with e | e
  · have e2 : w ∈ gW := by
      rcases List.mem_cons.mp e with e | e
      · subst e; exact h1
      rcases List.mem_cons.mp e with e | e
      · subst e; exact h2
      rcases List.mem_cons.mp e with e | e
      · subst e; exact h3
      · cases e
    exact ⟨h w e2, good_of_word (List.mem_filter.mp e2).2⟩
  · exact gW_good h hc w e
theorem qw0 : Cond.selects RX6 yX6_finding yX6_finding ∈ gW := gW_mem (i := 0) (by decide +kernel) (by decide +kernel)
theorem qw1 : Cond.selects RX4 yX4_goOn yX4_goOn ∈ gW := gW_mem (i := 1) (by decide +kernel) (by decide +kernel)
theorem qw2 : Cond.selects RX4 yX4_goThroughDigits yX4_goThroughDigits ∈ gW := gW_mem (i := 2) (by decide +kernel) (by decide +kernel)
theorem qw3 : Cond.selects RX4 yX4_readItem yX4_readItem ∈ gW := gW_mem (i := 3) (by decide +kernel) (by decide +kernel)
theorem qw4 : Cond.selects RX4 yX4_kindOfWord yX4_kindOfWord ∈ gW := gW_mem (i := 4) (by decide +kernel) (by decide +kernel)
theorem qw5 : Cond.selects RX4 yX4_isWord yX4_isWord ∈ gW := gW_mem (i := 5) (by decide +kernel) (by decide +kernel)
theorem qw6 : Cond.selects RX4 yX4_readSide yX4_readSide ∈ gW := gW_mem (i := 6) (by decide +kernel) (by decide +kernel)
theorem qw7 : Cond.selects RX4 yX4_isNumber yX4_isNumber ∈ gW := gW_mem (i := 7) (by decide +kernel) (by decide +kernel)
theorem qw8 : Cond.selects RX4 yX4_readPerhaps yX4_readPerhaps ∈ gW := gW_mem (i := 8) (by decide +kernel) (by decide +kernel)
theorem qw9 : Cond.selects RX4 yX4_readGame yX4_readGame ∈ gW := gW_mem (i := 9) (by decide +kernel) (by decide +kernel)
theorem qw10 : Cond.selects RX4 yX4_readLaw yX4_readLaw ∈ gW := gW_mem (i := 10) (by decide +kernel) (by decide +kernel)
theorem qw11 : Cond.selects RX6 yX6_goLikelyWays yX6_goLikelyWays ∈ gW := gW_mem (i := 11) (by decide +kernel) (by decide +kernel)
theorem qw12 : Cond.selects RX5 yX5_startSums yX5_startSums ∈ gW := gW_mem (i := 12) (by decide +kernel) (by decide +kernel)
theorem qw13 : Cond.selects RX5 yX5_follow yX5_follow ∈ gW := gW_mem (i := 13) (by decide +kernel) (by decide +kernel)
theorem qw14 : Cond.selects RX5 yX5_arrive yX5_arrive ∈ gW := gW_mem (i := 14) (by decide +kernel) (by decide +kernel)
theorem qw15 : Cond.selects RX6 yX6_greatestMean yX6_greatestMean ∈ gW := gW_mem (i := 15) (by decide +kernel) (by decide +kernel)
theorem qw16 : Cond.selects RX6 yX6_suppose yX6_suppose ∈ gW := gW_mem (i := 16) (by decide +kernel) (by decide +kernel)
theorem qw17 : Cond.selects RX6 yX6_bestOrder yX6_bestOrder ∈ gW := gW_mem (i := 17) (by decide +kernel) (by decide +kernel)
theorem qw18 : Cond.selects RX6 yX6_arrangeTrial yX6_arrangeTrial ∈ gW := gW_mem (i := 18) (by decide +kernel) (by decide +kernel)
theorem qw19 : Cond.selects RX7 yX7_finding yX7_finding ∈ gW := gW_mem (i := 19) (by decide +kernel) (by decide +kernel)
theorem qw20 : Cond.selects RX7 yX7_addSide yX7_addSide ∈ gW := gW_mem (i := 20) (by decide +kernel) (by decide +kernel)
theorem qw21 : Cond.selects RX7 yX7_isSide yX7_isSide ∈ gW := gW_mem (i := 21) (by decide +kernel) (by decide +kernel)
theorem qw22 : Cond.selects RX7 yX7_points yX7_points ∈ gW := gW_mem (i := 22) (by decide +kernel) (by decide +kernel)
theorem qw23 : Cond.selects RX7 yX7_of yX7_of ∈ gW := gW_mem (i := 23) (by decide +kernel) (by decide +kernel)
theorem qw24 : Cond.selects RX7 yX7_isBarred yX7_isBarred ∈ gW := gW_mem (i := 24) (by decide +kernel) (by decide +kernel)
theorem qw25 : Cond.selects RX7 yX7_plays yX7_plays ∈ gW := gW_mem (i := 25) (by decide +kernel) (by decide +kernel)
theorem qw26 : Cond.selects RX7 yX7_isTired yX7_isTired ∈ gW := gW_mem (i := 26) (by decide +kernel) (by decide +kernel)
theorem qw27 : Cond.selects RX7 yX7_games yX7_games ∈ gW := gW_mem (i := 27) (by decide +kernel) (by decide +kernel)
theorem qw28 : Cond.selects RX7 yX7_its yX7_its ∈ gW := gW_mem (i := 28) (by decide +kernel) (by decide +kernel)
theorem qw29 : Cond.selects RX7 yX7_addGame yX7_addGame ∈ gW := gW_mem (i := 29) (by decide +kernel) (by decide +kernel)
theorem qw30 : Cond.selects RX7 yX7_isGame yX7_isGame ∈ gW := gW_mem (i := 30) (by decide +kernel) (by decide +kernel)
theorem qw31 : Cond.selects RX7 yX7_swaps yX7_swaps ∈ gW := gW_mem (i := 31) (by decide +kernel) (by decide +kernel)
theorem qw32 : Cond.selects RX7 yX7_takesAll yX7_takesAll ∈ gW := gW_mem (i := 32) (by decide +kernel) (by decide +kernel)
theorem qw33 : Cond.selects RX7 yX7_nextToken yX7_nextToken ∈ gW := gW_mem (i := 33) (by decide +kernel) (by decide +kernel)
theorem qw34 : Cond.selects RX7 yX7_byteAt yX7_byteAt ∈ gW := gW_mem (i := 34) (by decide +kernel) (by decide +kernel)
theorem qw35 : Cond.selects RX7 yX7_takesItem yX7_takesItem ∈ gW := gW_mem (i := 35) (by decide +kernel) (by decide +kernel)
theorem qw36 : Cond.selects RX7 yX7_takes yX7_takes ∈ gW := gW_mem (i := 36) (by decide +kernel) (by decide +kernel)
theorem qw37 : Cond.selects RX7 yX7_isWord yX7_isWord ∈ gW := gW_mem (i := 37) (by decide +kernel) (by decide +kernel)
theorem qw38 : Cond.selects RX7 yX7_takesNumber yX7_takesNumber ∈ gW := gW_mem (i := 38) (by decide +kernel) (by decide +kernel)
theorem qw39 : Cond.selects RX7 yX7_isNumber yX7_isNumber ∈ gW := gW_mem (i := 39) (by decide +kernel) (by decide +kernel)
theorem qw40 : Cond.selects RX7 yX7_takesGame yX7_takesGame ∈ gW := gW_mem (i := 40) (by decide +kernel) (by decide +kernel)
theorem qw41 : Cond.selects RX7 yX7_takesSide yX7_takesSide ∈ gW := gW_mem (i := 41) (by decide +kernel) (by decide +kernel)
theorem qw42 : Cond.selects RX7 yX7_isOver yX7_isOver ∈ gW := gW_mem (i := 42) (by decide +kernel) (by decide +kernel)
theorem qw43 : Cond.selects RX7 yX7_effort yX7_effort ∈ gW := gW_mem (i := 43) (by decide +kernel) (by decide +kernel)
theorem qw44 : Cond.selects RX7 yX7_hasGreater yX7_hasGreater ∈ gW := gW_mem (i := 44) (by decide +kernel) (by decide +kernel)
theorem qw45 : Cond.selects RX7 yX7_chance yX7_chance ∈ gW := gW_mem (i := 45) (by decide +kernel) (by decide +kernel)
theorem qw46 : Cond.selects RX7 yX7_force yX7_force ∈ gW := gW_mem (i := 46) (by decide +kernel) (by decide +kernel)
theorem qw47 : Cond.selects RX7 yX7_winsNow yX7_winsNow ∈ gW := gW_mem (i := 47) (by decide +kernel) (by decide +kernel)
theorem qw48 : Cond.selects RX7 yX7_wins yX7_wins ∈ gW := gW_mem (i := 48) (by decide +kernel) (by decide +kernel)
theorem qw49 : Cond.selects RX7 yX7_givenTo yX7_givenTo ∈ gW := gW_mem (i := 49) (by decide +kernel) (by decide +kernel)
theorem qw50 : Cond.selects RX7 yX7_drawsNext yX7_drawsNext ∈ gW := gW_mem (i := 50) (by decide +kernel) (by decide +kernel)
theorem qw51 : Cond.selects RX7 yX7_draw yX7_draw ∈ gW := gW_mem (i := 51) (by decide +kernel) (by decide +kernel)
theorem qw52 : Cond.selects RX7 yX7_leader yX7_leader ∈ gW := gW_mem (i := 52) (by decide +kernel) (by decide +kernel)
theorem qw53 : Cond.selects RX7 yX7_findWays yX7_findWays ∈ gW := gW_mem (i := 53) (by decide +kernel) (by decide +kernel)
theorem qw54 : Cond.selects RX7 yX7_goesOn yX7_goesOn ∈ gW := gW_mem (i := 54) (by decide +kernel) (by decide +kernel)
theorem qw55 : Cond.selects RX7 yX7_ends yX7_ends ∈ gW := gW_mem (i := 55) (by decide +kernel) (by decide +kernel)
theorem qw56 : Cond.selects RX7 yX7_meanOf yX7_meanOf ∈ gW := gW_mem (i := 56) (by decide +kernel) (by decide +kernel)
theorem qw57 : Cond.selects RX7 yX7_bestLaid yX7_bestLaid ∈ gW := gW_mem (i := 57) (by decide +kernel) (by decide +kernel)
theorem qw58 : Cond.selects RX7 yX7_nextRow yX7_nextRow ∈ gW := gW_mem (i := 58) (by decide +kernel) (by decide +kernel)
theorem qw59 : Cond.selects RX7 yX7_lacks yX7_lacks ∈ gW := gW_mem (i := 59) (by decide +kernel) (by decide +kernel)
theorem qw60 : Cond.initialized RL ∈ gW := gW_mem (i := 60) (by decide +kernel) (by decide +kernel)
theorem qw61 : Cond.initialized RX6 ∈ gW := gW_mem (i := 61) (by decide +kernel) (by decide +kernel)
theorem qw62 : Cond.initialized RX1 ∈ gW := gW_mem (i := 62) (by decide +kernel) (by decide +kernel)
theorem qw63 : Cond.initialized RX3 ∈ gW := gW_mem (i := 63) (by decide +kernel) (by decide +kernel)
theorem qw64 : Cond.initialized RX0 ∈ gW := gW_mem (i := 64) (by decide +kernel) (by decide +kernel)
theorem qw65 : Cond.initialized RX5 ∈ gW := gW_mem (i := 65) (by decide +kernel) (by decide +kernel)
theorem qw66 : Cond.initialized RX4 ∈ gW := gW_mem (i := 66) (by decide +kernel) (by decide +kernel)
theorem qw67 : Cond.initialized RX2 ∈ gW := gW_mem (i := 67) (by decide +kernel) (by decide +kernel)
theorem qw68 : Cond.initialized RX7 ∈ gW := gW_mem (i := 68) (by decide +kernel) (by decide +kernel)
theorem qw69 : Cond.initialized RJ10 ∈ gW := gW_mem (i := 69) (by decide +kernel) (by decide +kernel)
theorem qw70 : Cond.initialized RJ9 ∈ gW := gW_mem (i := 70) (by decide +kernel) (by decide +kernel)
theorem qw71 : Cond.initialized RJ0 ∈ gW := gW_mem (i := 71) (by decide +kernel) (by decide +kernel)
theorem qw72 : Cond.initialized RJ1 ∈ gW := gW_mem (i := 72) (by decide +kernel) (by decide +kernel)
theorem qw73 : Cond.initialized RJ3 ∈ gW := gW_mem (i := 73) (by decide +kernel) (by decide +kernel)
theorem qw74 : Cond.initialized RJ2 ∈ gW := gW_mem (i := 74) (by decide +kernel) (by decide +kernel)
theorem qw75 : Cond.classLink RL 7 RX6 ∈ gW := gW_mem (i := 75) (by decide +kernel) (by decide +kernel)
theorem qw76 : Cond.instantiable RX6 8 ∈ gW := gW_mem (i := 76) (by decide +kernel) (by decide +kernel)
theorem qw77 : Cond.methodLink RL 9 yX6_init ∈ gW := gW_mem (i := 77) (by decide +kernel) (by decide +kernel)
theorem qw78 : Cond.instanceMethod yX6_init ∈ gW := gW_mem (i := 78) (by decide +kernel) (by decide +kernel)
theorem qw79 : Cond.code yX6_init cX6_init 2 none ∈ gW := gW_mem (i := 79) (by decide +kernel) (by decide +kernel)
theorem qw80 : Cond.methodLink RX6 1 objectInit ∈ gW := gW_mem (i := 80) (by decide +kernel) (by decide +kernel)
theorem qw81 : Cond.instanceMethod objectInit ∈ gW := gW_mem (i := 81) (by decide +kernel) (by decide +kernel)
theorem qw82 : Cond.code objectInit ⟨#[0xb1]⟩ 1 none ∈ gW := gW_mem (i := 82) (by decide +kernel) (by decide +kernel)
theorem qw83 : Cond.classLink RX6 7 RX1 ∈ gW := gW_mem (i := 83) (by decide +kernel) (by decide +kernel)
theorem qw84 : Cond.instantiable RX1 11 ∈ gW := gW_mem (i := 84) (by decide +kernel) (by decide +kernel)
theorem qw85 : Cond.methodLink RX6 9 yX1_init ∈ gW := gW_mem (i := 85) (by decide +kernel) (by decide +kernel)
theorem qw86 : Cond.instanceMethod yX1_init ∈ gW := gW_mem (i := 86) (by decide +kernel) (by decide +kernel)
theorem qw87 : Cond.code yX1_init cX1_init 2 none ∈ gW := gW_mem (i := 87) (by decide +kernel) (by decide +kernel)
theorem qw88 : Cond.methodLink RX1 3 objectInit ∈ gW := gW_mem (i := 88) (by decide +kernel) (by decide +kernel)
theorem qw89 : Cond.classLink RX1 9 RX3 ∈ gW := gW_mem (i := 89) (by decide +kernel) (by decide +kernel)
theorem qw91 : Cond.classLink RX1 17 RX0 ∈ gW := gW_mem (i := 91) (by decide +kernel) (by decide +kernel)
theorem qw93 : Cond.instantiable RX3 6 ∈ gW := gW_mem (i := 93) (by decide +kernel) (by decide +kernel)
theorem qw95 : Cond.instanceMethod yX3_init ∈ gW := gW_mem (i := 95) (by decide +kernel) (by decide +kernel)
theorem qw96 : Cond.code yX3_init cX3_init 1 none ∈ gW := gW_mem (i := 96) (by decide +kernel) (by decide +kernel)
theorem qw97 : Cond.methodLink RX3 3 objectInit ∈ gW := gW_mem (i := 97) (by decide +kernel) (by decide +kernel)
theorem qw98 : Cond.fieldLink RX3 9 "TwiceRunning$Side" "kind" "I" ∈ gW := gW_mem (i := 98) (by decide +kernel) (by decide +kernel)
theorem qw99 : Cond.fieldLink RX6 78 "TwiceRunning$Side" "kind" "I" ∈ gW := gW_mem (i := 99) (by decide +kernel) (by decide +kernel)
theorem qw100 : Cond.fieldLink RX1 70 "TwiceRunning$Side" "kind" "I" ∈ gW := gW_mem (i := 100) (by decide +kernel) (by decide +kernel)
theorem qw101 : Cond.fieldLink RX3 15 "TwiceRunning$Side" "strength" "I" ∈ gW := gW_mem (i := 101) (by decide +kernel) (by decide +kernel)
theorem qw102 : Cond.fieldLink RX6 83 "TwiceRunning$Side" "strength" "I" ∈ gW := gW_mem (i := 102) (by decide +kernel) (by decide +kernel)
theorem qw103 : Cond.fieldLink RX1 73 "TwiceRunning$Side" "strength" "I" ∈ gW := gW_mem (i := 103) (by decide +kernel) (by decide +kernel)
theorem qw104 : Cond.fieldLink RX3 18 "TwiceRunning$Side" "tells" "I" ∈ gW := gW_mem (i := 104) (by decide +kernel) (by decide +kernel)
theorem qw105 : Cond.fieldLink RX6 86 "TwiceRunning$Side" "tells" "I" ∈ gW := gW_mem (i := 105) (by decide +kernel) (by decide +kernel)
theorem qw106 : Cond.fieldLink RX1 76 "TwiceRunning$Side" "tells" "I" ∈ gW := gW_mem (i := 106) (by decide +kernel) (by decide +kernel)
theorem qw107 : Cond.fieldLink RX3 21 "TwiceRunning$Side" "points" "I" ∈ gW := gW_mem (i := 107) (by decide +kernel) (by decide +kernel)
theorem qw108 : Cond.fieldLink RX6 89 "TwiceRunning$Side" "points" "I" ∈ gW := gW_mem (i := 108) (by decide +kernel) (by decide +kernel)
theorem qw109 : Cond.fieldLink RX5 86 "TwiceRunning$Side" "points" "I" ∈ gW := gW_mem (i := 109) (by decide +kernel) (by decide +kernel)
theorem qw110 : Cond.fieldLink RX1 121 "TwiceRunning$Side" "points" "I" ∈ gW := gW_mem (i := 110) (by decide +kernel) (by decide +kernel)
theorem qw111 : Cond.fieldLink RX3 24 "TwiceRunning$Side" "streak" "I" ∈ gW := gW_mem (i := 111) (by decide +kernel) (by decide +kernel)
theorem qw112 : Cond.fieldLink RX1 95 "TwiceRunning$Side" "streak" "I" ∈ gW := gW_mem (i := 112) (by decide +kernel) (by decide +kernel)
theorem qw113 : Cond.fieldLink RX3 27 "TwiceRunning$Side" "tired" "Z" ∈ gW := gW_mem (i := 113) (by decide +kernel) (by decide +kernel)
theorem qw114 : Cond.fieldLink RX6 95 "TwiceRunning$Side" "tired" "Z" ∈ gW := gW_mem (i := 114) (by decide +kernel) (by decide +kernel)
theorem qw115 : Cond.fieldLink RX1 111 "TwiceRunning$Side" "tired" "Z" ∈ gW := gW_mem (i := 115) (by decide +kernel) (by decide +kernel)
theorem qw130 : Cond.instantiable RX0 9 ∈ gW := gW_mem (i := 130) (by decide +kernel) (by decide +kernel)
theorem qw132 : Cond.instanceMethod yX0_init ∈ gW := gW_mem (i := 132) (by decide +kernel) (by decide +kernel)
theorem qw133 : Cond.code yX0_init cX0_init 1 none ∈ gW := gW_mem (i := 133) (by decide +kernel) (by decide +kernel)
theorem qw134 : Cond.methodLink RX0 3 objectInit ∈ gW := gW_mem (i := 134) (by decide +kernel) (by decide +kernel)
theorem qw135 : Cond.fieldLink RX0 9 "TwiceRunning$Game" "first" "I" ∈ gW := gW_mem (i := 135) (by decide +kernel) (by decide +kernel)
theorem qw136 : Cond.fieldLink RX5 100 "TwiceRunning$Game" "first" "I" ∈ gW := gW_mem (i := 136) (by decide +kernel) (by decide +kernel)
theorem qw137 : Cond.fieldLink RX6 124 "TwiceRunning$Game" "first" "I" ∈ gW := gW_mem (i := 137) (by decide +kernel) (by decide +kernel)
theorem qw138 : Cond.fieldLink RX1 79 "TwiceRunning$Game" "first" "I" ∈ gW := gW_mem (i := 138) (by decide +kernel) (by decide +kernel)
theorem qw139 : Cond.fieldLink RX0 15 "TwiceRunning$Game" "other" "I" ∈ gW := gW_mem (i := 139) (by decide +kernel) (by decide +kernel)
theorem qw140 : Cond.fieldLink RX5 118 "TwiceRunning$Game" "other" "I" ∈ gW := gW_mem (i := 140) (by decide +kernel) (by decide +kernel)
theorem qw141 : Cond.fieldLink RX6 129 "TwiceRunning$Game" "other" "I" ∈ gW := gW_mem (i := 141) (by decide +kernel) (by decide +kernel)
theorem qw142 : Cond.fieldLink RX1 82 "TwiceRunning$Game" "other" "I" ∈ gW := gW_mem (i := 142) (by decide +kernel) (by decide +kernel)
theorem qw143 : Cond.fieldLink RX0 18 "TwiceRunning$Game" "worth" "I" ∈ gW := gW_mem (i := 143) (by decide +kernel) (by decide +kernel)
theorem qw144 : Cond.fieldLink RX6 132 "TwiceRunning$Game" "worth" "I" ∈ gW := gW_mem (i := 144) (by decide +kernel) (by decide +kernel)
theorem qw145 : Cond.fieldLink RX5 129 "TwiceRunning$Game" "worth" "I" ∈ gW := gW_mem (i := 145) (by decide +kernel) (by decide +kernel)
theorem qw146 : Cond.fieldLink RX1 85 "TwiceRunning$Game" "worth" "I" ∈ gW := gW_mem (i := 146) (by decide +kernel) (by decide +kernel)
theorem qw147 : Cond.fieldLink RX0 21 "TwiceRunning$Game" "winner" "I" ∈ gW := gW_mem (i := 147) (by decide +kernel) (by decide +kernel)
theorem qw148 : Cond.fieldLink RX5 103 "TwiceRunning$Game" "winner" "I" ∈ gW := gW_mem (i := 148) (by decide +kernel) (by decide +kernel)
theorem qw149 : Cond.fieldLink RX6 135 "TwiceRunning$Game" "winner" "I" ∈ gW := gW_mem (i := 149) (by decide +kernel) (by decide +kernel)
theorem qw150 : Cond.fieldLink RX1 127 "TwiceRunning$Game" "winner" "I" ∈ gW := gW_mem (i := 150) (by decide +kernel) (by decide +kernel)
theorem qw151 : Cond.fieldLink RX0 24 "TwiceRunning$Game" "given" "I" ∈ gW := gW_mem (i := 151) (by decide +kernel) (by decide +kernel)
theorem qw152 : Cond.fieldLink RX5 95 "TwiceRunning$Game" "given" "I" ∈ gW := gW_mem (i := 152) (by decide +kernel) (by decide +kernel)
theorem qw153 : Cond.fieldLink RX6 138 "TwiceRunning$Game" "given" "I" ∈ gW := gW_mem (i := 153) (by decide +kernel) (by decide +kernel)
theorem qw154 : Cond.fieldLink RX1 92 "TwiceRunning$Game" "given" "I" ∈ gW := gW_mem (i := 154) (by decide +kernel) (by decide +kernel)
theorem qw155 : Cond.fieldLink RX0 27 "TwiceRunning$Game" "firstStreak" "I" ∈ gW := gW_mem (i := 155) (by decide +kernel) (by decide +kernel)
theorem qw156 : Cond.fieldLink RX1 130 "TwiceRunning$Game" "firstStreak" "I" ∈ gW := gW_mem (i := 156) (by decide +kernel) (by decide +kernel)
theorem qw157 : Cond.fieldLink RX0 30 "TwiceRunning$Game" "otherStreak" "I" ∈ gW := gW_mem (i := 157) (by decide +kernel) (by decide +kernel)
theorem qw158 : Cond.fieldLink RX1 133 "TwiceRunning$Game" "otherStreak" "I" ∈ gW := gW_mem (i := 158) (by decide +kernel) (by decide +kernel)
theorem qw159 : Cond.fieldLink RX0 33 "TwiceRunning$Game" "firstTired" "Z" ∈ gW := gW_mem (i := 159) (by decide +kernel) (by decide +kernel)
theorem qw160 : Cond.fieldLink RX1 136 "TwiceRunning$Game" "firstTired" "Z" ∈ gW := gW_mem (i := 160) (by decide +kernel) (by decide +kernel)
theorem qw161 : Cond.fieldLink RX0 37 "TwiceRunning$Game" "otherTired" "Z" ∈ gW := gW_mem (i := 161) (by decide +kernel) (by decide +kernel)
theorem qw162 : Cond.fieldLink RX1 139 "TwiceRunning$Game" "otherTired" "Z" ∈ gW := gW_mem (i := 162) (by decide +kernel) (by decide +kernel)
theorem qw182 : Cond.fieldLink RX1 11 "TwiceRunning$League" "sides" "[LTwiceRunning$Side;" ∈ gW := gW_mem (i := 182) (by decide +kernel) (by decide +kernel)
theorem qw183 : Cond.fieldLink RX6 74 "TwiceRunning$League" "sides" "[LTwiceRunning$Side;" ∈ gW := gW_mem (i := 183) (by decide +kernel) (by decide +kernel)
theorem qw184 : Cond.fieldLink RX5 82 "TwiceRunning$League" "sides" "[LTwiceRunning$Side;" ∈ gW := gW_mem (i := 184) (by decide +kernel) (by decide +kernel)
theorem qw185 : Cond.fieldLink RX1 19 "TwiceRunning$League" "games" "[LTwiceRunning$Game;" ∈ gW := gW_mem (i := 185) (by decide +kernel) (by decide +kernel)
theorem qw186 : Cond.fieldLink RX5 91 "TwiceRunning$League" "games" "[LTwiceRunning$Game;" ∈ gW := gW_mem (i := 186) (by decide +kernel) (by decide +kernel)
theorem qw187 : Cond.fieldLink RX6 120 "TwiceRunning$League" "games" "[LTwiceRunning$Game;" ∈ gW := gW_mem (i := 187) (by decide +kernel) (by decide +kernel)
theorem qw188 : Cond.fieldLink RX1 23 "TwiceRunning$League" "spots" "[I" ∈ gW := gW_mem (i := 188) (by decide +kernel) (by decide +kernel)
theorem qw189 : Cond.fieldLink RX6 254 "TwiceRunning$League" "spots" "[I" ∈ gW := gW_mem (i := 189) (by decide +kernel) (by decide +kernel)
theorem qw190 : Cond.fieldLink RX1 27 "TwiceRunning$League" "sideCount" "I" ∈ gW := gW_mem (i := 190) (by decide +kernel) (by decide +kernel)
theorem qw191 : Cond.fieldLink RX6 63 "TwiceRunning$League" "sideCount" "I" ∈ gW := gW_mem (i := 191) (by decide +kernel) (by decide +kernel)
theorem qw192 : Cond.fieldLink RX4 60 "TwiceRunning$League" "sideCount" "I" ∈ gW := gW_mem (i := 192) (by decide +kernel) (by decide +kernel)
theorem qw193 : Cond.fieldLink RX5 79 "TwiceRunning$League" "sideCount" "I" ∈ gW := gW_mem (i := 193) (by decide +kernel) (by decide +kernel)
theorem qw194 : Cond.fieldLink RX1 31 "TwiceRunning$League" "gameCount" "I" ∈ gW := gW_mem (i := 194) (by decide +kernel) (by decide +kernel)
theorem qw195 : Cond.fieldLink RX5 61 "TwiceRunning$League" "gameCount" "I" ∈ gW := gW_mem (i := 195) (by decide +kernel) (by decide +kernel)
theorem qw196 : Cond.fieldLink RX6 108 "TwiceRunning$League" "gameCount" "I" ∈ gW := gW_mem (i := 196) (by decide +kernel) (by decide +kernel)
theorem qw197 : Cond.fieldLink RX4 79 "TwiceRunning$League" "gameCount" "I" ∈ gW := gW_mem (i := 197) (by decide +kernel) (by decide +kernel)
theorem qw198 : Cond.fieldLink RX1 34 "TwiceRunning$League" "played" "I" ∈ gW := gW_mem (i := 198) (by decide +kernel) (by decide +kernel)
theorem qw199 : Cond.fieldLink RX5 58 "TwiceRunning$League" "played" "I" ∈ gW := gW_mem (i := 199) (by decide +kernel) (by decide +kernel)
theorem qw200 : Cond.fieldLink RX6 117 "TwiceRunning$League" "played" "I" ∈ gW := gW_mem (i := 200) (by decide +kernel) (by decide +kernel)
theorem qw201 : Cond.fieldLink RX1 37 "TwiceRunning$League" "law" "I" ∈ gW := gW_mem (i := 201) (by decide +kernel) (by decide +kernel)
theorem qw202 : Cond.fieldLink RX4 87 "TwiceRunning$League" "law" "I" ∈ gW := gW_mem (i := 202) (by decide +kernel) (by decide +kernel)
theorem qw203 : Cond.fieldLink RX6 141 "TwiceRunning$League" "law" "I" ∈ gW := gW_mem (i := 203) (by decide +kernel) (by decide +kernel)
theorem qw204 : Cond.fieldLink RX1 40 "TwiceRunning$League" "z" "I" ∈ gW := gW_mem (i := 204) (by decide +kernel) (by decide +kernel)
theorem qw205 : Cond.fieldLink RX6 248 "TwiceRunning$League" "z" "I" ∈ gW := gW_mem (i := 205) (by decide +kernel) (by decide +kernel)
theorem qw206 : Cond.fieldLink RX1 43 "TwiceRunning$League" "forcedGame" "I" ∈ gW := gW_mem (i := 206) (by decide +kernel) (by decide +kernel)
theorem qw207 : Cond.fieldLink RX1 46 "TwiceRunning$League" "forcedSide" "I" ∈ gW := gW_mem (i := 207) (by decide +kernel) (by decide +kernel)
theorem qw208 : Cond.fieldLink RX1 49 "TwiceRunning$League" "forcedEffort" "I" ∈ gW := gW_mem (i := 208) (by decide +kernel) (by decide +kernel)
theorem qw232 : Cond.classLink RX6 23 RX5 ∈ gW := gW_mem (i := 232) (by decide +kernel) (by decide +kernel)
theorem qw233 : Cond.instantiable RX5 13 ∈ gW := gW_mem (i := 233) (by decide +kernel) (by decide +kernel)
theorem qw235 : Cond.instanceMethod yX5_init ∈ gW := gW_mem (i := 235) (by decide +kernel) (by decide +kernel)
theorem qw236 : Cond.code yX5_init cX5_init 1 none ∈ gW := gW_mem (i := 236) (by decide +kernel) (by decide +kernel)
theorem qw237 : Cond.methodLink RX5 3 objectInit ∈ gW := gW_mem (i := 237) (by decide +kernel) (by decide +kernel)
theorem qw238 : Cond.classLink RX5 9 RX1 ∈ gW := gW_mem (i := 238) (by decide +kernel) (by decide +kernel)
theorem qw239 : Cond.methodLink RX5 11 yX1_init ∈ gW := gW_mem (i := 239) (by decide +kernel) (by decide +kernel)
theorem qw240 : Cond.fieldLink RX5 12 "TwiceRunning$Walk" "league" "LTwiceRunning$League;" ∈ gW := gW_mem (i := 240) (by decide +kernel) (by decide +kernel)
theorem qw241 : Cond.fieldLink RX6 30 "TwiceRunning$Walk" "league" "LTwiceRunning$League;" ∈ gW := gW_mem (i := 241) (by decide +kernel) (by decide +kernel)
theorem qw242 : Cond.fieldLink RX5 18 "TwiceRunning$Walk" "pointSums" "[J" ∈ gW := gW_mem (i := 242) (by decide +kernel) (by decide +kernel)
theorem qw243 : Cond.fieldLink RX6 210 "TwiceRunning$Walk" "pointSums" "[J" ∈ gW := gW_mem (i := 243) (by decide +kernel) (by decide +kernel)
theorem qw244 : Cond.fieldLink RX5 22 "TwiceRunning$Walk" "firstSums" "[J" ∈ gW := gW_mem (i := 244) (by decide +kernel) (by decide +kernel)
theorem qw245 : Cond.fieldLink RX6 207 "TwiceRunning$Walk" "firstSums" "[J" ∈ gW := gW_mem (i := 245) (by decide +kernel) (by decide +kernel)
theorem qw246 : Cond.fieldLink RX5 25 "TwiceRunning$Walk" "toFirst" "[J" ∈ gW := gW_mem (i := 246) (by decide +kernel) (by decide +kernel)
theorem qw247 : Cond.fieldLink RX6 195 "TwiceRunning$Walk" "toFirst" "[J" ∈ gW := gW_mem (i := 247) (by decide +kernel) (by decide +kernel)
theorem qw248 : Cond.fieldLink RX5 28 "TwiceRunning$Walk" "movedSums" "[J" ∈ gW := gW_mem (i := 248) (by decide +kernel) (by decide +kernel)
theorem qw249 : Cond.fieldLink RX6 226 "TwiceRunning$Walk" "movedSums" "[J" ∈ gW := gW_mem (i := 249) (by decide +kernel) (by decide +kernel)
theorem qw250 : Cond.fieldLink RX5 31 "TwiceRunning$Walk" "keptSums" "[J" ∈ gW := gW_mem (i := 250) (by decide +kernel) (by decide +kernel)
theorem qw251 : Cond.fieldLink RX5 34 "TwiceRunning$Walk" "all" "J" ∈ gW := gW_mem (i := 251) (by decide +kernel) (by decide +kernel)
theorem qw252 : Cond.fieldLink RX6 199 "TwiceRunning$Walk" "all" "J" ∈ gW := gW_mem (i := 252) (by decide +kernel) (by decide +kernel)
theorem qw253 : Cond.fieldLink RX5 38 "TwiceRunning$Walk" "likely" "I" ∈ gW := gW_mem (i := 253) (by decide +kernel) (by decide +kernel)
theorem qw254 : Cond.fieldLink RX6 223 "TwiceRunning$Walk" "likely" "I" ∈ gW := gW_mem (i := 254) (by decide +kernel) (by decide +kernel)
theorem qw255 : Cond.fieldLink RX5 42 "TwiceRunning$Walk" "goalSide" "I" ∈ gW := gW_mem (i := 255) (by decide +kernel) (by decide +kernel)
theorem qw256 : Cond.fieldLink RX5 45 "TwiceRunning$Walk" "goalPoints" "I" ∈ gW := gW_mem (i := 256) (by decide +kernel) (by decide +kernel)
theorem qw257 : Cond.fieldLink RX5 48 "TwiceRunning$Walk" "alsoUnlikely" "Z" ∈ gW := gW_mem (i := 257) (by decide +kernel) (by decide +kernel)
theorem qw258 : Cond.fieldLink RX5 52 "TwiceRunning$Walk" "goalSum" "J" ∈ gW := gW_mem (i := 258) (by decide +kernel) (by decide +kernel)
theorem qw259 : Cond.fieldLink RX6 217 "TwiceRunning$Walk" "goalSum" "J" ∈ gW := gW_mem (i := 259) (by decide +kernel) (by decide +kernel)
theorem qw260 : Cond.fieldLink RX5 55 "TwiceRunning$Walk" "mostPoints" "I" ∈ gW := gW_mem (i := 260) (by decide +kernel) (by decide +kernel)
theorem qw261 : Cond.fieldLink RX6 220 "TwiceRunning$Walk" "mostPoints" "I" ∈ gW := gW_mem (i := 261) (by decide +kernel) (by decide +kernel)
theorem qw290 : Cond.classLink RX6 34 RX4 ∈ gW := gW_mem (i := 290) (by decide +kernel) (by decide +kernel)
theorem qw291 : Cond.instantiable RX4 6 ∈ gW := gW_mem (i := 291) (by decide +kernel) (by decide +kernel)
theorem qw293 : Cond.instanceMethod yX4_init ∈ gW := gW_mem (i := 293) (by decide +kernel) (by decide +kernel)
theorem qw294 : Cond.code yX4_init cX4_init 1 none ∈ gW := gW_mem (i := 294) (by decide +kernel) (by decide +kernel)
theorem qw295 : Cond.methodLink RX4 3 objectInit ∈ gW := gW_mem (i := 295) (by decide +kernel) (by decide +kernel)
theorem qw296 : Cond.fieldLink RX4 9 "TwiceRunning$Tape" "bytes" "[I" ∈ gW := gW_mem (i := 296) (by decide +kernel) (by decide +kernel)
theorem qw297 : Cond.fieldLink RX4 15 "TwiceRunning$Tape" "length" "I" ∈ gW := gW_mem (i := 297) (by decide +kernel) (by decide +kernel)
theorem qw298 : Cond.fieldLink RX6 144 "TwiceRunning$Tape" "length" "I" ∈ gW := gW_mem (i := 298) (by decide +kernel) (by decide +kernel)
theorem qw299 : Cond.fieldLink RX4 19 "TwiceRunning$Tape" "tokenSort" "I" ∈ gW := gW_mem (i := 299) (by decide +kernel) (by decide +kernel)
theorem qw300 : Cond.fieldLink RX4 22 "TwiceRunning$Tape" "tokenBegin" "I" ∈ gW := gW_mem (i := 300) (by decide +kernel) (by decide +kernel)
theorem qw301 : Cond.fieldLink RX4 25 "TwiceRunning$Tape" "tokenEnd" "I" ∈ gW := gW_mem (i := 301) (by decide +kernel) (by decide +kernel)
theorem qw302 : Cond.fieldLink RX4 28 "TwiceRunning$Tape" "tokenNumber" "I" ∈ gW := gW_mem (i := 302) (by decide +kernel) (by decide +kernel)
theorem qw316 : Cond.classLink RX6 41 RX2 ∈ gW := gW_mem (i := 316) (by decide +kernel) (by decide +kernel)
theorem qw318 : Cond.instantiable RX2 3 ∈ gW := gW_mem (i := 318) (by decide +kernel) (by decide +kernel)
theorem qw320 : Cond.instanceMethod yX2_init ∈ gW := gW_mem (i := 320) (by decide +kernel) (by decide +kernel)
theorem qw321 : Cond.code yX2_init cX2_init 1 none ∈ gW := gW_mem (i := 321) (by decide +kernel) (by decide +kernel)
theorem qw322 : Cond.methodLink RX2 3 objectInit ∈ gW := gW_mem (i := 322) (by decide +kernel) (by decide +kernel)
theorem qw323 : Cond.fieldLink RX2 9 "TwiceRunning$Sheet" "numbers" "[I" ∈ gW := gW_mem (i := 323) (by decide +kernel) (by decide +kernel)
theorem qw324 : Cond.fieldLink RX6 281 "TwiceRunning$Sheet" "numbers" "[I" ∈ gW := gW_mem (i := 324) (by decide +kernel) (by decide +kernel)
theorem qw325 : Cond.fieldLink RX2 15 "TwiceRunning$Sheet" "bits" "I" ∈ gW := gW_mem (i := 325) (by decide +kernel) (by decide +kernel)
theorem qw326 : Cond.fieldLink RX6 275 "TwiceRunning$Sheet" "bits" "I" ∈ gW := gW_mem (i := 326) (by decide +kernel) (by decide +kernel)
theorem qw327 : Cond.fieldLink RX2 19 "TwiceRunning$Sheet" "size" "I" ∈ gW := gW_mem (i := 327) (by decide +kernel) (by decide +kernel)
theorem qw328 : Cond.fieldLink RX6 266 "TwiceRunning$Sheet" "size" "I" ∈ gW := gW_mem (i := 328) (by decide +kernel) (by decide +kernel)
theorem qw336 : Cond.fieldLink RX6 10 "TwiceRunning" "league" "LTwiceRunning$League;" ∈ gW := gW_mem (i := 336) (by decide +kernel) (by decide +kernel)
theorem qw337 : Cond.fieldLink RX6 16 "TwiceRunning" "kept" "LTwiceRunning$League;" ∈ gW := gW_mem (i := 337) (by decide +kernel) (by decide +kernel)
theorem qw338 : Cond.fieldLink RX6 19 "TwiceRunning" "isKept" "Z" ∈ gW := gW_mem (i := 338) (by decide +kernel) (by decide +kernel)
theorem qw339 : Cond.fieldLink RX6 26 "TwiceRunning" "walk" "LTwiceRunning$Walk;" ∈ gW := gW_mem (i := 339) (by decide +kernel) (by decide +kernel)
theorem qw340 : Cond.fieldLink RX6 31 "TwiceRunning" "trial" "LTwiceRunning$League;" ∈ gW := gW_mem (i := 340) (by decide +kernel) (by decide +kernel)
theorem qw341 : Cond.fieldLink RX6 37 "TwiceRunning" "tape" "LTwiceRunning$Tape;" ∈ gW := gW_mem (i := 341) (by decide +kernel) (by decide +kernel)
theorem qw342 : Cond.fieldLink RX6 43 "TwiceRunning" "sheets" "[LTwiceRunning$Sheet;" ∈ gW := gW_mem (i := 342) (by decide +kernel) (by decide +kernel)
theorem qw343 : Cond.fieldLink RX6 47 "TwiceRunning" "findings" "[I" ∈ gW := gW_mem (i := 343) (by decide +kernel) (by decide +kernel)
theorem qw361 : Cond.methodLink RL 13 yX6_side ∈ gW := gW_mem (i := 361) (by decide +kernel) (by decide +kernel)
theorem qw362 : Cond.instanceMethod yX6_side ∈ gW := gW_mem (i := 362) (by decide +kernel) (by decide +kernel)
theorem qw363 : Cond.selects RX6 yX6_side yX6_side ∈ gW := gW_mem (i := 363) (by decide +kernel) (by decide +kernel)
theorem qw364 : Cond.code yX6_side cX6_side 3 (some .int) ∈ gW := gW_mem (i := 364) (by decide +kernel) (by decide +kernel)
theorem qw365 : Cond.methodLink RX6 52 yX6_isKind ∈ gW := gW_mem (i := 365) (by decide +kernel) (by decide +kernel)
theorem qw366 : Cond.static yX6_isKind ∈ gW := gW_mem (i := 366) (by decide +kernel) (by decide +kernel)
theorem qw367 : Cond.code yX6_isKind cX6_isKind 1 (some .boolean) ∈ gW := gW_mem (i := 367) (by decide +kernel) (by decide +kernel)
theorem qw368 : Cond.methodLink RX6 56 yX6_isStrength ∈ gW := gW_mem (i := 368) (by decide +kernel) (by decide +kernel)
theorem qw369 : Cond.static yX6_isStrength ∈ gW := gW_mem (i := 369) (by decide +kernel) (by decide +kernel)
theorem qw370 : Cond.code yX6_isStrength cX6_isStrength 1 (some .boolean) ∈ gW := gW_mem (i := 370) (by decide +kernel) (by decide +kernel)
theorem qw371 : Cond.methodLink RX6 59 yX6_finding ∈ gW := gW_mem (i := 371) (by decide +kernel) (by decide +kernel)
theorem qw373 : Cond.instanceMethod yX6_finding ∈ gW := gW_mem (i := 373) (by decide +kernel) (by decide +kernel)
theorem qw374 : Cond.code yX6_finding cX6_finding 2 (some .int) ∈ gW := gW_mem (i := 374) (by decide +kernel) (by decide +kernel)
theorem qw375 : Cond.constant RX6 296 (-1000001) ∈ gW := gW_mem (i := 375) (by decide +kernel) (by decide +kernel)
theorem qw376 : Cond.methodLink RX6 67 yX1_addSide ∈ gW := gW_mem (i := 376) (by decide +kernel) (by decide +kernel)
theorem qw377 : Cond.instanceMethod yX1_addSide ∈ gW := gW_mem (i := 377) (by decide +kernel) (by decide +kernel)
theorem qw378 : Cond.selects RX1 yX1_addSide yX1_addSide ∈ gW := gW_mem (i := 378) (by decide +kernel) (by decide +kernel)
theorem qw379 : Cond.code yX1_addSide cX1_addSide 5 (some .int) ∈ gW := gW_mem (i := 379) (by decide +kernel) (by decide +kernel)
theorem qw380 : Cond.methodLink RX1 67 yX3_rest ∈ gW := gW_mem (i := 380) (by decide +kernel) (by decide +kernel)
theorem qw381 : Cond.instanceMethod yX3_rest ∈ gW := gW_mem (i := 381) (by decide +kernel) (by decide +kernel)
theorem qw382 : Cond.selects RX3 yX3_rest yX3_rest ∈ gW := gW_mem (i := 382) (by decide +kernel) (by decide +kernel)
theorem qw383 : Cond.code yX3_rest cX3_rest 1 none ∈ gW := gW_mem (i := 383) (by decide +kernel) (by decide +kernel)
theorem qw384 : Cond.methodLink RL 18 yX6_sideOf ∈ gW := gW_mem (i := 384) (by decide +kernel) (by decide +kernel)
theorem qw385 : Cond.instanceMethod yX6_sideOf ∈ gW := gW_mem (i := 385) (by decide +kernel) (by decide +kernel)
theorem qw386 : Cond.selects RX6 yX6_sideOf yX6_sideOf ∈ gW := gW_mem (i := 386) (by decide +kernel) (by decide +kernel)
theorem qw387 : Cond.code yX6_sideOf cX6_sideOf 4 (some .int) ∈ gW := gW_mem (i := 387) (by decide +kernel) (by decide +kernel)
theorem qw388 : Cond.methodLink RX6 71 yX1_hasSide ∈ gW := gW_mem (i := 388) (by decide +kernel) (by decide +kernel)
theorem qw389 : Cond.instanceMethod yX1_hasSide ∈ gW := gW_mem (i := 389) (by decide +kernel) (by decide +kernel)
theorem qw390 : Cond.selects RX1 yX1_hasSide yX1_hasSide ∈ gW := gW_mem (i := 390) (by decide +kernel) (by decide +kernel)
theorem qw391 : Cond.code yX1_hasSide cX1_hasSide 2 (some .boolean) ∈ gW := gW_mem (i := 391) (by decide +kernel) (by decide +kernel)
theorem qw392 : Cond.methodLink RX6 92 yX1_isBarred ∈ gW := gW_mem (i := 392) (by decide +kernel) (by decide +kernel)
theorem qw393 : Cond.instanceMethod yX1_isBarred ∈ gW := gW_mem (i := 393) (by decide +kernel) (by decide +kernel)
theorem qw394 : Cond.selects RX1 yX1_isBarred yX1_isBarred ∈ gW := gW_mem (i := 394) (by decide +kernel) (by decide +kernel)
theorem qw395 : Cond.code yX1_isBarred cX1_isBarred 2 (some .boolean) ∈ gW := gW_mem (i := 395) (by decide +kernel) (by decide +kernel)
theorem qw396 : Cond.methodLink RX6 98 yX1_gamesPlayedBy ∈ gW := gW_mem (i := 396) (by decide +kernel) (by decide +kernel)
theorem qw397 : Cond.instanceMethod yX1_gamesPlayedBy ∈ gW := gW_mem (i := 397) (by decide +kernel) (by decide +kernel)
theorem qw398 : Cond.selects RX1 yX1_gamesPlayedBy yX1_gamesPlayedBy ∈ gW := gW_mem (i := 398) (by decide +kernel) (by decide +kernel)
theorem qw399 : Cond.code yX1_gamesPlayedBy cX1_gamesPlayedBy 4 (some .int) ∈ gW := gW_mem (i := 399) (by decide +kernel) (by decide +kernel)
theorem qw400 : Cond.methodLink RX1 88 yX0_isOf ∈ gW := gW_mem (i := 400) (by decide +kernel) (by decide +kernel)
theorem qw401 : Cond.instanceMethod yX0_isOf ∈ gW := gW_mem (i := 401) (by decide +kernel) (by decide +kernel)
theorem qw402 : Cond.selects RX0 yX0_isOf yX0_isOf ∈ gW := gW_mem (i := 402) (by decide +kernel) (by decide +kernel)
theorem qw403 : Cond.code yX0_isOf cX0_isOf 2 (some .boolean) ∈ gW := gW_mem (i := 403) (by decide +kernel) (by decide +kernel)
theorem qw404 : Cond.methodLink RX6 101 yX1_gamesGivenTo ∈ gW := gW_mem (i := 404) (by decide +kernel) (by decide +kernel)
theorem qw405 : Cond.instanceMethod yX1_gamesGivenTo ∈ gW := gW_mem (i := 405) (by decide +kernel) (by decide +kernel)
theorem qw406 : Cond.selects RX1 yX1_gamesGivenTo yX1_gamesGivenTo ∈ gW := gW_mem (i := 406) (by decide +kernel) (by decide +kernel)
theorem qw407 : Cond.code yX1_gamesGivenTo cX1_gamesGivenTo 4 (some .int) ∈ gW := gW_mem (i := 407) (by decide +kernel) (by decide +kernel)
theorem qw408 : Cond.methodLink RL 22 yX6_change ∈ gW := gW_mem (i := 408) (by decide +kernel) (by decide +kernel)
theorem qw409 : Cond.instanceMethod yX6_change ∈ gW := gW_mem (i := 409) (by decide +kernel) (by decide +kernel)
theorem qw410 : Cond.selects RX6 yX6_change yX6_change ∈ gW := gW_mem (i := 410) (by decide +kernel) (by decide +kernel)
theorem qw411 : Cond.code yX6_change cX6_change 6 (some .int) ∈ gW := gW_mem (i := 411) (by decide +kernel) (by decide +kernel)
theorem qw412 : Cond.methodLink RX6 104 yX6_canBecome ∈ gW := gW_mem (i := 412) (by decide +kernel) (by decide +kernel)
theorem qw413 : Cond.static yX6_canBecome ∈ gW := gW_mem (i := 413) (by decide +kernel) (by decide +kernel)
theorem qw414 : Cond.code yX6_canBecome cX6_canBecome 2 (some .boolean) ∈ gW := gW_mem (i := 414) (by decide +kernel) (by decide +kernel)
theorem qw415 : Cond.methodLink RL 27 yX6_game ∈ gW := gW_mem (i := 415) (by decide +kernel) (by decide +kernel)
theorem qw416 : Cond.instanceMethod yX6_game ∈ gW := gW_mem (i := 416) (by decide +kernel) (by decide +kernel)
theorem qw417 : Cond.selects RX6 yX6_game yX6_game ∈ gW := gW_mem (i := 417) (by decide +kernel) (by decide +kernel)
theorem qw418 : Cond.code yX6_game cX6_game 4 (some .int) ∈ gW := gW_mem (i := 418) (by decide +kernel) (by decide +kernel)
theorem qw419 : Cond.methodLink RX6 111 yX1_addGame ∈ gW := gW_mem (i := 419) (by decide +kernel) (by decide +kernel)
theorem qw420 : Cond.instanceMethod yX1_addGame ∈ gW := gW_mem (i := 420) (by decide +kernel) (by decide +kernel)
theorem qw421 : Cond.selects RX1 yX1_addGame yX1_addGame ∈ gW := gW_mem (i := 421) (by decide +kernel) (by decide +kernel)
theorem qw422 : Cond.code yX1_addGame cX1_addGame 5 (some .int) ∈ gW := gW_mem (i := 422) (by decide +kernel) (by decide +kernel)
theorem qw423 : Cond.methodLink RL 31 yX6_gameOf ∈ gW := gW_mem (i := 423) (by decide +kernel) (by decide +kernel)
theorem qw424 : Cond.instanceMethod yX6_gameOf ∈ gW := gW_mem (i := 424) (by decide +kernel) (by decide +kernel)
theorem qw425 : Cond.selects RX6 yX6_gameOf yX6_gameOf ∈ gW := gW_mem (i := 425) (by decide +kernel) (by decide +kernel)
theorem qw426 : Cond.code yX6_gameOf cX6_gameOf 4 (some .int) ∈ gW := gW_mem (i := 426) (by decide +kernel) (by decide +kernel)
theorem qw427 : Cond.methodLink RX6 114 yX1_hasGame ∈ gW := gW_mem (i := 427) (by decide +kernel) (by decide +kernel)
theorem qw428 : Cond.instanceMethod yX1_hasGame ∈ gW := gW_mem (i := 428) (by decide +kernel) (by decide +kernel)
theorem qw429 : Cond.selects RX1 yX1_hasGame yX1_hasGame ∈ gW := gW_mem (i := 429) (by decide +kernel) (by decide +kernel)
theorem qw430 : Cond.code yX1_hasGame cX1_hasGame 2 (some .boolean) ∈ gW := gW_mem (i := 430) (by decide +kernel) (by decide +kernel)
theorem qw431 : Cond.methodLink RL 35 yX6_swap ∈ gW := gW_mem (i := 431) (by decide +kernel) (by decide +kernel)
theorem qw432 : Cond.instanceMethod yX6_swap ∈ gW := gW_mem (i := 432) (by decide +kernel) (by decide +kernel)
theorem qw433 : Cond.selects RX6 yX6_swap yX6_swap ∈ gW := gW_mem (i := 433) (by decide +kernel) (by decide +kernel)
theorem qw434 : Cond.code yX6_swap cX6_swap 4 (some .int) ∈ gW := gW_mem (i := 434) (by decide +kernel) (by decide +kernel)
theorem qw435 : Cond.methodLink RL 39 yX6_law ∈ gW := gW_mem (i := 435) (by decide +kernel) (by decide +kernel)
theorem qw436 : Cond.instanceMethod yX6_law ∈ gW := gW_mem (i := 436) (by decide +kernel) (by decide +kernel)
theorem qw437 : Cond.selects RX6 yX6_law yX6_law ∈ gW := gW_mem (i := 437) (by decide +kernel) (by decide +kernel)
theorem qw438 : Cond.code yX6_law cX6_law 3 (some .int) ∈ gW := gW_mem (i := 438) (by decide +kernel) (by decide +kernel)
theorem qw439 : Cond.methodLink RL 44 yX6_feed ∈ gW := gW_mem (i := 439) (by decide +kernel) (by decide +kernel)
theorem qw440 : Cond.instanceMethod yX6_feed ∈ gW := gW_mem (i := 440) (by decide +kernel) (by decide +kernel)
theorem qw441 : Cond.selects RX6 yX6_feed yX6_feed ∈ gW := gW_mem (i := 441) (by decide +kernel) (by decide +kernel)
theorem qw442 : Cond.code yX6_feed cX6_feed 3 (some .int) ∈ gW := gW_mem (i := 442) (by decide +kernel) (by decide +kernel)
theorem qw443 : Cond.methodLink RX6 147 yX4_append ∈ gW := gW_mem (i := 443) (by decide +kernel) (by decide +kernel)
theorem qw444 : Cond.instanceMethod yX4_append ∈ gW := gW_mem (i := 444) (by decide +kernel) (by decide +kernel)
theorem qw445 : Cond.selects RX4 yX4_append yX4_append ∈ gW := gW_mem (i := 445) (by decide +kernel) (by decide +kernel)
theorem qw446 : Cond.code yX4_append cX4_append 4 none ∈ gW := gW_mem (i := 446) (by decide +kernel) (by decide +kernel)
theorem qw447 : Cond.methodLink RL 48 yX6_wipe ∈ gW := gW_mem (i := 447) (by decide +kernel) (by decide +kernel)
theorem qw448 : Cond.instanceMethod yX6_wipe ∈ gW := gW_mem (i := 448) (by decide +kernel) (by decide +kernel)
theorem qw449 : Cond.selects RX6 yX6_wipe yX6_wipe ∈ gW := gW_mem (i := 449) (by decide +kernel) (by decide +kernel)
theorem qw450 : Cond.code yX6_wipe cX6_wipe 2 (some .int) ∈ gW := gW_mem (i := 450) (by decide +kernel) (by decide +kernel)
theorem qw451 : Cond.methodLink RL 53 yX6_text ∈ gW := gW_mem (i := 451) (by decide +kernel) (by decide +kernel)
theorem qw452 : Cond.instanceMethod yX6_text ∈ gW := gW_mem (i := 452) (by decide +kernel) (by decide +kernel)
theorem qw453 : Cond.selects RX6 yX6_text yX6_text ∈ gW := gW_mem (i := 453) (by decide +kernel) (by decide +kernel)
theorem qw454 : Cond.code yX6_text cX6_text 2 (some .int) ∈ gW := gW_mem (i := 454) (by decide +kernel) (by decide +kernel)
theorem qw455 : Cond.methodLink RX6 151 yX1_become ∈ gW := gW_mem (i := 455) (by decide +kernel) (by decide +kernel)
theorem qw456 : Cond.instanceMethod yX1_become ∈ gW := gW_mem (i := 456) (by decide +kernel) (by decide +kernel)
theorem qw457 : Cond.selects RX1 yX1_become yX1_become ∈ gW := gW_mem (i := 457) (by decide +kernel) (by decide +kernel)
theorem qw458 : Cond.code yX1_become cX1_become 3 none ∈ gW := gW_mem (i := 458) (by decide +kernel) (by decide +kernel)
theorem qw459 : Cond.methodLink RX1 54 yX3_become ∈ gW := gW_mem (i := 459) (by decide +kernel) (by decide +kernel)
theorem qw460 : Cond.instanceMethod yX3_become ∈ gW := gW_mem (i := 460) (by decide +kernel) (by decide +kernel)
theorem qw461 : Cond.selects RX3 yX3_become yX3_become ∈ gW := gW_mem (i := 461) (by decide +kernel) (by decide +kernel)
theorem qw462 : Cond.code yX3_become cX3_become 2 none ∈ gW := gW_mem (i := 462) (by decide +kernel) (by decide +kernel)
theorem qw463 : Cond.methodLink RX1 58 yX0_become ∈ gW := gW_mem (i := 463) (by decide +kernel) (by decide +kernel)
theorem qw464 : Cond.instanceMethod yX0_become ∈ gW := gW_mem (i := 464) (by decide +kernel) (by decide +kernel)
theorem qw465 : Cond.selects RX0 yX0_become yX0_become ∈ gW := gW_mem (i := 465) (by decide +kernel) (by decide +kernel)
theorem qw466 : Cond.code yX0_become cX0_become 2 none ∈ gW := gW_mem (i := 466) (by decide +kernel) (by decide +kernel)
theorem qw467 : Cond.methodLink RX1 61 arraycopyName ∈ gW := gW_mem (i := 467) (by decide +kernel) (by decide +kernel)
theorem qw468 : Cond.static arraycopyName ∈ gW := gW_mem (i := 468) (by decide +kernel) (by decide +kernel)
theorem qw469 : Cond.native arraycopyName ∈ gW := gW_mem (i := 469) (by decide +kernel) (by decide +kernel)
theorem qw470 : Cond.methodLink RX6 155 yX4_readInto ∈ gW := gW_mem (i := 470) (by decide +kernel) (by decide +kernel)
theorem qw471 : Cond.instanceMethod yX4_readInto ∈ gW := gW_mem (i := 471) (by decide +kernel) (by decide +kernel)
theorem qw472 : Cond.selects RX4 yX4_readInto yX4_readInto ∈ gW := gW_mem (i := 472) (by decide +kernel) (by decide +kernel)
theorem qw473 : Cond.code yX4_readInto cX4_readInto 3 (some .int) ∈ gW := gW_mem (i := 473) (by decide +kernel) (by decide +kernel)
theorem qw474 : Cond.methodLink RX4 31 yX4_goOn ∈ gW := gW_mem (i := 474) (by decide +kernel) (by decide +kernel)
theorem qw476 : Cond.instanceMethod yX4_goOn ∈ gW := gW_mem (i := 476) (by decide +kernel) (by decide +kernel)
theorem qw477 : Cond.code yX4_goOn cX4_goOn 1 none ∈ gW := gW_mem (i := 477) (by decide +kernel) (by decide +kernel)
theorem qw478 : Cond.methodLink RX4 111 yX4_isLetter ∈ gW := gW_mem (i := 478) (by decide +kernel) (by decide +kernel)
theorem qw479 : Cond.static yX4_isLetter ∈ gW := gW_mem (i := 479) (by decide +kernel) (by decide +kernel)
theorem qw480 : Cond.code yX4_isLetter cX4_isLetter 1 (some .boolean) ∈ gW := gW_mem (i := 480) (by decide +kernel) (by decide +kernel)
theorem qw481 : Cond.methodLink RX4 115 yX4_isDigit ∈ gW := gW_mem (i := 481) (by decide +kernel) (by decide +kernel)
theorem qw482 : Cond.static yX4_isDigit ∈ gW := gW_mem (i := 482) (by decide +kernel) (by decide +kernel)
theorem qw483 : Cond.code yX4_isDigit cX4_isDigit 1 (some .boolean) ∈ gW := gW_mem (i := 483) (by decide +kernel) (by decide +kernel)
theorem qw484 : Cond.methodLink RX4 118 yX4_goThroughDigits ∈ gW := gW_mem (i := 484) (by decide +kernel) (by decide +kernel)
theorem qw486 : Cond.instanceMethod yX4_goThroughDigits ∈ gW := gW_mem (i := 486) (by decide +kernel) (by decide +kernel)
theorem qw487 : Cond.code yX4_goThroughDigits cX4_goThroughDigits 1 none ∈ gW := gW_mem (i := 487) (by decide +kernel) (by decide +kernel)
theorem qw488 : Cond.methodLink RX4 121 yJ9_min_7cf53 ∈ gW := gW_mem (i := 488) (by decide +kernel) (by decide +kernel)
theorem qw489 : Cond.static yJ9_min_7cf53 ∈ gW := gW_mem (i := 489) (by decide +kernel) (by decide +kernel)
theorem qw490 : Cond.code yJ9_min_7cf53 cJ9_min_7cf53 2 (some .int) ∈ gW := gW_mem (i := 490) (by decide +kernel) (by decide +kernel)
theorem qw491 : Cond.methodLink RX4 34 yX4_readItem ∈ gW := gW_mem (i := 491) (by decide +kernel) (by decide +kernel)
theorem qw493 : Cond.instanceMethod yX4_readItem ∈ gW := gW_mem (i := 493) (by decide +kernel) (by decide +kernel)
theorem qw494 : Cond.code yX4_readItem cX4_readItem 3 (some .boolean) ∈ gW := gW_mem (i := 494) (by decide +kernel) (by decide +kernel)
theorem qw495 : Cond.methodLink RX4 38 yX4_kindOfWord ∈ gW := gW_mem (i := 495) (by decide +kernel) (by decide +kernel)
theorem qw497 : Cond.instanceMethod yX4_kindOfWord ∈ gW := gW_mem (i := 497) (by decide +kernel) (by decide +kernel)
theorem qw498 : Cond.code yX4_kindOfWord cX4_kindOfWord 1 (some .int) ∈ gW := gW_mem (i := 498) (by decide +kernel) (by decide +kernel)
theorem qw500 : Cond.methodLink RX4 48 yX4_isWord ∈ gW := gW_mem (i := 500) (by decide +kernel) (by decide +kernel)
theorem qw502 : Cond.instanceMethod yX4_isWord ∈ gW := gW_mem (i := 502) (by decide +kernel) (by decide +kernel)
theorem qw503 : Cond.code yX4_isWord cX4_isWord 3 (some .boolean) ∈ gW := gW_mem (i := 503) (by decide +kernel) (by decide +kernel)
theorem qw504 : Cond.methodLink RX4 89 yJ0_length_8abf5 ∈ gW := gW_mem (i := 504) (by decide +kernel) (by decide +kernel)
theorem qw505 : Cond.instanceMethod yJ0_length_8abf5 ∈ gW := gW_mem (i := 505) (by decide +kernel) (by decide +kernel)
theorem qw506 : Cond.selects RJ0 yJ0_length_8abf5 yJ0_length_8abf5 ∈ gW := gW_mem (i := 506) (by decide +kernel) (by decide +kernel)
theorem qw507 : Cond.code yJ0_length_8abf5 cJ0_length_8abf5 1 (some .int) ∈ gW := gW_mem (i := 507) (by decide +kernel) (by decide +kernel)
theorem qw508 : Cond.methodLink RJ0 335 yJ0_coder_7d493 ∈ gW := gW_mem (i := 508) (by decide +kernel) (by decide +kernel)
theorem qw509 : Cond.instanceMethod yJ0_coder_7d493 ∈ gW := gW_mem (i := 509) (by decide +kernel) (by decide +kernel)
theorem qw510 : Cond.selects RJ0 yJ0_coder_7d493 yJ0_coder_7d493 ∈ gW := gW_mem (i := 510) (by decide +kernel) (by decide +kernel)
theorem qw511 : Cond.code yJ0_coder_7d493 cJ0_coder_7d493 1 (some .byte) ∈ gW := gW_mem (i := 511) (by decide +kernel) (by decide +kernel)
theorem qw512 : Cond.fieldLink RJ0 38 "java/lang/String" "COMPACT_STRINGS" "Z" ∈ gW := gW_mem (i := 512) (by decide +kernel) (by decide +kernel)
theorem qw514 : Cond.methodLink RX4 93 yJ0_charAt_5068e ∈ gW := gW_mem (i := 514) (by decide +kernel) (by decide +kernel)
theorem qw515 : Cond.instanceMethod yJ0_charAt_5068e ∈ gW := gW_mem (i := 515) (by decide +kernel) (by decide +kernel)
theorem qw516 : Cond.selects RJ0 yJ0_charAt_5068e yJ0_charAt_5068e ∈ gW := gW_mem (i := 516) (by decide +kernel) (by decide +kernel)
theorem qw517 : Cond.code yJ0_charAt_5068e cJ0_charAt_5068e 2 (some .char) ∈ gW := gW_mem (i := 517) (by decide +kernel) (by decide +kernel)
theorem qw518 : Cond.methodLink RJ0 492 yJ0_isLatin1_aae02 ∈ gW := gW_mem (i := 518) (by decide +kernel) (by decide +kernel)
theorem qw519 : Cond.instanceMethod yJ0_isLatin1_aae02 ∈ gW := gW_mem (i := 519) (by decide +kernel) (by decide +kernel)
theorem qw520 : Cond.selects RJ0 yJ0_isLatin1_aae02 yJ0_isLatin1_aae02 ∈ gW := gW_mem (i := 520) (by decide +kernel) (by decide +kernel)
theorem qw521 : Cond.code yJ0_isLatin1_aae02 cJ0_isLatin1_aae02 1 (some .boolean) ∈ gW := gW_mem (i := 521) (by decide +kernel) (by decide +kernel)
theorem qw522 : Cond.methodLink RJ0 495 yJ1_charAt_3b067 ∈ gW := gW_mem (i := 522) (by decide +kernel) (by decide +kernel)
theorem qw523 : Cond.static yJ1_charAt_3b067 ∈ gW := gW_mem (i := 523) (by decide +kernel) (by decide +kernel)
theorem qw524 : Cond.code yJ1_charAt_3b067 cJ1_charAt_3b067 2 (some .char) ∈ gW := gW_mem (i := 524) (by decide +kernel) (by decide +kernel)
theorem qw525 : Cond.methodLink RJ1 9 yJ0_checkIndex_df160 ∈ gW := gW_mem (i := 525) (by decide +kernel) (by decide +kernel)
theorem qw526 : Cond.static yJ0_checkIndex_df160 ∈ gW := gW_mem (i := 526) (by decide +kernel) (by decide +kernel)
theorem qw527 : Cond.code yJ0_checkIndex_df160 cJ0_checkIndex_df160 2 none ∈ gW := gW_mem (i := 527) (by decide +kernel) (by decide +kernel)
theorem qw528 : Cond.fieldLink RJ0 1053 "jdk/internal/util/Preconditions" "SIOOBE_FORMATTER" "Ljava/util/function/BiFunction;" ∈ gW := gW_mem (i := 528) (by decide +kernel) (by decide +kernel)
theorem qw530 : Cond.methodLink RJ0 1059 yJ3_checkIndex_8e157 ∈ gW := gW_mem (i := 530) (by decide +kernel) (by decide +kernel)
theorem qw531 : Cond.static yJ3_checkIndex_8e157 ∈ gW := gW_mem (i := 531) (by decide +kernel) (by decide +kernel)
theorem qw532 : Cond.code yJ3_checkIndex_8e157 cJ3_checkIndex_8e157 3 (some .int) ∈ gW := gW_mem (i := 532) (by decide +kernel) (by decide +kernel)
theorem qw533 : Cond.methodLink RJ0 498 yJ2_charAt_3b067 ∈ gW := gW_mem (i := 533) (by decide +kernel) (by decide +kernel)
theorem qw534 : Cond.static yJ2_charAt_3b067 ∈ gW := gW_mem (i := 534) (by decide +kernel) (by decide +kernel)
theorem qw535 : Cond.code yJ2_charAt_3b067 cJ2_charAt_3b067 2 (some .char) ∈ gW := gW_mem (i := 535) (by decide +kernel) (by decide +kernel)
theorem qw536 : Cond.methodLink RJ2 67 yJ2_checkIndex_2214a ∈ gW := gW_mem (i := 536) (by decide +kernel) (by decide +kernel)
theorem qw537 : Cond.static yJ2_checkIndex_2214a ∈ gW := gW_mem (i := 537) (by decide +kernel) (by decide +kernel)
theorem qw538 : Cond.code yJ2_checkIndex_2214a cJ2_checkIndex_2214a 2 none ∈ gW := gW_mem (i := 538) (by decide +kernel) (by decide +kernel)
theorem qw539 : Cond.methodLink RJ2 48 yJ2_length_9d52b ∈ gW := gW_mem (i := 539) (by decide +kernel) (by decide +kernel)
theorem qw540 : Cond.static yJ2_length_9d52b ∈ gW := gW_mem (i := 540) (by decide +kernel) (by decide +kernel)
theorem qw541 : Cond.code yJ2_length_9d52b cJ2_length_9d52b 1 (some .int) ∈ gW := gW_mem (i := 541) (by decide +kernel) (by decide +kernel)
theorem qw542 : Cond.methodLink RJ2 414 yJ0_checkIndex_df160 ∈ gW := gW_mem (i := 542) (by decide +kernel) (by decide +kernel)
theorem qw543 : Cond.methodLink RJ2 71 yJ2_getChar_3b067 ∈ gW := gW_mem (i := 543) (by decide +kernel) (by decide +kernel)
theorem qw544 : Cond.static yJ2_getChar_3b067 ∈ gW := gW_mem (i := 544) (by decide +kernel) (by decide +kernel)
theorem qw545 : Cond.code yJ2_getChar_3b067 cJ2_getChar_3b067 2 (some .char) ∈ gW := gW_mem (i := 545) (by decide +kernel) (by decide +kernel)
theorem qw546 : Cond.fieldLink RJ2 44 "java/lang/StringUTF16" "$assertionsDisabled" "Z" ∈ gW := gW_mem (i := 546) (by decide +kernel) (by decide +kernel)
theorem qw548 : Cond.fieldLink RJ2 59 "java/lang/StringUTF16" "HI_BYTE_SHIFT" "I" ∈ gW := gW_mem (i := 548) (by decide +kernel) (by decide +kernel)
theorem qw550 : Cond.fieldLink RJ2 63 "java/lang/StringUTF16" "LO_BYTE_SHIFT" "I" ∈ gW := gW_mem (i := 550) (by decide +kernel) (by decide +kernel)
theorem qw558 : Cond.methodLink RX4 42 yX4_readSide ∈ gW := gW_mem (i := 558) (by decide +kernel) (by decide +kernel)
theorem qw560 : Cond.instanceMethod yX4_readSide ∈ gW := gW_mem (i := 560) (by decide +kernel) (by decide +kernel)
theorem qw561 : Cond.code yX4_readSide cX4_readSide 5 (some .boolean) ∈ gW := gW_mem (i := 561) (by decide +kernel) (by decide +kernel)
theorem qw562 : Cond.methodLink RX4 65 yX4_isNumber ∈ gW := gW_mem (i := 562) (by decide +kernel) (by decide +kernel)
theorem qw564 : Cond.instanceMethod yX4_isNumber ∈ gW := gW_mem (i := 564) (by decide +kernel) (by decide +kernel)
theorem qw565 : Cond.code yX4_isNumber cX4_isNumber 3 (some .boolean) ∈ gW := gW_mem (i := 565) (by decide +kernel) (by decide +kernel)
theorem qw567 : Cond.methodLink RX4 71 yX4_readPerhaps ∈ gW := gW_mem (i := 567) (by decide +kernel) (by decide +kernel)
theorem qw569 : Cond.instanceMethod yX4_readPerhaps ∈ gW := gW_mem (i := 569) (by decide +kernel) (by decide +kernel)
theorem qw570 : Cond.code yX4_readPerhaps cX4_readPerhaps 6 (some .int) ∈ gW := gW_mem (i := 570) (by decide +kernel) (by decide +kernel)
theorem qw571 : Cond.methodLink RX4 75 yX1_addSide ∈ gW := gW_mem (i := 571) (by decide +kernel) (by decide +kernel)
theorem qw573 : Cond.methodLink RX4 52 yX4_readGame ∈ gW := gW_mem (i := 573) (by decide +kernel) (by decide +kernel)
theorem qw575 : Cond.instanceMethod yX4_readGame ∈ gW := gW_mem (i := 575) (by decide +kernel) (by decide +kernel)
theorem qw576 : Cond.code yX4_readGame cX4_readGame 5 (some .boolean) ∈ gW := gW_mem (i := 576) (by decide +kernel) (by decide +kernel)
theorem qw578 : Cond.methodLink RX4 84 yX1_addGame ∈ gW := gW_mem (i := 578) (by decide +kernel) (by decide +kernel)
theorem qw580 : Cond.methodLink RX4 57 yX4_readLaw ∈ gW := gW_mem (i := 580) (by decide +kernel) (by decide +kernel)
theorem qw582 : Cond.instanceMethod yX4_readLaw ∈ gW := gW_mem (i := 582) (by decide +kernel) (by decide +kernel)
theorem qw583 : Cond.code yX4_readLaw cX4_readLaw 2 (some .boolean) ∈ gW := gW_mem (i := 583) (by decide +kernel) (by decide +kernel)
theorem qw585 : Cond.methodLink RL 57 yX6_next ∈ gW := gW_mem (i := 585) (by decide +kernel) (by decide +kernel)
theorem qw586 : Cond.instanceMethod yX6_next ∈ gW := gW_mem (i := 586) (by decide +kernel) (by decide +kernel)
theorem qw587 : Cond.selects RX6 yX6_next yX6_next ∈ gW := gW_mem (i := 587) (by decide +kernel) (by decide +kernel)
theorem qw588 : Cond.code yX6_next cX6_next 5 (some .int) ∈ gW := gW_mem (i := 588) (by decide +kernel) (by decide +kernel)
theorem qw589 : Cond.methodLink RX6 159 yX1_allPlayed ∈ gW := gW_mem (i := 589) (by decide +kernel) (by decide +kernel)
theorem qw590 : Cond.instanceMethod yX1_allPlayed ∈ gW := gW_mem (i := 590) (by decide +kernel) (by decide +kernel)
theorem qw591 : Cond.selects RX1 yX1_allPlayed yX1_allPlayed ∈ gW := gW_mem (i := 591) (by decide +kernel) (by decide +kernel)
theorem qw592 : Cond.code yX1_allPlayed cX1_allPlayed 1 (some .boolean) ∈ gW := gW_mem (i := 592) (by decide +kernel) (by decide +kernel)
theorem qw593 : Cond.methodLink RX6 163 yX1_effortOf ∈ gW := gW_mem (i := 593) (by decide +kernel) (by decide +kernel)
theorem qw594 : Cond.instanceMethod yX1_effortOf ∈ gW := gW_mem (i := 594) (by decide +kernel) (by decide +kernel)
theorem qw595 : Cond.selects RX1 yX1_effortOf yX1_effortOf ∈ gW := gW_mem (i := 595) (by decide +kernel) (by decide +kernel)
theorem qw596 : Cond.code yX1_effortOf cX1_effortOf 5 (some .int) ∈ gW := gW_mem (i := 596) (by decide +kernel) (by decide +kernel)
theorem qw597 : Cond.methodLink RX1 98 yX1_isBarred ∈ gW := gW_mem (i := 597) (by decide +kernel) (by decide +kernel)
theorem qw598 : Cond.methodLink RX1 101 yX1_nextWorthOf ∈ gW := gW_mem (i := 598) (by decide +kernel) (by decide +kernel)
theorem qw599 : Cond.instanceMethod yX1_nextWorthOf ∈ gW := gW_mem (i := 599) (by decide +kernel) (by decide +kernel)
theorem qw600 : Cond.selects RX1 yX1_nextWorthOf yX1_nextWorthOf ∈ gW := gW_mem (i := 600) (by decide +kernel) (by decide +kernel)
theorem qw601 : Cond.code yX1_nextWorthOf cX1_nextWorthOf 3 (some .int) ∈ gW := gW_mem (i := 601) (by decide +kernel) (by decide +kernel)
theorem qw602 : Cond.methodLink RX1 105 yJ9_min_7cf53 ∈ gW := gW_mem (i := 602) (by decide +kernel) (by decide +kernel)
theorem qw603 : Cond.methodLink RX6 166 yX1_chanceOfFirst ∈ gW := gW_mem (i := 603) (by decide +kernel) (by decide +kernel)
theorem qw604 : Cond.instanceMethod yX1_chanceOfFirst ∈ gW := gW_mem (i := 604) (by decide +kernel) (by decide +kernel)
theorem qw605 : Cond.selects RX1 yX1_chanceOfFirst yX1_chanceOfFirst ∈ gW := gW_mem (i := 605) (by decide +kernel) (by decide +kernel)
theorem qw606 : Cond.code yX1_chanceOfFirst cX1_chanceOfFirst 5 (some .int) ∈ gW := gW_mem (i := 606) (by decide +kernel) (by decide +kernel)
theorem qw607 : Cond.methodLink RX1 118 yX1_forceOf ∈ gW := gW_mem (i := 607) (by decide +kernel) (by decide +kernel)
theorem qw608 : Cond.instanceMethod yX1_forceOf ∈ gW := gW_mem (i := 608) (by decide +kernel) (by decide +kernel)
theorem qw609 : Cond.selects RX1 yX1_forceOf yX1_forceOf ∈ gW := gW_mem (i := 609) (by decide +kernel) (by decide +kernel)
theorem qw610 : Cond.code yX1_forceOf cX1_forceOf 4 (some .int) ∈ gW := gW_mem (i := 610) (by decide +kernel) (by decide +kernel)
theorem qw611 : Cond.methodLink RX1 115 yJ9_max_7cf53 ∈ gW := gW_mem (i := 611) (by decide +kernel) (by decide +kernel)
theorem qw612 : Cond.static yJ9_max_7cf53 ∈ gW := gW_mem (i := 612) (by decide +kernel) (by decide +kernel)
theorem qw613 : Cond.code yJ9_max_7cf53 cJ9_max_7cf53 2 (some .int) ∈ gW := gW_mem (i := 613) (by decide +kernel) (by decide +kernel)
theorem qw614 : Cond.methodLink RX6 170 yX1_forceOf ∈ gW := gW_mem (i := 614) (by decide +kernel) (by decide +kernel)
theorem qw615 : Cond.methodLink RL 61 yX6_win ∈ gW := gW_mem (i := 615) (by decide +kernel) (by decide +kernel)
theorem qw616 : Cond.instanceMethod yX6_win ∈ gW := gW_mem (i := 616) (by decide +kernel) (by decide +kernel)
theorem qw617 : Cond.selects RX6 yX6_win yX6_win ∈ gW := gW_mem (i := 617) (by decide +kernel) (by decide +kernel)
theorem qw618 : Cond.code yX6_win cX6_win 2 (some .int) ∈ gW := gW_mem (i := 618) (by decide +kernel) (by decide +kernel)
theorem qw619 : Cond.methodLink RX6 173 yX0_isOf ∈ gW := gW_mem (i := 619) (by decide +kernel) (by decide +kernel)
theorem qw620 : Cond.methodLink RX6 176 yX1_playWonBy ∈ gW := gW_mem (i := 620) (by decide +kernel) (by decide +kernel)
theorem qw621 : Cond.instanceMethod yX1_playWonBy ∈ gW := gW_mem (i := 621) (by decide +kernel) (by decide +kernel)
theorem qw622 : Cond.selects RX1 yX1_playWonBy yX1_playWonBy ∈ gW := gW_mem (i := 622) (by decide +kernel) (by decide +kernel)
theorem qw623 : Cond.code yX1_playWonBy cX1_playWonBy 2 (some .int) ∈ gW := gW_mem (i := 623) (by decide +kernel) (by decide +kernel)
theorem qw624 : Cond.methodLink RX1 150 yX1_effortOf ∈ gW := gW_mem (i := 624) (by decide +kernel) (by decide +kernel)
theorem qw625 : Cond.methodLink RX1 153 yX1_settle ∈ gW := gW_mem (i := 625) (by decide +kernel) (by decide +kernel)
theorem qw626 : Cond.instanceMethod yX1_settle ∈ gW := gW_mem (i := 626) (by decide +kernel) (by decide +kernel)
theorem qw627 : Cond.selects RX1 yX1_settle yX1_settle ∈ gW := gW_mem (i := 627) (by decide +kernel) (by decide +kernel)
theorem qw628 : Cond.code yX1_settle cX1_settle 8 (some .int) ∈ gW := gW_mem (i := 628) (by decide +kernel) (by decide +kernel)
theorem qw629 : Cond.methodLink RX1 124 yX1_givenIfWonBy ∈ gW := gW_mem (i := 629) (by decide +kernel) (by decide +kernel)
theorem qw630 : Cond.instanceMethod yX1_givenIfWonBy ∈ gW := gW_mem (i := 630) (by decide +kernel) (by decide +kernel)
theorem qw631 : Cond.selects RX1 yX1_givenIfWonBy yX1_givenIfWonBy ∈ gW := gW_mem (i := 631) (by decide +kernel) (by decide +kernel)
theorem qw632 : Cond.code yX1_givenIfWonBy cX1_givenIfWonBy 5 (some .int) ∈ gW := gW_mem (i := 632) (by decide +kernel) (by decide +kernel)
theorem qw633 : Cond.methodLink RX1 142 yX3_remember ∈ gW := gW_mem (i := 633) (by decide +kernel) (by decide +kernel)
theorem qw634 : Cond.instanceMethod yX3_remember ∈ gW := gW_mem (i := 634) (by decide +kernel) (by decide +kernel)
theorem qw635 : Cond.selects RX3 yX3_remember yX3_remember ∈ gW := gW_mem (i := 635) (by decide +kernel) (by decide +kernel)
theorem qw636 : Cond.code yX3_remember cX3_remember 4 none ∈ gW := gW_mem (i := 636) (by decide +kernel) (by decide +kernel)
theorem qw637 : Cond.methodLink RL 65 yX6_play ∈ gW := gW_mem (i := 637) (by decide +kernel) (by decide +kernel)
theorem qw638 : Cond.instanceMethod yX6_play ∈ gW := gW_mem (i := 638) (by decide +kernel) (by decide +kernel)
theorem qw639 : Cond.selects RX6 yX6_play yX6_play ∈ gW := gW_mem (i := 639) (by decide +kernel) (by decide +kernel)
theorem qw640 : Cond.code yX6_play cX6_play 1 (some .int) ∈ gW := gW_mem (i := 640) (by decide +kernel) (by decide +kernel)
theorem qw641 : Cond.methodLink RX6 179 yX1_playDrawn ∈ gW := gW_mem (i := 641) (by decide +kernel) (by decide +kernel)
theorem qw642 : Cond.instanceMethod yX1_playDrawn ∈ gW := gW_mem (i := 642) (by decide +kernel) (by decide +kernel)
theorem qw643 : Cond.selects RX1 yX1_playDrawn yX1_playDrawn ∈ gW := gW_mem (i := 643) (by decide +kernel) (by decide +kernel)
theorem qw644 : Cond.code yX1_playDrawn cX1_playDrawn 5 (some .int) ∈ gW := gW_mem (i := 644) (by decide +kernel) (by decide +kernel)
theorem qw645 : Cond.constant RX1 157 (1103515245) ∈ gW := gW_mem (i := 645) (by decide +kernel) (by decide +kernel)
theorem qw646 : Cond.methodLink RX1 158 yX1_chanceOfFirst ∈ gW := gW_mem (i := 646) (by decide +kernel) (by decide +kernel)
theorem qw647 : Cond.methodLink RL 69 yX6_anew ∈ gW := gW_mem (i := 647) (by decide +kernel) (by decide +kernel)
theorem qw648 : Cond.instanceMethod yX6_anew ∈ gW := gW_mem (i := 648) (by decide +kernel) (by decide +kernel)
theorem qw649 : Cond.selects RX6 yX6_anew yX6_anew ∈ gW := gW_mem (i := 649) (by decide +kernel) (by decide +kernel)
theorem qw650 : Cond.code yX6_anew cX6_anew 1 (some .int) ∈ gW := gW_mem (i := 650) (by decide +kernel) (by decide +kernel)
theorem qw651 : Cond.methodLink RX6 183 yX1_forgetGames ∈ gW := gW_mem (i := 651) (by decide +kernel) (by decide +kernel)
theorem qw652 : Cond.instanceMethod yX1_forgetGames ∈ gW := gW_mem (i := 652) (by decide +kernel) (by decide +kernel)
theorem qw653 : Cond.selects RX1 yX1_forgetGames yX1_forgetGames ∈ gW := gW_mem (i := 653) (by decide +kernel) (by decide +kernel)
theorem qw654 : Cond.code yX1_forgetGames cX1_forgetGames 3 (some .int) ∈ gW := gW_mem (i := 654) (by decide +kernel) (by decide +kernel)
theorem qw655 : Cond.methodLink RL 73 yX6_leads ∈ gW := gW_mem (i := 655) (by decide +kernel) (by decide +kernel)
theorem qw656 : Cond.instanceMethod yX6_leads ∈ gW := gW_mem (i := 656) (by decide +kernel) (by decide +kernel)
theorem qw657 : Cond.selects RX6 yX6_leads yX6_leads ∈ gW := gW_mem (i := 657) (by decide +kernel) (by decide +kernel)
theorem qw658 : Cond.code yX6_leads cX6_leads 1 (some .int) ∈ gW := gW_mem (i := 658) (by decide +kernel) (by decide +kernel)
theorem qw659 : Cond.methodLink RX6 186 yX1_leader ∈ gW := gW_mem (i := 659) (by decide +kernel) (by decide +kernel)
theorem qw660 : Cond.instanceMethod yX1_leader ∈ gW := gW_mem (i := 660) (by decide +kernel) (by decide +kernel)
theorem qw661 : Cond.selects RX1 yX1_leader yX1_leader ∈ gW := gW_mem (i := 661) (by decide +kernel) (by decide +kernel)
theorem qw662 : Cond.code yX1_leader cX1_leader 3 (some .int) ∈ gW := gW_mem (i := 662) (by decide +kernel) (by decide +kernel)
theorem qw663 : Cond.methodLink RL 77 yX6_place ∈ gW := gW_mem (i := 663) (by decide +kernel) (by decide +kernel)
theorem qw664 : Cond.instanceMethod yX6_place ∈ gW := gW_mem (i := 664) (by decide +kernel) (by decide +kernel)
theorem qw665 : Cond.selects RX6 yX6_place yX6_place ∈ gW := gW_mem (i := 665) (by decide +kernel) (by decide +kernel)
theorem qw666 : Cond.code yX6_place cX6_place 4 (some .int) ∈ gW := gW_mem (i := 666) (by decide +kernel) (by decide +kernel)
theorem qw667 : Cond.methodLink RL 81 yX6_gets ∈ gW := gW_mem (i := 667) (by decide +kernel) (by decide +kernel)
theorem qw668 : Cond.instanceMethod yX6_gets ∈ gW := gW_mem (i := 668) (by decide +kernel) (by decide +kernel)
theorem qw669 : Cond.selects RX6 yX6_gets yX6_gets ∈ gW := gW_mem (i := 669) (by decide +kernel) (by decide +kernel)
theorem qw670 : Cond.code yX6_gets cX6_gets 7 (some .long) ∈ gW := gW_mem (i := 670) (by decide +kernel) (by decide +kernel)
theorem qw671 : Cond.methodLink RX6 189 yX6_isPart ∈ gW := gW_mem (i := 671) (by decide +kernel) (by decide +kernel)
theorem qw672 : Cond.static yX6_isPart ∈ gW := gW_mem (i := 672) (by decide +kernel) (by decide +kernel)
theorem qw673 : Cond.code yX6_isPart cX6_isPart 1 (some .boolean) ∈ gW := gW_mem (i := 673) (by decide +kernel) (by decide +kernel)
theorem qw674 : Cond.methodLink RX6 192 yX6_goLikelyWays ∈ gW := gW_mem (i := 674) (by decide +kernel) (by decide +kernel)
theorem qw676 : Cond.instanceMethod yX6_goLikelyWays ∈ gW := gW_mem (i := 676) (by decide +kernel) (by decide +kernel)
theorem qw677 : Cond.code yX6_goLikelyWays cX6_goLikelyWays 1 none ∈ gW := gW_mem (i := 677) (by decide +kernel) (by decide +kernel)
theorem qw678 : Cond.methodLink RX6 213 yX5_over ∈ gW := gW_mem (i := 678) (by decide +kernel) (by decide +kernel)
theorem qw679 : Cond.instanceMethod yX5_over ∈ gW := gW_mem (i := 679) (by decide +kernel) (by decide +kernel)
theorem qw680 : Cond.selects RX5 yX5_over yX5_over ∈ gW := gW_mem (i := 680) (by decide +kernel) (by decide +kernel)
theorem qw681 : Cond.code yX5_over cX5_over 5 none ∈ gW := gW_mem (i := 681) (by decide +kernel) (by decide +kernel)
theorem qw682 : Cond.constantLong RX5 64 (10) ∈ gW := gW_mem (i := 682) (by decide +kernel) (by decide +kernel)
theorem qw683 : Cond.methodLink RX5 66 yX5_startSums ∈ gW := gW_mem (i := 683) (by decide +kernel) (by decide +kernel)
theorem qw685 : Cond.instanceMethod yX5_startSums ∈ gW := gW_mem (i := 685) (by decide +kernel) (by decide +kernel)
theorem qw686 : Cond.code yX5_startSums cX5_startSums 4 none ∈ gW := gW_mem (i := 686) (by decide +kernel) (by decide +kernel)
theorem qw687 : Cond.methodLink RX5 69 yX5_follow ∈ gW := gW_mem (i := 687) (by decide +kernel) (by decide +kernel)
theorem qw689 : Cond.instanceMethod yX5_follow ∈ gW := gW_mem (i := 689) (by decide +kernel) (by decide +kernel)
theorem qw690 : Cond.code yX5_follow cX5_follow 14 none ∈ gW := gW_mem (i := 690) (by decide +kernel) (by decide +kernel)
theorem qw691 : Cond.methodLink RX5 106 yX1_allPlayed ∈ gW := gW_mem (i := 691) (by decide +kernel) (by decide +kernel)
theorem qw692 : Cond.methodLink RX5 110 yX5_arrive ∈ gW := gW_mem (i := 692) (by decide +kernel) (by decide +kernel)
theorem qw694 : Cond.instanceMethod yX5_arrive ∈ gW := gW_mem (i := 694) (by decide +kernel) (by decide +kernel)
theorem qw695 : Cond.code yX5_arrive cX5_arrive 5 none ∈ gW := gW_mem (i := 695) (by decide +kernel) (by decide +kernel)
theorem qw696 : Cond.methodLink RX5 135 yJ9_max_7cf53 ∈ gW := gW_mem (i := 696) (by decide +kernel) (by decide +kernel)
theorem qw697 : Cond.methodLink RX5 140 yX1_leader ∈ gW := gW_mem (i := 697) (by decide +kernel) (by decide +kernel)
theorem qw698 : Cond.methodLink RX5 114 yX1_effortOf ∈ gW := gW_mem (i := 698) (by decide +kernel) (by decide +kernel)
theorem qw699 : Cond.methodLink RX5 121 yX1_chanceOfFirst ∈ gW := gW_mem (i := 699) (by decide +kernel) (by decide +kernel)
theorem qw700 : Cond.methodLink RX5 125 yX1_settle ∈ gW := gW_mem (i := 700) (by decide +kernel) (by decide +kernel)
theorem qw701 : Cond.methodLink RX5 132 yX1_takeBack ∈ gW := gW_mem (i := 701) (by decide +kernel) (by decide +kernel)
theorem qw702 : Cond.instanceMethod yX1_takeBack ∈ gW := gW_mem (i := 702) (by decide +kernel) (by decide +kernel)
theorem qw703 : Cond.selects RX1 yX1_takeBack yX1_takeBack ∈ gW := gW_mem (i := 703) (by decide +kernel) (by decide +kernel)
theorem qw704 : Cond.code yX1_takeBack cX1_takeBack 2 none ∈ gW := gW_mem (i := 704) (by decide +kernel) (by decide +kernel)
theorem qw705 : Cond.methodLink RX6 203 yX6_inLowestTerms ∈ gW := gW_mem (i := 705) (by decide +kernel) (by decide +kernel)
theorem qw706 : Cond.static yX6_inLowestTerms ∈ gW := gW_mem (i := 706) (by decide +kernel) (by decide +kernel)
theorem qw707 : Cond.code yX6_inLowestTerms cX6_inLowestTerms 12 (some .long) ∈ gW := gW_mem (i := 707) (by decide +kernel) (by decide +kernel)
theorem qw708 : Cond.methodLink RL 86 yX6_first ∈ gW := gW_mem (i := 708) (by decide +kernel) (by decide +kernel)
theorem qw709 : Cond.instanceMethod yX6_first ∈ gW := gW_mem (i := 709) (by decide +kernel) (by decide +kernel)
theorem qw710 : Cond.selects RX6 yX6_first yX6_first ∈ gW := gW_mem (i := 710) (by decide +kernel) (by decide +kernel)
theorem qw711 : Cond.code yX6_first cX6_first 3 (some .long) ∈ gW := gW_mem (i := 711) (by decide +kernel) (by decide +kernel)
theorem qw712 : Cond.methodLink RL 91 yX6_mean ∈ gW := gW_mem (i := 712) (by decide +kernel) (by decide +kernel)
theorem qw713 : Cond.instanceMethod yX6_mean ∈ gW := gW_mem (i := 713) (by decide +kernel) (by decide +kernel)
theorem qw714 : Cond.selects RX6 yX6_mean yX6_mean ∈ gW := gW_mem (i := 714) (by decide +kernel) (by decide +kernel)
theorem qw715 : Cond.code yX6_mean cX6_mean 3 (some .long) ∈ gW := gW_mem (i := 715) (by decide +kernel) (by decide +kernel)
theorem qw716 : Cond.methodLink RL 95 yX6_least ∈ gW := gW_mem (i := 716) (by decide +kernel) (by decide +kernel)
theorem qw717 : Cond.instanceMethod yX6_least ∈ gW := gW_mem (i := 717) (by decide +kernel) (by decide +kernel)
theorem qw718 : Cond.selects RX6 yX6_least yX6_least ∈ gW := gW_mem (i := 718) (by decide +kernel) (by decide +kernel)
theorem qw719 : Cond.code yX6_least cX6_least 4 (some .long) ∈ gW := gW_mem (i := 719) (by decide +kernel) (by decide +kernel)
theorem qw720 : Cond.methodLink RL 99 yX6_most ∈ gW := gW_mem (i := 720) (by decide +kernel) (by decide +kernel)
theorem qw721 : Cond.instanceMethod yX6_most ∈ gW := gW_mem (i := 721) (by decide +kernel) (by decide +kernel)
theorem qw722 : Cond.selects RX6 yX6_most yX6_most ∈ gW := gW_mem (i := 722) (by decide +kernel) (by decide +kernel)
theorem qw723 : Cond.code yX6_most cX6_most 2 (some .int) ∈ gW := gW_mem (i := 723) (by decide +kernel) (by decide +kernel)
theorem qw724 : Cond.methodLink RL 103 yX6_ways ∈ gW := gW_mem (i := 724) (by decide +kernel) (by decide +kernel)
theorem qw725 : Cond.instanceMethod yX6_ways ∈ gW := gW_mem (i := 725) (by decide +kernel) (by decide +kernel)
theorem qw726 : Cond.selects RX6 yX6_ways yX6_ways ∈ gW := gW_mem (i := 726) (by decide +kernel) (by decide +kernel)
theorem qw727 : Cond.code yX6_ways cX6_ways 1 (some .int) ∈ gW := gW_mem (i := 727) (by decide +kernel) (by decide +kernel)
theorem qw728 : Cond.methodLink RL 107 yX6_moved ∈ gW := gW_mem (i := 728) (by decide +kernel) (by decide +kernel)
theorem qw729 : Cond.instanceMethod yX6_moved ∈ gW := gW_mem (i := 729) (by decide +kernel) (by decide +kernel)
theorem qw730 : Cond.selects RX6 yX6_moved yX6_moved ∈ gW := gW_mem (i := 730) (by decide +kernel) (by decide +kernel)
theorem qw731 : Cond.code yX6_moved cX6_moved 3 (some .long) ∈ gW := gW_mem (i := 731) (by decide +kernel) (by decide +kernel)
theorem qw732 : Cond.methodLink RL 111 yX6_best ∈ gW := gW_mem (i := 732) (by decide +kernel) (by decide +kernel)
theorem qw733 : Cond.instanceMethod yX6_best ∈ gW := gW_mem (i := 733) (by decide +kernel) (by decide +kernel)
theorem qw734 : Cond.selects RX6 yX6_best yX6_best ∈ gW := gW_mem (i := 734) (by decide +kernel) (by decide +kernel)
theorem qw735 : Cond.code yX6_best cX6_best 2 (some .int) ∈ gW := gW_mem (i := 735) (by decide +kernel) (by decide +kernel)
theorem qw736 : Cond.methodLink RX6 229 yX6_greatestMean ∈ gW := gW_mem (i := 736) (by decide +kernel) (by decide +kernel)
theorem qw738 : Cond.instanceMethod yX6_greatestMean ∈ gW := gW_mem (i := 738) (by decide +kernel) (by decide +kernel)
theorem qw739 : Cond.code yX6_greatestMean cX6_greatestMean 9 (some .int) ∈ gW := gW_mem (i := 739) (by decide +kernel) (by decide +kernel)
theorem qw740 : Cond.constantLong RX6 297 (-1) ∈ gW := gW_mem (i := 740) (by decide +kernel) (by decide +kernel)
theorem qw741 : Cond.methodLink RX6 299 yX6_suppose ∈ gW := gW_mem (i := 741) (by decide +kernel) (by decide +kernel)
theorem qw743 : Cond.instanceMethod yX6_suppose ∈ gW := gW_mem (i := 743) (by decide +kernel) (by decide +kernel)
theorem qw744 : Cond.code yX6_suppose cX6_suppose 4 none ∈ gW := gW_mem (i := 744) (by decide +kernel) (by decide +kernel)
theorem qw745 : Cond.methodLink RX6 303 yX1_force ∈ gW := gW_mem (i := 745) (by decide +kernel) (by decide +kernel)
theorem qw746 : Cond.instanceMethod yX1_force ∈ gW := gW_mem (i := 746) (by decide +kernel) (by decide +kernel)
theorem qw747 : Cond.selects RX1 yX1_force yX1_force ∈ gW := gW_mem (i := 747) (by decide +kernel) (by decide +kernel)
theorem qw748 : Cond.code yX1_force cX1_force 3 none ∈ gW := gW_mem (i := 748) (by decide +kernel) (by decide +kernel)
theorem qw749 : Cond.methodLink RL 115 yX6_kindFor ∈ gW := gW_mem (i := 749) (by decide +kernel) (by decide +kernel)
theorem qw750 : Cond.instanceMethod yX6_kindFor ∈ gW := gW_mem (i := 750) (by decide +kernel) (by decide +kernel)
theorem qw751 : Cond.selects RX6 yX6_kindFor yX6_kindFor ∈ gW := gW_mem (i := 751) (by decide +kernel) (by decide +kernel)
theorem qw752 : Cond.code yX6_kindFor cX6_kindFor 2 (some .int) ∈ gW := gW_mem (i := 752) (by decide +kernel) (by decide +kernel)
theorem qw753 : Cond.methodLink RL 119 yX6_tellsFor ∈ gW := gW_mem (i := 753) (by decide +kernel) (by decide +kernel)
theorem qw754 : Cond.instanceMethod yX6_tellsFor ∈ gW := gW_mem (i := 754) (by decide +kernel) (by decide +kernel)
theorem qw755 : Cond.selects RX6 yX6_tellsFor yX6_tellsFor ∈ gW := gW_mem (i := 755) (by decide +kernel) (by decide +kernel)
theorem qw756 : Cond.code yX6_tellsFor cX6_tellsFor 2 (some .int) ∈ gW := gW_mem (i := 756) (by decide +kernel) (by decide +kernel)
theorem qw757 : Cond.methodLink RL 123 yX6_order ∈ gW := gW_mem (i := 757) (by decide +kernel) (by decide +kernel)
theorem qw758 : Cond.instanceMethod yX6_order ∈ gW := gW_mem (i := 758) (by decide +kernel) (by decide +kernel)
theorem qw759 : Cond.selects RX6 yX6_order yX6_order ∈ gW := gW_mem (i := 759) (by decide +kernel) (by decide +kernel)
theorem qw760 : Cond.code yX6_order cX6_order 3 (some .int) ∈ gW := gW_mem (i := 760) (by decide +kernel) (by decide +kernel)
theorem qw761 : Cond.methodLink RX6 233 yX6_bestOrder ∈ gW := gW_mem (i := 761) (by decide +kernel) (by decide +kernel)
theorem qw763 : Cond.instanceMethod yX6_bestOrder ∈ gW := gW_mem (i := 763) (by decide +kernel) (by decide +kernel)
theorem qw764 : Cond.code yX6_bestOrder cX6_bestOrder 9 (some .int) ∈ gW := gW_mem (i := 764) (by decide +kernel) (by decide +kernel)
theorem qw765 : Cond.methodLink RX6 306 yX6_arrangeTrial ∈ gW := gW_mem (i := 765) (by decide +kernel) (by decide +kernel)
theorem qw767 : Cond.instanceMethod yX6_arrangeTrial ∈ gW := gW_mem (i := 767) (by decide +kernel) (by decide +kernel)
theorem qw768 : Cond.code yX6_arrangeTrial cX6_arrangeTrial 9 (some .int) ∈ gW := gW_mem (i := 768) (by decide +kernel) (by decide +kernel)
theorem qw769 : Cond.methodLink RX6 309 yX0_become ∈ gW := gW_mem (i := 769) (by decide +kernel) (by decide +kernel)
theorem qw770 : Cond.methodLink RL 127 yX6_lawFor ∈ gW := gW_mem (i := 770) (by decide +kernel) (by decide +kernel)
theorem qw771 : Cond.instanceMethod yX6_lawFor ∈ gW := gW_mem (i := 771) (by decide +kernel) (by decide +kernel)
theorem qw772 : Cond.selects RX6 yX6_lawFor yX6_lawFor ∈ gW := gW_mem (i := 772) (by decide +kernel) (by decide +kernel)
theorem qw773 : Cond.code yX6_lawFor cX6_lawFor 2 (some .int) ∈ gW := gW_mem (i := 773) (by decide +kernel) (by decide +kernel)
theorem qw774 : Cond.methodLink RL 131 yX6_gains ∈ gW := gW_mem (i := 774) (by decide +kernel) (by decide +kernel)
theorem qw775 : Cond.instanceMethod yX6_gains ∈ gW := gW_mem (i := 775) (by decide +kernel) (by decide +kernel)
theorem qw776 : Cond.selects RX6 yX6_gains yX6_gains ∈ gW := gW_mem (i := 776) (by decide +kernel) (by decide +kernel)
theorem qw777 : Cond.code yX6_gains cX6_gains 3 (some .int) ∈ gW := gW_mem (i := 777) (by decide +kernel) (by decide +kernel)
theorem qw778 : Cond.methodLink RX6 236 yX5_keepPointSums ∈ gW := gW_mem (i := 778) (by decide +kernel) (by decide +kernel)
theorem qw779 : Cond.instanceMethod yX5_keepPointSums ∈ gW := gW_mem (i := 779) (by decide +kernel) (by decide +kernel)
theorem qw780 : Cond.selects RX5 yX5_keepPointSums yX5_keepPointSums ∈ gW := gW_mem (i := 780) (by decide +kernel) (by decide +kernel)
theorem qw781 : Cond.code yX5_keepPointSums cX5_keepPointSums 1 none ∈ gW := gW_mem (i := 781) (by decide +kernel) (by decide +kernel)
theorem qw782 : Cond.methodLink RX5 73 arraycopyName ∈ gW := gW_mem (i := 782) (by decide +kernel) (by decide +kernel)
theorem qw783 : Cond.methodLink RX6 239 yX5_keptAbovePointSum ∈ gW := gW_mem (i := 783) (by decide +kernel) (by decide +kernel)
theorem qw784 : Cond.instanceMethod yX5_keptAbovePointSum ∈ gW := gW_mem (i := 784) (by decide +kernel) (by decide +kernel)
theorem qw785 : Cond.selects RX5 yX5_keptAbovePointSum yX5_keptAbovePointSum ∈ gW := gW_mem (i := 785) (by decide +kernel) (by decide +kernel)
theorem qw786 : Cond.code yX5_keptAbovePointSum cX5_keptAbovePointSum 2 (some .long) ∈ gW := gW_mem (i := 786) (by decide +kernel) (by decide +kernel)
theorem qw787 : Cond.methodLink RL 135 yX6_wronged ∈ gW := gW_mem (i := 787) (by decide +kernel) (by decide +kernel)
theorem qw788 : Cond.instanceMethod yX6_wronged ∈ gW := gW_mem (i := 788) (by decide +kernel) (by decide +kernel)
theorem qw789 : Cond.selects RX6 yX6_wronged yX6_wronged ∈ gW := gW_mem (i := 789) (by decide +kernel) (by decide +kernel)
theorem qw790 : Cond.code yX6_wronged cX6_wronged 7 (some .int) ∈ gW := gW_mem (i := 790) (by decide +kernel) (by decide +kernel)
theorem qw791 : Cond.constantLong RX6 243 (2) ∈ gW := gW_mem (i := 791) (by decide +kernel) (by decide +kernel)
theorem qw792 : Cond.methodLink RL 139 yX6_tries ∈ gW := gW_mem (i := 792) (by decide +kernel) (by decide +kernel)
theorem qw793 : Cond.instanceMethod yX6_tries ∈ gW := gW_mem (i := 793) (by decide +kernel) (by decide +kernel)
theorem qw794 : Cond.selects RX6 yX6_tries yX6_tries ∈ gW := gW_mem (i := 794) (by decide +kernel) (by decide +kernel)
theorem qw795 : Cond.code yX6_tries cX6_tries 6 (some .int) ∈ gW := gW_mem (i := 795) (by decide +kernel) (by decide +kernel)
theorem qw796 : Cond.methodLink RX6 245 yX1_takeBack ∈ gW := gW_mem (i := 796) (by decide +kernel) (by decide +kernel)
theorem qw797 : Cond.methodLink RL 143 yX6_seed ∈ gW := gW_mem (i := 797) (by decide +kernel) (by decide +kernel)
theorem qw798 : Cond.instanceMethod yX6_seed ∈ gW := gW_mem (i := 798) (by decide +kernel) (by decide +kernel)
theorem qw799 : Cond.selects RX6 yX6_seed yX6_seed ∈ gW := gW_mem (i := 799) (by decide +kernel) (by decide +kernel)
theorem qw800 : Cond.code yX6_seed cX6_seed 3 (some .int) ∈ gW := gW_mem (i := 800) (by decide +kernel) (by decide +kernel)
theorem qw801 : Cond.methodLink RL 147 yX6_hold ∈ gW := gW_mem (i := 801) (by decide +kernel) (by decide +kernel)
theorem qw802 : Cond.instanceMethod yX6_hold ∈ gW := gW_mem (i := 802) (by decide +kernel) (by decide +kernel)
theorem qw803 : Cond.selects RX6 yX6_hold yX6_hold ∈ gW := gW_mem (i := 803) (by decide +kernel) (by decide +kernel)
theorem qw804 : Cond.code yX6_hold cX6_hold 3 (some .int) ∈ gW := gW_mem (i := 804) (by decide +kernel) (by decide +kernel)
theorem qw805 : Cond.methodLink RX6 251 yX6_isSpot ∈ gW := gW_mem (i := 805) (by decide +kernel) (by decide +kernel)
theorem qw806 : Cond.static yX6_isSpot ∈ gW := gW_mem (i := 806) (by decide +kernel) (by decide +kernel)
theorem qw807 : Cond.code yX6_isSpot cX6_isSpot 1 (some .boolean) ∈ gW := gW_mem (i := 807) (by decide +kernel) (by decide +kernel)
theorem qw808 : Cond.methodLink RL 151 yX6_as ∈ gW := gW_mem (i := 808) (by decide +kernel) (by decide +kernel)
theorem qw809 : Cond.instanceMethod yX6_as ∈ gW := gW_mem (i := 809) (by decide +kernel) (by decide +kernel)
theorem qw810 : Cond.selects RX6 yX6_as yX6_as ∈ gW := gW_mem (i := 810) (by decide +kernel) (by decide +kernel)
theorem qw811 : Cond.code yX6_as cX6_as 4 (some .int) ∈ gW := gW_mem (i := 811) (by decide +kernel) (by decide +kernel)
theorem qw812 : Cond.methodLink RX6 257 yX6_isUnder ∈ gW := gW_mem (i := 812) (by decide +kernel) (by decide +kernel)
theorem qw813 : Cond.static yX6_isUnder ∈ gW := gW_mem (i := 813) (by decide +kernel) (by decide +kernel)
theorem qw814 : Cond.code yX6_isUnder cX6_isUnder 2 (some .boolean) ∈ gW := gW_mem (i := 814) (by decide +kernel) (by decide +kernel)
theorem qw815 : Cond.methodLink RL 155 yX6_sheet ∈ gW := gW_mem (i := 815) (by decide +kernel) (by decide +kernel)
theorem qw816 : Cond.instanceMethod yX6_sheet ∈ gW := gW_mem (i := 816) (by decide +kernel) (by decide +kernel)
theorem qw817 : Cond.selects RX6 yX6_sheet yX6_sheet ∈ gW := gW_mem (i := 817) (by decide +kernel) (by decide +kernel)
theorem qw818 : Cond.code yX6_sheet cX6_sheet 4 (some .int) ∈ gW := gW_mem (i := 818) (by decide +kernel) (by decide +kernel)
theorem qw819 : Cond.methodLink RX6 260 yX6_isSheet ∈ gW := gW_mem (i := 819) (by decide +kernel) (by decide +kernel)
theorem qw820 : Cond.static yX6_isSheet ∈ gW := gW_mem (i := 820) (by decide +kernel) (by decide +kernel)
theorem qw821 : Cond.code yX6_isSheet cX6_isSheet 1 (some .boolean) ∈ gW := gW_mem (i := 821) (by decide +kernel) (by decide +kernel)
theorem qw822 : Cond.methodLink RX6 263 yX2_renew ∈ gW := gW_mem (i := 822) (by decide +kernel) (by decide +kernel)
theorem qw823 : Cond.instanceMethod yX2_renew ∈ gW := gW_mem (i := 823) (by decide +kernel) (by decide +kernel)
theorem qw824 : Cond.selects RX2 yX2_renew yX2_renew ∈ gW := gW_mem (i := 824) (by decide +kernel) (by decide +kernel)
theorem qw825 : Cond.code yX2_renew cX2_renew 4 none ∈ gW := gW_mem (i := 825) (by decide +kernel) (by decide +kernel)
theorem qw826 : Cond.methodLink RL 159 yX6_write ∈ gW := gW_mem (i := 826) (by decide +kernel) (by decide +kernel)
theorem qw827 : Cond.instanceMethod yX6_write ∈ gW := gW_mem (i := 827) (by decide +kernel) (by decide +kernel)
theorem qw828 : Cond.selects RX6 yX6_write yX6_write ∈ gW := gW_mem (i := 828) (by decide +kernel) (by decide +kernel)
theorem qw829 : Cond.code yX6_write cX6_write 4 (some .int) ∈ gW := gW_mem (i := 829) (by decide +kernel) (by decide +kernel)
theorem qw830 : Cond.methodLink RX6 269 yX2_isMissing ∈ gW := gW_mem (i := 830) (by decide +kernel) (by decide +kernel)
theorem qw831 : Cond.instanceMethod yX2_isMissing ∈ gW := gW_mem (i := 831) (by decide +kernel) (by decide +kernel)
theorem qw832 : Cond.selects RX2 yX2_isMissing yX2_isMissing ∈ gW := gW_mem (i := 832) (by decide +kernel) (by decide +kernel)
theorem qw833 : Cond.code yX2_isMissing cX2_isMissing 1 (some .boolean) ∈ gW := gW_mem (i := 833) (by decide +kernel) (by decide +kernel)
theorem qw834 : Cond.methodLink RX6 272 yX2_put ∈ gW := gW_mem (i := 834) (by decide +kernel) (by decide +kernel)
theorem qw835 : Cond.instanceMethod yX2_put ∈ gW := gW_mem (i := 835) (by decide +kernel) (by decide +kernel)
theorem qw836 : Cond.selects RX2 yX2_put yX2_put ∈ gW := gW_mem (i := 836) (by decide +kernel) (by decide +kernel)
theorem qw837 : Cond.code yX2_put cX2_put 3 none ∈ gW := gW_mem (i := 837) (by decide +kernel) (by decide +kernel)
theorem qw838 : Cond.methodLink RL 163 yX6_copy ∈ gW := gW_mem (i := 838) (by decide +kernel) (by decide +kernel)
theorem qw839 : Cond.instanceMethod yX6_copy ∈ gW := gW_mem (i := 839) (by decide +kernel) (by decide +kernel)
theorem qw840 : Cond.selects RX6 yX6_copy yX6_copy ∈ gW := gW_mem (i := 840) (by decide +kernel) (by decide +kernel)
theorem qw841 : Cond.code yX6_copy cX6_copy 8 (some .int) ∈ gW := gW_mem (i := 841) (by decide +kernel) (by decide +kernel)
theorem qw842 : Cond.methodLink RX6 278 yX2_hasRange ∈ gW := gW_mem (i := 842) (by decide +kernel) (by decide +kernel)
theorem qw843 : Cond.instanceMethod yX2_hasRange ∈ gW := gW_mem (i := 843) (by decide +kernel) (by decide +kernel)
theorem qw844 : Cond.selects RX2 yX2_hasRange yX2_hasRange ∈ gW := gW_mem (i := 844) (by decide +kernel) (by decide +kernel)
theorem qw845 : Cond.code yX2_hasRange cX2_hasRange 3 (some .boolean) ∈ gW := gW_mem (i := 845) (by decide +kernel) (by decide +kernel)
theorem qw846 : Cond.methodLink RX6 284 arraycopyName ∈ gW := gW_mem (i := 846) (by decide +kernel) (by decide +kernel)
theorem qw847 : Cond.methodLink RL 168 yX6_load ∈ gW := gW_mem (i := 847) (by decide +kernel) (by decide +kernel)
theorem qw848 : Cond.instanceMethod yX6_load ∈ gW := gW_mem (i := 848) (by decide +kernel) (by decide +kernel)
theorem qw849 : Cond.selects RX6 yX6_load yX6_load ∈ gW := gW_mem (i := 849) (by decide +kernel) (by decide +kernel)
theorem qw850 : Cond.code yX6_load cX6_load 4 (some .int) ∈ gW := gW_mem (i := 850) (by decide +kernel) (by decide +kernel)
theorem qw851 : Cond.methodLink RX6 290 yX1_canBeWonBy ∈ gW := gW_mem (i := 851) (by decide +kernel) (by decide +kernel)
theorem qw852 : Cond.instanceMethod yX1_canBeWonBy ∈ gW := gW_mem (i := 852) (by decide +kernel) (by decide +kernel)
theorem qw853 : Cond.selects RX1 yX1_canBeWonBy yX1_canBeWonBy ∈ gW := gW_mem (i := 853) (by decide +kernel) (by decide +kernel)
theorem qw854 : Cond.code yX1_canBeWonBy cX1_canBeWonBy 2 (some .boolean) ∈ gW := gW_mem (i := 854) (by decide +kernel) (by decide +kernel)
theorem qw855 : Cond.methodLink RX1 146 yX1_allPlayed ∈ gW := gW_mem (i := 855) (by decide +kernel) (by decide +kernel)
theorem qw856 : Cond.methodLink RL 172 yX6_judge ∈ gW := gW_mem (i := 856) (by decide +kernel) (by decide +kernel)
theorem qw857 : Cond.instanceMethod yX6_judge ∈ gW := gW_mem (i := 857) (by decide +kernel) (by decide +kernel)
theorem qw858 : Cond.selects RX6 yX6_judge yX6_judge ∈ gW := gW_mem (i := 858) (by decide +kernel) (by decide +kernel)
theorem qw859 : Cond.code yX6_judge cX6_judge 5 (some .int) ∈ gW := gW_mem (i := 859) (by decide +kernel) (by decide +kernel)
theorem qw860 : Cond.methodLink RL 176 yX6_image ∈ gW := gW_mem (i := 860) (by decide +kernel) (by decide +kernel)
theorem qw861 : Cond.instanceMethod yX6_image ∈ gW := gW_mem (i := 861) (by decide +kernel) (by decide +kernel)
theorem qw862 : Cond.selects RX6 yX6_image yX6_image ∈ gW := gW_mem (i := 862) (by decide +kernel) (by decide +kernel)
theorem qw863 : Cond.code yX6_image cX6_image 1 (some .int) ∈ gW := gW_mem (i := 863) (by decide +kernel) (by decide +kernel)
theorem qw864 : Cond.methodLink RL 180 yX6_undo ∈ gW := gW_mem (i := 864) (by decide +kernel) (by decide +kernel)
theorem qw865 : Cond.instanceMethod yX6_undo ∈ gW := gW_mem (i := 865) (by decide +kernel) (by decide +kernel)
theorem qw866 : Cond.selects RX6 yX6_undo yX6_undo ∈ gW := gW_mem (i := 866) (by decide +kernel) (by decide +kernel)
theorem qw867 : Cond.code yX6_undo cX6_undo 1 (some .int) ∈ gW := gW_mem (i := 867) (by decide +kernel) (by decide +kernel)
theorem qw868 : Cond.methodLink RL 184 yX6_tear ∈ gW := gW_mem (i := 868) (by decide +kernel) (by decide +kernel)
theorem qw869 : Cond.instanceMethod yX6_tear ∈ gW := gW_mem (i := 869) (by decide +kernel) (by decide +kernel)
theorem qw870 : Cond.selects RX6 yX6_tear yX6_tear ∈ gW := gW_mem (i := 870) (by decide +kernel) (by decide +kernel)
theorem qw871 : Cond.code yX6_tear cX6_tear 2 (some .int) ∈ gW := gW_mem (i := 871) (by decide +kernel) (by decide +kernel)
theorem qw872 : Cond.methodLink RL 188 yX6_count ∈ gW := gW_mem (i := 872) (by decide +kernel) (by decide +kernel)
theorem qw873 : Cond.instanceMethod yX6_count ∈ gW := gW_mem (i := 873) (by decide +kernel) (by decide +kernel)
theorem qw874 : Cond.selects RX6 yX6_count yX6_count ∈ gW := gW_mem (i := 874) (by decide +kernel) (by decide +kernel)
theorem qw875 : Cond.code yX6_count cX6_count 2 (some .int) ∈ gW := gW_mem (i := 875) (by decide +kernel) (by decide +kernel)
theorem qw876 : Cond.methodLink RX6 293 yX1_spotsInUse ∈ gW := gW_mem (i := 876) (by decide +kernel) (by decide +kernel)
theorem qw877 : Cond.instanceMethod yX1_spotsInUse ∈ gW := gW_mem (i := 877) (by decide +kernel) (by decide +kernel)
theorem qw878 : Cond.selects RX1 yX1_spotsInUse yX1_spotsInUse ∈ gW := gW_mem (i := 878) (by decide +kernel) (by decide +kernel)
theorem qw879 : Cond.code yX1_spotsInUse cX1_spotsInUse 3 (some .int) ∈ gW := gW_mem (i := 879) (by decide +kernel) (by decide +kernel)
theorem qw880 : Cond.methodLink RL 192 yX6_status ∈ gW := gW_mem (i := 880) (by decide +kernel) (by decide +kernel)
theorem qw881 : Cond.instanceMethod yX6_status ∈ gW := gW_mem (i := 881) (by decide +kernel) (by decide +kernel)
theorem qw882 : Cond.selects RX6 yX6_status yX6_status ∈ gW := gW_mem (i := 882) (by decide +kernel) (by decide +kernel)
theorem qw883 : Cond.code yX6_status cX6_status 4 (some .int) ∈ gW := gW_mem (i := 883) (by decide +kernel) (by decide +kernel)
theorem qw884 : Cond.classLink RL 10 RX7 ∈ gW := gW_mem (i := 884) (by decide +kernel) (by decide +kernel)
theorem qw885 : Cond.instantiable RX7 30 ∈ gW := gW_mem (i := 885) (by decide +kernel) (by decide +kernel)
theorem qw886 : Cond.methodLink RL 12 yX7_init ∈ gW := gW_mem (i := 886) (by decide +kernel) (by decide +kernel)
theorem qw887 : Cond.instanceMethod yX7_init ∈ gW := gW_mem (i := 887) (by decide +kernel) (by decide +kernel)
theorem qw888 : Cond.code yX7_init cX7_init 2 none ∈ gW := gW_mem (i := 888) (by decide +kernel) (by decide +kernel)
theorem qw889 : Cond.methodLink RX7 1 objectInit ∈ gW := gW_mem (i := 889) (by decide +kernel) (by decide +kernel)
theorem qw890 : Cond.fieldLink RX7 7 "TwiceRunningModel" "s" "[I" ∈ gW := gW_mem (i := 890) (by decide +kernel) (by decide +kernel)
theorem qw891 : Cond.fieldLink RX7 13 "TwiceRunningModel" "kept" "[I" ∈ gW := gW_mem (i := 891) (by decide +kernel) (by decide +kernel)
theorem qw892 : Cond.fieldLink RX7 16 "TwiceRunningModel" "put" "[I" ∈ gW := gW_mem (i := 892) (by decide +kernel) (by decide +kernel)
theorem qw893 : Cond.fieldLink RX7 293 "TwiceRunningModel" "isKept" "Z" ∈ gW := gW_mem (i := 893) (by decide +kernel) (by decide +kernel)
theorem qw894 : Cond.fieldLink RX7 19 "TwiceRunningModel" "findings" "[I" ∈ gW := gW_mem (i := 894) (by decide +kernel) (by decide +kernel)
theorem qw895 : Cond.fieldLink RX7 22 "TwiceRunningModel" "toldGame" "I" ∈ gW := gW_mem (i := 895) (by decide +kernel) (by decide +kernel)
theorem qw896 : Cond.fieldLink RX7 79 "TwiceRunningModel" "toldSide" "I" ∈ gW := gW_mem (i := 896) (by decide +kernel) (by decide +kernel)
theorem qw897 : Cond.fieldLink RX7 82 "TwiceRunningModel" "toldEffort" "I" ∈ gW := gW_mem (i := 897) (by decide +kernel) (by decide +kernel)
theorem qw898 : Cond.fieldLink RX7 26 "TwiceRunningModel" "tape" "[I" ∈ gW := gW_mem (i := 898) (by decide +kernel) (by decide +kernel)
theorem qw899 : Cond.fieldLink RX7 138 "TwiceRunningModel" "taped" "I" ∈ gW := gW_mem (i := 899) (by decide +kernel) (by decide +kernel)
theorem qw900 : Cond.fieldLink RX7 141 "TwiceRunningModel" "at" "I" ∈ gW := gW_mem (i := 900) (by decide +kernel) (by decide +kernel)
theorem qw901 : Cond.fieldLink RX7 150 "TwiceRunningModel" "token" "I" ∈ gW := gW_mem (i := 901) (by decide +kernel) (by decide +kernel)
theorem qw902 : Cond.fieldLink RX7 147 "TwiceRunningModel" "tokenAt" "I" ∈ gW := gW_mem (i := 902) (by decide +kernel) (by decide +kernel)
theorem qw903 : Cond.fieldLink RX7 153 "TwiceRunningModel" "value" "I" ∈ gW := gW_mem (i := 903) (by decide +kernel) (by decide +kernel)
theorem qw904 : Cond.fieldLink RX7 176 "TwiceRunningModel" "taken" "I" ∈ gW := gW_mem (i := 904) (by decide +kernel) (by decide +kernel)
theorem qw905 : Cond.fieldLink RX7 214 "TwiceRunningModel" "items" "I" ∈ gW := gW_mem (i := 905) (by decide +kernel) (by decide +kernel)
theorem qw906 : Cond.fieldLink RX7 29 "TwiceRunningModel" "given" "[J" ∈ gW := gW_mem (i := 906) (by decide +kernel) (by decide +kernel)
theorem qw907 : Cond.fieldLink RX7 33 "TwiceRunningModel" "moves" "[J" ∈ gW := gW_mem (i := 907) (by decide +kernel) (by decide +kernel)
theorem qw908 : Cond.fieldLink RX7 36 "TwiceRunningModel" "firsts" "[J" ∈ gW := gW_mem (i := 908) (by decide +kernel) (by decide +kernel)
theorem qw909 : Cond.fieldLink RX7 39 "TwiceRunningModel" "means" "[J" ∈ gW := gW_mem (i := 909) (by decide +kernel) (by decide +kernel)
theorem qw910 : Cond.fieldLink RX7 42 "TwiceRunningModel" "mosts" "[I" ∈ gW := gW_mem (i := 910) (by decide +kernel) (by decide +kernel)
theorem qw911 : Cond.fieldLink RX7 251 "TwiceRunningModel" "asked" "I" ∈ gW := gW_mem (i := 911) (by decide +kernel) (by decide +kernel)
theorem qw912 : Cond.fieldLink RX7 45 "TwiceRunningModel" "leasts" "[J" ∈ gW := gW_mem (i := 912) (by decide +kernel) (by decide +kernel)
theorem qw913 : Cond.fieldLink RX7 248 "TwiceRunningModel" "wayCount" "I" ∈ gW := gW_mem (i := 913) (by decide +kernel) (by decide +kernel)
theorem qw914 : Cond.fieldLink RX7 48 "TwiceRunningModel" "row" "[I" ∈ gW := gW_mem (i := 914) (by decide +kernel) (by decide +kernel)
theorem qw915 : Cond.fieldLink RX7 51 "TwiceRunningModel" "meansBy" "[J" ∈ gW := gW_mem (i := 915) (by decide +kernel) (by decide +kernel)
theorem qw916 : Cond.fieldLink RX7 54 "TwiceRunningModel" "bits" "[I" ∈ gW := gW_mem (i := 916) (by decide +kernel) (by decide +kernel)
theorem qw917 : Cond.fieldLink RX7 57 "TwiceRunningModel" "sizes" "[I" ∈ gW := gW_mem (i := 917) (by decide +kernel) (by decide +kernel)
theorem qw918 : Cond.fieldLink RX7 60 "TwiceRunningModel" "number" "[I" ∈ gW := gW_mem (i := 918) (by decide +kernel) (by decide +kernel)
theorem qw919 : Cond.fieldLink RX7 63 "TwiceRunningModel" "carried" "[I" ∈ gW := gW_mem (i := 919) (by decide +kernel) (by decide +kernel)
theorem qw981 : Cond.methodLink RL 17 yX7_side ∈ gW := gW_mem (i := 981) (by decide +kernel) (by decide +kernel)
theorem qw982 : Cond.instanceMethod yX7_side ∈ gW := gW_mem (i := 982) (by decide +kernel) (by decide +kernel)
theorem qw983 : Cond.selects RX7 yX7_side yX7_side ∈ gW := gW_mem (i := 983) (by decide +kernel) (by decide +kernel)
theorem qw984 : Cond.code yX7_side cX7_side 3 (some .int) ∈ gW := gW_mem (i := 984) (by decide +kernel) (by decide +kernel)
theorem qw985 : Cond.methodLink RX7 67 yX7_in ∈ gW := gW_mem (i := 985) (by decide +kernel) (by decide +kernel)
theorem qw986 : Cond.static yX7_in ∈ gW := gW_mem (i := 986) (by decide +kernel) (by decide +kernel)
theorem qw987 : Cond.code yX7_in cX7_in 3 (some .boolean) ∈ gW := gW_mem (i := 987) (by decide +kernel) (by decide +kernel)
theorem qw988 : Cond.methodLink RX7 115 yX7_finding ∈ gW := gW_mem (i := 988) (by decide +kernel) (by decide +kernel)
theorem qw990 : Cond.instanceMethod yX7_finding ∈ gW := gW_mem (i := 990) (by decide +kernel) (by decide +kernel)
theorem qw991 : Cond.code yX7_finding cX7_finding 2 (some .int) ∈ gW := gW_mem (i := 991) (by decide +kernel) (by decide +kernel)
theorem qw992 : Cond.constant RX7 66 (-1000001) ∈ gW := gW_mem (i := 992) (by decide +kernel) (by decide +kernel)
theorem qw993 : Cond.methodLink RX7 118 yX7_addSide ∈ gW := gW_mem (i := 993) (by decide +kernel) (by decide +kernel)
theorem qw995 : Cond.instanceMethod yX7_addSide ∈ gW := gW_mem (i := 995) (by decide +kernel) (by decide +kernel)
theorem qw996 : Cond.code yX7_addSide cX7_addSide 5 none ∈ gW := gW_mem (i := 996) (by decide +kernel) (by decide +kernel)
theorem qw997 : Cond.methodLink RL 21 yX7_sideOf ∈ gW := gW_mem (i := 997) (by decide +kernel) (by decide +kernel)
theorem qw998 : Cond.instanceMethod yX7_sideOf ∈ gW := gW_mem (i := 998) (by decide +kernel) (by decide +kernel)
theorem qw999 : Cond.selects RX7 yX7_sideOf yX7_sideOf ∈ gW := gW_mem (i := 999) (by decide +kernel) (by decide +kernel)
theorem qw1000 : Cond.code yX7_sideOf cX7_sideOf 3 (some .int) ∈ gW := gW_mem (i := 1000) (by decide +kernel) (by decide +kernel)
theorem qw1001 : Cond.methodLink RX7 121 yX7_isSide ∈ gW := gW_mem (i := 1001) (by decide +kernel) (by decide +kernel)
theorem qw1003 : Cond.instanceMethod yX7_isSide ∈ gW := gW_mem (i := 1003) (by decide +kernel) (by decide +kernel)
theorem qw1004 : Cond.code yX7_isSide cX7_isSide 2 (some .boolean) ∈ gW := gW_mem (i := 1004) (by decide +kernel) (by decide +kernel)
theorem qw1005 : Cond.methodLink RX7 101 yX7_points ∈ gW := gW_mem (i := 1005) (by decide +kernel) (by decide +kernel)
theorem qw1007 : Cond.instanceMethod yX7_points ∈ gW := gW_mem (i := 1007) (by decide +kernel) (by decide +kernel)
theorem qw1008 : Cond.code yX7_points cX7_points 4 (some .int) ∈ gW := gW_mem (i := 1008) (by decide +kernel) (by decide +kernel)
theorem qw1009 : Cond.methodLink RX7 71 yX7_of ∈ gW := gW_mem (i := 1009) (by decide +kernel) (by decide +kernel)
theorem qw1011 : Cond.instanceMethod yX7_of ∈ gW := gW_mem (i := 1011) (by decide +kernel) (by decide +kernel)
theorem qw1012 : Cond.code yX7_of cX7_of 3 (some .int) ∈ gW := gW_mem (i := 1012) (by decide +kernel) (by decide +kernel)
theorem qw1013 : Cond.methodLink RX7 85 yX7_isBarred ∈ gW := gW_mem (i := 1013) (by decide +kernel) (by decide +kernel)
theorem qw1015 : Cond.instanceMethod yX7_isBarred ∈ gW := gW_mem (i := 1015) (by decide +kernel) (by decide +kernel)
theorem qw1016 : Cond.code yX7_isBarred cX7_isBarred 4 (some .boolean) ∈ gW := gW_mem (i := 1016) (by decide +kernel) (by decide +kernel)
theorem qw1017 : Cond.methodLink RX7 75 yX7_plays ∈ gW := gW_mem (i := 1017) (by decide +kernel) (by decide +kernel)
theorem qw1019 : Cond.instanceMethod yX7_plays ∈ gW := gW_mem (i := 1019) (by decide +kernel) (by decide +kernel)
theorem qw1020 : Cond.code yX7_plays cX7_plays 3 (some .boolean) ∈ gW := gW_mem (i := 1020) (by decide +kernel) (by decide +kernel)
theorem qw1021 : Cond.methodLink RX7 95 yX7_isTired ∈ gW := gW_mem (i := 1021) (by decide +kernel) (by decide +kernel)
theorem qw1023 : Cond.instanceMethod yX7_isTired ∈ gW := gW_mem (i := 1023) (by decide +kernel) (by decide +kernel)
theorem qw1024 : Cond.code yX7_isTired cX7_isTired 3 (some .boolean) ∈ gW := gW_mem (i := 1024) (by decide +kernel) (by decide +kernel)
theorem qw1025 : Cond.methodLink RX7 124 yX7_games ∈ gW := gW_mem (i := 1025) (by decide +kernel) (by decide +kernel)
theorem qw1027 : Cond.instanceMethod yX7_games ∈ gW := gW_mem (i := 1027) (by decide +kernel) (by decide +kernel)
theorem qw1028 : Cond.code yX7_games cX7_games 5 (some .int) ∈ gW := gW_mem (i := 1028) (by decide +kernel) (by decide +kernel)
theorem qw1029 : Cond.methodLink RX7 89 yX7_its ∈ gW := gW_mem (i := 1029) (by decide +kernel) (by decide +kernel)
theorem qw1031 : Cond.instanceMethod yX7_its ∈ gW := gW_mem (i := 1031) (by decide +kernel) (by decide +kernel)
theorem qw1032 : Cond.code yX7_its cX7_its 3 (some .int) ∈ gW := gW_mem (i := 1032) (by decide +kernel) (by decide +kernel)
theorem qw1033 : Cond.methodLink RL 26 yX7_change ∈ gW := gW_mem (i := 1033) (by decide +kernel) (by decide +kernel)
theorem qw1034 : Cond.instanceMethod yX7_change ∈ gW := gW_mem (i := 1034) (by decide +kernel) (by decide +kernel)
theorem qw1035 : Cond.selects RX7 yX7_change yX7_change ∈ gW := gW_mem (i := 1035) (by decide +kernel) (by decide +kernel)
theorem qw1036 : Cond.code yX7_change cX7_change 5 (some .int) ∈ gW := gW_mem (i := 1036) (by decide +kernel) (by decide +kernel)
theorem qw1037 : Cond.methodLink RL 30 yX7_game ∈ gW := gW_mem (i := 1037) (by decide +kernel) (by decide +kernel)
theorem qw1038 : Cond.instanceMethod yX7_game ∈ gW := gW_mem (i := 1038) (by decide +kernel) (by decide +kernel)
theorem qw1039 : Cond.selects RX7 yX7_game yX7_game ∈ gW := gW_mem (i := 1039) (by decide +kernel) (by decide +kernel)
theorem qw1040 : Cond.code yX7_game cX7_game 4 (some .int) ∈ gW := gW_mem (i := 1040) (by decide +kernel) (by decide +kernel)
theorem qw1041 : Cond.methodLink RX7 128 yX7_addGame ∈ gW := gW_mem (i := 1041) (by decide +kernel) (by decide +kernel)
theorem qw1043 : Cond.instanceMethod yX7_addGame ∈ gW := gW_mem (i := 1043) (by decide +kernel) (by decide +kernel)
theorem qw1044 : Cond.code yX7_addGame cX7_addGame 5 none ∈ gW := gW_mem (i := 1044) (by decide +kernel) (by decide +kernel)
theorem qw1045 : Cond.methodLink RL 34 yX7_gameOf ∈ gW := gW_mem (i := 1045) (by decide +kernel) (by decide +kernel)
theorem qw1046 : Cond.instanceMethod yX7_gameOf ∈ gW := gW_mem (i := 1046) (by decide +kernel) (by decide +kernel)
theorem qw1047 : Cond.selects RX7 yX7_gameOf yX7_gameOf ∈ gW := gW_mem (i := 1047) (by decide +kernel) (by decide +kernel)
theorem qw1048 : Cond.code yX7_gameOf cX7_gameOf 3 (some .int) ∈ gW := gW_mem (i := 1048) (by decide +kernel) (by decide +kernel)
theorem qw1049 : Cond.methodLink RX7 131 yX7_isGame ∈ gW := gW_mem (i := 1049) (by decide +kernel) (by decide +kernel)
theorem qw1051 : Cond.instanceMethod yX7_isGame ∈ gW := gW_mem (i := 1051) (by decide +kernel) (by decide +kernel)
theorem qw1052 : Cond.code yX7_isGame cX7_isGame 2 (some .boolean) ∈ gW := gW_mem (i := 1052) (by decide +kernel) (by decide +kernel)
theorem qw1053 : Cond.methodLink RL 38 yX7_swap ∈ gW := gW_mem (i := 1053) (by decide +kernel) (by decide +kernel)
theorem qw1054 : Cond.instanceMethod yX7_swap ∈ gW := gW_mem (i := 1054) (by decide +kernel) (by decide +kernel)
theorem qw1055 : Cond.selects RX7 yX7_swap yX7_swap ∈ gW := gW_mem (i := 1055) (by decide +kernel) (by decide +kernel)
theorem qw1056 : Cond.code yX7_swap cX7_swap 3 (some .int) ∈ gW := gW_mem (i := 1056) (by decide +kernel) (by decide +kernel)
theorem qw1057 : Cond.methodLink RX7 134 yX7_swaps ∈ gW := gW_mem (i := 1057) (by decide +kernel) (by decide +kernel)
theorem qw1059 : Cond.instanceMethod yX7_swaps ∈ gW := gW_mem (i := 1059) (by decide +kernel) (by decide +kernel)
theorem qw1060 : Cond.code yX7_swaps cX7_swaps 5 none ∈ gW := gW_mem (i := 1060) (by decide +kernel) (by decide +kernel)
theorem qw1061 : Cond.methodLink RL 43 yX7_law ∈ gW := gW_mem (i := 1061) (by decide +kernel) (by decide +kernel)
theorem qw1062 : Cond.instanceMethod yX7_law ∈ gW := gW_mem (i := 1062) (by decide +kernel) (by decide +kernel)
theorem qw1063 : Cond.selects RX7 yX7_law yX7_law ∈ gW := gW_mem (i := 1063) (by decide +kernel) (by decide +kernel)
theorem qw1064 : Cond.code yX7_law cX7_law 3 (some .int) ∈ gW := gW_mem (i := 1064) (by decide +kernel) (by decide +kernel)
theorem qw1065 : Cond.methodLink RL 47 yX7_feed ∈ gW := gW_mem (i := 1065) (by decide +kernel) (by decide +kernel)
theorem qw1066 : Cond.instanceMethod yX7_feed ∈ gW := gW_mem (i := 1066) (by decide +kernel) (by decide +kernel)
theorem qw1067 : Cond.selects RX7 yX7_feed yX7_feed ∈ gW := gW_mem (i := 1067) (by decide +kernel) (by decide +kernel)
theorem qw1068 : Cond.code yX7_feed cX7_feed 4 (some .int) ∈ gW := gW_mem (i := 1068) (by decide +kernel) (by decide +kernel)
theorem qw1069 : Cond.methodLink RL 52 yX7_wipe ∈ gW := gW_mem (i := 1069) (by decide +kernel) (by decide +kernel)
theorem qw1070 : Cond.instanceMethod yX7_wipe ∈ gW := gW_mem (i := 1070) (by decide +kernel) (by decide +kernel)
theorem qw1071 : Cond.selects RX7 yX7_wipe yX7_wipe ∈ gW := gW_mem (i := 1071) (by decide +kernel) (by decide +kernel)
theorem qw1072 : Cond.code yX7_wipe cX7_wipe 2 (some .int) ∈ gW := gW_mem (i := 1072) (by decide +kernel) (by decide +kernel)
theorem qw1073 : Cond.methodLink RL 56 yX7_text ∈ gW := gW_mem (i := 1073) (by decide +kernel) (by decide +kernel)
theorem qw1074 : Cond.instanceMethod yX7_text ∈ gW := gW_mem (i := 1074) (by decide +kernel) (by decide +kernel)
theorem qw1075 : Cond.selects RX7 yX7_text yX7_text ∈ gW := gW_mem (i := 1075) (by decide +kernel) (by decide +kernel)
theorem qw1076 : Cond.code yX7_text cX7_text 2 (some .int) ∈ gW := gW_mem (i := 1076) (by decide +kernel) (by decide +kernel)
theorem qw1077 : Cond.methodLink RX7 220 yX7_carry ∈ gW := gW_mem (i := 1077) (by decide +kernel) (by decide +kernel)
theorem qw1078 : Cond.static yX7_carry ∈ gW := gW_mem (i := 1078) (by decide +kernel) (by decide +kernel)
theorem qw1079 : Cond.code yX7_carry cX7_carry 3 none ∈ gW := gW_mem (i := 1079) (by decide +kernel) (by decide +kernel)
theorem qw1080 : Cond.methodLink RX7 224 yX7_takesAll ∈ gW := gW_mem (i := 1080) (by decide +kernel) (by decide +kernel)
theorem qw1082 : Cond.instanceMethod yX7_takesAll ∈ gW := gW_mem (i := 1082) (by decide +kernel) (by decide +kernel)
theorem qw1083 : Cond.code yX7_takesAll cX7_takesAll 2 (some .boolean) ∈ gW := gW_mem (i := 1083) (by decide +kernel) (by decide +kernel)
theorem qw1084 : Cond.methodLink RX7 170 yX7_nextToken ∈ gW := gW_mem (i := 1084) (by decide +kernel) (by decide +kernel)
theorem qw1086 : Cond.instanceMethod yX7_nextToken ∈ gW := gW_mem (i := 1086) (by decide +kernel) (by decide +kernel)
theorem qw1087 : Cond.code yX7_nextToken cX7_nextToken 2 none ∈ gW := gW_mem (i := 1087) (by decide +kernel) (by decide +kernel)
theorem qw1088 : Cond.methodLink RX7 144 yX7_byteAt ∈ gW := gW_mem (i := 1088) (by decide +kernel) (by decide +kernel)
theorem qw1090 : Cond.instanceMethod yX7_byteAt ∈ gW := gW_mem (i := 1090) (by decide +kernel) (by decide +kernel)
theorem qw1091 : Cond.code yX7_byteAt cX7_byteAt 2 (some .int) ∈ gW := gW_mem (i := 1091) (by decide +kernel) (by decide +kernel)
theorem qw1092 : Cond.methodLink RX7 217 yX7_takesItem ∈ gW := gW_mem (i := 1092) (by decide +kernel) (by decide +kernel)
theorem qw1094 : Cond.instanceMethod yX7_takesItem ∈ gW := gW_mem (i := 1094) (by decide +kernel) (by decide +kernel)
theorem qw1095 : Cond.code yX7_takesItem cX7_takesItem 2 (some .boolean) ∈ gW := gW_mem (i := 1095) (by decide +kernel) (by decide +kernel)
theorem qw1097 : Cond.methodLink RX7 184 yX7_takes ∈ gW := gW_mem (i := 1097) (by decide +kernel) (by decide +kernel)
theorem qw1099 : Cond.instanceMethod yX7_takes ∈ gW := gW_mem (i := 1099) (by decide +kernel) (by decide +kernel)
theorem qw1100 : Cond.code yX7_takes cX7_takes 2 (some .boolean) ∈ gW := gW_mem (i := 1100) (by decide +kernel) (by decide +kernel)
theorem qw1101 : Cond.methodLink RX7 166 yX7_isWord ∈ gW := gW_mem (i := 1101) (by decide +kernel) (by decide +kernel)
theorem qw1103 : Cond.instanceMethod yX7_isWord ∈ gW := gW_mem (i := 1103) (by decide +kernel) (by decide +kernel)
theorem qw1104 : Cond.code yX7_isWord cX7_isWord 4 (some .boolean) ∈ gW := gW_mem (i := 1104) (by decide +kernel) (by decide +kernel)
theorem qw1105 : Cond.methodLink RX7 156 yJ0_length_8abf5 ∈ gW := gW_mem (i := 1105) (by decide +kernel) (by decide +kernel)
theorem qw1106 : Cond.methodLink RX7 162 yJ0_charAt_5068e ∈ gW := gW_mem (i := 1106) (by decide +kernel) (by decide +kernel)
theorem qw1107 : Cond.methodLink RX7 179 yX7_takesNumber ∈ gW := gW_mem (i := 1107) (by decide +kernel) (by decide +kernel)
theorem qw1109 : Cond.instanceMethod yX7_takesNumber ∈ gW := gW_mem (i := 1109) (by decide +kernel) (by decide +kernel)
theorem qw1110 : Cond.code yX7_takesNumber cX7_takesNumber 3 (some .boolean) ∈ gW := gW_mem (i := 1110) (by decide +kernel) (by decide +kernel)
theorem qw1111 : Cond.methodLink RX7 173 yX7_isNumber ∈ gW := gW_mem (i := 1111) (by decide +kernel) (by decide +kernel)
theorem qw1113 : Cond.instanceMethod yX7_isNumber ∈ gW := gW_mem (i := 1113) (by decide +kernel) (by decide +kernel)
theorem qw1114 : Cond.code yX7_isNumber cX7_isNumber 3 (some .boolean) ∈ gW := gW_mem (i := 1114) (by decide +kernel) (by decide +kernel)
theorem qw1116 : Cond.methodLink RX7 193 yX7_takesGame ∈ gW := gW_mem (i := 1116) (by decide +kernel) (by decide +kernel)
theorem qw1118 : Cond.instanceMethod yX7_takesGame ∈ gW := gW_mem (i := 1118) (by decide +kernel) (by decide +kernel)
theorem qw1119 : Cond.code yX7_takesGame cX7_takesGame 4 (some .boolean) ∈ gW := gW_mem (i := 1119) (by decide +kernel) (by decide +kernel)
theorem qw1128 : Cond.methodLink RX7 211 yX7_takesSide ∈ gW := gW_mem (i := 1128) (by decide +kernel) (by decide +kernel)
theorem qw1130 : Cond.instanceMethod yX7_takesSide ∈ gW := gW_mem (i := 1130) (by decide +kernel) (by decide +kernel)
theorem qw1131 : Cond.code yX7_takesSide cX7_takesSide 4 (some .boolean) ∈ gW := gW_mem (i := 1131) (by decide +kernel) (by decide +kernel)
theorem qw1133 : Cond.methodLink RL 60 yX7_next ∈ gW := gW_mem (i := 1133) (by decide +kernel) (by decide +kernel)
theorem qw1134 : Cond.instanceMethod yX7_next ∈ gW := gW_mem (i := 1134) (by decide +kernel) (by decide +kernel)
theorem qw1135 : Cond.selects RX7 yX7_next yX7_next ∈ gW := gW_mem (i := 1135) (by decide +kernel) (by decide +kernel)
theorem qw1136 : Cond.code yX7_next cX7_next 5 (some .int) ∈ gW := gW_mem (i := 1136) (by decide +kernel) (by decide +kernel)
theorem qw1137 : Cond.methodLink RX7 227 yX7_isOver ∈ gW := gW_mem (i := 1137) (by decide +kernel) (by decide +kernel)
theorem qw1139 : Cond.instanceMethod yX7_isOver ∈ gW := gW_mem (i := 1139) (by decide +kernel) (by decide +kernel)
theorem qw1140 : Cond.code yX7_isOver cX7_isOver 1 (some .boolean) ∈ gW := gW_mem (i := 1140) (by decide +kernel) (by decide +kernel)
theorem qw1141 : Cond.methodLink RX7 108 yX7_effort ∈ gW := gW_mem (i := 1141) (by decide +kernel) (by decide +kernel)
theorem qw1143 : Cond.instanceMethod yX7_effort ∈ gW := gW_mem (i := 1143) (by decide +kernel) (by decide +kernel)
theorem qw1144 : Cond.code yX7_effort cX7_effort 6 (some .int) ∈ gW := gW_mem (i := 1144) (by decide +kernel) (by decide +kernel)
theorem qw1145 : Cond.methodLink RX7 92 yX7_hasGreater ∈ gW := gW_mem (i := 1145) (by decide +kernel) (by decide +kernel)
theorem qw1147 : Cond.instanceMethod yX7_hasGreater ∈ gW := gW_mem (i := 1147) (by decide +kernel) (by decide +kernel)
theorem qw1148 : Cond.code yX7_hasGreater cX7_hasGreater 4 (some .boolean) ∈ gW := gW_mem (i := 1148) (by decide +kernel) (by decide +kernel)
theorem qw1149 : Cond.methodLink RX7 230 yX7_chance ∈ gW := gW_mem (i := 1149) (by decide +kernel) (by decide +kernel)
theorem qw1151 : Cond.instanceMethod yX7_chance ∈ gW := gW_mem (i := 1151) (by decide +kernel) (by decide +kernel)
theorem qw1152 : Cond.code yX7_chance cX7_chance 6 (some .int) ∈ gW := gW_mem (i := 1152) (by decide +kernel) (by decide +kernel)
theorem qw1153 : Cond.methodLink RX7 98 yX7_force ∈ gW := gW_mem (i := 1153) (by decide +kernel) (by decide +kernel)
theorem qw1155 : Cond.instanceMethod yX7_force ∈ gW := gW_mem (i := 1155) (by decide +kernel) (by decide +kernel)
theorem qw1156 : Cond.code yX7_force cX7_force 4 (some .int) ∈ gW := gW_mem (i := 1156) (by decide +kernel) (by decide +kernel)
theorem qw1157 : Cond.methodLink RL 64 yX7_win ∈ gW := gW_mem (i := 1157) (by decide +kernel) (by decide +kernel)
theorem qw1158 : Cond.instanceMethod yX7_win ∈ gW := gW_mem (i := 1158) (by decide +kernel) (by decide +kernel)
theorem qw1159 : Cond.selects RX7 yX7_win yX7_win ∈ gW := gW_mem (i := 1159) (by decide +kernel) (by decide +kernel)
theorem qw1160 : Cond.code yX7_win cX7_win 2 (some .int) ∈ gW := gW_mem (i := 1160) (by decide +kernel) (by decide +kernel)
theorem qw1161 : Cond.methodLink RX7 234 yX7_winsNow ∈ gW := gW_mem (i := 1161) (by decide +kernel) (by decide +kernel)
theorem qw1163 : Cond.instanceMethod yX7_winsNow ∈ gW := gW_mem (i := 1163) (by decide +kernel) (by decide +kernel)
theorem qw1164 : Cond.code yX7_winsNow cX7_winsNow 3 none ∈ gW := gW_mem (i := 1164) (by decide +kernel) (by decide +kernel)
theorem qw1165 : Cond.methodLink RX7 111 yX7_wins ∈ gW := gW_mem (i := 1165) (by decide +kernel) (by decide +kernel)
theorem qw1167 : Cond.instanceMethod yX7_wins ∈ gW := gW_mem (i := 1167) (by decide +kernel) (by decide +kernel)
theorem qw1168 : Cond.code yX7_wins cX7_wins 6 none ∈ gW := gW_mem (i := 1168) (by decide +kernel) (by decide +kernel)
theorem qw1169 : Cond.methodLink RX7 105 yX7_givenTo ∈ gW := gW_mem (i := 1169) (by decide +kernel) (by decide +kernel)
theorem qw1171 : Cond.instanceMethod yX7_givenTo ∈ gW := gW_mem (i := 1171) (by decide +kernel) (by decide +kernel)
theorem qw1172 : Cond.code yX7_givenTo cX7_givenTo 5 (some .int) ∈ gW := gW_mem (i := 1172) (by decide +kernel) (by decide +kernel)
theorem qw1173 : Cond.methodLink RL 68 yX7_play ∈ gW := gW_mem (i := 1173) (by decide +kernel) (by decide +kernel)
theorem qw1174 : Cond.instanceMethod yX7_play ∈ gW := gW_mem (i := 1174) (by decide +kernel) (by decide +kernel)
theorem qw1175 : Cond.selects RX7 yX7_play yX7_play ∈ gW := gW_mem (i := 1175) (by decide +kernel) (by decide +kernel)
theorem qw1176 : Cond.code yX7_play cX7_play 1 (some .int) ∈ gW := gW_mem (i := 1176) (by decide +kernel) (by decide +kernel)
theorem qw1177 : Cond.methodLink RX7 242 yX7_drawsNext ∈ gW := gW_mem (i := 1177) (by decide +kernel) (by decide +kernel)
theorem qw1179 : Cond.instanceMethod yX7_drawsNext ∈ gW := gW_mem (i := 1179) (by decide +kernel) (by decide +kernel)
theorem qw1180 : Cond.code yX7_drawsNext cX7_drawsNext 4 none ∈ gW := gW_mem (i := 1180) (by decide +kernel) (by decide +kernel)
theorem qw1181 : Cond.methodLink RX7 239 yX7_draw ∈ gW := gW_mem (i := 1181) (by decide +kernel) (by decide +kernel)
theorem qw1183 : Cond.instanceMethod yX7_draw ∈ gW := gW_mem (i := 1183) (by decide +kernel) (by decide +kernel)
theorem qw1184 : Cond.code yX7_draw cX7_draw 1 (some .int) ∈ gW := gW_mem (i := 1184) (by decide +kernel) (by decide +kernel)
theorem qw1185 : Cond.constant RX7 238 (1103515245) ∈ gW := gW_mem (i := 1185) (by decide +kernel) (by decide +kernel)
theorem qw1186 : Cond.methodLink RL 72 yX7_anew ∈ gW := gW_mem (i := 1186) (by decide +kernel) (by decide +kernel)
theorem qw1187 : Cond.instanceMethod yX7_anew ∈ gW := gW_mem (i := 1187) (by decide +kernel) (by decide +kernel)
theorem qw1188 : Cond.selects RX7 yX7_anew yX7_anew ∈ gW := gW_mem (i := 1188) (by decide +kernel) (by decide +kernel)
theorem qw1189 : Cond.code yX7_anew cX7_anew 2 (some .int) ∈ gW := gW_mem (i := 1189) (by decide +kernel) (by decide +kernel)
theorem qw1190 : Cond.methodLink RL 76 yX7_leads ∈ gW := gW_mem (i := 1190) (by decide +kernel) (by decide +kernel)
theorem qw1191 : Cond.instanceMethod yX7_leads ∈ gW := gW_mem (i := 1191) (by decide +kernel) (by decide +kernel)
theorem qw1192 : Cond.selects RX7 yX7_leads yX7_leads ∈ gW := gW_mem (i := 1192) (by decide +kernel) (by decide +kernel)
theorem qw1193 : Cond.code yX7_leads cX7_leads 1 (some .int) ∈ gW := gW_mem (i := 1193) (by decide +kernel) (by decide +kernel)
theorem qw1194 : Cond.methodLink RX7 245 yX7_leader ∈ gW := gW_mem (i := 1194) (by decide +kernel) (by decide +kernel)
theorem qw1196 : Cond.instanceMethod yX7_leader ∈ gW := gW_mem (i := 1196) (by decide +kernel) (by decide +kernel)
theorem qw1197 : Cond.code yX7_leader cX7_leader 3 (some .int) ∈ gW := gW_mem (i := 1197) (by decide +kernel) (by decide +kernel)
theorem qw1198 : Cond.methodLink RL 80 yX7_place ∈ gW := gW_mem (i := 1198) (by decide +kernel) (by decide +kernel)
theorem qw1199 : Cond.instanceMethod yX7_place ∈ gW := gW_mem (i := 1199) (by decide +kernel) (by decide +kernel)
theorem qw1200 : Cond.selects RX7 yX7_place yX7_place ∈ gW := gW_mem (i := 1200) (by decide +kernel) (by decide +kernel)
theorem qw1201 : Cond.code yX7_place cX7_place 4 (some .int) ∈ gW := gW_mem (i := 1201) (by decide +kernel) (by decide +kernel)
theorem qw1202 : Cond.methodLink RL 85 yX7_gets ∈ gW := gW_mem (i := 1202) (by decide +kernel) (by decide +kernel)
theorem qw1203 : Cond.instanceMethod yX7_gets ∈ gW := gW_mem (i := 1203) (by decide +kernel) (by decide +kernel)
theorem qw1204 : Cond.selects RX7 yX7_gets yX7_gets ∈ gW := gW_mem (i := 1204) (by decide +kernel) (by decide +kernel)
theorem qw1205 : Cond.code yX7_gets cX7_gets 6 (some .long) ∈ gW := gW_mem (i := 1205) (by decide +kernel) (by decide +kernel)
theorem qw1206 : Cond.methodLink RX7 263 yX7_isPart ∈ gW := gW_mem (i := 1206) (by decide +kernel) (by decide +kernel)
theorem qw1207 : Cond.static yX7_isPart ∈ gW := gW_mem (i := 1207) (by decide +kernel) (by decide +kernel)
theorem qw1208 : Cond.code yX7_isPart cX7_isPart 1 (some .boolean) ∈ gW := gW_mem (i := 1208) (by decide +kernel) (by decide +kernel)
theorem qw1209 : Cond.methodLink RX7 266 yX7_findWays ∈ gW := gW_mem (i := 1209) (by decide +kernel) (by decide +kernel)
theorem qw1211 : Cond.instanceMethod yX7_findWays ∈ gW := gW_mem (i := 1211) (by decide +kernel) (by decide +kernel)
theorem qw1212 : Cond.code yX7_findWays cX7_findWays 4 (some .long) ∈ gW := gW_mem (i := 1212) (by decide +kernel) (by decide +kernel)
theorem qw1213 : Cond.methodLink RX7 258 yX7_goesOn ∈ gW := gW_mem (i := 1213) (by decide +kernel) (by decide +kernel)
theorem qw1215 : Cond.instanceMethod yX7_goesOn ∈ gW := gW_mem (i := 1215) (by decide +kernel) (by decide +kernel)
theorem qw1216 : Cond.code yX7_goesOn cX7_goesOn 7 none ∈ gW := gW_mem (i := 1216) (by decide +kernel) (by decide +kernel)
theorem qw1217 : Cond.methodLink RX7 254 yX7_ends ∈ gW := gW_mem (i := 1217) (by decide +kernel) (by decide +kernel)
theorem qw1219 : Cond.instanceMethod yX7_ends ∈ gW := gW_mem (i := 1219) (by decide +kernel) (by decide +kernel)
theorem qw1220 : Cond.code yX7_ends cX7_ends 5 none ∈ gW := gW_mem (i := 1220) (by decide +kernel) (by decide +kernel)
theorem qw1221 : Cond.constantLong RX7 261 (10) ∈ gW := gW_mem (i := 1221) (by decide +kernel) (by decide +kernel)
theorem qw1222 : Cond.methodLink RX7 270 yX7_told ∈ gW := gW_mem (i := 1222) (by decide +kernel) (by decide +kernel)
theorem qw1223 : Cond.static yX7_told ∈ gW := gW_mem (i := 1223) (by decide +kernel) (by decide +kernel)
theorem qw1224 : Cond.code yX7_told cX7_told 11 (some .long) ∈ gW := gW_mem (i := 1224) (by decide +kernel) (by decide +kernel)
theorem qw1225 : Cond.methodLink RL 90 yX7_first ∈ gW := gW_mem (i := 1225) (by decide +kernel) (by decide +kernel)
theorem qw1226 : Cond.instanceMethod yX7_first ∈ gW := gW_mem (i := 1226) (by decide +kernel) (by decide +kernel)
theorem qw1227 : Cond.selects RX7 yX7_first yX7_first ∈ gW := gW_mem (i := 1227) (by decide +kernel) (by decide +kernel)
theorem qw1228 : Cond.code yX7_first cX7_first 5 (some .long) ∈ gW := gW_mem (i := 1228) (by decide +kernel) (by decide +kernel)
theorem qw1229 : Cond.methodLink RL 94 yX7_mean ∈ gW := gW_mem (i := 1229) (by decide +kernel) (by decide +kernel)
theorem qw1230 : Cond.instanceMethod yX7_mean ∈ gW := gW_mem (i := 1230) (by decide +kernel) (by decide +kernel)
theorem qw1231 : Cond.selects RX7 yX7_mean yX7_mean ∈ gW := gW_mem (i := 1231) (by decide +kernel) (by decide +kernel)
theorem qw1232 : Cond.code yX7_mean cX7_mean 5 (some .long) ∈ gW := gW_mem (i := 1232) (by decide +kernel) (by decide +kernel)
theorem qw1233 : Cond.methodLink RL 98 yX7_least ∈ gW := gW_mem (i := 1233) (by decide +kernel) (by decide +kernel)
theorem qw1234 : Cond.instanceMethod yX7_least ∈ gW := gW_mem (i := 1234) (by decide +kernel) (by decide +kernel)
theorem qw1235 : Cond.selects RX7 yX7_least yX7_least ∈ gW := gW_mem (i := 1235) (by decide +kernel) (by decide +kernel)
theorem qw1236 : Cond.code yX7_least cX7_least 6 (some .long) ∈ gW := gW_mem (i := 1236) (by decide +kernel) (by decide +kernel)
theorem qw1237 : Cond.methodLink RL 102 yX7_most ∈ gW := gW_mem (i := 1237) (by decide +kernel) (by decide +kernel)
theorem qw1238 : Cond.instanceMethod yX7_most ∈ gW := gW_mem (i := 1238) (by decide +kernel) (by decide +kernel)
theorem qw1239 : Cond.selects RX7 yX7_most yX7_most ∈ gW := gW_mem (i := 1239) (by decide +kernel) (by decide +kernel)
theorem qw1240 : Cond.code yX7_most cX7_most 4 (some .int) ∈ gW := gW_mem (i := 1240) (by decide +kernel) (by decide +kernel)
theorem qw1241 : Cond.methodLink RL 106 yX7_ways ∈ gW := gW_mem (i := 1241) (by decide +kernel) (by decide +kernel)
theorem qw1242 : Cond.instanceMethod yX7_ways ∈ gW := gW_mem (i := 1242) (by decide +kernel) (by decide +kernel)
theorem qw1243 : Cond.selects RX7 yX7_ways yX7_ways ∈ gW := gW_mem (i := 1243) (by decide +kernel) (by decide +kernel)
theorem qw1244 : Cond.code yX7_ways cX7_ways 3 (some .int) ∈ gW := gW_mem (i := 1244) (by decide +kernel) (by decide +kernel)
theorem qw1245 : Cond.methodLink RL 110 yX7_moved ∈ gW := gW_mem (i := 1245) (by decide +kernel) (by decide +kernel)
theorem qw1246 : Cond.instanceMethod yX7_moved ∈ gW := gW_mem (i := 1246) (by decide +kernel) (by decide +kernel)
theorem qw1247 : Cond.selects RX7 yX7_moved yX7_moved ∈ gW := gW_mem (i := 1247) (by decide +kernel) (by decide +kernel)
theorem qw1248 : Cond.code yX7_moved cX7_moved 5 (some .long) ∈ gW := gW_mem (i := 1248) (by decide +kernel) (by decide +kernel)
theorem qw1249 : Cond.methodLink RL 114 yX7_best ∈ gW := gW_mem (i := 1249) (by decide +kernel) (by decide +kernel)
theorem qw1250 : Cond.instanceMethod yX7_best ∈ gW := gW_mem (i := 1250) (by decide +kernel) (by decide +kernel)
theorem qw1251 : Cond.selects RX7 yX7_best yX7_best ∈ gW := gW_mem (i := 1251) (by decide +kernel) (by decide +kernel)
theorem qw1252 : Cond.code yX7_best cX7_best 8 (some .int) ∈ gW := gW_mem (i := 1252) (by decide +kernel) (by decide +kernel)
theorem qw1253 : Cond.methodLink RX7 273 yX7_meanOf ∈ gW := gW_mem (i := 1253) (by decide +kernel) (by decide +kernel)
theorem qw1255 : Cond.instanceMethod yX7_meanOf ∈ gW := gW_mem (i := 1255) (by decide +kernel) (by decide +kernel)
theorem qw1256 : Cond.code yX7_meanOf cX7_meanOf 4 (some .long) ∈ gW := gW_mem (i := 1256) (by decide +kernel) (by decide +kernel)
theorem qw1257 : Cond.methodLink RL 118 yX7_kindFor ∈ gW := gW_mem (i := 1257) (by decide +kernel) (by decide +kernel)
theorem qw1258 : Cond.instanceMethod yX7_kindFor ∈ gW := gW_mem (i := 1258) (by decide +kernel) (by decide +kernel)
theorem qw1259 : Cond.selects RX7 yX7_kindFor yX7_kindFor ∈ gW := gW_mem (i := 1259) (by decide +kernel) (by decide +kernel)
theorem qw1260 : Cond.code yX7_kindFor cX7_kindFor 2 (some .int) ∈ gW := gW_mem (i := 1260) (by decide +kernel) (by decide +kernel)
theorem qw1261 : Cond.methodLink RX7 277 yX7_bestLaid ∈ gW := gW_mem (i := 1261) (by decide +kernel) (by decide +kernel)
theorem qw1263 : Cond.instanceMethod yX7_bestLaid ∈ gW := gW_mem (i := 1263) (by decide +kernel) (by decide +kernel)
theorem qw1264 : Cond.code yX7_bestLaid cX7_bestLaid 12 (some .int) ∈ gW := gW_mem (i := 1264) (by decide +kernel) (by decide +kernel)
theorem qw1265 : Cond.methodLink RL 122 yX7_tellsFor ∈ gW := gW_mem (i := 1265) (by decide +kernel) (by decide +kernel)
theorem qw1266 : Cond.instanceMethod yX7_tellsFor ∈ gW := gW_mem (i := 1266) (by decide +kernel) (by decide +kernel)
theorem qw1267 : Cond.selects RX7 yX7_tellsFor yX7_tellsFor ∈ gW := gW_mem (i := 1267) (by decide +kernel) (by decide +kernel)
theorem qw1268 : Cond.code yX7_tellsFor cX7_tellsFor 2 (some .int) ∈ gW := gW_mem (i := 1268) (by decide +kernel) (by decide +kernel)
theorem qw1269 : Cond.methodLink RL 126 yX7_order ∈ gW := gW_mem (i := 1269) (by decide +kernel) (by decide +kernel)
theorem qw1270 : Cond.instanceMethod yX7_order ∈ gW := gW_mem (i := 1270) (by decide +kernel) (by decide +kernel)
theorem qw1271 : Cond.selects RX7 yX7_order yX7_order ∈ gW := gW_mem (i := 1271) (by decide +kernel) (by decide +kernel)
theorem qw1272 : Cond.code yX7_order cX7_order 10 (some .int) ∈ gW := gW_mem (i := 1272) (by decide +kernel) (by decide +kernel)
theorem qw1273 : Cond.methodLink RX7 281 yX7_nextRow ∈ gW := gW_mem (i := 1273) (by decide +kernel) (by decide +kernel)
theorem qw1275 : Cond.instanceMethod yX7_nextRow ∈ gW := gW_mem (i := 1275) (by decide +kernel) (by decide +kernel)
theorem qw1276 : Cond.code yX7_nextRow cX7_nextRow 7 (some .boolean) ∈ gW := gW_mem (i := 1276) (by decide +kernel) (by decide +kernel)
theorem qw1277 : Cond.methodLink RL 130 yX7_lawFor ∈ gW := gW_mem (i := 1277) (by decide +kernel) (by decide +kernel)
theorem qw1278 : Cond.instanceMethod yX7_lawFor ∈ gW := gW_mem (i := 1278) (by decide +kernel) (by decide +kernel)
theorem qw1279 : Cond.selects RX7 yX7_lawFor yX7_lawFor ∈ gW := gW_mem (i := 1279) (by decide +kernel) (by decide +kernel)
theorem qw1280 : Cond.code yX7_lawFor cX7_lawFor 2 (some .int) ∈ gW := gW_mem (i := 1280) (by decide +kernel) (by decide +kernel)
theorem qw1281 : Cond.methodLink RL 134 yX7_gains ∈ gW := gW_mem (i := 1281) (by decide +kernel) (by decide +kernel)
theorem qw1282 : Cond.instanceMethod yX7_gains ∈ gW := gW_mem (i := 1282) (by decide +kernel) (by decide +kernel)
theorem qw1283 : Cond.selects RX7 yX7_gains yX7_gains ∈ gW := gW_mem (i := 1283) (by decide +kernel) (by decide +kernel)
theorem qw1284 : Cond.code yX7_gains cX7_gains 6 (some .int) ∈ gW := gW_mem (i := 1284) (by decide +kernel) (by decide +kernel)
theorem qw1285 : Cond.methodLink RL 138 yX7_wronged ∈ gW := gW_mem (i := 1285) (by decide +kernel) (by decide +kernel)
theorem qw1286 : Cond.instanceMethod yX7_wronged ∈ gW := gW_mem (i := 1286) (by decide +kernel) (by decide +kernel)
theorem qw1287 : Cond.selects RX7 yX7_wronged yX7_wronged ∈ gW := gW_mem (i := 1287) (by decide +kernel) (by decide +kernel)
theorem qw1288 : Cond.code yX7_wronged cX7_wronged 10 (some .int) ∈ gW := gW_mem (i := 1288) (by decide +kernel) (by decide +kernel)
theorem qw1289 : Cond.methodLink RL 142 yX7_tries ∈ gW := gW_mem (i := 1289) (by decide +kernel) (by decide +kernel)
theorem qw1290 : Cond.instanceMethod yX7_tries ∈ gW := gW_mem (i := 1290) (by decide +kernel) (by decide +kernel)
theorem qw1291 : Cond.selects RX7 yX7_tries yX7_tries ∈ gW := gW_mem (i := 1291) (by decide +kernel) (by decide +kernel)
theorem qw1292 : Cond.code yX7_tries cX7_tries 6 (some .int) ∈ gW := gW_mem (i := 1292) (by decide +kernel) (by decide +kernel)
theorem qw1293 : Cond.methodLink RL 146 yX7_seed ∈ gW := gW_mem (i := 1293) (by decide +kernel) (by decide +kernel)
theorem qw1294 : Cond.instanceMethod yX7_seed ∈ gW := gW_mem (i := 1294) (by decide +kernel) (by decide +kernel)
theorem qw1295 : Cond.selects RX7 yX7_seed yX7_seed ∈ gW := gW_mem (i := 1295) (by decide +kernel) (by decide +kernel)
theorem qw1296 : Cond.code yX7_seed cX7_seed 3 (some .int) ∈ gW := gW_mem (i := 1296) (by decide +kernel) (by decide +kernel)
theorem qw1297 : Cond.methodLink RL 150 yX7_hold ∈ gW := gW_mem (i := 1297) (by decide +kernel) (by decide +kernel)
theorem qw1298 : Cond.instanceMethod yX7_hold ∈ gW := gW_mem (i := 1298) (by decide +kernel) (by decide +kernel)
theorem qw1299 : Cond.selects RX7 yX7_hold yX7_hold ∈ gW := gW_mem (i := 1299) (by decide +kernel) (by decide +kernel)
theorem qw1300 : Cond.code yX7_hold cX7_hold 3 (some .int) ∈ gW := gW_mem (i := 1300) (by decide +kernel) (by decide +kernel)
theorem qw1301 : Cond.methodLink RL 154 yX7_as ∈ gW := gW_mem (i := 1301) (by decide +kernel) (by decide +kernel)
theorem qw1302 : Cond.instanceMethod yX7_as ∈ gW := gW_mem (i := 1302) (by decide +kernel) (by decide +kernel)
theorem qw1303 : Cond.selects RX7 yX7_as yX7_as ∈ gW := gW_mem (i := 1303) (by decide +kernel) (by decide +kernel)
theorem qw1304 : Cond.code yX7_as cX7_as 4 (some .int) ∈ gW := gW_mem (i := 1304) (by decide +kernel) (by decide +kernel)
theorem qw1305 : Cond.methodLink RX7 284 yX7_isUnder ∈ gW := gW_mem (i := 1305) (by decide +kernel) (by decide +kernel)
theorem qw1306 : Cond.static yX7_isUnder ∈ gW := gW_mem (i := 1306) (by decide +kernel) (by decide +kernel)
theorem qw1307 : Cond.code yX7_isUnder cX7_isUnder 2 (some .boolean) ∈ gW := gW_mem (i := 1307) (by decide +kernel) (by decide +kernel)
theorem qw1308 : Cond.methodLink RL 158 yX7_sheet ∈ gW := gW_mem (i := 1308) (by decide +kernel) (by decide +kernel)
theorem qw1309 : Cond.instanceMethod yX7_sheet ∈ gW := gW_mem (i := 1309) (by decide +kernel) (by decide +kernel)
theorem qw1310 : Cond.selects RX7 yX7_sheet yX7_sheet ∈ gW := gW_mem (i := 1310) (by decide +kernel) (by decide +kernel)
theorem qw1311 : Cond.code yX7_sheet cX7_sheet 5 (some .int) ∈ gW := gW_mem (i := 1311) (by decide +kernel) (by decide +kernel)
theorem qw1312 : Cond.methodLink RX7 287 yX7_isSheet ∈ gW := gW_mem (i := 1312) (by decide +kernel) (by decide +kernel)
theorem qw1313 : Cond.static yX7_isSheet ∈ gW := gW_mem (i := 1313) (by decide +kernel) (by decide +kernel)
theorem qw1314 : Cond.code yX7_isSheet cX7_isSheet 1 (some .boolean) ∈ gW := gW_mem (i := 1314) (by decide +kernel) (by decide +kernel)
theorem qw1315 : Cond.methodLink RL 162 yX7_write ∈ gW := gW_mem (i := 1315) (by decide +kernel) (by decide +kernel)
theorem qw1316 : Cond.instanceMethod yX7_write ∈ gW := gW_mem (i := 1316) (by decide +kernel) (by decide +kernel)
theorem qw1317 : Cond.selects RX7 yX7_write yX7_write ∈ gW := gW_mem (i := 1317) (by decide +kernel) (by decide +kernel)
theorem qw1318 : Cond.code yX7_write cX7_write 5 (some .int) ∈ gW := gW_mem (i := 1318) (by decide +kernel) (by decide +kernel)
theorem qw1319 : Cond.methodLink RL 167 yX7_copy ∈ gW := gW_mem (i := 1319) (by decide +kernel) (by decide +kernel)
theorem qw1320 : Cond.instanceMethod yX7_copy ∈ gW := gW_mem (i := 1320) (by decide +kernel) (by decide +kernel)
theorem qw1321 : Cond.selects RX7 yX7_copy yX7_copy ∈ gW := gW_mem (i := 1321) (by decide +kernel) (by decide +kernel)
theorem qw1322 : Cond.code yX7_copy cX7_copy 7 (some .int) ∈ gW := gW_mem (i := 1322) (by decide +kernel) (by decide +kernel)
theorem qw1323 : Cond.methodLink RL 171 yX7_load ∈ gW := gW_mem (i := 1323) (by decide +kernel) (by decide +kernel)
theorem qw1324 : Cond.instanceMethod yX7_load ∈ gW := gW_mem (i := 1324) (by decide +kernel) (by decide +kernel)
theorem qw1325 : Cond.selects RX7 yX7_load yX7_load ∈ gW := gW_mem (i := 1325) (by decide +kernel) (by decide +kernel)
theorem qw1326 : Cond.code yX7_load cX7_load 4 (some .int) ∈ gW := gW_mem (i := 1326) (by decide +kernel) (by decide +kernel)
theorem qw1327 : Cond.methodLink RX7 290 yX7_lacks ∈ gW := gW_mem (i := 1327) (by decide +kernel) (by decide +kernel)
theorem qw1329 : Cond.instanceMethod yX7_lacks ∈ gW := gW_mem (i := 1329) (by decide +kernel) (by decide +kernel)
theorem qw1330 : Cond.code yX7_lacks cX7_lacks 2 (some .int) ∈ gW := gW_mem (i := 1330) (by decide +kernel) (by decide +kernel)
theorem qw1331 : Cond.methodLink RL 175 yX7_judge ∈ gW := gW_mem (i := 1331) (by decide +kernel) (by decide +kernel)
theorem qw1332 : Cond.instanceMethod yX7_judge ∈ gW := gW_mem (i := 1332) (by decide +kernel) (by decide +kernel)
theorem qw1333 : Cond.selects RX7 yX7_judge yX7_judge ∈ gW := gW_mem (i := 1333) (by decide +kernel) (by decide +kernel)
theorem qw1334 : Cond.code yX7_judge cX7_judge 6 (some .int) ∈ gW := gW_mem (i := 1334) (by decide +kernel) (by decide +kernel)
theorem qw1335 : Cond.methodLink RL 179 yX7_image ∈ gW := gW_mem (i := 1335) (by decide +kernel) (by decide +kernel)
theorem qw1336 : Cond.instanceMethod yX7_image ∈ gW := gW_mem (i := 1336) (by decide +kernel) (by decide +kernel)
theorem qw1337 : Cond.selects RX7 yX7_image yX7_image ∈ gW := gW_mem (i := 1337) (by decide +kernel) (by decide +kernel)
theorem qw1338 : Cond.code yX7_image cX7_image 1 (some .int) ∈ gW := gW_mem (i := 1338) (by decide +kernel) (by decide +kernel)
theorem qw1339 : Cond.methodLink RL 183 yX7_undo ∈ gW := gW_mem (i := 1339) (by decide +kernel) (by decide +kernel)
theorem qw1340 : Cond.instanceMethod yX7_undo ∈ gW := gW_mem (i := 1340) (by decide +kernel) (by decide +kernel)
theorem qw1341 : Cond.selects RX7 yX7_undo yX7_undo ∈ gW := gW_mem (i := 1341) (by decide +kernel) (by decide +kernel)
theorem qw1342 : Cond.code yX7_undo cX7_undo 1 (some .int) ∈ gW := gW_mem (i := 1342) (by decide +kernel) (by decide +kernel)
theorem qw1343 : Cond.methodLink RL 187 yX7_tear ∈ gW := gW_mem (i := 1343) (by decide +kernel) (by decide +kernel)
theorem qw1344 : Cond.instanceMethod yX7_tear ∈ gW := gW_mem (i := 1344) (by decide +kernel) (by decide +kernel)
theorem qw1345 : Cond.selects RX7 yX7_tear yX7_tear ∈ gW := gW_mem (i := 1345) (by decide +kernel) (by decide +kernel)
theorem qw1346 : Cond.code yX7_tear cX7_tear 2 (some .int) ∈ gW := gW_mem (i := 1346) (by decide +kernel) (by decide +kernel)
theorem qw1347 : Cond.methodLink RL 191 yX7_count ∈ gW := gW_mem (i := 1347) (by decide +kernel) (by decide +kernel)
theorem qw1348 : Cond.instanceMethod yX7_count ∈ gW := gW_mem (i := 1348) (by decide +kernel) (by decide +kernel)
theorem qw1349 : Cond.selects RX7 yX7_count yX7_count ∈ gW := gW_mem (i := 1349) (by decide +kernel) (by decide +kernel)
theorem qw1350 : Cond.code yX7_count cX7_count 4 (some .int) ∈ gW := gW_mem (i := 1350) (by decide +kernel) (by decide +kernel)
theorem qw1351 : Cond.methodLink RL 195 yX7_status ∈ gW := gW_mem (i := 1351) (by decide +kernel) (by decide +kernel)
theorem qw1352 : Cond.instanceMethod yX7_status ∈ gW := gW_mem (i := 1352) (by decide +kernel) (by decide +kernel)
theorem qw1353 : Cond.selects RX7 yX7_status yX7_status ∈ gW := gW_mem (i := 1353) (by decide +kernel) (by decide +kernel)
theorem qw1354 : Cond.code yX7_status cX7_status 4 (some .int) ∈ gW := gW_mem (i := 1354) (by decide +kernel) (by decide +kernel)
theorem qw1355 : Cond.fieldLink RJ0 9 "java/lang/String" "value" "[B" ∈ gW := gW_mem (i := 1355) (by decide +kernel) (by decide +kernel)
theorem qw1356 : Cond.fieldLink RJ0 15 "java/lang/String" "coder" "B" ∈ gW := gW_mem (i := 1356) (by decide +kernel) (by decide +kernel)
theorem iX0 : ∀ w ∈ u_ws RX0 TX0 9, w ∈ gW := by decide +kernel
theorem iX1 : ∀ w ∈ u_ws RX1 TX1 11, w ∈ gW := by decide +kernel
theorem iX2 : ∀ w ∈ u_ws RX2 TX2 3, w ∈ gW := by decide +kernel
theorem iX3 : ∀ w ∈ u_ws RX3 TX3 6, w ∈ gW := by decide +kernel
theorem iX4 : ∀ w ∈ u_ws RX4 TX4 6, w ∈ gW := by decide +kernel
theorem iX5 : ∀ w ∈ u_ws RX5 TX5 13, w ∈ gW := by decide +kernel
theorem iX6 : ∀ w ∈ u_ws RX6 TX6 8, w ∈ gW := by decide +kernel
theorem iX7 : ∀ w ∈ u_ws RX7 TX7 30, w ∈ gW := by decide +kernel
end
section
/-! ===== the memory of a world: ints, longs and references, by the number of the object and the place in it ===== -/
abbrev Mm : Type := (Nat → Nat → Int32) × (Nat → Nat → Int64) × (Nat → Nat → Option Nat)
def sI (M : Mm) (o k : Nat) (v : Int32) : Mm := (fun a b => if a = o ∧ b = k then v else M.1 a b, M.2)
def sL (M : Mm) (o k : Nat) (v : Int64) : Mm := (M.1, fun a b => if a = o ∧ b = k then v else M.2.1 a b, M.2.2)
def sR (M : Mm) (o k : Nat) (v : Option Nat) : Mm := (M.1, M.2.1, fun a b => if a = o ∧ b = k then v else M.2.2 a b)
/-- the kinds of the fields of a class: 0 an int (or boolean), 1 a long, 2 a reference -/
def fT (c : Nat) : List Nat := match c with
  | 0 => [0, 0, 0, 0, 0, 0, 0, 0, 0]
  | 1 => [2, 2, 2, 0, 0, 0, 0, 0, 0, 0, 0]
  | 2 => [2, 0, 0]
  | 3 => [0, 0, 0, 0, 0, 0]
  | 4 => [2, 0, 0, 0, 0, 0]
  | 5 => [2, 2, 2, 2, 2, 2, 1, 0, 0, 0, 0, 1, 0]
  | 6 => [2, 2, 0, 2, 2, 2, 2, 2]
  | _ => [2, 2, 2, 0, 2, 0, 0, 0, 2, 0, 0, 0, 0, 0, 0, 0, 2, 2, 2, 2, 2, 0, 2, 0, 2, 2, 2, 2, 2, 2]
def fV (ad : Nat → Nat) (M : Mm) (o t k : Nat) : Value := if t = 0 then .int (M.1 o k) else if t = 1 then .long (M.2.1 o k) else va_rf ((M.2.2 o k).map ad)
def flds (ad : Nat → Nat) (M : Mm) (o : Nat) (ts : List Nat) : List Value := ts.zipIdx.map (fun q => fV ad M o q.1 q.2)
def cE (cy : Nat → ClassId) (sh : Nat → Nat × Nat) (ad : Nat → Nat) (M : Mm) (o : Nat) : va_E :=
  if (sh o).1 < 8 then .inr ((sh o).1, flds ad M o (fT (sh o).1))
  else if (sh o).1 = 8 then .inl (cy 0, ((sh o).2, .inl (M.1 o)))
  else if (sh o).1 = 9 then .inl (cy 1, ((sh o).2, .inr (.inl (M.2.1 o))))
  else .inl (cy ((sh o).1 - 8), ((sh o).2, .inr (.inr (.inr (.inr (fun j => (M.2.2 o j).map ad))))))
def cW (cy : Nat → ClassId) (sh : Nat → Nat × Nat) (ad : Nat → Nat) (n : Nat) (M : Mm) : va_W := (List.range n).map (fun o => (ad o, cE cy sh ad M o))
def tyW (cy : Nat → ClassId) : List (ClassId × FieldType) := [(cy 0, .int), (cy 1, .long), (cy 2, .object RX3), (cy 3, .object RX0), (cy 4, .object RX2)]
def Wd (D : va_G) (cy : Nat → ClassId) (sh : Nat → Nat × Nat) (ad : Nat → Nat) (n : Nat) (A : Nat → Prop) (H0 : Heap) (M : Mm) (H : Heap) (locs : List Loc) : Prop := va_P D vwCl (cW cy sh ad n M) H ∧ va_D A (cW cy sh ad n M) ∧ va_S A H0 H locs
abbrev ok (n : Nat) (sh : Nat → Nat × Nat) (o c : Nat) : Prop := o < n ∧ (sh o).1 = c
abbrev vin (i : Int32) (n : Nat) : Prop := ¬ (i < 0 ∨ n ≤ i.toNatClampNeg)
abbrev okA (n : Nat) (sh : Nat → Nat × Nat) (a c : Nat) (i : Int32) : Prop := ok n sh a c ∧ vin i (sh a).2
abbrev bz (v : Int32) : Prop := v = 0 ∨ v = 1
def gd {α : Type} (c : Prop) [Decidable c] (k : Option α) : Option α := if c then k else none
theorem gd_some {α : Type} {c : Prop} [Decidable c] {k : Option α} {r : α} (h : gd c k = some r) : c ∧ k = some r := by
  unfold gd at h
  by_cases hc : c
  · rw [if_pos hc] at h
    exact ⟨hc, h⟩
  · rw [if_neg hc] at h
    cases h
theorem bd_some {α β : Type} {x : Option α} {f : α → Option β} {r : β} (h : x.bind f = some r) : ∃ a, x = some a ∧ f a = some r := by
  cases x with
  | none => cases h
  | some a => exact ⟨a, rfl, h⟩
theorem if_some_t {α : Type} {c : Prop} [Decidable c] {a b r : α} (hc : c) (h : (if c then a else b) = r) : a = r := by
  rw [if_pos hc] at h
  exact h
theorem if_some_f {α : Type} {c : Prop} [Decidable c] {a b r : α} (hc : ¬ c) (h : (if c then a else b) = r) : b = r := by
  rw [if_neg hc] at h
  exact h
theorem cW_at {cy : Nat → ClassId} {sh : Nat → Nat × Nat} {ad : Nat → Nat} {n : Nat} {M : Mm} {o : Nat} (h : o < n) : (cW cy sh ad n M)[o]? = some (ad o, cE cy sh ad M o) := by
  simp [cW, h]
theorem cE_obj {cy : Nat → ClassId} {sh : Nat → Nat × Nat} {ad : Nat → Nat} {M : Mm} {o ci : Nat} (h : (sh o).1 = ci) (h8 : ci < 8) : cE cy sh ad M o = .inr (ci, flds ad M o (fT ci)) := by
  subst h
  simp [cE, h8]
theorem cE_int {cy : Nat → ClassId} {sh : Nat → Nat × Nat} {ad : Nat → Nat} {M : Mm} {o : Nat} (h : (sh o).1 = 8) : cE cy sh ad M o = .inl (cy 0, ((sh o).2, .inl (M.1 o))) := by
  simp [cE, h]
theorem cE_long {cy : Nat → ClassId} {sh : Nat → Nat × Nat} {ad : Nat → Nat} {M : Mm} {o : Nat} (h : (sh o).1 = 9) : cE cy sh ad M o = .inl (cy 1, ((sh o).2, .inr (.inl (M.2.1 o)))) := by
  simp [cE, h]
theorem cE_ref {cy : Nat → ClassId} {sh : Nat → Nat × Nat} {ad : Nat → Nat} {M : Mm} {o c : Nat} (h : (sh o).1 = c + 8) (hc : 2 ≤ c) : cE cy sh ad M o = .inl (cy c, ((sh o).2, .inr (.inr (.inr (.inr (fun j => (M.2.2 o j).map ad)))))) := by
  have h1 : ¬ (c + 8 < 8) := by omega
  have h2 : ¬ (c + 8 = 8) := by omega
  have h3 : ¬ (c + 8 = 9) := by omega
  simp only [cE, h, h1, h2, h3, if_false, Nat.add_sub_cancel]
theorem cW_set {cy : Nat → ClassId} {sh : Nat → Nat × Nat} {ad : Nat → Nat} {n : Nat} {M M' : Mm} {o : Nat} {x : va_E} (ho : o < n) (h1 : cE cy sh ad M' o = x) (h2 : ∀ q, q ≠ o → cE cy sh ad M' q = cE cy sh ad M q) : (cW cy sh ad n M).set o (ad o, x) = cW cy sh ad n M' := by
  apply List.ext_getElem?
  intro j
  by_cases hj : j = o
  · subst hj
    rw [List.getElem?_set_self (by simp [cW, ho]), cW_at ho, h1]
  · rw [List.getElem?_set_ne (Ne.symm hj)]
    by_cases hn : j < n
    · rw [cW_at hn, cW_at hn, h2 j hj]
    · rw [List.getElem?_eq_none (by simp [cW]; omega), List.getElem?_eq_none (by simp [cW]; omega)]
theorem flds_at {ad : Nat → Nat} {M : Mm} {o k t : Nat} {ts : List Nat} (h : ts[k]? = some t) : (flds ad M o ts)[k]? = some (fV ad M o t k) := by
  simp [flds, h]
theorem flds_len {ad : Nat → Nat} {M : Mm} {o : Nat} {ts : List Nat} : (flds ad M o ts).length = ts.length := by
  simp [flds]
theorem flds_set {ad : Nat → Nat} {M M' : Mm} {o k t : Nat} {ts : List Nat} {v : Value} (h : ts[k]? = some t) (h1 : fV ad M' o t k = v) (h2 : ∀ t j, j ≠ k → fV ad M' o t j = fV ad M o t j) : flds ad M' o ts = (flds ad M o ts).set k v := by
  apply List.ext_getElem?
  intro j
  by_cases hj : j = k
  · subst hj
    have hl : j < ts.length := (List.getElem?_eq_some_iff.mp h).1
    rw [List.getElem?_set_self (by rw [flds_len]; exact hl), flds_at h, h1]
  · rw [List.getElem?_set_ne (Ne.symm hj)]
    cases hq : ts[j]? with
    | none =>
      have hl : ts.length ≤ j := List.getElem?_eq_none_iff.mp hq
      rw [List.getElem?_eq_none (by rw [flds_len]; exact hl), List.getElem?_eq_none (by rw [flds_len]; exact hl)]
    | some t2 => rw [flds_at hq, flds_at hq, h2 t2 j hj]
theorem sI_same {M : Mm} {o k : Nat} {v : Int32} : (sI M o k v).1 o k = v := by simp [sI]
theorem sI_place {M : Mm} {o k : Nat} {v : Int32} {j : Nat} (h : j ≠ k) : (sI M o k v).1 o j = M.1 o j := by simp [sI, h]
theorem sI_obj {M : Mm} {o k : Nat} {v : Int32} {q : Nat} (h : q ≠ o) : (sI M o k v).1 q = M.1 q := by
  funext j
  simp [sI, h]
theorem sL_same {M : Mm} {o k : Nat} {v : Int64} : (sL M o k v).2.1 o k = v := by simp [sL]
theorem sL_place {M : Mm} {o k : Nat} {v : Int64} {j : Nat} (h : j ≠ k) : (sL M o k v).2.1 o j = M.2.1 o j := by simp [sL, h]
theorem sL_obj {M : Mm} {o k : Nat} {v : Int64} {q : Nat} (h : q ≠ o) : (sL M o k v).2.1 q = M.2.1 q := by
  funext j
  simp [sL, h]
theorem sR_same {M : Mm} {o k : Nat} {v : Option Nat} : (sR M o k v).2.2 o k = v := by simp [sR]
theorem sR_place {M : Mm} {o k : Nat} {v : Option Nat} {j : Nat} (h : j ≠ k) : (sR M o k v).2.2 o j = M.2.2 o j := by simp [sR, h]
theorem sR_obj {M : Mm} {o k : Nat} {v : Option Nat} {q : Nat} (h : q ≠ o) : (sR M o k v).2.2 q = M.2.2 q := by
  funext j
  simp [sR, h]
theorem fV_cong {ad : Nat → Nat} {M M' : Mm} {o t k : Nat} (h1 : M'.1 o k = M.1 o k) (h2 : M'.2.1 o k = M.2.1 o k) (h3 : M'.2.2 o k = M.2.2 o k) : fV ad M' o t k = fV ad M o t k := by
  simp only [fV, h1, h2, h3]
theorem cE_cong {cy : Nat → ClassId} {sh : Nat → Nat × Nat} {ad : Nat → Nat} {M M' : Mm} {q : Nat} (h1 : M'.1 q = M.1 q) (h2 : M'.2.1 q = M.2.1 q) (h3 : M'.2.2 q = M.2.2 q) : cE cy sh ad M' q = cE cy sh ad M q := by
  have hf : ∀ ts, flds ad M' q ts = flds ad M q ts := fun ts => by
    unfold flds
    congr 1
    funext z
    exact fV_cong (by rw [h1]) (by rw [h2]) (by rw [h3])
  simp only [cE, hf, h1, h2, h3]
theorem cW_putI {cy : Nat → ClassId} {sh : Nat → Nat × Nat} {ad : Nat → Nat} {n : Nat} {M : Mm} {o ci k : Nat} {v : Int32} (ho : ok n sh o ci) (h8 : ci < 8) (ht : (fT ci)[k]? = some 0) : (cW cy sh ad n M).set o (ad o, .inr (ci, (flds ad M o (fT ci)).set k (.int v))) = cW cy sh ad n (sI M o k v) := by
  refine cW_set ho.1 ?_ (fun q hq => cE_cong (sI_obj hq) rfl rfl)
  rw [cE_obj ho.2 h8, flds_set (M := M) (M' := sI M o k v) (v := .int v) ht (by simp [fV, sI_same]) (fun t j hj => fV_cong (sI_place hj) rfl rfl)]
theorem cW_putL {cy : Nat → ClassId} {sh : Nat → Nat × Nat} {ad : Nat → Nat} {n : Nat} {M : Mm} {o ci k : Nat} {v : Int64} (ho : ok n sh o ci) (h8 : ci < 8) (ht : (fT ci)[k]? = some 1) : (cW cy sh ad n M).set o (ad o, .inr (ci, (flds ad M o (fT ci)).set k (.long v))) = cW cy sh ad n (sL M o k v) := by
  refine cW_set ho.1 ?_ (fun q hq => cE_cong rfl (sL_obj hq) rfl)
  rw [cE_obj ho.2 h8, flds_set (M := M) (M' := sL M o k v) (v := .long v) ht (by simp [fV, sL_same]) (fun t j hj => fV_cong rfl (sL_place hj) rfl)]
theorem cW_putR {cy : Nat → ClassId} {sh : Nat → Nat × Nat} {ad : Nat → Nat} {n : Nat} {M : Mm} {o ci k q : Nat} (ho : ok n sh o ci) (h8 : ci < 8) (ht : (fT ci)[k]? = some 2) : (cW cy sh ad n M).set o (ad o, .inr (ci, (flds ad M o (fT ci)).set k (.ref (ad q)))) = cW cy sh ad n (sR M o k (some q)) := by
  refine cW_set ho.1 ?_ (fun q hq => cE_cong rfl rfl (sR_obj hq))
  rw [cE_obj ho.2 h8, flds_set (M := M) (M' := sR M o k (some q)) (v := .ref (ad q)) ht (by simp [fV, sR_same, va_rf]) (fun t j hj => fV_cong rfl rfl (sR_place hj))]
theorem cW_stI {cy : Nat → ClassId} {sh : Nat → Nat × Nat} {ad : Nat → Nat} {n : Nat} {M : Mm} {o k : Nat} {v : Int32} (ho : ok n sh o 8) : (cW cy sh ad n M).set o (ad o, .inl (cy 0, (sh o).2, .inl (upd (M.1 o) k v))) = cW cy sh ad n (sI M o k v) := by
  refine cW_set ho.1 ?_ (fun q hq => cE_cong (sI_obj hq) rfl rfl)
  rw [cE_int ho.2]
  have : (sI M o k v).1 o = upd (M.1 o) k v := by
    funext j
    by_cases hj : j = k
    · subst hj
      rw [sI_same, pk_us]
    · rw [sI_place hj, pk_un hj]
  rw [this]
theorem cW_stL {cy : Nat → ClassId} {sh : Nat → Nat × Nat} {ad : Nat → Nat} {n : Nat} {M : Mm} {o k : Nat} {v : Int64} (ho : ok n sh o 9) : (cW cy sh ad n M).set o (ad o, .inl (cy 1, (sh o).2, .inr (.inl (vp_updL (M.2.1 o) k v)))) = cW cy sh ad n (sL M o k v) := by
  refine cW_set ho.1 ?_ (fun q hq => cE_cong rfl (sL_obj hq) rfl)
  rw [cE_long ho.2]
  have : (sL M o k v).2.1 o = vp_updL (M.2.1 o) k v := by
    funext j
    by_cases hj : j = k
    · subst hj
      rw [sL_same, pk_uLs]
    · rw [sL_place hj, pk_uLn hj]
  rw [this]
theorem cW_stR {cy : Nat → ClassId} {sh : Nat → Nat × Nat} {ad : Nat → Nat} {n : Nat} {M : Mm} {o k c q : Nat} (ho : ok n sh o (c + 8)) (hc : 2 ≤ c) : (cW cy sh ad n M).set o (ad o, .inl (cy c, (sh o).2, .inr (.inr (.inr (.inr (va_up (fun j => (M.2.2 o j).map ad) k (some (ad q)))))))) = cW cy sh ad n (sR M o k (some q)) := by
  refine cW_set ho.1 ?_ (fun q hq => cE_cong rfl rfl (sR_obj hq))
  rw [cE_ref ho.2 hc]
  have : (fun j => ((sR M o k (some q)).2.2 o j).map ad) = va_up (fun j => (M.2.2 o j).map ad) k (some (ad q)) := by
    funext j
    by_cases hj : j = k
    · subst hj
      simp [sR_same, va_up]
    · simp [sR_place hj, va_up, hj]
  rw [this]
section RR
variable {p : Program} {l : Launch} {e : Env} {R : Room} {s : State} {m : MethodId} {args : Array Value} {below : List Frame} {meth : Method} {c : Code} {H : Heap} {locs : List Loc} {cells slots : Nat} {Q : State → Prop}
variable {cc : ByteArray} {pc : Nat} {ls : Array Slot} {rest : List Value} {D : va_G} {A : Nat → Prop} {tys : List (ClassId × FieldType)} {H0 : Heap}
variable {cy : Nat → ClassId} {sh : Nat → Nat × Nat} {ad : Nat → Nat} {n : Nat} {M : Mm}
theorem r_getI (hexec : p.tables.exec = Jvm.exec) (hb : c.code = cc) {own ref C : String} {T : u_T} {N ci index : Nat} {Ts : List Cond} (hts : ∀ w ∈ Ts, w.before args s = true) (hin : ∀ w ∈ u_ws C T N, w ∈ Ts) (hown : s.vm.findClass own = some m.cls) (hK : va_K D vwCl tys s) (hw : Wd D cy sh ad n A H0 M H locs) (o k : Nat) (ho : ok n sh o ci) (h8 : ci < 8) (hc : vwCl[ci]? = some (C, T, N)) (hk : k < N) (ht : (fT ci)[k]? = some 0) (hlink : (Cond.fieldLink own index ref (T k).2.1 (T k).2.2.1).before args s = true) (hsame : ∀ x, s.fieldFound? (T k).1 (T k).2.1 (T k).2.2.1 = some x → s.fieldFound? ref (T k).2.1 (T k).2.2.1 = some x) (hdg : decode cc pc = .ok (.getfield index, 3))
    (kk : W p l e R s m args below meth c H locs cells slots Q (F0 m (pc + 3) ls (.int (M.1 o k) :: rest))) : W p l e R s m args below meth c H locs cells slots Q (F0 m pc ls (.ref (ad o) :: rest)) :=
  va_get hexec hb hts hin hown hK hw.1 o (by rw [cW_at ho.1, cE_obj ho.2 h8]) hc k hk hlink hsame (flds_at ht) hdg kk
theorem r_getL (hexec : p.tables.exec = Jvm.exec) (hb : c.code = cc) {own ref C : String} {T : u_T} {N ci index : Nat} {Ts : List Cond} (hts : ∀ w ∈ Ts, w.before args s = true) (hin : ∀ w ∈ u_ws C T N, w ∈ Ts) (hown : s.vm.findClass own = some m.cls) (hK : va_K D vwCl tys s) (hw : Wd D cy sh ad n A H0 M H locs) (o k : Nat) (ho : ok n sh o ci) (h8 : ci < 8) (hc : vwCl[ci]? = some (C, T, N)) (hk : k < N) (ht : (fT ci)[k]? = some 1) (hlink : (Cond.fieldLink own index ref (T k).2.1 (T k).2.2.1).before args s = true) (hsame : ∀ x, s.fieldFound? (T k).1 (T k).2.1 (T k).2.2.1 = some x → s.fieldFound? ref (T k).2.1 (T k).2.2.1 = some x) (hdg : decode cc pc = .ok (.getfield index, 3))
    (kk : W p l e R s m args below meth c H locs cells slots Q (F0 m (pc + 3) ls (.long (M.2.1 o k) :: rest))) : W p l e R s m args below meth c H locs cells slots Q (F0 m pc ls (.ref (ad o) :: rest)) :=
  va_get hexec hb hts hin hown hK hw.1 o (by rw [cW_at ho.1, cE_obj ho.2 h8]) hc k hk hlink hsame (flds_at ht) hdg kk
theorem r_getR (hexec : p.tables.exec = Jvm.exec) (hb : c.code = cc) {own ref C : String} {T : u_T} {N ci index : Nat} {Ts : List Cond} (hts : ∀ w ∈ Ts, w.before args s = true) (hin : ∀ w ∈ u_ws C T N, w ∈ Ts) (hown : s.vm.findClass own = some m.cls) (hK : va_K D vwCl tys s) (hw : Wd D cy sh ad n A H0 M H locs) (o k : Nat) (ho : ok n sh o ci) (h8 : ci < 8) (hc : vwCl[ci]? = some (C, T, N)) (hk : k < N) (ht : (fT ci)[k]? = some 2) (hlink : (Cond.fieldLink own index ref (T k).2.1 (T k).2.2.1).before args s = true) (hsame : ∀ x, s.fieldFound? (T k).1 (T k).2.1 (T k).2.2.1 = some x → s.fieldFound? ref (T k).2.1 (T k).2.2.1 = some x) (hdg : decode cc pc = .ok (.getfield index, 3)) {q : Nat} (hq : M.2.2 o k = some q)
    (kk : W p l e R s m args below meth c H locs cells slots Q (F0 m (pc + 3) ls (.ref (ad q) :: rest))) : W p l e R s m args below meth c H locs cells slots Q (F0 m pc ls (.ref (ad o) :: rest)) :=
  va_get hexec hb hts hin hown hK hw.1 o (by rw [cW_at ho.1, cE_obj ho.2 h8]) hc k hk hlink hsame (by rw [flds_at ht]; simp [fV, hq, va_rf]) hdg kk
theorem r_putI (hexec : p.tables.exec = Jvm.exec) (hb : c.code = cc) {own ref C : String} {T : u_T} {N ci index : Nat} {Ts : List Cond} (hts : ∀ w ∈ Ts, w.before args s = true) (hin : ∀ w ∈ u_ws C T N, w ∈ Ts) (ty0 : Nat → FieldType) (hty : ∀ k, k < N → parseFieldDescriptor (T k).2.2.1 = some (ty0 k)) (hnm : ∀ a, a < N → ∀ b, b < N → a ≠ b → (T a).2.1 ≠ (T b).2.1) (hown : s.vm.findClass own = some m.cls) (hK : va_K D vwCl tys s) (hw : Wd D cy sh ad n A H0 M H locs) (o k : Nat) (ho : ok n sh o ci) (h8 : ci < 8) (hc : vwCl[ci]? = some (C, T, N)) (hk : k < N) (ht : (fT ci)[k]? = some 0) (hlink : (Cond.fieldLink own index ref (T k).2.1 (T k).2.2.1).before args s = true) (hsame : ∀ x, s.fieldFound? (T k).1 (T k).2.1 (T k).2.2.1 = some x → s.fieldFound? ref (T k).2.1 (T k).2.2.1 = some x) (hfin : (T k).2.2.2 = false) {v : Int32} (hn : narrow (ty0 k) (.int v) = .int v) (hfit : fits (ty0 k) (.int v) = true) (hdg : decode cc pc = .ok (.putfield index, 3))
    (kk : ∀ (H1 : Heap) (locs1 : List Loc), Wd D cy sh ad n A H0 (sI M o k v) H1 locs1 → W p l e R s m args below meth c H1 locs1 cells slots Q (F0 m (pc + 3) ls rest)) : W p l e R s m args below meth c H locs cells slots Q (F0 m pc ls (.int v :: .ref (ad o) :: rest)) :=
  va_put hexec hb hts hin ty0 hty hnm hown hK hw.1 hw.2.1 hw.2.2 o (by rw [cW_at ho.1, cE_obj ho.2 h8]) hc k hk hlink hsame hfin (hty k hk) hn hfit (by rw [flds_len]; exact (List.getElem?_eq_some_iff.mp ht).1) hdg (fun H1 locs1 h1 h2 h3 => kk H1 locs1 (by rw [cW_putI ho h8 ht] at h1 h2; exact ⟨h1, h2, h3⟩))
theorem r_putL (hexec : p.tables.exec = Jvm.exec) (hb : c.code = cc) {own ref C : String} {T : u_T} {N ci index : Nat} {Ts : List Cond} (hts : ∀ w ∈ Ts, w.before args s = true) (hin : ∀ w ∈ u_ws C T N, w ∈ Ts) (ty0 : Nat → FieldType) (hty : ∀ k, k < N → parseFieldDescriptor (T k).2.2.1 = some (ty0 k)) (hnm : ∀ a, a < N → ∀ b, b < N → a ≠ b → (T a).2.1 ≠ (T b).2.1) (hown : s.vm.findClass own = some m.cls) (hK : va_K D vwCl tys s) (hw : Wd D cy sh ad n A H0 M H locs) (o k : Nat) (ho : ok n sh o ci) (h8 : ci < 8) (hc : vwCl[ci]? = some (C, T, N)) (hk : k < N) (ht : (fT ci)[k]? = some 1) (hlink : (Cond.fieldLink own index ref (T k).2.1 (T k).2.2.1).before args s = true) (hsame : ∀ x, s.fieldFound? (T k).1 (T k).2.1 (T k).2.2.1 = some x → s.fieldFound? ref (T k).2.1 (T k).2.2.1 = some x) (hfin : (T k).2.2.2 = false) {v : Int64} (hn : narrow (ty0 k) (.long v) = .long v) (hfit : fits (ty0 k) (.long v) = true) (hdg : decode cc pc = .ok (.putfield index, 3))
    (kk : ∀ (H1 : Heap) (locs1 : List Loc), Wd D cy sh ad n A H0 (sL M o k v) H1 locs1 → W p l e R s m args below meth c H1 locs1 cells slots Q (F0 m (pc + 3) ls rest)) : W p l e R s m args below meth c H locs cells slots Q (F0 m pc ls (.long v :: .ref (ad o) :: rest)) :=
  va_put hexec hb hts hin ty0 hty hnm hown hK hw.1 hw.2.1 hw.2.2 o (by rw [cW_at ho.1, cE_obj ho.2 h8]) hc k hk hlink hsame hfin (hty k hk) hn hfit (by rw [flds_len]; exact (List.getElem?_eq_some_iff.mp ht).1) hdg (fun H1 locs1 h1 h2 h3 => kk H1 locs1 (by rw [cW_putL ho h8 ht] at h1 h2; exact ⟨h1, h2, h3⟩))
theorem r_iald (hexec : p.tables.exec = Jvm.exec) (hb : c.code = cc) (hK : va_K D vwCl (tyW cy) s) (hw : Wd D cy sh ad n A H0 M H locs) (a : Nat) {i : Int32} (ho : okA n sh a 8 i) (hdg : decode cc pc = .ok (.iaload, 1))
    (kk : W p l e R s m args below meth c H locs cells slots Q (F0 m (pc + 1) ls (.int (M.1 a i.toNatClampNeg) :: rest))) : W p l e R s m args below meth c H locs cells slots Q (F0 m pc ls (.int i :: .ref (ad a) :: rest)) :=
  va_iald hexec hb hK hw.1 a 0 (by rw [cW_at ho.1.1, cE_int ho.1.2]) rfl ho.2 hdg kk
theorem r_lald (hexec : p.tables.exec = Jvm.exec) (hb : c.code = cc) (hK : va_K D vwCl (tyW cy) s) (hw : Wd D cy sh ad n A H0 M H locs) (a : Nat) {i : Int32} (ho : okA n sh a 9 i) (hdg : decode cc pc = .ok (.laload, 1))
    (kk : W p l e R s m args below meth c H locs cells slots Q (F0 m (pc + 1) ls (.long (M.2.1 a i.toNatClampNeg) :: rest))) : W p l e R s m args below meth c H locs cells slots Q (F0 m pc ls (.int i :: .ref (ad a) :: rest)) :=
  va_lald hexec hb hK hw.1 a 1 (by rw [cW_at ho.1.1, cE_long ho.1.2]) rfl ho.2 hdg kk
theorem r_aald (hexec : p.tables.exec = Jvm.exec) (hb : c.code = cc) (hK : va_K D vwCl (tyW cy) s) (hw : Wd D cy sh ad n A H0 M H locs) (a t : Nat) {C : String} {i : Int32} (h2 : 2 ≤ t) (ht : (tyW cy)[t]? = some (cy t, .object C)) (ho : okA n sh a (t + 8) i) (hdg : decode cc pc = .ok (.aaload, 1)) {q : Nat} (hq : M.2.2 a i.toNatClampNeg = some q)
    (kk : W p l e R s m args below meth c H locs cells slots Q (F0 m (pc + 1) ls (.ref (ad q) :: rest))) : W p l e R s m args below meth c H locs cells slots Q (F0 m pc ls (.int i :: .ref (ad a) :: rest)) :=
  va_aldq hexec hb hK hw.1 a t (by rw [cW_at ho.1.1, cE_ref ho.1.2 h2]) ht ho.2 hdg (by simp only [hq]; exact kk)
theorem r_iast (hexec : p.tables.exec = Jvm.exec) (hb : c.code = cc) (hK : va_K D vwCl (tyW cy) s) (hw : Wd D cy sh ad n A H0 M H locs) (a : Nat) {i x : Int32} (ho : okA n sh a 8 i) (hdg : decode cc pc = .ok (.iastore, 1))
    (kk : ∀ (H1 : Heap) (locs1 : List Loc), Wd D cy sh ad n A H0 (sI M a i.toNatClampNeg x) H1 locs1 → W p l e R s m args below meth c H1 locs1 cells slots Q (F0 m (pc + 1) ls rest)) : W p l e R s m args below meth c H locs cells slots Q (F0 m pc ls (.int x :: .int i :: .ref (ad a) :: rest)) :=
  va_iast hexec hb hK hw.1 hw.2.1 hw.2.2 a 0 (by rw [cW_at ho.1.1, cE_int ho.1.2]) rfl ho.2 hdg (fun H1 locs1 h1 h2 h3 => kk H1 locs1 (by rw [cW_stI ho.1] at h1 h2; exact ⟨h1, h2, h3⟩))
theorem r_last (hexec : p.tables.exec = Jvm.exec) (hb : c.code = cc) (hK : va_K D vwCl (tyW cy) s) (hw : Wd D cy sh ad n A H0 M H locs) (a : Nat) {i : Int32} {x : Int64} (ho : okA n sh a 9 i) (hdg : decode cc pc = .ok (.lastore, 1))
    (kk : ∀ (H1 : Heap) (locs1 : List Loc), Wd D cy sh ad n A H0 (sL M a i.toNatClampNeg x) H1 locs1 → W p l e R s m args below meth c H1 locs1 cells slots Q (F0 m (pc + 1) ls rest)) : W p l e R s m args below meth c H locs cells slots Q (F0 m pc ls (.long x :: .int i :: .ref (ad a) :: rest)) :=
  va_last hexec hb hK hw.1 hw.2.1 hw.2.2 a 1 (by rw [cW_at ho.1.1, cE_long ho.1.2]) rfl ho.2 hdg (fun H1 locs1 h1 h2 h3 => kk H1 locs1 (by rw [cW_stL ho.1] at h1 h2; exact ⟨h1, h2, h3⟩))
theorem r_aast (hexec : p.tables.exec = Jvm.exec) (hb : c.code = cc) (hK : va_K D vwCl (tyW cy) s) (hw : Wd D cy sh ad n A H0 M H locs) (a t q ci : Nat) {r : vw_C} {i : Int32} (h2 : 2 ≤ t) (ht : (tyW cy)[t]? = some (cy t, .object r.1)) (ho : okA n sh a (t + 8) i) (hq : ok n sh q ci) (h8 : ci < 8) (hc : vwCl[ci]? = some r) (hdg : decode cc pc = .ok (.aastore, 1))
    (kk : ∀ (H1 : Heap) (locs1 : List Loc), Wd D cy sh ad n A H0 (sR M a i.toNatClampNeg (some q)) H1 locs1 → W p l e R s m args below meth c H1 locs1 cells slots Q (F0 m (pc + 1) ls rest)) : W p l e R s m args below meth c H locs cells slots Q (F0 m pc ls (.ref (ad q) :: .int i :: .ref (ad a) :: rest)) :=
  va_astq hexec hb hK hw.1 hw.2.1 hw.2.2 a t q ci (by rw [cW_at ho.1.1, cE_ref ho.1.2 h2]) ht (by rw [cW_at hq.1, cE_obj hq.2 h8]) hc ho.2 hdg (fun H1 locs1 h1 h2' h3 => kk H1 locs1 (by rw [cW_stR ho.1 h2] at h1 h2'; exact ⟨h1, h2', h3⟩))
end RR
end
section
/-! the text constants, by their places -/
def lenJS : List Nat := [4, 3, 5, 6, 4, 3, 4, 5, 4, 5, 3]
def bytJS : List (List Int32) := [[115, 105, 100, 101], [116, 114, 121], [115, 112, 97, 114, 101], [99, 104, 111, 111, 115, 101], [102, 101, 101, 100], [98, 97, 114], [116, 111, 108, 100], [116, 101, 108, 108, 115], [103, 97, 109, 101], [119, 111, 114, 116, 104], [108, 97, 119]]
def strs : List (String × Nat × String × Nat) := [(RX4, 97, "side", 0), (RX4, 99, "try", 1), (RX4, 101, "spare", 2), (RX4, 103, "choose", 3), (RX4, 105, "feed", 4), (RX4, 107, "bar", 5), (RX4, 109, "told", 6), (RX4, 69, "tells", 7), (RX4, 46, "game", 8), (RX4, 82, "worth", 9), (RX4, 55, "law", 10), (RX7, 189, "law", 10), (RX7, 191, "game", 8), (RX7, 187, "worth", 9), (RX7, 197, "side", 0), (RX7, 199, "try", 1), (RX7, 201, "spare", 2), (RX7, 203, "choose", 3), (RX7, 205, "feed", 4), (RX7, 207, "bar", 5), (RX7, 209, "told", 6), (RX7, 182, "tells", 7)]
def slen (i : Nat) : Int32 := nI (lenJS.getD i 0)
def sch (i : Nat) (k : Int32) : Int32 := (bytJS.getD i []).getD k.toNatClampNeg 0
theorem stm0 : (RX4, 97, "side", 0) ∈ strs := List.mem_of_getElem? (i := 0) rfl
theorem stm1 : (RX4, 99, "try", 1) ∈ strs := List.mem_of_getElem? (i := 1) rfl
theorem stm2 : (RX4, 101, "spare", 2) ∈ strs := List.mem_of_getElem? (i := 2) rfl
theorem stm3 : (RX4, 103, "choose", 3) ∈ strs := List.mem_of_getElem? (i := 3) rfl
theorem stm4 : (RX4, 105, "feed", 4) ∈ strs := List.mem_of_getElem? (i := 4) rfl
theorem stm5 : (RX4, 107, "bar", 5) ∈ strs := List.mem_of_getElem? (i := 5) rfl
theorem stm6 : (RX4, 109, "told", 6) ∈ strs := List.mem_of_getElem? (i := 6) rfl
theorem stm7 : (RX4, 69, "tells", 7) ∈ strs := List.mem_of_getElem? (i := 7) rfl
theorem stm8 : (RX4, 46, "game", 8) ∈ strs := List.mem_of_getElem? (i := 8) rfl
theorem stm9 : (RX4, 82, "worth", 9) ∈ strs := List.mem_of_getElem? (i := 9) rfl
theorem stm10 : (RX4, 55, "law", 10) ∈ strs := List.mem_of_getElem? (i := 10) rfl
theorem stm11 : (RX7, 189, "law", 10) ∈ strs := List.mem_of_getElem? (i := 11) rfl
theorem stm12 : (RX7, 191, "game", 8) ∈ strs := List.mem_of_getElem? (i := 12) rfl
theorem stm13 : (RX7, 187, "worth", 9) ∈ strs := List.mem_of_getElem? (i := 13) rfl
theorem stm14 : (RX7, 197, "side", 0) ∈ strs := List.mem_of_getElem? (i := 14) rfl
theorem stm15 : (RX7, 199, "try", 1) ∈ strs := List.mem_of_getElem? (i := 15) rfl
theorem stm16 : (RX7, 201, "spare", 2) ∈ strs := List.mem_of_getElem? (i := 16) rfl
theorem stm17 : (RX7, 203, "choose", 3) ∈ strs := List.mem_of_getElem? (i := 17) rfl
theorem stm18 : (RX7, 205, "feed", 4) ∈ strs := List.mem_of_getElem? (i := 18) rfl
theorem stm19 : (RX7, 207, "bar", 5) ∈ strs := List.mem_of_getElem? (i := 19) rfl
theorem stm20 : (RX7, 209, "told", 6) ∈ strs := List.mem_of_getElem? (i := 20) rfl
theorem stm21 : (RX7, 182, "tells", 7) ∈ strs := List.mem_of_getElem? (i := 21) rfl
def Zs (adK adV : Nat → Nat) (A : Nat → Prop) (U : State) : Prop := vk_S 11 lenJS bytJS adK adV A U U.heap ∧ (∀ q ∈ strs, vk_R q.1 q.2.1 q.2.2.1 (adK q.2.2.2) U) ∧ va_Z "java/lang/String" "COMPACT_STRINGS" "Z" (.int 1) A U U.heap ∧ va_Zq "jdk/internal/util/Preconditions" "SIOOBE_FORMATTER" "Ljava/util/function/BiFunction;" A U U.heap
theorem Zs.at {adK adV : Nat → Nat} {A : Nat → Prop} {s U : State} (h : Zs adK adV A s) (hW : s.WarmedH U.vm) (hk : ∀ q : Nat, q < s.heap.size → ¬ A q → U.heap[q]? = s.heap[q]?) : Zs adK adV A U := ⟨(h.1.kept hk).moved hW.alike, fun q hq => (h.2.1 q hq).warm hW, (h.2.2.1.kept hk).moved hW.alike, (h.2.2.2.kept hk).moved hW.alike⟩
theorem Zs.narrow {adK adV : Nat → Nat} {A B : Nat → Prop} {s : State} (h : Zs adK adV A s) (hAB : ∀ q, B q → A q) : Zs adK adV B s := ⟨h.1.narrow hAB, h.2.1, h.2.2.1.narrow hAB, h.2.2.2.narrow hAB⟩
theorem Zs.str {adK adV : Nat → Nat} {A : Nat → Prop} {s : State} (h : Zs adK adV A s) {own tx : String} {k i : Nat} (hm : (own, k, tx, i) ∈ strs) : vk_R own k tx (adK i) s := h.2.1 _ hm
def Aw (ad : Nat → Nat) (n : Nat) : Nat → Prop := fun q => ∃ o, o < n ∧ q = ad o
def Pre (D : va_G) (cy : Nat → ClassId) (sh : Nat → Nat × Nat) (ad : Nat → Nat) (n : Nat) (adK adV : Nat → Nat) (M : Mm) (U : State) : Prop := va_P D vwCl (cW cy sh ad n M) U.heap ∧ va_K D vwCl (tyW cy) U ∧ va_D (Aw ad n) (cW cy sh ad n M) ∧ Zs adK adV (Aw ad n) U
def lt {α β : Type} (a : α) (k : α → β) : β := k a
theorem lt_some {α β : Type} {a : α} {k : α → β} {r : β} (h : lt a k = r) : ∃ x, x = a ∧ k x = r := ⟨a, rfl, h⟩
theorem pre_at {D : va_G} {cy : Nat → ClassId} {sh : Nat → Nat × Nat} {ad : Nat → Nat} {n : Nat} {adK adV : Nat → Nat} {M : Mm} {s U : State} {H : Heap} {locs : List Loc} (hZ : Zs adK adV (Aw ad n) s) (hK : va_K D vwCl (tyW cy) s) (hw : Wd D cy sh ad n (Aw ad n) s.heap M H locs) (hU : U.heap = H) (hW : s.WarmedH U.vm) : Pre D cy sh ad n adK adV M U :=
  ⟨by rw [hU]; exact hw.1, va_K.moved hW.alike hK, hw.2.1, hZ.at hW (fun q h1 h2 => by rw [hU]; exact hw.2.2.2.1 q h1 h2)⟩
theorem pre_blind {D : va_G} {cy : Nat → ClassId} {sh : Nat → Nat × Nat} {ad : Nat → Nat} {n : Nat} {adK adV : Nat → Nat} {M : Mm} {av : List Value} : FrameBlind (va_Pc av (Pre D cy sh ad n adK adV M)) := by
  intro a U g mk q
  obtain ⟨q0, q1, q2, q3, q4⟩ := q
  exact ⟨q0, q1, va_K.moved (u := U) (U := U.calling g mk a) (Vm.Alike.refl U.vm) q2, q3, vk_S.moved (u := U) (U := U.calling g mk a) (Vm.Alike.refl U.vm) q4.1, fun z hz => vk_R.same (u := U) (U := U.calling g mk a) rfl (q4.2.1 z hz), va_Z.moved (u := U) (U := U.calling g mk a) (Vm.Alike.refl U.vm) q4.2.2.1, va_Zq.moved (u := U) (U := U.calling g mk a) (Vm.Alike.refl U.vm) q4.2.2.2⟩
theorem tsw_out {x : Int32} {lo hi : Int} (h : ∀ c : Int, lo ≤ c → c ≤ hi → ¬ x = Int32.ofInt c) : x.toInt < lo ∨ hi < x.toInt := by
  by_cases h1 : x.toInt < lo
  · exact Or.inl h1
  · by_cases h2 : hi < x.toInt
    · exact Or.inr h2
    · exact absurd (Int32.ofInt_toInt x).symm (h x.toInt (by omega) (by omega))
section CC
variable {p : Program} {l : Launch} {e : Env} {R : Room} {s : State} {m : MethodId} {args : Array Value} {below : List Frame} {meth : Method} {c : Code} {H : Heap} {locs : List Loc} {cells slots : Nat} {Q : State → Prop}
variable {cc : ByteArray} {pc : Nat} {ls : Array Slot} {rest st0 : List Value} {D : va_G} {H0 : Heap}
variable {cy : Nat → ClassId} {sh : Nat → Nat × Nat} {ad : Nat → Nat} {n : Nat} {adK adV : Nat → Nat} {M : Mm}
variable {y : MethodName} {bytes : ByteArray} {maxL nL na index : Nat} {ret : Option FieldType} {rm : Room} {Ts : List Cond} {own : String} {As : List Value}
theorem r_callVi (hF : CallFix p m c cc nL s args Ts own) {o ci : Nat} {C : String} {T : u_T} {N : Nat} {res : Mm × Int32} (hM : Met l y (wU y bytes maxL ret) rm (va_Pc (.ref (ad o) :: As) (Pre D cy sh ad n adK adV M)) (va_Qi (fun r (M2 : Mm) => r = res.2 ∧ M2 = res.1) (Pre D cy sh ad n adK adV) (Aw ad n)) 0 0 (Aw ad n)) (hG : GoodIn Ts (wsV own index C y (wU y bytes maxL ret))) (hd : y.cls ≠ "java/lang/invoke/MethodHandle" ∧ y.cls ≠ "java/lang/invoke/VarHandle" ∧ (parseMethodDescriptor y.desc).map (fun d => d.parameters.length) = some na) (hyc : y.cls = C) (hR : rm.frames + 1 ≤ R.frames ∧ 8 + (maxL + 11) + rm.locals ≤ R.locals) (hrc : rm.cells = 0) (hrs : rm.slots = 0) (hZ : Zs adK adV (Aw ad n) s) (hK : va_K D vwCl (tyW cy) s) (hw : Wd D cy sh ad n (Aw ad n) s.heap M H locs) (ho : ok n sh o ci) (h8 : ci < 8) (hc : vwCl[ci]? = some (C, T, N)) (hn : As.length = na) (hsize : ls.size = nL) (hst : st0 = As.reverse ++ .ref (ad o) :: rest) (hrm : (rest.map fun v => v.category).sum ≤ 8) (hf : cells ≤ R.cells ∧ slots ≤ R.slots) (hdg : decode cc pc = .ok (.invokevirtual index, 3))
    (kk : ∀ (H1 : Heap) (locs1 : List Loc), Wd D cy sh ad n (Aw ad n) s.heap res.1 H1 locs1 → W p l e R s m args below meth c H1 locs1 cells slots Q (F0 m (pc + 3) ls (.int res.2 :: rest))) : W p l e R s m args below meth c H locs cells slots Q (F0 m pc ls st0) := by
  refine va_calli (va_runV (As := As) (rest := rest) hF hM (cwV na hF.2.2.2.2 hG rfl hrc hrs ⟨hyc, hd⟩ hR) ⟨pre_blind, va_recv hK hw.1 hc (q0 := o) (by rw [cW_at ho.1, cE_obj ho.2 h8]), fun U hU hW => ⟨rfl, pre_at hZ hK hw hU hW⟩⟩ rfl hn hsize hst (lv_room hrm) hdg hf) hw.2.2 (fun q _ h => h) (fun q h => h) (fun r u t H1 locs1 ht hvm hp hB hz1 hk1 hS => ?_)
  obtain ⟨rfl, rfl⟩ := hp
  exact kk H1 locs1 ⟨by rw [← ht]; exact hB.1, hB.2.2.1, hS⟩
theorem r_callVl (hF : CallFix p m c cc nL s args Ts own) {o ci : Nat} {C : String} {T : u_T} {N : Nat} {res : Mm × Int64} (hM : Met l y (wU y bytes maxL ret) rm (va_Pc (.ref (ad o) :: As) (Pre D cy sh ad n adK adV M)) (va_Ql (fun r (M2 : Mm) => r = res.2 ∧ M2 = res.1) (Pre D cy sh ad n adK adV) (Aw ad n)) 0 0 (Aw ad n)) (hG : GoodIn Ts (wsV own index C y (wU y bytes maxL ret))) (hd : y.cls ≠ "java/lang/invoke/MethodHandle" ∧ y.cls ≠ "java/lang/invoke/VarHandle" ∧ (parseMethodDescriptor y.desc).map (fun d => d.parameters.length) = some na) (hyc : y.cls = C) (hR : rm.frames + 1 ≤ R.frames ∧ 8 + (maxL + 11) + rm.locals ≤ R.locals) (hrc : rm.cells = 0) (hrs : rm.slots = 0) (hZ : Zs adK adV (Aw ad n) s) (hK : va_K D vwCl (tyW cy) s) (hw : Wd D cy sh ad n (Aw ad n) s.heap M H locs) (ho : ok n sh o ci) (h8 : ci < 8) (hc : vwCl[ci]? = some (C, T, N)) (hn : As.length = na) (hsize : ls.size = nL) (hst : st0 = As.reverse ++ .ref (ad o) :: rest) (hrm : (rest.map fun v => v.category).sum ≤ 8) (hf : cells ≤ R.cells ∧ slots ≤ R.slots) (hdg : decode cc pc = .ok (.invokevirtual index, 3))
    (kk : ∀ (H1 : Heap) (locs1 : List Loc), Wd D cy sh ad n (Aw ad n) s.heap res.1 H1 locs1 → W p l e R s m args below meth c H1 locs1 cells slots Q (F0 m (pc + 3) ls (.long res.2 :: rest))) : W p l e R s m args below meth c H locs cells slots Q (F0 m pc ls st0) := by
  refine va_calll (va_runV (As := As) (rest := rest) hF hM (cwV na hF.2.2.2.2 hG rfl hrc hrs ⟨hyc, hd⟩ hR) ⟨pre_blind, va_recv hK hw.1 hc (q0 := o) (by rw [cW_at ho.1, cE_obj ho.2 h8]), fun U hU hW => ⟨rfl, pre_at hZ hK hw hU hW⟩⟩ rfl hn hsize hst (lv_room hrm) hdg hf) hw.2.2 (fun q _ h => h) (fun q h => h) (fun r u t H1 locs1 ht hvm hp hB hz1 hk1 hS => ?_)
  obtain ⟨rfl, rfl⟩ := hp
  exact kk H1 locs1 ⟨by rw [← ht]; exact hB.1, hB.2.2.1, hS⟩
theorem r_callVv (hF : CallFix p m c cc nL s args Ts own) {o ci : Nat} {C : String} {T : u_T} {N : Nat} {res : Mm × Unit} (hM : Met l y (wU y bytes maxL ret) rm (va_Pc (.ref (ad o) :: As) (Pre D cy sh ad n adK adV M)) (va_Qv (fun (M2 : Mm) => M2 = res.1) (Pre D cy sh ad n adK adV) (Aw ad n)) 0 0 (Aw ad n)) (hG : GoodIn Ts (wsV own index C y (wU y bytes maxL ret))) (hd : y.cls ≠ "java/lang/invoke/MethodHandle" ∧ y.cls ≠ "java/lang/invoke/VarHandle" ∧ (parseMethodDescriptor y.desc).map (fun d => d.parameters.length) = some na) (hyc : y.cls = C) (hR : rm.frames + 1 ≤ R.frames ∧ 8 + (maxL + 11) + rm.locals ≤ R.locals) (hrc : rm.cells = 0) (hrs : rm.slots = 0) (hZ : Zs adK adV (Aw ad n) s) (hK : va_K D vwCl (tyW cy) s) (hw : Wd D cy sh ad n (Aw ad n) s.heap M H locs) (ho : ok n sh o ci) (h8 : ci < 8) (hc : vwCl[ci]? = some (C, T, N)) (hn : As.length = na) (hsize : ls.size = nL) (hst : st0 = As.reverse ++ .ref (ad o) :: rest) (hrm : (rest.map fun v => v.category).sum ≤ 8) (hf : cells ≤ R.cells ∧ slots ≤ R.slots) (hdg : decode cc pc = .ok (.invokevirtual index, 3))
    (kk : ∀ (H1 : Heap) (locs1 : List Loc), Wd D cy sh ad n (Aw ad n) s.heap res.1 H1 locs1 → W p l e R s m args below meth c H1 locs1 cells slots Q (F0 m (pc + 3) ls rest)) : W p l e R s m args below meth c H locs cells slots Q (F0 m pc ls st0) := by
  refine va_callv (va_runV (As := As) (rest := rest) hF hM (cwV na hF.2.2.2.2 hG rfl hrc hrs ⟨hyc, hd⟩ hR) ⟨pre_blind, va_recv hK hw.1 hc (q0 := o) (by rw [cW_at ho.1, cE_obj ho.2 h8]), fun U hU hW => ⟨rfl, pre_at hZ hK hw hU hW⟩⟩ rfl hn hsize hst (lv_room hrm) hdg hf) hw.2.2 (fun q _ h => h) (fun q h => h) (fun u t H1 locs1 ht hvm hp hB hz1 hk1 hS => ?_)
  subst hp
  exact kk H1 locs1 ⟨by rw [← ht]; exact hB.1, hB.2.2.1, hS⟩
theorem r_callSi (hF : CallFix p m c cc nL s args Ts own) {res : Mm × Int32} (hM : Met l y (wU y bytes maxL ret) rm (va_Pc As (Pre D cy sh ad n adK adV M)) (va_Qi (fun r (M2 : Mm) => r = res.2 ∧ M2 = res.1) (Pre D cy sh ad n adK adV) (Aw ad n)) 0 0 (Aw ad n)) (hG : GoodIn Ts (va_wsS own index y (wU y bytes maxL ret))) (hd : y.cls ≠ "java/lang/invoke/MethodHandle" ∧ y.cls ≠ "java/lang/invoke/VarHandle" ∧ (parseMethodDescriptor y.desc).map (fun d => d.parameters.length) = some na) (hR : rm.frames + 1 ≤ R.frames ∧ 8 + (maxL + 11) + rm.locals ≤ R.locals) (hrc : rm.cells = 0) (hrs : rm.slots = 0) (hZ : Zs adK adV (Aw ad n) s) (hK : va_K D vwCl (tyW cy) s) (hw : Wd D cy sh ad n (Aw ad n) s.heap M H locs) (hn : As.length = na) (hsize : ls.size = nL) (hst : st0 = As.reverse ++ rest) (hrm : (rest.map fun v => v.category).sum ≤ 8) (hf : cells ≤ R.cells ∧ slots ≤ R.slots) (hdg : decode cc pc = .ok (.invokestatic index, 3))
    (kk : ∀ (H1 : Heap) (locs1 : List Loc), Wd D cy sh ad n (Aw ad n) s.heap res.1 H1 locs1 → W p l e R s m args below meth c H1 locs1 cells slots Q (F0 m (pc + 3) ls (.int res.2 :: rest))) : W p l e R s m args below meth c H locs cells slots Q (F0 m pc ls st0) := by
  refine va_calli (va_runS (As := As) (rest := rest) hF hM (va_cwS na hF.2.2.2.2 hG rfl hrc hrs hd hR) ⟨pre_blind, fun U hU hW => ⟨rfl, pre_at hZ hK hw hU hW⟩⟩ rfl hn hsize hst (lv_room hrm) hdg hf) hw.2.2 (fun q _ h => h) (fun q h => h) (fun r u t H1 locs1 ht hvm hp hB hz1 hk1 hS => ?_)
  obtain ⟨rfl, rfl⟩ := hp
  exact kk H1 locs1 ⟨by rw [← ht]; exact hB.1, hB.2.2.1, hS⟩
theorem r_callSl (hF : CallFix p m c cc nL s args Ts own) {res : Mm × Int64} (hM : Met l y (wU y bytes maxL ret) rm (va_Pc As (Pre D cy sh ad n adK adV M)) (va_Ql (fun r (M2 : Mm) => r = res.2 ∧ M2 = res.1) (Pre D cy sh ad n adK adV) (Aw ad n)) 0 0 (Aw ad n)) (hG : GoodIn Ts (va_wsS own index y (wU y bytes maxL ret))) (hd : y.cls ≠ "java/lang/invoke/MethodHandle" ∧ y.cls ≠ "java/lang/invoke/VarHandle" ∧ (parseMethodDescriptor y.desc).map (fun d => d.parameters.length) = some na) (hR : rm.frames + 1 ≤ R.frames ∧ 8 + (maxL + 11) + rm.locals ≤ R.locals) (hrc : rm.cells = 0) (hrs : rm.slots = 0) (hZ : Zs adK adV (Aw ad n) s) (hK : va_K D vwCl (tyW cy) s) (hw : Wd D cy sh ad n (Aw ad n) s.heap M H locs) (hn : As.length = na) (hsize : ls.size = nL) (hst : st0 = As.reverse ++ rest) (hrm : (rest.map fun v => v.category).sum ≤ 8) (hf : cells ≤ R.cells ∧ slots ≤ R.slots) (hdg : decode cc pc = .ok (.invokestatic index, 3))
    (kk : ∀ (H1 : Heap) (locs1 : List Loc), Wd D cy sh ad n (Aw ad n) s.heap res.1 H1 locs1 → W p l e R s m args below meth c H1 locs1 cells slots Q (F0 m (pc + 3) ls (.long res.2 :: rest))) : W p l e R s m args below meth c H locs cells slots Q (F0 m pc ls st0) := by
  refine va_calll (va_runS (As := As) (rest := rest) hF hM (va_cwS na hF.2.2.2.2 hG rfl hrc hrs hd hR) ⟨pre_blind, fun U hU hW => ⟨rfl, pre_at hZ hK hw hU hW⟩⟩ rfl hn hsize hst (lv_room hrm) hdg hf) hw.2.2 (fun q _ h => h) (fun q h => h) (fun r u t H1 locs1 ht hvm hp hB hz1 hk1 hS => ?_)
  obtain ⟨rfl, rfl⟩ := hp
  exact kk H1 locs1 ⟨by rw [← ht]; exact hB.1, hB.2.2.1, hS⟩
theorem r_callSv (hF : CallFix p m c cc nL s args Ts own) {res : Mm × Unit} (hM : Met l y (wU y bytes maxL ret) rm (va_Pc As (Pre D cy sh ad n adK adV M)) (va_Qv (fun (M2 : Mm) => M2 = res.1) (Pre D cy sh ad n adK adV) (Aw ad n)) 0 0 (Aw ad n)) (hG : GoodIn Ts (va_wsS own index y (wU y bytes maxL ret))) (hd : y.cls ≠ "java/lang/invoke/MethodHandle" ∧ y.cls ≠ "java/lang/invoke/VarHandle" ∧ (parseMethodDescriptor y.desc).map (fun d => d.parameters.length) = some na) (hR : rm.frames + 1 ≤ R.frames ∧ 8 + (maxL + 11) + rm.locals ≤ R.locals) (hrc : rm.cells = 0) (hrs : rm.slots = 0) (hZ : Zs adK adV (Aw ad n) s) (hK : va_K D vwCl (tyW cy) s) (hw : Wd D cy sh ad n (Aw ad n) s.heap M H locs) (hn : As.length = na) (hsize : ls.size = nL) (hst : st0 = As.reverse ++ rest) (hrm : (rest.map fun v => v.category).sum ≤ 8) (hf : cells ≤ R.cells ∧ slots ≤ R.slots) (hdg : decode cc pc = .ok (.invokestatic index, 3))
    (kk : ∀ (H1 : Heap) (locs1 : List Loc), Wd D cy sh ad n (Aw ad n) s.heap res.1 H1 locs1 → W p l e R s m args below meth c H1 locs1 cells slots Q (F0 m (pc + 3) ls rest)) : W p l e R s m args below meth c H locs cells slots Q (F0 m pc ls st0) := by
  refine va_callv (va_runS (As := As) (rest := rest) hF hM (va_cwS na hF.2.2.2.2 hG rfl hrc hrs hd hR) ⟨pre_blind, fun U hU hW => ⟨rfl, pre_at hZ hK hw hU hW⟩⟩ rfl hn hsize hst (lv_room hrm) hdg hf) hw.2.2 (fun q _ h => h) (fun q h => h) (fun u t H1 locs1 ht hvm hp hB hz1 hk1 hS => ?_)
  subst hp
  exact kk H1 locs1 ⟨by rw [← ht]; exact hB.1, hB.2.2.1, hS⟩
theorem r_iret {v : Int32} {res : Mm × Int32} (hx : p.tables.exec = Jvm.exec) (hb : c.code = cc) {ty : FieldType} (hr : meth.sig.returnType = some ty) (hn : narrow ty (.int v) = .int v) (hlocks : meth.locks = false) (hZ : Zs adK adV (Aw ad n) s) (hK : va_K D vwCl (tyW cy) s) (hw : Wd D cy sh ad n (Aw ad n) s.heap M H locs) (h : some (M, v) = some res) (hdg : decode cc pc = .ok (.ireturn, 1)) : W p l e R s m args below meth c H locs 0 0 (MQ below (va_Qi (fun r (M2 : Mm) => r = res.2 ∧ M2 = res.1) (Pre D cy sh ad n adK adV) (Aw ad n)) args s 0 0 (Aw ad n)) (F0 m pc ls [.int v]) :=
  W.zret (v := v) hx hb hr hn (fun t ht hW => ⟨⟨v, M, rfl, ⟨congrArg Prod.snd (Option.some.inj h), congrArg Prod.fst (Option.some.inj h)⟩, pre_at hZ hK hw ht hW⟩, hw.2.2.F ht⟩) hw.2.2.2.2 hdg hlocks
theorem r_lret {v : Int64} {res : Mm × Int64} (hx : p.tables.exec = Jvm.exec) (hb : c.code = cc) (hr : meth.sig.returnType = some .long) (hlocks : meth.locks = false) (hZ : Zs adK adV (Aw ad n) s) (hK : va_K D vwCl (tyW cy) s) (hw : Wd D cy sh ad n (Aw ad n) s.heap M H locs) (h : some (M, v) = some res) (hdg : decode cc pc = .ok (.lreturn, 1)) : W p l e R s m args below meth c H locs 0 0 (MQ below (va_Ql (fun r (M2 : Mm) => r = res.2 ∧ M2 = res.1) (Pre D cy sh ad n adK adV) (Aw ad n)) args s 0 0 (Aw ad n)) (F0 m pc ls [.long v]) :=
  W.lret (v := v) hx hb hr (fun t ht hW => ⟨⟨v, M, rfl, ⟨congrArg Prod.snd (Option.some.inj h), congrArg Prod.fst (Option.some.inj h)⟩, pre_at hZ hK hw ht hW⟩, hw.2.2.F ht⟩) hw.2.2.2.2 hdg hlocks
theorem r_vret {res : Mm × Unit} (hx : p.tables.exec = Jvm.exec) (hb : c.code = cc) (hr : meth.sig.returnType = none) (hlocks : meth.locks = false) (hZ : Zs adK adV (Aw ad n) s) (hK : va_K D vwCl (tyW cy) s) (hw : Wd D cy sh ad n (Aw ad n) s.heap M H locs) (h : some (M, ()) = some res) (hdg : decode cc pc = .ok (.return_, 1)) : W p l e R s m args below meth c H locs 0 0 (MQ below (va_Qv (fun (M2 : Mm) => M2 = res.1) (Pre D cy sh ad n adK adV) (Aw ad n)) args s 0 0 (Aw ad n)) (F0 m pc ls []) :=
  W.vret hx hb hr (fun t ht hW => ⟨⟨M, rfl, congrArg Prod.fst (Option.some.inj h), pre_at hZ hK hw ht hW⟩, hw.2.2.F ht⟩) hw.2.2.2.2 hdg hlocks
end CC
theorem lt_at {α β : Type} {a x : α} {k : α → β} {r : β} (e : x = a) (h : lt a k = r) : k x = r := by
  subst e
  exact h
theorem nar_bz {v : Int32} (h : bz v) : narrow .boolean (.int v) = .int v := by
  rcases h with rfl | rfl <;> rfl
theorem fit_bz {v : Int32} (h : bz v) : fits .boolean (.int v) = true := by
  rcases h with rfl | rfl <;> rfl
abbrev QI (D : va_G) (cy : Nat → ClassId) (sh : Nat → Nat × Nat) (ad : Nat → Nat) (n : Nat) (adK adV : Nat → Nat) (below : List Frame) (args : Array Value) (s : State) (res : Mm × Int32) : State → Prop := MQ below (va_Qi (fun r (M2 : Mm) => r = res.2 ∧ M2 = res.1) (Pre D cy sh ad n adK adV) (Aw ad n)) args s 0 0 (Aw ad n)
abbrev QL (D : va_G) (cy : Nat → ClassId) (sh : Nat → Nat × Nat) (ad : Nat → Nat) (n : Nat) (adK adV : Nat → Nat) (below : List Frame) (args : Array Value) (s : State) (res : Mm × Int64) : State → Prop := MQ below (va_Ql (fun r (M2 : Mm) => r = res.2 ∧ M2 = res.1) (Pre D cy sh ad n adK adV) (Aw ad n)) args s 0 0 (Aw ad n)
abbrev QV (D : va_G) (cy : Nat → ClassId) (sh : Nat → Nat × Nat) (ad : Nat → Nat) (n : Nat) (adK adV : Nat → Nat) (below : List Frame) (args : Array Value) (s : State) (res : Mm × Unit) : State → Prop := MQ below (va_Qv (fun (M2 : Mm) => M2 = res.1) (Pre D cy sh ad n adK adV) (Aw ad n)) args s 0 0 (Aw ad n)
/-- the objects of the class's world, in the order in which they are made: kind, length -/
def tX : List (Nat × Nat) :=
  [(6, 0),
   (1, 0), (10, 6), (11, 8), (8, 10), (3, 0), (3, 0), (3, 0), (3, 0), (3, 0), (3, 0), (0, 0), (0, 0), (0, 0), (0, 0), (0, 0), (0, 0), (0, 0), (0, 0),
   (1, 0), (10, 6), (11, 8), (8, 10), (3, 0), (3, 0), (3, 0), (3, 0), (3, 0), (3, 0), (0, 0), (0, 0), (0, 0), (0, 0), (0, 0), (0, 0), (0, 0), (0, 0),
   (5, 0),
   (1, 0), (10, 6), (11, 8), (8, 10), (3, 0), (3, 0), (3, 0), (3, 0), (3, 0), (3, 0), (0, 0), (0, 0), (0, 0), (0, 0), (0, 0), (0, 0), (0, 0), (0, 0),
   (9, 6), (9, 6), (9, 8), (9, 8), (9, 6),
   (4, 0), (8, 120), (12, 4), (8, 7), (2, 0), (8, 40), (2, 0), (8, 40), (2, 0), (8, 40), (2, 0), (8, 40)]
def shX (o : Nat) : Nat × Nat := tX.getD o (99, 0)
abbrev nX : Nat := 73
def tM : List (Nat × Nat) :=
  [(7, 0), (8, 89), (8, 89), (8, 89), (8, 7), (8, 120), (9, 48), (9, 8), (9, 6), (9, 6), (8, 6), (9, 6), (8, 4), (9, 6), (8, 4), (8, 4), (8, 160), (8, 40)]
def shM (o : Nat) : Nat × Nat := tM.getD o (99, 0)
abbrev nM : Nat := 18
def cpI (M : Mm) (a0 a1 sp dp n : Nat) : Mm := (fun a b => if a = a1 then va_cpy (M.1 a0) (M.1 a1) sp dp n b else M.1 a b, M.2)
def cpL (M : Mm) (a0 a1 sp dp n : Nat) : Mm := (M.1, fun a b => if a = a1 then va_cpy (M.2.1 a0) (M.2.1 a1) sp dp n b else M.2.1 a b, M.2.2)
abbrev okC (n : Nat) (sh : Nat → Nat × Nat) (c a0 a1 : Nat) (sp dp k : Int32) : Prop := ok n sh a0 c ∧ ok n sh a1 c ∧ ¬ sp < 0 ∧ ¬ dp < 0 ∧ ¬ k < 0 ∧ sp.toNatClampNeg + k.toNatClampNeg ≤ (sh a0).2 ∧ dp.toNatClampNeg + k.toNatClampNeg ≤ (sh a1).2
section RC
variable {p : Program} {l : Launch} {e : Env} {R : Room} {s : State} {m : MethodId} {args : Array Value} {below : List Frame} {meth : Method} {c : Code} {H : Heap} {locs : List Loc} {cells slots : Nat} {Q : State → Prop}
variable {cc : ByteArray} {pc : Nat} {ls : Array Slot} {rest : List Value} {D : va_G} {A : Nat → Prop} {H0 : Heap}
variable {cy : Nat → ClassId} {sh : Nat → Nat × Nat} {ad : Nat → Nat} {n : Nat} {M : Mm}
theorem r_copyi (hexec : p.tables.exec = Jvm.exec) (hb : c.code = cc) (hml : c.maxLocals = ls.size) {own : String} {index : Nat} (hown : s.vm.findClass own = some m.cls) (hlink : (Cond.methodLink own index arraycopyName).before args s = true) (hnat : (Cond.native arraycopyName).before args s = true) (hstat : (Cond.static arraycopyName).before args s = true) (hini : (Cond.initialized "java/lang/System").before args s = true) (hK : va_K D vwCl (tyW cy) s) (hw : Wd D cy sh ad n A H0 M H locs) (a0 a1 : Nat) {sp dp k : Int32} (ho : okC n sh 8 a0 a1 sp dp k) (hframes : 1 ≤ R.frames) (hlocals : (rest.map fun v => v.category).sum + (nativeFrameWords "java/lang/System" "arraycopy" 5 + 11) ≤ R.locals) (hdg : decode cc pc = .ok (.invokestatic index, 3))
    (kk : ∀ (H1 : Heap) (locs1 : List Loc), Wd D cy sh ad n A H0 (cpI M a0 a1 sp.toNatClampNeg dp.toNatClampNeg k.toNatClampNeg) H1 locs1 → W p l e R s m args below meth c H1 locs1 cells slots Q (F0 m (pc + 3) ls rest)) : W p l e R s m args below meth c H locs cells slots Q (F0 m pc ls (.int k :: .int dp :: .ref (ad a1) :: .int sp :: .ref (ad a0) :: rest)) := by
  obtain ⟨h0, h1, h2, h3, h4, h5, h6⟩ := ho
  refine va_copyi hexec hb hml hown hlink hnat hstat hini hK hw.1 hw.2.1 hw.2.2 a0 a1 0 0 (by rw [cW_at h0.1, cE_int h0.2]) (by rw [cW_at h1.1, cE_int h1.2]) rfl rfl rfl h2 h3 h4 h5 h6 (fun _ _ => rfl) hframes hlocals hdg (fun H1 locs1 g1 g2 g3 => kk H1 locs1 ?_)
  have e : (cW cy sh ad n M).set a1 (ad a1, .inl (cy 0, (sh a1).2, .inl (va_cpy (M.1 a0) (M.1 a1) sp.toNatClampNeg dp.toNatClampNeg k.toNatClampNeg))) = cW cy sh ad n (cpI M a0 a1 sp.toNatClampNeg dp.toNatClampNeg k.toNatClampNeg) := by
    refine cW_set h1.1 ?_ (fun q hq => cE_cong (by funext j; simp [cpI, hq]) rfl rfl)
    rw [cE_int h1.2]
    have : (cpI M a0 a1 sp.toNatClampNeg dp.toNatClampNeg k.toNatClampNeg).1 a1 = va_cpy (M.1 a0) (M.1 a1) sp.toNatClampNeg dp.toNatClampNeg k.toNatClampNeg := by
      funext j
      simp [cpI]
    rw [this]
  rw [e] at g1 g2
  exact ⟨g1, g2, g3⟩
theorem r_copyl (hexec : p.tables.exec = Jvm.exec) (hb : c.code = cc) (hml : c.maxLocals = ls.size) {own : String} {index : Nat} (hown : s.vm.findClass own = some m.cls) (hlink : (Cond.methodLink own index arraycopyName).before args s = true) (hnat : (Cond.native arraycopyName).before args s = true) (hstat : (Cond.static arraycopyName).before args s = true) (hini : (Cond.initialized "java/lang/System").before args s = true) (hK : va_K D vwCl (tyW cy) s) (hw : Wd D cy sh ad n A H0 M H locs) (a0 a1 : Nat) {sp dp k : Int32} (ho : okC n sh 9 a0 a1 sp dp k) (hframes : 1 ≤ R.frames) (hlocals : (rest.map fun v => v.category).sum + (nativeFrameWords "java/lang/System" "arraycopy" 5 + 11) ≤ R.locals) (hdg : decode cc pc = .ok (.invokestatic index, 3))
    (kk : ∀ (H1 : Heap) (locs1 : List Loc), Wd D cy sh ad n A H0 (cpL M a0 a1 sp.toNatClampNeg dp.toNatClampNeg k.toNatClampNeg) H1 locs1 → W p l e R s m args below meth c H1 locs1 cells slots Q (F0 m (pc + 3) ls rest)) : W p l e R s m args below meth c H locs cells slots Q (F0 m pc ls (.int k :: .int dp :: .ref (ad a1) :: .int sp :: .ref (ad a0) :: rest)) := by
  obtain ⟨h0, h1, h2, h3, h4, h5, h6⟩ := ho
  refine va_copyl hexec hb hml hown hlink hnat hstat hini hK hw.1 hw.2.1 hw.2.2 a0 a1 1 1 (by rw [cW_at h0.1, cE_long h0.2]) (by rw [cW_at h1.1, cE_long h1.2]) rfl rfl rfl h2 h3 h4 h5 h6 (fun _ _ => rfl) hframes hlocals hdg (fun H1 locs1 g1 g2 g3 => kk H1 locs1 ?_)
  have e : (cW cy sh ad n M).set a1 (ad a1, .inl (cy 1, (sh a1).2, .inr (.inl (va_cpy (M.2.1 a0) (M.2.1 a1) sp.toNatClampNeg dp.toNatClampNeg k.toNatClampNeg)))) = cW cy sh ad n (cpL M a0 a1 sp.toNatClampNeg dp.toNatClampNeg k.toNatClampNeg) := by
    refine cW_set h1.1 ?_ (fun q hq => cE_cong rfl (by funext j; simp [cpL, hq]) rfl)
    rw [cE_long h1.2]
    have : (cpL M a0 a1 sp.toNatClampNeg dp.toNatClampNeg k.toNatClampNeg).2.1 a1 = va_cpy (M.2.1 a0) (M.2.1 a1) sp.toNatClampNeg dp.toNatClampNeg k.toNatClampNeg := by
      funext j
      simp [cpL]
    rw [this]
  rw [e] at g1 g2
  exact ⟨g1, g2, g3⟩
end RC
end
section
section CG
variable {p : Program} {l : Launch} {e : Env} {R : Room} {s : State} {m : MethodId} {args : Array Value} {below : List Frame} {meth : Method} {c : Code} {H : Heap} {locs : List Loc} {cells slots : Nat} {Q : State → Prop}
variable {cc : ByteArray} {pc : Nat} {ls : Array Slot} {rest st0 : List Value} {D : va_G} {H0 : Heap}
variable {cy : Nat → ClassId} {sh : Nat → Nat × Nat} {ad : Nat → Nat} {n : Nat} {adK adV : Nat → Nat} {M : Mm}
variable {y : MethodName} {bytes : ByteArray} {maxL nL na index : Nat} {ret : Option FieldType} {rm : Room} {Ts : List Cond} {own : String} {As : List Value}
theorem r_callGi (hF : CallFix p m c cc nL s args Ts own) {b : Nat} {C : String} {res : Mm × Int32} (hM : Met l y (wU y bytes maxL ret) rm (va_Pc (.ref b :: As) (Pre D cy sh ad n adK adV M)) (va_Qi (fun r (M2 : Mm) => r = res.2 ∧ M2 = res.1) (Pre D cy sh ad n adK adV) (Aw ad n)) 0 0 (Aw ad n)) (hG : GoodIn Ts (wsV own index C y (wU y bytes maxL ret))) (hd : y.cls ≠ "java/lang/invoke/MethodHandle" ∧ y.cls ≠ "java/lang/invoke/VarHandle" ∧ (parseMethodDescriptor y.desc).map (fun d => d.parameters.length) = some na) (hyc : y.cls = C) (hR : rm.frames + 1 ≤ R.frames ∧ 8 + (maxL + 11) + rm.locals ≤ R.locals) (hrc : rm.cells = 0) (hrs : rm.slots = 0) (hZ : Zs adK adV (Aw ad n) s) (hK : va_K D vwCl (tyW cy) s) (hw : Wd D cy sh ad n (Aw ad n) s.heap M H locs) (hrecv : ∃ cellB : Cell, H[b]? = some cellB ∧ cellB.vm.isStatics = false ∧ s.vm.findClass C = some cellB.cls) (hn : As.length = na) (hsize : ls.size = nL) (hst : st0 = As.reverse ++ .ref b :: rest) (hrm : (rest.map fun v => v.category).sum ≤ 8) (hf : cells ≤ R.cells ∧ slots ≤ R.slots) (hdg : decode cc pc = .ok (.invokevirtual index, 3))
    (kk : ∀ (H1 : Heap) (locs1 : List Loc), Wd D cy sh ad n (Aw ad n) s.heap res.1 H1 locs1 → W p l e R s m args below meth c H1 locs1 cells slots Q (F0 m (pc + 3) ls (.int res.2 :: rest))) : W p l e R s m args below meth c H locs cells slots Q (F0 m pc ls st0) := by
  refine va_calli (va_runV (As := As) (rest := rest) hF hM (cwV na hF.2.2.2.2 hG rfl hrc hrs ⟨hyc, hd⟩ hR) ⟨pre_blind, hrecv, fun U hU hW => ⟨rfl, pre_at hZ hK hw hU hW⟩⟩ rfl hn hsize hst (lv_room hrm) hdg hf) hw.2.2 (fun q _ h => h) (fun q h => h) (fun r u t H1 locs1 ht hvm hp hB hz1 hk1 hS => ?_)
  obtain ⟨rfl, rfl⟩ := hp
  exact kk H1 locs1 ⟨by rw [← ht]; exact hB.1, hB.2.2.1, hS⟩
end CG
theorem hdJ0_length_8abf5 : yJ0_length_8abf5.cls ≠ "java/lang/invoke/MethodHandle" ∧ yJ0_length_8abf5.cls ≠ "java/lang/invoke/VarHandle" ∧ (parseMethodDescriptor yJ0_length_8abf5.desc).map (fun d => d.parameters.length) = some 0 := by decide +kernel
theorem hdJ0_charAt_5068e : yJ0_charAt_5068e.cls ≠ "java/lang/invoke/MethodHandle" ∧ yJ0_charAt_5068e.cls ≠ "java/lang/invoke/VarHandle" ∧ (parseMethodDescriptor yJ0_charAt_5068e.desc).map (fun d => d.parameters.length) = some 1 := by decide +kernel
theorem hdJ0_coder_7d493 : yJ0_coder_7d493.cls ≠ "java/lang/invoke/MethodHandle" ∧ yJ0_coder_7d493.cls ≠ "java/lang/invoke/VarHandle" ∧ (parseMethodDescriptor yJ0_coder_7d493.desc).map (fun d => d.parameters.length) = some 0 := by decide +kernel
theorem hdJ0_isLatin1_aae02 : yJ0_isLatin1_aae02.cls ≠ "java/lang/invoke/MethodHandle" ∧ yJ0_isLatin1_aae02.cls ≠ "java/lang/invoke/VarHandle" ∧ (parseMethodDescriptor yJ0_isLatin1_aae02.desc).map (fun d => d.parameters.length) = some 0 := by decide +kernel
theorem hdJ1_charAt_3b067 : yJ1_charAt_3b067.cls ≠ "java/lang/invoke/MethodHandle" ∧ yJ1_charAt_3b067.cls ≠ "java/lang/invoke/VarHandle" ∧ (parseMethodDescriptor yJ1_charAt_3b067.desc).map (fun d => d.parameters.length) = some 2 := by decide +kernel
theorem hdJ0_checkIndex_df160 : yJ0_checkIndex_df160.cls ≠ "java/lang/invoke/MethodHandle" ∧ yJ0_checkIndex_df160.cls ≠ "java/lang/invoke/VarHandle" ∧ (parseMethodDescriptor yJ0_checkIndex_df160.desc).map (fun d => d.parameters.length) = some 2 := by decide +kernel
theorem hdJ3_checkIndex_8e157 : yJ3_checkIndex_8e157.cls ≠ "java/lang/invoke/MethodHandle" ∧ yJ3_checkIndex_8e157.cls ≠ "java/lang/invoke/VarHandle" ∧ (parseMethodDescriptor yJ3_checkIndex_8e157.desc).map (fun d => d.parameters.length) = some 3 := by decide +kernel
def rmJ0_length_8abf5 : Room := { frames := 2, cells := 0, slots := 0, locals := 80 }
def rmJ0_charAt_5068e : Room := { frames := 4, cells := 0, slots := 0, locals := 120 }
def rmJ0_coder_7d493 : Room := { frames := 1, cells := 0, slots := 0, locals := 30 }
def rmJ0_isLatin1_aae02 : Room := { frames := 1, cells := 0, slots := 0, locals := 30 }
def rmJ1_charAt_3b067 : Room := { frames := 3, cells := 0, slots := 0, locals := 90 }
def rmJ0_checkIndex_df160 : Room := { frames := 2, cells := 0, slots := 0, locals := 60 }
def rmJ3_checkIndex_8e157 : Room := { frames := 1, cells := 0, slots := 0, locals := 30 }
theorem dJ0_length_8abf5_0 : decode cJ0_length_8abf5 0 = .ok (.aload_n 0, 1) := by decide +kernel
theorem dJ0_length_8abf5_1 : decode cJ0_length_8abf5 1 = .ok (.getfield 9, 3) := by decide +kernel
theorem dJ0_length_8abf5_4 : decode cJ0_length_8abf5 4 = .ok (.arraylength, 1) := by decide +kernel
theorem dJ0_length_8abf5_5 : decode cJ0_length_8abf5 5 = .ok (.aload_n 0, 1) := by decide +kernel
theorem dJ0_length_8abf5_6 : decode cJ0_length_8abf5 6 = .ok (.invokevirtual 335, 3) := by decide +kernel
theorem dJ0_length_8abf5_9 : decode cJ0_length_8abf5 9 = .ok (.ishr, 1) := by decide +kernel
theorem dJ0_length_8abf5_10 : decode cJ0_length_8abf5 10 = .ok (.ireturn, 1) := by decide +kernel
theorem dJ0_charAt_5068e_0 : decode cJ0_charAt_5068e 0 = .ok (.aload_n 0, 1) := by decide +kernel
theorem dJ0_charAt_5068e_1 : decode cJ0_charAt_5068e 1 = .ok (.invokevirtual 492, 3) := by decide +kernel
theorem dJ0_charAt_5068e_4 : decode cJ0_charAt_5068e 4 = .ok (.ifCond .eq 12, 3) := by decide +kernel
theorem dJ0_charAt_5068e_7 : decode cJ0_charAt_5068e 7 = .ok (.aload_n 0, 1) := by decide +kernel
theorem dJ0_charAt_5068e_8 : decode cJ0_charAt_5068e 8 = .ok (.getfield 9, 3) := by decide +kernel
theorem dJ0_charAt_5068e_11 : decode cJ0_charAt_5068e 11 = .ok (.iload_n 1, 1) := by decide +kernel
theorem dJ0_charAt_5068e_12 : decode cJ0_charAt_5068e 12 = .ok (.invokestatic 495, 3) := by decide +kernel
theorem dJ0_charAt_5068e_15 : decode cJ0_charAt_5068e 15 = .ok (.ireturn, 1) := by decide +kernel
theorem dJ0_charAt_5068e_16 : decode cJ0_charAt_5068e 16 = .ok (.aload_n 0, 1) := by decide +kernel
theorem dJ0_charAt_5068e_17 : decode cJ0_charAt_5068e 17 = .ok (.getfield 9, 3) := by decide +kernel
theorem dJ0_charAt_5068e_20 : decode cJ0_charAt_5068e 20 = .ok (.iload_n 1, 1) := by decide +kernel
theorem dJ0_charAt_5068e_21 : decode cJ0_charAt_5068e 21 = .ok (.invokestatic 498, 3) := by decide +kernel
theorem dJ0_charAt_5068e_24 : decode cJ0_charAt_5068e 24 = .ok (.ireturn, 1) := by decide +kernel
theorem dJ0_coder_7d493_0 : decode cJ0_coder_7d493 0 = .ok (.getstatic 38, 3) := by decide +kernel
theorem dJ0_coder_7d493_3 : decode cJ0_coder_7d493 3 = .ok (.ifCond .eq 10, 3) := by decide +kernel
theorem dJ0_coder_7d493_6 : decode cJ0_coder_7d493 6 = .ok (.aload_n 0, 1) := by decide +kernel
theorem dJ0_coder_7d493_7 : decode cJ0_coder_7d493 7 = .ok (.getfield 15, 3) := by decide +kernel
theorem dJ0_coder_7d493_10 : decode cJ0_coder_7d493 10 = .ok (.goto 4, 3) := by decide +kernel
theorem dJ0_coder_7d493_13 : decode cJ0_coder_7d493 13 = .ok (.iconst 1, 1) := by decide +kernel
theorem dJ0_coder_7d493_14 : decode cJ0_coder_7d493 14 = .ok (.ireturn, 1) := by decide +kernel
theorem dJ0_isLatin1_aae02_0 : decode cJ0_isLatin1_aae02 0 = .ok (.getstatic 38, 3) := by decide +kernel
theorem dJ0_isLatin1_aae02_3 : decode cJ0_isLatin1_aae02 3 = .ok (.ifCond .eq 14, 3) := by decide +kernel
theorem dJ0_isLatin1_aae02_6 : decode cJ0_isLatin1_aae02 6 = .ok (.aload_n 0, 1) := by decide +kernel
theorem dJ0_isLatin1_aae02_7 : decode cJ0_isLatin1_aae02 7 = .ok (.getfield 15, 3) := by decide +kernel
theorem dJ0_isLatin1_aae02_10 : decode cJ0_isLatin1_aae02 10 = .ok (.ifCond .ne 7, 3) := by decide +kernel
theorem dJ0_isLatin1_aae02_13 : decode cJ0_isLatin1_aae02 13 = .ok (.iconst 1, 1) := by decide +kernel
theorem dJ0_isLatin1_aae02_14 : decode cJ0_isLatin1_aae02 14 = .ok (.goto 4, 3) := by decide +kernel
theorem dJ0_isLatin1_aae02_17 : decode cJ0_isLatin1_aae02 17 = .ok (.iconst 0, 1) := by decide +kernel
theorem dJ0_isLatin1_aae02_18 : decode cJ0_isLatin1_aae02 18 = .ok (.ireturn, 1) := by decide +kernel
theorem dJ1_charAt_3b067_0 : decode cJ1_charAt_3b067 0 = .ok (.iload_n 1, 1) := by decide +kernel
theorem dJ1_charAt_3b067_1 : decode cJ1_charAt_3b067 1 = .ok (.aload_n 0, 1) := by decide +kernel
theorem dJ1_charAt_3b067_2 : decode cJ1_charAt_3b067 2 = .ok (.arraylength, 1) := by decide +kernel
theorem dJ1_charAt_3b067_3 : decode cJ1_charAt_3b067 3 = .ok (.invokestatic 9, 3) := by decide +kernel
theorem dJ1_charAt_3b067_6 : decode cJ1_charAt_3b067 6 = .ok (.aload_n 0, 1) := by decide +kernel
theorem dJ1_charAt_3b067_7 : decode cJ1_charAt_3b067 7 = .ok (.iload_n 1, 1) := by decide +kernel
theorem dJ1_charAt_3b067_8 : decode cJ1_charAt_3b067 8 = .ok (.baload, 1) := by decide +kernel
theorem dJ1_charAt_3b067_9 : decode cJ1_charAt_3b067 9 = .ok (.sipush 255, 3) := by decide +kernel
theorem dJ1_charAt_3b067_12 : decode cJ1_charAt_3b067 12 = .ok (.iand, 1) := by decide +kernel
theorem dJ1_charAt_3b067_13 : decode cJ1_charAt_3b067 13 = .ok (.i2c, 1) := by decide +kernel
theorem dJ1_charAt_3b067_14 : decode cJ1_charAt_3b067 14 = .ok (.ireturn, 1) := by decide +kernel
theorem dJ0_checkIndex_df160_0 : decode cJ0_checkIndex_df160 0 = .ok (.iload_n 0, 1) := by decide +kernel
theorem dJ0_checkIndex_df160_1 : decode cJ0_checkIndex_df160 1 = .ok (.iload_n 1, 1) := by decide +kernel
theorem dJ0_checkIndex_df160_2 : decode cJ0_checkIndex_df160 2 = .ok (.getstatic 1053, 3) := by decide +kernel
theorem dJ0_checkIndex_df160_5 : decode cJ0_checkIndex_df160 5 = .ok (.invokestatic 1059, 3) := by decide +kernel
theorem dJ0_checkIndex_df160_8 : decode cJ0_checkIndex_df160 8 = .ok (.pop, 1) := by decide +kernel
theorem dJ0_checkIndex_df160_9 : decode cJ0_checkIndex_df160 9 = .ok (.return_, 1) := by decide +kernel
theorem dJ3_checkIndex_8e157_0 : decode cJ3_checkIndex_8e157 0 = .ok (.iload_n 0, 1) := by decide +kernel
theorem dJ3_checkIndex_8e157_1 : decode cJ3_checkIndex_8e157 1 = .ok (.ifCond .lt 8, 3) := by decide +kernel
theorem dJ3_checkIndex_8e157_4 : decode cJ3_checkIndex_8e157 4 = .ok (.iload_n 0, 1) := by decide +kernel
theorem dJ3_checkIndex_8e157_5 : decode cJ3_checkIndex_8e157 5 = .ok (.iload_n 1, 1) := by decide +kernel
theorem dJ3_checkIndex_8e157_6 : decode cJ3_checkIndex_8e157 6 = .ok (.if_icmp .lt 10, 3) := by decide +kernel
theorem dJ3_checkIndex_8e157_9 : decode cJ3_checkIndex_8e157 9 = .ok (.aload_n 2, 1) := by decide +kernel
theorem dJ3_checkIndex_8e157_10 : decode cJ3_checkIndex_8e157 10 = .ok (.iload_n 0, 1) := by decide +kernel
theorem dJ3_checkIndex_8e157_11 : decode cJ3_checkIndex_8e157 11 = .ok (.iload_n 1, 1) := by decide +kernel
theorem dJ3_checkIndex_8e157_12 : decode cJ3_checkIndex_8e157 12 = .ok (.invokestatic 95, 3) := by decide +kernel
theorem dJ3_checkIndex_8e157_15 : decode cJ3_checkIndex_8e157 15 = .ok (.athrow, 1) := by decide +kernel
theorem dJ3_checkIndex_8e157_16 : decode cJ3_checkIndex_8e157 16 = .ok (.iload_n 0, 1) := by decide +kernel
theorem dJ3_checkIndex_8e157_17 : decode cJ3_checkIndex_8e157 17 = .ok (.ireturn, 1) := by decide +kernel
set_option maxHeartbeats 4000000 in
set_option maxRecDepth 100000 in
theorem c_J0_coder_7d493 (l : Launch) (D : va_G) (cy : Nat → ClassId) (sh : Nat → Nat × Nat) (ad : Nat → Nat) (n : Nat) (adK adV : Nat → Nat) (M : Mm) (i : Nat) (hi : i < 11) (res : Mm × Int32) (h : some (M, (0 : Int32)) = some res) : Met l yJ0_coder_7d493 (wU yJ0_coder_7d493 cJ0_coder_7d493 1 (some .byte)) rmJ0_coder_7d493 (va_Pc [.ref (adK i)] (Pre D cy sh ad n adK adV M)) (va_Qi (fun r (M2 : Mm) => r = res.2 ∧ M2 = res.1) (Pre D cy sh ad n adK adV) (Aw ad n)) 0 0 (Aw ad n) := by
  refine Met.ofW (cc := cJ0_coder_7d493) (maxL := 1) (ret := (some .byte)) (by decide) rfl ?_
  intro p e s m args below meth c s₁ B hml hv
  obtain ⟨hargs, hPre⟩ := hv
  have hx := B.exec
  have hb := B.bytes
  have hr := B.returns
  have hts := atoms_spec (ws := wU yJ0_coder_7d493 cJ0_coder_7d493 1 (some .byte)) B.pre
  have hq : ∀ w ∈ gW, w.before args s = true := fun w hw => hts w (List.mem_cons_of_mem _ hw)
  have hcm : ∀ w ∈ gW, w ∈ wU yJ0_coder_7d493 cJ0_coder_7d493 1 (some .byte) := fun w hw => List.mem_cons_of_mem _ hw
  have hown : s.vm.findClass RJ0 = some m.cls := findClass_of_methodNamed B.named
  have hlocks := B.notSynchronized
  have hF : CallFix p m c cJ0_coder_7d493 1 s args (wU yJ0_coder_7d493 cJ0_coder_7d493 1 (some .byte)) RJ0 := ⟨hx, hb, hml, hown, hts⟩
  have hK := hPre.2.1
  have hZ := hPre.2.2.2
  have hw : Wd D cy sh ad n (Aw ad n) s.heap M s.heap [] := ⟨hPre.1, hPre.2.2.1, va_S.rf⟩
  rw [show entryFrame m args 1 = entryFrame m ([.ref (adK i)] : List Value).toArray 1 from by rw [hargs]]
  have hl := lv_entry ([.ref (adK i)]) (n := 1) (Nat.le_of_ble_eq_true rfl)
  rw [lg_entry_eq]
  generalize (lg_sl ([.ref (adK i)]) ++ List.replicate (1 - (lg_sl ([.ref (adK i)])).length) Slot.unset).toArray = ls at hl ⊢
  have hl : lv_has ls 1 [(0, .ref (adK i))] := hl
  refine va_gets hx hb hZ.2.2.1 hw.2.2 hown (hq _ qw512) (fun _ h9 => h9) dJ0_coder_7d493_0 ?_
  refine lv_if_eq (tgt := 13) hx hb dJ0_coder_7d493_3 (by decide) (fun c1 => absurd c1 (by decide)) (fun c1 => ?_)
  refine lv_aload_n hx hb dJ0_coder_7d493_6 rfl (lv_at hl 0 rfl) ?_
  refine vk_getf hx hb (hZ.1.1 i hi).2.1 hw.2.2 hown (hq _ qw1356) (fun _ h9 => h9) dJ0_coder_7d493_7 ?_
  refine lv_goto (tgt := 14) hx hb dJ0_coder_7d493_10 (by decide) ?_
  exact r_iret hx hb hr rfl hlocks hZ hK hw h dJ0_coder_7d493_14
set_option maxHeartbeats 4000000 in
set_option maxRecDepth 100000 in
theorem c_J0_isLatin1_aae02 (l : Launch) (D : va_G) (cy : Nat → ClassId) (sh : Nat → Nat × Nat) (ad : Nat → Nat) (n : Nat) (adK adV : Nat → Nat) (M : Mm) (i : Nat) (hi : i < 11) (res : Mm × Int32) (h : some (M, (1 : Int32)) = some res) : Met l yJ0_isLatin1_aae02 (wU yJ0_isLatin1_aae02 cJ0_isLatin1_aae02 1 (some .boolean)) rmJ0_isLatin1_aae02 (va_Pc [.ref (adK i)] (Pre D cy sh ad n adK adV M)) (va_Qi (fun r (M2 : Mm) => r = res.2 ∧ M2 = res.1) (Pre D cy sh ad n adK adV) (Aw ad n)) 0 0 (Aw ad n) := by
  refine Met.ofW (cc := cJ0_isLatin1_aae02) (maxL := 1) (ret := (some .boolean)) (by decide) rfl ?_
  intro p e s m args below meth c s₁ B hml hv
  obtain ⟨hargs, hPre⟩ := hv
  have hx := B.exec
  have hb := B.bytes
  have hr := B.returns
  have hts := atoms_spec (ws := wU yJ0_isLatin1_aae02 cJ0_isLatin1_aae02 1 (some .boolean)) B.pre
  have hq : ∀ w ∈ gW, w.before args s = true := fun w hw => hts w (List.mem_cons_of_mem _ hw)
  have hcm : ∀ w ∈ gW, w ∈ wU yJ0_isLatin1_aae02 cJ0_isLatin1_aae02 1 (some .boolean) := fun w hw => List.mem_cons_of_mem _ hw
  have hown : s.vm.findClass RJ0 = some m.cls := findClass_of_methodNamed B.named
  have hlocks := B.notSynchronized
  have hF : CallFix p m c cJ0_isLatin1_aae02 1 s args (wU yJ0_isLatin1_aae02 cJ0_isLatin1_aae02 1 (some .boolean)) RJ0 := ⟨hx, hb, hml, hown, hts⟩
  have hK := hPre.2.1
  have hZ := hPre.2.2.2
  have hw : Wd D cy sh ad n (Aw ad n) s.heap M s.heap [] := ⟨hPre.1, hPre.2.2.1, va_S.rf⟩
  rw [show entryFrame m args 1 = entryFrame m ([.ref (adK i)] : List Value).toArray 1 from by rw [hargs]]
  have hl := lv_entry ([.ref (adK i)]) (n := 1) (Nat.le_of_ble_eq_true rfl)
  rw [lg_entry_eq]
  generalize (lg_sl ([.ref (adK i)]) ++ List.replicate (1 - (lg_sl ([.ref (adK i)])).length) Slot.unset).toArray = ls at hl ⊢
  have hl : lv_has ls 1 [(0, .ref (adK i))] := hl
  refine va_gets hx hb hZ.2.2.1 hw.2.2 hown (hq _ qw512) (fun _ h9 => h9) dJ0_isLatin1_aae02_0 ?_
  refine lv_if_eq (tgt := 17) hx hb dJ0_isLatin1_aae02_3 (by decide) (fun c1 => absurd c1 (by decide)) (fun c1 => ?_)
  refine lv_aload_n hx hb dJ0_isLatin1_aae02_6 rfl (lv_at hl 0 rfl) ?_
  refine vk_getf hx hb (hZ.1.1 i hi).2.1 hw.2.2 hown (hq _ qw1356) (fun _ h9 => h9) dJ0_isLatin1_aae02_7 ?_
  refine lv_if_ne (tgt := 17) hx hb dJ0_isLatin1_aae02_10 (by decide) (fun c2 => absurd rfl c2) (fun c2 => ?_)
  refine lv_iconst (v := 1) hx hb dJ0_isLatin1_aae02_13 (by decide) ?_
  refine lv_goto (tgt := 18) hx hb dJ0_isLatin1_aae02_14 (by decide) ?_
  exact r_iret hx hb hr rfl hlocks hZ hK hw h dJ0_isLatin1_aae02_18
set_option maxHeartbeats 4000000 in
set_option maxRecDepth 100000 in
theorem c_J0_length_8abf5 (l : Launch) (D : va_G) (cy : Nat → ClassId) (sh : Nat → Nat × Nat) (ad : Nat → Nat) (n : Nat) (adK adV : Nat → Nat) (M : Mm) (i : Nat) (hi : i < 11) (res : Mm × Int32) (h : some (M, slen i) = some res) : Met l yJ0_length_8abf5 (wU yJ0_length_8abf5 cJ0_length_8abf5 1 (some .int)) rmJ0_length_8abf5 (va_Pc [.ref (adK i)] (Pre D cy sh ad n adK adV M)) (va_Qi (fun r (M2 : Mm) => r = res.2 ∧ M2 = res.1) (Pre D cy sh ad n adK adV) (Aw ad n)) 0 0 (Aw ad n) := by
  refine Met.ofW (cc := cJ0_length_8abf5) (maxL := 1) (ret := (some .int)) (by decide) rfl ?_
  intro p e s m args below meth c s₁ B hml hv
  obtain ⟨hargs, hPre⟩ := hv
  have hx := B.exec
  have hb := B.bytes
  have hr := B.returns
  have hts := atoms_spec (ws := wU yJ0_length_8abf5 cJ0_length_8abf5 1 (some .int)) B.pre
  have hq : ∀ w ∈ gW, w.before args s = true := fun w hw => hts w (List.mem_cons_of_mem _ hw)
  have hcm : ∀ w ∈ gW, w ∈ wU yJ0_length_8abf5 cJ0_length_8abf5 1 (some .int) := fun w hw => List.mem_cons_of_mem _ hw
  have hown : s.vm.findClass RJ0 = some m.cls := findClass_of_methodNamed B.named
  have hlocks := B.notSynchronized
  have hF : CallFix p m c cJ0_length_8abf5 1 s args (wU yJ0_length_8abf5 cJ0_length_8abf5 1 (some .int)) RJ0 := ⟨hx, hb, hml, hown, hts⟩
  have hK := hPre.2.1
  have hZ := hPre.2.2.2
  have hw : Wd D cy sh ad n (Aw ad n) s.heap M s.heap [] := ⟨hPre.1, hPre.2.2.1, va_S.rf⟩
  rw [show entryFrame m args 1 = entryFrame m ([.ref (adK i)] : List Value).toArray 1 from by rw [hargs]]
  have hl := lv_entry ([.ref (adK i)]) (n := 1) (Nat.le_of_ble_eq_true rfl)
  rw [lg_entry_eq]
  generalize (lg_sl ([.ref (adK i)]) ++ List.replicate (1 - (lg_sl ([.ref (adK i)])).length) Slot.unset).toArray = ls at hl ⊢
  have hl : lv_has ls 1 [(0, .ref (adK i))] := hl
  refine lv_aload_n hx hb dJ0_length_8abf5_0 rfl (lv_at hl 0 rfl) ?_
  refine vk_getf hx hb (hZ.1.1 i hi).2.2.1 hw.2.2 hown (hq _ qw1355) (fun _ h9 => h9) dJ0_length_8abf5_1 ?_
  refine va_tlen (v := slen i) hx hb (hZ.1.1 i hi).2.2.2 hw.2.2 rfl dJ0_length_8abf5_4 ?_
  refine lv_aload_n hx hb dJ0_length_8abf5_5 rfl (lv_at hl 0 rfl) ?_
  refine r_callGi (As := []) (rest := [.int (slen i)]) hF (c_J0_coder_7d493 l D cy sh ad n adK adV M i hi (M, 0) rfl) (gW_goodV hcm qw511 qw508 qw509 qw510 qw71) hdJ0_coder_7d493 rfl ⟨Nat.le_of_ble_eq_true rfl, Nat.le_of_ble_eq_true rfl⟩ rfl rfl hZ hK hw (vk_recv hZ.1 hi hw.2.2) rfl hl.1 rfl (Nat.le_of_ble_eq_true rfl) ⟨Nat.zero_le _, Nat.zero_le _⟩ dJ0_length_8abf5_6 (fun H locs hw => ?_)
  refine lv_ishr hx hb dJ0_length_8abf5_9 ?_
  exact r_iret (v := slen i >>> ((0 : Int32) &&& 31)) hx hb hr rfl hlocks hZ hK hw (by rw [show slen i >>> ((0 : Int32) &&& 31) = slen i from sb_shr0 _]; exact h) dJ0_length_8abf5_10
set_option maxHeartbeats 4000000 in
set_option maxRecDepth 100000 in
theorem c_J3_checkIndex_N (l : Launch) (D : va_G) (cy : Nat → ClassId) (sh : Nat → Nat × Nat) (ad : Nat → Nat) (n : Nat) (adK adV : Nat → Nat) (M : Mm) (k nn : Int32) (h0 : ¬ k < 0) (h1 : k < nn) (res : Mm × Int32) (h : some (M, k) = some res) : Met l yJ3_checkIndex_8e157 (wU yJ3_checkIndex_8e157 cJ3_checkIndex_8e157 3 (some .int)) rmJ3_checkIndex_8e157 (va_Pc [.int k, .int nn, .null] (Pre D cy sh ad n adK adV M)) (va_Qi (fun r (M2 : Mm) => r = res.2 ∧ M2 = res.1) (Pre D cy sh ad n adK adV) (Aw ad n)) 0 0 (Aw ad n) := by
  refine Met.ofW (cc := cJ3_checkIndex_8e157) (maxL := 3) (ret := (some .int)) (by decide) rfl ?_
  intro p e s m args below meth c s₁ B hml hv
  obtain ⟨hargs, hPre⟩ := hv
  have hx := B.exec
  have hb := B.bytes
  have hr := B.returns
  have hts := atoms_spec (ws := wU yJ3_checkIndex_8e157 cJ3_checkIndex_8e157 3 (some .int)) B.pre
  have hq : ∀ w ∈ gW, w.before args s = true := fun w hw => hts w (List.mem_cons_of_mem _ hw)
  have hcm : ∀ w ∈ gW, w ∈ wU yJ3_checkIndex_8e157 cJ3_checkIndex_8e157 3 (some .int) := fun w hw => List.mem_cons_of_mem _ hw
  have hown : s.vm.findClass RJ3 = some m.cls := findClass_of_methodNamed B.named
  have hlocks := B.notSynchronized
  have hF : CallFix p m c cJ3_checkIndex_8e157 3 s args (wU yJ3_checkIndex_8e157 cJ3_checkIndex_8e157 3 (some .int)) RJ3 := ⟨hx, hb, hml, hown, hts⟩
  have hK := hPre.2.1
  have hZ := hPre.2.2.2
  have hw : Wd D cy sh ad n (Aw ad n) s.heap M s.heap [] := ⟨hPre.1, hPre.2.2.1, va_S.rf⟩
  rw [show entryFrame m args 3 = entryFrame m ([.int k, .int nn, .null] : List Value).toArray 3 from by rw [hargs]]
  have hl := lv_entry ([.int k, .int nn, .null]) (n := 3) (Nat.le_of_ble_eq_true rfl)
  rw [lg_entry_eq]
  generalize (lg_sl ([.int k, .int nn, .null]) ++ List.replicate (3 - (lg_sl ([.int k, .int nn, .null])).length) Slot.unset).toArray = ls at hl ⊢
  have hl : lv_has ls 3 [(0, .int k), (1, .int nn)] := lv_sub hl [0, 1] rfl
  refine lv_iload_n hx hb dJ3_checkIndex_8e157_0 rfl (lv_at hl 0 rfl) ?_
  refine lv_if_lt (tgt := 9) hx hb dJ3_checkIndex_8e157_1 (by decide) (fun c1 => absurd c1 h0) (fun c1 => ?_)
  refine lv_iload_n hx hb dJ3_checkIndex_8e157_4 rfl (lv_at hl 0 rfl) ?_
  refine lv_iload_n hx hb dJ3_checkIndex_8e157_5 rfl (lv_at hl 1 rfl) ?_
  refine lv_icmp_lt (tgt := 16) hx hb dJ3_checkIndex_8e157_6 (by decide) (fun c2 => ?_) (fun c2 => absurd h1 c2)
  refine lv_iload_n hx hb dJ3_checkIndex_8e157_16 rfl (lv_at hl 0 rfl) ?_
  exact r_iret hx hb hr rfl hlocks hZ hK hw h dJ3_checkIndex_8e157_17
set_option maxHeartbeats 4000000 in
set_option maxRecDepth 100000 in
theorem c_J3_checkIndex_R (l : Launch) (D : va_G) (cy : Nat → ClassId) (sh : Nat → Nat × Nat) (ad : Nat → Nat) (n : Nat) (adK adV : Nat → Nat) (M : Mm) (k nn : Int32) (tz : Nat) (h0 : ¬ k < 0) (h1 : k < nn) (res : Mm × Int32) (h : some (M, k) = some res) : Met l yJ3_checkIndex_8e157 (wU yJ3_checkIndex_8e157 cJ3_checkIndex_8e157 3 (some .int)) rmJ3_checkIndex_8e157 (va_Pc [.int k, .int nn, .ref tz] (Pre D cy sh ad n adK adV M)) (va_Qi (fun r (M2 : Mm) => r = res.2 ∧ M2 = res.1) (Pre D cy sh ad n adK adV) (Aw ad n)) 0 0 (Aw ad n) := by
  refine Met.ofW (cc := cJ3_checkIndex_8e157) (maxL := 3) (ret := (some .int)) (by decide) rfl ?_
  intro p e s m args below meth c s₁ B hml hv
  obtain ⟨hargs, hPre⟩ := hv
  have hx := B.exec
  have hb := B.bytes
  have hr := B.returns
  have hts := atoms_spec (ws := wU yJ3_checkIndex_8e157 cJ3_checkIndex_8e157 3 (some .int)) B.pre
  have hq : ∀ w ∈ gW, w.before args s = true := fun w hw => hts w (List.mem_cons_of_mem _ hw)
  have hcm : ∀ w ∈ gW, w ∈ wU yJ3_checkIndex_8e157 cJ3_checkIndex_8e157 3 (some .int) := fun w hw => List.mem_cons_of_mem _ hw
  have hown : s.vm.findClass RJ3 = some m.cls := findClass_of_methodNamed B.named
  have hlocks := B.notSynchronized
  have hF : CallFix p m c cJ3_checkIndex_8e157 3 s args (wU yJ3_checkIndex_8e157 cJ3_checkIndex_8e157 3 (some .int)) RJ3 := ⟨hx, hb, hml, hown, hts⟩
  have hK := hPre.2.1
  have hZ := hPre.2.2.2
  have hw : Wd D cy sh ad n (Aw ad n) s.heap M s.heap [] := ⟨hPre.1, hPre.2.2.1, va_S.rf⟩
  rw [show entryFrame m args 3 = entryFrame m ([.int k, .int nn, .ref tz] : List Value).toArray 3 from by rw [hargs]]
  have hl := lv_entry ([.int k, .int nn, .ref tz]) (n := 3) (Nat.le_of_ble_eq_true rfl)
  rw [lg_entry_eq]
  generalize (lg_sl ([.int k, .int nn, .ref tz]) ++ List.replicate (3 - (lg_sl ([.int k, .int nn, .ref tz])).length) Slot.unset).toArray = ls at hl ⊢
  have hl : lv_has ls 3 [(0, .int k), (1, .int nn)] := lv_sub hl [0, 1] rfl
  refine lv_iload_n hx hb dJ3_checkIndex_8e157_0 rfl (lv_at hl 0 rfl) ?_
  refine lv_if_lt (tgt := 9) hx hb dJ3_checkIndex_8e157_1 (by decide) (fun c1 => absurd c1 h0) (fun c1 => ?_)
  refine lv_iload_n hx hb dJ3_checkIndex_8e157_4 rfl (lv_at hl 0 rfl) ?_
  refine lv_iload_n hx hb dJ3_checkIndex_8e157_5 rfl (lv_at hl 1 rfl) ?_
  refine lv_icmp_lt (tgt := 16) hx hb dJ3_checkIndex_8e157_6 (by decide) (fun c2 => ?_) (fun c2 => absurd h1 c2)
  refine lv_iload_n hx hb dJ3_checkIndex_8e157_16 rfl (lv_at hl 0 rfl) ?_
  exact r_iret hx hb hr rfl hlocks hZ hK hw h dJ3_checkIndex_8e157_17
set_option maxHeartbeats 4000000 in
set_option maxRecDepth 100000 in
theorem c_J0_checkIndex_df160 (l : Launch) (D : va_G) (cy : Nat → ClassId) (sh : Nat → Nat × Nat) (ad : Nat → Nat) (n : Nat) (adK adV : Nat → Nat) (M : Mm) (k nn : Int32) (h0 : ¬ k < 0) (h1 : k < nn) (res : Mm × Unit) (h : some (M, ()) = some res) : Met l yJ0_checkIndex_df160 (wU yJ0_checkIndex_df160 cJ0_checkIndex_df160 2 none) rmJ0_checkIndex_df160 (va_Pc [.int k, .int nn] (Pre D cy sh ad n adK adV M)) (va_Qv (fun (M2 : Mm) => M2 = res.1) (Pre D cy sh ad n adK adV) (Aw ad n)) 0 0 (Aw ad n) := by
  refine Met.ofW (cc := cJ0_checkIndex_df160) (maxL := 2) (ret := none) (by decide) rfl ?_
  intro p e s m args below meth c s₁ B hml hv
  obtain ⟨hargs, hPre⟩ := hv
  have hx := B.exec
  have hb := B.bytes
  have hr := B.returns
  have hts := atoms_spec (ws := wU yJ0_checkIndex_df160 cJ0_checkIndex_df160 2 none) B.pre
  have hq : ∀ w ∈ gW, w.before args s = true := fun w hw => hts w (List.mem_cons_of_mem _ hw)
  have hcm : ∀ w ∈ gW, w ∈ wU yJ0_checkIndex_df160 cJ0_checkIndex_df160 2 none := fun w hw => List.mem_cons_of_mem _ hw
  have hown : s.vm.findClass RJ0 = some m.cls := findClass_of_methodNamed B.named
  have hlocks := B.notSynchronized
  have hF : CallFix p m c cJ0_checkIndex_df160 2 s args (wU yJ0_checkIndex_df160 cJ0_checkIndex_df160 2 none) RJ0 := ⟨hx, hb, hml, hown, hts⟩
  have hK := hPre.2.1
  have hZ := hPre.2.2.2
  have hw : Wd D cy sh ad n (Aw ad n) s.heap M s.heap [] := ⟨hPre.1, hPre.2.2.1, va_S.rf⟩
  rw [show entryFrame m args 2 = entryFrame m ([.int k, .int nn] : List Value).toArray 2 from by rw [hargs]]
  have hl := lv_entry ([.int k, .int nn]) (n := 2) (Nat.le_of_ble_eq_true rfl)
  rw [lg_entry_eq]
  generalize (lg_sl ([.int k, .int nn]) ++ List.replicate (2 - (lg_sl ([.int k, .int nn])).length) Slot.unset).toArray = ls at hl ⊢
  have hl : lv_has ls 2 [(0, .int k), (1, .int nn)] := hl
  refine lv_iload_n hx hb dJ0_checkIndex_df160_0 rfl (lv_at hl 0 rfl) ?_
  refine lv_iload_n hx hb dJ0_checkIndex_df160_1 rfl (lv_at hl 1 rfl) ?_
  rcases hZ.2.2.2 with hz | ⟨t, hz⟩
  · refine va_gets hx hb hz hw.2.2 hown (hq _ qw528) (fun _ h9 => h9) dJ0_checkIndex_df160_2 ?_
    refine r_callSi (As := [.int k, .int nn, .null]) (rest := []) hF (c_J3_checkIndex_N l D cy sh ad n adK adV M k nn h0 h1 (M, k) rfl) (gW_goodS hcm qw532 qw530 qw531 qw73) hdJ3_checkIndex_8e157 ⟨Nat.le_of_ble_eq_true rfl, Nat.le_of_ble_eq_true rfl⟩ rfl rfl hZ hK hw rfl hl.1 rfl (Nat.le_of_ble_eq_true rfl) ⟨Nat.zero_le _, Nat.zero_le _⟩ dJ0_checkIndex_df160_5 (fun H locs hw => ?_)
    refine lv_pop hx hb dJ0_checkIndex_df160_8 rfl ?_
    exact r_vret hx hb hr hlocks hZ hK hw h dJ0_checkIndex_df160_9
  · refine va_gets hx hb hz hw.2.2 hown (hq _ qw528) (fun _ h9 => h9) dJ0_checkIndex_df160_2 ?_
    refine r_callSi (As := [.int k, .int nn, (.ref t)]) (rest := []) hF (c_J3_checkIndex_R l D cy sh ad n adK adV M k nn t h0 h1 (M, k) rfl) (gW_goodS hcm qw532 qw530 qw531 qw73) hdJ3_checkIndex_8e157 ⟨Nat.le_of_ble_eq_true rfl, Nat.le_of_ble_eq_true rfl⟩ rfl rfl hZ hK hw rfl hl.1 rfl (Nat.le_of_ble_eq_true rfl) ⟨Nat.zero_le _, Nat.zero_le _⟩ dJ0_checkIndex_df160_5 (fun H locs hw => ?_)
    refine lv_pop hx hb dJ0_checkIndex_df160_8 rfl ?_
    exact r_vret hx hb hr hlocks hZ hK hw h dJ0_checkIndex_df160_9
theorem vin_lt {k : Int32} {i : Nat} (hi : i < 11) (h : vin k (lenJS.getD i 0)) : ¬ k < 0 ∧ k < slen i := by
  refine ⟨fun z => h (Or.inl z), ?_⟩
  have hL : ∀ i, i < 11 → lenJS.getD i 0 < 2 ^ 31 := by decide
  obtain ⟨j, hj, rfl⟩ := vp_in_of (n := lenJS.getD i 0) h (hL i hi)
  exact nI_lt hj (hL i hi)
theorem byt_255 : ∀ i, i < 11 → ∀ j, j < 8 → (((bytJS.getD i []).getD j 0) &&& 255).toUInt32 % 65536 = ((bytJS.getD i []).getD j 0).toUInt32 := by decide +kernel
theorem len_8 : ∀ i, i < 11 → lenJS.getD i 0 < 8 := by decide
theorem byt_ch : ∀ i, i < 11 → ∀ j, j < 8 → narrow .char (.int ((bytJS.getD i []).getD j 0)) = .int ((bytJS.getD i []).getD j 0) := by decide +kernel
theorem sch_ok {k : Int32} {i : Nat} (hi : i < 11) (h : vin k (lenJS.getD i 0)) : ((sch i k &&& 255).toUInt32 % 65536).toInt32 = sch i k ∧ narrow .char (.int (sch i k)) = .int (sch i k) := by
  have hj : k.toNatClampNeg < 8 := by
    have h1 : ¬ lenJS.getD i 0 ≤ k.toNatClampNeg := fun z => h (Or.inr z)
    have h2 := len_8 i hi
    omega
  refine ⟨?_, byt_ch i hi _ hj⟩
  have e := byt_255 i hi _ hj
  show (((bytJS.getD i []).getD k.toNatClampNeg 0 &&& 255).toUInt32 % 65536).toInt32 = (bytJS.getD i []).getD k.toNatClampNeg 0
  rw [e]
  rfl
set_option maxHeartbeats 4000000 in
set_option maxRecDepth 100000 in
theorem c_J1_charAt_3b067 (l : Launch) (D : va_G) (cy : Nat → ClassId) (sh : Nat → Nat × Nat) (ad : Nat → Nat) (n : Nat) (adK adV : Nat → Nat) (M : Mm) (i : Nat) (hi : i < 11) (k : Int32) (hk : vin k (lenJS.getD i 0)) (res : Mm × Int32) (h : some (M, sch i k) = some res) : Met l yJ1_charAt_3b067 (wU yJ1_charAt_3b067 cJ1_charAt_3b067 2 (some .char)) rmJ1_charAt_3b067 (va_Pc [.ref (adV i), .int k] (Pre D cy sh ad n adK adV M)) (va_Qi (fun r (M2 : Mm) => r = res.2 ∧ M2 = res.1) (Pre D cy sh ad n adK adV) (Aw ad n)) 0 0 (Aw ad n) := by
  refine Met.ofW (cc := cJ1_charAt_3b067) (maxL := 2) (ret := (some .char)) (by decide) rfl ?_
  intro p e s m args below meth c s₁ B hml hv
  obtain ⟨hargs, hPre⟩ := hv
  have hx := B.exec
  have hb := B.bytes
  have hr := B.returns
  have hts := atoms_spec (ws := wU yJ1_charAt_3b067 cJ1_charAt_3b067 2 (some .char)) B.pre
  have hq : ∀ w ∈ gW, w.before args s = true := fun w hw => hts w (List.mem_cons_of_mem _ hw)
  have hcm : ∀ w ∈ gW, w ∈ wU yJ1_charAt_3b067 cJ1_charAt_3b067 2 (some .char) := fun w hw => List.mem_cons_of_mem _ hw
  have hown : s.vm.findClass RJ1 = some m.cls := findClass_of_methodNamed B.named
  have hlocks := B.notSynchronized
  have hF : CallFix p m c cJ1_charAt_3b067 2 s args (wU yJ1_charAt_3b067 cJ1_charAt_3b067 2 (some .char)) RJ1 := ⟨hx, hb, hml, hown, hts⟩
  have hK := hPre.2.1
  have hZ := hPre.2.2.2
  have hw : Wd D cy sh ad n (Aw ad n) s.heap M s.heap [] := ⟨hPre.1, hPre.2.2.1, va_S.rf⟩
  rw [show entryFrame m args 2 = entryFrame m ([.ref (adV i), .int k] : List Value).toArray 2 from by rw [hargs]]
  have hl := lv_entry ([.ref (adV i), .int k]) (n := 2) (Nat.le_of_ble_eq_true rfl)
  rw [lg_entry_eq]
  generalize (lg_sl ([.ref (adV i), .int k]) ++ List.replicate (2 - (lg_sl ([.ref (adV i), .int k])).length) Slot.unset).toArray = ls at hl ⊢
  have hl : lv_has ls 2 [(0, .ref (adV i)), (1, .int k)] := hl
  obtain ⟨hk0, hk1⟩ := vin_lt hi hk
  obtain ⟨hs1, hs2⟩ := sch_ok hi hk
  refine lv_iload_n hx hb dJ1_charAt_3b067_0 rfl (lv_at hl 1 rfl) ?_
  refine lv_aload_n hx hb dJ1_charAt_3b067_1 rfl (lv_at hl 0 rfl) ?_
  refine va_tlen (v := slen i) hx hb (hZ.1.1 i hi).2.2.2 hw.2.2 rfl dJ1_charAt_3b067_2 ?_
  refine r_callSv (As := [.int k, .int (slen i)]) (rest := []) hF (c_J0_checkIndex_df160 l D cy sh ad n adK adV M k (slen i) hk0 hk1 (M, ()) rfl) (gW_goodS hcm qw527 qw525 qw526 qw71) hdJ0_checkIndex_df160 ⟨Nat.le_of_ble_eq_true rfl, Nat.le_of_ble_eq_true rfl⟩ rfl rfl hZ hK hw rfl hl.1 rfl (Nat.le_of_ble_eq_true rfl) ⟨Nat.zero_le _, Nat.zero_le _⟩ dJ1_charAt_3b067_3 (fun H locs hw => ?_)
  refine lv_aload_n hx hb dJ1_charAt_3b067_6 rfl (lv_at hl 0 rfl) ?_
  refine lv_iload_n hx hb dJ1_charAt_3b067_7 rfl (lv_at hl 1 rfl) ?_
  refine va_tb (v := .int (sch i k)) hx hb (hZ.1.1 i hi).2.2.2 hw.2.2 hk rfl dJ1_charAt_3b067_8 ?_
  refine lv_sipush (v := 255) hx hb dJ1_charAt_3b067_9 (by decide) ?_
  refine lv_iand hx hb dJ1_charAt_3b067_12 ?_
  refine lv_i2c (v := sch i k) hx hb dJ1_charAt_3b067_13 hs1 ?_
  exact r_iret hx hb hr hs2 hlocks hZ hK hw h dJ1_charAt_3b067_14
set_option maxHeartbeats 4000000 in
set_option maxRecDepth 100000 in
theorem c_J0_charAt_5068e (l : Launch) (D : va_G) (cy : Nat → ClassId) (sh : Nat → Nat × Nat) (ad : Nat → Nat) (n : Nat) (adK adV : Nat → Nat) (M : Mm) (i : Nat) (hi : i < 11) (k : Int32) (hk : vin k (lenJS.getD i 0)) (res : Mm × Int32) (h : some (M, sch i k) = some res) : Met l yJ0_charAt_5068e (wU yJ0_charAt_5068e cJ0_charAt_5068e 2 (some .char)) rmJ0_charAt_5068e (va_Pc [.ref (adK i), .int k] (Pre D cy sh ad n adK adV M)) (va_Qi (fun r (M2 : Mm) => r = res.2 ∧ M2 = res.1) (Pre D cy sh ad n adK adV) (Aw ad n)) 0 0 (Aw ad n) := by
  refine Met.ofW (cc := cJ0_charAt_5068e) (maxL := 2) (ret := (some .char)) (by decide) rfl ?_
  intro p e s m args below meth c s₁ B hml hv
  obtain ⟨hargs, hPre⟩ := hv
  have hx := B.exec
  have hb := B.bytes
  have hr := B.returns
  have hts := atoms_spec (ws := wU yJ0_charAt_5068e cJ0_charAt_5068e 2 (some .char)) B.pre
  have hq : ∀ w ∈ gW, w.before args s = true := fun w hw => hts w (List.mem_cons_of_mem _ hw)
  have hcm : ∀ w ∈ gW, w ∈ wU yJ0_charAt_5068e cJ0_charAt_5068e 2 (some .char) := fun w hw => List.mem_cons_of_mem _ hw
  have hown : s.vm.findClass RJ0 = some m.cls := findClass_of_methodNamed B.named
  have hlocks := B.notSynchronized
  have hF : CallFix p m c cJ0_charAt_5068e 2 s args (wU yJ0_charAt_5068e cJ0_charAt_5068e 2 (some .char)) RJ0 := ⟨hx, hb, hml, hown, hts⟩
  have hK := hPre.2.1
  have hZ := hPre.2.2.2
  have hw : Wd D cy sh ad n (Aw ad n) s.heap M s.heap [] := ⟨hPre.1, hPre.2.2.1, va_S.rf⟩
  rw [show entryFrame m args 2 = entryFrame m ([.ref (adK i), .int k] : List Value).toArray 2 from by rw [hargs]]
  have hl := lv_entry ([.ref (adK i), .int k]) (n := 2) (Nat.le_of_ble_eq_true rfl)
  rw [lg_entry_eq]
  generalize (lg_sl ([.ref (adK i), .int k]) ++ List.replicate (2 - (lg_sl ([.ref (adK i), .int k])).length) Slot.unset).toArray = ls at hl ⊢
  have hl : lv_has ls 2 [(0, .ref (adK i)), (1, .int k)] := hl
  obtain ⟨hs1, hs2⟩ := sch_ok hi hk
  refine lv_aload_n hx hb dJ0_charAt_5068e_0 rfl (lv_at hl 0 rfl) ?_
  refine r_callGi (As := []) (rest := []) hF (c_J0_isLatin1_aae02 l D cy sh ad n adK adV M i hi (M, 1) rfl) (gW_goodV hcm qw521 qw518 qw519 qw520 qw71) hdJ0_isLatin1_aae02 rfl ⟨Nat.le_of_ble_eq_true rfl, Nat.le_of_ble_eq_true rfl⟩ rfl rfl hZ hK hw (vk_recv hZ.1 hi hw.2.2) rfl hl.1 rfl (Nat.le_of_ble_eq_true rfl) ⟨Nat.zero_le _, Nat.zero_le _⟩ dJ0_charAt_5068e_1 (fun H locs hw => ?_)
  refine lv_if_eq (tgt := 16) hx hb dJ0_charAt_5068e_4 (by decide) (fun c1 => absurd c1 (show ¬ (1 : Int32) = 0 by decide)) (fun c1 => ?_)
  refine lv_aload_n hx hb dJ0_charAt_5068e_7 rfl (lv_at hl 0 rfl) ?_
  refine vk_getf hx hb (hZ.1.1 i hi).2.2.1 hw.2.2 hown (hq _ qw1355) (fun _ h9 => h9) dJ0_charAt_5068e_8 ?_
  refine lv_iload_n hx hb dJ0_charAt_5068e_11 rfl (lv_at hl 1 rfl) ?_
  refine r_callSi (As := [.ref (adV i), .int k]) (rest := []) hF (c_J1_charAt_3b067 l D cy sh ad n adK adV M i hi k hk (M, sch i k) rfl) (gW_goodS hcm qw524 qw522 qw523 qw72) hdJ1_charAt_3b067 ⟨Nat.le_of_ble_eq_true rfl, Nat.le_of_ble_eq_true rfl⟩ rfl rfl hZ hK hw rfl hl.1 rfl (Nat.le_of_ble_eq_true rfl) ⟨Nat.zero_le _, Nat.zero_le _⟩ dJ0_charAt_5068e_12 (fun H locs hw => ?_)
  exact r_iret hx hb hr hs2 hlocks hZ hK hw h dJ0_charAt_5068e_15
section RS
variable {p : Program} {l : Launch} {e : Env} {R : Room} {s : State} {m : MethodId} {args : Array Value} {below : List Frame} {meth : Method} {c : Code} {H : Heap} {locs : List Loc} {cells slots : Nat} {Q : State → Prop}
variable {cc : ByteArray} {pc : Nat} {ls : Array Slot} {rest : List Value} {D : va_G}
variable {cy : Nat → ClassId} {sh : Nat → Nat × Nat} {ad : Nat → Nat} {n : Nat} {adK adV : Nat → Nat} {M : Mm} {nL index n0 : Nat} {own : String} {y0 : MethodName} {c0 : ByteArray} {r0 : Option FieldType}
theorem r_slength (hF : CallFix p m c cc nL s args (wU y0 c0 n0 r0) own) (hZ : Zs adK adV (Aw ad n) s) (hK : va_K D vwCl (tyW cy) s) (hw : Wd D cy sh ad n (Aw ad n) s.heap M H locs) {i : Nat} (hi : i < 11) (hlink : Cond.methodLink own index yJ0_length_8abf5 ∈ gW) (hsize : ls.size = nL) (hrm : (rest.map fun v => v.category).sum ≤ 8) (hR : 8 ≤ R.frames ∧ 300 ≤ R.locals) (hf : cells ≤ R.cells ∧ slots ≤ R.slots) (hdg : decode cc pc = .ok (.invokevirtual index, 3)) (kk : ∀ (H1 : Heap) (locs1 : List Loc), Wd D cy sh ad n (Aw ad n) s.heap M H1 locs1 → W p l e R s m args below meth c H1 locs1 cells slots Q (F0 m (pc + 3) ls (.int (slen i) :: rest))) : W p l e R s m args below meth c H locs cells slots Q (F0 m pc ls (.ref (adK i) :: rest)) :=
  r_callGi (As := []) (rest := rest) hF (c_J0_length_8abf5 l D cy sh ad n adK adV M i hi (M, slen i) rfl) (gW_goodV (fun w hw => List.mem_cons_of_mem _ hw) qw507 hlink qw505 qw506 qw71) hdJ0_length_8abf5 rfl ⟨Nat.le_trans (Nat.le_of_ble_eq_true rfl) hR.1, Nat.le_trans (Nat.le_of_ble_eq_true rfl) hR.2⟩ rfl rfl hZ hK hw (vk_recv hZ.1 hi hw.2.2) rfl hsize rfl hrm hf hdg kk
theorem r_scharAt (hF : CallFix p m c cc nL s args (wU y0 c0 n0 r0) own) (hZ : Zs adK adV (Aw ad n) s) (hK : va_K D vwCl (tyW cy) s) (hw : Wd D cy sh ad n (Aw ad n) s.heap M H locs) {i : Nat} {k : Int32} (hi : i < 11 ∧ vin k (lenJS.getD i 0)) (hlink : Cond.methodLink own index yJ0_charAt_5068e ∈ gW) (hsize : ls.size = nL) (hrm : (rest.map fun v => v.category).sum ≤ 8) (hR : 8 ≤ R.frames ∧ 300 ≤ R.locals) (hf : cells ≤ R.cells ∧ slots ≤ R.slots) (hdg : decode cc pc = .ok (.invokevirtual index, 3)) (kk : ∀ (H1 : Heap) (locs1 : List Loc), Wd D cy sh ad n (Aw ad n) s.heap M H1 locs1 → W p l e R s m args below meth c H1 locs1 cells slots Q (F0 m (pc + 3) ls (.int (sch i k) :: rest))) : W p l e R s m args below meth c H locs cells slots Q (F0 m pc ls (.int k :: .ref (adK i) :: rest)) :=
  r_callGi (As := [.int k]) (rest := rest) hF (c_J0_charAt_5068e l D cy sh ad n adK adV M i hi.1 k hi.2 (M, sch i k) rfl) (gW_goodV (fun w hw => List.mem_cons_of_mem _ hw) qw517 hlink qw515 qw516 qw71) hdJ0_charAt_5068e rfl ⟨Nat.le_trans (Nat.le_of_ble_eq_true rfl) hR.1, Nat.le_trans (Nat.le_of_ble_eq_true rfl) hR.2⟩ rfl rfl hZ hK hw (vk_recv hZ.1 hi.1 hw.2.2) rfl hsize rfl hrm hf hdg kk
end RS
end
section
def f_X0_become (M : Mm) (o0 : Nat) (a1 : Nat) : Option (Mm × Unit) := gd (ok nX shX a1 0) (gd (ok nX shX o0 0) (lt (sI M o0 0 (M.1 a1 0)) (fun M3 => lt (sI M3 o0 1 (M3.1 a1 1)) (fun M4 => lt (sI M4 o0 2 (M4.1 a1 2)) (fun M5 => lt (sI M5 o0 3 (M5.1 a1 3)) (fun M6 => lt (sI M6 o0 4 (M6.1 a1 4)) (fun M7 => lt (sI M7 o0 5 (M7.1 a1 5)) (fun M8 => lt (sI M8 o0 6 (M8.1 a1 6)) (fun M9 => gd (bz (M9.1 a1 7)) (lt (sI M9 o0 7 (M9.1 a1 7)) (fun M11 => gd (bz (M11.1 a1 8)) (lt (sI M11 o0 8 (M11.1 a1 8)) (fun M13 => some (M13, ()))))))))))))))
def rmX0_become : Room := { frames := 1, cells := 0, slots := 0, locals := 60 }
theorem hdX0_become : yX0_become.cls ≠ "java/lang/invoke/MethodHandle" ∧ yX0_become.cls ≠ "java/lang/invoke/VarHandle" ∧ (parseMethodDescriptor yX0_become.desc).map (fun d => d.parameters.length) = some 1 := by decide +kernel
def f_X0_isOf_b16  (M : Mm)  : Option (Mm × Int32) := some (M, (1 : Int32))
def f_X0_isOf (M : Mm) (o0 : Nat) (a1 : Int32) : Option (Mm × Int32) := gd (ok nX shX o0 0) (if a1 = M.1 o0 0 then (f_X0_isOf_b16 M) else (if a1 = M.1 o0 1 then (f_X0_isOf_b16 M) else (some (M, (0 : Int32)))))
def rmX0_isOf : Room := { frames := 1, cells := 0, slots := 0, locals := 60 }
theorem hdX0_isOf : yX0_isOf.cls ≠ "java/lang/invoke/MethodHandle" ∧ yX0_isOf.cls ≠ "java/lang/invoke/VarHandle" ∧ (parseMethodDescriptor yX0_isOf.desc).map (fun d => d.parameters.length) = some 1 := by decide +kernel
def f_X3_become (M : Mm) (o0 : Nat) (a1 : Nat) : Option (Mm × Unit) := gd (ok nX shX a1 3) (gd (ok nX shX o0 3) (lt (sI M o0 0 (M.1 a1 0)) (fun M3 => lt (sI M3 o0 1 (M3.1 a1 1)) (fun M4 => lt (sI M4 o0 2 (M4.1 a1 2)) (fun M5 => lt (sI M5 o0 3 (M5.1 a1 3)) (fun M6 => lt (sI M6 o0 4 (M6.1 a1 4)) (fun M7 => gd (bz (M7.1 a1 5)) (lt (sI M7 o0 5 (M7.1 a1 5)) (fun M9 => some (M9, ()))))))))))
def rmX3_become : Room := { frames := 1, cells := 0, slots := 0, locals := 60 }
theorem hdX3_become : yX3_become.cls ≠ "java/lang/invoke/MethodHandle" ∧ yX3_become.cls ≠ "java/lang/invoke/VarHandle" ∧ (parseMethodDescriptor yX3_become.desc).map (fun d => d.parameters.length) = some 1 := by decide +kernel
def f_X1_become_b33  : Nat → Mm → Nat → Nat → Int32 → Option (Mm × Unit)
  | 0, _, _, _, _ => none
  | nn + 1, M, x0, x1, x2 => gd (ok nX shX x1 1) (if M.1 x1 4 ≤ x2 then (Option.bind (M.2.2 x1 2) (fun q3 => gd (ok nX shX x0 1) (Option.bind (M.2.2 x0 2) (fun q5 => gd (okC nX shX 8 q3 q5 (0 : Int32) (0 : Int32) (10 : Int32)) (lt (cpI M q3 q5 (0 : Int32).toNatClampNeg (0 : Int32).toNatClampNeg (10 : Int32).toNatClampNeg) (fun M7 => lt (sI M7 x0 3 (M7.1 x1 3)) (fun M8 => lt (sI M8 x0 4 (M8.1 x1 4)) (fun M9 => lt (sI M9 x0 5 (M9.1 x1 5)) (fun M10 => lt (sI M10 x0 6 (M10.1 x1 6)) (fun M11 => lt (sI M11 x0 7 (M11.1 x1 7)) (fun M12 => lt (sI M12 x0 8 (M12.1 x1 8)) (fun M13 => lt (sI M13 x0 9 (M13.1 x1 9)) (fun M14 => lt (sI M14 x0 10 (M14.1 x1 10)) (fun M15 => some (M15, ()))))))))))))))) else (gd (ok nX shX x0 1) (Option.bind (M.2.2 x0 1) (fun q17 => gd (okA nX shX q17 11 x2) (Option.bind (M.2.2 q17 x2.toNatClampNeg) (fun q19 => Option.bind (M.2.2 x1 1) (fun q20 => gd (okA nX shX q20 11 x2) (Option.bind (M.2.2 q20 x2.toNatClampNeg) (fun q22 => gd (ok nX shX q19 0) (Option.bind (f_X0_become M q19 q22) (fun r23 => (f_X1_become_b33 nn) r23.1 x0 x1 (x2 + (1 : Int32)))))))))))))
def f_X1_become_b2  : Nat → Mm → Nat → Nat → Int32 → Option (Mm × Unit)
  | 0, _, _, _, _ => none
  | nn + 1, M, x0, x1, x2 => gd (ok nX shX x1 1) (if M.1 x1 3 ≤ x2 then (f_X1_become_b33 1000 M x0 x1 (0 : Int32)) else (gd (ok nX shX x0 1) (Option.bind (M.2.2 x0 0) (fun q28 => gd (okA nX shX q28 10 x2) (Option.bind (M.2.2 q28 x2.toNatClampNeg) (fun q30 => Option.bind (M.2.2 x1 0) (fun q31 => gd (okA nX shX q31 10 x2) (Option.bind (M.2.2 q31 x2.toNatClampNeg) (fun q33 => gd (ok nX shX q30 3) (Option.bind (f_X3_become M q30 q33) (fun r34 => (f_X1_become_b2 nn) r34.1 x0 x1 (x2 + (1 : Int32)))))))))))))
def f_X1_become (M : Mm) (o0 : Nat) (a1 : Nat) : Option (Mm × Unit) := f_X1_become_b2 1000 M o0 a1 (0 : Int32)
def rmX1_become : Room := { frames := 2, cells := 0, slots := 0, locals := 81 }
theorem hdX1_become : yX1_become.cls ≠ "java/lang/invoke/MethodHandle" ∧ yX1_become.cls ≠ "java/lang/invoke/VarHandle" ∧ (parseMethodDescriptor yX1_become.desc).map (fun d => d.parameters.length) = some 1 := by decide +kernel
def f_X1_hasSide (M : Mm) (o0 : Nat) (a1 : Int32) : Option (Mm × Int32) := if a1 < 0 then (some (M, (0 : Int32))) else (gd (ok nX shX o0 1) (if M.1 o0 3 ≤ a1 then (some (M, (0 : Int32))) else (some (M, (1 : Int32)))))
def rmX1_hasSide : Room := { frames := 1, cells := 0, slots := 0, locals := 60 }
theorem hdX1_hasSide : yX1_hasSide.cls ≠ "java/lang/invoke/MethodHandle" ∧ yX1_hasSide.cls ≠ "java/lang/invoke/VarHandle" ∧ (parseMethodDescriptor yX1_hasSide.desc).map (fun d => d.parameters.length) = some 1 := by decide +kernel
def f_X1_hasGame (M : Mm) (o0 : Nat) (a1 : Int32) : Option (Mm × Int32) := if a1 < 0 then (some (M, (0 : Int32))) else (gd (ok nX shX o0 1) (if M.1 o0 4 ≤ a1 then (some (M, (0 : Int32))) else (some (M, (1 : Int32)))))
def rmX1_hasGame : Room := { frames := 1, cells := 0, slots := 0, locals := 60 }
theorem hdX1_hasGame : yX1_hasGame.cls ≠ "java/lang/invoke/MethodHandle" ∧ yX1_hasGame.cls ≠ "java/lang/invoke/VarHandle" ∧ (parseMethodDescriptor yX1_hasGame.desc).map (fun d => d.parameters.length) = some 1 := by decide +kernel
def f_X1_allPlayed (M : Mm) (o0 : Nat) : Option (Mm × Int32) := gd (ok nX shX o0 1) (if M.1 o0 5 < M.1 o0 4 then (some (M, (0 : Int32))) else (some (M, (1 : Int32))))
def rmX1_allPlayed : Room := { frames := 1, cells := 0, slots := 0, locals := 60 }
theorem hdX1_allPlayed : yX1_allPlayed.cls ≠ "java/lang/invoke/MethodHandle" ∧ yX1_allPlayed.cls ≠ "java/lang/invoke/VarHandle" ∧ (parseMethodDescriptor yX1_allPlayed.desc).map (fun d => d.parameters.length) = some 0 := by decide +kernel
def f_X3_rest (M : Mm) (o0 : Nat) : Option (Mm × Unit) := gd (ok nX shX o0 3) (lt (sI M o0 3 (0 : Int32)) (fun M2 => lt (sI M2 o0 4 (0 : Int32)) (fun M3 => lt (sI M3 o0 5 (0 : Int32)) (fun M4 => some (M4, ())))))
def rmX3_rest : Room := { frames := 1, cells := 0, slots := 0, locals := 60 }
theorem hdX3_rest : yX3_rest.cls ≠ "java/lang/invoke/MethodHandle" ∧ yX3_rest.cls ≠ "java/lang/invoke/VarHandle" ∧ (parseMethodDescriptor yX3_rest.desc).map (fun d => d.parameters.length) = some 0 := by decide +kernel
def f_X1_addSide (M : Mm) (o0 : Nat) (a1 : Int32) (a2 : Int32) (a3 : Int32) : Option (Mm × Int32) := gd (ok nX shX o0 1) (Option.bind (M.2.2 o0 0) (fun q2 => gd (okA nX shX q2 10 (M.1 o0 3)) (Option.bind (M.2.2 q2 (M.1 o0 3).toNatClampNeg) (fun q4 => gd (ok nX shX q4 3) (Option.bind (f_X3_rest M q4) (fun r5 => lt (sI r5.1 q4 0 a1) (fun M7 => lt (sI M7 q4 1 a2) (fun M8 => lt (sI M8 q4 2 a3) (fun M9 => lt (sI M9 o0 3 ((M9.1 o0 3) + (1 : Int32))) (fun M10 => some (M10, (M10.1 o0 3) - (1 : Int32))))))))))))
def rmX1_addSide : Room := { frames := 2, cells := 0, slots := 0, locals := 80 }
theorem hdX1_addSide : yX1_addSide.cls ≠ "java/lang/invoke/MethodHandle" ∧ yX1_addSide.cls ≠ "java/lang/invoke/VarHandle" ∧ (parseMethodDescriptor yX1_addSide.desc).map (fun d => d.parameters.length) = some 3 := by decide +kernel
def f_X1_addGame (M : Mm) (o0 : Nat) (a1 : Int32) (a2 : Int32) (a3 : Int32) : Option (Mm × Int32) := gd (ok nX shX o0 1) (Option.bind (M.2.2 o0 1) (fun q2 => gd (okA nX shX q2 11 (M.1 o0 4)) (Option.bind (M.2.2 q2 (M.1 o0 4).toNatClampNeg) (fun q4 => gd (ok nX shX q4 0) (lt (sI M q4 0 a1) (fun M6 => lt (sI M6 q4 1 a2) (fun M7 => lt (sI M7 q4 2 a3) (fun M8 => lt (sI M8 o0 4 ((M8.1 o0 4) + (1 : Int32))) (fun M9 => some (M9, (M9.1 o0 4) - (1 : Int32)))))))))))
def rmX1_addGame : Room := { frames := 1, cells := 0, slots := 0, locals := 60 }
theorem hdX1_addGame : yX1_addGame.cls ≠ "java/lang/invoke/MethodHandle" ∧ yX1_addGame.cls ≠ "java/lang/invoke/VarHandle" ∧ (parseMethodDescriptor yX1_addGame.desc).map (fun d => d.parameters.length) = some 3 := by decide +kernel
def f_X1_gamesPlayedBy_b28 (k4 : Mm → Nat → Int32 → Int32 → Int32 → Option (Mm × Int32)) (M : Mm) (x0 : Nat) (x1 : Int32) (x2 : Int32) (x3 : Int32) : Option (Mm × Int32) := k4 M x0 x1 x2 (x3 + (1 : Int32))
def f_X1_gamesPlayedBy_b4  : Nat → Mm → Nat → Int32 → Int32 → Int32 → Option (Mm × Int32)
  | 0, _, _, _, _, _ => none
  | nn + 1, M, x0, x1, x2, x3 => gd (ok nX shX x0 1) (if M.1 x0 5 ≤ x3 then (some (M, x2)) else (Option.bind (M.2.2 x0 1) (fun q3 => gd (okA nX shX q3 11 x3) (Option.bind (M.2.2 q3 x3.toNatClampNeg) (fun q5 => gd (ok nX shX q5 0) (Option.bind (f_X0_isOf M q5 x1) (fun r6 => if r6.2 = 0 then (f_X1_gamesPlayedBy_b28 (f_X1_gamesPlayedBy_b4 nn) r6.1 x0 x1 x2 x3) else (f_X1_gamesPlayedBy_b28 (f_X1_gamesPlayedBy_b4 nn) r6.1 x0 x1 (x2 + (1 : Int32)) x3))))))))
def f_X1_gamesPlayedBy (M : Mm) (o0 : Nat) (a1 : Int32) : Option (Mm × Int32) := f_X1_gamesPlayedBy_b4 1000 M o0 a1 (0 : Int32) (0 : Int32)
def rmX1_gamesPlayedBy : Room := { frames := 2, cells := 0, slots := 0, locals := 81 }
theorem hdX1_gamesPlayedBy : yX1_gamesPlayedBy.cls ≠ "java/lang/invoke/MethodHandle" ∧ yX1_gamesPlayedBy.cls ≠ "java/lang/invoke/VarHandle" ∧ (parseMethodDescriptor yX1_gamesPlayedBy.desc).map (fun d => d.parameters.length) = some 1 := by decide +kernel
def f_X1_gamesGivenTo_b28 (k4 : Mm → Nat → Int32 → Int32 → Int32 → Option (Mm × Int32)) (M : Mm) (x0 : Nat) (x1 : Int32) (x2 : Int32) (x3 : Int32) : Option (Mm × Int32) := k4 M x0 x1 x2 (x3 + (1 : Int32))
def f_X1_gamesGivenTo_b4  : Nat → Mm → Nat → Int32 → Int32 → Int32 → Option (Mm × Int32)
  | 0, _, _, _, _, _ => none
  | nn + 1, M, x0, x1, x2, x3 => gd (ok nX shX x0 1) (if M.1 x0 5 ≤ x3 then (some (M, x2)) else (Option.bind (M.2.2 x0 1) (fun q3 => gd (okA nX shX q3 11 x3) (Option.bind (M.2.2 q3 x3.toNatClampNeg) (fun q5 => gd (ok nX shX q5 0) (if M.1 q5 4 = x1 then (f_X1_gamesGivenTo_b28 (f_X1_gamesGivenTo_b4 nn) M x0 x1 (x2 + (1 : Int32)) x3) else (f_X1_gamesGivenTo_b28 (f_X1_gamesGivenTo_b4 nn) M x0 x1 x2 x3)))))))
def f_X1_gamesGivenTo (M : Mm) (o0 : Nat) (a1 : Int32) : Option (Mm × Int32) := f_X1_gamesGivenTo_b4 1000 M o0 a1 (0 : Int32) (0 : Int32)
def rmX1_gamesGivenTo : Room := { frames := 1, cells := 0, slots := 0, locals := 60 }
theorem hdX1_gamesGivenTo : yX1_gamesGivenTo.cls ≠ "java/lang/invoke/MethodHandle" ∧ yX1_gamesGivenTo.cls ≠ "java/lang/invoke/VarHandle" ∧ (parseMethodDescriptor yX1_gamesGivenTo.desc).map (fun d => d.parameters.length) = some 1 := by decide +kernel
def f_X1_spotsInUse_b23 (k4 : Mm → Nat → Int32 → Int32 → Option (Mm × Int32)) (M : Mm) (x0 : Nat) (x1 : Int32) (x2 : Int32) : Option (Mm × Int32) := k4 M x0 x1 (x2 + (1 : Int32))
def f_X1_spotsInUse_b4  : Nat → Mm → Nat → Int32 → Int32 → Option (Mm × Int32)
  | 0, _, _, _, _ => none
  | nn + 1, M, x0, x1, x2 => if (10 : Int32) ≤ x2 then (some (M, x1)) else (gd (ok nX shX x0 1) (Option.bind (M.2.2 x0 2) (fun q3 => gd (okA nX shX q3 8 x2) (if M.1 q3 x2.toNatClampNeg = (-1 : Int32) then (f_X1_spotsInUse_b23 (f_X1_spotsInUse_b4 nn) M x0 x1 x2) else (f_X1_spotsInUse_b23 (f_X1_spotsInUse_b4 nn) M x0 (x1 + (1 : Int32)) x2)))))
def f_X1_spotsInUse (M : Mm) (o0 : Nat) : Option (Mm × Int32) := f_X1_spotsInUse_b4 1000 M o0 (0 : Int32) (0 : Int32)
def rmX1_spotsInUse : Room := { frames := 1, cells := 0, slots := 0, locals := 60 }
theorem hdX1_spotsInUse : yX1_spotsInUse.cls ≠ "java/lang/invoke/MethodHandle" ∧ yX1_spotsInUse.cls ≠ "java/lang/invoke/VarHandle" ∧ (parseMethodDescriptor yX1_spotsInUse.desc).map (fun d => d.parameters.length) = some 0 := by decide +kernel
def f_X1_isBarred (M : Mm) (o0 : Nat) (a1 : Int32) : Option (Mm × Int32) := gd (ok nX shX o0 1) (Option.bind (M.2.2 o0 0) (fun q2 => gd (okA nX shX q2 10 a1) (Option.bind (M.2.2 q2 a1.toNatClampNeg) (fun q4 => gd (ok nX shX q4 3) (if M.1 q4 4 < M.1 o0 6 then (some (M, (0 : Int32))) else (some (M, (1 : Int32))))))))
def rmX1_isBarred : Room := { frames := 1, cells := 0, slots := 0, locals := 60 }
theorem hdX1_isBarred : yX1_isBarred.cls ≠ "java/lang/invoke/MethodHandle" ∧ yX1_isBarred.cls ≠ "java/lang/invoke/VarHandle" ∧ (parseMethodDescriptor yX1_isBarred.desc).map (fun d => d.parameters.length) = some 1 := by decide +kernel
def f_X1_force (M : Mm) (o0 : Nat) (a1 : Int32) (a2 : Int32) : Option (Mm × Unit) := gd (ok nX shX o0 1) (lt (sI M o0 8 (M.1 o0 5)) (fun M2 => lt (sI M2 o0 9 a1) (fun M3 => lt (sI M3 o0 10 a2) (fun M4 => some (M4, ())))))
def rmX1_force : Room := { frames := 1, cells := 0, slots := 0, locals := 60 }
theorem hdX1_force : yX1_force.cls ≠ "java/lang/invoke/MethodHandle" ∧ yX1_force.cls ≠ "java/lang/invoke/VarHandle" ∧ (parseMethodDescriptor yX1_force.desc).map (fun d => d.parameters.length) = some 2 := by decide +kernel
def f_X1_nextWorthOf_b7  : Nat → Mm → Nat → Int32 → Int32 → Option (Mm × Int32)
  | 0, _, _, _, _ => none
  | nn + 1, M, x0, x1, x2 => gd (ok nX shX x0 1) (if M.1 x0 4 ≤ x2 then (some (M, (0 : Int32))) else (Option.bind (M.2.2 x0 1) (fun q3 => gd (okA nX shX q3 11 x2) (Option.bind (M.2.2 q3 x2.toNatClampNeg) (fun q5 => gd (ok nX shX q5 0) (Option.bind (f_X0_isOf M q5 x1) (fun r6 => if r6.2 = 0 then ((f_X1_nextWorthOf_b7 nn) r6.1 x0 x1 (x2 + (1 : Int32))) else (Option.bind (r6.1.2.2 x0 1) (fun q9 => gd (okA nX shX q9 11 x2) (Option.bind (r6.1.2.2 q9 x2.toNatClampNeg) (fun q11 => gd (ok nX shX q11 0) (some (r6.1, r6.1.1 q11 2)))))))))))))
def f_X1_nextWorthOf (M : Mm) (o0 : Nat) (a1 : Int32) : Option (Mm × Int32) := gd (ok nX shX o0 1) (f_X1_nextWorthOf_b7 1000 M o0 a1 ((M.1 o0 5) + (1 : Int32)))
def rmX1_nextWorthOf : Room := { frames := 2, cells := 0, slots := 0, locals := 81 }
theorem hdX1_nextWorthOf : yX1_nextWorthOf.cls ≠ "java/lang/invoke/MethodHandle" ∧ yX1_nextWorthOf.cls ≠ "java/lang/invoke/VarHandle" ∧ (parseMethodDescriptor yX1_nextWorthOf.desc).map (fun d => d.parameters.length) = some 1 := by decide +kernel
def f_X1_effortOf_b131  (M : Mm) (x4 : Int32) (t0 : Nat) (t1 : Int32) : Option (Mm × Int32) := gd (ok nX shX t0 1) (Option.bind (f_X1_isBarred M t0 t1) (fun r1 => if r1.2 = 0 then (some (r1.1, x4)) else (some (r1.1, (3 : Int32)))))
def f_X1_effortOf_b49  (M : Mm) (x0 : Nat) (x1 : Int32) (x2 : Nat) (x3 : Int32) (t0 : Int32) : Option (Mm × Int32) := gd (ok nX shX x0 1) (Option.bind (M.2.2 x0 0) (fun q5 => gd (okA nX shX q5 10 x1) (Option.bind (M.2.2 q5 x1.toNatClampNeg) (fun q7 => gd (ok nX shX q7 3) (if M.1 q7 0 = 1 then (some (M, (3 : Int32))) else (if M.1 q7 0 = 2 then (some (M, t0)) else (if M.1 q7 0 = 3 then (if x3 = 0 then (gd (ok nX shX x2 0) (if x1 = M.1 x2 0 then (f_X1_effortOf_b131 M t0 x0 (M.1 x2 1)) else (f_X1_effortOf_b131 M t0 x0 (M.1 x2 0)))) else (some (M, (0 : Int32)))) else (if M.1 q7 0 = 4 then (if x3 = 0 then (Option.bind (f_X1_nextWorthOf M x0 x1) (fun r17 => gd (ok nX shX x2 0) (if r17.2 ≤ r17.1.1 x2 2 then (some (r17.1, t0)) else (some (r17.1, (0 : Int32)))))) else (some (M, t0))) else (if M.1 q7 0 = 5 then (gd (ok nX shX x2 0) (Option.bind (M.2.2 x0 0) (fun q22 => gd (okA nX shX q22 10 x1) (Option.bind (M.2.2 q22 x1.toNatClampNeg) (fun q24 => gd (ok nX shX q24 3) (if M.1 q24 2 ≤ M.1 x2 2 then (some (M, (3 : Int32))) else (some (M, (0 : Int32))))))))) else (if M.1 q7 0 = 6 then (Option.bind (M.2.2 x0 0) (fun q28 => gd (okA nX shX q28 10 x1) (Option.bind (M.2.2 q28 x1.toNatClampNeg) (fun q30 => gd (ok nX shX q30 3) (some (M, if (3 : Int32) < M.1 q30 2 then (3 : Int32) else M.1 q30 2)))))) else (some (M, (2 : Int32)))))))))))))
def f_X1_effortOf_b24  (M : Mm) (x0 : Nat) (x1 : Int32) : Option (Mm × Int32) := gd (ok nX shX x0 1) (Option.bind (M.2.2 x0 1) (fun q34 => gd (okA nX shX q34 11 (M.1 x0 5)) (Option.bind (M.2.2 q34 (M.1 x0 5).toNatClampNeg) (fun q36 => Option.bind (f_X1_isBarred M x0 x1) (fun r37 => if r37.2 = 0 then (f_X1_effortOf_b49 r37.1 x0 x1 q36 r37.2 (2 : Int32)) else (f_X1_effortOf_b49 r37.1 x0 x1 q36 r37.2 (1 : Int32)))))))
def f_X1_effortOf (M : Mm) (o0 : Nat) (a1 : Int32) : Option (Mm × Int32) := gd (ok nX shX o0 1) (if M.1 o0 8 = M.1 o0 5 then (if M.1 o0 9 = a1 then (some (M, M.1 o0 10)) else (f_X1_effortOf_b24 M o0 a1)) else (f_X1_effortOf_b24 M o0 a1))
def rmX1_effortOf : Room := { frames := 3, cells := 0, slots := 0, locals := 103 }
theorem hdX1_effortOf : yX1_effortOf.cls ≠ "java/lang/invoke/MethodHandle" ∧ yX1_effortOf.cls ≠ "java/lang/invoke/VarHandle" ∧ (parseMethodDescriptor yX1_effortOf.desc).map (fun d => d.parameters.length) = some 1 := by decide +kernel
def f_X1_forceOf_b26  (M : Mm) (x2 : Int32) (t0 : Int32) (t1 : Int32) : Option (Mm × Int32) := some (M, (if t0 - t1 < (1 : Int32) then (1 : Int32) else t0 - t1) * x2)
def f_X1_forceOf (M : Mm) (o0 : Nat) (a1 : Int32) (a2 : Int32) : Option (Mm × Int32) := gd (ok nX shX o0 1) (Option.bind (M.2.2 o0 0) (fun q2 => gd (okA nX shX q2 10 a1) (Option.bind (M.2.2 q2 a1.toNatClampNeg) (fun q4 => gd (ok nX shX q4 3) (Option.bind (M.2.2 o0 0) (fun q6 => gd (okA nX shX q6 10 a1) (Option.bind (M.2.2 q6 a1.toNatClampNeg) (fun q8 => gd (ok nX shX q8 3) (if M.1 q8 5 = 0 then (f_X1_forceOf_b26 M a2 (M.1 q4 1) (0 : Int32)) else (f_X1_forceOf_b26 M a2 (M.1 q4 1) (1 : Int32)))))))))))
def rmX1_forceOf : Room := { frames := 1, cells := 0, slots := 0, locals := 60 }
theorem hdX1_forceOf : yX1_forceOf.cls ≠ "java/lang/invoke/MethodHandle" ∧ yX1_forceOf.cls ≠ "java/lang/invoke/VarHandle" ∧ (parseMethodDescriptor yX1_forceOf.desc).map (fun d => d.parameters.length) = some 2 := by decide +kernel
def f_X1_chanceOfFirst (M : Mm) (o0 : Nat) (a1 : Int32) (a2 : Int32) : Option (Mm × Int32) := gd (ok nX shX o0 1) (Option.bind (M.2.2 o0 1) (fun q2 => gd (okA nX shX q2 11 (M.1 o0 5)) (Option.bind (M.2.2 q2 (M.1 o0 5).toNatClampNeg) (fun q4 => gd (ok nX shX q4 0) (Option.bind (f_X1_forceOf M o0 (M.1 q4 0) a1) (fun r6 => Option.bind (r6.1.2.2 o0 1) (fun q7 => gd (okA nX shX q7 11 (r6.1.1 o0 5)) (Option.bind (r6.1.2.2 q7 (r6.1.1 o0 5).toNatClampNeg) (fun q9 => gd (ok nX shX q9 0) (Option.bind (f_X1_forceOf r6.1 o0 (r6.1.1 q9 1) a2) (fun r11 => if r6.2 + r11.2 = 0 then (some (r11.1, (5 : Int32))) else (gd (¬ r6.2 + r11.2 = 0) (some (r11.1, ((10 : Int32) * r6.2) / (r6.2 + r11.2)))))))))))))))
def rmX1_chanceOfFirst : Room := { frames := 2, cells := 0, slots := 0, locals := 83 }
theorem hdX1_chanceOfFirst : yX1_chanceOfFirst.cls ≠ "java/lang/invoke/MethodHandle" ∧ yX1_chanceOfFirst.cls ≠ "java/lang/invoke/VarHandle" ∧ (parseMethodDescriptor yX1_chanceOfFirst.desc).map (fun d => d.parameters.length) = some 2 := by decide +kernel
def f_X1_givenIfWonBy_b39  (M : Mm) (x0 : Nat) (x1 : Int32) (t0 : Int32) : Option (Mm × Int32) := gd (ok nX shX x0 1) (Option.bind (f_X1_isBarred M x0 t0) (fun r1 => if r1.2 = 0 then (some (r1.1, t0)) else (Option.bind (r1.1.2.2 x0 0) (fun q4 => gd (okA nX shX q4 10 x1) (Option.bind (r1.1.2.2 q4 x1.toNatClampNeg) (fun q6 => gd (ok nX shX q6 3) (Option.bind (r1.1.2.2 x0 0) (fun q8 => gd (okA nX shX q8 10 t0) (Option.bind (r1.1.2.2 q8 t0.toNatClampNeg) (fun q10 => gd (ok nX shX q10 3) (if (r1.1.1 q6 3) - (r1.1.1 q10 3) = 0 then (some (r1.1, if t0 < x1 then t0 else x1)) else (if 0 ≤ (r1.1.1 q6 3) - (r1.1.1 q10 3) then (some (r1.1, t0)) else (some (r1.1, x1))))))))))))))
def f_X1_givenIfWonBy (M : Mm) (o0 : Nat) (a1 : Int32) : Option (Mm × Int32) := gd (ok nX shX o0 1) (Option.bind (M.2.2 o0 1) (fun q15 => gd (okA nX shX q15 11 (M.1 o0 5)) (Option.bind (M.2.2 q15 (M.1 o0 5).toNatClampNeg) (fun q17 => Option.bind (f_X1_isBarred M o0 a1) (fun r18 => if r18.2 = 0 then (some (r18.1, a1)) else (gd (ok nX shX q17 0) (if a1 = r18.1.1 q17 0 then (f_X1_givenIfWonBy_b39 r18.1 o0 a1 (r18.1.1 q17 1)) else (f_X1_givenIfWonBy_b39 r18.1 o0 a1 (r18.1.1 q17 0)))))))))
def rmX1_givenIfWonBy : Room := { frames := 2, cells := 0, slots := 0, locals := 81 }
theorem hdX1_givenIfWonBy : yX1_givenIfWonBy.cls ≠ "java/lang/invoke/MethodHandle" ∧ yX1_givenIfWonBy.cls ≠ "java/lang/invoke/VarHandle" ∧ (parseMethodDescriptor yX1_givenIfWonBy.desc).map (fun d => d.parameters.length) = some 1 := by decide +kernel
def f_X3_remember_b43  (M : Mm) (t0 : Nat) (t1 : Int32) : Option (Mm × Unit) := gd (ok nX shX t0 3) (gd (bz t1) (lt (sI M t0 5 t1) (fun M3 => some (M3, ()))))
def f_X3_remember_b32  (M : Mm) (x0 : Nat) (x3 : Int32) : Option (Mm × Unit) := if x3 = (3 : Int32) then (f_X3_remember_b43 M x0 (1 : Int32)) else (f_X3_remember_b43 M x0 (0 : Int32))
def f_X3_remember (M : Mm) (o0 : Nat) (a1 : Int32) (a2 : Int32) (a3 : Int32) : Option (Mm × Unit) := if a1 = 0 then (gd (ok nX shX o0 3) (lt (sI M o0 4 (0 : Int32)) (fun M7 => f_X3_remember_b32 M7 o0 a3))) else (gd (ok nX shX o0 3) (lt (sI M o0 3 ((M.1 o0 3) + a2)) (fun M9 => lt (sI M9 o0 4 ((M9.1 o0 4) + (1 : Int32))) (fun M10 => f_X3_remember_b32 M10 o0 a3))))
def rmX3_remember : Room := { frames := 1, cells := 0, slots := 0, locals := 60 }
theorem hdX3_remember : yX3_remember.cls ≠ "java/lang/invoke/MethodHandle" ∧ yX3_remember.cls ≠ "java/lang/invoke/VarHandle" ∧ (parseMethodDescriptor yX3_remember.desc).map (fun d => d.parameters.length) = some 3 := by decide +kernel
def f_X1_settle_b138  (M : Mm) (x0 : Nat) (x3 : Int32) (x4 : Nat) (x7 : Int32) (t0 : Nat) (t1 : Int32) : Option (Mm × Int32) := gd (ok nX shX x4 0) (gd (ok nX shX t0 3) (Option.bind (f_X3_remember M t0 t1 (M.1 x4 2) x3) (fun r2 => gd (ok nX shX x0 1) (lt (sI r2.1 x0 5 ((r2.1.1 x0 5) + (1 : Int32))) (fun M5 => some (M5, x7))))))
def f_X1_settle_b112  (M : Mm) (x0 : Nat) (x2 : Int32) (x3 : Int32) (x4 : Nat) (x6 : Nat) (x7 : Int32) (t0 : Nat) (t1 : Int32) : Option (Mm × Int32) := gd (ok nX shX x4 0) (gd (ok nX shX t0 3) (Option.bind (f_X3_remember M t0 t1 (M.1 x4 2) x2) (fun r7 => if x7 = r7.1.1 x4 1 then (f_X1_settle_b138 r7.1 x0 x3 x4 x7 x6 (1 : Int32)) else (f_X1_settle_b138 r7.1 x0 x3 x4 x7 x6 (0 : Int32)))))
def f_X1_settle (M : Mm) (o0 : Nat) (a1 : Int32) (a2 : Int32) (a3 : Int32) : Option (Mm × Int32) := gd (ok nX shX o0 1) (Option.bind (M.2.2 o0 1) (fun q11 => gd (okA nX shX q11 11 (M.1 o0 5)) (Option.bind (M.2.2 q11 (M.1 o0 5).toNatClampNeg) (fun q13 => Option.bind (M.2.2 o0 0) (fun q14 => gd (ok nX shX q13 0) (gd (okA nX shX q14 10 (M.1 q13 0)) (Option.bind (M.2.2 q14 (M.1 q13 0).toNatClampNeg) (fun q17 => Option.bind (M.2.2 o0 0) (fun q18 => gd (okA nX shX q18 10 (M.1 q13 1)) (Option.bind (M.2.2 q18 (M.1 q13 1).toNatClampNeg) (fun q20 => Option.bind (f_X1_givenIfWonBy M o0 a1) (fun r21 => lt (sI r21.1 q13 3 a1) (fun M22 => lt (sI M22 q13 4 r21.2) (fun M23 => gd (ok nX shX q17 3) (lt (sI M23 q13 5 (M23.1 q17 4)) (fun M25 => gd (ok nX shX q20 3) (lt (sI M25 q13 6 (M25.1 q20 4)) (fun M27 => gd (bz (M27.1 q17 5)) (lt (sI M27 q13 7 (M27.1 q17 5)) (fun M29 => gd (bz (M29.1 q20 5)) (lt (sI M29 q13 8 (M29.1 q20 5)) (fun M31 => if r21.2 = M31.1 q13 0 then (f_X1_settle_b112 M31 o0 a2 a3 q13 q20 r21.2 q17 (1 : Int32)) else (f_X1_settle_b112 M31 o0 a2 a3 q13 q20 r21.2 q17 (0 : Int32))))))))))))))))))))))))
def rmX1_settle : Room := { frames := 3, cells := 0, slots := 0, locals := 105 }
theorem hdX1_settle : yX1_settle.cls ≠ "java/lang/invoke/MethodHandle" ∧ yX1_settle.cls ≠ "java/lang/invoke/VarHandle" ∧ (parseMethodDescriptor yX1_settle.desc).map (fun d => d.parameters.length) = some 3 := by decide +kernel
def f_X1_takeBack (M : Mm) (o0 : Nat) : Option (Mm × Unit) := gd (ok nX shX o0 1) (if M.1 o0 5 = 0 then (some (M, ())) else (lt (sI M o0 5 ((M.1 o0 5) - (1 : Int32))) (fun M3 => Option.bind (M3.2.2 o0 1) (fun q4 => gd (okA nX shX q4 11 (M3.1 o0 5)) (Option.bind (M3.2.2 q4 (M3.1 o0 5).toNatClampNeg) (fun q6 => Option.bind (M3.2.2 o0 0) (fun q7 => gd (ok nX shX q6 0) (gd (okA nX shX q7 10 (M3.1 q6 4)) (Option.bind (M3.2.2 q7 (M3.1 q6 4).toNatClampNeg) (fun q10 => gd (ok nX shX q10 3) (lt (sI M3 q10 3 ((M3.1 q10 3) - (M3.1 q6 2))) (fun M12 => Option.bind (M12.2.2 o0 0) (fun q13 => gd (okA nX shX q13 10 (M12.1 q6 0)) (Option.bind (M12.2.2 q13 (M12.1 q6 0).toNatClampNeg) (fun q15 => gd (ok nX shX q15 3) (lt (sI M12 q15 4 (M12.1 q6 5)) (fun M17 => Option.bind (M17.2.2 o0 0) (fun q18 => gd (okA nX shX q18 10 (M17.1 q6 0)) (Option.bind (M17.2.2 q18 (M17.1 q6 0).toNatClampNeg) (fun q20 => gd (ok nX shX q20 3) (gd (bz (M17.1 q6 7)) (lt (sI M17 q20 5 (M17.1 q6 7)) (fun M23 => Option.bind (M23.2.2 o0 0) (fun q24 => gd (okA nX shX q24 10 (M23.1 q6 1)) (Option.bind (M23.2.2 q24 (M23.1 q6 1).toNatClampNeg) (fun q26 => gd (ok nX shX q26 3) (lt (sI M23 q26 4 (M23.1 q6 6)) (fun M28 => Option.bind (M28.2.2 o0 0) (fun q29 => gd (okA nX shX q29 10 (M28.1 q6 1)) (Option.bind (M28.2.2 q29 (M28.1 q6 1).toNatClampNeg) (fun q31 => gd (ok nX shX q31 3) (gd (bz (M28.1 q6 8)) (lt (sI M28 q31 5 (M28.1 q6 8)) (fun M34 => some (M34, ())))))))))))))))))))))))))))))))))))
def rmX1_takeBack : Room := { frames := 1, cells := 0, slots := 0, locals := 60 }
theorem hdX1_takeBack : yX1_takeBack.cls ≠ "java/lang/invoke/MethodHandle" ∧ yX1_takeBack.cls ≠ "java/lang/invoke/VarHandle" ∧ (parseMethodDescriptor yX1_takeBack.desc).map (fun d => d.parameters.length) = some 0 := by decide +kernel
def f_X1_canBeWonBy (M : Mm) (o0 : Nat) (a1 : Int32) : Option (Mm × Int32) := gd (ok nX shX o0 1) (Option.bind (f_X1_allPlayed M o0) (fun r1 => if r1.2 = 0 then (Option.bind (r1.1.2.2 o0 1) (fun q4 => gd (okA nX shX q4 11 (r1.1.1 o0 5)) (Option.bind (r1.1.2.2 q4 (r1.1.1 o0 5).toNatClampNeg) (fun q6 => gd (ok nX shX q6 0) (Option.bind (f_X0_isOf r1.1 q6 a1) (fun r7 => if r7.2 = 0 then (some (r7.1, (0 : Int32))) else (some (r7.1, (1 : Int32))))))))) else (some (r1.1, (0 : Int32)))))
def rmX1_canBeWonBy : Room := { frames := 2, cells := 0, slots := 0, locals := 81 }
theorem hdX1_canBeWonBy : yX1_canBeWonBy.cls ≠ "java/lang/invoke/MethodHandle" ∧ yX1_canBeWonBy.cls ≠ "java/lang/invoke/VarHandle" ∧ (parseMethodDescriptor yX1_canBeWonBy.desc).map (fun d => d.parameters.length) = some 1 := by decide +kernel
def f_X1_playWonBy (M : Mm) (o0 : Nat) (a1 : Int32) : Option (Mm × Int32) := gd (ok nX shX o0 1) (Option.bind (M.2.2 o0 1) (fun q2 => gd (okA nX shX q2 11 (M.1 o0 5)) (Option.bind (M.2.2 q2 (M.1 o0 5).toNatClampNeg) (fun q4 => gd (ok nX shX q4 0) (Option.bind (f_X1_effortOf M o0 (M.1 q4 0)) (fun r6 => Option.bind (r6.1.2.2 o0 1) (fun q7 => gd (okA nX shX q7 11 (r6.1.1 o0 5)) (Option.bind (r6.1.2.2 q7 (r6.1.1 o0 5).toNatClampNeg) (fun q9 => gd (ok nX shX q9 0) (Option.bind (f_X1_effortOf r6.1 o0 (r6.1.1 q9 1)) (fun r11 => Option.bind (f_X1_settle r11.1 o0 a1 r6.2 r11.2) (fun r12 => some (r12.1, r12.2)))))))))))))
def rmX1_playWonBy : Room := { frames := 4, cells := 0, slots := 0, locals := 132 }
theorem hdX1_playWonBy : yX1_playWonBy.cls ≠ "java/lang/invoke/MethodHandle" ∧ yX1_playWonBy.cls ≠ "java/lang/invoke/VarHandle" ∧ (parseMethodDescriptor yX1_playWonBy.desc).map (fun d => d.parameters.length) = some 1 := by decide +kernel
def f_X1_playDrawn_b86  (M : Mm) (x2 : Int32) (x3 : Int32) (t0 : Nat) (t1 : Int32) : Option (Mm × Int32) := gd (ok nX shX t0 1) (Option.bind (f_X1_settle M t0 t1 x2 x3) (fun r1 => some (r1.1, r1.2)))
def f_X1_playDrawn_b67  (M : Mm) (x0 : Nat) (x1 : Nat) (x2 : Int32) (x3 : Int32) (t0 : Int32) : Option (Mm × Int32) := if t0 = 0 then (gd (ok nX shX x1 0) (f_X1_playDrawn_b86 M x2 x3 x0 (M.1 x1 1))) else (gd (ok nX shX x1 0) (f_X1_playDrawn_b86 M x2 x3 x0 (M.1 x1 0)))
def f_X1_playDrawn (M : Mm) (o0 : Nat) : Option (Mm × Int32) := gd (ok nX shX o0 1) (Option.bind (M.2.2 o0 1) (fun q7 => gd (okA nX shX q7 11 (M.1 o0 5)) (Option.bind (M.2.2 q7 (M.1 o0 5).toNatClampNeg) (fun q9 => gd (ok nX shX q9 0) (Option.bind (f_X1_effortOf M o0 (M.1 q9 0)) (fun r11 => Option.bind (f_X1_effortOf r11.1 o0 (r11.1.1 q9 1)) (fun r12 => lt (sI r12.1 o0 7 (((r12.1.1 o0 7) * (1103515245 : Int32)) + (12345 : Int32))) (fun M13 => Option.bind (f_X1_chanceOfFirst M13 o0 r11.2 r12.2) (fun r14 => if r14.2 ≤ (((M13.1 o0 7).toUInt32 >>> ((8 : Int32).toUInt32 &&& Int32.toUInt32 31)).toInt32) - (((M13.1 o0 7).toUInt32 >>> ((8 : Int32).toUInt32 &&& Int32.toUInt32 31)).toInt32) / (10 : Int32) * (10 : Int32) then (f_X1_playDrawn_b67 r14.1 o0 q9 r11.2 r12.2 (0 : Int32)) else (f_X1_playDrawn_b67 r14.1 o0 q9 r11.2 r12.2 (1 : Int32)))))))))))
def rmX1_playDrawn : Room := { frames := 4, cells := 0, slots := 0, locals := 132 }
theorem hdX1_playDrawn : yX1_playDrawn.cls ≠ "java/lang/invoke/MethodHandle" ∧ yX1_playDrawn.cls ≠ "java/lang/invoke/VarHandle" ∧ (parseMethodDescriptor yX1_playDrawn.desc).map (fun d => d.parameters.length) = some 0 := by decide +kernel
def f_X1_forgetGames_b7  : Nat → Mm → Nat → Int32 → Int32 → Option (Mm × Int32)
  | 0, _, _, _, _ => none
  | nn + 1, M, x0, x1, x2 => gd (ok nX shX x0 1) (if M.1 x0 3 ≤ x2 then (lt (sI M x0 5 (0 : Int32)) (fun M3 => some (M3, x1))) else (Option.bind (M.2.2 x0 0) (fun q4 => gd (okA nX shX q4 10 x2) (Option.bind (M.2.2 q4 x2.toNatClampNeg) (fun q6 => gd (ok nX shX q6 3) (Option.bind (f_X3_rest M q6) (fun r7 => (f_X1_forgetGames_b7 nn) r7.1 x0 x1 (x2 + (1 : Int32)))))))))
def f_X1_forgetGames (M : Mm) (o0 : Nat) : Option (Mm × Int32) := gd (ok nX shX o0 1) (f_X1_forgetGames_b7 1000 M o0 (M.1 o0 5) (0 : Int32))
def rmX1_forgetGames : Room := { frames := 2, cells := 0, slots := 0, locals := 80 }
theorem hdX1_forgetGames : yX1_forgetGames.cls ≠ "java/lang/invoke/MethodHandle" ∧ yX1_forgetGames.cls ≠ "java/lang/invoke/VarHandle" ∧ (parseMethodDescriptor yX1_forgetGames.desc).map (fun d => d.parameters.length) = some 0 := by decide +kernel
def f_X1_leader_b40 (k4 : Mm → Nat → Int32 → Int32 → Option (Mm × Int32)) (M : Mm) (x0 : Nat) (x1 : Int32) (x2 : Int32) : Option (Mm × Int32) := k4 M x0 x1 (x2 + (1 : Int32))
def f_X1_leader_b38 (k4 : Mm → Nat → Int32 → Int32 → Option (Mm × Int32)) (M : Mm) (x0 : Nat) (x2 : Int32) : Option (Mm × Int32) := f_X1_leader_b40 k4 M x0 x2 x2
def f_X1_leader_b4  : Nat → Mm → Nat → Int32 → Int32 → Option (Mm × Int32)
  | 0, _, _, _, _ => none
  | nn + 1, M, x0, x1, x2 => gd (ok nX shX x0 1) (if M.1 x0 3 ≤ x2 then (some (M, x1)) else (if x1 = (-1 : Int32) then (f_X1_leader_b38 (f_X1_leader_b4 nn) M x0 x2) else (Option.bind (M.2.2 x0 0) (fun q4 => gd (okA nX shX q4 10 x2) (Option.bind (M.2.2 q4 x2.toNatClampNeg) (fun q6 => gd (ok nX shX q6 3) (Option.bind (M.2.2 x0 0) (fun q8 => gd (okA nX shX q8 10 x1) (Option.bind (M.2.2 q8 x1.toNatClampNeg) (fun q10 => gd (ok nX shX q10 3) (if M.1 q6 3 ≤ M.1 q10 3 then (f_X1_leader_b40 (f_X1_leader_b4 nn) M x0 x1 x2) else (f_X1_leader_b38 (f_X1_leader_b4 nn) M x0 x2))))))))))))
def f_X1_leader (M : Mm) (o0 : Nat) : Option (Mm × Int32) := f_X1_leader_b4 1000 M o0 (-1 : Int32) (0 : Int32)
def rmX1_leader : Room := { frames := 1, cells := 0, slots := 0, locals := 60 }
theorem hdX1_leader : yX1_leader.cls ≠ "java/lang/invoke/MethodHandle" ∧ yX1_leader.cls ≠ "java/lang/invoke/VarHandle" ∧ (parseMethodDescriptor yX1_leader.desc).map (fun d => d.parameters.length) = some 0 := by decide +kernel
def f_X2_isMissing (M : Mm) (o0 : Nat) : Option (Mm × Int32) := gd (ok nX shX o0 2) (if M.1 o0 1 = 0 then (some (M, (1 : Int32))) else (some (M, (0 : Int32))))
def rmX2_isMissing : Room := { frames := 1, cells := 0, slots := 0, locals := 60 }
theorem hdX2_isMissing : yX2_isMissing.cls ≠ "java/lang/invoke/MethodHandle" ∧ yX2_isMissing.cls ≠ "java/lang/invoke/VarHandle" ∧ (parseMethodDescriptor yX2_isMissing.desc).map (fun d => d.parameters.length) = some 0 := by decide +kernel
def f_X2_renew_b12  : Nat → Mm → Nat → Int32 → Option (Mm × Unit)
  | 0, _, _, _ => none
  | nn + 1, M, x0, x3 => if (40 : Int32) ≤ x3 then (some (M, ())) else (gd (ok nX shX x0 2) (Option.bind (M.2.2 x0 0) (fun q3 => gd (okA nX shX q3 8 x3) (lt (sI M q3 x3.toNatClampNeg (0 : Int32)) (fun M5 => (f_X2_renew_b12 nn) M5 x0 (x3 + (1 : Int32)))))))
def f_X2_renew (M : Mm) (o0 : Nat) (a1 : Int32) (a2 : Int32) : Option (Mm × Unit) := gd (ok nX shX o0 2) (lt (sI M o0 1 a1) (fun M7 => lt (sI M7 o0 2 a2) (fun M8 => f_X2_renew_b12 1000 M8 o0 (0 : Int32))))
def rmX2_renew : Room := { frames := 1, cells := 0, slots := 0, locals := 60 }
theorem hdX2_renew : yX2_renew.cls ≠ "java/lang/invoke/MethodHandle" ∧ yX2_renew.cls ≠ "java/lang/invoke/VarHandle" ∧ (parseMethodDescriptor yX2_renew.desc).map (fun d => d.parameters.length) = some 2 := by decide +kernel
def f_X2_put (M : Mm) (o0 : Nat) (a1 : Int32) (a2 : Int32) : Option (Mm × Unit) := gd (ok nX shX o0 2) (if M.1 o0 1 = (8 : Int32) then (Option.bind (M.2.2 o0 0) (fun q10 => gd (okA nX shX q10 8 a1) (lt (sI M q10 a1.toNatClampNeg a2.toInt8.toInt32) (fun M12 => some (M12, ()))))) else (if M.1 o0 1 = (16 : Int32) then (Option.bind (M.2.2 o0 0) (fun q7 => gd (okA nX shX q7 8 a1) (lt (sI M q7 a1.toNatClampNeg a2.toInt16.toInt32) (fun M9 => some (M9, ()))))) else (Option.bind (M.2.2 o0 0) (fun q4 => gd (okA nX shX q4 8 a1) (lt (sI M q4 a1.toNatClampNeg a2) (fun M6 => some (M6, ())))))))
def rmX2_put : Room := { frames := 1, cells := 0, slots := 0, locals := 60 }
theorem hdX2_put : yX2_put.cls ≠ "java/lang/invoke/MethodHandle" ∧ yX2_put.cls ≠ "java/lang/invoke/VarHandle" ∧ (parseMethodDescriptor yX2_put.desc).map (fun d => d.parameters.length) = some 2 := by decide +kernel
def f_X2_hasRange (M : Mm) (o0 : Nat) (a1 : Int32) (a2 : Int32) : Option (Mm × Int32) := if a1 < 0 then (some (M, (0 : Int32))) else (if a2 < 0 then (some (M, (0 : Int32))) else (gd (ok nX shX o0 2) (if (M.1 o0 2) - a1 < a2 then (some (M, (0 : Int32))) else (some (M, (1 : Int32))))))
def rmX2_hasRange : Room := { frames := 1, cells := 0, slots := 0, locals := 60 }
theorem hdX2_hasRange : yX2_hasRange.cls ≠ "java/lang/invoke/MethodHandle" ∧ yX2_hasRange.cls ≠ "java/lang/invoke/VarHandle" ∧ (parseMethodDescriptor yX2_hasRange.desc).map (fun d => d.parameters.length) = some 2 := by decide +kernel
def f_X4_append_b4  : Nat → Mm → Nat → Int32 → Int32 → Option (Mm × Unit)
  | 0, _, _, _, _ => none
  | nn + 1, M, x0, x1, x3 => if x3 < 0 then (some (M, ())) else (gd (ok nX shX x0 4) (Option.bind (M.2.2 x0 0) (fun q3 => gd (okA nX shX q3 8 (M.1 x0 1)) (lt (sI M q3 (M.1 x0 1).toNatClampNeg (((x1.toUInt32 >>> (((8 : Int32) * x3).toUInt32 &&& Int32.toUInt32 31)).toInt32) &&& (255 : Int32))) (fun M5 => lt (sI M5 x0 1 ((M5.1 x0 1) + (1 : Int32))) (fun M6 => (f_X4_append_b4 nn) M6 x0 x1 (x3 + (-1 : Int32))))))))
def f_X4_append (M : Mm) (o0 : Nat) (a1 : Int32) (a2 : Int32) : Option (Mm × Unit) := f_X4_append_b4 1000 M o0 a1 (a2 - (1 : Int32))
def rmX4_append : Room := { frames := 1, cells := 0, slots := 0, locals := 60 }
theorem hdX4_append : yX4_append.cls ≠ "java/lang/invoke/MethodHandle" ∧ yX4_append.cls ≠ "java/lang/invoke/VarHandle" ∧ (parseMethodDescriptor yX4_append.desc).map (fun d => d.parameters.length) = some 2 := by decide +kernel
def f_X4_isDigit (M : Mm) (a0 : Int32) : Option (Mm × Int32) := if a0 < (48 : Int32) then (some (M, (0 : Int32))) else (if (57 : Int32) < a0 then (some (M, (0 : Int32))) else (some (M, (1 : Int32))))
def rmX4_isDigit : Room := { frames := 1, cells := 0, slots := 0, locals := 60 }
theorem hdX4_isDigit : yX4_isDigit.cls ≠ "java/lang/invoke/MethodHandle" ∧ yX4_isDigit.cls ≠ "java/lang/invoke/VarHandle" ∧ (parseMethodDescriptor yX4_isDigit.desc).map (fun d => d.parameters.length) = some 1 := by decide +kernel
def f_X4_goThroughDigits_b0  : Nat → Mm → Nat → Option (Mm × Unit)
  | 0, _, _ => none
  | nn + 1, M, x0 => gd (ok nX shX x0 4) (if M.1 x0 1 ≤ M.1 x0 4 then (some (M, ())) else (Option.bind (M.2.2 x0 0) (fun q3 => gd (okA nX shX q3 8 (M.1 x0 4)) (Option.bind (f_X4_isDigit M (M.1 q3 (M.1 x0 4).toNatClampNeg)) (fun r5 => if r5.2 = 0 then (some (r5.1, ())) else (Option.bind (r5.1.2.2 x0 0) (fun q7 => gd (okA nX shX q7 8 (r5.1.1 x0 4)) (lt (sI r5.1 x0 5 (if (1000 : Int32) < (((r5.1.1 x0 5) * (10 : Int32)) + (r5.1.1 q7 (r5.1.1 x0 4).toNatClampNeg)) - (48 : Int32) then (1000 : Int32) else (((r5.1.1 x0 5) * (10 : Int32)) + (r5.1.1 q7 (r5.1.1 x0 4).toNatClampNeg)) - (48 : Int32))) (fun M9 => lt (sI M9 x0 4 ((M9.1 x0 4) + (1 : Int32))) (fun M10 => (f_X4_goThroughDigits_b0 nn) M10 x0))))))))))
def f_X4_goThroughDigits (M : Mm) (o0 : Nat) : Option (Mm × Unit) := f_X4_goThroughDigits_b0 1000 M o0
def rmX4_goThroughDigits : Room := { frames := 2, cells := 0, slots := 0, locals := 80 }
theorem hdX4_goThroughDigits : yX4_goThroughDigits.cls ≠ "java/lang/invoke/MethodHandle" ∧ yX4_goThroughDigits.cls ≠ "java/lang/invoke/VarHandle" ∧ (parseMethodDescriptor yX4_goThroughDigits.desc).map (fun d => d.parameters.length) = some 0 := by decide +kernel
def f_X4_isLetter (M : Mm) (a0 : Int32) : Option (Mm × Int32) := if a0 < (97 : Int32) then (some (M, (0 : Int32))) else (if (122 : Int32) < a0 then (some (M, (0 : Int32))) else (some (M, (1 : Int32))))
def rmX4_isLetter : Room := { frames := 1, cells := 0, slots := 0, locals := 60 }
theorem hdX4_isLetter : yX4_isLetter.cls ≠ "java/lang/invoke/MethodHandle" ∧ yX4_isLetter.cls ≠ "java/lang/invoke/VarHandle" ∧ (parseMethodDescriptor yX4_isLetter.desc).map (fun d => d.parameters.length) = some 1 := by decide +kernel
def f_X4_goOn_b184  (M : Mm) (x0 : Nat) (t0 : Nat) (t1 : Int32) : Option (Mm × Unit) := gd (ok nX shX t0 4) (lt (sI M t0 2 t1) (fun M2 => gd (ok nX shX x0 4) (lt (sI M2 x0 4 ((M2.1 x0 4) + (1 : Int32))) (fun M4 => some (M4, ())))))
def f_X4_goOn_b98  : Nat → Mm → Nat → Option (Mm × Unit)
  | 0, _, _ => none
  | nn + 1, M, x0 => gd (ok nX shX x0 4) (if M.1 x0 1 ≤ M.1 x0 4 then (some (M, ())) else (Option.bind (M.2.2 x0 0) (fun q7 => gd (okA nX shX q7 8 (M.1 x0 4)) (Option.bind (f_X4_isLetter M (M.1 q7 (M.1 x0 4).toNatClampNeg)) (fun r9 => if r9.2 = 0 then (some (r9.1, ())) else (lt (sI r9.1 x0 4 ((r9.1.1 x0 4) + (1 : Int32))) (fun M11 => (f_X4_goOn_b98 nn) M11 x0)))))))
def f_X4_goOn_b46  (M : Mm) (x0 : Nat) : Option (Mm × Unit) := gd (ok nX shX x0 4) (lt (sI M x0 4 (M.1 x0 3)) (fun M13 => lt (sI M13 x0 5 (0 : Int32)) (fun M14 => if M14.1 x0 3 < M14.1 x0 1 then (Option.bind (M14.2.2 x0 0) (fun q16 => gd (okA nX shX q16 8 (M14.1 x0 3)) (Option.bind (f_X4_isLetter M14 (M14.1 q16 (M14.1 x0 3).toNatClampNeg)) (fun r18 => if r18.2 = 0 then (Option.bind (r18.1.2.2 x0 0) (fun q20 => gd (okA nX shX q20 8 (r18.1.1 x0 3)) (Option.bind (f_X4_isDigit r18.1 (r18.1.1 q20 (r18.1.1 x0 3).toNatClampNeg)) (fun r22 => if r22.2 = 0 then (Option.bind (r22.1.2.2 x0 0) (fun q24 => gd (okA nX shX q24 8 (r22.1.1 x0 3)) (if r22.1.1 q24 (r22.1.1 x0 3).toNatClampNeg = (59 : Int32) then (f_X4_goOn_b184 r22.1 x0 x0 (3 : Int32)) else (f_X4_goOn_b184 r22.1 x0 x0 (4 : Int32))))) else (lt (sI r22.1 x0 2 (2 : Int32)) (fun M27 => Option.bind (f_X4_goThroughDigits M27 x0) (fun r28 => some (r28.1, ())))))))) else (lt (sI r18.1 x0 2 (1 : Int32)) (fun M29 => f_X4_goOn_b98 1000 M29 x0)))))) else (lt (sI M14 x0 2 (0 : Int32)) (fun M30 => some (M30, ()))))))
def f_X4_goOn_b8  : Nat → Mm → Nat → Option (Mm × Unit)
  | 0, _, _ => none
  | nn + 1, M, x0 => gd (ok nX shX x0 4) (if M.1 x0 1 ≤ M.1 x0 3 then (f_X4_goOn_b46 M x0) else (Option.bind (M.2.2 x0 0) (fun q33 => gd (okA nX shX q33 8 (M.1 x0 3)) (if M.1 q33 (M.1 x0 3).toNatClampNeg = (32 : Int32) then (lt (sI M x0 3 ((M.1 x0 3) + (1 : Int32))) (fun M36 => (f_X4_goOn_b8 nn) M36 x0)) else (f_X4_goOn_b46 M x0)))))
def f_X4_goOn (M : Mm) (o0 : Nat) : Option (Mm × Unit) := gd (ok nX shX o0 4) (lt (sI M o0 3 (M.1 o0 4)) (fun M38 => f_X4_goOn_b8 1000 M38 o0))
def rmX4_goOn : Room := { frames := 3, cells := 0, slots := 0, locals := 100 }
theorem hdX4_goOn : yX4_goOn.cls ≠ "java/lang/invoke/MethodHandle" ∧ yX4_goOn.cls ≠ "java/lang/invoke/VarHandle" ∧ (parseMethodDescriptor yX4_goOn.desc).map (fun d => d.parameters.length) = some 0 := by decide +kernel
def f_X4_isWord_b28  : Nat → Mm → Nat → Nat → Int32 → Option (Mm × Int32)
  | 0, _, _, _, _ => none
  | nn + 1, M, x0, x1, x2 => gd (x1 < 11) (if slen x1 ≤ x2 then (some (M, (1 : Int32))) else (gd (ok nX shX x0 4) (Option.bind (M.2.2 x0 0) (fun q4 => gd (okA nX shX q4 8 ((M.1 x0 3) + x2)) (gd (x1 < 11 ∧ vin x2 (lenJS.getD x1 0)) (if M.1 q4 ((M.1 x0 3) + x2).toNatClampNeg = sch x1 x2 then ((f_X4_isWord_b28 nn) M x0 x1 (x2 + (1 : Int32))) else (some (M, (0 : Int32)))))))))
def f_X4_isWord (M : Mm) (o0 : Nat) (a1 : Nat) : Option (Mm × Int32) := gd (ok nX shX o0 4) (if M.1 o0 2 = (1 : Int32) then (gd (a1 < 11) (if (M.1 o0 4) - (M.1 o0 3) = slen a1 then (f_X4_isWord_b28 1000 M o0 a1 (0 : Int32)) else (some (M, (0 : Int32))))) else (some (M, (0 : Int32))))
def rmX4_isWord : Room := { frames := 8, cells := 0, slots := 0, locals := 400 }
theorem hdX4_isWord : yX4_isWord.cls ≠ "java/lang/invoke/MethodHandle" ∧ yX4_isWord.cls ≠ "java/lang/invoke/VarHandle" ∧ (parseMethodDescriptor yX4_isWord.desc).map (fun d => d.parameters.length) = some 1 := by decide +kernel
def f_X4_kindOfWord (M : Mm) (o0 : Nat) : Option (Mm × Int32) := gd (ok nX shX o0 4) (Option.bind (f_X4_isWord M o0 0) (fun r1 => if r1.2 = 0 then (Option.bind (f_X4_isWord r1.1 o0 1) (fun r4 => if r4.2 = 0 then (Option.bind (f_X4_isWord r4.1 o0 2) (fun r6 => if r6.2 = 0 then (Option.bind (f_X4_isWord r6.1 o0 3) (fun r8 => if r8.2 = 0 then (Option.bind (f_X4_isWord r8.1 o0 4) (fun r10 => if r10.2 = 0 then (Option.bind (f_X4_isWord r10.1 o0 5) (fun r12 => if r12.2 = 0 then (Option.bind (f_X4_isWord r12.1 o0 6) (fun r14 => if r14.2 = 0 then (some (r14.1, (-1 : Int32))) else (some (r14.1, (6 : Int32))))) else (some (r12.1, (5 : Int32))))) else (some (r10.1, (4 : Int32))))) else (some (r8.1, (3 : Int32))))) else (some (r6.1, (2 : Int32))))) else (some (r4.1, (1 : Int32))))) else (some (r1.1, (0 : Int32)))))
def rmX4_kindOfWord : Room := { frames := 9, cells := 0, slots := 0, locals := 422 }
theorem hdX4_kindOfWord : yX4_kindOfWord.cls ≠ "java/lang/invoke/MethodHandle" ∧ yX4_kindOfWord.cls ≠ "java/lang/invoke/VarHandle" ∧ (parseMethodDescriptor yX4_kindOfWord.desc).map (fun d => d.parameters.length) = some 0 := by decide +kernel
def f_X4_isNumber (M : Mm) (o0 : Nat) (a1 : Int32) (a2 : Int32) : Option (Mm × Int32) := gd (ok nX shX o0 4) (if M.1 o0 2 = (2 : Int32) then (if M.1 o0 5 < a1 then (some (M, (0 : Int32))) else (if a2 < M.1 o0 5 then (some (M, (0 : Int32))) else (some (M, (1 : Int32))))) else (some (M, (0 : Int32))))
def rmX4_isNumber : Room := { frames := 1, cells := 0, slots := 0, locals := 60 }
theorem hdX4_isNumber : yX4_isNumber.cls ≠ "java/lang/invoke/MethodHandle" ∧ yX4_isNumber.cls ≠ "java/lang/invoke/VarHandle" ∧ (parseMethodDescriptor yX4_isNumber.desc).map (fun d => d.parameters.length) = some 2 := by decide +kernel
def f_X4_readPerhaps (M : Mm) (o0 : Nat) (a1 : Nat) (a2 : Int32) (a3 : Int32) (a4 : Int32) : Option (Mm × Int32) := gd (ok nX shX o0 4) (Option.bind (f_X4_isWord M o0 a1) (fun r1 => if r1.2 = 0 then (some (r1.1, a4)) else (Option.bind (f_X4_goOn r1.1 o0) (fun r4 => Option.bind (f_X4_isNumber r4.1 o0 a2 a3) (fun r5 => if r5.2 = 0 then (some (r5.1, (-1 : Int32))) else (Option.bind (f_X4_goOn r5.1 o0) (fun r7 => some (r7.1, r5.1.1 o0 5))))))))
def rmX4_readPerhaps : Room := { frames := 9, cells := 0, slots := 0, locals := 422 }
theorem hdX4_readPerhaps : yX4_readPerhaps.cls ≠ "java/lang/invoke/MethodHandle" ∧ yX4_readPerhaps.cls ≠ "java/lang/invoke/VarHandle" ∧ (parseMethodDescriptor yX4_readPerhaps.desc).map (fun d => d.parameters.length) = some 4 := by decide +kernel
def f_X4_readGame (M : Mm) (o0 : Nat) (a1 : Nat) : Option (Mm × Int32) := gd (ok nX shX a1 1) (if M.1 a1 4 < (8 : Int32) then (gd (ok nX shX o0 4) (Option.bind (f_X4_goOn M o0) (fun r3 => Option.bind (f_X4_isNumber r3.1 o0 (0 : Int32) ((r3.1.1 a1 3) - (1 : Int32))) (fun r5 => if r5.2 = 0 then (some (r5.1, (0 : Int32))) else (Option.bind (f_X4_goOn r5.1 o0) (fun r7 => Option.bind (f_X4_isNumber r7.1 o0 (0 : Int32) ((r7.1.1 a1 3) - (1 : Int32))) (fun r8 => if r8.2 = 0 then (some (r8.1, (0 : Int32))) else (if r8.1.1 o0 5 = r5.1.1 o0 5 then (some (r8.1, (0 : Int32))) else (Option.bind (f_X4_goOn r8.1 o0) (fun r11 => Option.bind (f_X4_readPerhaps r11.1 o0 9 (1 : Int32) (9 : Int32) (1 : Int32)) (fun r12 => if 0 ≤ r12.2 then (Option.bind (f_X1_addGame r12.1 a1 (r5.1.1 o0 5) (r8.1.1 o0 5) r12.2) (fun r14 => some (r14.1, (1 : Int32)))) else (some (r12.1, (0 : Int32)))))))))))))) else (some (M, (0 : Int32))))
def rmX4_readGame : Room := { frames := 10, cells := 0, slots := 0, locals := 447 }
theorem hdX4_readGame : yX4_readGame.cls ≠ "java/lang/invoke/MethodHandle" ∧ yX4_readGame.cls ≠ "java/lang/invoke/VarHandle" ∧ (parseMethodDescriptor yX4_readGame.desc).map (fun d => d.parameters.length) = some 1 := by decide +kernel
def f_X4_readLaw (M : Mm) (o0 : Nat) (a1 : Nat) : Option (Mm × Int32) := gd (ok nX shX o0 4) (Option.bind (f_X4_goOn M o0) (fun r1 => Option.bind (f_X4_isNumber r1.1 o0 (1 : Int32) (3 : Int32)) (fun r3 => if r3.2 = 0 then (some (r3.1, (0 : Int32))) else (gd (ok nX shX a1 1) (lt (sI r3.1 a1 6 (r3.1.1 o0 5)) (fun M6 => Option.bind (f_X4_goOn M6 o0) (fun r7 => some (r7.1, (1 : Int32)))))))))
def rmX4_readLaw : Room := { frames := 4, cells := 0, slots := 0, locals := 120 }
theorem hdX4_readLaw : yX4_readLaw.cls ≠ "java/lang/invoke/MethodHandle" ∧ yX4_readLaw.cls ≠ "java/lang/invoke/VarHandle" ∧ (parseMethodDescriptor yX4_readLaw.desc).map (fun d => d.parameters.length) = some 1 := by decide +kernel
def f_X4_readSide (M : Mm) (o0 : Nat) (a1 : Nat) (a2 : Int32) : Option (Mm × Int32) := gd (ok nX shX a1 1) (if M.1 a1 3 < (6 : Int32) then (gd (ok nX shX o0 4) (Option.bind (f_X4_goOn M o0) (fun r3 => Option.bind (f_X4_isNumber r3.1 o0 (1 : Int32) (9 : Int32)) (fun r5 => if r5.2 = 0 then (some (r5.1, (0 : Int32))) else (Option.bind (f_X4_goOn r5.1 o0) (fun r7 => Option.bind (f_X4_readPerhaps r7.1 o0 7 (0 : Int32) (9 : Int32) (0 : Int32)) (fun r8 => if 0 ≤ r8.2 then (Option.bind (f_X1_addSide r8.1 a1 a2 (r5.1.1 o0 5) r8.2) (fun r10 => some (r10.1, (1 : Int32)))) else (some (r8.1, (0 : Int32)))))))))) else (some (M, (0 : Int32))))
def rmX4_readSide : Room := { frames := 10, cells := 0, slots := 0, locals := 447 }
theorem hdX4_readSide : yX4_readSide.cls ≠ "java/lang/invoke/MethodHandle" ∧ yX4_readSide.cls ≠ "java/lang/invoke/VarHandle" ∧ (parseMethodDescriptor yX4_readSide.desc).map (fun d => d.parameters.length) = some 2 := by decide +kernel
def f_X4_readItem (M : Mm) (o0 : Nat) (a1 : Nat) : Option (Mm × Int32) := gd (ok nX shX o0 4) (Option.bind (f_X4_kindOfWord M o0) (fun r1 => if r1.2 < 0 then (Option.bind (f_X4_isWord r1.1 o0 8) (fun r4 => if r4.2 = 0 then (Option.bind (f_X4_isWord r4.1 o0 10) (fun r6 => if r6.2 = 0 then (some (r6.1, (0 : Int32))) else (Option.bind (f_X4_readLaw r6.1 o0 a1) (fun r8 => if r8.2 = 0 then (some (r8.1, (0 : Int32))) else (some (r8.1, (1 : Int32))))))) else (Option.bind (f_X4_readGame r4.1 o0 a1) (fun r10 => gd (bz r10.2) (some (r10.1, r10.2)))))) else (Option.bind (f_X4_readSide r1.1 o0 a1 r1.2) (fun r12 => gd (bz r12.2) (some (r12.1, r12.2))))))
def rmX4_readItem : Room := { frames := 11, cells := 0, slots := 0, locals := 471 }
theorem hdX4_readItem : yX4_readItem.cls ≠ "java/lang/invoke/MethodHandle" ∧ yX4_readItem.cls ≠ "java/lang/invoke/VarHandle" ∧ (parseMethodDescriptor yX4_readItem.desc).map (fun d => d.parameters.length) = some 1 := by decide +kernel
def f_X4_readInto_b7  : Nat → Mm → Nat → Nat → Int32 → Option (Mm × Int32)
  | 0, _, _, _, _ => none
  | nn + 1, M, x0, x1, x2 => if (120 : Int32) < x2 then (gd (ok nX shX x0 4) (some (M, (-1 : Int32) - (M.1 x0 1)))) else (gd (ok nX shX x0 4) (Option.bind (f_X4_goOn M x0) (fun r3 => Option.bind (f_X4_readItem r3.1 x0 x1) (fun r5 => if r5.2 = 0 then (some (r5.1, (-1 : Int32) - (r5.1.1 x0 3))) else (if r5.1.1 x0 2 = 0 then (some (r5.1, x2)) else (if r5.1.1 x0 2 = (3 : Int32) then ((f_X4_readInto_b7 nn) r5.1 x0 x1 (x2 + (1 : Int32))) else (some (r5.1, (-1 : Int32) - (r5.1.1 x0 3)))))))))
def f_X4_readInto (M : Mm) (o0 : Nat) (a1 : Nat) : Option (Mm × Int32) := gd (ok nX shX o0 4) (lt (sI M o0 4 (0 : Int32)) (fun M10 => f_X4_readInto_b7 1000 M10 o0 a1 (1 : Int32)))
def rmX4_readInto : Room := { frames := 12, cells := 0, slots := 0, locals := 493 }
theorem hdX4_readInto : yX4_readInto.cls ≠ "java/lang/invoke/MethodHandle" ∧ yX4_readInto.cls ≠ "java/lang/invoke/VarHandle" ∧ (parseMethodDescriptor yX4_readInto.desc).map (fun d => d.parameters.length) = some 1 := by decide +kernel
def f_X5_arrive_b63  (M : Mm) (x0 : Nat) (x1 : Int64) (t0 : Nat) (t1 : Int64) (t2 : Int64) : Option (Mm × Unit) := gd (ok nX shX t0 5) (lt (sL M t0 11 (t1 + t2)) (fun M2 => gd (ok nX shX x0 5) (Option.bind (M2.2.2 x0 0) (fun q4 => gd (ok nX shX q4 1) (Option.bind (f_X1_leader M2 q4) (fun r5 => if r5.2 = (-1 : Int32) then (some (r5.1, ())) else (Option.bind (r5.1.2.2 x0 2) (fun q8 => gd (okA nX shX q8 9 r5.2) (gd (okA nX shX q8 9 r5.2) (lt (sL r5.1 q8 r5.2.toNatClampNeg ((r5.1.2.1 q8 r5.2.toNatClampNeg) + x1)) (fun M11 => some (M11, ()))))))))))))
def f_X5_arrive (M : Mm) (o0 : Nat) (a1 : Int64) : Option (Mm × Unit) := gd (ok nX shX o0 5) (Option.bind (M.2.2 o0 0) (fun q13 => gd (ok nX shX q13 1) (Option.bind (M.2.2 q13 0) (fun q15 => gd (okA nX shX q15 10 (M.1 o0 8)) (Option.bind (M.2.2 q15 (M.1 o0 8).toNatClampNeg) (fun q17 => gd (ok nX shX q17 3) (lt (sI M o0 12 (if M.1 o0 12 < M.1 q17 3 then M.1 q17 3 else M.1 o0 12)) (fun M19 => if lg_cmp a1 (0 : Int64) = 0 then (some (M19, ())) else (lt (sI M19 o0 7 ((M19.1 o0 7) + (1 : Int32))) (fun M21 => if M.1 q17 3 < M21.1 o0 9 then (f_X5_arrive_b63 M21 o0 a1 o0 (M21.2.1 o0 11) (0 : Int64)) else (f_X5_arrive_b63 M21 o0 a1 o0 (M21.2.1 o0 11) a1)))))))))))
def rmX5_arrive : Room := { frames := 2, cells := 0, slots := 0, locals := 82 }
theorem hdX5_arrive : yX5_arrive.cls ≠ "java/lang/invoke/MethodHandle" ∧ yX5_arrive.cls ≠ "java/lang/invoke/VarHandle" ∧ (parseMethodDescriptor yX5_arrive.desc).map (fun d => d.parameters.length) = some 1 := by decide +kernel
def f_X5_follow_b254 (fr : Mm → Nat → Int32 → Int64 → Option (Mm × Unit)) (k88 : Mm → Nat → Int32 → Int64 → Int32 → Nat → Int32 → Int32 → Int32 → Int32 → Option (Mm × Unit)) (M : Mm) (x0 : Nat) (x1 : Int32) (x2 : Int64) (x4 : Int32) (x5 : Nat) (x6 : Int32) (x7 : Int32) (x8 : Int32) (x9 : Int32) : Option (Mm × Unit) := k88 M x0 x1 x2 x4 x5 x6 x7 x8 (x9 + (1 : Int32))
def f_X5_follow_b236 (fr : Mm → Nat → Int32 → Int64 → Option (Mm × Unit)) (k88 : Mm → Nat → Int32 → Int64 → Int32 → Nat → Int32 → Int32 → Int32 → Int32 → Option (Mm × Unit)) (M : Mm) (x0 : Nat) (x1 : Int32) (x2 : Int64) (x4 : Int32) (x5 : Nat) (x6 : Int32) (x7 : Int32) (x8 : Int32) (x9 : Int32) (x11 : Int64) (t0 : Nat) (t1 : Int32) (t2 : Int64) (t3 : Int64) : Option (Mm × Unit) := gd (okA nX shX t0 9 t1) (lt (sL M t0 t1.toNatClampNeg (t2 + t3)) (fun M2 => gd (ok nX shX x0 5) (Option.bind (fr M2 x0 (x1 + (1 : Int32)) x11) (fun r3 => Option.bind (r3.1.2.2 x0 0) (fun q5 => gd (ok nX shX q5 1) (Option.bind (f_X1_takeBack r3.1 q5) (fun r6 => f_X5_follow_b254 fr k88 r6.1 x0 x1 x2 x4 x5 x6 x7 x8 x9)))))))
def f_X5_follow_b213 (fr : Mm → Nat → Int32 → Int64 → Option (Mm × Unit)) (k88 : Mm → Nat → Int32 → Int64 → Int32 → Nat → Int32 → Int32 → Int32 → Int32 → Option (Mm × Unit)) (M : Mm) (x0 : Nat) (x1 : Int32) (x2 : Int64) (x4 : Int32) (x5 : Nat) (x6 : Int32) (x7 : Int32) (x8 : Int32) (x9 : Int32) (x10 : Int32) (x11 : Int64) (x13 : Int32) (t0 : Nat) (t1 : Int32) (t2 : Int64) (t3 : Int64) : Option (Mm × Unit) := gd (okA nX shX t0 9 t1) (lt (sL M t0 t1.toNatClampNeg (t2 + t3)) (fun M9 => gd (ok nX shX x0 5) (Option.bind (M9.2.2 x0 4) (fun q11 => gd (okA nX shX q11 9 x4) (if x13 = x10 then (f_X5_follow_b236 fr k88 M9 x0 x1 x2 x4 x5 x6 x7 x8 x9 x11 q11 x4 (M9.2.1 q11 x4.toNatClampNeg) (0 : Int64)) else (f_X5_follow_b236 fr k88 M9 x0 x1 x2 x4 x5 x6 x7 x8 x9 x11 q11 x4 (M9.2.1 q11 x4.toNatClampNeg) x11))))))
def f_X5_follow_b155 (fr : Mm → Nat → Int32 → Int64 → Option (Mm × Unit)) (k88 : Mm → Nat → Int32 → Int64 → Int32 → Nat → Int32 → Int32 → Int32 → Int32 → Option (Mm × Unit)) (M : Mm) (x0 : Nat) (x1 : Int32) (x2 : Int64) (x4 : Int32) (x5 : Nat) (x6 : Int32) (x7 : Int32) (x8 : Int32) (x9 : Int32) (x10 : Int32) (x11 : Int64) : Option (Mm × Unit) := gd (ok nX shX x0 5) (Option.bind (M.2.2 x0 0) (fun q15 => gd (ok nX shX q15 1) (Option.bind (f_X1_settle M q15 x10 x6 x7) (fun r16 => Option.bind (r16.1.2.2 x0 1) (fun q18 => gd (okA nX shX q18 9 r16.2) (gd (ok nX shX x5 0) (gd (okA nX shX q18 9 r16.2) (lt (sL r16.1 q18 r16.2.toNatClampNeg ((r16.1.2.1 q18 r16.2.toNatClampNeg) + (x11 * ((r16.1.1 x5 2).toInt64)))) (fun M22 => Option.bind (M22.2.2 x0 3) (fun q23 => gd (okA nX shX q23 9 x4) (if r16.2 = M22.1 x5 0 then (f_X5_follow_b213 fr k88 M22 x0 x1 x2 x4 x5 x6 x7 x8 x9 x10 x11 r16.2 q23 x4 (M22.2.1 q23 x4.toNatClampNeg) x11) else (f_X5_follow_b213 fr k88 M22 x0 x1 x2 x4 x5 x6 x7 x8 x9 x10 x11 r16.2 q23 x4 (M22.2.1 q23 x4.toNatClampNeg) (0 : Int64)))))))))))))
def f_X5_follow_b134 (fr : Mm → Nat → Int32 → Int64 → Option (Mm × Unit)) (k88 : Mm → Nat → Int32 → Int64 → Int32 → Nat → Int32 → Int32 → Int32 → Int32 → Option (Mm × Unit)) (M : Mm) (x0 : Nat) (x1 : Int32) (x2 : Int64) (x4 : Int32) (x5 : Nat) (x6 : Int32) (x7 : Int32) (x8 : Int32) (x9 : Int32) (x10 : Int32) (t0 : Int64) (t1 : Int32) : Option (Mm × Unit) := if lg_cmp (t0 * t1.toInt64) (0 : Int64) = 0 then (gd (ok nX shX x0 5) (if M.1 x0 10 = 0 then (f_X5_follow_b254 fr k88 M x0 x1 x2 x4 x5 x6 x7 x8 x9) else (f_X5_follow_b155 fr k88 M x0 x1 x2 x4 x5 x6 x7 x8 x9 x10 (t0 * t1.toInt64)))) else (f_X5_follow_b155 fr k88 M x0 x1 x2 x4 x5 x6 x7 x8 x9 x10 (t0 * t1.toInt64))
def f_X5_follow_b112 (fr : Mm → Nat → Int32 → Int64 → Option (Mm × Unit)) (k88 : Mm → Nat → Int32 → Int64 → Int32 → Nat → Int32 → Int32 → Int32 → Int32 → Option (Mm × Unit)) (M : Mm) (x0 : Nat) (x1 : Int32) (x2 : Int64) (x4 : Int32) (x5 : Nat) (x6 : Int32) (x7 : Int32) (x8 : Int32) (x9 : Int32) (t0 : Int32) : Option (Mm × Unit) := if x9 = 0 then (f_X5_follow_b134 fr k88 M x0 x1 x2 x4 x5 x6 x7 x8 x9 t0 (x2 / (10 : Int64)) x8) else (f_X5_follow_b134 fr k88 M x0 x1 x2 x4 x5 x6 x7 x8 x9 t0 (x2 / (10 : Int64)) ((10 : Int32) - x8))
def f_X5_follow_b88 (fr : Mm → Nat → Int32 → Int64 → Option (Mm × Unit))  : Nat → Mm → Nat → Int32 → Int64 → Int32 → Nat → Int32 → Int32 → Int32 → Int32 → Option (Mm × Unit)
  | 0, _, _, _, _, _, _, _, _, _, _ => none
  | nn + 1, M, x0, x1, x2, x4, x5, x6, x7, x8, x9 => if (2 : Int32) ≤ x9 then (some (M, ())) else (if x9 = 0 then (gd (ok nX shX x5 0) (f_X5_follow_b112 fr (f_X5_follow_b88 fr nn) M x0 x1 x2 x4 x5 x6 x7 x8 x9 (M.1 x5 0))) else (gd (ok nX shX x5 0) (f_X5_follow_b112 fr (f_X5_follow_b88 fr nn) M x0 x1 x2 x4 x5 x6 x7 x8 x9 (M.1 x5 1))))
def f_X5_follow : Nat → Mm → Nat → Int32 → Int64 → Option (Mm × Unit)
  | 0, _, _, _, _ => none
  | nd + 1, M, o0, a1, a2 => gd (ok nX shX o0 5) (Option.bind (M.2.2 o0 0) (fun q35 => gd (ok nX shX q35 1) (Option.bind (f_X1_allPlayed M q35) (fun r36 => if r36.2 = 0 then (if a1 < (8 : Int32) then (Option.bind (r36.1.2.2 o0 0) (fun q40 => gd (ok nX shX q40 1) (Option.bind (r36.1.2.2 o0 0) (fun q42 => gd (ok nX shX q42 1) (Option.bind (r36.1.2.2 q42 1) (fun q44 => gd (okA nX shX q44 11 (r36.1.1 q40 5)) (Option.bind (r36.1.2.2 q44 (r36.1.1 q40 5).toNatClampNeg) (fun q46 => Option.bind (r36.1.2.2 o0 0) (fun q47 => gd (ok nX shX q46 0) (gd (ok nX shX q47 1) (Option.bind (f_X1_effortOf r36.1 q47 (r36.1.1 q46 0)) (fun r49 => Option.bind (r49.1.2.2 o0 0) (fun q51 => gd (ok nX shX q51 1) (Option.bind (f_X1_effortOf r49.1 q51 (r49.1.1 q46 1)) (fun r52 => Option.bind (r52.1.2.2 o0 0) (fun q54 => gd (ok nX shX q54 1) (Option.bind (f_X1_chanceOfFirst r52.1 q54 r49.2 r52.2) (fun r55 => f_X5_follow_b88 (f_X5_follow nd) 1000 r55.1 o0 a1 a2 (r36.1.1 q40 5) q46 r49.2 r52.2 r55.2 (0 : Int32))))))))))))))))))) else (some (r36.1, ()))) else (Option.bind (f_X5_arrive r36.1 o0 a2) (fun r57 => some (r57.1, ())))))))
def rmX5_follow (nd : Nat) : Room := { frames := 4 + nd, cells := 0, slots := 0, locals := 132 + nd * 33 }
theorem hdX5_follow : yX5_follow.cls ≠ "java/lang/invoke/MethodHandle" ∧ yX5_follow.cls ≠ "java/lang/invoke/VarHandle" ∧ (parseMethodDescriptor yX5_follow.desc).map (fun d => d.parameters.length) = some 2 := by decide +kernel
def f_X5_startSums_b147 (k52 : Mm → Nat → Int32 → Option (Mm × Unit)) (M : Mm) (x0 : Nat) (x1 : Int32) (t0 : Nat) (t1 : Int32) (t2 : Int64) : Option (Mm × Unit) := gd (okA nX shX t0 9 t1) (lt (sL M t0 t1.toNatClampNeg t2) (fun M2 => k52 M2 x0 (x1 + (1 : Int32))))
def f_X5_startSums_b146 (k52 : Mm → Nat → Int32 → Option (Mm × Unit)) (M : Mm) (x0 : Nat) (x1 : Int32) (t0 : Nat) (t1 : Int32) : Option (Mm × Unit) := f_X5_startSums_b147 k52 M x0 x1 t0 t1 (0 : Int64)
def f_X5_startSums_b118 (k52 : Mm → Nat → Int32 → Option (Mm × Unit)) (M : Mm) (x0 : Nat) (x1 : Int32) (x2 : Nat) (x3 : Int32) (t0 : Nat) (t1 : Int32) (t2 : Int64) : Option (Mm × Unit) := gd (okA nX shX t0 9 t1) (lt (sL M t0 t1.toNatClampNeg t2) (fun M4 => gd (ok nX shX x0 5) (Option.bind (M4.2.2 x0 4) (fun q6 => if x3 = 0 then (f_X5_startSums_b146 k52 M4 x0 x1 q6 x1) else (gd (ok nX shX x2 0) (if M4.1 x2 4 = M4.1 x2 3 then (f_X5_startSums_b146 k52 M4 x0 x1 q6 x1) else (f_X5_startSums_b147 k52 M4 x0 x1 q6 x1 (M4.2.1 x0 6))))))))
def f_X5_startSums_b117 (k52 : Mm → Nat → Int32 → Option (Mm × Unit)) (M : Mm) (x0 : Nat) (x1 : Int32) (x2 : Nat) (x3 : Int32) (t0 : Nat) (t1 : Int32) : Option (Mm × Unit) := f_X5_startSums_b118 k52 M x0 x1 x2 x3 t0 t1 (0 : Int64)
def f_X5_startSums_b89 (k52 : Mm → Nat → Int32 → Option (Mm × Unit)) (M : Mm) (x0 : Nat) (x1 : Int32) (x2 : Nat) (t0 : Int32) : Option (Mm × Unit) := gd (ok nX shX x0 5) (Option.bind (M.2.2 x0 3) (fun q11 => if t0 = 0 then (f_X5_startSums_b117 k52 M x0 x1 x2 t0 q11 x1) else (gd (ok nX shX x2 0) (if M.1 x2 4 = M.1 x2 0 then (f_X5_startSums_b118 k52 M x0 x1 x2 t0 q11 x1 (M.2.1 x0 6)) else (f_X5_startSums_b117 k52 M x0 x1 x2 t0 q11 x1)))))
def f_X5_startSums_b52  : Nat → Mm → Nat → Int32 → Option (Mm × Unit)
  | 0, _, _, _ => none
  | nn + 1, M, x0, x1 => gd (ok nX shX x0 5) (Option.bind (M.2.2 x0 0) (fun q16 => gd (ok nX shX q16 1) (if M.1 q16 4 ≤ x1 then (some (M, ())) else (Option.bind (M.2.2 x0 0) (fun q19 => gd (ok nX shX q19 1) (Option.bind (M.2.2 q19 1) (fun q21 => gd (okA nX shX q21 11 x1) (Option.bind (M.2.2 q21 x1.toNatClampNeg) (fun q23 => Option.bind (M.2.2 x0 0) (fun q24 => gd (ok nX shX q24 1) (if M.1 q24 5 ≤ x1 then (f_X5_startSums_b89 (f_X5_startSums_b52 nn) M x0 x1 q23 (0 : Int32)) else (f_X5_startSums_b89 (f_X5_startSums_b52 nn) M x0 x1 q23 (1 : Int32)))))))))))))
def f_X5_startSums_b2  : Nat → Mm → Nat → Int32 → Option (Mm × Unit)
  | 0, _, _, _ => none
  | nn + 1, M, x0, x1 => gd (ok nX shX x0 5) (Option.bind (M.2.2 x0 0) (fun q28 => gd (ok nX shX q28 1) (if M.1 q28 3 ≤ x1 then (f_X5_startSums_b52 1000 M x0 (0 : Int32)) else (Option.bind (M.2.2 x0 1) (fun q31 => Option.bind (M.2.2 x0 0) (fun q32 => gd (ok nX shX q32 1) (Option.bind (M.2.2 q32 0) (fun q34 => gd (okA nX shX q34 10 x1) (Option.bind (M.2.2 q34 x1.toNatClampNeg) (fun q36 => gd (ok nX shX q36 3) (gd (okA nX shX q31 9 x1) (lt (sL M q31 x1.toNatClampNeg ((M.2.1 x0 6) * ((M.1 q36 3).toInt64))) (fun M39 => Option.bind (M39.2.2 x0 2) (fun q40 => gd (okA nX shX q40 9 x1) (lt (sL M39 q40 x1.toNatClampNeg (0 : Int64)) (fun M42 => (f_X5_startSums_b2 nn) M42 x0 (x1 + (1 : Int32))))))))))))))))))
def f_X5_startSums (M : Mm) (o0 : Nat) : Option (Mm × Unit) := f_X5_startSums_b2 1000 M o0 (0 : Int32)
def rmX5_startSums : Room := { frames := 1, cells := 0, slots := 0, locals := 60 }
theorem hdX5_startSums : yX5_startSums.cls ≠ "java/lang/invoke/MethodHandle" ∧ yX5_startSums.cls ≠ "java/lang/invoke/VarHandle" ∧ (parseMethodDescriptor yX5_startSums.desc).map (fun d => d.parameters.length) = some 0 := by decide +kernel
def f_X5_over_b44  : Nat → Mm → Nat → Int32 → Option (Mm × Unit)
  | 0, _, _, _ => none
  | nn + 1, M, x0, x4 => gd (ok nX shX x0 5) (Option.bind (M.2.2 x0 0) (fun q2 => gd (ok nX shX q2 1) (if M.1 q2 4 ≤ x4 then (Option.bind (f_X5_startSums M x0) (fun r5 => Option.bind (f_X5_follow 10 r5.1 x0 (0 : Int32) (r5.1.2.1 x0 6)) (fun r6 => some (r6.1, ())))) else (lt (sL M x0 6 ((M.2.1 x0 6) * (10 : Int64))) (fun M7 => (f_X5_over_b44 nn) M7 x0 (x4 + (1 : Int32)))))))
def f_X5_over (M : Mm) (o0 : Nat) (a1 : Int32) (a2 : Int32) (a3 : Int32) : Option (Mm × Unit) := gd (ok nX shX o0 5) (lt (sI M o0 8 a1) (fun M9 => lt (sI M9 o0 9 a2) (fun M10 => gd (bz a3) (lt (sI M10 o0 10 a3) (fun M12 => lt (sL M12 o0 11 (0 : Int64)) (fun M13 => lt (sI M13 o0 12 (0 : Int32)) (fun M14 => lt (sI M14 o0 7 (0 : Int32)) (fun M15 => lt (sL M15 o0 6 (1 : Int64)) (fun M16 => Option.bind (M16.2.2 o0 0) (fun q17 => gd (ok nX shX q17 1) (f_X5_over_b44 1000 M16 o0 (M16.1 q17 5))))))))))))
def rmX5_over : Room := { frames := 15, cells := 0, slots := 0, locals := 495 }
theorem hdX5_over : yX5_over.cls ≠ "java/lang/invoke/MethodHandle" ∧ yX5_over.cls ≠ "java/lang/invoke/VarHandle" ∧ (parseMethodDescriptor yX5_over.desc).map (fun d => d.parameters.length) = some 3 := by decide +kernel
def f_X5_keepPointSums (M : Mm) (o0 : Nat) : Option (Mm × Unit) := gd (ok nX shX o0 5) (Option.bind (M.2.2 o0 1) (fun q2 => Option.bind (M.2.2 o0 5) (fun q3 => gd (okC nX shX 9 q2 q3 (0 : Int32) (0 : Int32) (6 : Int32)) (lt (cpL M q2 q3 (0 : Int32).toNatClampNeg (0 : Int32).toNatClampNeg (6 : Int32).toNatClampNeg) (fun M5 => some (M5, ()))))))
def rmX5_keepPointSums : Room := { frames := 1, cells := 0, slots := 0, locals := 60 }
theorem hdX5_keepPointSums : yX5_keepPointSums.cls ≠ "java/lang/invoke/MethodHandle" ∧ yX5_keepPointSums.cls ≠ "java/lang/invoke/VarHandle" ∧ (parseMethodDescriptor yX5_keepPointSums.desc).map (fun d => d.parameters.length) = some 0 := by decide +kernel
def f_X5_keptAbovePointSum (M : Mm) (o0 : Nat) (a1 : Int32) : Option (Mm × Int64) := gd (ok nX shX o0 5) (Option.bind (M.2.2 o0 5) (fun q2 => gd (okA nX shX q2 9 a1) (Option.bind (M.2.2 o0 1) (fun q4 => gd (okA nX shX q4 9 a1) (some (M, (M.2.1 q2 a1.toNatClampNeg) - (M.2.1 q4 a1.toNatClampNeg)))))))
def rmX5_keptAbovePointSum : Room := { frames := 1, cells := 0, slots := 0, locals := 60 }
theorem hdX5_keptAbovePointSum : yX5_keptAbovePointSum.cls ≠ "java/lang/invoke/MethodHandle" ∧ yX5_keptAbovePointSum.cls ≠ "java/lang/invoke/VarHandle" ∧ (parseMethodDescriptor yX5_keptAbovePointSum.desc).map (fun d => d.parameters.length) = some 1 := by decide +kernel
def f_X6_finding (M : Mm) (o0 : Nat) (a1 : Int32) : Option (Mm × Int32) := gd (ok nX shX o0 6) (Option.bind (M.2.2 o0 7) (fun q2 => gd (okA nX shX q2 8 a1) (gd (okA nX shX q2 8 a1) (lt (sI M q2 a1.toNatClampNeg ((M.1 q2 a1.toNatClampNeg) + (1 : Int32))) (fun M5 => some (M5, (-1000001 : Int32) - a1))))))
def rmX6_finding : Room := { frames := 1, cells := 0, slots := 0, locals := 60 }
theorem hdX6_finding : yX6_finding.cls ≠ "java/lang/invoke/MethodHandle" ∧ yX6_finding.cls ≠ "java/lang/invoke/VarHandle" ∧ (parseMethodDescriptor yX6_finding.desc).map (fun d => d.parameters.length) = some 1 := by decide +kernel
def f_X6_isKind (M : Mm) (a0 : Int32) : Option (Mm × Int32) := if a0 < 0 then (some (M, (0 : Int32))) else (if (6 : Int32) < a0 then (some (M, (0 : Int32))) else (some (M, (1 : Int32))))
def rmX6_isKind : Room := { frames := 1, cells := 0, slots := 0, locals := 60 }
theorem hdX6_isKind : yX6_isKind.cls ≠ "java/lang/invoke/MethodHandle" ∧ yX6_isKind.cls ≠ "java/lang/invoke/VarHandle" ∧ (parseMethodDescriptor yX6_isKind.desc).map (fun d => d.parameters.length) = some 1 := by decide +kernel
def f_X6_isStrength (M : Mm) (a0 : Int32) : Option (Mm × Int32) := if a0 < (1 : Int32) then (some (M, (0 : Int32))) else (if (9 : Int32) < a0 then (some (M, (0 : Int32))) else (some (M, (1 : Int32))))
def rmX6_isStrength : Room := { frames := 1, cells := 0, slots := 0, locals := 60 }
theorem hdX6_isStrength : yX6_isStrength.cls ≠ "java/lang/invoke/MethodHandle" ∧ yX6_isStrength.cls ≠ "java/lang/invoke/VarHandle" ∧ (parseMethodDescriptor yX6_isStrength.desc).map (fun d => d.parameters.length) = some 1 := by decide +kernel
def f_X6_side_b14  (M : Mm) (x0 : Nat) : Option (Mm × Int32) := gd (ok nX shX x0 6) (Option.bind (f_X6_finding M x0 (0 : Int32)) (fun r1 => some (r1.1, r1.2)))
def f_X6_side (M : Mm) (o0 : Nat) (a1 : Int32) (a2 : Int32) : Option (Mm × Int32) := Option.bind (f_X6_isKind M a1) (fun r3 => if r3.2 = 0 then (f_X6_side_b14 r3.1 o0) else (Option.bind (f_X6_isStrength r3.1 a2) (fun r5 => if r5.2 = 0 then (f_X6_side_b14 r5.1 o0) else (gd (ok nX shX o0 6) (Option.bind (r5.1.2.2 o0 0) (fun q8 => gd (ok nX shX q8 1) (if r5.1.1 q8 3 < (6 : Int32) then (Option.bind (r5.1.2.2 o0 0) (fun q11 => gd (ok nX shX q11 1) (Option.bind (f_X1_addSide r5.1 q11 a1 a2 (0 : Int32)) (fun r12 => some (r12.1, r12.2))))) else (Option.bind (f_X6_finding r5.1 o0 (1 : Int32)) (fun r14 => some (r14.1, r14.2))))))))))
def rmX6_side : Room := { frames := 3, cells := 0, slots := 0, locals := 104 }
theorem hdX6_side : yX6_side.cls ≠ "java/lang/invoke/MethodHandle" ∧ yX6_side.cls ≠ "java/lang/invoke/VarHandle" ∧ (parseMethodDescriptor yX6_side.desc).map (fun d => d.parameters.length) = some 2 := by decide +kernel
def f_X6_sideOf (M : Mm) (o0 : Nat) (a1 : Int32) (a2 : Int32) : Option (Mm × Int32) := gd (ok nX shX o0 6) (Option.bind (M.2.2 o0 0) (fun q2 => gd (ok nX shX q2 1) (Option.bind (f_X1_hasSide M q2 a1) (fun r3 => if r3.2 = 0 then (Option.bind (f_X6_finding r3.1 o0 (0 : Int32)) (fun r37 => some (r37.1, r37.2))) else (Option.bind (r3.1.2.2 o0 0) (fun q6 => gd (ok nX shX q6 1) (Option.bind (r3.1.2.2 q6 0) (fun q8 => gd (okA nX shX q8 10 a1) (Option.bind (r3.1.2.2 q8 a1.toNatClampNeg) (fun q10 => if a2 = 0 then (gd (ok nX shX q10 3) (some (r3.1, r3.1.1 q10 0))) else (if a2 = 1 then (gd (ok nX shX q10 3) (some (r3.1, r3.1.1 q10 1))) else (if a2 = 2 then (gd (ok nX shX q10 3) (some (r3.1, r3.1.1 q10 2))) else (if a2 = 3 then (gd (ok nX shX q10 3) (some (r3.1, r3.1.1 q10 3))) else (if a2 = 4 then (Option.bind (r3.1.2.2 o0 0) (fun q20 => gd (ok nX shX q20 1) (Option.bind (f_X1_isBarred r3.1 q20 a1) (fun r21 => if r21.2 = 0 then (some (r21.1, (0 : Int32))) else (some (r21.1, (1 : Int32))))))) else (if a2 = 5 then (gd (ok nX shX q10 3) (if r3.1.1 q10 5 = 0 then (some (r3.1, (0 : Int32))) else (some (r3.1, (1 : Int32))))) else (if a2 = 6 then (Option.bind (r3.1.2.2 o0 0) (fun q28 => gd (ok nX shX q28 1) (Option.bind (f_X1_gamesPlayedBy r3.1 q28 a1) (fun r29 => some (r29.1, r29.2))))) else (if a2 = 7 then (Option.bind (r3.1.2.2 o0 0) (fun q32 => gd (ok nX shX q32 1) (Option.bind (f_X1_gamesGivenTo r3.1 q32 a1) (fun r33 => some (r33.1, r33.2))))) else (Option.bind (f_X6_finding r3.1 o0 (0 : Int32)) (fun r35 => some (r35.1, r35.2))))))))))))))))))))
def rmX6_sideOf : Room := { frames := 3, cells := 0, slots := 0, locals := 104 }
theorem hdX6_sideOf : yX6_sideOf.cls ≠ "java/lang/invoke/MethodHandle" ∧ yX6_sideOf.cls ≠ "java/lang/invoke/VarHandle" ∧ (parseMethodDescriptor yX6_sideOf.desc).map (fun d => d.parameters.length) = some 2 := by decide +kernel
def f_X6_canBecome (M : Mm) (a0 : Int32) (a1 : Int32) : Option (Mm × Int32) := if a0 = 0 then (Option.bind (f_X6_isKind M a1) (fun r2 => gd (bz r2.2) (some (r2.1, r2.2)))) else (if a0 = 1 then (Option.bind (f_X6_isStrength M a1) (fun r5 => gd (bz r5.2) (some (r5.1, r5.2)))) else (if a0 = 2 then (if a1 < 0 then (some (M, (0 : Int32))) else (if (9 : Int32) < a1 then (some (M, (0 : Int32))) else (some (M, (1 : Int32))))) else (some (M, (0 : Int32)))))
def rmX6_canBecome : Room := { frames := 2, cells := 0, slots := 0, locals := 80 }
theorem hdX6_canBecome : yX6_canBecome.cls ≠ "java/lang/invoke/MethodHandle" ∧ yX6_canBecome.cls ≠ "java/lang/invoke/VarHandle" ∧ (parseMethodDescriptor yX6_canBecome.desc).map (fun d => d.parameters.length) = some 2 := by decide +kernel
def f_X6_change_b19  (M : Mm) (x0 : Nat) : Option (Mm × Int32) := gd (ok nX shX x0 6) (Option.bind (f_X6_finding M x0 (0 : Int32)) (fun r1 => some (r1.1, r1.2)))
def f_X6_change (M : Mm) (o0 : Nat) (a1 : Int32) (a2 : Int32) (a3 : Int32) : Option (Mm × Int32) := gd (ok nX shX o0 6) (Option.bind (M.2.2 o0 0) (fun q4 => gd (ok nX shX q4 1) (Option.bind (f_X1_hasSide M q4 a1) (fun r5 => if r5.2 = 0 then (f_X6_change_b19 r5.1 o0) else (Option.bind (f_X6_canBecome r5.1 a2 a3) (fun r8 => if r8.2 = 0 then (f_X6_change_b19 r8.1 o0) else (Option.bind (r8.1.2.2 o0 0) (fun q10 => gd (ok nX shX q10 1) (Option.bind (r8.1.2.2 q10 0) (fun q12 => gd (okA nX shX q12 10 a1) (Option.bind (r8.1.2.2 q12 a1.toNatClampNeg) (fun q14 => if a2 = 0 then (gd (ok nX shX q14 3) (lt (sI r8.1 q14 0 a3) (fun M22 => some (M22, r8.1.1 q14 0)))) else (if a2 = (1 : Int32) then (gd (ok nX shX q14 3) (lt (sI r8.1 q14 1 a3) (fun M20 => some (M20, r8.1.1 q14 1)))) else (gd (ok nX shX q14 3) (lt (sI r8.1 q14 2 a3) (fun M18 => some (M18, r8.1.1 q14 2)))))))))))))))))
def rmX6_change : Room := { frames := 3, cells := 0, slots := 0, locals := 101 }
theorem hdX6_change : yX6_change.cls ≠ "java/lang/invoke/MethodHandle" ∧ yX6_change.cls ≠ "java/lang/invoke/VarHandle" ∧ (parseMethodDescriptor yX6_change.desc).map (fun d => d.parameters.length) = some 3 := by decide +kernel
def f_X6_game_b38  (M : Mm) (x0 : Nat) : Option (Mm × Int32) := gd (ok nX shX x0 6) (Option.bind (f_X6_finding M x0 (0 : Int32)) (fun r1 => some (r1.1, r1.2)))
def f_X6_game (M : Mm) (o0 : Nat) (a1 : Int32) (a2 : Int32) (a3 : Int32) : Option (Mm × Int32) := gd (ok nX shX o0 6) (Option.bind (M.2.2 o0 0) (fun q4 => gd (ok nX shX q4 1) (Option.bind (f_X1_hasSide M q4 a1) (fun r5 => if r5.2 = 0 then (f_X6_game_b38 r5.1 o0) else (Option.bind (r5.1.2.2 o0 0) (fun q8 => gd (ok nX shX q8 1) (Option.bind (f_X1_hasSide r5.1 q8 a2) (fun r9 => if r9.2 = 0 then (f_X6_game_b38 r9.1 o0) else (if a1 = a2 then (f_X6_game_b38 r9.1 o0) else (if a3 < (1 : Int32) then (f_X6_game_b38 r9.1 o0) else (if a3 ≤ (9 : Int32) then (Option.bind (r9.1.2.2 o0 0) (fun q15 => gd (ok nX shX q15 1) (if r9.1.1 q15 4 < (8 : Int32) then (Option.bind (r9.1.2.2 o0 0) (fun q18 => gd (ok nX shX q18 1) (Option.bind (f_X1_addGame r9.1 q18 a1 a2 a3) (fun r19 => some (r19.1, r19.2))))) else (Option.bind (f_X6_finding r9.1 o0 (1 : Int32)) (fun r21 => some (r21.1, r21.2)))))) else (f_X6_game_b38 r9.1 o0))))))))))))
def rmX6_game : Room := { frames := 2, cells := 0, slots := 0, locals := 84 }
theorem hdX6_game : yX6_game.cls ≠ "java/lang/invoke/MethodHandle" ∧ yX6_game.cls ≠ "java/lang/invoke/VarHandle" ∧ (parseMethodDescriptor yX6_game.desc).map (fun d => d.parameters.length) = some 3 := by decide +kernel
def f_X6_gameOf_b48  (M : Mm) (x0 : Nat) (x1 : Int32) (x2 : Int32) : Option (Mm × Int32) := gd (ok nX shX x0 6) (Option.bind (M.2.2 x0 0) (fun q2 => gd (ok nX shX q2 1) (Option.bind (M.2.2 q2 1) (fun q4 => gd (okA nX shX q4 11 x1) (Option.bind (M.2.2 q4 x1.toNatClampNeg) (fun q6 => if x2 = 0 then (gd (ok nX shX q6 0) (some (M, M.1 q6 0))) else (if x2 = 1 then (gd (ok nX shX q6 0) (some (M, M.1 q6 1))) else (if x2 = 2 then (gd (ok nX shX q6 0) (some (M, M.1 q6 2))) else (if x2 = 3 then (gd (ok nX shX q6 0) (some (M, M.1 q6 3))) else (gd (ok nX shX q6 0) (some (M, M.1 q6 4))))))))))))
def f_X6_gameOf_b20  (M : Mm) (x0 : Nat) : Option (Mm × Int32) := gd (ok nX shX x0 6) (Option.bind (f_X6_finding M x0 (0 : Int32)) (fun r17 => some (r17.1, r17.2)))
def f_X6_gameOf (M : Mm) (o0 : Nat) (a1 : Int32) (a2 : Int32) : Option (Mm × Int32) := gd (ok nX shX o0 6) (Option.bind (M.2.2 o0 0) (fun q20 => gd (ok nX shX q20 1) (Option.bind (f_X1_hasGame M q20 a1) (fun r21 => if r21.2 = 0 then (f_X6_gameOf_b20 r21.1 o0) else (if a2 < 0 then (f_X6_gameOf_b20 r21.1 o0) else (if a2 ≤ (4 : Int32) then (if a2 ≤ (2 : Int32) then (f_X6_gameOf_b48 r21.1 o0 a1 a2) else (Option.bind (r21.1.2.2 o0 0) (fun q27 => gd (ok nX shX q27 1) (if a1 < r21.1.1 q27 5 then (f_X6_gameOf_b48 r21.1 o0 a1 a2) else (Option.bind (f_X6_finding r21.1 o0 (3 : Int32)) (fun r30 => some (r30.1, r30.2))))))) else (f_X6_gameOf_b20 r21.1 o0)))))))
def rmX6_gameOf : Room := { frames := 2, cells := 0, slots := 0, locals := 81 }
theorem hdX6_gameOf : yX6_gameOf.cls ≠ "java/lang/invoke/MethodHandle" ∧ yX6_gameOf.cls ≠ "java/lang/invoke/VarHandle" ∧ (parseMethodDescriptor yX6_gameOf.desc).map (fun d => d.parameters.length) = some 2 := by decide +kernel
def f_X6_swap_b50  (M : Mm) (x0 : Nat) : Option (Mm × Int32) := gd (ok nX shX x0 6) (Option.bind (f_X6_finding M x0 (4 : Int32)) (fun r1 => some (r1.1, r1.2)))
def f_X6_swap_b22  (M : Mm) (x0 : Nat) : Option (Mm × Int32) := gd (ok nX shX x0 6) (Option.bind (f_X6_finding M x0 (0 : Int32)) (fun r3 => some (r3.1, r3.2)))
def f_X6_swap (M : Mm) (o0 : Nat) (a1 : Int32) (a2 : Int32) : Option (Mm × Int32) := gd (ok nX shX o0 6) (Option.bind (M.2.2 o0 0) (fun q6 => gd (ok nX shX q6 1) (Option.bind (f_X1_hasGame M q6 a1) (fun r7 => if r7.2 = 0 then (f_X6_swap_b22 r7.1 o0) else (Option.bind (r7.1.2.2 o0 0) (fun q10 => gd (ok nX shX q10 1) (Option.bind (f_X1_hasGame r7.1 q10 a2) (fun r11 => if r11.2 = 0 then (f_X6_swap_b22 r11.1 o0) else (Option.bind (r11.1.2.2 o0 0) (fun q14 => gd (ok nX shX q14 1) (if a1 < r11.1.1 q14 5 then (f_X6_swap_b50 r11.1 o0) else (Option.bind (r11.1.2.2 o0 0) (fun q17 => gd (ok nX shX q17 1) (if r11.1.1 q17 5 ≤ a2 then (Option.bind (r11.1.2.2 o0 0) (fun q20 => gd (ok nX shX q20 1) (Option.bind (r11.1.2.2 q20 1) (fun q22 => gd (okA nX shX q22 11 a1) (Option.bind (r11.1.2.2 q22 a1.toNatClampNeg) (fun q24 => Option.bind (r11.1.2.2 o0 0) (fun q25 => gd (ok nX shX q25 1) (Option.bind (r11.1.2.2 q25 1) (fun q27 => Option.bind (r11.1.2.2 o0 0) (fun q28 => gd (ok nX shX q28 1) (Option.bind (r11.1.2.2 q28 1) (fun q30 => gd (okA nX shX q30 11 a2) (Option.bind (r11.1.2.2 q30 a2.toNatClampNeg) (fun q32 => gd (okA nX shX q27 11 a1) (gd (ok nX shX q32 0) (lt (sR r11.1 q27 a1.toNatClampNeg (some q32)) (fun M34 => Option.bind (M34.2.2 o0 0) (fun q36 => gd (ok nX shX q36 1) (Option.bind (M34.2.2 q36 1) (fun q38 => gd (okA nX shX q38 11 a2) (gd (ok nX shX q24 0) (lt (sR M34 q38 a2.toNatClampNeg (some q24)) (fun M40 => some (M40, (1 : Int32))))))))))))))))))))))))) else (f_X6_swap_b50 r11.1 o0)))))))))))))))
def rmX6_swap : Room := { frames := 2, cells := 0, slots := 0, locals := 81 }
theorem hdX6_swap : yX6_swap.cls ≠ "java/lang/invoke/MethodHandle" ∧ yX6_swap.cls ≠ "java/lang/invoke/VarHandle" ∧ (parseMethodDescriptor yX6_swap.desc).map (fun d => d.parameters.length) = some 2 := by decide +kernel
def f_X6_law_b10  (M : Mm) (x0 : Nat) : Option (Mm × Int32) := gd (ok nX shX x0 6) (Option.bind (f_X6_finding M x0 (0 : Int32)) (fun r1 => some (r1.1, r1.2)))
def f_X6_law (M : Mm) (o0 : Nat) (a1 : Int32) : Option (Mm × Int32) := if a1 < (1 : Int32) then (f_X6_law_b10 M o0) else (if a1 ≤ (3 : Int32) then (gd (ok nX shX o0 6) (Option.bind (M.2.2 o0 0) (fun q6 => gd (ok nX shX q6 1) (Option.bind (M.2.2 o0 0) (fun q8 => gd (ok nX shX q8 1) (lt (sI M q8 6 a1) (fun M10 => some (M10, M.1 q6 6)))))))) else (f_X6_law_b10 M o0))
def rmX6_law : Room := { frames := 2, cells := 0, slots := 0, locals := 81 }
theorem hdX6_law : yX6_law.cls ≠ "java/lang/invoke/MethodHandle" ∧ yX6_law.cls ≠ "java/lang/invoke/VarHandle" ∧ (parseMethodDescriptor yX6_law.desc).map (fun d => d.parameters.length) = some 1 := by decide +kernel
def f_X6_feed_b10  (M : Mm) (x0 : Nat) : Option (Mm × Int32) := gd (ok nX shX x0 6) (Option.bind (f_X6_finding M x0 (0 : Int32)) (fun r1 => some (r1.1, r1.2)))
def f_X6_feed (M : Mm) (o0 : Nat) (a1 : Int32) (a2 : Int32) : Option (Mm × Int32) := if a2 < (1 : Int32) then (f_X6_feed_b10 M o0) else (if a2 ≤ (4 : Int32) then (gd (ok nX shX o0 6) (Option.bind (M.2.2 o0 5) (fun q6 => gd (ok nX shX q6 4) (if (M.1 q6 1) + a2 ≤ (120 : Int32) then (Option.bind (M.2.2 o0 5) (fun q9 => gd (ok nX shX q9 4) (Option.bind (f_X4_append M q9 a1 a2) (fun r10 => Option.bind (r10.1.2.2 o0 5) (fun q12 => gd (ok nX shX q12 4) (some (r10.1, r10.1.1 q12 1))))))) else (Option.bind (f_X6_finding M o0 (1 : Int32)) (fun r14 => some (r14.1, r14.2))))))) else (f_X6_feed_b10 M o0))
def rmX6_feed : Room := { frames := 2, cells := 0, slots := 0, locals := 83 }
theorem hdX6_feed : yX6_feed.cls ≠ "java/lang/invoke/MethodHandle" ∧ yX6_feed.cls ≠ "java/lang/invoke/VarHandle" ∧ (parseMethodDescriptor yX6_feed.desc).map (fun d => d.parameters.length) = some 2 := by decide +kernel
def f_X6_wipe (M : Mm) (o0 : Nat) : Option (Mm × Int32) := gd (ok nX shX o0 6) (Option.bind (M.2.2 o0 5) (fun q2 => gd (ok nX shX q2 4) (Option.bind (M.2.2 o0 5) (fun q4 => gd (ok nX shX q4 4) (lt (sI M q4 1 (0 : Int32)) (fun M6 => some (M6, M.1 q2 1)))))))
def rmX6_wipe : Room := { frames := 1, cells := 0, slots := 0, locals := 60 }
theorem hdX6_wipe : yX6_wipe.cls ≠ "java/lang/invoke/MethodHandle" ∧ yX6_wipe.cls ≠ "java/lang/invoke/VarHandle" ∧ (parseMethodDescriptor yX6_wipe.desc).map (fun d => d.parameters.length) = some 0 := by decide +kernel
def f_X6_text_b38  (M : Mm) (x0 : Nat) (x1 : Int32) : Option (Mm × Int32) := gd (ok nX shX x0 6) (Option.bind (M.2.2 x0 5) (fun q2 => gd (ok nX shX q2 4) (lt (sI M q2 1 (0 : Int32)) (fun M4 => some (M4, x1)))))
def f_X6_text (M : Mm) (o0 : Nat) : Option (Mm × Int32) := gd (ok nX shX o0 6) (Option.bind (M.2.2 o0 4) (fun q6 => Option.bind (M.2.2 o0 0) (fun q7 => gd (ok nX shX q6 1) (Option.bind (f_X1_become M q6 q7) (fun r8 => Option.bind (r8.1.2.2 o0 5) (fun q10 => Option.bind (r8.1.2.2 o0 4) (fun q11 => gd (ok nX shX q10 4) (Option.bind (f_X4_readInto r8.1 q10 q11) (fun r12 => if r12.2 < 0 then (f_X6_text_b38 r12.1 o0 r12.2) else (Option.bind (r12.1.2.2 o0 0) (fun q15 => Option.bind (r12.1.2.2 o0 4) (fun q16 => gd (ok nX shX q15 1) (Option.bind (f_X1_become r12.1 q15 q16) (fun r17 => f_X6_text_b38 r17.1 o0 r12.2))))))))))))))
def rmX6_text : Room := { frames := 13, cells := 0, slots := 0, locals := 515 }
theorem hdX6_text : yX6_text.cls ≠ "java/lang/invoke/MethodHandle" ∧ yX6_text.cls ≠ "java/lang/invoke/VarHandle" ∧ (parseMethodDescriptor yX6_text.desc).map (fun d => d.parameters.length) = some 0 := by decide +kernel
def f_X6_next_b9  (M : Mm) (x0 : Nat) : Option (Mm × Int32) := gd (ok nX shX x0 6) (Option.bind (f_X6_finding M x0 (0 : Int32)) (fun r1 => some (r1.1, r1.2)))
def f_X6_next (M : Mm) (o0 : Nat) (a1 : Int32) : Option (Mm × Int32) := if a1 < 0 then (f_X6_next_b9 M o0) else (if a1 ≤ (4 : Int32) then (gd (ok nX shX o0 6) (Option.bind (M.2.2 o0 0) (fun q6 => gd (ok nX shX q6 1) (Option.bind (f_X1_allPlayed M q6) (fun r7 => if r7.2 = 0 then (Option.bind (r7.1.2.2 o0 0) (fun q10 => gd (ok nX shX q10 1) (Option.bind (r7.1.2.2 q10 1) (fun q12 => Option.bind (r7.1.2.2 o0 0) (fun q13 => gd (ok nX shX q13 1) (gd (okA nX shX q12 11 (r7.1.1 q13 5)) (Option.bind (r7.1.2.2 q12 (r7.1.1 q13 5).toNatClampNeg) (fun q16 => Option.bind (r7.1.2.2 o0 0) (fun q17 => gd (ok nX shX q16 0) (gd (ok nX shX q17 1) (Option.bind (f_X1_effortOf r7.1 q17 (r7.1.1 q16 0)) (fun r19 => Option.bind (r19.1.2.2 o0 0) (fun q21 => gd (ok nX shX q21 1) (Option.bind (f_X1_effortOf r19.1 q21 (r19.1.1 q16 1)) (fun r22 => if a1 = 0 then (some (r22.1, r19.2)) else (if a1 = 1 then (some (r22.1, r22.2)) else (if a1 = 2 then (Option.bind (r22.1.2.2 o0 0) (fun q27 => gd (ok nX shX q27 1) (Option.bind (f_X1_chanceOfFirst r22.1 q27 r19.2 r22.2) (fun r28 => some (r28.1, r28.2))))) else (if a1 = 3 then (Option.bind (r22.1.2.2 o0 0) (fun q31 => gd (ok nX shX q31 1) (Option.bind (f_X1_forceOf r22.1 q31 (r22.1.1 q16 0) r19.2) (fun r32 => some (r32.1, r32.2))))) else (Option.bind (r22.1.2.2 o0 0) (fun q34 => gd (ok nX shX q34 1) (Option.bind (f_X1_forceOf r22.1 q34 (r22.1.1 q16 1) r22.2) (fun r35 => some (r35.1, r35.2))))))))))))))))))))))) else (Option.bind (f_X6_finding r7.1 o0 (3 : Int32)) (fun r38 => some (r38.1, r38.2)))))))) else (f_X6_next_b9 M o0))
def rmX6_next : Room := { frames := 4, cells := 0, slots := 0, locals := 127 }
theorem hdX6_next : yX6_next.cls ≠ "java/lang/invoke/MethodHandle" ∧ yX6_next.cls ≠ "java/lang/invoke/VarHandle" ∧ (parseMethodDescriptor yX6_next.desc).map (fun d => d.parameters.length) = some 1 := by decide +kernel
def f_X6_win (M : Mm) (o0 : Nat) (a1 : Int32) : Option (Mm × Int32) := gd (ok nX shX o0 6) (Option.bind (M.2.2 o0 0) (fun q2 => gd (ok nX shX q2 1) (Option.bind (f_X1_allPlayed M q2) (fun r3 => if r3.2 = 0 then (Option.bind (r3.1.2.2 o0 0) (fun q6 => gd (ok nX shX q6 1) (Option.bind (r3.1.2.2 q6 1) (fun q8 => Option.bind (r3.1.2.2 o0 0) (fun q9 => gd (ok nX shX q9 1) (gd (okA nX shX q8 11 (r3.1.1 q9 5)) (Option.bind (r3.1.2.2 q8 (r3.1.1 q9 5).toNatClampNeg) (fun q12 => gd (ok nX shX q12 0) (Option.bind (f_X0_isOf r3.1 q12 a1) (fun r13 => if r13.2 = 0 then (Option.bind (f_X6_finding r13.1 o0 (0 : Int32)) (fun r19 => some (r19.1, r19.2))) else (Option.bind (r13.1.2.2 o0 0) (fun q16 => gd (ok nX shX q16 1) (Option.bind (f_X1_playWonBy r13.1 q16 a1) (fun r17 => some (r17.1, r17.2))))))))))))))) else (Option.bind (f_X6_finding r3.1 o0 (3 : Int32)) (fun r20 => some (r20.1, r20.2)))))))
def rmX6_win : Room := { frames := 5, cells := 0, slots := 0, locals := 153 }
theorem hdX6_win : yX6_win.cls ≠ "java/lang/invoke/MethodHandle" ∧ yX6_win.cls ≠ "java/lang/invoke/VarHandle" ∧ (parseMethodDescriptor yX6_win.desc).map (fun d => d.parameters.length) = some 1 := by decide +kernel
def f_X6_play (M : Mm) (o0 : Nat) : Option (Mm × Int32) := gd (ok nX shX o0 6) (Option.bind (M.2.2 o0 0) (fun q2 => gd (ok nX shX q2 1) (Option.bind (f_X1_allPlayed M q2) (fun r3 => if r3.2 = 0 then (Option.bind (r3.1.2.2 o0 0) (fun q6 => gd (ok nX shX q6 1) (Option.bind (f_X1_playDrawn r3.1 q6) (fun r7 => some (r7.1, r7.2))))) else (Option.bind (f_X6_finding r3.1 o0 (3 : Int32)) (fun r9 => some (r9.1, r9.2)))))))
def rmX6_play : Room := { frames := 5, cells := 0, slots := 0, locals := 156 }
theorem hdX6_play : yX6_play.cls ≠ "java/lang/invoke/MethodHandle" ∧ yX6_play.cls ≠ "java/lang/invoke/VarHandle" ∧ (parseMethodDescriptor yX6_play.desc).map (fun d => d.parameters.length) = some 0 := by decide +kernel
def f_X6_anew (M : Mm) (o0 : Nat) : Option (Mm × Int32) := gd (ok nX shX o0 6) (Option.bind (M.2.2 o0 0) (fun q2 => gd (ok nX shX q2 1) (Option.bind (f_X1_forgetGames M q2) (fun r3 => some (r3.1, r3.2)))))
def rmX6_anew : Room := { frames := 3, cells := 0, slots := 0, locals := 102 }
theorem hdX6_anew : yX6_anew.cls ≠ "java/lang/invoke/MethodHandle" ∧ yX6_anew.cls ≠ "java/lang/invoke/VarHandle" ∧ (parseMethodDescriptor yX6_anew.desc).map (fun d => d.parameters.length) = some 0 := by decide +kernel
def f_X6_leads (M : Mm) (o0 : Nat) : Option (Mm × Int32) := gd (ok nX shX o0 6) (Option.bind (M.2.2 o0 0) (fun q2 => gd (ok nX shX q2 1) (if M.1 q2 3 = 0 then (Option.bind (f_X6_finding M o0 (3 : Int32)) (fun r8 => some (r8.1, r8.2))) else (Option.bind (M.2.2 o0 0) (fun q5 => gd (ok nX shX q5 1) (Option.bind (f_X1_leader M q5) (fun r6 => some (r6.1, r6.2))))))))
def rmX6_leads : Room := { frames := 2, cells := 0, slots := 0, locals := 82 }
theorem hdX6_leads : yX6_leads.cls ≠ "java/lang/invoke/MethodHandle" ∧ yX6_leads.cls ≠ "java/lang/invoke/VarHandle" ∧ (parseMethodDescriptor yX6_leads.desc).map (fun d => d.parameters.length) = some 0 := by decide +kernel
def f_X6_place_b62 (k21 : Mm → Nat → Int32 → Int32 → Int32 → Option (Mm × Int32)) (M : Mm) (x0 : Nat) (x1 : Int32) (x2 : Int32) (x3 : Int32) : Option (Mm × Int32) := k21 M x0 x1 x2 (x3 + (1 : Int32))
def f_X6_place_b21  : Nat → Mm → Nat → Int32 → Int32 → Int32 → Option (Mm × Int32)
  | 0, _, _, _, _, _ => none
  | nn + 1, M, x0, x1, x2, x3 => gd (ok nX shX x0 6) (Option.bind (M.2.2 x0 0) (fun q2 => gd (ok nX shX q2 1) (if M.1 q2 3 ≤ x3 then (some (M, x2)) else (Option.bind (M.2.2 x0 0) (fun q5 => gd (ok nX shX q5 1) (Option.bind (M.2.2 q5 0) (fun q7 => gd (okA nX shX q7 10 x3) (Option.bind (M.2.2 q7 x3.toNatClampNeg) (fun q9 => gd (ok nX shX q9 3) (Option.bind (M.2.2 x0 0) (fun q11 => gd (ok nX shX q11 1) (Option.bind (M.2.2 q11 0) (fun q13 => gd (okA nX shX q13 10 x1) (Option.bind (M.2.2 q13 x1.toNatClampNeg) (fun q15 => gd (ok nX shX q15 3) (if M.1 q9 3 ≤ M.1 q15 3 then (f_X6_place_b62 (f_X6_place_b21 nn) M x0 x1 x2 x3) else (f_X6_place_b62 (f_X6_place_b21 nn) M x0 x1 (x2 + (1 : Int32)) x3)))))))))))))))))
def f_X6_place (M : Mm) (o0 : Nat) (a1 : Int32) : Option (Mm × Int32) := gd (ok nX shX o0 6) (Option.bind (M.2.2 o0 0) (fun q19 => gd (ok nX shX q19 1) (Option.bind (f_X1_hasSide M q19 a1) (fun r20 => if r20.2 = 0 then (Option.bind (f_X6_finding r20.1 o0 (0 : Int32)) (fun r23 => some (r23.1, r23.2))) else (f_X6_place_b21 1000 r20.1 o0 a1 (1 : Int32) (0 : Int32))))))
def rmX6_place : Room := { frames := 2, cells := 0, slots := 0, locals := 81 }
theorem hdX6_place : yX6_place.cls ≠ "java/lang/invoke/MethodHandle" ∧ yX6_place.cls ≠ "java/lang/invoke/VarHandle" ∧ (parseMethodDescriptor yX6_place.desc).map (fun d => d.parameters.length) = some 1 := by decide +kernel
def f_X6_goLikelyWays (M : Mm) (o0 : Nat) : Option (Mm × Unit) := gd (ok nX shX o0 6) (Option.bind (M.2.2 o0 4) (fun q2 => Option.bind (M.2.2 o0 0) (fun q3 => gd (ok nX shX q2 1) (Option.bind (f_X1_become M q2 q3) (fun r4 => Option.bind (r4.1.2.2 o0 3) (fun q6 => gd (ok nX shX q6 5) (Option.bind (f_X5_over r4.1 q6 (0 : Int32) (0 : Int32) (0 : Int32)) (fun r7 => some (r7.1, ())))))))))
def rmX6_goLikelyWays : Room := { frames := 16, cells := 0, slots := 0, locals := 519 }
theorem hdX6_goLikelyWays : yX6_goLikelyWays.cls ≠ "java/lang/invoke/MethodHandle" ∧ yX6_goLikelyWays.cls ≠ "java/lang/invoke/VarHandle" ∧ (parseMethodDescriptor yX6_goLikelyWays.desc).map (fun d => d.parameters.length) = some 0 := by decide +kernel
def f_X6_inLowestTerms_b63  (M : Mm) (x5 : Int64) (t0 : Int64) : Option (Mm × Int64) := gd (¬ x5 = 0) (some (M, t0 / x5))
def f_X6_inLowestTerms_b44  (M : Mm) (x0 : Int64) (x2 : Int64) (x4 : Int32) (x5 : Int64) : Option (Mm × Int64) := if lg_cmp x5 (0 : Int64) = 0 then (some (M, (0 : Int64))) else (if x4 = 0 then (f_X6_inLowestTerms_b63 M x5 x0) else (f_X6_inLowestTerms_b63 M x5 x2))
def f_X6_inLowestTerms_b9  : Nat → Mm → Int64 → Int64 → Int32 → Int64 → Int64 → Int32 → Option (Mm × Int64)
  | 0, _, _, _, _, _, _, _ => none
  | nn + 1, M, x0, x2, x4, x5, x7, x9 => if (100 : Int32) ≤ x9 then (f_X6_inLowestTerms_b44 M x0 x2 x4 x5) else (if lg_cmp x7 (0 : Int64) = 0 then (f_X6_inLowestTerms_b44 M x0 x2 x4 x5) else (gd (¬ x7 = 0) ((f_X6_inLowestTerms_b9 nn) M x0 x2 x4 x7 (x5 - x5 / x7 * x7) (x9 + (1 : Int32)))))
def f_X6_inLowestTerms (M : Mm) (a0 : Int64) (a2 : Int64) (a4 : Int32) : Option (Mm × Int64) := f_X6_inLowestTerms_b9 1000 M a0 a2 a4 a2 a0 (0 : Int32)
def rmX6_inLowestTerms : Room := { frames := 1, cells := 0, slots := 0, locals := 60 }
theorem hdX6_inLowestTerms : yX6_inLowestTerms.cls ≠ "java/lang/invoke/MethodHandle" ∧ yX6_inLowestTerms.cls ≠ "java/lang/invoke/VarHandle" ∧ (parseMethodDescriptor yX6_inLowestTerms.desc).map (fun d => d.parameters.length) = some 3 := by decide +kernel
def f_X6_isPart_b9  (M : Mm)  : Option (Mm × Int32) := some (M, (1 : Int32))
def f_X6_isPart (M : Mm) (a0 : Int32) : Option (Mm × Int32) := if a0 = 0 then (f_X6_isPart_b9 M) else (if a0 = (1 : Int32) then (f_X6_isPart_b9 M) else (some (M, (0 : Int32))))
def rmX6_isPart : Room := { frames := 1, cells := 0, slots := 0, locals := 60 }
theorem hdX6_isPart : yX6_isPart.cls ≠ "java/lang/invoke/MethodHandle" ∧ yX6_isPart.cls ≠ "java/lang/invoke/VarHandle" ∧ (parseMethodDescriptor yX6_isPart.desc).map (fun d => d.parameters.length) = some 1 := by decide +kernel
def f_X6_gets_b105  (M : Mm) (x0 : Nat) (x3 : Int32) (x5 : Int64) : Option (Mm × Int64) := gd (ok nX shX x0 6) (Option.bind (M.2.2 x0 3) (fun q2 => gd (ok nX shX q2 5) (Option.bind (f_X6_inLowestTerms M x5 (M.2.1 q2 6) x3) (fun r4 => some (r4.1, r4.2)))))
def f_X6_gets_b29  (M : Mm) (x0 : Nat) : Option (Mm × Int64) := gd (ok nX shX x0 6) (Option.bind (f_X6_finding M x0 (0 : Int32)) (fun r5 => some (r5.1, r5.2.toInt64)))
def f_X6_gets (M : Mm) (o0 : Nat) (a1 : Int32) (a2 : Int32) (a3 : Int32) : Option (Mm × Int64) := gd (ok nX shX o0 6) (Option.bind (M.2.2 o0 0) (fun q8 => gd (ok nX shX q8 1) (Option.bind (f_X1_hasGame M q8 a1) (fun r9 => if r9.2 = 0 then (f_X6_gets_b29 r9.1 o0) else (Option.bind (r9.1.2.2 o0 0) (fun q12 => gd (ok nX shX q12 1) (Option.bind (f_X1_hasSide r9.1 q12 a2) (fun r13 => if r13.2 = 0 then (f_X6_gets_b29 r13.1 o0) else (Option.bind (f_X6_isPart r13.1 a3) (fun r16 => if r16.2 = 0 then (f_X6_gets_b29 r16.1 o0) else (Option.bind (f_X6_goLikelyWays r16.1 o0) (fun r18 => Option.bind (r18.1.2.2 o0 0) (fun q19 => gd (ok nX shX q19 1) (Option.bind (r18.1.2.2 q19 1) (fun q21 => gd (okA nX shX q21 11 a1) (Option.bind (r18.1.2.2 q21 a1.toNatClampNeg) (fun q23 => gd (ok nX shX q23 0) (if a2 = r18.1.1 q23 0 then (Option.bind (r18.1.2.2 o0 3) (fun q34 => gd (ok nX shX q34 5) (Option.bind (r18.1.2.2 q34 3) (fun q36 => gd (okA nX shX q36 9 a1) (f_X6_gets_b105 r18.1 o0 a3 (r18.1.2.1 q36 a1.toNatClampNeg)))))) else (if a2 = r18.1.1 q23 1 then (Option.bind (r18.1.2.2 o0 3) (fun q27 => gd (ok nX shX q27 5) (Option.bind (r18.1.2.2 o0 3) (fun q29 => gd (ok nX shX q29 5) (Option.bind (r18.1.2.2 q29 3) (fun q31 => gd (okA nX shX q31 9 a1) (lt ((r18.1.2.1 q27 6) - (r18.1.2.1 q31 a1.toNatClampNeg)) (fun y33 : Int64 => f_X6_gets_b105 r18.1 o0 a3 y33)))))))) else (f_X6_gets_b105 r18.1 o0 a3 (0 : Int64)))))))))))))))))))))
def rmX6_gets : Room := { frames := 17, cells := 0, slots := 0, locals := 539 }
theorem hdX6_gets : yX6_gets.cls ≠ "java/lang/invoke/MethodHandle" ∧ yX6_gets.cls ≠ "java/lang/invoke/VarHandle" ∧ (parseMethodDescriptor yX6_gets.desc).map (fun d => d.parameters.length) = some 3 := by decide +kernel
def f_X6_first_b18  (M : Mm) (x0 : Nat) : Option (Mm × Int64) := gd (ok nX shX x0 6) (Option.bind (f_X6_finding M x0 (0 : Int32)) (fun r1 => some (r1.1, r1.2.toInt64)))
def f_X6_first (M : Mm) (o0 : Nat) (a1 : Int32) (a2 : Int32) : Option (Mm × Int64) := gd (ok nX shX o0 6) (Option.bind (M.2.2 o0 0) (fun q4 => gd (ok nX shX q4 1) (Option.bind (f_X1_hasSide M q4 a1) (fun r5 => if r5.2 = 0 then (f_X6_first_b18 r5.1 o0) else (Option.bind (f_X6_isPart r5.1 a2) (fun r8 => if r8.2 = 0 then (f_X6_first_b18 r8.1 o0) else (Option.bind (f_X6_goLikelyWays r8.1 o0) (fun r10 => Option.bind (r10.1.2.2 o0 3) (fun q11 => gd (ok nX shX q11 5) (Option.bind (r10.1.2.2 q11 2) (fun q13 => gd (okA nX shX q13 9 a1) (Option.bind (r10.1.2.2 o0 3) (fun q15 => gd (ok nX shX q15 5) (Option.bind (f_X6_inLowestTerms r10.1 (r10.1.2.1 q13 a1.toNatClampNeg) (r10.1.2.1 q15 6) a2) (fun r17 => some (r17.1, r17.2))))))))))))))))
def rmX6_first : Room := { frames := 17, cells := 0, slots := 0, locals := 539 }
theorem hdX6_first : yX6_first.cls ≠ "java/lang/invoke/MethodHandle" ∧ yX6_first.cls ≠ "java/lang/invoke/VarHandle" ∧ (parseMethodDescriptor yX6_first.desc).map (fun d => d.parameters.length) = some 2 := by decide +kernel
def f_X6_mean_b18  (M : Mm) (x0 : Nat) : Option (Mm × Int64) := gd (ok nX shX x0 6) (Option.bind (f_X6_finding M x0 (0 : Int32)) (fun r1 => some (r1.1, r1.2.toInt64)))
def f_X6_mean (M : Mm) (o0 : Nat) (a1 : Int32) (a2 : Int32) : Option (Mm × Int64) := gd (ok nX shX o0 6) (Option.bind (M.2.2 o0 0) (fun q4 => gd (ok nX shX q4 1) (Option.bind (f_X1_hasSide M q4 a1) (fun r5 => if r5.2 = 0 then (f_X6_mean_b18 r5.1 o0) else (Option.bind (f_X6_isPart r5.1 a2) (fun r8 => if r8.2 = 0 then (f_X6_mean_b18 r8.1 o0) else (Option.bind (f_X6_goLikelyWays r8.1 o0) (fun r10 => Option.bind (r10.1.2.2 o0 3) (fun q11 => gd (ok nX shX q11 5) (Option.bind (r10.1.2.2 q11 1) (fun q13 => gd (okA nX shX q13 9 a1) (Option.bind (r10.1.2.2 o0 3) (fun q15 => gd (ok nX shX q15 5) (Option.bind (f_X6_inLowestTerms r10.1 (r10.1.2.1 q13 a1.toNatClampNeg) (r10.1.2.1 q15 6) a2) (fun r17 => some (r17.1, r17.2))))))))))))))))
def rmX6_mean : Room := { frames := 17, cells := 0, slots := 0, locals := 539 }
theorem hdX6_mean : yX6_mean.cls ≠ "java/lang/invoke/MethodHandle" ∧ yX6_mean.cls ≠ "java/lang/invoke/VarHandle" ∧ (parseMethodDescriptor yX6_mean.desc).map (fun d => d.parameters.length) = some 2 := by decide +kernel
def f_X6_least_b28  (M : Mm) (x0 : Nat) : Option (Mm × Int64) := gd (ok nX shX x0 6) (Option.bind (f_X6_finding M x0 (0 : Int32)) (fun r1 => some (r1.1, r1.2.toInt64)))
def f_X6_least (M : Mm) (o0 : Nat) (a1 : Int32) (a2 : Int32) (a3 : Int32) : Option (Mm × Int64) := gd (ok nX shX o0 6) (Option.bind (M.2.2 o0 0) (fun q4 => gd (ok nX shX q4 1) (Option.bind (f_X1_hasSide M q4 a1) (fun r5 => if r5.2 = 0 then (f_X6_least_b28 r5.1 o0) else (if a2 < 0 then (f_X6_least_b28 r5.1 o0) else (if (99 : Int32) < a2 then (f_X6_least_b28 r5.1 o0) else (Option.bind (f_X6_isPart r5.1 a3) (fun r10 => if r10.2 = 0 then (f_X6_least_b28 r10.1 o0) else (Option.bind (r10.1.2.2 o0 4) (fun q12 => Option.bind (r10.1.2.2 o0 0) (fun q13 => gd (ok nX shX q12 1) (Option.bind (f_X1_become r10.1 q12 q13) (fun r14 => Option.bind (r14.1.2.2 o0 3) (fun q16 => gd (ok nX shX q16 5) (Option.bind (f_X5_over r14.1 q16 a1 a2 (0 : Int32)) (fun r17 => Option.bind (r17.1.2.2 o0 3) (fun q19 => gd (ok nX shX q19 5) (Option.bind (r17.1.2.2 o0 3) (fun q21 => gd (ok nX shX q21 5) (Option.bind (f_X6_inLowestTerms r17.1 (r17.1.2.1 q19 11) (r17.1.2.1 q21 6) a3) (fun r23 => some (r23.1, r23.2))))))))))))))))))))))
def rmX6_least : Room := { frames := 16, cells := 0, slots := 0, locals := 519 }
theorem hdX6_least : yX6_least.cls ≠ "java/lang/invoke/MethodHandle" ∧ yX6_least.cls ≠ "java/lang/invoke/VarHandle" ∧ (parseMethodDescriptor yX6_least.desc).map (fun d => d.parameters.length) = some 3 := by decide +kernel
def f_X6_most (M : Mm) (o0 : Nat) (a1 : Int32) : Option (Mm × Int32) := gd (ok nX shX o0 6) (Option.bind (M.2.2 o0 0) (fun q2 => gd (ok nX shX q2 1) (Option.bind (f_X1_hasSide M q2 a1) (fun r3 => if r3.2 = 0 then (Option.bind (f_X6_finding r3.1 o0 (0 : Int32)) (fun r15 => some (r15.1, r15.2))) else (Option.bind (r3.1.2.2 o0 4) (fun q6 => Option.bind (r3.1.2.2 o0 0) (fun q7 => gd (ok nX shX q6 1) (Option.bind (f_X1_become r3.1 q6 q7) (fun r8 => Option.bind (r8.1.2.2 o0 3) (fun q10 => gd (ok nX shX q10 5) (Option.bind (f_X5_over r8.1 q10 a1 (0 : Int32) (1 : Int32)) (fun r11 => Option.bind (r11.1.2.2 o0 3) (fun q13 => gd (ok nX shX q13 5) (some (r11.1, r11.1.1 q13 12)))))))))))))))
def rmX6_most : Room := { frames := 16, cells := 0, slots := 0, locals := 519 }
theorem hdX6_most : yX6_most.cls ≠ "java/lang/invoke/MethodHandle" ∧ yX6_most.cls ≠ "java/lang/invoke/VarHandle" ∧ (parseMethodDescriptor yX6_most.desc).map (fun d => d.parameters.length) = some 1 := by decide +kernel
def f_X6_ways (M : Mm) (o0 : Nat) : Option (Mm × Int32) := gd (ok nX shX o0 6) (Option.bind (f_X6_goLikelyWays M o0) (fun r1 => Option.bind (r1.1.2.2 o0 3) (fun q3 => gd (ok nX shX q3 5) (some (r1.1, r1.1.1 q3 7)))))
def rmX6_ways : Room := { frames := 17, cells := 0, slots := 0, locals := 539 }
theorem hdX6_ways : yX6_ways.cls ≠ "java/lang/invoke/MethodHandle" ∧ yX6_ways.cls ≠ "java/lang/invoke/VarHandle" ∧ (parseMethodDescriptor yX6_ways.desc).map (fun d => d.parameters.length) = some 0 := by decide +kernel
def f_X6_moved_b18  (M : Mm) (x0 : Nat) : Option (Mm × Int64) := gd (ok nX shX x0 6) (Option.bind (f_X6_finding M x0 (0 : Int32)) (fun r1 => some (r1.1, r1.2.toInt64)))
def f_X6_moved (M : Mm) (o0 : Nat) (a1 : Int32) (a2 : Int32) : Option (Mm × Int64) := gd (ok nX shX o0 6) (Option.bind (M.2.2 o0 0) (fun q4 => gd (ok nX shX q4 1) (Option.bind (f_X1_hasGame M q4 a1) (fun r5 => if r5.2 = 0 then (f_X6_moved_b18 r5.1 o0) else (Option.bind (f_X6_isPart r5.1 a2) (fun r8 => if r8.2 = 0 then (f_X6_moved_b18 r8.1 o0) else (Option.bind (f_X6_goLikelyWays r8.1 o0) (fun r10 => Option.bind (r10.1.2.2 o0 3) (fun q11 => gd (ok nX shX q11 5) (Option.bind (r10.1.2.2 q11 4) (fun q13 => gd (okA nX shX q13 9 a1) (Option.bind (r10.1.2.2 o0 3) (fun q15 => gd (ok nX shX q15 5) (Option.bind (f_X6_inLowestTerms r10.1 (r10.1.2.1 q13 a1.toNatClampNeg) (r10.1.2.1 q15 6) a2) (fun r17 => some (r17.1, r17.2))))))))))))))))
def rmX6_moved : Room := { frames := 17, cells := 0, slots := 0, locals := 539 }
theorem hdX6_moved : yX6_moved.cls ≠ "java/lang/invoke/MethodHandle" ∧ yX6_moved.cls ≠ "java/lang/invoke/VarHandle" ∧ (parseMethodDescriptor yX6_moved.desc).map (fun d => d.parameters.length) = some 2 := by decide +kernel
def f_X6_suppose (M : Mm) (o0 : Nat) (a1 : Int32) (a2 : Int32) (a3 : Int32) : Option (Mm × Unit) := if a2 = 0 then (gd (ok nX shX o0 6) (Option.bind (M.2.2 o0 4) (fun q3 => gd (ok nX shX q3 1) (Option.bind (M.2.2 q3 0) (fun q5 => gd (okA nX shX q5 10 a1) (Option.bind (M.2.2 q5 a1.toNatClampNeg) (fun q7 => gd (ok nX shX q7 3) (lt (sI M q7 0 a3) (fun M9 => some (M9, ())))))))))) else (if a2 = 1 then (gd (ok nX shX o0 6) (Option.bind (M.2.2 o0 4) (fun q12 => gd (ok nX shX q12 1) (Option.bind (M.2.2 q12 0) (fun q14 => gd (okA nX shX q14 10 a1) (Option.bind (M.2.2 q14 a1.toNatClampNeg) (fun q16 => gd (ok nX shX q16 3) (lt (sI M q16 2 a3) (fun M18 => some (M18, ())))))))))) else (if a2 = 2 then (gd (ok nX shX o0 6) (Option.bind (M.2.2 o0 4) (fun q21 => gd (ok nX shX q21 1) (lt (sI M q21 6 a3) (fun M23 => some (M23, ())))))) else (gd (ok nX shX o0 6) (Option.bind (M.2.2 o0 4) (fun q25 => gd (ok nX shX q25 1) (Option.bind (f_X1_force M q25 a1 a3) (fun r26 => some (r26.1, ()))))))))
def rmX6_suppose : Room := { frames := 2, cells := 0, slots := 0, locals := 82 }
theorem hdX6_suppose : yX6_suppose.cls ≠ "java/lang/invoke/MethodHandle" ∧ yX6_suppose.cls ≠ "java/lang/invoke/VarHandle" ∧ (parseMethodDescriptor yX6_suppose.desc).map (fun d => d.parameters.length) = some 3 := by decide +kernel
def f_X6_greatestMean_b77 (k22 : Mm → Nat → Int32 → Int32 → Int32 → Int32 → Int64 → Int32 → Option (Mm × Int32)) (M : Mm) (x0 : Nat) (x1 : Int32) (x2 : Int32) (x4 : Int32) (x5 : Int32) (x6 : Int64) (x8 : Int32) : Option (Mm × Int32) := k22 M x0 x1 x2 x4 x5 x6 (x8 + (1 : Int32))
def f_X6_greatestMean_b22  : Nat → Mm → Nat → Int32 → Int32 → Int32 → Int32 → Int64 → Int32 → Option (Mm × Int32)
  | 0, _, _, _, _, _, _, _, _ => none
  | nn + 1, M, x0, x1, x2, x4, x5, x6, x8 => if x4 < x8 then (some (M, x5)) else (gd (ok nX shX x0 6) (Option.bind (f_X6_suppose M x0 x1 x2 x8) (fun r2 => Option.bind (r2.1.2.2 x0 3) (fun q4 => gd (ok nX shX q4 5) (Option.bind (f_X5_over r2.1 q4 x1 (0 : Int32) (0 : Int32)) (fun r5 => Option.bind (r5.1.2.2 x0 3) (fun q7 => gd (ok nX shX q7 5) (Option.bind (r5.1.2.2 q7 1) (fun q9 => gd (okA nX shX q9 9 x1) (if lg_cmp (r5.1.2.1 q9 x1.toNatClampNeg) x6 ≤ 0 then (f_X6_greatestMean_b77 (f_X6_greatestMean_b22 nn) r5.1 x0 x1 x2 x4 x5 x6 x8) else (Option.bind (r5.1.2.2 x0 3) (fun q12 => gd (ok nX shX q12 5) (Option.bind (r5.1.2.2 q12 1) (fun q14 => gd (okA nX shX q14 9 x1) (f_X6_greatestMean_b77 (f_X6_greatestMean_b22 nn) r5.1 x0 x1 x2 x4 x8 (r5.1.2.1 q14 x1.toNatClampNeg) x8)))))))))))))))
def f_X6_greatestMean (M : Mm) (o0 : Nat) (a1 : Int32) (a2 : Int32) (a3 : Int32) (a4 : Int32) : Option (Mm × Int32) := gd (ok nX shX o0 6) (Option.bind (M.2.2 o0 4) (fun q17 => Option.bind (M.2.2 o0 0) (fun q18 => gd (ok nX shX q17 1) (Option.bind (f_X1_become M q17 q18) (fun r19 => f_X6_greatestMean_b22 1000 r19.1 o0 a1 a2 a4 a3 (-1 : Int64) a3)))))
def rmX6_greatestMean : Room := { frames := 16, cells := 0, slots := 0, locals := 519 }
theorem hdX6_greatestMean : yX6_greatestMean.cls ≠ "java/lang/invoke/MethodHandle" ∧ yX6_greatestMean.cls ≠ "java/lang/invoke/VarHandle" ∧ (parseMethodDescriptor yX6_greatestMean.desc).map (fun d => d.parameters.length) = some 4 := by decide +kernel
def f_X6_best (M : Mm) (o0 : Nat) (a1 : Int32) : Option (Mm × Int32) := gd (ok nX shX o0 6) (Option.bind (M.2.2 o0 0) (fun q2 => gd (ok nX shX q2 1) (Option.bind (f_X1_hasSide M q2 a1) (fun r3 => if r3.2 = 0 then (Option.bind (f_X6_finding r3.1 o0 (0 : Int32)) (fun r23 => some (r23.1, r23.2))) else (Option.bind (r3.1.2.2 o0 0) (fun q6 => gd (ok nX shX q6 1) (Option.bind (f_X1_allPlayed r3.1 q6) (fun r7 => if r7.2 = 0 then (Option.bind (r7.1.2.2 o0 0) (fun q10 => gd (ok nX shX q10 1) (Option.bind (r7.1.2.2 q10 1) (fun q12 => Option.bind (r7.1.2.2 o0 0) (fun q13 => gd (ok nX shX q13 1) (gd (okA nX shX q12 11 (r7.1.1 q13 5)) (Option.bind (r7.1.2.2 q12 (r7.1.1 q13 5).toNatClampNeg) (fun q16 => gd (ok nX shX q16 0) (Option.bind (f_X0_isOf r7.1 q16 a1) (fun r17 => if r17.2 = 0 then (Option.bind (f_X6_finding r17.1 o0 (4 : Int32)) (fun r21 => some (r21.1, r21.2))) else (Option.bind (f_X6_greatestMean r17.1 o0 a1 (3 : Int32) (0 : Int32) (3 : Int32)) (fun r20 => some (r20.1, r20.2))))))))))))) else (Option.bind (f_X6_finding r7.1 o0 (3 : Int32)) (fun r22 => some (r22.1, r22.2)))))))))))
def rmX6_best : Room := { frames := 17, cells := 0, slots := 0, locals := 547 }
theorem hdX6_best : yX6_best.cls ≠ "java/lang/invoke/MethodHandle" ∧ yX6_best.cls ≠ "java/lang/invoke/VarHandle" ∧ (parseMethodDescriptor yX6_best.desc).map (fun d => d.parameters.length) = some 1 := by decide +kernel
def f_X6_kindFor (M : Mm) (o0 : Nat) (a1 : Int32) : Option (Mm × Int32) := gd (ok nX shX o0 6) (Option.bind (M.2.2 o0 0) (fun q2 => gd (ok nX shX q2 1) (Option.bind (f_X1_hasSide M q2 a1) (fun r3 => if r3.2 = 0 then (Option.bind (f_X6_finding r3.1 o0 (0 : Int32)) (fun r7 => some (r7.1, r7.2))) else (Option.bind (f_X6_greatestMean r3.1 o0 a1 (0 : Int32) (0 : Int32) (6 : Int32)) (fun r6 => some (r6.1, r6.2)))))))
def rmX6_kindFor : Room := { frames := 17, cells := 0, slots := 0, locals := 547 }
theorem hdX6_kindFor : yX6_kindFor.cls ≠ "java/lang/invoke/MethodHandle" ∧ yX6_kindFor.cls ≠ "java/lang/invoke/VarHandle" ∧ (parseMethodDescriptor yX6_kindFor.desc).map (fun d => d.parameters.length) = some 1 := by decide +kernel
def f_X6_tellsFor (M : Mm) (o0 : Nat) (a1 : Int32) : Option (Mm × Int32) := gd (ok nX shX o0 6) (Option.bind (M.2.2 o0 0) (fun q2 => gd (ok nX shX q2 1) (Option.bind (f_X1_hasSide M q2 a1) (fun r3 => if r3.2 = 0 then (Option.bind (f_X6_finding r3.1 o0 (0 : Int32)) (fun r7 => some (r7.1, r7.2))) else (Option.bind (f_X6_greatestMean r3.1 o0 a1 (1 : Int32) (0 : Int32) (9 : Int32)) (fun r6 => some (r6.1, r6.2)))))))
def rmX6_tellsFor : Room := { frames := 17, cells := 0, slots := 0, locals := 547 }
theorem hdX6_tellsFor : yX6_tellsFor.cls ≠ "java/lang/invoke/MethodHandle" ∧ yX6_tellsFor.cls ≠ "java/lang/invoke/VarHandle" ∧ (parseMethodDescriptor yX6_tellsFor.desc).map (fun d => d.parameters.length) = some 1 := by decide +kernel
def f_X6_arrangeTrial_b16  : Nat → Mm → Nat → Int32 → Int32 → Int32 → Int32 → Int32 → Int32 → Option (Mm × Int32)
  | 0, _, _, _, _, _, _, _, _ => none
  | nn + 1, M, x0, x2, x3, x4, x5, x6, x7 => if x7 < 0 then (if x4 = ((1 : Int32) <<< (x2 &&& 31)) - (1 : Int32) then (some (M, x5)) else (some (M, (-1 : Int32)))) else (gd (¬ x2 = 0) (gd (¬ x2 = 0) (lt (x4 ||| ((1 : Int32) <<< ((x3 - x3 / x2 * x2) &&& 31))) (fun y5 : Int32 => gd (ok nX shX x0 6) (Option.bind (M.2.2 x0 0) (fun q7 => gd (ok nX shX q7 1) (lt (x5 + (((M.1 q7 5) + (x3 - x3 / x2 * x2)) * x6)) (fun y9 : Int32 => Option.bind (M.2.2 x0 4) (fun q10 => gd (ok nX shX q10 1) (Option.bind (M.2.2 q10 1) (fun q12 => Option.bind (M.2.2 x0 0) (fun q13 => gd (ok nX shX q13 1) (gd (okA nX shX q12 11 ((M.1 q13 5) + x7)) (Option.bind (M.2.2 q12 ((M.1 q13 5) + x7).toNatClampNeg) (fun q16 => Option.bind (M.2.2 x0 0) (fun q17 => gd (ok nX shX q17 1) (Option.bind (M.2.2 q17 1) (fun q19 => Option.bind (M.2.2 x0 0) (fun q20 => gd (ok nX shX q20 1) (gd (okA nX shX q19 11 ((M.1 q20 5) + (x3 - x3 / x2 * x2))) (Option.bind (M.2.2 q19 ((M.1 q20 5) + (x3 - x3 / x2 * x2)).toNatClampNeg) (fun q23 => gd (ok nX shX q16 0) (Option.bind (f_X0_become M q16 q23) (fun r24 => (f_X6_arrangeTrial_b16 nn) r24.1 x0 x2 (x3 / x2) y5 y9 (x6 * (10 : Int32)) (x7 + (-1 : Int32))))))))))))))))))))))))))
def f_X6_arrangeTrial (M : Mm) (o0 : Nat) (a1 : Int32) (a2 : Int32) : Option (Mm × Int32) := f_X6_arrangeTrial_b16 1000 M o0 a2 a1 (0 : Int32) (0 : Int32) (1 : Int32) (a2 - (1 : Int32))
def rmX6_arrangeTrial : Room := { frames := 2, cells := 0, slots := 0, locals := 81 }
theorem hdX6_arrangeTrial : yX6_arrangeTrial.cls ≠ "java/lang/invoke/MethodHandle" ∧ yX6_arrangeTrial.cls ≠ "java/lang/invoke/VarHandle" ∧ (parseMethodDescriptor yX6_arrangeTrial.desc).map (fun d => d.parameters.length) = some 2 := by decide +kernel
def f_X6_bestOrder_b106 (k43 : Mm → Nat → Int32 → Int32 → Int32 → Int32 → Int64 → Int32 → Option (Mm × Int32)) (M : Mm) (x0 : Nat) (x1 : Int32) (x2 : Int32) (x3 : Int32) (x4 : Int32) (x5 : Int64) (x7 : Int32) : Option (Mm × Int32) := k43 M x0 x1 x2 x3 x4 x5 (x7 + (1 : Int32))
def f_X6_bestOrder_b43  : Nat → Mm → Nat → Int32 → Int32 → Int32 → Int32 → Int64 → Int32 → Option (Mm × Int32)
  | 0, _, _, _, _, _, _, _, _ => none
  | nn + 1, M, x0, x1, x2, x3, x4, x5, x7 => if x3 ≤ x7 then (some (M, x4)) else (gd (ok nX shX x0 6) (Option.bind (f_X6_arrangeTrial M x0 x7 x2) (fun r2 => if 0 ≤ r2.2 then (Option.bind (r2.1.2.2 x0 3) (fun q5 => gd (ok nX shX q5 5) (Option.bind (f_X5_over r2.1 q5 (0 : Int32) (0 : Int32) (0 : Int32)) (fun r6 => Option.bind (r6.1.2.2 x0 3) (fun q8 => gd (ok nX shX q8 5) (Option.bind (r6.1.2.2 q8 2) (fun q10 => gd (okA nX shX q10 9 x1) (if lg_cmp (r6.1.2.1 q10 x1.toNatClampNeg) x5 ≤ 0 then (f_X6_bestOrder_b106 (f_X6_bestOrder_b43 nn) r6.1 x0 x1 x2 x3 x4 x5 x7) else (Option.bind (r6.1.2.2 x0 3) (fun q13 => gd (ok nX shX q13 5) (Option.bind (r6.1.2.2 q13 2) (fun q15 => gd (okA nX shX q15 9 x1) (f_X6_bestOrder_b106 (f_X6_bestOrder_b43 nn) r6.1 x0 x1 x2 x3 r2.2 (r6.1.2.1 q15 x1.toNatClampNeg) x7))))))))))))) else (f_X6_bestOrder_b106 (f_X6_bestOrder_b43 nn) r2.1 x0 x1 x2 x3 x4 x5 x7))))
def f_X6_bestOrder_b16  : Nat → Mm → Nat → Int32 → Int32 → Int32 → Int32 → Option (Mm × Int32)
  | 0, _, _, _, _, _, _ => none
  | nn + 1, M, x0, x1, x2, x3, x4 => if x2 ≤ x4 then (f_X6_bestOrder_b43 1000 M x0 x1 x2 x3 (0 : Int32) (-1 : Int64) (0 : Int32)) else ((f_X6_bestOrder_b16 nn) M x0 x1 x2 (x3 * x2) (x4 + (1 : Int32)))
def f_X6_bestOrder (M : Mm) (o0 : Nat) (a1 : Int32) (a2 : Int32) : Option (Mm × Int32) := gd (ok nX shX o0 6) (Option.bind (M.2.2 o0 4) (fun q19 => Option.bind (M.2.2 o0 0) (fun q20 => gd (ok nX shX q19 1) (Option.bind (f_X1_become M q19 q20) (fun r21 => f_X6_bestOrder_b16 1000 r21.1 o0 a1 a2 (1 : Int32) (0 : Int32))))))
def rmX6_bestOrder : Room := { frames := 16, cells := 0, slots := 0, locals := 519 }
theorem hdX6_bestOrder : yX6_bestOrder.cls ≠ "java/lang/invoke/MethodHandle" ∧ yX6_bestOrder.cls ≠ "java/lang/invoke/VarHandle" ∧ (parseMethodDescriptor yX6_bestOrder.desc).map (fun d => d.parameters.length) = some 2 := by decide +kernel
def f_X6_order (M : Mm) (o0 : Nat) (a1 : Int32) : Option (Mm × Int32) := gd (ok nX shX o0 6) (Option.bind (M.2.2 o0 0) (fun q2 => gd (ok nX shX q2 1) (Option.bind (f_X1_hasSide M q2 a1) (fun r3 => if r3.2 = 0 then (Option.bind (f_X6_finding r3.1 o0 (0 : Int32)) (fun r18 => some (r18.1, r18.2))) else (Option.bind (r3.1.2.2 o0 0) (fun q6 => gd (ok nX shX q6 1) (Option.bind (f_X1_allPlayed r3.1 q6) (fun r7 => if r7.2 = 0 then (Option.bind (r7.1.2.2 o0 0) (fun q10 => gd (ok nX shX q10 1) (Option.bind (r7.1.2.2 o0 0) (fun q12 => gd (ok nX shX q12 1) (if (r7.1.1 q10 4) - (r7.1.1 q12 5) ≤ (4 : Int32) then (Option.bind (f_X6_bestOrder r7.1 o0 a1 ((r7.1.1 q10 4) - (r7.1.1 q12 5))) (fun r15 => some (r15.1, r15.2))) else (Option.bind (f_X6_finding r7.1 o0 (6 : Int32)) (fun r16 => some (r16.1, r16.2)))))))) else (Option.bind (f_X6_finding r7.1 o0 (3 : Int32)) (fun r17 => some (r17.1, r17.2)))))))))))
def rmX6_order : Room := { frames := 17, cells := 0, slots := 0, locals := 547 }
theorem hdX6_order : yX6_order.cls ≠ "java/lang/invoke/MethodHandle" ∧ yX6_order.cls ≠ "java/lang/invoke/VarHandle" ∧ (parseMethodDescriptor yX6_order.desc).map (fun d => d.parameters.length) = some 1 := by decide +kernel
def f_X6_lawFor (M : Mm) (o0 : Nat) (a1 : Int32) : Option (Mm × Int32) := gd (ok nX shX o0 6) (Option.bind (M.2.2 o0 0) (fun q2 => gd (ok nX shX q2 1) (Option.bind (f_X1_hasSide M q2 a1) (fun r3 => if r3.2 = 0 then (Option.bind (f_X6_finding r3.1 o0 (0 : Int32)) (fun r7 => some (r7.1, r7.2))) else (Option.bind (f_X6_greatestMean r3.1 o0 a1 (2 : Int32) (1 : Int32) (3 : Int32)) (fun r6 => some (r6.1, r6.2)))))))
def rmX6_lawFor : Room := { frames := 17, cells := 0, slots := 0, locals := 547 }
theorem hdX6_lawFor : yX6_lawFor.cls ≠ "java/lang/invoke/MethodHandle" ∧ yX6_lawFor.cls ≠ "java/lang/invoke/VarHandle" ∧ (parseMethodDescriptor yX6_lawFor.desc).map (fun d => d.parameters.length) = some 1 := by decide +kernel
def f_X6_gains_b107 (k74 : Mm → Nat → Int32 → Int32 → Option (Mm × Int32)) (M : Mm) (x0 : Nat) (x1 : Int32) (x2 : Int32) : Option (Mm × Int32) := k74 M x0 x1 (x2 + (1 : Int32))
def f_X6_gains_b74  : Nat → Mm → Nat → Int32 → Int32 → Option (Mm × Int32)
  | 0, _, _, _, _ => none
  | nn + 1, M, x0, x1, x2 => gd (ok nX shX x0 6) (Option.bind (M.2.2 x0 0) (fun q2 => gd (ok nX shX q2 1) (if M.1 q2 3 ≤ x2 then (some (M, x1)) else (Option.bind (M.2.2 x0 3) (fun q5 => gd (ok nX shX q5 5) (Option.bind (f_X5_keptAbovePointSum M q5 x2) (fun r6 => Option.bind (r6.1.2.2 x0 3) (fun q8 => gd (ok nX shX q8 5) (Option.bind (f_X5_keptAbovePointSum r6.1 q8 x1) (fun r9 => if lg_cmp r6.2 r9.2 ≤ 0 then (f_X6_gains_b107 (f_X6_gains_b74 nn) r9.1 x0 x1 x2) else (f_X6_gains_b107 (f_X6_gains_b74 nn) r9.1 x0 x2 x2)))))))))))
def f_X6_gains (M : Mm) (o0 : Nat) : Option (Mm × Int32) := gd (ok nX shX o0 6) (Option.bind (M.2.2 o0 0) (fun q13 => gd (ok nX shX q13 1) (if M.1 q13 3 = 0 then (Option.bind (f_X6_finding M o0 (3 : Int32)) (fun r35 => some (r35.1, r35.2))) else (Option.bind (M.2.2 o0 4) (fun q16 => Option.bind (M.2.2 o0 0) (fun q17 => gd (ok nX shX q16 1) (Option.bind (f_X1_become M q16 q17) (fun r18 => Option.bind (r18.1.2.2 o0 4) (fun q20 => gd (ok nX shX q20 1) (lt (sI r18.1 q20 6 (1 : Int32)) (fun M22 => Option.bind (M22.2.2 o0 3) (fun q23 => gd (ok nX shX q23 5) (Option.bind (f_X5_over M22 q23 (0 : Int32) (0 : Int32) (0 : Int32)) (fun r24 => Option.bind (r24.1.2.2 o0 3) (fun q26 => gd (ok nX shX q26 5) (Option.bind (f_X5_keepPointSums r24.1 q26) (fun r27 => Option.bind (r27.1.2.2 o0 4) (fun q29 => gd (ok nX shX q29 1) (lt (sI r27.1 q29 6 (3 : Int32)) (fun M31 => Option.bind (M31.2.2 o0 3) (fun q32 => gd (ok nX shX q32 5) (Option.bind (f_X5_over M31 q32 (0 : Int32) (0 : Int32) (0 : Int32)) (fun r33 => f_X6_gains_b74 1000 r33.1 o0 (0 : Int32) (1 : Int32))))))))))))))))))))))))
def rmX6_gains : Room := { frames := 16, cells := 0, slots := 0, locals := 519 }
theorem hdX6_gains : yX6_gains.cls ≠ "java/lang/invoke/MethodHandle" ∧ yX6_gains.cls ≠ "java/lang/invoke/VarHandle" ∧ (parseMethodDescriptor yX6_gains.desc).map (fun d => d.parameters.length) = some 0 := by decide +kernel
def f_X6_wronged_b118 (k14 : Mm → Nat → Int32 → Int32 → Option (Mm × Int32)) (M : Mm) (x0 : Nat) (x1 : Int32) (x2 : Int32) : Option (Mm × Int32) := k14 M x0 x1 (x2 + (1 : Int32))
def f_X6_wronged_b115 (k14 : Mm → Nat → Int32 → Int32 → Option (Mm × Int32)) (M : Mm) (x0 : Nat) (x1 : Int32) (x2 : Int32) : Option (Mm × Int32) := f_X6_wronged_b118 k14 M x0 (x1 + (1 : Int32)) x2
def f_X6_wronged_b103 (k14 : Mm → Nat → Int32 → Int32 → Option (Mm × Int32)) (M : Mm) (x0 : Nat) (x1 : Int32) (x2 : Int32) (x4 : Int32) (x5 : Int64) : Option (Mm × Int32) := if 0 ≤ x4 then (f_X6_wronged_b118 k14 M x0 x1 x2) else (if lg_cmp x5 (0 : Int64) ≤ 0 then (f_X6_wronged_b118 k14 M x0 x1 x2) else (f_X6_wronged_b115 k14 M x0 x1 x2))
def f_X6_wronged_b14  : Nat → Mm → Nat → Int32 → Int32 → Option (Mm × Int32)
  | 0, _, _, _, _ => none
  | nn + 1, M, x0, x1, x2 => gd (ok nX shX x0 6) (Option.bind (M.2.2 x0 0) (fun q4 => gd (ok nX shX q4 1) (if M.1 q4 4 ≤ x2 then (some (M, x1)) else (Option.bind (M.2.2 x0 0) (fun q7 => gd (ok nX shX q7 1) (Option.bind (M.2.2 q7 1) (fun q9 => gd (okA nX shX q9 11 x2) (Option.bind (M.2.2 q9 x2.toNatClampNeg) (fun q11 => Option.bind (M.2.2 x0 0) (fun q12 => gd (ok nX shX q12 1) (Option.bind (M.2.2 q12 0) (fun q14 => gd (ok nX shX q11 0) (gd (okA nX shX q14 10 (M.1 q11 0)) (Option.bind (M.2.2 q14 (M.1 q11 0).toNatClampNeg) (fun q17 => gd (ok nX shX q17 3) (Option.bind (M.2.2 x0 0) (fun q19 => gd (ok nX shX q19 1) (Option.bind (M.2.2 q19 0) (fun q21 => gd (okA nX shX q21 10 (M.1 q11 1)) (Option.bind (M.2.2 q21 (M.1 q11 1).toNatClampNeg) (fun q23 => gd (ok nX shX q23 3) (Option.bind (M.2.2 x0 3) (fun q25 => gd (ok nX shX q25 5) (Option.bind (M.2.2 q25 3) (fun q27 => gd (okA nX shX q27 9 x2) (Option.bind (M.2.2 x0 3) (fun q29 => gd (ok nX shX q29 5) (lt (((2 : Int64) * (M.2.1 q27 x2.toNatClampNeg)) - (M.2.1 q29 6)) (fun y31 : Int64 => if (M.1 q17 1) - (M.1 q23 1) ≤ 0 then (f_X6_wronged_b103 (f_X6_wronged_b14 nn) M x0 x1 x2 ((M.1 q17 1) - (M.1 q23 1)) y31) else (if lg_cmp y31 (0 : Int64) < 0 then (f_X6_wronged_b115 (f_X6_wronged_b14 nn) M x0 x1 x2) else (f_X6_wronged_b103 (f_X6_wronged_b14 nn) M x0 x1 x2 ((M.1 q17 1) - (M.1 q23 1)) y31)))))))))))))))))))))))))))))))
def f_X6_wronged (M : Mm) (o0 : Nat) : Option (Mm × Int32) := gd (ok nX shX o0 6) (Option.bind (f_X6_goLikelyWays M o0) (fun r34 => Option.bind (r34.1.2.2 o0 0) (fun q36 => gd (ok nX shX q36 1) (f_X6_wronged_b14 1000 r34.1 o0 (0 : Int32) (r34.1.1 q36 5)))))
def rmX6_wronged : Room := { frames := 17, cells := 0, slots := 0, locals := 539 }
theorem hdX6_wronged : yX6_wronged.cls ≠ "java/lang/invoke/MethodHandle" ∧ yX6_wronged.cls ≠ "java/lang/invoke/VarHandle" ∧ (parseMethodDescriptor yX6_wronged.desc).map (fun d => d.parameters.length) = some 0 := by decide +kernel
def f_X6_tries_b108 (k44 : Mm → Nat → Int32 → Int32 → Int32 → Int32 → Option (Mm × Int32)) : Nat → Mm → Nat → Int32 → Int32 → Int32 → Int32 → Int32 → Option (Mm × Int32)
  | 0, _, _, _, _, _, _, _ => none
  | nn + 1, M, x0, x1, x2, x3, x4, x5 => gd (ok nX shX x0 6) (Option.bind (M.2.2 x0 0) (fun q2 => gd (ok nX shX q2 1) (if M.1 q2 4 ≤ x5 then (k44 M x0 x1 x2 x3 (x4 + (1 : Int32))) else (Option.bind (M.2.2 x0 4) (fun q5 => gd (ok nX shX q5 1) (Option.bind (f_X1_takeBack M q5) (fun r6 => (f_X6_tries_b108 k44 nn) r6.1 x0 x1 x2 x3 x4 (x5 + (1 : Int32)))))))))
def f_X6_tries_b99 (k44 : Mm → Nat → Int32 → Int32 → Int32 → Int32 → Option (Mm × Int32)) (M : Mm) (x0 : Nat) (x1 : Int32) (x2 : Int32) (x3 : Int32) (x4 : Int32) : Option (Mm × Int32) := gd (ok nX shX x0 6) (Option.bind (M.2.2 x0 0) (fun q9 => gd (ok nX shX q9 1) (f_X6_tries_b108 k44 1000 M x0 x1 x2 x3 x4 (M.1 q9 5))))
def f_X6_tries_b59 (k44 : Mm → Nat → Int32 → Int32 → Int32 → Int32 → Option (Mm × Int32)) : Nat → Mm → Nat → Int32 → Int32 → Int32 → Int32 → Int32 → Option (Mm × Int32)
  | 0, _, _, _, _, _, _, _ => none
  | nn + 1, M, x0, x1, x2, x3, x4, x5 => gd (ok nX shX x0 6) (Option.bind (M.2.2 x0 0) (fun q12 => gd (ok nX shX q12 1) (if M.1 q12 4 ≤ x5 then (Option.bind (M.2.2 x0 4) (fun q15 => gd (ok nX shX q15 1) (Option.bind (f_X1_leader M q15) (fun r16 => if r16.2 = x1 then (f_X6_tries_b99 k44 r16.1 x0 x1 x2 (x3 + (1 : Int32)) x4) else (f_X6_tries_b99 k44 r16.1 x0 x1 x2 x3 x4))))) else (Option.bind (M.2.2 x0 4) (fun q19 => gd (ok nX shX q19 1) (Option.bind (f_X1_playDrawn M q19) (fun r20 => (f_X6_tries_b59 k44 nn) r20.1 x0 x1 x2 x3 x4 (x5 + (1 : Int32)))))))))
def f_X6_tries_b44  : Nat → Mm → Nat → Int32 → Int32 → Int32 → Int32 → Option (Mm × Int32)
  | 0, _, _, _, _, _, _ => none
  | nn + 1, M, x0, x1, x2, x3, x4 => if x2 ≤ x4 then (gd (ok nX shX x0 6) (Option.bind (M.2.2 x0 0) (fun q24 => Option.bind (M.2.2 x0 4) (fun q25 => gd (ok nX shX q25 1) (gd (ok nX shX q24 1) (lt (sI M q24 7 (M.1 q25 7)) (fun M28 => some (M28, x3)))))))) else (gd (ok nX shX x0 6) (Option.bind (M.2.2 x0 0) (fun q30 => gd (ok nX shX q30 1) (f_X6_tries_b59 (f_X6_tries_b44 nn) 1000 M x0 x1 x2 x3 x4 (M.1 q30 5)))))
def f_X6_tries_b22  (M : Mm) (x0 : Nat) : Option (Mm × Int32) := gd (ok nX shX x0 6) (Option.bind (f_X6_finding M x0 (0 : Int32)) (fun r32 => some (r32.1, r32.2)))
def f_X6_tries (M : Mm) (o0 : Nat) (a1 : Int32) (a2 : Int32) : Option (Mm × Int32) := gd (ok nX shX o0 6) (Option.bind (M.2.2 o0 0) (fun q35 => gd (ok nX shX q35 1) (Option.bind (f_X1_hasSide M q35 a1) (fun r36 => if r36.2 = 0 then (f_X6_tries_b22 r36.1 o0) else (if a2 < (1 : Int32) then (f_X6_tries_b22 r36.1 o0) else (if a2 ≤ (40 : Int32) then (Option.bind (r36.1.2.2 o0 4) (fun q41 => Option.bind (r36.1.2.2 o0 0) (fun q42 => gd (ok nX shX q41 1) (Option.bind (f_X1_become r36.1 q41 q42) (fun r43 => f_X6_tries_b44 1000 r43.1 o0 a1 a2 (0 : Int32) (0 : Int32)))))) else (f_X6_tries_b22 r36.1 o0)))))))
def rmX6_tries : Room := { frames := 5, cells := 0, slots := 0, locals := 156 }
theorem hdX6_tries : yX6_tries.cls ≠ "java/lang/invoke/MethodHandle" ∧ yX6_tries.cls ≠ "java/lang/invoke/VarHandle" ∧ (parseMethodDescriptor yX6_tries.desc).map (fun d => d.parameters.length) = some 2 := by decide +kernel
def f_X6_seed (M : Mm) (o0 : Nat) (a1 : Int32) : Option (Mm × Int32) := gd (ok nX shX o0 6) (Option.bind (M.2.2 o0 0) (fun q2 => gd (ok nX shX q2 1) (Option.bind (M.2.2 o0 0) (fun q4 => gd (ok nX shX q4 1) (lt (sI M q4 7 a1) (fun M6 => some (M6, M.1 q2 7)))))))
def rmX6_seed : Room := { frames := 1, cells := 0, slots := 0, locals := 60 }
theorem hdX6_seed : yX6_seed.cls ≠ "java/lang/invoke/MethodHandle" ∧ yX6_seed.cls ≠ "java/lang/invoke/VarHandle" ∧ (parseMethodDescriptor yX6_seed.desc).map (fun d => d.parameters.length) = some 1 := by decide +kernel
def f_X6_isSpot (M : Mm) (a0 : Int32) : Option (Mm × Int32) := if a0 < 0 then (some (M, (0 : Int32))) else (if (10 : Int32) ≤ a0 then (some (M, (0 : Int32))) else (some (M, (1 : Int32))))
def rmX6_isSpot : Room := { frames := 1, cells := 0, slots := 0, locals := 60 }
theorem hdX6_isSpot : yX6_isSpot.cls ≠ "java/lang/invoke/MethodHandle" ∧ yX6_isSpot.cls ≠ "java/lang/invoke/VarHandle" ∧ (parseMethodDescriptor yX6_isSpot.desc).map (fun d => d.parameters.length) = some 1 := by decide +kernel
def f_X6_hold_b29  (M : Mm) (x0 : Nat) (x1 : Int32) (x2 : Int32) : Option (Mm × Int32) := gd (ok nX shX x0 6) (Option.bind (M.2.2 x0 0) (fun q2 => gd (ok nX shX q2 1) (Option.bind (M.2.2 q2 2) (fun q4 => gd (okA nX shX q4 8 x1) (lt (sI M q4 x1.toNatClampNeg x2) (fun M6 => some (M6, (1 : Int32))))))))
def f_X6_hold_b23  (M : Mm) (x0 : Nat) : Option (Mm × Int32) := gd (ok nX shX x0 6) (Option.bind (f_X6_finding M x0 (0 : Int32)) (fun r7 => some (r7.1, r7.2)))
def f_X6_hold (M : Mm) (o0 : Nat) (a1 : Int32) (a2 : Int32) : Option (Mm × Int32) := Option.bind (f_X6_isSpot M a1) (fun r9 => if r9.2 = 0 then (f_X6_hold_b23 r9.1 o0) else (if a2 = (-1 : Int32) then (f_X6_hold_b29 r9.1 o0 a1 a2) else (gd (ok nX shX o0 6) (Option.bind (r9.1.2.2 o0 0) (fun q13 => gd (ok nX shX q13 1) (Option.bind (f_X1_hasSide r9.1 q13 a2) (fun r14 => if r14.2 = 0 then (f_X6_hold_b23 r14.1 o0) else (f_X6_hold_b29 r14.1 o0 a1 a2))))))))
def rmX6_hold : Room := { frames := 2, cells := 0, slots := 0, locals := 81 }
theorem hdX6_hold : yX6_hold.cls ≠ "java/lang/invoke/MethodHandle" ∧ yX6_hold.cls ≠ "java/lang/invoke/VarHandle" ∧ (parseMethodDescriptor yX6_hold.desc).map (fun d => d.parameters.length) = some 2 := by decide +kernel
def f_X6_isUnder_b36  (M : Mm)  : Option (Mm × Int32) := some (M, (1 : Int32))
def f_X6_isUnder_b26  (M : Mm) (x0 : Int32) (x1 : Int32) : Option (Mm × Int32) := if x1 = (1 : Int32) then (if x0 = (5 : Int32) then (f_X6_isUnder_b36 M) else (some (M, (0 : Int32)))) else (some (M, (0 : Int32)))
def f_X6_isUnder (M : Mm) (a0 : Int32) (a1 : Int32) : Option (Mm × Int32) := if a0 = a1 then (some (M, (1 : Int32))) else (if a1 = 0 then (some (M, (1 : Int32))) else (if a1 = (2 : Int32) then (if a0 = (3 : Int32) then (f_X6_isUnder_b36 M) else (if a0 = (4 : Int32) then (f_X6_isUnder_b36 M) else (f_X6_isUnder_b26 M a0 a1))) else (f_X6_isUnder_b26 M a0 a1)))
def rmX6_isUnder : Room := { frames := 1, cells := 0, slots := 0, locals := 60 }
theorem hdX6_isUnder : yX6_isUnder.cls ≠ "java/lang/invoke/MethodHandle" ∧ yX6_isUnder.cls ≠ "java/lang/invoke/VarHandle" ∧ (parseMethodDescriptor yX6_isUnder.desc).map (fun d => d.parameters.length) = some 2 := by decide +kernel
def f_X6_as_b14  (M : Mm) (x0 : Nat) : Option (Mm × Int32) := gd (ok nX shX x0 6) (Option.bind (f_X6_finding M x0 (0 : Int32)) (fun r1 => some (r1.1, r1.2)))
def f_X6_as (M : Mm) (o0 : Nat) (a1 : Int32) (a2 : Int32) : Option (Mm × Int32) := Option.bind (f_X6_isSpot M a1) (fun r3 => if r3.2 = 0 then (f_X6_as_b14 r3.1 o0) else (Option.bind (f_X6_isKind r3.1 a2) (fun r5 => if r5.2 = 0 then (f_X6_as_b14 r5.1 o0) else (gd (ok nX shX o0 6) (Option.bind (r5.1.2.2 o0 0) (fun q8 => gd (ok nX shX q8 1) (Option.bind (r5.1.2.2 q8 2) (fun q10 => gd (okA nX shX q10 8 a1) (Option.bind (r5.1.2.2 o0 0) (fun q12 => gd (ok nX shX q12 1) (Option.bind (f_X1_hasSide r5.1 q12 (r5.1.1 q10 a1.toNatClampNeg)) (fun r13 => if r13.2 = 0 then (Option.bind (f_X6_finding r13.1 o0 (5 : Int32)) (fun r25 => some (r25.1, r25.2))) else (Option.bind (r13.1.2.2 o0 0) (fun q16 => gd (ok nX shX q16 1) (Option.bind (r13.1.2.2 q16 0) (fun q18 => gd (okA nX shX q18 10 (r5.1.1 q10 a1.toNatClampNeg)) (Option.bind (r13.1.2.2 q18 (r5.1.1 q10 a1.toNatClampNeg).toNatClampNeg) (fun q20 => gd (ok nX shX q20 3) (Option.bind (f_X6_isUnder r13.1 (r13.1.1 q20 0) a2) (fun r22 => if r22.2 = 0 then (Option.bind (f_X6_finding r22.1 o0 (2 : Int32)) (fun r24 => some (r24.1, r24.2))) else (some (r22.1, r5.1.1 q10 a1.toNatClampNeg))))))))))))))))))))))
def rmX6_as : Room := { frames := 2, cells := 0, slots := 0, locals := 81 }
theorem hdX6_as : yX6_as.cls ≠ "java/lang/invoke/MethodHandle" ∧ yX6_as.cls ≠ "java/lang/invoke/VarHandle" ∧ (parseMethodDescriptor yX6_as.desc).map (fun d => d.parameters.length) = some 2 := by decide +kernel
def f_X6_isSheet (M : Mm) (a0 : Int32) : Option (Mm × Int32) := if a0 < 0 then (some (M, (0 : Int32))) else (if (4 : Int32) ≤ a0 then (some (M, (0 : Int32))) else (some (M, (1 : Int32))))
def rmX6_isSheet : Room := { frames := 1, cells := 0, slots := 0, locals := 60 }
theorem hdX6_isSheet : yX6_isSheet.cls ≠ "java/lang/invoke/MethodHandle" ∧ yX6_isSheet.cls ≠ "java/lang/invoke/VarHandle" ∧ (parseMethodDescriptor yX6_isSheet.desc).map (fun d => d.parameters.length) = some 1 := by decide +kernel
def f_X6_sheet_b74  (M : Mm) (x0 : Nat) (x1 : Int32) (t0 : Nat) (t1 : Int32) (t2 : Int32) : Option (Mm × Int32) := gd (ok nX shX t0 2) (Option.bind (f_X2_renew M t0 t1 t2) (fun r1 => gd (ok nX shX x0 6) (Option.bind (r1.1.2.2 x0 6) (fun q4 => gd (okA nX shX q4 12 x1) (Option.bind (r1.1.2.2 q4 x1.toNatClampNeg) (fun q6 => gd (ok nX shX q6 2) (some (r1.1, r1.1.1 q6 2))))))))
def f_X6_sheet_b35  (M : Mm) (x0 : Nat) (x1 : Int32) (x2 : Int32) (x3 : Int32) : Option (Mm × Int32) := if 0 ≤ x3 then (if x3 ≤ (40 : Int32) then (gd (ok nX shX x0 6) (Option.bind (M.2.2 x0 6) (fun q11 => gd (okA nX shX q11 12 x1) (Option.bind (M.2.2 q11 x1.toNatClampNeg) (fun q13 => if x2 = 0 then (f_X6_sheet_b74 M x0 x1 q13 x2 (0 : Int32)) else (f_X6_sheet_b74 M x0 x1 q13 x2 x3)))))) else (gd (ok nX shX x0 6) (Option.bind (f_X6_finding M x0 (0 : Int32)) (fun r15 => some (r15.1, r15.2))))) else (gd (ok nX shX x0 6) (Option.bind (f_X6_finding M x0 (6 : Int32)) (fun r17 => some (r17.1, r17.2))))
def f_X6_sheet_b29  (M : Mm) (x0 : Nat) : Option (Mm × Int32) := gd (ok nX shX x0 6) (Option.bind (f_X6_finding M x0 (0 : Int32)) (fun r19 => some (r19.1, r19.2)))
def f_X6_sheet (M : Mm) (o0 : Nat) (a1 : Int32) (a2 : Int32) (a3 : Int32) : Option (Mm × Int32) := Option.bind (f_X6_isSheet M a1) (fun r21 => if r21.2 = 0 then (f_X6_sheet_b29 r21.1 o0) else (if a2 = 0 then (f_X6_sheet_b35 r21.1 o0 a1 a2 a3) else (if a2 = (8 : Int32) then (f_X6_sheet_b35 r21.1 o0 a1 a2 a3) else (if a2 = (16 : Int32) then (f_X6_sheet_b35 r21.1 o0 a1 a2 a3) else (if a2 = (32 : Int32) then (f_X6_sheet_b35 r21.1 o0 a1 a2 a3) else (f_X6_sheet_b29 r21.1 o0))))))
def rmX6_sheet : Room := { frames := 2, cells := 0, slots := 0, locals := 83 }
theorem hdX6_sheet : yX6_sheet.cls ≠ "java/lang/invoke/MethodHandle" ∧ yX6_sheet.cls ≠ "java/lang/invoke/VarHandle" ∧ (parseMethodDescriptor yX6_sheet.desc).map (fun d => d.parameters.length) = some 3 := by decide +kernel
def f_X6_write_b48  (M : Mm) (x0 : Nat) : Option (Mm × Int32) := gd (ok nX shX x0 6) (Option.bind (f_X6_finding M x0 (0 : Int32)) (fun r1 => some (r1.1, r1.2)))
def f_X6_write (M : Mm) (o0 : Nat) (a1 : Int32) (a2 : Int32) (a3 : Int32) : Option (Mm × Int32) := Option.bind (f_X6_isSheet M a1) (fun r3 => if r3.2 = 0 then (gd (ok nX shX o0 6) (Option.bind (f_X6_finding r3.1 o0 (0 : Int32)) (fun r24 => some (r24.1, r24.2)))) else (gd (ok nX shX o0 6) (Option.bind (r3.1.2.2 o0 6) (fun q6 => gd (okA nX shX q6 12 a1) (Option.bind (r3.1.2.2 q6 a1.toNatClampNeg) (fun q8 => gd (ok nX shX q8 2) (Option.bind (f_X2_isMissing r3.1 q8) (fun r9 => if r9.2 = 0 then (if a2 < 0 then (f_X6_write_b48 r9.1 o0) else (Option.bind (r9.1.2.2 o0 6) (fun q13 => gd (okA nX shX q13 12 a1) (Option.bind (r9.1.2.2 q13 a1.toNatClampNeg) (fun q15 => gd (ok nX shX q15 2) (if a2 < r9.1.1 q15 2 then (Option.bind (r9.1.2.2 o0 6) (fun q18 => gd (okA nX shX q18 12 a1) (Option.bind (r9.1.2.2 q18 a1.toNatClampNeg) (fun q20 => gd (ok nX shX q20 2) (Option.bind (f_X2_put r9.1 q20 a2 a3) (fun r21 => some (r21.1, (1 : Int32)))))))) else (f_X6_write_b48 r9.1 o0))))))) else (Option.bind (f_X6_finding r9.1 o0 (5 : Int32)) (fun r23 => some (r23.1, r23.2)))))))))))
def rmX6_write : Room := { frames := 2, cells := 0, slots := 0, locals := 82 }
theorem hdX6_write : yX6_write.cls ≠ "java/lang/invoke/MethodHandle" ∧ yX6_write.cls ≠ "java/lang/invoke/VarHandle" ∧ (parseMethodDescriptor yX6_write.desc).map (fun d => d.parameters.length) = some 3 := by decide +kernel
def f_X6_copy_b100  (M : Mm) (x0 : Nat) : Option (Mm × Int32) := gd (ok nX shX x0 6) (Option.bind (f_X6_finding M x0 (0 : Int32)) (fun r1 => some (r1.1, r1.2)))
def f_X6_copy_b52  (M : Mm) (x0 : Nat) : Option (Mm × Int32) := gd (ok nX shX x0 6) (Option.bind (f_X6_finding M x0 (5 : Int32)) (fun r3 => some (r3.1, r3.2)))
def f_X6_copy_b14  (M : Mm) (x0 : Nat) : Option (Mm × Int32) := gd (ok nX shX x0 6) (Option.bind (f_X6_finding M x0 (0 : Int32)) (fun r5 => some (r5.1, r5.2)))
def f_X6_copy (M : Mm) (o0 : Nat) (a1 : Int32) (a2 : Int32) (a3 : Int32) (a4 : Int32) (a5 : Int32) : Option (Mm × Int32) := Option.bind (f_X6_isSheet M a1) (fun r7 => if r7.2 = 0 then (f_X6_copy_b14 r7.1 o0) else (Option.bind (f_X6_isSheet r7.1 a3) (fun r9 => if r9.2 = 0 then (f_X6_copy_b14 r9.1 o0) else (gd (ok nX shX o0 6) (Option.bind (r9.1.2.2 o0 6) (fun q12 => gd (okA nX shX q12 12 a1) (Option.bind (r9.1.2.2 q12 a1.toNatClampNeg) (fun q14 => Option.bind (r9.1.2.2 o0 6) (fun q15 => gd (okA nX shX q15 12 a3) (Option.bind (r9.1.2.2 q15 a3.toNatClampNeg) (fun q17 => gd (ok nX shX q14 2) (Option.bind (f_X2_isMissing r9.1 q14) (fun r18 => if r18.2 = 0 then (gd (ok nX shX q17 2) (Option.bind (f_X2_isMissing r18.1 q17) (fun r21 => if r21.2 = 0 then (if r21.1.1 q14 1 = r21.1.1 q17 1 then (Option.bind (f_X2_hasRange r21.1 q14 a2 a5) (fun r25 => if r25.2 = 0 then (f_X6_copy_b100 r25.1 o0) else (Option.bind (f_X2_hasRange r25.1 q17 a4 a5) (fun r27 => if r27.2 = 0 then (f_X6_copy_b100 r27.1 o0) else (Option.bind (r27.1.2.2 q14 0) (fun q29 => Option.bind (r27.1.2.2 q17 0) (fun q30 => gd (okC nX shX 8 q29 q30 a2 a4 a5) (lt (cpI r27.1 q29 q30 a2.toNatClampNeg a4.toNatClampNeg a5.toNatClampNeg) (fun M32 => some (M32, a5)))))))))) else (Option.bind (f_X6_finding r21.1 o0 (2 : Int32)) (fun r33 => some (r33.1, r33.2)))) else (f_X6_copy_b52 r21.1 o0)))) else (f_X6_copy_b52 r18.1 o0))))))))))))))
def rmX6_copy : Room := { frames := 2, cells := 0, slots := 0, locals := 82 }
theorem hdX6_copy : yX6_copy.cls ≠ "java/lang/invoke/MethodHandle" ∧ yX6_copy.cls ≠ "java/lang/invoke/VarHandle" ∧ (parseMethodDescriptor yX6_copy.desc).map (fun d => d.parameters.length) = some 5 := by decide +kernel
def f_X6_load_b35  : Nat → Mm → Nat → Nat → Int32 → Option (Mm × Int32)
  | 0, _, _, _, _ => none
  | nn + 1, M, x0, x2, x3 => gd (ok nX shX x2 2) (if M.1 x2 2 ≤ x3 then (some (M, x3)) else (gd (ok nX shX x0 6) (Option.bind (M.2.2 x0 0) (fun q4 => Option.bind (M.2.2 x2 0) (fun q5 => gd (okA nX shX q5 8 x3) (gd (ok nX shX q4 1) (Option.bind (f_X1_canBeWonBy M q4 (M.1 q5 x3.toNatClampNeg)) (fun r7 => if r7.2 = 0 then (some (r7.1, x3)) else (Option.bind (r7.1.2.2 x0 0) (fun q10 => Option.bind (r7.1.2.2 x2 0) (fun q11 => gd (okA nX shX q11 8 x3) (gd (ok nX shX q10 1) (Option.bind (f_X1_playWonBy r7.1 q10 (r7.1.1 q11 x3.toNatClampNeg)) (fun r13 => (f_X6_load_b35 nn) r13.1 x0 x2 (x3 + (1 : Int32))))))))))))))))
def f_X6_load (M : Mm) (o0 : Nat) (a1 : Int32) : Option (Mm × Int32) := Option.bind (f_X6_isSheet M a1) (fun r15 => if r15.2 = 0 then (gd (ok nX shX o0 6) (Option.bind (f_X6_finding r15.1 o0 (0 : Int32)) (fun r25 => some (r25.1, r25.2)))) else (gd (ok nX shX o0 6) (Option.bind (r15.1.2.2 o0 6) (fun q18 => gd (okA nX shX q18 12 a1) (Option.bind (r15.1.2.2 q18 a1.toNatClampNeg) (fun q20 => gd (ok nX shX q20 2) (Option.bind (f_X2_isMissing r15.1 q20) (fun r21 => if r21.2 = 0 then (f_X6_load_b35 1000 r21.1 o0 q20 (0 : Int32)) else (Option.bind (f_X6_finding r21.1 o0 (5 : Int32)) (fun r24 => some (r24.1, r24.2)))))))))))
def rmX6_load : Room := { frames := 5, cells := 0, slots := 0, locals := 153 }
theorem hdX6_load : yX6_load.cls ≠ "java/lang/invoke/MethodHandle" ∧ yX6_load.cls ≠ "java/lang/invoke/VarHandle" ∧ (parseMethodDescriptor yX6_load.desc).map (fun d => d.parameters.length) = some 1 := by decide +kernel
def f_X6_judge_b112  (M : Mm) (x3 : Int32) : Option (Mm × Int32) := some (M, ((1 : Int32) + x3) + (1 : Int32))
def f_X6_judge_b46  : Nat → Mm → Nat → Nat → Int32 → Option (Mm × Int32)
  | 0, _, _, _, _ => none
  | nn + 1, M, x0, x2, x3 => gd (ok nX shX x2 2) (if M.1 x2 2 ≤ x3 then (some (M, (0 : Int32))) else (gd (ok nX shX x0 6) (Option.bind (M.2.2 x0 4) (fun q4 => Option.bind (M.2.2 x2 0) (fun q5 => gd (okA nX shX q5 8 x3) (gd (ok nX shX q4 1) (Option.bind (f_X1_canBeWonBy M q4 (M.1 q5 x3.toNatClampNeg)) (fun r7 => if r7.2 = 0 then (some (r7.1, (1 : Int32) + x3)) else (Option.bind (r7.1.2.2 x0 4) (fun q10 => Option.bind (r7.1.2.2 x2 0) (fun q11 => gd (okA nX shX q11 8 x3) (gd (ok nX shX q10 1) (Option.bind (f_X1_playWonBy r7.1 q10 (r7.1.1 q11 x3.toNatClampNeg)) (fun r13 => if r13.1.1 x2 2 ≤ x3 + (1 : Int32) then (f_X6_judge_b112 r13.1 x3) else (Option.bind (r13.1.2.2 x2 0) (fun q16 => gd (okA nX shX q16 8 (x3 + (1 : Int32))) (if r13.1.1 q16 (x3 + (1 : Int32)).toNatClampNeg = r13.2 then ((f_X6_judge_b46 nn) r13.1 x0 x2 (x3 + (2 : Int32))) else (f_X6_judge_b112 r13.1 x3))))))))))))))))))
def f_X6_judge (M : Mm) (o0 : Nat) (a1 : Int32) : Option (Mm × Int32) := Option.bind (f_X6_isSheet M a1) (fun r19 => if r19.2 = 0 then (gd (ok nX shX o0 6) (Option.bind (f_X6_finding r19.1 o0 (0 : Int32)) (fun r33 => some (r33.1, r33.2)))) else (gd (ok nX shX o0 6) (Option.bind (r19.1.2.2 o0 6) (fun q22 => gd (okA nX shX q22 12 a1) (Option.bind (r19.1.2.2 q22 a1.toNatClampNeg) (fun q24 => gd (ok nX shX q24 2) (Option.bind (f_X2_isMissing r19.1 q24) (fun r25 => if r25.2 = 0 then (Option.bind (r25.1.2.2 o0 4) (fun q28 => Option.bind (r25.1.2.2 o0 0) (fun q29 => gd (ok nX shX q28 1) (Option.bind (f_X1_become r25.1 q28 q29) (fun r30 => f_X6_judge_b46 1000 r30.1 o0 q24 (0 : Int32)))))) else (Option.bind (f_X6_finding r25.1 o0 (5 : Int32)) (fun r32 => some (r32.1, r32.2)))))))))))
def rmX6_judge : Room := { frames := 5, cells := 0, slots := 0, locals := 153 }
theorem hdX6_judge : yX6_judge.cls ≠ "java/lang/invoke/MethodHandle" ∧ yX6_judge.cls ≠ "java/lang/invoke/VarHandle" ∧ (parseMethodDescriptor yX6_judge.desc).map (fun d => d.parameters.length) = some 1 := by decide +kernel
def f_X6_image (M : Mm) (o0 : Nat) : Option (Mm × Int32) := gd (ok nX shX o0 6) (Option.bind (M.2.2 o0 1) (fun q2 => Option.bind (M.2.2 o0 0) (fun q3 => gd (ok nX shX q2 1) (Option.bind (f_X1_become M q2 q3) (fun r4 => lt (sI r4.1 o0 2 (1 : Int32)) (fun M6 => some (M6, (1 : Int32))))))))
def rmX6_image : Room := { frames := 3, cells := 0, slots := 0, locals := 103 }
theorem hdX6_image : yX6_image.cls ≠ "java/lang/invoke/MethodHandle" ∧ yX6_image.cls ≠ "java/lang/invoke/VarHandle" ∧ (parseMethodDescriptor yX6_image.desc).map (fun d => d.parameters.length) = some 0 := by decide +kernel
def f_X6_undo (M : Mm) (o0 : Nat) : Option (Mm × Int32) := gd (ok nX shX o0 6) (if M.1 o0 2 = 0 then (Option.bind (f_X6_finding M o0 (3 : Int32)) (fun r9 => some (r9.1, r9.2))) else (Option.bind (M.2.2 o0 0) (fun q3 => Option.bind (M.2.2 o0 1) (fun q4 => gd (ok nX shX q3 1) (Option.bind (f_X1_become M q3 q4) (fun r5 => Option.bind (r5.1.2.2 o0 0) (fun q7 => gd (ok nX shX q7 1) (some (r5.1, r5.1.1 q7 5)))))))))
def rmX6_undo : Room := { frames := 3, cells := 0, slots := 0, locals := 103 }
theorem hdX6_undo : yX6_undo.cls ≠ "java/lang/invoke/MethodHandle" ∧ yX6_undo.cls ≠ "java/lang/invoke/VarHandle" ∧ (parseMethodDescriptor yX6_undo.desc).map (fun d => d.parameters.length) = some 0 := by decide +kernel
def f_X6_tear_b12  (M : Mm) (x0 : Nat) (t0 : Int32) : Option (Mm × Int32) := gd (ok nX shX x0 6) (lt (sI M x0 2 (0 : Int32)) (fun M2 => some (M2, t0)))
def f_X6_tear (M : Mm) (o0 : Nat) : Option (Mm × Int32) := gd (ok nX shX o0 6) (if M.1 o0 2 = 0 then (f_X6_tear_b12 M o0 (0 : Int32)) else (f_X6_tear_b12 M o0 (1 : Int32)))
def rmX6_tear : Room := { frames := 1, cells := 0, slots := 0, locals := 60 }
theorem hdX6_tear : yX6_tear.cls ≠ "java/lang/invoke/MethodHandle" ∧ yX6_tear.cls ≠ "java/lang/invoke/VarHandle" ∧ (parseMethodDescriptor yX6_tear.desc).map (fun d => d.parameters.length) = some 0 := by decide +kernel
def f_X6_count (M : Mm) (o0 : Nat) (a1 : Int32) : Option (Mm × Int32) := if a1 = 0 then (gd (ok nX shX o0 6) (Option.bind (M.2.2 o0 0) (fun q3 => gd (ok nX shX q3 1) (some (M, M.1 q3 3))))) else (if a1 = 1 then (gd (ok nX shX o0 6) (Option.bind (M.2.2 o0 0) (fun q7 => gd (ok nX shX q7 1) (some (M, M.1 q7 4))))) else (if a1 = 2 then (gd (ok nX shX o0 6) (Option.bind (M.2.2 o0 0) (fun q11 => gd (ok nX shX q11 1) (some (M, M.1 q11 5))))) else (if a1 = 3 then (gd (ok nX shX o0 6) (Option.bind (M.2.2 o0 0) (fun q15 => gd (ok nX shX q15 1) (some (M, M.1 q15 6))))) else (if a1 = 4 then (gd (ok nX shX o0 6) (Option.bind (M.2.2 o0 5) (fun q19 => gd (ok nX shX q19 4) (some (M, M.1 q19 1))))) else (if a1 = 5 then (gd (ok nX shX o0 6) (Option.bind (M.2.2 o0 0) (fun q23 => gd (ok nX shX q23 1) (some (M, M.1 q23 7))))) else (if a1 = 6 then (gd (ok nX shX o0 6) (Option.bind (M.2.2 o0 0) (fun q27 => gd (ok nX shX q27 1) (Option.bind (f_X1_spotsInUse M q27) (fun r28 => some (r28.1, r28.2)))))) else (gd (ok nX shX o0 6) (Option.bind (f_X6_finding M o0 (0 : Int32)) (fun r30 => some (r30.1, r30.2))))))))))
def rmX6_count : Room := { frames := 2, cells := 0, slots := 0, locals := 82 }
theorem hdX6_count : yX6_count.cls ≠ "java/lang/invoke/MethodHandle" ∧ yX6_count.cls ≠ "java/lang/invoke/VarHandle" ∧ (parseMethodDescriptor yX6_count.desc).map (fun d => d.parameters.length) = some 1 := by decide +kernel
def f_X6_status_b32  : Nat → Mm → Nat → Int32 → Int32 → Option (Mm × Int32)
  | 0, _, _, _, _ => none
  | nn + 1, M, x0, x2, x3 => if (7 : Int32) ≤ x3 then (some (M, x2)) else (gd (ok nX shX x0 6) (Option.bind (M.2.2 x0 7) (fun q3 => gd (okA nX shX q3 8 x3) ((f_X6_status_b32 nn) M x0 (x2 + (M.1 q3 x3.toNatClampNeg)) (x3 + (1 : Int32))))))
def f_X6_status_b11  (M : Mm) (x0 : Nat) : Option (Mm × Int32) := gd (ok nX shX x0 6) (Option.bind (f_X6_finding M x0 (0 : Int32)) (fun r5 => some (r5.1, r5.2)))
def f_X6_status (M : Mm) (o0 : Nat) (a1 : Int32) : Option (Mm × Int32) := if a1 < (-1 : Int32) then (f_X6_status_b11 M o0) else (if a1 < (7 : Int32) then (if a1 < 0 then (f_X6_status_b32 1000 M o0 (0 : Int32) (0 : Int32)) else (gd (ok nX shX o0 6) (Option.bind (M.2.2 o0 7) (fun q11 => gd (okA nX shX q11 8 a1) (some (M, M.1 q11 a1.toNatClampNeg)))))) else (f_X6_status_b11 M o0))
def rmX6_status : Room := { frames := 2, cells := 0, slots := 0, locals := 81 }
theorem hdX6_status : yX6_status.cls ≠ "java/lang/invoke/MethodHandle" ∧ yX6_status.cls ≠ "java/lang/invoke/VarHandle" ∧ (parseMethodDescriptor yX6_status.desc).map (fun d => d.parameters.length) = some 1 := by decide +kernel
def f_X7_finding (M : Mm) (o0 : Nat) (a1 : Int32) : Option (Mm × Int32) := gd (ok nM shM o0 7) (Option.bind (M.2.2 o0 4) (fun q2 => gd (okA nM shM q2 8 a1) (gd (okA nM shM q2 8 a1) (lt (sI M q2 a1.toNatClampNeg ((M.1 q2 a1.toNatClampNeg) + (1 : Int32))) (fun M5 => some (M5, (-1000001 : Int32) - a1))))))
def rmX7_finding : Room := { frames := 1, cells := 0, slots := 0, locals := 60 }
theorem hdX7_finding : yX7_finding.cls ≠ "java/lang/invoke/MethodHandle" ∧ yX7_finding.cls ≠ "java/lang/invoke/VarHandle" ∧ (parseMethodDescriptor yX7_finding.desc).map (fun d => d.parameters.length) = some 1 := by decide +kernel
def f_X7_in (M : Mm) (a0 : Int32) (a1 : Int32) (a2 : Int32) : Option (Mm × Int32) := if a0 < a1 then (some (M, (0 : Int32))) else (if a2 < a0 then (some (M, (0 : Int32))) else (some (M, (1 : Int32))))
def rmX7_in : Room := { frames := 1, cells := 0, slots := 0, locals := 60 }
theorem hdX7_in : yX7_in.cls ≠ "java/lang/invoke/MethodHandle" ∧ yX7_in.cls ≠ "java/lang/invoke/VarHandle" ∧ (parseMethodDescriptor yX7_in.desc).map (fun d => d.parameters.length) = some 3 := by decide +kernel
def f_X7_carry_b2  : Nat → Mm → Nat → Nat → Int32 → Option (Mm × Unit)
  | 0, _, _, _, _ => none
  | nn + 1, M, x0, x1, x2 => if (89 : Int32) ≤ x2 then (some (M, ())) else (gd (okA nM shM x0 8 x2) (gd (okA nM shM x1 8 x2) (lt (sI M x1 x2.toNatClampNeg (M.1 x0 x2.toNatClampNeg)) (fun M4 => (f_X7_carry_b2 nn) M4 x0 x1 (x2 + (1 : Int32))))))
def f_X7_carry (M : Mm) (a0 : Nat) (a1 : Nat) : Option (Mm × Unit) := f_X7_carry_b2 1000 M a0 a1 (0 : Int32)
def rmX7_carry : Room := { frames := 1, cells := 0, slots := 0, locals := 60 }
theorem hdX7_carry : yX7_carry.cls ≠ "java/lang/invoke/MethodHandle" ∧ yX7_carry.cls ≠ "java/lang/invoke/VarHandle" ∧ (parseMethodDescriptor yX7_carry.desc).map (fun d => d.parameters.length) = some 2 := by decide +kernel
def f_X7_isSide (M : Mm) (o0 : Nat) (a1 : Int32) : Option (Mm × Int32) := gd (ok nM shM o0 7) (Option.bind (M.2.2 o0 0) (fun q2 => gd (okA nM shM q2 8 (0 : Int32)) (Option.bind (f_X7_in M a1 (0 : Int32) ((M.1 q2 (0 : Int32).toNatClampNeg) - (1 : Int32))) (fun r4 => gd (bz r4.2) (some (r4.1, r4.2))))))
def rmX7_isSide : Room := { frames := 2, cells := 0, slots := 0, locals := 82 }
theorem hdX7_isSide : yX7_isSide.cls ≠ "java/lang/invoke/MethodHandle" ∧ yX7_isSide.cls ≠ "java/lang/invoke/VarHandle" ∧ (parseMethodDescriptor yX7_isSide.desc).map (fun d => d.parameters.length) = some 1 := by decide +kernel
def f_X7_isGame (M : Mm) (o0 : Nat) (a1 : Int32) : Option (Mm × Int32) := gd (ok nM shM o0 7) (Option.bind (M.2.2 o0 0) (fun q2 => gd (okA nM shM q2 8 (1 : Int32)) (Option.bind (f_X7_in M a1 (0 : Int32) ((M.1 q2 (1 : Int32).toNatClampNeg) - (1 : Int32))) (fun r4 => gd (bz r4.2) (some (r4.1, r4.2))))))
def rmX7_isGame : Room := { frames := 2, cells := 0, slots := 0, locals := 82 }
theorem hdX7_isGame : yX7_isGame.cls ≠ "java/lang/invoke/MethodHandle" ∧ yX7_isGame.cls ≠ "java/lang/invoke/VarHandle" ∧ (parseMethodDescriptor yX7_isGame.desc).map (fun d => d.parameters.length) = some 1 := by decide +kernel
def f_X7_its (M : Mm) (o0 : Nat) (a1 : Int32) (a2 : Int32) : Option (Mm × Int32) := gd (ok nM shM o0 7) (Option.bind (M.2.2 o0 0) (fun q2 => gd (okA nM shM q2 8 (((5 : Int32) + ((3 : Int32) * a1)) + a2)) (some (M, M.1 q2 (((5 : Int32) + ((3 : Int32) * a1)) + a2).toNatClampNeg))))
def rmX7_its : Room := { frames := 1, cells := 0, slots := 0, locals := 60 }
theorem hdX7_its : yX7_its.cls ≠ "java/lang/invoke/MethodHandle" ∧ yX7_its.cls ≠ "java/lang/invoke/VarHandle" ∧ (parseMethodDescriptor yX7_its.desc).map (fun d => d.parameters.length) = some 2 := by decide +kernel
def f_X7_of (M : Mm) (o0 : Nat) (a1 : Int32) (a2 : Int32) : Option (Mm × Int32) := gd (ok nM shM o0 7) (Option.bind (M.2.2 o0 0) (fun q2 => gd (okA nM shM q2 8 (((23 : Int32) + ((7 : Int32) * a1)) + a2)) (some (M, M.1 q2 (((23 : Int32) + ((7 : Int32) * a1)) + a2).toNatClampNeg))))
def rmX7_of : Room := { frames := 1, cells := 0, slots := 0, locals := 60 }
theorem hdX7_of : yX7_of.cls ≠ "java/lang/invoke/MethodHandle" ∧ yX7_of.cls ≠ "java/lang/invoke/VarHandle" ∧ (parseMethodDescriptor yX7_of.desc).map (fun d => d.parameters.length) = some 2 := by decide +kernel
def f_X7_plays_b20  (M : Mm)  : Option (Mm × Int32) := some (M, (1 : Int32))
def f_X7_plays (M : Mm) (o0 : Nat) (a1 : Int32) (a2 : Int32) : Option (Mm × Int32) := gd (ok nM shM o0 7) (Option.bind (f_X7_of M o0 a2 (0 : Int32)) (fun r1 => if r1.2 = a1 then (f_X7_plays_b20 r1.1) else (Option.bind (f_X7_of r1.1 o0 a2 (1 : Int32)) (fun r4 => if r4.2 = a1 then (f_X7_plays_b20 r4.1) else (some (r4.1, (0 : Int32)))))))
def rmX7_plays : Room := { frames := 2, cells := 0, slots := 0, locals := 82 }
theorem hdX7_plays : yX7_plays.cls ≠ "java/lang/invoke/MethodHandle" ∧ yX7_plays.cls ≠ "java/lang/invoke/VarHandle" ∧ (parseMethodDescriptor yX7_plays.desc).map (fun d => d.parameters.length) = some 2 := by decide +kernel
def f_X7_points_b35 (k4 : Mm → Nat → Int32 → Int32 → Int32 → Option (Mm × Int32)) (M : Mm) (x0 : Nat) (x1 : Int32) (x3 : Int32) (t0 : Int32) (t1 : Int32) : Option (Mm × Int32) := k4 M x0 x1 (t0 + t1) (x3 + (1 : Int32))
def f_X7_points_b4  : Nat → Mm → Nat → Int32 → Int32 → Int32 → Option (Mm × Int32)
  | 0, _, _, _, _, _ => none
  | nn + 1, M, x0, x1, x2, x3 => gd (ok nM shM x0 7) (Option.bind (M.2.2 x0 0) (fun q2 => gd (okA nM shM q2 8 (2 : Int32)) (if M.1 q2 (2 : Int32).toNatClampNeg ≤ x3 then (some (M, x2)) else (Option.bind (f_X7_of M x0 x3 (4 : Int32)) (fun r5 => if r5.2 = x1 then (Option.bind (f_X7_of r5.1 x0 x3 (2 : Int32)) (fun r7 => f_X7_points_b35 (f_X7_points_b4 nn) r7.1 x0 x1 x3 x2 r7.2)) else (f_X7_points_b35 (f_X7_points_b4 nn) r5.1 x0 x1 x3 x2 (0 : Int32)))))))
def f_X7_points (M : Mm) (o0 : Nat) (a1 : Int32) : Option (Mm × Int32) := f_X7_points_b4 1000 M o0 a1 (0 : Int32) (0 : Int32)
def rmX7_points : Room := { frames := 2, cells := 0, slots := 0, locals := 82 }
theorem hdX7_points : yX7_points.cls ≠ "java/lang/invoke/MethodHandle" ∧ yX7_points.cls ≠ "java/lang/invoke/VarHandle" ∧ (parseMethodDescriptor yX7_points.desc).map (fun d => d.parameters.length) = some 1 := by decide +kernel
def f_X7_isBarred_b55  (M : Mm) (x0 : Nat) (x2 : Int32) : Option (Mm × Int32) := gd (ok nM shM x0 7) (Option.bind (M.2.2 x0 0) (fun q2 => gd (okA nM shM q2 8 (3 : Int32)) (if x2 = M.1 q2 (3 : Int32).toNatClampNeg then (some (M, (1 : Int32))) else (some (M, (0 : Int32))))))
def f_X7_isBarred_b49 (k11 : Mm → Nat → Int32 → Int32 → Int32 → Option (Mm × Int32)) (M : Mm) (x0 : Nat) (x1 : Int32) (x2 : Int32) (x3 : Int32) : Option (Mm × Int32) := k11 M x0 x1 x2 (x3 + (-1 : Int32))
def f_X7_isBarred_b11  : Nat → Mm → Nat → Int32 → Int32 → Int32 → Option (Mm × Int32)
  | 0, _, _, _, _, _ => none
  | nn + 1, M, x0, x1, x2, x3 => if x3 < 0 then (f_X7_isBarred_b55 M x0 x2) else (gd (ok nM shM x0 7) (Option.bind (M.2.2 x0 0) (fun q7 => gd (okA nM shM q7 8 (3 : Int32)) (if M.1 q7 (3 : Int32).toNatClampNeg ≤ x2 then (f_X7_isBarred_b55 M x0 x2) else (Option.bind (f_X7_plays M x0 x1 x3) (fun r10 => if r10.2 = 0 then (f_X7_isBarred_b49 (f_X7_isBarred_b11 nn) r10.1 x0 x1 x2 x3) else (Option.bind (f_X7_of r10.1 x0 x3 (4 : Int32)) (fun r12 => if r12.2 = x1 then (f_X7_isBarred_b49 (f_X7_isBarred_b11 nn) r12.1 x0 x1 (x2 + (1 : Int32)) x3) else (some (r12.1, (0 : Int32)))))))))))
def f_X7_isBarred (M : Mm) (o0 : Nat) (a1 : Int32) : Option (Mm × Int32) := gd (ok nM shM o0 7) (Option.bind (M.2.2 o0 0) (fun q15 => gd (okA nM shM q15 8 (2 : Int32)) (lt ((M.1 q15 (2 : Int32).toNatClampNeg) - (1 : Int32)) (fun y17 : Int32 => f_X7_isBarred_b11 1000 M o0 a1 (0 : Int32) y17))))
def rmX7_isBarred : Room := { frames := 3, cells := 0, slots := 0, locals := 104 }
theorem hdX7_isBarred : yX7_isBarred.cls ≠ "java/lang/invoke/MethodHandle" ∧ yX7_isBarred.cls ≠ "java/lang/invoke/VarHandle" ∧ (parseMethodDescriptor yX7_isBarred.desc).map (fun d => d.parameters.length) = some 1 := by decide +kernel
def f_X7_isTired_b40  (M : Mm) (t0 : Nat) (t1 : Int32) (t2 : Int32) (t3 : Int32) : Option (Mm × Int32) := gd (ok nM shM t0 7) (Option.bind (f_X7_of M t0 t1 (t2 + t3)) (fun r1 => if r1.2 = (3 : Int32) then (some (r1.1, (1 : Int32))) else (some (r1.1, (0 : Int32)))))
def f_X7_isTired_b9  : Nat → Mm → Nat → Int32 → Int32 → Option (Mm × Int32)
  | 0, _, _, _, _ => none
  | nn + 1, M, x0, x1, x2 => if x2 < 0 then (some (M, (0 : Int32))) else (gd (ok nM shM x0 7) (Option.bind (f_X7_plays M x0 x1 x2) (fun r5 => if r5.2 = 0 then ((f_X7_isTired_b9 nn) r5.1 x0 x1 (x2 + (-1 : Int32))) else (Option.bind (f_X7_of r5.1 x0 x2 (0 : Int32)) (fun r8 => if r8.2 = x1 then (f_X7_isTired_b40 r8.1 x0 x2 (5 : Int32) (0 : Int32)) else (f_X7_isTired_b40 r8.1 x0 x2 (5 : Int32) (1 : Int32)))))))
def f_X7_isTired (M : Mm) (o0 : Nat) (a1 : Int32) : Option (Mm × Int32) := gd (ok nM shM o0 7) (Option.bind (M.2.2 o0 0) (fun q11 => gd (okA nM shM q11 8 (2 : Int32)) (lt ((M.1 q11 (2 : Int32).toNatClampNeg) - (1 : Int32)) (fun y13 : Int32 => f_X7_isTired_b9 1000 M o0 a1 y13))))
def rmX7_isTired : Room := { frames := 3, cells := 0, slots := 0, locals := 104 }
theorem hdX7_isTired : yX7_isTired.cls ≠ "java/lang/invoke/MethodHandle" ∧ yX7_isTired.cls ≠ "java/lang/invoke/VarHandle" ∧ (parseMethodDescriptor yX7_isTired.desc).map (fun d => d.parameters.length) = some 1 := by decide +kernel
def f_X7_hasGreater_b4  : Nat → Mm → Nat → Int32 → Int32 → Int32 → Option (Mm × Int32)
  | 0, _, _, _, _, _ => none
  | nn + 1, M, x0, x1, x2, x3 => gd (ok nM shM x0 7) (Option.bind (M.2.2 x0 0) (fun q2 => gd (okA nM shM q2 8 (1 : Int32)) (if M.1 q2 (1 : Int32).toNatClampNeg ≤ x3 then (some (M, (0 : Int32))) else (Option.bind (f_X7_plays M x0 x1 x3) (fun r5 => if r5.2 = 0 then ((f_X7_hasGreater_b4 nn) r5.1 x0 x1 x2 (x3 + (1 : Int32))) else (Option.bind (f_X7_of r5.1 x0 x3 (2 : Int32)) (fun r7 => Option.bind (f_X7_of r7.1 x0 x2 (2 : Int32)) (fun r8 => if r7.2 ≤ r8.2 then (some (r8.1, (0 : Int32))) else (some (r8.1, (1 : Int32)))))))))))
def f_X7_hasGreater (M : Mm) (o0 : Nat) (a1 : Int32) (a2 : Int32) : Option (Mm × Int32) := f_X7_hasGreater_b4 1000 M o0 a1 a2 (a2 + (1 : Int32))
def rmX7_hasGreater : Room := { frames := 3, cells := 0, slots := 0, locals := 104 }
theorem hdX7_hasGreater : yX7_hasGreater.cls ≠ "java/lang/invoke/MethodHandle" ∧ yX7_hasGreater.cls ≠ "java/lang/invoke/VarHandle" ∧ (parseMethodDescriptor yX7_hasGreater.desc).map (fun d => d.parameters.length) = some 2 := by decide +kernel
def f_X7_effort_b114  (M : Mm) (x0 : Nat) (x3 : Int32) (x4 : Int32) (t0 : Int32) : Option (Mm × Int32) := if x3 = 0 then (gd (ok nM shM x0 7) (Option.bind (f_X7_isBarred M x0 t0) (fun r2 => if r2.2 = 0 then (some (r2.1, x4)) else (some (r2.1, (3 : Int32)))))) else (some (M, (0 : Int32)))
def f_X7_effort_b36  (M : Mm) (x0 : Nat) (x1 : Int32) (x2 : Int32) (x3 : Int32) (t0 : Int32) : Option (Mm × Int32) := gd (ok nM shM x0 7) (Option.bind (f_X7_its M x0 x1 (0 : Int32)) (fun r5 => if r5.2 = 1 then (some (r5.1, (3 : Int32))) else (if r5.2 = 2 then (some (r5.1, t0)) else (if r5.2 = 3 then (Option.bind (f_X7_of r5.1 x0 x2 (0 : Int32)) (fun r10 => if r10.2 = x1 then (Option.bind (f_X7_of r10.1 x0 x2 (1 : Int32)) (fun r13 => f_X7_effort_b114 r13.1 x0 x3 t0 r13.2)) else (Option.bind (f_X7_of r10.1 x0 x2 (0 : Int32)) (fun r12 => f_X7_effort_b114 r12.1 x0 x3 t0 r12.2)))) else (if r5.2 = 4 then (if x3 = 0 then (Option.bind (f_X7_hasGreater r5.1 x0 x1 x2) (fun r16 => if r16.2 = 0 then (some (r16.1, t0)) else (some (r16.1, (0 : Int32))))) else (some (r5.1, t0))) else (if r5.2 = 5 then (Option.bind (f_X7_of r5.1 x0 x2 (2 : Int32)) (fun r19 => Option.bind (f_X7_its r19.1 x0 x1 (2 : Int32)) (fun r20 => if r20.2 ≤ r19.2 then (some (r20.1, (3 : Int32))) else (some (r20.1, (0 : Int32)))))) else (if r5.2 = 6 then (Option.bind (f_X7_its r5.1 x0 x1 (2 : Int32)) (fun r23 => if r23.2 ≤ (3 : Int32) then (Option.bind (f_X7_its r23.1 x0 x1 (2 : Int32)) (fun r25 => some (r25.1, r25.2))) else (some (r23.1, (3 : Int32))))) else (some (r5.1, (2 : Int32))))))))))
def f_X7_effort_b21  (M : Mm) (x0 : Nat) (x1 : Int32) (x2 : Int32) : Option (Mm × Int32) := gd (ok nM shM x0 7) (Option.bind (f_X7_isBarred M x0 x1) (fun r27 => if r27.2 = 0 then (f_X7_effort_b36 r27.1 x0 x1 x2 r27.2 (2 : Int32)) else (f_X7_effort_b36 r27.1 x0 x1 x2 r27.2 (1 : Int32))))
def f_X7_effort (M : Mm) (o0 : Nat) (a1 : Int32) (a2 : Int32) : Option (Mm × Int32) := gd (ok nM shM o0 7) (if M.1 o0 5 = a2 then (if M.1 o0 6 = a1 then (some (M, M.1 o0 7)) else (f_X7_effort_b21 M o0 a1 a2)) else (f_X7_effort_b21 M o0 a1 a2))
def rmX7_effort : Room := { frames := 4, cells := 0, slots := 0, locals := 127 }
theorem hdX7_effort : yX7_effort.cls ≠ "java/lang/invoke/MethodHandle" ∧ yX7_effort.cls ≠ "java/lang/invoke/VarHandle" ∧ (parseMethodDescriptor yX7_effort.desc).map (fun d => d.parameters.length) = some 2 := by decide +kernel
def f_X7_force_b31  (M : Mm) (x2 : Int32) (t0 : Int32) : Option (Mm × Int32) := some (M, t0 * x2)
def f_X7_force_b19  (M : Mm) (x2 : Int32) (t0 : Int32) (t1 : Int32) : Option (Mm × Int32) := if (1 : Int32) ≤ t0 - t1 then (f_X7_force_b31 M x2 (t0 - t1)) else (f_X7_force_b31 M x2 (1 : Int32))
def f_X7_force (M : Mm) (o0 : Nat) (a1 : Int32) (a2 : Int32) : Option (Mm × Int32) := gd (ok nM shM o0 7) (Option.bind (f_X7_its M o0 a1 (1 : Int32)) (fun r2 => Option.bind (f_X7_isTired r2.1 o0 a1) (fun r4 => if r4.2 = 0 then (f_X7_force_b19 r4.1 a2 r2.2 (0 : Int32)) else (f_X7_force_b19 r4.1 a2 r2.2 (1 : Int32)))))
def rmX7_force : Room := { frames := 4, cells := 0, slots := 0, locals := 126 }
theorem hdX7_force : yX7_force.cls ≠ "java/lang/invoke/MethodHandle" ∧ yX7_force.cls ≠ "java/lang/invoke/VarHandle" ∧ (parseMethodDescriptor yX7_force.desc).map (fun d => d.parameters.length) = some 2 := by decide +kernel
def f_X7_chance (M : Mm) (o0 : Nat) (a1 : Int32) (a2 : Int32) (a3 : Int32) : Option (Mm × Int32) := gd (ok nM shM o0 7) (Option.bind (f_X7_of M o0 a1 (0 : Int32)) (fun r1 => Option.bind (f_X7_force r1.1 o0 r1.2 a2) (fun r3 => Option.bind (f_X7_of r3.1 o0 a1 (1 : Int32)) (fun r4 => Option.bind (f_X7_force r4.1 o0 r4.2 a3) (fun r5 => if r3.2 + r5.2 = 0 then (some (r5.1, (5 : Int32))) else (gd (¬ r3.2 + r5.2 = 0) (some (r5.1, ((10 : Int32) * r3.2) / (r3.2 + r5.2)))))))))
def rmX7_chance : Room := { frames := 5, cells := 0, slots := 0, locals := 149 }
theorem hdX7_chance : yX7_chance.cls ≠ "java/lang/invoke/MethodHandle" ∧ yX7_chance.cls ≠ "java/lang/invoke/VarHandle" ∧ (parseMethodDescriptor yX7_chance.desc).map (fun d => d.parameters.length) = some 3 := by decide +kernel
def f_X7_givenTo_b74  (M : Mm) (x2 : Int32) : Option (Mm × Int32) := some (M, x2)
def f_X7_givenTo_b25  (M : Mm) (x0 : Nat) (x2 : Int32) (t0 : Int32) : Option (Mm × Int32) := gd (ok nM shM x0 7) (Option.bind (f_X7_isBarred M x0 x2) (fun r1 => if r1.2 = 0 then (some (r1.1, x2)) else (Option.bind (f_X7_isBarred r1.1 x0 t0) (fun r4 => if r4.2 = 0 then (some (r4.1, t0)) else (Option.bind (f_X7_points r4.1 x0 x2) (fun r6 => Option.bind (f_X7_points r6.1 x0 t0) (fun r7 => if r6.2 - r7.2 < 0 then (f_X7_givenTo_b74 r7.1 x2) else (if r6.2 - r7.2 = 0 then (if t0 ≤ x2 then (some (r7.1, t0)) else (f_X7_givenTo_b74 r7.1 x2)) else (some (r7.1, t0))))))))))
def f_X7_givenTo (M : Mm) (o0 : Nat) (a1 : Int32) (a2 : Int32) : Option (Mm × Int32) := gd (ok nM shM o0 7) (Option.bind (f_X7_of M o0 a1 (0 : Int32)) (fun r11 => if r11.2 = a2 then (Option.bind (f_X7_of r11.1 o0 a1 (1 : Int32)) (fun r15 => f_X7_givenTo_b25 r15.1 o0 a2 r15.2)) else (Option.bind (f_X7_of r11.1 o0 a1 (0 : Int32)) (fun r14 => f_X7_givenTo_b25 r14.1 o0 a2 r14.2))))
def rmX7_givenTo : Room := { frames := 4, cells := 0, slots := 0, locals := 127 }
theorem hdX7_givenTo : yX7_givenTo.cls ≠ "java/lang/invoke/MethodHandle" ∧ yX7_givenTo.cls ≠ "java/lang/invoke/VarHandle" ∧ (parseMethodDescriptor yX7_givenTo.desc).map (fun d => d.parameters.length) = some 2 := by decide +kernel
def f_X7_wins (M : Mm) (o0 : Nat) (a1 : Int32) (a2 : Int32) (a3 : Int32) : Option (Mm × Unit) := gd (ok nM shM o0 7) (Option.bind (M.2.2 o0 0) (fun q2 => gd (okA nM shM q2 8 (2 : Int32)) (lt ((23 : Int32) + ((7 : Int32) * (M.1 q2 (2 : Int32).toNatClampNeg))) (fun y4 : Int32 => Option.bind (M.2.2 o0 0) (fun q5 => Option.bind (f_X7_givenTo M o0 (M.1 q2 (2 : Int32).toNatClampNeg) a1) (fun r6 => gd (okA nM shM q5 8 (y4 + (4 : Int32))) (lt (sI r6.1 q5 (y4 + (4 : Int32)).toNatClampNeg r6.2) (fun M8 => Option.bind (M8.2.2 o0 0) (fun q9 => gd (okA nM shM q9 8 (y4 + (3 : Int32))) (lt (sI M8 q9 (y4 + (3 : Int32)).toNatClampNeg a1) (fun M11 => Option.bind (M11.2.2 o0 0) (fun q12 => gd (okA nM shM q12 8 (y4 + (5 : Int32))) (lt (sI M11 q12 (y4 + (5 : Int32)).toNatClampNeg a2) (fun M14 => Option.bind (M14.2.2 o0 0) (fun q15 => gd (okA nM shM q15 8 ((y4 + (5 : Int32)) + (1 : Int32))) (lt (sI M14 q15 ((y4 + (5 : Int32)) + (1 : Int32)).toNatClampNeg a3) (fun M17 => Option.bind (M17.2.2 o0 0) (fun q18 => gd (okA nM shM q18 8 (2 : Int32)) (gd (okA nM shM q18 8 (2 : Int32)) (lt (sI M17 q18 (2 : Int32).toNatClampNeg ((M17.1 q18 (2 : Int32).toNatClampNeg) + (1 : Int32))) (fun M21 => some (M21, ()))))))))))))))))))))))
def rmX7_wins : Room := { frames := 5, cells := 0, slots := 0, locals := 151 }
theorem hdX7_wins : yX7_wins.cls ≠ "java/lang/invoke/MethodHandle" ∧ yX7_wins.cls ≠ "java/lang/invoke/VarHandle" ∧ (parseMethodDescriptor yX7_wins.desc).map (fun d => d.parameters.length) = some 3 := by decide +kernel
def f_X7_winsNow (M : Mm) (o0 : Nat) (a1 : Int32) : Option (Mm × Unit) := gd (ok nM shM o0 7) (Option.bind (M.2.2 o0 0) (fun q2 => gd (okA nM shM q2 8 (2 : Int32)) (Option.bind (f_X7_of M o0 (M.1 q2 (2 : Int32).toNatClampNeg) (0 : Int32)) (fun r4 => Option.bind (f_X7_effort r4.1 o0 r4.2 (M.1 q2 (2 : Int32).toNatClampNeg)) (fun r5 => Option.bind (f_X7_of r5.1 o0 (M.1 q2 (2 : Int32).toNatClampNeg) (1 : Int32)) (fun r6 => Option.bind (f_X7_effort r6.1 o0 r6.2 (M.1 q2 (2 : Int32).toNatClampNeg)) (fun r7 => Option.bind (f_X7_wins r7.1 o0 a1 r5.2 r7.2) (fun r8 => some (r8.1, ())))))))))
def rmX7_winsNow : Room := { frames := 6, cells := 0, slots := 0, locals := 176 }
theorem hdX7_winsNow : yX7_winsNow.cls ≠ "java/lang/invoke/MethodHandle" ∧ yX7_winsNow.cls ≠ "java/lang/invoke/VarHandle" ∧ (parseMethodDescriptor yX7_winsNow.desc).map (fun d => d.parameters.length) = some 1 := by decide +kernel
def f_X7_isOver (M : Mm) (o0 : Nat) : Option (Mm × Int32) := gd (ok nM shM o0 7) (Option.bind (M.2.2 o0 0) (fun q2 => gd (okA nM shM q2 8 (2 : Int32)) (Option.bind (M.2.2 o0 0) (fun q4 => gd (okA nM shM q4 8 (1 : Int32)) (if M.1 q2 (2 : Int32).toNatClampNeg = M.1 q4 (1 : Int32).toNatClampNeg then (some (M, (1 : Int32))) else (some (M, (0 : Int32))))))))
def rmX7_isOver : Room := { frames := 1, cells := 0, slots := 0, locals := 60 }
theorem hdX7_isOver : yX7_isOver.cls ≠ "java/lang/invoke/MethodHandle" ∧ yX7_isOver.cls ≠ "java/lang/invoke/VarHandle" ∧ (parseMethodDescriptor yX7_isOver.desc).map (fun d => d.parameters.length) = some 0 := by decide +kernel
def f_X7_leader_b32 (k4 : Mm → Nat → Int32 → Int32 → Option (Mm × Int32)) (M : Mm) (x0 : Nat) (x2 : Int32) (t0 : Int32) : Option (Mm × Int32) := k4 M x0 t0 (x2 + (1 : Int32))
def f_X7_leader_b4  : Nat → Mm → Nat → Int32 → Int32 → Option (Mm × Int32)
  | 0, _, _, _, _ => none
  | nn + 1, M, x0, x1, x2 => gd (ok nM shM x0 7) (Option.bind (M.2.2 x0 0) (fun q2 => gd (okA nM shM q2 8 (0 : Int32)) (if M.1 q2 (0 : Int32).toNatClampNeg ≤ x2 then (some (M, x1)) else (Option.bind (f_X7_points M x0 x2) (fun r5 => Option.bind (f_X7_points r5.1 x0 x1) (fun r6 => if r5.2 ≤ r6.2 then (f_X7_leader_b32 (f_X7_leader_b4 nn) r6.1 x0 x2 x1) else (f_X7_leader_b32 (f_X7_leader_b4 nn) r6.1 x0 x2 x2)))))))
def f_X7_leader (M : Mm) (o0 : Nat) : Option (Mm × Int32) := f_X7_leader_b4 1000 M o0 (0 : Int32) (1 : Int32)
def rmX7_leader : Room := { frames := 3, cells := 0, slots := 0, locals := 105 }
theorem hdX7_leader : yX7_leader.cls ≠ "java/lang/invoke/MethodHandle" ∧ yX7_leader.cls ≠ "java/lang/invoke/VarHandle" ∧ (parseMethodDescriptor yX7_leader.desc).map (fun d => d.parameters.length) = some 0 := by decide +kernel
def f_X7_addSide (M : Mm) (o0 : Nat) (a1 : Int32) (a2 : Int32) (a3 : Int32) : Option (Mm × Unit) := gd (ok nM shM o0 7) (Option.bind (M.2.2 o0 0) (fun q2 => gd (okA nM shM q2 8 (0 : Int32)) (lt ((5 : Int32) + ((3 : Int32) * (M.1 q2 (0 : Int32).toNatClampNeg))) (fun y4 : Int32 => Option.bind (M.2.2 o0 0) (fun q5 => gd (okA nM shM q5 8 (y4 + (0 : Int32))) (lt (sI M q5 (y4 + (0 : Int32)).toNatClampNeg a1) (fun M7 => Option.bind (M7.2.2 o0 0) (fun q8 => gd (okA nM shM q8 8 (y4 + (1 : Int32))) (lt (sI M7 q8 (y4 + (1 : Int32)).toNatClampNeg a2) (fun M10 => Option.bind (M10.2.2 o0 0) (fun q11 => gd (okA nM shM q11 8 (y4 + (2 : Int32))) (lt (sI M10 q11 (y4 + (2 : Int32)).toNatClampNeg a3) (fun M13 => Option.bind (M13.2.2 o0 0) (fun q14 => gd (okA nM shM q14 8 (0 : Int32)) (gd (okA nM shM q14 8 (0 : Int32)) (lt (sI M13 q14 (0 : Int32).toNatClampNeg ((M13.1 q14 (0 : Int32).toNatClampNeg) + (1 : Int32))) (fun M17 => some (M17, ()))))))))))))))))))
def rmX7_addSide : Room := { frames := 1, cells := 0, slots := 0, locals := 60 }
theorem hdX7_addSide : yX7_addSide.cls ≠ "java/lang/invoke/MethodHandle" ∧ yX7_addSide.cls ≠ "java/lang/invoke/VarHandle" ∧ (parseMethodDescriptor yX7_addSide.desc).map (fun d => d.parameters.length) = some 3 := by decide +kernel
def f_X7_side_b20  (M : Mm) (x0 : Nat) : Option (Mm × Int32) := gd (ok nM shM x0 7) (Option.bind (f_X7_finding M x0 (0 : Int32)) (fun r1 => some (r1.1, r1.2)))
def f_X7_side (M : Mm) (o0 : Nat) (a1 : Int32) (a2 : Int32) : Option (Mm × Int32) := Option.bind (f_X7_in M a1 (0 : Int32) (6 : Int32)) (fun r3 => if r3.2 = 0 then (f_X7_side_b20 r3.1 o0) else (Option.bind (f_X7_in r3.1 a2 (1 : Int32) (9 : Int32)) (fun r5 => if r5.2 = 0 then (f_X7_side_b20 r5.1 o0) else (gd (ok nM shM o0 7) (Option.bind (r5.1.2.2 o0 0) (fun q8 => gd (okA nM shM q8 8 (0 : Int32)) (if r5.1.1 q8 (0 : Int32).toNatClampNeg = (6 : Int32) then (Option.bind (f_X7_finding r5.1 o0 (1 : Int32)) (fun r14 => some (r14.1, r14.2))) else (Option.bind (f_X7_addSide r5.1 o0 a1 a2 (0 : Int32)) (fun r11 => Option.bind (r11.1.2.2 o0 0) (fun q12 => gd (okA nM shM q12 8 (0 : Int32)) (some (r11.1, (r11.1.1 q12 (0 : Int32).toNatClampNeg) - (1 : Int32)))))))))))))
def rmX7_side : Room := { frames := 2, cells := 0, slots := 0, locals := 84 }
theorem hdX7_side : yX7_side.cls ≠ "java/lang/invoke/MethodHandle" ∧ yX7_side.cls ≠ "java/lang/invoke/VarHandle" ∧ (parseMethodDescriptor yX7_side.desc).map (fun d => d.parameters.length) = some 2 := by decide +kernel
def f_X7_games_b47 (k5 : Mm → Nat → Int32 → Int32 → Int32 → Int32 → Option (Mm × Int32)) (M : Mm) (x0 : Nat) (x1 : Int32) (x2 : Int32) (x4 : Int32) (t0 : Int32) (t1 : Int32) : Option (Mm × Int32) := k5 M x0 x1 x2 (t0 + t1) (x4 + (1 : Int32))
def f_X7_games_b46 (k5 : Mm → Nat → Int32 → Int32 → Int32 → Int32 → Option (Mm × Int32)) (M : Mm) (x0 : Nat) (x1 : Int32) (x2 : Int32) (x4 : Int32) (t0 : Int32) : Option (Mm × Int32) := f_X7_games_b47 k5 M x0 x1 x2 x4 t0 (0 : Int32)
def f_X7_games_b42 (k5 : Mm → Nat → Int32 → Int32 → Int32 → Int32 → Option (Mm × Int32)) (M : Mm) (x0 : Nat) (x1 : Int32) (x2 : Int32) (x4 : Int32) (t0 : Int32) : Option (Mm × Int32) := f_X7_games_b47 k5 M x0 x1 x2 x4 t0 (1 : Int32)
def f_X7_games_b5  : Nat → Mm → Nat → Int32 → Int32 → Int32 → Int32 → Option (Mm × Int32)
  | 0, _, _, _, _, _, _ => none
  | nn + 1, M, x0, x1, x2, x3, x4 => gd (ok nM shM x0 7) (Option.bind (M.2.2 x0 0) (fun q2 => gd (okA nM shM q2 8 (2 : Int32)) (if M.1 q2 (2 : Int32).toNatClampNeg ≤ x4 then (some (M, x3)) else (Option.bind (f_X7_plays M x0 x1 x4) (fun r5 => if r5.2 = 0 then (f_X7_games_b46 (f_X7_games_b5 nn) r5.1 x0 x1 x2 x4 x3) else (if x2 = 0 then (f_X7_games_b42 (f_X7_games_b5 nn) r5.1 x0 x1 x2 x4 x3) else (Option.bind (f_X7_of r5.1 x0 x4 (4 : Int32)) (fun r8 => if r8.2 = x1 then (f_X7_games_b42 (f_X7_games_b5 nn) r8.1 x0 x1 x2 x4 x3) else (f_X7_games_b46 (f_X7_games_b5 nn) r8.1 x0 x1 x2 x4 x3)))))))))
def f_X7_games (M : Mm) (o0 : Nat) (a1 : Int32) (a2 : Int32) : Option (Mm × Int32) := f_X7_games_b5 1000 M o0 a1 a2 (0 : Int32) (0 : Int32)
def rmX7_games : Room := { frames := 3, cells := 0, slots := 0, locals := 104 }
theorem hdX7_games : yX7_games.cls ≠ "java/lang/invoke/MethodHandle" ∧ yX7_games.cls ≠ "java/lang/invoke/VarHandle" ∧ (parseMethodDescriptor yX7_games.desc).map (fun d => d.parameters.length) = some 2 := by decide +kernel
def f_X7_sideOf_b107  (M : Mm) (t0 : Nat) (t1 : Int32) (t2 : Int32) : Option (Mm × Int32) := gd (ok nM shM t0 7) (Option.bind (f_X7_games M t0 t1 t2) (fun r1 => some (r1.1, r1.2)))
def f_X7_sideOf_b18  (M : Mm) (x0 : Nat) : Option (Mm × Int32) := gd (ok nM shM x0 7) (Option.bind (f_X7_finding M x0 (0 : Int32)) (fun r3 => some (r3.1, r3.2)))
def f_X7_sideOf (M : Mm) (o0 : Nat) (a1 : Int32) (a2 : Int32) : Option (Mm × Int32) := gd (ok nM shM o0 7) (Option.bind (f_X7_isSide M o0 a1) (fun r5 => if r5.2 = 0 then (f_X7_sideOf_b18 r5.1 o0) else (Option.bind (f_X7_in r5.1 a2 (0 : Int32) (7 : Int32)) (fun r8 => if r8.2 = 0 then (f_X7_sideOf_b18 r8.1 o0) else (if a2 = 3 then (Option.bind (f_X7_points r8.1 o0 a1) (fun r11 => some (r11.1, r11.2))) else (if a2 = 4 then (Option.bind (f_X7_isBarred r8.1 o0 a1) (fun r13 => if r13.2 = 0 then (some (r13.1, (0 : Int32))) else (some (r13.1, (1 : Int32))))) else (if a2 = 5 then (Option.bind (f_X7_isTired r8.1 o0 a1) (fun r16 => if r16.2 = 0 then (some (r16.1, (0 : Int32))) else (some (r16.1, (1 : Int32))))) else (if a2 = 6 then (if a2 = (7 : Int32) then (f_X7_sideOf_b107 r8.1 o0 a1 (1 : Int32)) else (f_X7_sideOf_b107 r8.1 o0 a1 (0 : Int32))) else (if a2 = 7 then (if a2 = (7 : Int32) then (f_X7_sideOf_b107 r8.1 o0 a1 (1 : Int32)) else (f_X7_sideOf_b107 r8.1 o0 a1 (0 : Int32))) else (Option.bind (f_X7_its r8.1 o0 a1 a2) (fun r22 => some (r22.1, r22.2))))))))))))
def rmX7_sideOf : Room := { frames := 4, cells := 0, slots := 0, locals := 128 }
theorem hdX7_sideOf : yX7_sideOf.cls ≠ "java/lang/invoke/MethodHandle" ∧ yX7_sideOf.cls ≠ "java/lang/invoke/VarHandle" ∧ (parseMethodDescriptor yX7_sideOf.desc).map (fun d => d.parameters.length) = some 2 := by decide +kernel
def f_X7_change_b45  (M : Mm) (x0 : Nat) : Option (Mm × Int32) := gd (ok nM shM x0 7) (Option.bind (f_X7_finding M x0 (0 : Int32)) (fun r1 => some (r1.1, r1.2)))
def f_X7_change_b39  (M : Mm) (x0 : Nat) (x1 : Int32) (x2 : Int32) (x3 : Int32) (t0 : Int32) (t1 : Int32) (t2 : Int32) : Option (Mm × Int32) := Option.bind (f_X7_in M t0 t1 t2) (fun r3 => if r3.2 = 0 then (f_X7_change_b45 r3.1 x0) else (gd (ok nM shM x0 7) (Option.bind (f_X7_its r3.1 x0 x1 x2) (fun r5 => Option.bind (r5.1.2.2 x0 0) (fun q7 => gd (okA nM shM q7 8 (((5 : Int32) + ((3 : Int32) * x1)) + x2)) (lt (sI r5.1 q7 (((5 : Int32) + ((3 : Int32) * x1)) + x2).toNatClampNeg x3) (fun M9 => some (M9, r5.2))))))))
def f_X7_change_b28  (M : Mm) (x0 : Nat) (x1 : Int32) (x2 : Int32) (x3 : Int32) (t0 : Int32) (t1 : Int32) : Option (Mm × Int32) := if x2 = 0 then (f_X7_change_b39 M x0 x1 x2 x3 t0 t1 (6 : Int32)) else (f_X7_change_b39 M x0 x1 x2 x3 t0 t1 (9 : Int32))
def f_X7_change (M : Mm) (o0 : Nat) (a1 : Int32) (a2 : Int32) (a3 : Int32) : Option (Mm × Int32) := gd (ok nM shM o0 7) (Option.bind (f_X7_isSide M o0 a1) (fun r11 => if r11.2 = 0 then (f_X7_change_b45 r11.1 o0) else (Option.bind (f_X7_in r11.1 a2 (0 : Int32) (2 : Int32)) (fun r14 => if r14.2 = 0 then (f_X7_change_b45 r14.1 o0) else (if a2 = (1 : Int32) then (f_X7_change_b28 r14.1 o0 a1 a2 a3 a3 (1 : Int32)) else (f_X7_change_b28 r14.1 o0 a1 a2 a3 a3 (0 : Int32)))))))
def rmX7_change : Room := { frames := 3, cells := 0, slots := 0, locals := 103 }
theorem hdX7_change : yX7_change.cls ≠ "java/lang/invoke/MethodHandle" ∧ yX7_change.cls ≠ "java/lang/invoke/VarHandle" ∧ (parseMethodDescriptor yX7_change.desc).map (fun d => d.parameters.length) = some 3 := by decide +kernel
def f_X7_addGame (M : Mm) (o0 : Nat) (a1 : Int32) (a2 : Int32) (a3 : Int32) : Option (Mm × Unit) := gd (ok nM shM o0 7) (Option.bind (M.2.2 o0 0) (fun q2 => gd (okA nM shM q2 8 (1 : Int32)) (lt ((23 : Int32) + ((7 : Int32) * (M.1 q2 (1 : Int32).toNatClampNeg))) (fun y4 : Int32 => Option.bind (M.2.2 o0 0) (fun q5 => gd (okA nM shM q5 8 (y4 + (0 : Int32))) (lt (sI M q5 (y4 + (0 : Int32)).toNatClampNeg a1) (fun M7 => Option.bind (M7.2.2 o0 0) (fun q8 => gd (okA nM shM q8 8 (y4 + (1 : Int32))) (lt (sI M7 q8 (y4 + (1 : Int32)).toNatClampNeg a2) (fun M10 => Option.bind (M10.2.2 o0 0) (fun q11 => gd (okA nM shM q11 8 (y4 + (2 : Int32))) (lt (sI M10 q11 (y4 + (2 : Int32)).toNatClampNeg a3) (fun M13 => Option.bind (M13.2.2 o0 0) (fun q14 => gd (okA nM shM q14 8 (y4 + (3 : Int32))) (lt (sI M13 q14 (y4 + (3 : Int32)).toNatClampNeg (0 : Int32)) (fun M16 => Option.bind (M16.2.2 o0 0) (fun q17 => gd (okA nM shM q17 8 (y4 + (4 : Int32))) (lt (sI M16 q17 (y4 + (4 : Int32)).toNatClampNeg (0 : Int32)) (fun M19 => Option.bind (M19.2.2 o0 0) (fun q20 => gd (okA nM shM q20 8 (y4 + (5 : Int32))) (lt (sI M19 q20 (y4 + (5 : Int32)).toNatClampNeg (0 : Int32)) (fun M22 => Option.bind (M22.2.2 o0 0) (fun q23 => gd (okA nM shM q23 8 ((y4 + (5 : Int32)) + (1 : Int32))) (lt (sI M22 q23 ((y4 + (5 : Int32)) + (1 : Int32)).toNatClampNeg (0 : Int32)) (fun M25 => Option.bind (M25.2.2 o0 0) (fun q26 => gd (okA nM shM q26 8 (1 : Int32)) (gd (okA nM shM q26 8 (1 : Int32)) (lt (sI M25 q26 (1 : Int32).toNatClampNeg ((M25.1 q26 (1 : Int32).toNatClampNeg) + (1 : Int32))) (fun M29 => some (M29, ()))))))))))))))))))))))))))))))
def rmX7_addGame : Room := { frames := 1, cells := 0, slots := 0, locals := 60 }
theorem hdX7_addGame : yX7_addGame.cls ≠ "java/lang/invoke/MethodHandle" ∧ yX7_addGame.cls ≠ "java/lang/invoke/VarHandle" ∧ (parseMethodDescriptor yX7_addGame.desc).map (fun d => d.parameters.length) = some 3 := by decide +kernel
def f_X7_game_b31  (M : Mm) (x0 : Nat) : Option (Mm × Int32) := gd (ok nM shM x0 7) (Option.bind (f_X7_finding M x0 (0 : Int32)) (fun r1 => some (r1.1, r1.2)))
def f_X7_game (M : Mm) (o0 : Nat) (a1 : Int32) (a2 : Int32) (a3 : Int32) : Option (Mm × Int32) := gd (ok nM shM o0 7) (Option.bind (f_X7_isSide M o0 a1) (fun r3 => if r3.2 = 0 then (f_X7_game_b31 r3.1 o0) else (Option.bind (f_X7_isSide r3.1 o0 a2) (fun r6 => if r6.2 = 0 then (f_X7_game_b31 r6.1 o0) else (if a1 = a2 then (f_X7_game_b31 r6.1 o0) else (Option.bind (f_X7_in r6.1 a3 (1 : Int32) (9 : Int32)) (fun r9 => if r9.2 = 0 then (f_X7_game_b31 r9.1 o0) else (Option.bind (r9.1.2.2 o0 0) (fun q11 => gd (okA nM shM q11 8 (1 : Int32)) (if r9.1.1 q11 (1 : Int32).toNatClampNeg = (8 : Int32) then (Option.bind (f_X7_finding r9.1 o0 (1 : Int32)) (fun r17 => some (r17.1, r17.2))) else (Option.bind (f_X7_addGame r9.1 o0 a1 a2 a3) (fun r14 => Option.bind (r14.1.2.2 o0 0) (fun q15 => gd (okA nM shM q15 8 (1 : Int32)) (some (r14.1, (r14.1.1 q15 (1 : Int32).toNatClampNeg) - (1 : Int32))))))))))))))))
def rmX7_game : Room := { frames := 3, cells := 0, slots := 0, locals := 103 }
theorem hdX7_game : yX7_game.cls ≠ "java/lang/invoke/MethodHandle" ∧ yX7_game.cls ≠ "java/lang/invoke/VarHandle" ∧ (parseMethodDescriptor yX7_game.desc).map (fun d => d.parameters.length) = some 3 := by decide +kernel
def f_X7_gameOf_b46  (M : Mm) (x0 : Nat) (x1 : Int32) (x2 : Int32) : Option (Mm × Int32) := gd (ok nM shM x0 7) (Option.bind (f_X7_of M x0 x1 x2) (fun r1 => some (r1.1, r1.2)))
def f_X7_gameOf_b17  (M : Mm) (x0 : Nat) : Option (Mm × Int32) := gd (ok nM shM x0 7) (Option.bind (f_X7_finding M x0 (0 : Int32)) (fun r3 => some (r3.1, r3.2)))
def f_X7_gameOf (M : Mm) (o0 : Nat) (a1 : Int32) (a2 : Int32) : Option (Mm × Int32) := gd (ok nM shM o0 7) (Option.bind (f_X7_isGame M o0 a1) (fun r5 => if r5.2 = 0 then (f_X7_gameOf_b17 r5.1 o0) else (Option.bind (f_X7_in r5.1 a2 (0 : Int32) (4 : Int32)) (fun r8 => if r8.2 = 0 then (f_X7_gameOf_b17 r8.1 o0) else (if a2 ≤ (2 : Int32) then (f_X7_gameOf_b46 r8.1 o0 a1 a2) else (Option.bind (r8.1.2.2 o0 0) (fun q11 => gd (okA nM shM q11 8 (2 : Int32)) (if a1 < r8.1.1 q11 (2 : Int32).toNatClampNeg then (f_X7_gameOf_b46 r8.1 o0 a1 a2) else (Option.bind (f_X7_finding r8.1 o0 (3 : Int32)) (fun r14 => some (r14.1, r14.2)))))))))))
def rmX7_gameOf : Room := { frames := 3, cells := 0, slots := 0, locals := 103 }
theorem hdX7_gameOf : yX7_gameOf.cls ≠ "java/lang/invoke/MethodHandle" ∧ yX7_gameOf.cls ≠ "java/lang/invoke/VarHandle" ∧ (parseMethodDescriptor yX7_gameOf.desc).map (fun d => d.parameters.length) = some 2 := by decide +kernel
def f_X7_swaps_b2  : Nat → Mm → Nat → Int32 → Int32 → Int32 → Option (Mm × Unit)
  | 0, _, _, _, _, _ => none
  | nn + 1, M, x0, x1, x2, x3 => if (7 : Int32) ≤ x3 then (some (M, ())) else (gd (ok nM shM x0 7) (Option.bind (f_X7_of M x0 x1 x3) (fun r2 => Option.bind (r2.1.2.2 x0 0) (fun q4 => Option.bind (f_X7_of r2.1 x0 x2 x3) (fun r5 => gd (okA nM shM q4 8 (((23 : Int32) + ((7 : Int32) * x1)) + x3)) (lt (sI r5.1 q4 (((23 : Int32) + ((7 : Int32) * x1)) + x3).toNatClampNeg r5.2) (fun M7 => Option.bind (M7.2.2 x0 0) (fun q8 => gd (okA nM shM q8 8 (((23 : Int32) + ((7 : Int32) * x2)) + x3)) (lt (sI M7 q8 (((23 : Int32) + ((7 : Int32) * x2)) + x3).toNatClampNeg r2.2) (fun M10 => (f_X7_swaps_b2 nn) M10 x0 x1 x2 (x3 + (1 : Int32))))))))))))
def f_X7_swaps (M : Mm) (o0 : Nat) (a1 : Int32) (a2 : Int32) : Option (Mm × Unit) := f_X7_swaps_b2 1000 M o0 a1 a2 (0 : Int32)
def rmX7_swaps : Room := { frames := 2, cells := 0, slots := 0, locals := 82 }
theorem hdX7_swaps : yX7_swaps.cls ≠ "java/lang/invoke/MethodHandle" ∧ yX7_swaps.cls ≠ "java/lang/invoke/VarHandle" ∧ (parseMethodDescriptor yX7_swaps.desc).map (fun d => d.parameters.length) = some 2 := by decide +kernel
def f_X7_swap_b42  (M : Mm) (x0 : Nat) : Option (Mm × Int32) := gd (ok nM shM x0 7) (Option.bind (f_X7_finding M x0 (4 : Int32)) (fun r1 => some (r1.1, r1.2)))
def f_X7_swap_b16  (M : Mm) (x0 : Nat) : Option (Mm × Int32) := gd (ok nM shM x0 7) (Option.bind (f_X7_finding M x0 (0 : Int32)) (fun r3 => some (r3.1, r3.2)))
def f_X7_swap (M : Mm) (o0 : Nat) (a1 : Int32) (a2 : Int32) : Option (Mm × Int32) := gd (ok nM shM o0 7) (Option.bind (f_X7_isGame M o0 a1) (fun r5 => if r5.2 = 0 then (f_X7_swap_b16 r5.1 o0) else (Option.bind (f_X7_isGame r5.1 o0 a2) (fun r8 => if r8.2 = 0 then (f_X7_swap_b16 r8.1 o0) else (Option.bind (r8.1.2.2 o0 0) (fun q10 => gd (okA nM shM q10 8 (2 : Int32)) (if a1 < r8.1.1 q10 (2 : Int32).toNatClampNeg then (f_X7_swap_b42 r8.1 o0) else (Option.bind (r8.1.2.2 o0 0) (fun q13 => gd (okA nM shM q13 8 (2 : Int32)) (if r8.1.1 q13 (2 : Int32).toNatClampNeg ≤ a2 then (Option.bind (f_X7_swaps r8.1 o0 a1 a2) (fun r16 => some (r16.1, (1 : Int32)))) else (f_X7_swap_b42 r8.1 o0)))))))))))
def rmX7_swap : Room := { frames := 3, cells := 0, slots := 0, locals := 106 }
theorem hdX7_swap : yX7_swap.cls ≠ "java/lang/invoke/MethodHandle" ∧ yX7_swap.cls ≠ "java/lang/invoke/VarHandle" ∧ (parseMethodDescriptor yX7_swap.desc).map (fun d => d.parameters.length) = some 2 := by decide +kernel
def f_X7_law (M : Mm) (o0 : Nat) (a1 : Int32) : Option (Mm × Int32) := Option.bind (f_X7_in M a1 (1 : Int32) (3 : Int32)) (fun r1 => if r1.2 = 0 then (gd (ok nM shM o0 7) (Option.bind (f_X7_finding r1.1 o0 (0 : Int32)) (fun r9 => some (r9.1, r9.2)))) else (gd (ok nM shM o0 7) (Option.bind (r1.1.2.2 o0 0) (fun q4 => gd (okA nM shM q4 8 (3 : Int32)) (Option.bind (r1.1.2.2 o0 0) (fun q6 => gd (okA nM shM q6 8 (3 : Int32)) (lt (sI r1.1 q6 (3 : Int32).toNatClampNeg a1) (fun M8 => some (M8, r1.1.1 q4 (3 : Int32).toNatClampNeg)))))))))
def rmX7_law : Room := { frames := 2, cells := 0, slots := 0, locals := 82 }
theorem hdX7_law : yX7_law.cls ≠ "java/lang/invoke/MethodHandle" ∧ yX7_law.cls ≠ "java/lang/invoke/VarHandle" ∧ (parseMethodDescriptor yX7_law.desc).map (fun d => d.parameters.length) = some 1 := by decide +kernel
def f_X7_feed_b36  : Nat → Mm → Nat → Int32 → Int32 → Option (Mm × Int32)
  | 0, _, _, _, _ => none
  | nn + 1, M, x0, x1, x3 => if x3 < 0 then (gd (ok nM shM x0 7) (some (M, M.1 x0 9))) else (gd (ok nM shM x0 7) (Option.bind (M.2.2 x0 8) (fun q4 => gd (okA nM shM q4 8 (M.1 x0 9)) (lt (sI M q4 (M.1 x0 9).toNatClampNeg ((x1 >>> (((8 : Int32) * x3) &&& 31)) &&& (255 : Int32))) (fun M6 => lt (sI M6 x0 9 ((M6.1 x0 9) + (1 : Int32))) (fun M7 => (f_X7_feed_b36 nn) M7 x0 x1 (x3 + (-1 : Int32))))))))
def f_X7_feed (M : Mm) (o0 : Nat) (a1 : Int32) (a2 : Int32) : Option (Mm × Int32) := Option.bind (f_X7_in M a2 (1 : Int32) (4 : Int32)) (fun r8 => if r8.2 = 0 then (gd (ok nM shM o0 7) (Option.bind (f_X7_finding r8.1 o0 (0 : Int32)) (fun r13 => some (r13.1, r13.2)))) else (gd (ok nM shM o0 7) (if (r8.1.1 o0 9) + a2 ≤ (120 : Int32) then (f_X7_feed_b36 1000 r8.1 o0 a1 (a2 - (1 : Int32))) else (Option.bind (f_X7_finding r8.1 o0 (1 : Int32)) (fun r12 => some (r12.1, r12.2))))))
def rmX7_feed : Room := { frames := 2, cells := 0, slots := 0, locals := 82 }
theorem hdX7_feed : yX7_feed.cls ≠ "java/lang/invoke/MethodHandle" ∧ yX7_feed.cls ≠ "java/lang/invoke/VarHandle" ∧ (parseMethodDescriptor yX7_feed.desc).map (fun d => d.parameters.length) = some 2 := by decide +kernel
def f_X7_wipe (M : Mm) (o0 : Nat) : Option (Mm × Int32) := gd (ok nM shM o0 7) (lt (sI M o0 9 (0 : Int32)) (fun M2 => some (M2, M.1 o0 9)))
def rmX7_wipe : Room := { frames := 1, cells := 0, slots := 0, locals := 60 }
theorem hdX7_wipe : yX7_wipe.cls ≠ "java/lang/invoke/MethodHandle" ∧ yX7_wipe.cls ≠ "java/lang/invoke/VarHandle" ∧ (parseMethodDescriptor yX7_wipe.desc).map (fun d => d.parameters.length) = some 0 := by decide +kernel
def f_X7_byteAt (M : Mm) (o0 : Nat) (a1 : Int32) : Option (Mm × Int32) := gd (ok nM shM o0 7) (if M.1 o0 9 ≤ a1 then (some (M, (-1 : Int32))) else (Option.bind (M.2.2 o0 8) (fun q3 => gd (okA nM shM q3 8 a1) (some (M, M.1 q3 a1.toNatClampNeg)))))
def rmX7_byteAt : Room := { frames := 1, cells := 0, slots := 0, locals := 60 }
theorem hdX7_byteAt : yX7_byteAt.cls ≠ "java/lang/invoke/MethodHandle" ∧ yX7_byteAt.cls ≠ "java/lang/invoke/VarHandle" ∧ (parseMethodDescriptor yX7_byteAt.desc).map (fun d => d.parameters.length) = some 1 := by decide +kernel
def f_X7_nextToken_b206  (M : Mm) (x0 : Nat) (t0 : Nat) (t1 : Int32) : Option (Mm × Unit) := gd (ok nM shM t0 7) (lt (sI M t0 11 t1) (fun M2 => gd (ok nM shM x0 7) (lt (sI M2 x0 10 ((M2.1 x0 10) + (1 : Int32))) (fun M4 => some (M4, ())))))
def f_X7_nextToken_b178 (k123 : Mm → Nat → Option (Mm × Unit)) (M : Mm) (x0 : Nat) (t0 : Nat) (t1 : Int32) : Option (Mm × Unit) := gd (ok nM shM t0 7) (lt (sI M t0 13 t1) (fun M6 => gd (ok nM shM x0 7) (lt (sI M6 x0 10 ((M6.1 x0 10) + (1 : Int32))) (fun M8 => k123 M8 x0))))
def f_X7_nextToken_b123  : Nat → Mm → Nat → Option (Mm × Unit)
  | 0, _, _ => none
  | nn + 1, M, x0 => gd (ok nM shM x0 7) (Option.bind (f_X7_byteAt M x0 (M.1 x0 10)) (fun r10 => Option.bind (f_X7_in r10.1 r10.2 (48 : Int32) (57 : Int32)) (fun r11 => if r11.2 = 0 then (some (r11.1, ())) else (if r11.1.1 x0 13 ≤ (999 : Int32) then (Option.bind (f_X7_byteAt r11.1 x0 (r11.1.1 x0 10)) (fun r14 => f_X7_nextToken_b178 (f_X7_nextToken_b123 nn) r14.1 x0 x0 ((((10 : Int32) * (r11.1.1 x0 13)) + r14.2) - (48 : Int32)))) else (f_X7_nextToken_b178 (f_X7_nextToken_b123 nn) r11.1 x0 x0 (r11.1.1 x0 13))))))
def f_X7_nextToken_b71  : Nat → Mm → Nat → Option (Mm × Unit)
  | 0, _, _ => none
  | nn + 1, M, x0 => gd (ok nM shM x0 7) (Option.bind (f_X7_byteAt M x0 (M.1 x0 10)) (fun r16 => Option.bind (f_X7_in r16.1 r16.2 (97 : Int32) (122 : Int32)) (fun r17 => if r17.2 = 0 then (some (r17.1, ())) else (lt (sI r17.1 x0 10 ((r17.1.1 x0 10) + (1 : Int32))) (fun M19 => (f_X7_nextToken_b71 nn) M19 x0)))))
def f_X7_nextToken_b0  : Nat → Mm → Nat → Option (Mm × Unit)
  | 0, _, _ => none
  | nn + 1, M, x0 => gd (ok nM shM x0 7) (Option.bind (f_X7_byteAt M x0 (M.1 x0 10)) (fun r21 => if r21.2 = (32 : Int32) then (lt (sI r21.1 x0 10 ((r21.1.1 x0 10) + (1 : Int32))) (fun M35 => (f_X7_nextToken_b0 nn) M35 x0)) else (lt (sI r21.1 x0 12 (r21.1.1 x0 10)) (fun M23 => Option.bind (f_X7_byteAt M23 x0 (M23.1 x0 10)) (fun r24 => if 0 ≤ r24.2 then (Option.bind (f_X7_in r24.1 r24.2 (97 : Int32) (122 : Int32)) (fun r26 => if r26.2 = 0 then (Option.bind (f_X7_in r26.1 r24.2 (48 : Int32) (57 : Int32)) (fun r28 => if r28.2 = 0 then (if r24.2 = (59 : Int32) then (f_X7_nextToken_b206 r28.1 x0 x0 (3 : Int32)) else (f_X7_nextToken_b206 r28.1 x0 x0 (4 : Int32))) else (lt (sI r28.1 x0 11 (2 : Int32)) (fun M31 => lt (sI M31 x0 13 (0 : Int32)) (fun M32 => f_X7_nextToken_b123 1000 M32 x0))))) else (lt (sI r26.1 x0 11 (1 : Int32)) (fun M33 => f_X7_nextToken_b71 1000 M33 x0)))) else (lt (sI r24.1 x0 11 (0 : Int32)) (fun M34 => some (M34, ()))))))))
def f_X7_nextToken (M : Mm) (o0 : Nat) : Option (Mm × Unit) := f_X7_nextToken_b0 1000 M o0
def rmX7_nextToken : Room := { frames := 2, cells := 0, slots := 0, locals := 82 }
theorem hdX7_nextToken : yX7_nextToken.cls ≠ "java/lang/invoke/MethodHandle" ∧ yX7_nextToken.cls ≠ "java/lang/invoke/VarHandle" ∧ (parseMethodDescriptor yX7_nextToken.desc).map (fun d => d.parameters.length) = some 0 := by decide +kernel
def f_X7_isWord_b68 (k32 : Mm → Nat → Nat → Int32 → Int32 → Option (Mm × Int32)) (M : Mm) (x0 : Nat) (x1 : Nat) (x3 : Int32) (t0 : Int32) : Option (Mm × Int32) := k32 M x0 x1 t0 (x3 + (1 : Int32))
def f_X7_isWord_b32  : Nat → Mm → Nat → Nat → Int32 → Int32 → Option (Mm × Int32)
  | 0, _, _, _, _, _ => none
  | nn + 1, M, x0, x1, x2, x3 => gd (x1 < 11) (if slen x1 ≤ x3 then (gd (bz x2) (some (M, x2))) else (if x2 = 0 then (gd (bz x2) (some (M, x2))) else (gd (ok nM shM x0 7) (Option.bind (M.2.2 x0 8) (fun q7 => gd (okA nM shM q7 8 ((M.1 x0 12) + x3)) (gd (x1 < 11 ∧ vin x3 (lenJS.getD x1 0)) (if M.1 q7 ((M.1 x0 12) + x3).toNatClampNeg = sch x1 x3 then (f_X7_isWord_b68 (f_X7_isWord_b32 nn) M x0 x1 x3 (1 : Int32)) else (f_X7_isWord_b68 (f_X7_isWord_b32 nn) M x0 x1 x3 (0 : Int32)))))))))
def f_X7_isWord_b29  (M : Mm) (x0 : Nat) (x1 : Nat) (t0 : Int32) : Option (Mm × Int32) := f_X7_isWord_b32 1000 M x0 x1 t0 (0 : Int32)
def f_X7_isWord_b28  (M : Mm) (x0 : Nat) (x1 : Nat) : Option (Mm × Int32) := f_X7_isWord_b29 M x0 x1 (0 : Int32)
def f_X7_isWord (M : Mm) (o0 : Nat) (a1 : Nat) : Option (Mm × Int32) := gd (ok nM shM o0 7) (if M.1 o0 11 = (1 : Int32) then (gd (a1 < 11) (if (M.1 o0 10) - (M.1 o0 12) = slen a1 then (f_X7_isWord_b29 M o0 a1 (1 : Int32)) else (f_X7_isWord_b28 M o0 a1))) else (f_X7_isWord_b28 M o0 a1))
def rmX7_isWord : Room := { frames := 8, cells := 0, slots := 0, locals := 400 }
theorem hdX7_isWord : yX7_isWord.cls ≠ "java/lang/invoke/MethodHandle" ∧ yX7_isWord.cls ≠ "java/lang/invoke/VarHandle" ∧ (parseMethodDescriptor yX7_isWord.desc).map (fun d => d.parameters.length) = some 1 := by decide +kernel
def f_X7_isNumber (M : Mm) (o0 : Nat) (a1 : Int32) (a2 : Int32) : Option (Mm × Int32) := gd (ok nM shM o0 7) (if M.1 o0 11 = (2 : Int32) then (Option.bind (f_X7_in M (M.1 o0 13) a1 a2) (fun r3 => if r3.2 = 0 then (some (r3.1, (0 : Int32))) else (some (r3.1, (1 : Int32))))) else (some (M, (0 : Int32))))
def rmX7_isNumber : Room := { frames := 2, cells := 0, slots := 0, locals := 82 }
theorem hdX7_isNumber : yX7_isNumber.cls ≠ "java/lang/invoke/MethodHandle" ∧ yX7_isNumber.cls ≠ "java/lang/invoke/VarHandle" ∧ (parseMethodDescriptor yX7_isNumber.desc).map (fun d => d.parameters.length) = some 2 := by decide +kernel
def f_X7_takes (M : Mm) (o0 : Nat) (a1 : Nat) : Option (Mm × Int32) := gd (ok nM shM o0 7) (Option.bind (f_X7_isWord M o0 a1) (fun r1 => if r1.2 = 0 then (some (r1.1, (0 : Int32))) else (Option.bind (f_X7_nextToken r1.1 o0) (fun r4 => some (r4.1, (1 : Int32))))))
def rmX7_takes : Room := { frames := 9, cells := 0, slots := 0, locals := 423 }
theorem hdX7_takes : yX7_takes.cls ≠ "java/lang/invoke/MethodHandle" ∧ yX7_takes.cls ≠ "java/lang/invoke/VarHandle" ∧ (parseMethodDescriptor yX7_takes.desc).map (fun d => d.parameters.length) = some 1 := by decide +kernel
def f_X7_takesNumber (M : Mm) (o0 : Nat) (a1 : Int32) (a2 : Int32) : Option (Mm × Int32) := gd (ok nM shM o0 7) (Option.bind (f_X7_isNumber M o0 a1 a2) (fun r1 => if r1.2 = 0 then (some (r1.1, (0 : Int32))) else (lt (sI r1.1 o0 14 (r1.1.1 o0 13)) (fun M4 => Option.bind (f_X7_nextToken M4 o0) (fun r5 => some (r5.1, (1 : Int32)))))))
def rmX7_takesNumber : Room := { frames := 3, cells := 0, slots := 0, locals := 104 }
theorem hdX7_takesNumber : yX7_takesNumber.cls ≠ "java/lang/invoke/MethodHandle" ∧ yX7_takesNumber.cls ≠ "java/lang/invoke/VarHandle" ∧ (parseMethodDescriptor yX7_takesNumber.desc).map (fun d => d.parameters.length) = some 2 := by decide +kernel
def f_X7_takesSide_b45  (M : Mm) (x0 : Nat) (x1 : Int32) (x2 : Int32) (x3 : Int32) : Option (Mm × Int32) := gd (ok nM shM x0 7) (Option.bind (f_X7_addSide M x0 x1 x2 x3) (fun r1 => some (r1.1, (1 : Int32))))
def f_X7_takesSide (M : Mm) (o0 : Nat) (a1 : Int32) : Option (Mm × Int32) := gd (ok nM shM o0 7) (Option.bind (f_X7_takesNumber M o0 (1 : Int32) (9 : Int32)) (fun r3 => if r3.2 = 0 then (some (r3.1, (0 : Int32))) else (Option.bind (f_X7_takes r3.1 o0 7) (fun r6 => if r6.2 = 0 then (f_X7_takesSide_b45 r6.1 o0 a1 (r3.1.1 o0 14) (0 : Int32)) else (Option.bind (f_X7_takesNumber r6.1 o0 (0 : Int32) (9 : Int32)) (fun r8 => if r8.2 = 0 then (some (r8.1, (0 : Int32))) else (f_X7_takesSide_b45 r8.1 o0 a1 (r3.1.1 o0 14) (r8.1.1 o0 14))))))))
def rmX7_takesSide : Room := { frames := 10, cells := 0, slots := 0, locals := 444 }
theorem hdX7_takesSide : yX7_takesSide.cls ≠ "java/lang/invoke/MethodHandle" ∧ yX7_takesSide.cls ≠ "java/lang/invoke/VarHandle" ∧ (parseMethodDescriptor yX7_takesSide.desc).map (fun d => d.parameters.length) = some 1 := by decide +kernel
def f_X7_takesGame_b83  (M : Mm) (x0 : Nat) (x1 : Int32) (x2 : Int32) (x3 : Int32) : Option (Mm × Int32) := gd (ok nM shM x0 7) (Option.bind (f_X7_addGame M x0 x1 x2 x3) (fun r1 => some (r1.1, (1 : Int32))))
def f_X7_takesGame (M : Mm) (o0 : Nat) : Option (Mm × Int32) := gd (ok nM shM o0 7) (Option.bind (M.2.2 o0 0) (fun q4 => gd (okA nM shM q4 8 (0 : Int32)) (Option.bind (f_X7_takesNumber M o0 (0 : Int32) ((M.1 q4 (0 : Int32).toNatClampNeg) - (1 : Int32))) (fun r6 => if r6.2 = 0 then (some (r6.1, (0 : Int32))) else (Option.bind (f_X7_isNumber r6.1 o0 (r6.1.1 o0 14) (r6.1.1 o0 14)) (fun r8 => if r8.2 = 0 then (Option.bind (r8.1.2.2 o0 0) (fun q10 => gd (okA nM shM q10 8 (0 : Int32)) (Option.bind (f_X7_takesNumber r8.1 o0 (0 : Int32) ((r8.1.1 q10 (0 : Int32).toNatClampNeg) - (1 : Int32))) (fun r12 => if r12.2 = 0 then (some (r12.1, (0 : Int32))) else (Option.bind (f_X7_takes r12.1 o0 9) (fun r14 => if r14.2 = 0 then (f_X7_takesGame_b83 r14.1 o0 (r6.1.1 o0 14) (r12.1.1 o0 14) (1 : Int32)) else (Option.bind (f_X7_takesNumber r14.1 o0 (1 : Int32) (9 : Int32)) (fun r16 => if r16.2 = 0 then (some (r16.1, (0 : Int32))) else (f_X7_takesGame_b83 r16.1 o0 (r6.1.1 o0 14) (r12.1.1 o0 14) (r16.1.1 o0 14)))))))))) else (some (r8.1, (0 : Int32)))))))))
def rmX7_takesGame : Room := { frames := 10, cells := 0, slots := 0, locals := 444 }
theorem hdX7_takesGame : yX7_takesGame.cls ≠ "java/lang/invoke/MethodHandle" ∧ yX7_takesGame.cls ≠ "java/lang/invoke/VarHandle" ∧ (parseMethodDescriptor yX7_takesGame.desc).map (fun d => d.parameters.length) = some 0 := by decide +kernel
def f_X7_takesItem_b156  (M : Mm) (x0 : Nat) (t0 : Int32) : Option (Mm × Int32) := if t0 = (-1 : Int32) then (some (M, (0 : Int32))) else (gd (ok nM shM x0 7) (Option.bind (M.2.2 x0 0) (fun q3 => gd (okA nM shM q3 8 (0 : Int32)) (if M.1 q3 (0 : Int32).toNatClampNeg = (6 : Int32) then (some (M, (0 : Int32))) else (Option.bind (f_X7_nextToken M x0) (fun r6 => Option.bind (f_X7_takesSide r6.1 x0 t0) (fun r7 => gd (bz r7.2) (some (r7.1, r7.2)))))))))
def f_X7_takesItem (M : Mm) (o0 : Nat) : Option (Mm × Int32) := gd (ok nM shM o0 7) (Option.bind (f_X7_takes M o0 10) (fun r9 => if r9.2 = 0 then (Option.bind (f_X7_isWord r9.1 o0 8) (fun r12 => if r12.2 = 0 then (Option.bind (f_X7_isWord r12.1 o0 0) (fun r14 => if r14.2 = 0 then (Option.bind (f_X7_isWord r14.1 o0 1) (fun r16 => if r16.2 = 0 then (Option.bind (f_X7_isWord r16.1 o0 2) (fun r18 => if r18.2 = 0 then (Option.bind (f_X7_isWord r18.1 o0 3) (fun r20 => if r20.2 = 0 then (Option.bind (f_X7_isWord r20.1 o0 4) (fun r22 => if r22.2 = 0 then (Option.bind (f_X7_isWord r22.1 o0 5) (fun r24 => if r24.2 = 0 then (Option.bind (f_X7_isWord r24.1 o0 6) (fun r26 => if r26.2 = 0 then (f_X7_takesItem_b156 r26.1 o0 (-1 : Int32)) else (f_X7_takesItem_b156 r26.1 o0 (6 : Int32)))) else (f_X7_takesItem_b156 r24.1 o0 (5 : Int32)))) else (f_X7_takesItem_b156 r22.1 o0 (4 : Int32)))) else (f_X7_takesItem_b156 r20.1 o0 (3 : Int32)))) else (f_X7_takesItem_b156 r18.1 o0 (2 : Int32)))) else (f_X7_takesItem_b156 r16.1 o0 (1 : Int32)))) else (f_X7_takesItem_b156 r14.1 o0 (0 : Int32)))) else (Option.bind (r12.1.2.2 o0 0) (fun q28 => gd (okA nM shM q28 8 (1 : Int32)) (if r12.1.1 q28 (1 : Int32).toNatClampNeg = (8 : Int32) then (some (r12.1, (0 : Int32))) else (Option.bind (f_X7_nextToken r12.1 o0) (fun r31 => Option.bind (f_X7_takesGame r31.1 o0) (fun r32 => gd (bz r32.2) (some (r32.1, r32.2)))))))))) else (Option.bind (f_X7_takesNumber r9.1 o0 (1 : Int32) (3 : Int32)) (fun r34 => if r34.2 = 0 then (some (r34.1, (0 : Int32))) else (Option.bind (r34.1.2.2 o0 0) (fun q36 => gd (okA nM shM q36 8 (3 : Int32)) (lt (sI r34.1 q36 (3 : Int32).toNatClampNeg (r34.1.1 o0 14)) (fun M38 => some (M38, (1 : Int32))))))))))
def rmX7_takesItem : Room := { frames := 11, cells := 0, slots := 0, locals := 467 }
theorem hdX7_takesItem : yX7_takesItem.cls ≠ "java/lang/invoke/MethodHandle" ∧ yX7_takesItem.cls ≠ "java/lang/invoke/VarHandle" ∧ (parseMethodDescriptor yX7_takesItem.desc).map (fun d => d.parameters.length) = some 0 := by decide +kernel
def f_X7_takesAll_b52 (k16 : Mm → Nat → Int32 → Option (Mm × Int32)) (M : Mm) (x0 : Nat) (t0 : Int32) : Option (Mm × Int32) := if t0 = 0 then (k16 M x0 t0) else (gd (ok nM shM x0 7) (Option.bind (f_X7_nextToken M x0) (fun r2 => k16 r2.1 x0 t0)))
def f_X7_takesAll_b16  : Nat → Mm → Nat → Int32 → Option (Mm × Int32)
  | 0, _, _, _ => none
  | nn + 1, M, x0, x1 => if x1 = 0 then (gd (ok nM shM x0 7) (if M.1 x0 11 = 0 then (some (M, (1 : Int32))) else (some (M, (0 : Int32))))) else (gd (ok nM shM x0 7) (Option.bind (f_X7_takesItem M x0) (fun r7 => if r7.2 = 0 then (some (r7.1, (0 : Int32))) else (lt (sI r7.1 x0 15 ((r7.1.1 x0 15) + (1 : Int32))) (fun M10 => if M10.1 x0 11 = (3 : Int32) then (f_X7_takesAll_b52 (f_X7_takesAll_b16 nn) M10 x0 (1 : Int32)) else (f_X7_takesAll_b52 (f_X7_takesAll_b16 nn) M10 x0 (0 : Int32)))))))
def f_X7_takesAll (M : Mm) (o0 : Nat) : Option (Mm × Int32) := gd (ok nM shM o0 7) (lt (sI M o0 10 (0 : Int32)) (fun M13 => lt (sI M13 o0 15 (0 : Int32)) (fun M14 => Option.bind (f_X7_nextToken M14 o0) (fun r15 => f_X7_takesAll_b16 1000 r15.1 o0 (1 : Int32)))))
def rmX7_takesAll : Room := { frames := 12, cells := 0, slots := 0, locals := 488 }
theorem hdX7_takesAll : yX7_takesAll.cls ≠ "java/lang/invoke/MethodHandle" ∧ yX7_takesAll.cls ≠ "java/lang/invoke/VarHandle" ∧ (parseMethodDescriptor yX7_takesAll.desc).map (fun d => d.parameters.length) = some 0 := by decide +kernel
def f_X7_text (M : Mm) (o0 : Nat) : Option (Mm × Int32) := gd (ok nM shM o0 7) (Option.bind (M.2.2 o0 0) (fun q2 => Option.bind (M.2.2 o0 2) (fun q3 => Option.bind (f_X7_carry M q2 q3) (fun r4 => Option.bind (f_X7_takesAll r4.1 o0) (fun r5 => lt (sI r5.1 o0 9 (0 : Int32)) (fun M6 => if r5.2 = 0 then (Option.bind (M6.2.2 o0 2) (fun q8 => Option.bind (M6.2.2 o0 0) (fun q9 => Option.bind (f_X7_carry M6 q8 q9) (fun r10 => some (r10.1, (-1 : Int32) - (r10.1.1 o0 12)))))) else (some (M6, M6.1 o0 15))))))))
def rmX7_text : Room := { frames := 13, cells := 0, slots := 0, locals := 509 }
theorem hdX7_text : yX7_text.cls ≠ "java/lang/invoke/MethodHandle" ∧ yX7_text.cls ≠ "java/lang/invoke/VarHandle" ∧ (parseMethodDescriptor yX7_text.desc).map (fun d => d.parameters.length) = some 0 := by decide +kernel
def f_X7_next (M : Mm) (o0 : Nat) (a1 : Int32) : Option (Mm × Int32) := Option.bind (f_X7_in M a1 (0 : Int32) (4 : Int32)) (fun r1 => if r1.2 = 0 then (gd (ok nM shM o0 7) (Option.bind (f_X7_finding r1.1 o0 (0 : Int32)) (fun r23 => some (r23.1, r23.2)))) else (gd (ok nM shM o0 7) (Option.bind (f_X7_isOver r1.1 o0) (fun r3 => if r3.2 = 0 then (Option.bind (r3.1.2.2 o0 0) (fun q6 => gd (okA nM shM q6 8 (2 : Int32)) (Option.bind (f_X7_of r3.1 o0 (r3.1.1 q6 (2 : Int32).toNatClampNeg) (0 : Int32)) (fun r8 => Option.bind (f_X7_effort r8.1 o0 r8.2 (r3.1.1 q6 (2 : Int32).toNatClampNeg)) (fun r9 => Option.bind (f_X7_of r9.1 o0 (r3.1.1 q6 (2 : Int32).toNatClampNeg) (1 : Int32)) (fun r10 => Option.bind (f_X7_effort r10.1 o0 r10.2 (r3.1.1 q6 (2 : Int32).toNatClampNeg)) (fun r11 => if a1 = 0 then (some (r11.1, r9.2)) else (if a1 = 1 then (some (r11.1, r11.2)) else (if a1 = 2 then (Option.bind (f_X7_chance r11.1 o0 (r3.1.1 q6 (2 : Int32).toNatClampNeg) r9.2 r11.2) (fun r15 => some (r15.1, r15.2))) else (if a1 = 3 then (Option.bind (f_X7_of r11.1 o0 (r3.1.1 q6 (2 : Int32).toNatClampNeg) (0 : Int32)) (fun r17 => Option.bind (f_X7_force r17.1 o0 r17.2 r9.2) (fun r18 => some (r18.1, r18.2)))) else (Option.bind (f_X7_of r11.1 o0 (r3.1.1 q6 (2 : Int32).toNatClampNeg) (1 : Int32)) (fun r19 => Option.bind (f_X7_force r19.1 o0 r19.2 r11.2) (fun r20 => some (r20.1, r20.2)))))))))))))) else (Option.bind (f_X7_finding r3.1 o0 (3 : Int32)) (fun r22 => some (r22.1, r22.2)))))))
def rmX7_next : Room := { frames := 6, cells := 0, slots := 0, locals := 174 }
theorem hdX7_next : yX7_next.cls ≠ "java/lang/invoke/MethodHandle" ∧ yX7_next.cls ≠ "java/lang/invoke/VarHandle" ∧ (parseMethodDescriptor yX7_next.desc).map (fun d => d.parameters.length) = some 1 := by decide +kernel
def f_X7_win_b35  (M : Mm) (x0 : Nat) : Option (Mm × Int32) := gd (ok nM shM x0 7) (Option.bind (f_X7_finding M x0 (0 : Int32)) (fun r1 => some (r1.1, r1.2)))
def f_X7_win (M : Mm) (o0 : Nat) (a1 : Int32) : Option (Mm × Int32) := gd (ok nM shM o0 7) (Option.bind (f_X7_isOver M o0) (fun r3 => if r3.2 = 0 then (Option.bind (f_X7_isSide r3.1 o0 a1) (fun r6 => if r6.2 = 0 then (f_X7_win_b35 r6.1 o0) else (Option.bind (r6.1.2.2 o0 0) (fun q8 => gd (okA nM shM q8 8 (2 : Int32)) (Option.bind (f_X7_plays r6.1 o0 a1 (r6.1.1 q8 (2 : Int32).toNatClampNeg)) (fun r10 => if r10.2 = 0 then (f_X7_win_b35 r10.1 o0) else (Option.bind (f_X7_winsNow r10.1 o0 a1) (fun r12 => Option.bind (r12.1.2.2 o0 0) (fun q13 => gd (okA nM shM q13 8 (2 : Int32)) (Option.bind (f_X7_of r12.1 o0 ((r12.1.1 q13 (2 : Int32).toNatClampNeg) - (1 : Int32)) (4 : Int32)) (fun r15 => some (r15.1, r15.2)))))))))))) else (Option.bind (f_X7_finding r3.1 o0 (3 : Int32)) (fun r16 => some (r16.1, r16.2)))))
def rmX7_win : Room := { frames := 7, cells := 0, slots := 0, locals := 198 }
theorem hdX7_win : yX7_win.cls ≠ "java/lang/invoke/MethodHandle" ∧ yX7_win.cls ≠ "java/lang/invoke/VarHandle" ∧ (parseMethodDescriptor yX7_win.desc).map (fun d => d.parameters.length) = some 1 := by decide +kernel
def f_X7_draw (M : Mm) (o0 : Nat) : Option (Mm × Int32) := gd (ok nM shM o0 7) (Option.bind (M.2.2 o0 0) (fun q2 => Option.bind (M.2.2 o0 0) (fun q3 => gd (okA nM shM q3 8 (4 : Int32)) (gd (okA nM shM q2 8 (4 : Int32)) (lt (sI M q2 (4 : Int32).toNatClampNeg (((M.1 q3 (4 : Int32).toNatClampNeg) * (1103515245 : Int32)) + (12345 : Int32))) (fun M6 => Option.bind (M6.2.2 o0 0) (fun q7 => gd (okA nM shM q7 8 (4 : Int32)) (some (M6, ((M6.1 q7 (4 : Int32).toNatClampNeg).toUInt32 >>> ((8 : Int32).toUInt32 &&& Int32.toUInt32 31)).toInt32)))))))))
def rmX7_draw : Room := { frames := 1, cells := 0, slots := 0, locals := 60 }
theorem hdX7_draw : yX7_draw.cls ≠ "java/lang/invoke/MethodHandle" ∧ yX7_draw.cls ≠ "java/lang/invoke/VarHandle" ∧ (parseMethodDescriptor yX7_draw.desc).map (fun d => d.parameters.length) = some 0 := by decide +kernel
def f_X7_drawsNext_b64  (M : Mm) (x2 : Int32) (x3 : Int32) (t0 : Nat) (t1 : Int32) : Option (Mm × Unit) := gd (ok nM shM t0 7) (Option.bind (f_X7_wins M t0 t1 x2 x3) (fun r1 => some (r1.1, ())))
def f_X7_drawsNext (M : Mm) (o0 : Nat) : Option (Mm × Unit) := gd (ok nM shM o0 7) (Option.bind (M.2.2 o0 0) (fun q4 => gd (okA nM shM q4 8 (2 : Int32)) (Option.bind (f_X7_of M o0 (M.1 q4 (2 : Int32).toNatClampNeg) (0 : Int32)) (fun r6 => Option.bind (f_X7_effort r6.1 o0 r6.2 (M.1 q4 (2 : Int32).toNatClampNeg)) (fun r7 => Option.bind (f_X7_of r7.1 o0 (M.1 q4 (2 : Int32).toNatClampNeg) (1 : Int32)) (fun r8 => Option.bind (f_X7_effort r8.1 o0 r8.2 (M.1 q4 (2 : Int32).toNatClampNeg)) (fun r9 => Option.bind (f_X7_draw r9.1 o0) (fun r10 => Option.bind (f_X7_chance r10.1 o0 (M.1 q4 (2 : Int32).toNatClampNeg) r7.2 r9.2) (fun r11 => if r11.2 ≤ r10.2 - r10.2 / (10 : Int32) * (10 : Int32) then (Option.bind (f_X7_of r11.1 o0 (M.1 q4 (2 : Int32).toNatClampNeg) (1 : Int32)) (fun r13 => f_X7_drawsNext_b64 r13.1 r7.2 r9.2 o0 r13.2)) else (Option.bind (f_X7_of r11.1 o0 (M.1 q4 (2 : Int32).toNatClampNeg) (0 : Int32)) (fun r14 => f_X7_drawsNext_b64 r14.1 r7.2 r9.2 o0 r14.2)))))))))))
def rmX7_drawsNext : Room := { frames := 6, cells := 0, slots := 0, locals := 176 }
theorem hdX7_drawsNext : yX7_drawsNext.cls ≠ "java/lang/invoke/MethodHandle" ∧ yX7_drawsNext.cls ≠ "java/lang/invoke/VarHandle" ∧ (parseMethodDescriptor yX7_drawsNext.desc).map (fun d => d.parameters.length) = some 0 := by decide +kernel
def f_X7_play (M : Mm) (o0 : Nat) : Option (Mm × Int32) := gd (ok nM shM o0 7) (Option.bind (f_X7_isOver M o0) (fun r1 => if r1.2 = 0 then (Option.bind (f_X7_drawsNext r1.1 o0) (fun r4 => Option.bind (r4.1.2.2 o0 0) (fun q5 => gd (okA nM shM q5 8 (2 : Int32)) (Option.bind (f_X7_of r4.1 o0 ((r4.1.1 q5 (2 : Int32).toNatClampNeg) - (1 : Int32)) (4 : Int32)) (fun r7 => some (r7.1, r7.2)))))) else (Option.bind (f_X7_finding r1.1 o0 (3 : Int32)) (fun r8 => some (r8.1, r8.2)))))
def rmX7_play : Room := { frames := 7, cells := 0, slots := 0, locals := 199 }
theorem hdX7_play : yX7_play.cls ≠ "java/lang/invoke/MethodHandle" ∧ yX7_play.cls ≠ "java/lang/invoke/VarHandle" ∧ (parseMethodDescriptor yX7_play.desc).map (fun d => d.parameters.length) = some 0 := by decide +kernel
def f_X7_anew (M : Mm) (o0 : Nat) : Option (Mm × Int32) := gd (ok nM shM o0 7) (Option.bind (M.2.2 o0 0) (fun q2 => gd (okA nM shM q2 8 (2 : Int32)) (Option.bind (M.2.2 o0 0) (fun q4 => gd (okA nM shM q4 8 (2 : Int32)) (lt (sI M q4 (2 : Int32).toNatClampNeg (0 : Int32)) (fun M6 => some (M6, M.1 q2 (2 : Int32).toNatClampNeg)))))))
def rmX7_anew : Room := { frames := 1, cells := 0, slots := 0, locals := 60 }
theorem hdX7_anew : yX7_anew.cls ≠ "java/lang/invoke/MethodHandle" ∧ yX7_anew.cls ≠ "java/lang/invoke/VarHandle" ∧ (parseMethodDescriptor yX7_anew.desc).map (fun d => d.parameters.length) = some 0 := by decide +kernel
def f_X7_leads (M : Mm) (o0 : Nat) : Option (Mm × Int32) := gd (ok nM shM o0 7) (Option.bind (M.2.2 o0 0) (fun q2 => gd (okA nM shM q2 8 (0 : Int32)) (if M.1 q2 (0 : Int32).toNatClampNeg = 0 then (Option.bind (f_X7_finding M o0 (3 : Int32)) (fun r6 => some (r6.1, r6.2))) else (Option.bind (f_X7_leader M o0) (fun r5 => some (r5.1, r5.2))))))
def rmX7_leads : Room := { frames := 4, cells := 0, slots := 0, locals := 127 }
theorem hdX7_leads : yX7_leads.cls ≠ "java/lang/invoke/MethodHandle" ∧ yX7_leads.cls ≠ "java/lang/invoke/VarHandle" ∧ (parseMethodDescriptor yX7_leads.desc).map (fun d => d.parameters.length) = some 0 := by decide +kernel
def f_X7_place_b47 (k18 : Mm → Nat → Int32 → Int32 → Int32 → Option (Mm × Int32)) (M : Mm) (x0 : Nat) (x1 : Int32) (x3 : Int32) (t0 : Int32) (t1 : Int32) : Option (Mm × Int32) := k18 M x0 x1 (t0 + t1) (x3 + (1 : Int32))
def f_X7_place_b18  : Nat → Mm → Nat → Int32 → Int32 → Int32 → Option (Mm × Int32)
  | 0, _, _, _, _, _ => none
  | nn + 1, M, x0, x1, x2, x3 => gd (ok nM shM x0 7) (Option.bind (M.2.2 x0 0) (fun q2 => gd (okA nM shM q2 8 (0 : Int32)) (if M.1 q2 (0 : Int32).toNatClampNeg ≤ x3 then (some (M, x2)) else (Option.bind (f_X7_points M x0 x3) (fun r5 => Option.bind (f_X7_points r5.1 x0 x1) (fun r6 => if r5.2 ≤ r6.2 then (f_X7_place_b47 (f_X7_place_b18 nn) r6.1 x0 x1 x3 x2 (0 : Int32)) else (f_X7_place_b47 (f_X7_place_b18 nn) r6.1 x0 x1 x3 x2 (1 : Int32))))))))
def f_X7_place (M : Mm) (o0 : Nat) (a1 : Int32) : Option (Mm × Int32) := gd (ok nM shM o0 7) (Option.bind (f_X7_isSide M o0 a1) (fun r8 => if r8.2 = 0 then (Option.bind (f_X7_finding r8.1 o0 (0 : Int32)) (fun r11 => some (r11.1, r11.2))) else (f_X7_place_b18 1000 r8.1 o0 a1 (1 : Int32) (0 : Int32))))
def rmX7_place : Room := { frames := 3, cells := 0, slots := 0, locals := 105 }
theorem hdX7_place : yX7_place.cls ≠ "java/lang/invoke/MethodHandle" ∧ yX7_place.cls ≠ "java/lang/invoke/VarHandle" ∧ (parseMethodDescriptor yX7_place.desc).map (fun d => d.parameters.length) = some 1 := by decide +kernel
def f_X7_ends_b169 (k89 : Mm → Nat → Int64 → Int32 → Option (Mm × Unit)) (M : Mm) (x0 : Nat) (x1 : Int64) (x3 : Int32) (t0 : Nat) (t1 : Int32) (t2 : Int64) (t3 : Int64) : Option (Mm × Unit) := gd (okA nM shM t0 9 t1) (lt (sL M t0 t1.toNatClampNeg (t2 + t3)) (fun M2 => k89 M2 x0 x1 (x3 + (1 : Int32))))
def f_X7_ends_b147 (k89 : Mm → Nat → Int64 → Int32 → Option (Mm × Unit)) (M : Mm) (x0 : Nat) (x1 : Int64) (x3 : Int32) (x4 : Int32) (t0 : Nat) (t1 : Int32) (t2 : Int32) : Option (Mm × Unit) := gd (okA nM shM t0 8 t1) (lt (sI M t0 t1.toNatClampNeg t2) (fun M4 => gd (ok nM shM x0 7) (Option.bind (M4.2.2 x0 22) (fun q6 => gd (okA nM shM q6 9 x3) (if x4 < M4.1 x0 21 then (f_X7_ends_b169 k89 M4 x0 x1 x3 q6 x3 (M4.2.1 q6 x3.toNatClampNeg) (0 : Int64)) else (f_X7_ends_b169 k89 M4 x0 x1 x3 q6 x3 (M4.2.1 q6 x3.toNatClampNeg) x1))))))
def f_X7_ends_b89  : Nat → Mm → Nat → Int64 → Int32 → Option (Mm × Unit)
  | 0, _, _, _, _ => none
  | nn + 1, M, x0, x1, x3 => gd (ok nM shM x0 7) (Option.bind (M.2.2 x0 0) (fun q10 => gd (okA nM shM q10 8 (0 : Int32)) (if M.1 q10 (0 : Int32).toNatClampNeg ≤ x3 then (Option.bind (M.2.2 x0 18) (fun q13 => Option.bind (f_X7_leader M x0) (fun r14 => gd (okA nM shM q13 9 r14.2) (gd (okA nM shM q13 9 r14.2) (lt (sL r14.1 q13 r14.2.toNatClampNeg ((r14.1.2.1 q13 r14.2.toNatClampNeg) + x1)) (fun M17 => some (M17, ()))))))) else (Option.bind (f_X7_points M x0 x3) (fun r18 => Option.bind (r18.1.2.2 x0 19) (fun q19 => gd (okA nM shM q19 9 x3) (gd (okA nM shM q19 9 x3) (lt (sL r18.1 q19 x3.toNatClampNeg ((r18.1.2.1 q19 x3.toNatClampNeg) + (r18.2.toInt64 * x1))) (fun M22 => Option.bind (M22.2.2 x0 20) (fun q23 => Option.bind (M22.2.2 x0 20) (fun q24 => gd (okA nM shM q24 8 x3) (if r18.2 ≤ M22.1 q24 x3.toNatClampNeg then (Option.bind (M22.2.2 x0 20) (fun q27 => gd (okA nM shM q27 8 x3) (f_X7_ends_b147 (f_X7_ends_b89 nn) M22 x0 x1 x3 r18.2 q23 x3 (M22.1 q27 x3.toNatClampNeg)))) else (f_X7_ends_b147 (f_X7_ends_b89 nn) M22 x0 x1 x3 r18.2 q23 x3 r18.2)))))))))))))
def f_X7_ends_b79 (k22 : Mm → Nat → Int64 → Int32 → Option (Mm × Unit)) (M : Mm) (x0 : Nat) (x1 : Int64) (x3 : Int32) (t0 : Nat) (t1 : Int32) (t2 : Int64) (t3 : Int64) : Option (Mm × Unit) := gd (okA nM shM t0 9 t1) (lt (sL M t0 t1.toNatClampNeg (t2 + t3)) (fun M30 => k22 M30 x0 x1 (x3 + (1 : Int32))))
def f_X7_ends_b22  : Nat → Mm → Nat → Int64 → Int32 → Option (Mm × Unit)
  | 0, _, _, _, _ => none
  | nn + 1, M, x0, x1, x3 => gd (ok nM shM x0 7) (Option.bind (M.2.2 x0 0) (fun q32 => gd (okA nM shM q32 8 (1 : Int32)) (if M.1 q32 (1 : Int32).toNatClampNeg ≤ x3 then (f_X7_ends_b89 1000 M x0 x1 (0 : Int32)) else (Option.bind (M.2.2 x0 16) (fun q35 => Option.bind (f_X7_of M x0 x3 (4 : Int32)) (fun r36 => gd (okA nM shM q35 9 (((6 : Int32) * x3) + r36.2)) (gd (okA nM shM q35 9 (((6 : Int32) * x3) + r36.2)) (lt (sL r36.1 q35 (((6 : Int32) * x3) + r36.2).toNatClampNeg ((r36.1.2.1 q35 (((6 : Int32) * x3) + r36.2).toNatClampNeg) + x1)) (fun M39 => Option.bind (M39.2.2 x0 17) (fun q40 => gd (okA nM shM q40 9 x3) (Option.bind (f_X7_of M39 x0 x3 (4 : Int32)) (fun r42 => Option.bind (f_X7_of r42.1 x0 x3 (3 : Int32)) (fun r43 => if r42.2 = r43.2 then (f_X7_ends_b79 (f_X7_ends_b22 nn) r43.1 x0 x1 x3 q40 x3 (M39.2.1 q40 x3.toNatClampNeg) (0 : Int64)) else (f_X7_ends_b79 (f_X7_ends_b22 nn) r43.1 x0 x1 x3 q40 x3 (M39.2.1 q40 x3.toNatClampNeg) x1))))))))))))))
def f_X7_ends_b16  (M : Mm) (x0 : Nat) (x1 : Int64) (t0 : Nat) (t1 : Int32) (t2 : Int32) : Option (Mm × Unit) := gd (ok nM shM t0 7) (lt (sI M t0 23 (t1 + t2)) (fun M46 => f_X7_ends_b22 1000 M46 x0 x1 (0 : Int32)))
def f_X7_ends (M : Mm) (o0 : Nat) (a1 : Int64) : Option (Mm × Unit) := gd (ok nM shM o0 7) (if lg_cmp a1 (0 : Int64) ≤ 0 then (f_X7_ends_b16 M o0 a1 o0 (M.1 o0 23) (0 : Int32)) else (f_X7_ends_b16 M o0 a1 o0 (M.1 o0 23) (1 : Int32)))
def rmX7_ends : Room := { frames := 4, cells := 0, slots := 0, locals := 127 }
theorem hdX7_ends : yX7_ends.cls ≠ "java/lang/invoke/MethodHandle" ∧ yX7_ends.cls ≠ "java/lang/invoke/VarHandle" ∧ (parseMethodDescriptor yX7_ends.desc).map (fun d => d.parameters.length) = some 1 := by decide +kernel
def f_X7_goesOn : Nat → Mm → Nat → Int64 → Option (Mm × Unit)
  | 0, _, _, _ => none
  | nd + 1, M, o0, a1 => gd (ok nM shM o0 7) (Option.bind (f_X7_isOver M o0) (fun r1 => if r1.2 = 0 then (Option.bind (r1.1.2.2 o0 0) (fun q4 => gd (okA nM shM q4 8 (2 : Int32)) (Option.bind (f_X7_of r1.1 o0 (r1.1.1 q4 (2 : Int32).toNatClampNeg) (0 : Int32)) (fun r6 => Option.bind (f_X7_effort r6.1 o0 r6.2 (r1.1.1 q4 (2 : Int32).toNatClampNeg)) (fun r7 => Option.bind (f_X7_of r7.1 o0 (r1.1.1 q4 (2 : Int32).toNatClampNeg) (1 : Int32)) (fun r8 => Option.bind (f_X7_effort r8.1 o0 r8.2 (r1.1.1 q4 (2 : Int32).toNatClampNeg)) (fun r9 => Option.bind (f_X7_chance r9.1 o0 (r1.1.1 q4 (2 : Int32).toNatClampNeg) r7.2 r9.2) (fun r10 => Option.bind (f_X7_of r10.1 o0 (r1.1.1 q4 (2 : Int32).toNatClampNeg) (0 : Int32)) (fun r11 => Option.bind (f_X7_wins r11.1 o0 r11.2 r7.2 r9.2) (fun r12 => Option.bind ((f_X7_goesOn nd) r12.1 o0 (a1 * r10.2.toInt64)) (fun r13 => Option.bind (r13.1.2.2 o0 0) (fun q14 => gd (okA nM shM q14 8 (2 : Int32)) (gd (okA nM shM q14 8 (2 : Int32)) (lt (sI r13.1 q14 (2 : Int32).toNatClampNeg ((r13.1.1 q14 (2 : Int32).toNatClampNeg) - (1 : Int32))) (fun M17 => Option.bind (f_X7_of M17 o0 (r1.1.1 q4 (2 : Int32).toNatClampNeg) (1 : Int32)) (fun r18 => Option.bind (f_X7_wins r18.1 o0 r18.2 r7.2 r9.2) (fun r19 => Option.bind ((f_X7_goesOn nd) r19.1 o0 (a1 * (((10 : Int32) - r10.2).toInt64))) (fun r20 => Option.bind (r20.1.2.2 o0 0) (fun q21 => gd (okA nM shM q21 8 (2 : Int32)) (gd (okA nM shM q21 8 (2 : Int32)) (lt (sI r20.1 q21 (2 : Int32).toNatClampNeg ((r20.1.1 q21 (2 : Int32).toNatClampNeg) - (1 : Int32))) (fun M24 => some (M24, ()))))))))))))))))))))))) else (Option.bind (f_X7_ends r1.1 o0 a1) (fun r25 => some (r25.1, ())))))
def rmX7_goesOn (nd : Nat) : Room := { frames := 6 + nd, cells := 0, slots := 0, locals := 176 + nd * 26 }
theorem hdX7_goesOn : yX7_goesOn.cls ≠ "java/lang/invoke/MethodHandle" ∧ yX7_goesOn.cls ≠ "java/lang/invoke/VarHandle" ∧ (parseMethodDescriptor yX7_goesOn.desc).map (fun d => d.parameters.length) = some 1 := by decide +kernel
def f_X7_findWays_b103  : Nat → Mm → Nat → Int64 → Int32 → Option (Mm × Int64)
  | 0, _, _, _, _ => none
  | nn + 1, M, x0, x1, x3 => gd (ok nM shM x0 7) (Option.bind (M.2.2 x0 0) (fun q2 => gd (okA nM shM q2 8 (1 : Int32)) (if M.1 q2 (1 : Int32).toNatClampNeg ≤ x3 then (some (M, x1)) else ((f_X7_findWays_b103 nn) M x0 (x1 * (10 : Int64)) (x3 + (1 : Int32))))))
def f_X7_findWays_b44  : Nat → Mm → Nat → Int32 → Option (Mm × Int64)
  | 0, _, _, _ => none
  | nn + 1, M, x0, x1 => if (6 : Int32) ≤ x1 then (gd (ok nM shM x0 7) (lt (sI M x0 23 (0 : Int32)) (fun M7 => Option.bind (f_X7_goesOn 10 M7 x0 (1 : Int64)) (fun r8 => Option.bind (r8.1.2.2 x0 0) (fun q9 => gd (okA nM shM q9 8 (2 : Int32)) (f_X7_findWays_b103 1000 r8.1 x0 (1 : Int64) (r8.1.1 q9 (2 : Int32).toNatClampNeg))))))) else (gd (ok nM shM x0 7) (Option.bind (M.2.2 x0 18) (fun q12 => gd (okA nM shM q12 9 x1) (lt (sL M q12 x1.toNatClampNeg (0 : Int64)) (fun M14 => Option.bind (M14.2.2 x0 19) (fun q15 => gd (okA nM shM q15 9 x1) (lt (sL M14 q15 x1.toNatClampNeg (0 : Int64)) (fun M17 => Option.bind (M17.2.2 x0 20) (fun q18 => gd (okA nM shM q18 8 x1) (lt (sI M17 q18 x1.toNatClampNeg (0 : Int32)) (fun M20 => Option.bind (M20.2.2 x0 22) (fun q21 => gd (okA nM shM q21 9 x1) (lt (sL M20 q21 x1.toNatClampNeg (0 : Int64)) (fun M23 => (f_X7_findWays_b44 nn) M23 x0 (x1 + (1 : Int32))))))))))))))))
def f_X7_findWays_b23  : Nat → Mm → Nat → Int32 → Option (Mm × Int64)
  | 0, _, _, _ => none
  | nn + 1, M, x0, x1 => if (8 : Int32) ≤ x1 then (f_X7_findWays_b44 1000 M x0 (0 : Int32)) else (gd (ok nM shM x0 7) (Option.bind (M.2.2 x0 17) (fun q26 => gd (okA nM shM q26 9 x1) (lt (sL M q26 x1.toNatClampNeg (0 : Int64)) (fun M28 => (f_X7_findWays_b23 nn) M28 x0 (x1 + (1 : Int32)))))))
def f_X7_findWays_b2  : Nat → Mm → Nat → Int32 → Option (Mm × Int64)
  | 0, _, _, _ => none
  | nn + 1, M, x0, x1 => if (48 : Int32) ≤ x1 then (f_X7_findWays_b23 1000 M x0 (0 : Int32)) else (gd (ok nM shM x0 7) (Option.bind (M.2.2 x0 16) (fun q31 => gd (okA nM shM q31 9 x1) (lt (sL M q31 x1.toNatClampNeg (0 : Int64)) (fun M33 => (f_X7_findWays_b2 nn) M33 x0 (x1 + (1 : Int32)))))))
def f_X7_findWays (M : Mm) (o0 : Nat) : Option (Mm × Int64) := f_X7_findWays_b2 1000 M o0 (0 : Int32)
def rmX7_findWays : Room := { frames := 17, cells := 0, slots := 0, locals := 462 }
theorem hdX7_findWays : yX7_findWays.cls ≠ "java/lang/invoke/MethodHandle" ∧ yX7_findWays.cls ≠ "java/lang/invoke/VarHandle" ∧ (parseMethodDescriptor yX7_findWays.desc).map (fun d => d.parameters.length) = some 0 := by decide +kernel
def f_X7_told_b6  : Nat → Mm → Int64 → Int64 → Int32 → Int64 → Int64 → Option (Mm × Int64)
  | 0, _, _, _, _, _, _ => none
  | nn + 1, M, x0, x2, x4, x5, x7 => if lg_cmp x7 (0 : Int64) = 0 then (if x4 = 0 then (gd (¬ x5 = 0) (some (M, x0 / x5))) else (gd (¬ x5 = 0) (some (M, x2 / x5)))) else (gd (¬ x7 = 0) ((f_X7_told_b6 nn) M x0 x2 x4 x7 (x5 - x5 / x7 * x7)))
def f_X7_told (M : Mm) (a0 : Int64) (a2 : Int64) (a4 : Int32) : Option (Mm × Int64) := f_X7_told_b6 1000 M a0 a2 a4 a0 a2
def rmX7_told : Room := { frames := 1, cells := 0, slots := 0, locals := 60 }
theorem hdX7_told : yX7_told.cls ≠ "java/lang/invoke/MethodHandle" ∧ yX7_told.cls ≠ "java/lang/invoke/VarHandle" ∧ (parseMethodDescriptor yX7_told.desc).map (fun d => d.parameters.length) = some 3 := by decide +kernel
def f_X7_isPart (M : Mm) (a0 : Int32) : Option (Mm × Int32) := Option.bind (f_X7_in M a0 (0 : Int32) (1 : Int32)) (fun r1 => gd (bz r1.2) (some (r1.1, r1.2)))
def rmX7_isPart : Room := { frames := 2, cells := 0, slots := 0, locals := 82 }
theorem hdX7_isPart : yX7_isPart.cls ≠ "java/lang/invoke/MethodHandle" ∧ yX7_isPart.cls ≠ "java/lang/invoke/VarHandle" ∧ (parseMethodDescriptor yX7_isPart.desc).map (fun d => d.parameters.length) = some 1 := by decide +kernel
def f_X7_gets_b23  (M : Mm) (x0 : Nat) : Option (Mm × Int64) := gd (ok nM shM x0 7) (Option.bind (f_X7_finding M x0 (0 : Int32)) (fun r1 => some (r1.1, r1.2.toInt64)))
def f_X7_gets (M : Mm) (o0 : Nat) (a1 : Int32) (a2 : Int32) (a3 : Int32) : Option (Mm × Int64) := gd (ok nM shM o0 7) (Option.bind (f_X7_isGame M o0 a1) (fun r3 => if r3.2 = 0 then (f_X7_gets_b23 r3.1 o0) else (Option.bind (f_X7_isSide r3.1 o0 a2) (fun r6 => if r6.2 = 0 then (f_X7_gets_b23 r6.1 o0) else (Option.bind (f_X7_isPart r6.1 a3) (fun r8 => if r8.2 = 0 then (f_X7_gets_b23 r8.1 o0) else (Option.bind (f_X7_findWays r8.1 o0) (fun r10 => Option.bind (r10.1.2.2 o0 16) (fun q11 => gd (okA nM shM q11 9 (((6 : Int32) * a1) + a2)) (Option.bind (f_X7_told r10.1 (r10.1.2.1 q11 (((6 : Int32) * a1) + a2).toNatClampNeg) r10.2 a3) (fun r13 => some (r13.1, r13.2))))))))))))
def rmX7_gets : Room := { frames := 18, cells := 0, slots := 0, locals := 485 }
theorem hdX7_gets : yX7_gets.cls ≠ "java/lang/invoke/MethodHandle" ∧ yX7_gets.cls ≠ "java/lang/invoke/VarHandle" ∧ (parseMethodDescriptor yX7_gets.desc).map (fun d => d.parameters.length) = some 3 := by decide +kernel
def f_X7_first_b15  (M : Mm) (x0 : Nat) : Option (Mm × Int64) := gd (ok nM shM x0 7) (Option.bind (f_X7_finding M x0 (0 : Int32)) (fun r1 => some (r1.1, r1.2.toInt64)))
def f_X7_first (M : Mm) (o0 : Nat) (a1 : Int32) (a2 : Int32) : Option (Mm × Int64) := gd (ok nM shM o0 7) (Option.bind (f_X7_isSide M o0 a1) (fun r3 => if r3.2 = 0 then (f_X7_first_b15 r3.1 o0) else (Option.bind (f_X7_isPart r3.1 a2) (fun r6 => if r6.2 = 0 then (f_X7_first_b15 r6.1 o0) else (Option.bind (f_X7_findWays r6.1 o0) (fun r8 => Option.bind (r8.1.2.2 o0 18) (fun q9 => gd (okA nM shM q9 9 a1) (Option.bind (f_X7_told r8.1 (r8.1.2.1 q9 a1.toNatClampNeg) r8.2 a2) (fun r11 => some (r11.1, r11.2))))))))))
def rmX7_first : Room := { frames := 18, cells := 0, slots := 0, locals := 485 }
theorem hdX7_first : yX7_first.cls ≠ "java/lang/invoke/MethodHandle" ∧ yX7_first.cls ≠ "java/lang/invoke/VarHandle" ∧ (parseMethodDescriptor yX7_first.desc).map (fun d => d.parameters.length) = some 2 := by decide +kernel
def f_X7_mean_b15  (M : Mm) (x0 : Nat) : Option (Mm × Int64) := gd (ok nM shM x0 7) (Option.bind (f_X7_finding M x0 (0 : Int32)) (fun r1 => some (r1.1, r1.2.toInt64)))
def f_X7_mean (M : Mm) (o0 : Nat) (a1 : Int32) (a2 : Int32) : Option (Mm × Int64) := gd (ok nM shM o0 7) (Option.bind (f_X7_isSide M o0 a1) (fun r3 => if r3.2 = 0 then (f_X7_mean_b15 r3.1 o0) else (Option.bind (f_X7_isPart r3.1 a2) (fun r6 => if r6.2 = 0 then (f_X7_mean_b15 r6.1 o0) else (Option.bind (f_X7_findWays r6.1 o0) (fun r8 => Option.bind (r8.1.2.2 o0 19) (fun q9 => gd (okA nM shM q9 9 a1) (Option.bind (f_X7_told r8.1 (r8.1.2.1 q9 a1.toNatClampNeg) r8.2 a2) (fun r11 => some (r11.1, r11.2))))))))))
def rmX7_mean : Room := { frames := 18, cells := 0, slots := 0, locals := 485 }
theorem hdX7_mean : yX7_mean.cls ≠ "java/lang/invoke/MethodHandle" ∧ yX7_mean.cls ≠ "java/lang/invoke/VarHandle" ∧ (parseMethodDescriptor yX7_mean.desc).map (fun d => d.parameters.length) = some 2 := by decide +kernel
def f_X7_least_b25  (M : Mm) (x0 : Nat) : Option (Mm × Int64) := gd (ok nM shM x0 7) (Option.bind (f_X7_finding M x0 (0 : Int32)) (fun r1 => some (r1.1, r1.2.toInt64)))
def f_X7_least (M : Mm) (o0 : Nat) (a1 : Int32) (a2 : Int32) (a3 : Int32) : Option (Mm × Int64) := gd (ok nM shM o0 7) (Option.bind (f_X7_isSide M o0 a1) (fun r3 => if r3.2 = 0 then (f_X7_least_b25 r3.1 o0) else (Option.bind (f_X7_in r3.1 a2 (0 : Int32) (99 : Int32)) (fun r6 => if r6.2 = 0 then (f_X7_least_b25 r6.1 o0) else (Option.bind (f_X7_isPart r6.1 a3) (fun r8 => if r8.2 = 0 then (f_X7_least_b25 r8.1 o0) else (lt (sI r8.1 o0 21 a2) (fun M10 => Option.bind (f_X7_findWays M10 o0) (fun r11 => Option.bind (r11.1.2.2 o0 22) (fun q12 => gd (okA nM shM q12 9 a1) (Option.bind (f_X7_told r11.1 (r11.1.2.1 q12 a1.toNatClampNeg) r11.2 a3) (fun r14 => some (r14.1, r14.2)))))))))))))
def rmX7_least : Room := { frames := 18, cells := 0, slots := 0, locals := 485 }
theorem hdX7_least : yX7_least.cls ≠ "java/lang/invoke/MethodHandle" ∧ yX7_least.cls ≠ "java/lang/invoke/VarHandle" ∧ (parseMethodDescriptor yX7_least.desc).map (fun d => d.parameters.length) = some 3 := by decide +kernel
def f_X7_most (M : Mm) (o0 : Nat) (a1 : Int32) : Option (Mm × Int32) := gd (ok nM shM o0 7) (Option.bind (f_X7_isSide M o0 a1) (fun r1 => if r1.2 = 0 then (Option.bind (f_X7_finding r1.1 o0 (0 : Int32)) (fun r7 => some (r7.1, r7.2))) else (Option.bind (f_X7_findWays r1.1 o0) (fun r4 => Option.bind (r4.1.2.2 o0 20) (fun q5 => gd (okA nM shM q5 8 a1) (some (r4.1, r4.1.1 q5 a1.toNatClampNeg)))))))
def rmX7_most : Room := { frames := 18, cells := 0, slots := 0, locals := 485 }
theorem hdX7_most : yX7_most.cls ≠ "java/lang/invoke/MethodHandle" ∧ yX7_most.cls ≠ "java/lang/invoke/VarHandle" ∧ (parseMethodDescriptor yX7_most.desc).map (fun d => d.parameters.length) = some 1 := by decide +kernel
def f_X7_ways (M : Mm) (o0 : Nat) : Option (Mm × Int32) := gd (ok nM shM o0 7) (Option.bind (f_X7_findWays M o0) (fun r1 => some (r1.1, r1.1.1 o0 23)))
def rmX7_ways : Room := { frames := 18, cells := 0, slots := 0, locals := 485 }
theorem hdX7_ways : yX7_ways.cls ≠ "java/lang/invoke/MethodHandle" ∧ yX7_ways.cls ≠ "java/lang/invoke/VarHandle" ∧ (parseMethodDescriptor yX7_ways.desc).map (fun d => d.parameters.length) = some 0 := by decide +kernel
def f_X7_moved_b15  (M : Mm) (x0 : Nat) : Option (Mm × Int64) := gd (ok nM shM x0 7) (Option.bind (f_X7_finding M x0 (0 : Int32)) (fun r1 => some (r1.1, r1.2.toInt64)))
def f_X7_moved (M : Mm) (o0 : Nat) (a1 : Int32) (a2 : Int32) : Option (Mm × Int64) := gd (ok nM shM o0 7) (Option.bind (f_X7_isGame M o0 a1) (fun r3 => if r3.2 = 0 then (f_X7_moved_b15 r3.1 o0) else (Option.bind (f_X7_isPart r3.1 a2) (fun r6 => if r6.2 = 0 then (f_X7_moved_b15 r6.1 o0) else (Option.bind (f_X7_findWays r6.1 o0) (fun r8 => Option.bind (r8.1.2.2 o0 17) (fun q9 => gd (okA nM shM q9 9 a1) (Option.bind (f_X7_told r8.1 (r8.1.2.1 q9 a1.toNatClampNeg) r8.2 a2) (fun r11 => some (r11.1, r11.2))))))))))
def rmX7_moved : Room := { frames := 18, cells := 0, slots := 0, locals := 485 }
theorem hdX7_moved : yX7_moved.cls ≠ "java/lang/invoke/MethodHandle" ∧ yX7_moved.cls ≠ "java/lang/invoke/VarHandle" ∧ (parseMethodDescriptor yX7_moved.desc).map (fun d => d.parameters.length) = some 2 := by decide +kernel
def f_X7_meanOf (M : Mm) (o0 : Nat) (a1 : Int32) : Option (Mm × Int64) := gd (ok nM shM o0 7) (Option.bind (f_X7_findWays M o0) (fun r1 => Option.bind (r1.1.2.2 o0 19) (fun q3 => gd (okA nM shM q3 9 a1) (some (r1.1, r1.1.2.1 q3 a1.toNatClampNeg)))))
def rmX7_meanOf : Room := { frames := 18, cells := 0, slots := 0, locals := 485 }
theorem hdX7_meanOf : yX7_meanOf.cls ≠ "java/lang/invoke/MethodHandle" ∧ yX7_meanOf.cls ≠ "java/lang/invoke/VarHandle" ∧ (parseMethodDescriptor yX7_meanOf.desc).map (fun d => d.parameters.length) = some 1 := by decide +kernel
def f_X7_best_b105 (k69 : Mm → Nat → Int32 → Int32 → Int64 → Int32 → Option (Mm × Int32)) (M : Mm) (x0 : Nat) (x1 : Int32) (x2 : Int32) (x3 : Int64) (x5 : Int32) : Option (Mm × Int32) := k69 M x0 x1 x2 x3 (x5 + (1 : Int32))
def f_X7_best_b99 (k69 : Mm → Nat → Int32 → Int32 → Int64 → Int32 → Option (Mm × Int32)) (M : Mm) (x0 : Nat) (x1 : Int32) (x5 : Int32) (x6 : Int64) : Option (Mm × Int32) := f_X7_best_b105 k69 M x0 x1 x5 x6 x5
def f_X7_best_b69  : Nat → Mm → Nat → Int32 → Int32 → Int64 → Int32 → Option (Mm × Int32)
  | 0, _, _, _, _, _, _ => none
  | nn + 1, M, x0, x1, x2, x3, x5 => if (3 : Int32) < x5 then (gd (ok nM shM x0 7) (lt (sI M x0 5 (-1 : Int32)) (fun M3 => some (M3, x2)))) else (gd (ok nM shM x0 7) (lt (sI M x0 7 x5) (fun M5 => Option.bind (f_X7_meanOf M5 x0 x1) (fun r6 => if x2 < 0 then (f_X7_best_b99 (f_X7_best_b69 nn) r6.1 x0 x1 x5 r6.2) else (if lg_cmp r6.2 x3 ≤ 0 then (f_X7_best_b105 (f_X7_best_b69 nn) r6.1 x0 x1 x2 x3 x5) else (f_X7_best_b99 (f_X7_best_b69 nn) r6.1 x0 x1 x5 r6.2))))))
def f_X7_best (M : Mm) (o0 : Nat) (a1 : Int32) : Option (Mm × Int32) := gd (ok nM shM o0 7) (Option.bind (f_X7_isSide M o0 a1) (fun r9 => if r9.2 = 0 then (Option.bind (f_X7_finding r9.1 o0 (0 : Int32)) (fun r24 => some (r24.1, r24.2))) else (Option.bind (f_X7_isOver r9.1 o0) (fun r12 => if r12.2 = 0 then (Option.bind (r12.1.2.2 o0 0) (fun q14 => gd (okA nM shM q14 8 (2 : Int32)) (Option.bind (f_X7_plays r12.1 o0 a1 (r12.1.1 q14 (2 : Int32).toNatClampNeg)) (fun r16 => if r16.2 = 0 then (Option.bind (f_X7_finding r16.1 o0 (4 : Int32)) (fun r22 => some (r22.1, r22.2))) else (Option.bind (r16.1.2.2 o0 0) (fun q18 => gd (okA nM shM q18 8 (2 : Int32)) (lt (sI r16.1 o0 5 (r16.1.1 q18 (2 : Int32).toNatClampNeg)) (fun M20 => lt (sI M20 o0 6 a1) (fun M21 => f_X7_best_b69 1000 M21 o0 a1 (-1 : Int32) (0 : Int64) (0 : Int32)))))))))) else (Option.bind (f_X7_finding r12.1 o0 (3 : Int32)) (fun r23 => some (r23.1, r23.2)))))))
def rmX7_best : Room := { frames := 19, cells := 0, slots := 0, locals := 508 }
theorem hdX7_best : yX7_best.cls ≠ "java/lang/invoke/MethodHandle" ∧ yX7_best.cls ≠ "java/lang/invoke/VarHandle" ∧ (parseMethodDescriptor yX7_best.desc).map (fun d => d.parameters.length) = some 1 := by decide +kernel
def f_X7_bestLaid_b60 (k17 : Mm → Nat → Int32 → Int32 → Int32 → Int32 → Int32 → Int64 → Int32 → Option (Mm × Int32)) (M : Mm) (x0 : Nat) (x1 : Int32) (x3 : Int32) (x4 : Int32) (x5 : Int32) (x6 : Int32) (x7 : Int64) (x9 : Int32) : Option (Mm × Int32) := k17 M x0 x1 x3 x4 x5 x6 x7 (x9 + (1 : Int32))
def f_X7_bestLaid_b52 (k17 : Mm → Nat → Int32 → Int32 → Int32 → Int32 → Int32 → Int64 → Int32 → Option (Mm × Int32)) (M : Mm) (x0 : Nat) (x1 : Int32) (x3 : Int32) (x4 : Int32) (x5 : Int32) (x9 : Int32) (x10 : Int64) : Option (Mm × Int32) := f_X7_bestLaid_b60 k17 M x0 x1 x3 x4 x5 x9 x10 x9
def f_X7_bestLaid_b17  : Nat → Mm → Nat → Int32 → Int32 → Int32 → Int32 → Int32 → Int64 → Int32 → Option (Mm × Int32)
  | 0, _, _, _, _, _, _, _, _, _ => none
  | nn + 1, M, x0, x1, x3, x4, x5, x6, x7, x9 => if x3 < x9 then (gd (ok nM shM x0 7) (Option.bind (M.2.2 x0 0) (fun q3 => gd (okA nM shM q3 8 x1) (lt (sI M q3 x1.toNatClampNeg x5) (fun M5 => some (M5, x6)))))) else (gd (ok nM shM x0 7) (Option.bind (M.2.2 x0 0) (fun q7 => gd (okA nM shM q7 8 x1) (lt (sI M q7 x1.toNatClampNeg x9) (fun M9 => Option.bind (f_X7_meanOf M9 x0 x4) (fun r10 => if x6 < 0 then (f_X7_bestLaid_b52 (f_X7_bestLaid_b17 nn) r10.1 x0 x1 x3 x4 x5 x9 r10.2) else (if lg_cmp r10.2 x7 ≤ 0 then (f_X7_bestLaid_b60 (f_X7_bestLaid_b17 nn) r10.1 x0 x1 x3 x4 x5 x6 x7 x9) else (f_X7_bestLaid_b52 (f_X7_bestLaid_b17 nn) r10.1 x0 x1 x3 x4 x5 x9 r10.2))))))))
def f_X7_bestLaid (M : Mm) (o0 : Nat) (a1 : Int32) (a2 : Int32) (a3 : Int32) (a4 : Int32) : Option (Mm × Int32) := gd (ok nM shM o0 7) (Option.bind (M.2.2 o0 0) (fun q14 => gd (okA nM shM q14 8 a1) (f_X7_bestLaid_b17 1000 M o0 a1 a3 a4 (M.1 q14 a1.toNatClampNeg) (-1 : Int32) (0 : Int64) a2)))
def rmX7_bestLaid : Room := { frames := 19, cells := 0, slots := 0, locals := 508 }
theorem hdX7_bestLaid : yX7_bestLaid.cls ≠ "java/lang/invoke/MethodHandle" ∧ yX7_bestLaid.cls ≠ "java/lang/invoke/VarHandle" ∧ (parseMethodDescriptor yX7_bestLaid.desc).map (fun d => d.parameters.length) = some 4 := by decide +kernel
def f_X7_kindFor (M : Mm) (o0 : Nat) (a1 : Int32) : Option (Mm × Int32) := gd (ok nM shM o0 7) (Option.bind (f_X7_isSide M o0 a1) (fun r1 => if r1.2 = 0 then (Option.bind (f_X7_finding r1.1 o0 (0 : Int32)) (fun r4 => some (r4.1, r4.2))) else (Option.bind (f_X7_bestLaid r1.1 o0 (((5 : Int32) + ((3 : Int32) * a1)) + (0 : Int32)) (0 : Int32) (6 : Int32) a1) (fun r5 => some (r5.1, r5.2)))))
def rmX7_kindFor : Room := { frames := 20, cells := 0, slots := 0, locals := 539 }
theorem hdX7_kindFor : yX7_kindFor.cls ≠ "java/lang/invoke/MethodHandle" ∧ yX7_kindFor.cls ≠ "java/lang/invoke/VarHandle" ∧ (parseMethodDescriptor yX7_kindFor.desc).map (fun d => d.parameters.length) = some 1 := by decide +kernel
def f_X7_tellsFor (M : Mm) (o0 : Nat) (a1 : Int32) : Option (Mm × Int32) := gd (ok nM shM o0 7) (Option.bind (f_X7_isSide M o0 a1) (fun r1 => if r1.2 = 0 then (Option.bind (f_X7_finding r1.1 o0 (0 : Int32)) (fun r4 => some (r4.1, r4.2))) else (Option.bind (f_X7_bestLaid r1.1 o0 (((5 : Int32) + ((3 : Int32) * a1)) + (2 : Int32)) (0 : Int32) (9 : Int32) a1) (fun r5 => some (r5.1, r5.2)))))
def rmX7_tellsFor : Room := { frames := 20, cells := 0, slots := 0, locals := 539 }
theorem hdX7_tellsFor : yX7_tellsFor.cls ≠ "java/lang/invoke/MethodHandle" ∧ yX7_tellsFor.cls ≠ "java/lang/invoke/VarHandle" ∧ (parseMethodDescriptor yX7_tellsFor.desc).map (fun d => d.parameters.length) = some 1 := by decide +kernel
def f_X7_nextRow_b100  : Nat → Mm → Nat → Int32 → Int32 → Option (Mm × Int32)
  | 0, _, _, _, _ => none
  | nn + 1, M, x0, x5, x6 => if x6 ≤ x5 then (some (M, (1 : Int32))) else (gd (ok nM shM x0 7) (Option.bind (M.2.2 x0 24) (fun q3 => gd (okA nM shM q3 8 x5) (Option.bind (M.2.2 x0 24) (fun q5 => Option.bind (M.2.2 x0 24) (fun q6 => gd (okA nM shM q6 8 x6) (gd (okA nM shM q5 8 x5) (lt (sI M q5 x5.toNatClampNeg (M.1 q6 x6.toNatClampNeg)) (fun M9 => Option.bind (M9.2.2 x0 24) (fun q10 => gd (okA nM shM q10 8 x6) (lt (sI M9 q10 x6.toNatClampNeg (M.1 q3 x5.toNatClampNeg)) (fun M12 => (f_X7_nextRow_b100 nn) M12 x0 (x5 + (1 : Int32)) (x6 + (-1 : Int32))))))))))))))
def f_X7_nextRow_b41  : Nat → Mm → Nat → Int32 → Int32 → Int32 → Option (Mm × Int32)
  | 0, _, _, _, _, _ => none
  | nn + 1, M, x0, x1, x2, x3 => gd (ok nM shM x0 7) (Option.bind (M.2.2 x0 24) (fun q14 => gd (okA nM shM q14 8 x3) (Option.bind (M.2.2 x0 24) (fun q16 => gd (okA nM shM q16 8 x2) (if M.1 q16 x2.toNatClampNeg ≤ M.1 q14 x3.toNatClampNeg then (Option.bind (M.2.2 x0 24) (fun q19 => gd (okA nM shM q19 8 x2) (Option.bind (M.2.2 x0 24) (fun q21 => Option.bind (M.2.2 x0 24) (fun q22 => gd (okA nM shM q22 8 x3) (gd (okA nM shM q21 8 x2) (lt (sI M q21 x2.toNatClampNeg (M.1 q22 x3.toNatClampNeg)) (fun M25 => Option.bind (M25.2.2 x0 24) (fun q26 => gd (okA nM shM q26 8 x3) (lt (sI M25 q26 x3.toNatClampNeg (M.1 q19 x2.toNatClampNeg)) (fun M28 => f_X7_nextRow_b100 1000 M28 x0 (x2 + (1 : Int32)) (x1 - (1 : Int32))))))))))))) else ((f_X7_nextRow_b41 nn) M x0 x1 x2 (x3 + (-1 : Int32))))))))
def f_X7_nextRow_b31  (M : Mm) (x0 : Nat) (x1 : Int32) (x2 : Int32) : Option (Mm × Int32) := if 0 ≤ x2 then (f_X7_nextRow_b41 1000 M x0 x1 x2 (x1 - (1 : Int32))) else (some (M, (0 : Int32)))
def f_X7_nextRow_b4  : Nat → Mm → Nat → Int32 → Int32 → Option (Mm × Int32)
  | 0, _, _, _, _ => none
  | nn + 1, M, x0, x1, x2 => if x2 < 0 then (f_X7_nextRow_b31 M x0 x1 x2) else (gd (ok nM shM x0 7) (Option.bind (M.2.2 x0 24) (fun q32 => gd (okA nM shM q32 8 x2) (Option.bind (M.2.2 x0 24) (fun q34 => gd (okA nM shM q34 8 (x2 + (1 : Int32))) (if M.1 q32 x2.toNatClampNeg ≤ M.1 q34 (x2 + (1 : Int32)).toNatClampNeg then (f_X7_nextRow_b31 M x0 x1 x2) else ((f_X7_nextRow_b4 nn) M x0 x1 (x2 + (-1 : Int32)))))))))
def f_X7_nextRow (M : Mm) (o0 : Nat) (a1 : Int32) : Option (Mm × Int32) := f_X7_nextRow_b4 1000 M o0 a1 (a1 - (2 : Int32))
def rmX7_nextRow : Room := { frames := 1, cells := 0, slots := 0, locals := 60 }
theorem hdX7_nextRow : yX7_nextRow.cls ≠ "java/lang/invoke/MethodHandle" ∧ yX7_nextRow.cls ≠ "java/lang/invoke/VarHandle" ∧ (parseMethodDescriptor yX7_nextRow.desc).map (fun d => d.parameters.length) = some 1 := by decide +kernel
def f_X7_order_b230 (k99 : Mm → Nat → Int32 → Int32 → Int32 → Int64 → Int32 → Option (Mm × Int32)) (M : Mm) (x0 : Nat) (x1 : Int32) (x2 : Int32) (x3 : Int32) (x4 : Int64) : Option (Mm × Int32) := gd (ok nM shM x0 7) (Option.bind (f_X7_nextRow M x0 x2) (fun r1 => k99 r1.1 x0 x1 x2 x3 x4 r1.2))
def f_X7_order_b219 (k99 : Mm → Nat → Int32 → Int32 → Int32 → Int64 → Int32 → Option (Mm × Int32)) (M : Mm) (x0 : Nat) (x1 : Int32) (x2 : Int32) (x7 : Int32) : Option (Mm × Int32) := gd (ok nM shM x0 7) (Option.bind (M.2.2 x0 18) (fun q4 => gd (okA nM shM q4 9 x1) (f_X7_order_b230 k99 M x0 x1 x2 x7 (M.2.1 q4 x1.toNatClampNeg))))
def f_X7_order_b134 (k110 : Mm → Nat → Int32 → Int32 → Int32 → Int64 → Int32 → Int32 → Option (Mm × Int32)) : Nat → Mm → Nat → Int32 → Int32 → Int32 → Int64 → Int32 → Int32 → Int32 → Option (Mm × Int32)
  | 0, _, _, _, _, _, _, _, _, _ => none
  | nn + 1, M, x0, x1, x2, x3, x4, x7, x8, x9 => if (7 : Int32) ≤ x9 then (k110 M x0 x1 x2 x3 x4 x7 (x8 + (1 : Int32))) else (gd (ok nM shM x0 7) (Option.bind (M.2.2 x0 0) (fun q8 => Option.bind (M.2.2 x0 0) (fun q9 => gd (okA nM shM q9 8 (2 : Int32)) (Option.bind (M.2.2 x0 2) (fun q11 => Option.bind (M.2.2 x0 24) (fun q12 => gd (okA nM shM q12 8 x8) (gd (okA nM shM q11 8 (((23 : Int32) + ((7 : Int32) * (M.1 q12 x8.toNatClampNeg))) + x9)) (gd (okA nM shM q8 8 (((23 : Int32) + ((7 : Int32) * ((M.1 q9 (2 : Int32).toNatClampNeg) + x8))) + x9)) (lt (sI M q8 (((23 : Int32) + ((7 : Int32) * ((M.1 q9 (2 : Int32).toNatClampNeg) + x8))) + x9).toNatClampNeg (M.1 q11 (((23 : Int32) + ((7 : Int32) * (M.1 q12 x8.toNatClampNeg))) + x9).toNatClampNeg)) (fun M16 => (f_X7_order_b134 k110 nn) M16 x0 x1 x2 x3 x4 x7 x8 (x9 + (1 : Int32)))))))))))))
def f_X7_order_b110 (k99 : Mm → Nat → Int32 → Int32 → Int32 → Int64 → Int32 → Option (Mm × Int32)) : Nat → Mm → Nat → Int32 → Int32 → Int32 → Int64 → Int32 → Int32 → Option (Mm × Int32)
  | 0, _, _, _, _, _, _, _, _ => none
  | nn + 1, M, x0, x1, x2, x3, x4, x7, x8 => if x2 ≤ x8 then (gd (ok nM shM x0 7) (Option.bind (f_X7_findWays M x0) (fun r18 => if x3 < 0 then (f_X7_order_b219 k99 r18.1 x0 x1 x2 x7) else (Option.bind (r18.1.2.2 x0 18) (fun q21 => gd (okA nM shM q21 9 x1) (if lg_cmp (r18.1.2.1 q21 x1.toNatClampNeg) x4 ≤ 0 then (f_X7_order_b230 k99 r18.1 x0 x1 x2 x3 x4) else (f_X7_order_b219 k99 r18.1 x0 x1 x2 x7))))))) else (gd (ok nM shM x0 7) (Option.bind (M.2.2 x0 24) (fun q25 => gd (okA nM shM q25 8 x8) (lt (((10 : Int32) * x7) + (M.1 q25 x8.toNatClampNeg)) (fun y27 : Int32 => f_X7_order_b134 (f_X7_order_b110 k99 nn) 1000 M x0 x1 x2 x3 x4 y27 x8 (0 : Int32))))))
def f_X7_order_b99  : Nat → Mm → Nat → Int32 → Int32 → Int32 → Int64 → Int32 → Option (Mm × Int32)
  | 0, _, _, _, _, _, _, _ => none
  | nn + 1, M, x0, x1, x2, x3, x4, x6 => if x6 = 0 then (gd (ok nM shM x0 7) (Option.bind (M.2.2 x0 2) (fun q30 => Option.bind (M.2.2 x0 0) (fun q31 => Option.bind (f_X7_carry M q30 q31) (fun r32 => some (r32.1, x3)))))) else (f_X7_order_b110 (f_X7_order_b99 nn) 1000 M x0 x1 x2 x3 x4 (0 : Int32) (0 : Int32))
def f_X7_order_b66  : Nat → Mm → Nat → Int32 → Int32 → Int32 → Option (Mm × Int32)
  | 0, _, _, _, _, _ => none
  | nn + 1, M, x0, x1, x2, x3 => if x2 ≤ x3 then (f_X7_order_b99 1000 M x0 x1 x2 (-1 : Int32) (0 : Int64) (1 : Int32)) else (gd (ok nM shM x0 7) (Option.bind (M.2.2 x0 24) (fun q35 => Option.bind (M.2.2 x0 0) (fun q36 => gd (okA nM shM q36 8 (2 : Int32)) (gd (okA nM shM q35 8 x3) (lt (sI M q35 x3.toNatClampNeg ((M.1 q36 (2 : Int32).toNatClampNeg) + x3)) (fun M39 => (f_X7_order_b66 nn) M39 x0 x1 x2 (x3 + (1 : Int32)))))))))
def f_X7_order (M : Mm) (o0 : Nat) (a1 : Int32) : Option (Mm × Int32) := gd (ok nM shM o0 7) (Option.bind (f_X7_isSide M o0 a1) (fun r40 => if r40.2 = 0 then (Option.bind (f_X7_finding r40.1 o0 (0 : Int32)) (fun r56 => some (r56.1, r56.2))) else (Option.bind (f_X7_isOver r40.1 o0) (fun r43 => if r43.2 = 0 then (Option.bind (r43.1.2.2 o0 0) (fun q45 => gd (okA nM shM q45 8 (1 : Int32)) (Option.bind (r43.1.2.2 o0 0) (fun q47 => gd (okA nM shM q47 8 (2 : Int32)) (lt ((r43.1.1 q45 (1 : Int32).toNatClampNeg) - (r43.1.1 q47 (2 : Int32).toNatClampNeg)) (fun y49 : Int32 => if y49 ≤ (4 : Int32) then (Option.bind (r43.1.2.2 o0 0) (fun q51 => Option.bind (r43.1.2.2 o0 2) (fun q52 => Option.bind (f_X7_carry r43.1 q51 q52) (fun r53 => f_X7_order_b66 1000 r53.1 o0 a1 y49 (0 : Int32))))) else (Option.bind (f_X7_finding r43.1 o0 (6 : Int32)) (fun r54 => some (r54.1, r54.2))))))))) else (Option.bind (f_X7_finding r43.1 o0 (3 : Int32)) (fun r55 => some (r55.1, r55.2)))))))
def rmX7_order : Room := { frames := 18, cells := 0, slots := 0, locals := 485 }
theorem hdX7_order : yX7_order.cls ≠ "java/lang/invoke/MethodHandle" ∧ yX7_order.cls ≠ "java/lang/invoke/VarHandle" ∧ (parseMethodDescriptor yX7_order.desc).map (fun d => d.parameters.length) = some 1 := by decide +kernel
def f_X7_lawFor (M : Mm) (o0 : Nat) (a1 : Int32) : Option (Mm × Int32) := gd (ok nM shM o0 7) (Option.bind (f_X7_isSide M o0 a1) (fun r1 => if r1.2 = 0 then (Option.bind (f_X7_finding r1.1 o0 (0 : Int32)) (fun r4 => some (r4.1, r4.2))) else (Option.bind (f_X7_bestLaid r1.1 o0 (3 : Int32) (1 : Int32) (3 : Int32) a1) (fun r5 => some (r5.1, r5.2)))))
def rmX7_lawFor : Room := { frames := 20, cells := 0, slots := 0, locals := 539 }
theorem hdX7_lawFor : yX7_lawFor.cls ≠ "java/lang/invoke/MethodHandle" ∧ yX7_lawFor.cls ≠ "java/lang/invoke/VarHandle" ∧ (parseMethodDescriptor yX7_lawFor.desc).map (fun d => d.parameters.length) = some 1 := by decide +kernel
def f_X7_gains_b141 (k89 : Mm → Nat → Int32 → Int32 → Option (Mm × Int32)) (M : Mm) (x0 : Nat) (x5 : Int32) (t0 : Int32) : Option (Mm × Int32) := k89 M x0 t0 (x5 + (1 : Int32))
def f_X7_gains_b89  : Nat → Mm → Nat → Int32 → Int32 → Option (Mm × Int32)
  | 0, _, _, _, _ => none
  | nn + 1, M, x0, x4, x5 => gd (ok nM shM x0 7) (Option.bind (M.2.2 x0 0) (fun q2 => gd (okA nM shM q2 8 (0 : Int32)) (if M.1 q2 (0 : Int32).toNatClampNeg ≤ x5 then (some (M, x4)) else (Option.bind (M.2.2 x0 25) (fun q5 => gd (okA nM shM q5 9 x5) (Option.bind (M.2.2 x0 19) (fun q7 => gd (okA nM shM q7 9 x5) (Option.bind (M.2.2 x0 25) (fun q9 => gd (okA nM shM q9 9 x4) (Option.bind (M.2.2 x0 19) (fun q11 => gd (okA nM shM q11 9 x4) (if lg_cmp ((M.2.1 q5 x5.toNatClampNeg) - (M.2.1 q7 x5.toNatClampNeg)) ((M.2.1 q9 x4.toNatClampNeg) - (M.2.1 q11 x4.toNatClampNeg)) ≤ 0 then (f_X7_gains_b141 (f_X7_gains_b89 nn) M x0 x5 x4) else (f_X7_gains_b141 (f_X7_gains_b89 nn) M x0 x5 x5)))))))))))))
def f_X7_gains_b37  : Nat → Mm → Nat → Int32 → Int32 → Option (Mm × Int32)
  | 0, _, _, _, _ => none
  | nn + 1, M, x0, x1, x4 => if (6 : Int32) ≤ x4 then (gd (ok nM shM x0 7) (Option.bind (M.2.2 x0 0) (fun q16 => gd (okA nM shM q16 8 (3 : Int32)) (lt (sI M q16 (3 : Int32).toNatClampNeg (3 : Int32)) (fun M18 => Option.bind (f_X7_findWays M18 x0) (fun r19 => Option.bind (r19.1.2.2 x0 0) (fun q20 => gd (okA nM shM q20 8 (3 : Int32)) (lt (sI r19.1 q20 (3 : Int32).toNatClampNeg x1) (fun M22 => f_X7_gains_b89 1000 M22 x0 (0 : Int32) (1 : Int32)))))))))) else (gd (ok nM shM x0 7) (Option.bind (M.2.2 x0 25) (fun q24 => Option.bind (M.2.2 x0 19) (fun q25 => gd (okA nM shM q25 9 x4) (gd (okA nM shM q24 9 x4) (lt (sL M q24 x4.toNatClampNeg (M.2.1 q25 x4.toNatClampNeg)) (fun M28 => (f_X7_gains_b37 nn) M28 x0 x1 (x4 + (1 : Int32)))))))))
def f_X7_gains (M : Mm) (o0 : Nat) : Option (Mm × Int32) := gd (ok nM shM o0 7) (Option.bind (M.2.2 o0 0) (fun q30 => gd (okA nM shM q30 8 (0 : Int32)) (if M.1 q30 (0 : Int32).toNatClampNeg = 0 then (Option.bind (f_X7_finding M o0 (3 : Int32)) (fun r39 => some (r39.1, r39.2))) else (Option.bind (M.2.2 o0 0) (fun q33 => gd (okA nM shM q33 8 (3 : Int32)) (Option.bind (M.2.2 o0 0) (fun q35 => gd (okA nM shM q35 8 (3 : Int32)) (lt (sI M q35 (3 : Int32).toNatClampNeg (1 : Int32)) (fun M37 => Option.bind (f_X7_findWays M37 o0) (fun r38 => f_X7_gains_b37 1000 r38.1 o0 (M.1 q33 (3 : Int32).toNatClampNeg) (0 : Int32)))))))))))
def rmX7_gains : Room := { frames := 18, cells := 0, slots := 0, locals := 485 }
theorem hdX7_gains : yX7_gains.cls ≠ "java/lang/invoke/MethodHandle" ∧ yX7_gains.cls ≠ "java/lang/invoke/VarHandle" ∧ (parseMethodDescriptor yX7_gains.desc).map (fun d => d.parameters.length) = some 0 := by decide +kernel
def f_X7_wronged_b120 (k15 : Mm → Nat → Int32 → Int32 → Option (Mm × Int32)) (M : Mm) (x0 : Nat) (x4 : Int32) (t0 : Int32) (t1 : Int32) : Option (Mm × Int32) := k15 M x0 (t0 + t1) (x4 + (1 : Int32))
def f_X7_wronged_b119 (k15 : Mm → Nat → Int32 → Int32 → Option (Mm × Int32)) (M : Mm) (x0 : Nat) (x4 : Int32) (t0 : Int32) : Option (Mm × Int32) := f_X7_wronged_b120 k15 M x0 x4 t0 (0 : Int32)
def f_X7_wronged_b115 (k15 : Mm → Nat → Int32 → Int32 → Option (Mm × Int32)) (M : Mm) (x0 : Nat) (x4 : Int32) (t0 : Int32) : Option (Mm × Int32) := f_X7_wronged_b120 k15 M x0 x4 t0 (1 : Int32)
def f_X7_wronged_b103 (k15 : Mm → Nat → Int32 → Int32 → Option (Mm × Int32)) (M : Mm) (x0 : Nat) (x4 : Int32) (x7 : Int32) (x8 : Int64) (t0 : Int32) : Option (Mm × Int32) := if 0 ≤ x7 then (f_X7_wronged_b119 k15 M x0 x4 t0) else (if lg_cmp x8 (0 : Int64) ≤ 0 then (f_X7_wronged_b119 k15 M x0 x4 t0) else (f_X7_wronged_b115 k15 M x0 x4 t0))
def f_X7_wronged_b15  : Nat → Mm → Nat → Int32 → Int32 → Option (Mm × Int32)
  | 0, _, _, _, _ => none
  | nn + 1, M, x0, x3, x4 => gd (ok nM shM x0 7) (Option.bind (M.2.2 x0 0) (fun q4 => gd (okA nM shM q4 8 (1 : Int32)) (if M.1 q4 (1 : Int32).toNatClampNeg ≤ x4 then (some (M, x3)) else (Option.bind (f_X7_of M x0 x4 (0 : Int32)) (fun r7 => Option.bind (f_X7_of r7.1 x0 x4 (1 : Int32)) (fun r8 => Option.bind (f_X7_its r8.1 x0 r7.2 (1 : Int32)) (fun r9 => Option.bind (f_X7_its r9.1 x0 r8.2 (1 : Int32)) (fun r10 => Option.bind (r10.1.2.2 x0 16) (fun q11 => gd (okA nM shM q11 9 (((6 : Int32) * x4) + r7.2)) (Option.bind (r10.1.2.2 x0 16) (fun q13 => gd (okA nM shM q13 9 (((6 : Int32) * x4) + r8.2)) (lt ((r10.1.2.1 q11 (((6 : Int32) * x4) + r7.2).toNatClampNeg) - (r10.1.2.1 q13 (((6 : Int32) * x4) + r8.2).toNatClampNeg)) (fun y15 : Int64 => if r9.2 - r10.2 ≤ 0 then (f_X7_wronged_b103 (f_X7_wronged_b15 nn) r10.1 x0 x4 (r9.2 - r10.2) y15 x3) else (if lg_cmp y15 (0 : Int64) < 0 then (f_X7_wronged_b115 (f_X7_wronged_b15 nn) r10.1 x0 x4 x3) else (f_X7_wronged_b103 (f_X7_wronged_b15 nn) r10.1 x0 x4 (r9.2 - r10.2) y15 x3)))))))))))))))
def f_X7_wronged (M : Mm) (o0 : Nat) : Option (Mm × Int32) := gd (ok nM shM o0 7) (Option.bind (f_X7_findWays M o0) (fun r18 => Option.bind (r18.1.2.2 o0 0) (fun q20 => gd (okA nM shM q20 8 (2 : Int32)) (f_X7_wronged_b15 1000 r18.1 o0 (0 : Int32) (r18.1.1 q20 (2 : Int32).toNatClampNeg)))))
def rmX7_wronged : Room := { frames := 18, cells := 0, slots := 0, locals := 485 }
theorem hdX7_wronged : yX7_wronged.cls ≠ "java/lang/invoke/MethodHandle" ∧ yX7_wronged.cls ≠ "java/lang/invoke/VarHandle" ∧ (parseMethodDescriptor yX7_wronged.desc).map (fun d => d.parameters.length) = some 0 := by decide +kernel
def f_X7_tries_b72 (k37 : Mm → Nat → Int32 → Int32 → Int32 → Int32 → Int32 → Option (Mm × Int32)) (M : Mm) (x0 : Nat) (x1 : Int32) (x2 : Int32) (x3 : Int32) (x5 : Int32) (t0 : Int32) (t1 : Int32) : Option (Mm × Int32) := gd (ok nM shM x0 7) (Option.bind (M.2.2 x0 0) (fun q2 => gd (okA nM shM q2 8 (2 : Int32)) (lt (sI M q2 (2 : Int32).toNatClampNeg x3) (fun M4 => k37 M4 x0 x1 x2 x3 (t0 + t1) (x5 + (1 : Int32))))))
def f_X7_tries_b43 (k37 : Mm → Nat → Int32 → Int32 → Int32 → Int32 → Int32 → Option (Mm × Int32)) : Nat → Mm → Nat → Int32 → Int32 → Int32 → Int32 → Int32 → Option (Mm × Int32)
  | 0, _, _, _, _, _, _, _ => none
  | nn + 1, M, x0, x1, x2, x3, x4, x5 => gd (ok nM shM x0 7) (Option.bind (f_X7_isOver M x0) (fun r5 => if r5.2 = 0 then (Option.bind (f_X7_drawsNext r5.1 x0) (fun r10 => (f_X7_tries_b43 k37 nn) r10.1 x0 x1 x2 x3 x4 x5)) else (Option.bind (f_X7_leader r5.1 x0) (fun r8 => if r8.2 = x1 then (f_X7_tries_b72 k37 r8.1 x0 x1 x2 x3 x5 x4 (1 : Int32)) else (f_X7_tries_b72 k37 r8.1 x0 x1 x2 x3 x5 x4 (0 : Int32))))))
def f_X7_tries_b37  : Nat → Mm → Nat → Int32 → Int32 → Int32 → Int32 → Int32 → Option (Mm × Int32)
  | 0, _, _, _, _, _, _, _ => none
  | nn + 1, M, x0, x1, x2, x3, x4, x5 => if x2 ≤ x5 then (some (M, x4)) else (f_X7_tries_b43 (f_X7_tries_b37 nn) 1000 M x0 x1 x2 x3 x4 x5)
def f_X7_tries_b18  (M : Mm) (x0 : Nat) : Option (Mm × Int32) := gd (ok nM shM x0 7) (Option.bind (f_X7_finding M x0 (0 : Int32)) (fun r12 => some (r12.1, r12.2)))
def f_X7_tries (M : Mm) (o0 : Nat) (a1 : Int32) (a2 : Int32) : Option (Mm × Int32) := gd (ok nM shM o0 7) (Option.bind (f_X7_isSide M o0 a1) (fun r14 => if r14.2 = 0 then (f_X7_tries_b18 r14.1 o0) else (Option.bind (f_X7_in r14.1 a2 (1 : Int32) (40 : Int32)) (fun r17 => if r17.2 = 0 then (f_X7_tries_b18 r17.1 o0) else (Option.bind (r17.1.2.2 o0 0) (fun q19 => gd (okA nM shM q19 8 (2 : Int32)) (f_X7_tries_b37 1000 r17.1 o0 a1 a2 (r17.1.1 q19 (2 : Int32).toNatClampNeg) (0 : Int32) (0 : Int32))))))))
def rmX7_tries : Room := { frames := 7, cells := 0, slots := 0, locals := 199 }
theorem hdX7_tries : yX7_tries.cls ≠ "java/lang/invoke/MethodHandle" ∧ yX7_tries.cls ≠ "java/lang/invoke/VarHandle" ∧ (parseMethodDescriptor yX7_tries.desc).map (fun d => d.parameters.length) = some 2 := by decide +kernel
def f_X7_seed (M : Mm) (o0 : Nat) (a1 : Int32) : Option (Mm × Int32) := gd (ok nM shM o0 7) (Option.bind (M.2.2 o0 0) (fun q2 => gd (okA nM shM q2 8 (4 : Int32)) (Option.bind (M.2.2 o0 0) (fun q4 => gd (okA nM shM q4 8 (4 : Int32)) (lt (sI M q4 (4 : Int32).toNatClampNeg a1) (fun M6 => some (M6, M.1 q2 (4 : Int32).toNatClampNeg)))))))
def rmX7_seed : Room := { frames := 1, cells := 0, slots := 0, locals := 60 }
theorem hdX7_seed : yX7_seed.cls ≠ "java/lang/invoke/MethodHandle" ∧ yX7_seed.cls ≠ "java/lang/invoke/VarHandle" ∧ (parseMethodDescriptor yX7_seed.desc).map (fun d => d.parameters.length) = some 1 := by decide +kernel
def f_X7_hold_b29  (M : Mm) (x0 : Nat) (x1 : Int32) (x2 : Int32) : Option (Mm × Int32) := gd (ok nM shM x0 7) (Option.bind (M.2.2 x0 0) (fun q2 => gd (okA nM shM q2 8 ((79 : Int32) + x1)) (lt (sI M q2 ((79 : Int32) + x1).toNatClampNeg x2) (fun M4 => some (M4, (1 : Int32))))))
def f_X7_hold_b23  (M : Mm) (x0 : Nat) : Option (Mm × Int32) := gd (ok nM shM x0 7) (Option.bind (f_X7_finding M x0 (0 : Int32)) (fun r5 => some (r5.1, r5.2)))
def f_X7_hold (M : Mm) (o0 : Nat) (a1 : Int32) (a2 : Int32) : Option (Mm × Int32) := Option.bind (f_X7_in M a1 (0 : Int32) (9 : Int32)) (fun r7 => if r7.2 = 0 then (f_X7_hold_b23 r7.1 o0) else (if a2 = (-1 : Int32) then (f_X7_hold_b29 r7.1 o0 a1 a2) else (gd (ok nM shM o0 7) (Option.bind (f_X7_isSide r7.1 o0 a2) (fun r10 => if r10.2 = 0 then (f_X7_hold_b23 r10.1 o0) else (f_X7_hold_b29 r10.1 o0 a1 a2))))))
def rmX7_hold : Room := { frames := 3, cells := 0, slots := 0, locals := 103 }
theorem hdX7_hold : yX7_hold.cls ≠ "java/lang/invoke/MethodHandle" ∧ yX7_hold.cls ≠ "java/lang/invoke/VarHandle" ∧ (parseMethodDescriptor yX7_hold.desc).map (fun d => d.parameters.length) = some 2 := by decide +kernel
def f_X7_isUnder_b34  (M : Mm)  : Option (Mm × Int32) := some (M, (1 : Int32))
def f_X7_isUnder_b24  (M : Mm) (x0 : Int32) (x1 : Int32) : Option (Mm × Int32) := if x1 = (1 : Int32) then (if x0 = (5 : Int32) then (f_X7_isUnder_b34 M) else (some (M, (0 : Int32)))) else (some (M, (0 : Int32)))
def f_X7_isUnder (M : Mm) (a0 : Int32) (a1 : Int32) : Option (Mm × Int32) := if a1 = 0 then (f_X7_isUnder_b34 M) else (if a0 = a1 then (f_X7_isUnder_b34 M) else (if a1 = (2 : Int32) then (if a0 = (3 : Int32) then (f_X7_isUnder_b34 M) else (if a0 = (4 : Int32) then (f_X7_isUnder_b34 M) else (f_X7_isUnder_b24 M a0 a1))) else (f_X7_isUnder_b24 M a0 a1)))
def rmX7_isUnder : Room := { frames := 1, cells := 0, slots := 0, locals := 60 }
theorem hdX7_isUnder : yX7_isUnder.cls ≠ "java/lang/invoke/MethodHandle" ∧ yX7_isUnder.cls ≠ "java/lang/invoke/VarHandle" ∧ (parseMethodDescriptor yX7_isUnder.desc).map (fun d => d.parameters.length) = some 2 := by decide +kernel
def f_X7_as_b20  (M : Mm) (x0 : Nat) : Option (Mm × Int32) := gd (ok nM shM x0 7) (Option.bind (f_X7_finding M x0 (0 : Int32)) (fun r1 => some (r1.1, r1.2)))
def f_X7_as (M : Mm) (o0 : Nat) (a1 : Int32) (a2 : Int32) : Option (Mm × Int32) := Option.bind (f_X7_in M a1 (0 : Int32) (9 : Int32)) (fun r3 => if r3.2 = 0 then (f_X7_as_b20 r3.1 o0) else (Option.bind (f_X7_in r3.1 a2 (0 : Int32) (6 : Int32)) (fun r5 => if r5.2 = 0 then (f_X7_as_b20 r5.1 o0) else (gd (ok nM shM o0 7) (Option.bind (r5.1.2.2 o0 0) (fun q8 => gd (okA nM shM q8 8 ((79 : Int32) + a1)) (lt (r5.1.1 q8 ((79 : Int32) + a1).toNatClampNeg) (fun y10 : Int32 => if y10 = (-1 : Int32) then (Option.bind (f_X7_finding r5.1 o0 (5 : Int32)) (fun r16 => some (r16.1, r16.2))) else (Option.bind (f_X7_its r5.1 o0 y10 (0 : Int32)) (fun r12 => Option.bind (f_X7_isUnder r12.1 r12.2 a2) (fun r13 => if r13.2 = 0 then (Option.bind (f_X7_finding r13.1 o0 (2 : Int32)) (fun r15 => some (r15.1, r15.2))) else (some (r13.1, y10)))))))))))))
def rmX7_as : Room := { frames := 2, cells := 0, slots := 0, locals := 82 }
theorem hdX7_as : yX7_as.cls ≠ "java/lang/invoke/MethodHandle" ∧ yX7_as.cls ≠ "java/lang/invoke/VarHandle" ∧ (parseMethodDescriptor yX7_as.desc).map (fun d => d.parameters.length) = some 2 := by decide +kernel
def f_X7_isSheet (M : Mm) (a0 : Int32) : Option (Mm × Int32) := Option.bind (f_X7_in M a0 (0 : Int32) (3 : Int32)) (fun r1 => gd (bz r1.2) (some (r1.1, r1.2)))
def rmX7_isSheet : Room := { frames := 2, cells := 0, slots := 0, locals := 82 }
theorem hdX7_isSheet : yX7_isSheet.cls ≠ "java/lang/invoke/MethodHandle" ∧ yX7_isSheet.cls ≠ "java/lang/invoke/VarHandle" ∧ (parseMethodDescriptor yX7_isSheet.desc).map (fun d => d.parameters.length) = some 1 := by decide +kernel
def f_X7_sheet_b83  : Nat → Mm → Nat → Int32 → Int32 → Option (Mm × Int32)
  | 0, _, _, _, _ => none
  | nn + 1, M, x0, x1, x4 => if (40 : Int32) ≤ x4 then (gd (ok nM shM x0 7) (Option.bind (M.2.2 x0 27) (fun q3 => gd (okA nM shM q3 8 x1) (some (M, M.1 q3 x1.toNatClampNeg))))) else (gd (ok nM shM x0 7) (Option.bind (M.2.2 x0 28) (fun q6 => gd (okA nM shM q6 8 (((40 : Int32) * x1) + x4)) (lt (sI M q6 (((40 : Int32) * x1) + x4).toNatClampNeg (0 : Int32)) (fun M8 => (f_X7_sheet_b83 nn) M8 x0 x1 (x4 + (1 : Int32)))))))
def f_X7_sheet_b79  (M : Mm) (x0 : Nat) (x1 : Int32) (t0 : Nat) (t1 : Int32) (t2 : Int32) : Option (Mm × Int32) := gd (okA nM shM t0 8 t1) (lt (sI M t0 t1.toNatClampNeg t2) (fun M10 => f_X7_sheet_b83 1000 M10 x0 x1 (0 : Int32)))
def f_X7_sheet_b35  (M : Mm) (x0 : Nat) (x1 : Int32) (x2 : Int32) (x3 : Int32) : Option (Mm × Int32) := if 0 ≤ x3 then (if x3 ≤ (40 : Int32) then (gd (ok nM shM x0 7) (Option.bind (M.2.2 x0 26) (fun q14 => gd (okA nM shM q14 8 x1) (lt (sI M q14 x1.toNatClampNeg x2) (fun M16 => Option.bind (M16.2.2 x0 27) (fun q17 => if x2 = 0 then (f_X7_sheet_b79 M16 x0 x1 q17 x1 (0 : Int32)) else (f_X7_sheet_b79 M16 x0 x1 q17 x1 x3))))))) else (gd (ok nM shM x0 7) (Option.bind (f_X7_finding M x0 (0 : Int32)) (fun r19 => some (r19.1, r19.2))))) else (gd (ok nM shM x0 7) (Option.bind (f_X7_finding M x0 (6 : Int32)) (fun r21 => some (r21.1, r21.2))))
def f_X7_sheet_b29  (M : Mm) (x0 : Nat) : Option (Mm × Int32) := gd (ok nM shM x0 7) (Option.bind (f_X7_finding M x0 (0 : Int32)) (fun r23 => some (r23.1, r23.2)))
def f_X7_sheet (M : Mm) (o0 : Nat) (a1 : Int32) (a2 : Int32) (a3 : Int32) : Option (Mm × Int32) := Option.bind (f_X7_isSheet M a1) (fun r25 => if r25.2 = 0 then (f_X7_sheet_b29 r25.1 o0) else (if a2 = 0 then (f_X7_sheet_b35 r25.1 o0 a1 a2 a3) else (if a2 = (8 : Int32) then (f_X7_sheet_b35 r25.1 o0 a1 a2 a3) else (if a2 = (16 : Int32) then (f_X7_sheet_b35 r25.1 o0 a1 a2 a3) else (if a2 = (32 : Int32) then (f_X7_sheet_b35 r25.1 o0 a1 a2 a3) else (f_X7_sheet_b29 r25.1 o0))))))
def rmX7_sheet : Room := { frames := 3, cells := 0, slots := 0, locals := 102 }
theorem hdX7_sheet : yX7_sheet.cls ≠ "java/lang/invoke/MethodHandle" ∧ yX7_sheet.cls ≠ "java/lang/invoke/VarHandle" ∧ (parseMethodDescriptor yX7_sheet.desc).map (fun d => d.parameters.length) = some 3 := by decide +kernel
def f_X7_write (M : Mm) (o0 : Nat) (a1 : Int32) (a2 : Int32) (a3 : Int32) : Option (Mm × Int32) := Option.bind (f_X7_isSheet M a1) (fun r1 => if r1.2 = 0 then (gd (ok nM shM o0 7) (Option.bind (f_X7_finding r1.1 o0 (0 : Int32)) (fun r19 => some (r19.1, r19.2)))) else (gd (ok nM shM o0 7) (Option.bind (r1.1.2.2 o0 26) (fun q4 => gd (okA nM shM q4 8 a1) (if r1.1.1 q4 a1.toNatClampNeg = 0 then (Option.bind (f_X7_finding r1.1 o0 (5 : Int32)) (fun r18 => some (r18.1, r18.2))) else (Option.bind (r1.1.2.2 o0 27) (fun q7 => gd (okA nM shM q7 8 a1) (Option.bind (f_X7_in r1.1 a2 (0 : Int32) ((r1.1.1 q7 a1.toNatClampNeg) - (1 : Int32))) (fun r9 => if r9.2 = 0 then (Option.bind (f_X7_finding r9.1 o0 (0 : Int32)) (fun r17 => some (r17.1, r17.2))) else (Option.bind (r9.1.2.2 o0 26) (fun q11 => gd (okA nM shM q11 8 a1) (lt ((32 : Int32) - (r9.1.1 q11 a1.toNatClampNeg)) (fun y13 : Int32 => Option.bind (r9.1.2.2 o0 28) (fun q14 => gd (okA nM shM q14 8 (((40 : Int32) * a1) + a2)) (lt (sI r9.1 q14 (((40 : Int32) * a1) + a2).toNatClampNeg ((a3 <<< (y13 &&& 31)) >>> (y13 &&& 31))) (fun M16 => some (M16, (1 : Int32))))))))))))))))))
def rmX7_write : Room := { frames := 3, cells := 0, slots := 0, locals := 102 }
theorem hdX7_write : yX7_write.cls ≠ "java/lang/invoke/MethodHandle" ∧ yX7_write.cls ≠ "java/lang/invoke/VarHandle" ∧ (parseMethodDescriptor yX7_write.desc).map (fun d => d.parameters.length) = some 3 := by decide +kernel
def f_X7_copy_b152  : Nat → Mm → Nat → Int32 → Int32 → Int32 → Int32 → Option (Mm × Int32)
  | 0, _, _, _, _, _, _ => none
  | nn + 1, M, x0, x3, x4, x5, x6 => if x5 ≤ x6 then (some (M, x5)) else (gd (ok nM shM x0 7) (Option.bind (M.2.2 x0 28) (fun q3 => Option.bind (M.2.2 x0 29) (fun q4 => gd (okA nM shM q4 8 x6) (gd (okA nM shM q3 8 ((((40 : Int32) * x3) + x4) + x6)) (lt (sI M q3 ((((40 : Int32) * x3) + x4) + x6).toNatClampNeg (M.1 q4 x6.toNatClampNeg)) (fun M7 => (f_X7_copy_b152 nn) M7 x0 x3 x4 x5 (x6 + (1 : Int32)))))))))
def f_X7_copy_b115  : Nat → Mm → Nat → Int32 → Int32 → Int32 → Int32 → Int32 → Int32 → Option (Mm × Int32)
  | 0, _, _, _, _, _, _, _, _ => none
  | nn + 1, M, x0, x1, x2, x3, x4, x5, x6 => if x5 ≤ x6 then (f_X7_copy_b152 1000 M x0 x3 x4 x5 (0 : Int32)) else (gd (ok nM shM x0 7) (Option.bind (M.2.2 x0 29) (fun q10 => Option.bind (M.2.2 x0 28) (fun q11 => gd (okA nM shM q11 8 ((((40 : Int32) * x1) + x2) + x6)) (gd (okA nM shM q10 8 x6) (lt (sI M q10 x6.toNatClampNeg (M.1 q11 ((((40 : Int32) * x1) + x2) + x6).toNatClampNeg)) (fun M14 => (f_X7_copy_b115 nn) M14 x0 x1 x2 x3 x4 x5 (x6 + (1 : Int32)))))))))
def f_X7_copy_b106  (M : Mm) (x0 : Nat) : Option (Mm × Int32) := gd (ok nM shM x0 7) (Option.bind (f_X7_finding M x0 (0 : Int32)) (fun r15 => some (r15.1, r15.2)))
def f_X7_copy_b38  (M : Mm) (x0 : Nat) : Option (Mm × Int32) := gd (ok nM shM x0 7) (Option.bind (f_X7_finding M x0 (5 : Int32)) (fun r17 => some (r17.1, r17.2)))
def f_X7_copy_b14  (M : Mm) (x0 : Nat) : Option (Mm × Int32) := gd (ok nM shM x0 7) (Option.bind (f_X7_finding M x0 (0 : Int32)) (fun r19 => some (r19.1, r19.2)))
def f_X7_copy (M : Mm) (o0 : Nat) (a1 : Int32) (a2 : Int32) (a3 : Int32) (a4 : Int32) (a5 : Int32) : Option (Mm × Int32) := Option.bind (f_X7_isSheet M a1) (fun r21 => if r21.2 = 0 then (f_X7_copy_b14 r21.1 o0) else (Option.bind (f_X7_isSheet r21.1 a3) (fun r23 => if r23.2 = 0 then (f_X7_copy_b14 r23.1 o0) else (gd (ok nM shM o0 7) (Option.bind (r23.1.2.2 o0 26) (fun q26 => gd (okA nM shM q26 8 a1) (if r23.1.1 q26 a1.toNatClampNeg = 0 then (f_X7_copy_b38 r23.1 o0) else (Option.bind (r23.1.2.2 o0 26) (fun q29 => gd (okA nM shM q29 8 a3) (if r23.1.1 q29 a3.toNatClampNeg = 0 then (f_X7_copy_b38 r23.1 o0) else (Option.bind (r23.1.2.2 o0 26) (fun q32 => gd (okA nM shM q32 8 a1) (Option.bind (r23.1.2.2 o0 26) (fun q34 => gd (okA nM shM q34 8 a3) (if r23.1.1 q32 a1.toNatClampNeg = r23.1.1 q34 a3.toNatClampNeg then (if a2 < 0 then (f_X7_copy_b106 r23.1 o0) else (if a4 < 0 then (f_X7_copy_b106 r23.1 o0) else (if a5 < 0 then (f_X7_copy_b106 r23.1 o0) else (Option.bind (r23.1.2.2 o0 27) (fun q40 => gd (okA nM shM q40 8 a1) (if (r23.1.1 q40 a1.toNatClampNeg) - a5 < a2 then (f_X7_copy_b106 r23.1 o0) else (Option.bind (r23.1.2.2 o0 27) (fun q43 => gd (okA nM shM q43 8 a3) (if a4 ≤ (r23.1.1 q43 a3.toNatClampNeg) - a5 then (f_X7_copy_b115 1000 r23.1 o0 a1 a2 a3 a4 a5 (0 : Int32)) else (f_X7_copy_b106 r23.1 o0)))))))))) else (Option.bind (f_X7_finding r23.1 o0 (2 : Int32)) (fun r46 => some (r46.1, r46.2))))))))))))))))))
def rmX7_copy : Room := { frames := 3, cells := 0, slots := 0, locals := 102 }
theorem hdX7_copy : yX7_copy.cls ≠ "java/lang/invoke/MethodHandle" ∧ yX7_copy.cls ≠ "java/lang/invoke/VarHandle" ∧ (parseMethodDescriptor yX7_copy.desc).map (fun d => d.parameters.length) = some 5 := by decide +kernel
def f_X7_lacks (M : Mm) (o0 : Nat) (a1 : Int32) : Option (Mm × Int32) := Option.bind (f_X7_isSheet M a1) (fun r1 => if r1.2 = 0 then (some (r1.1, (0 : Int32))) else (gd (ok nM shM o0 7) (Option.bind (r1.1.2.2 o0 26) (fun q4 => gd (okA nM shM q4 8 a1) (if r1.1.1 q4 a1.toNatClampNeg = 0 then (some (r1.1, (5 : Int32))) else (some (r1.1, (-1 : Int32))))))))
def rmX7_lacks : Room := { frames := 3, cells := 0, slots := 0, locals := 102 }
theorem hdX7_lacks : yX7_lacks.cls ≠ "java/lang/invoke/MethodHandle" ∧ yX7_lacks.cls ≠ "java/lang/invoke/VarHandle" ∧ (parseMethodDescriptor yX7_lacks.desc).map (fun d => d.parameters.length) = some 1 := by decide +kernel
def f_X7_load_b18  : Nat → Mm → Nat → Int32 → Int32 → Option (Mm × Int32)
  | 0, _, _, _, _ => none
  | nn + 1, M, x0, x1, x3 => gd (ok nM shM x0 7) (Option.bind (M.2.2 x0 27) (fun q2 => gd (okA nM shM q2 8 x1) (if M.1 q2 x1.toNatClampNeg ≤ x3 then (some (M, x3)) else (Option.bind (f_X7_isOver M x0) (fun r5 => if r5.2 = 0 then (Option.bind (r5.1.2.2 x0 28) (fun q7 => gd (okA nM shM q7 8 (((40 : Int32) * x1) + x3)) (Option.bind (r5.1.2.2 x0 0) (fun q9 => gd (okA nM shM q9 8 (2 : Int32)) (Option.bind (f_X7_plays r5.1 x0 (r5.1.1 q7 (((40 : Int32) * x1) + x3).toNatClampNeg) (r5.1.1 q9 (2 : Int32).toNatClampNeg)) (fun r11 => if r11.2 = 0 then (some (r11.1, x3)) else (Option.bind (r11.1.2.2 x0 28) (fun q13 => gd (okA nM shM q13 8 (((40 : Int32) * x1) + x3)) (Option.bind (f_X7_winsNow r11.1 x0 (r11.1.1 q13 (((40 : Int32) * x1) + x3).toNatClampNeg)) (fun r15 => (f_X7_load_b18 nn) r15.1 x0 x1 (x3 + (1 : Int32)))))))))))) else (some (r5.1, x3)))))))
def f_X7_load (M : Mm) (o0 : Nat) (a1 : Int32) : Option (Mm × Int32) := gd (ok nM shM o0 7) (Option.bind (f_X7_lacks M o0 a1) (fun r16 => if r16.2 < 0 then (f_X7_load_b18 1000 r16.1 o0 a1 (0 : Int32)) else (Option.bind (f_X7_finding r16.1 o0 r16.2) (fun r19 => some (r19.1, r19.2)))))
def rmX7_load : Room := { frames := 7, cells := 0, slots := 0, locals := 198 }
theorem hdX7_load : yX7_load.cls ≠ "java/lang/invoke/MethodHandle" ∧ yX7_load.cls ≠ "java/lang/invoke/VarHandle" ∧ (parseMethodDescriptor yX7_load.desc).map (fun d => d.parameters.length) = some 1 := by decide +kernel
def f_X7_judge_b176  (M : Mm) (x3 : Int32) : Option (Mm × Int32) := some (M, (1 : Int32) + x3)
def f_X7_judge_b150  (M : Mm) (x0 : Nat) (x3 : Int32) (x4 : Int32) : Option (Mm × Int32) := gd (ok nM shM x0 7) (Option.bind (M.2.2 x0 2) (fun q2 => Option.bind (M.2.2 x0 0) (fun q3 => Option.bind (f_X7_carry M q2 q3) (fun r4 => if x4 = 0 then (f_X7_judge_b176 r4.1 x3) else (if x3 - x3 / (2 : Int32) * (2 : Int32) = 0 then (some (r4.1, (0 : Int32))) else (f_X7_judge_b176 r4.1 x3))))))
def f_X7_judge_b145 (k32 : Mm → Nat → Int32 → Int32 → Int32 → Option (Mm × Int32)) (M : Mm) (x0 : Nat) (x1 : Int32) (x4 : Int32) (t0 : Int32) (t1 : Int32) : Option (Mm × Int32) := k32 M x0 x1 (t0 + t1) x4
def f_X7_judge_b134 (k32 : Mm → Nat → Int32 → Int32 → Int32 → Option (Mm × Int32)) (M : Mm) (x0 : Nat) (x1 : Int32) (x3 : Int32) (x4 : Int32) : Option (Mm × Int32) := if x4 = 0 then (f_X7_judge_b145 k32 M x0 x1 x4 x3 (0 : Int32)) else (f_X7_judge_b145 k32 M x0 x1 x4 x3 (1 : Int32))
def f_X7_judge_b132 (k32 : Mm → Nat → Int32 → Int32 → Int32 → Option (Mm × Int32)) (M : Mm) (x0 : Nat) (x1 : Int32) (x3 : Int32) (t0 : Int32) : Option (Mm × Int32) := f_X7_judge_b134 k32 M x0 x1 x3 t0
def f_X7_judge_b93 (k32 : Mm → Nat → Int32 → Int32 → Int32 → Option (Mm × Int32)) (M : Mm) (x0 : Nat) (x1 : Int32) (x3 : Int32) (x5 : Int32) (t0 : Int32) : Option (Mm × Int32) := if t0 = 0 then (f_X7_judge_b134 k32 M x0 x1 x3 t0) else (gd (ok nM shM x0 7) (Option.bind (f_X7_winsNow M x0 x5) (fun r9 => f_X7_judge_b134 k32 r9.1 x0 x1 x3 t0)))
def f_X7_judge_b92 (k32 : Mm → Nat → Int32 → Int32 → Int32 → Option (Mm × Int32)) (M : Mm) (x0 : Nat) (x1 : Int32) (x3 : Int32) (x5 : Int32) : Option (Mm × Int32) := f_X7_judge_b93 k32 M x0 x1 x3 x5 (0 : Int32)
def f_X7_judge_b32  : Nat → Mm → Nat → Int32 → Int32 → Int32 → Option (Mm × Int32)
  | 0, _, _, _, _, _ => none
  | nn + 1, M, x0, x1, x3, x4 => gd (ok nM shM x0 7) (Option.bind (M.2.2 x0 27) (fun q12 => gd (okA nM shM q12 8 x1) (if M.1 q12 x1.toNatClampNeg ≤ x3 then (f_X7_judge_b150 M x0 x3 x4) else (if x4 = 0 then (f_X7_judge_b150 M x0 x3 x4) else (Option.bind (M.2.2 x0 28) (fun q16 => gd (okA nM shM q16 8 (((40 : Int32) * x1) + x3)) (lt (M.1 q16 (((40 : Int32) * x1) + x3).toNatClampNeg) (fun y18 : Int32 => if x3 - x3 / (2 : Int32) * (2 : Int32) = 0 then (Option.bind (f_X7_isOver M x0) (fun r24 => if r24.2 = 0 then (Option.bind (r24.1.2.2 x0 0) (fun q26 => gd (okA nM shM q26 8 (2 : Int32)) (Option.bind (f_X7_plays r24.1 x0 y18 (r24.1.1 q26 (2 : Int32).toNatClampNeg)) (fun r28 => if r28.2 = 0 then (f_X7_judge_b92 (f_X7_judge_b32 nn) r28.1 x0 x1 x3 y18) else (f_X7_judge_b93 (f_X7_judge_b32 nn) r28.1 x0 x1 x3 y18 (1 : Int32)))))) else (f_X7_judge_b92 (f_X7_judge_b32 nn) r24.1 x0 x1 x3 y18))) else (Option.bind (M.2.2 x0 0) (fun q20 => gd (okA nM shM q20 8 (2 : Int32)) (Option.bind (f_X7_of M x0 ((M.1 q20 (2 : Int32).toNatClampNeg) - (1 : Int32)) (4 : Int32)) (fun r22 => if y18 = r22.2 then (f_X7_judge_b132 (f_X7_judge_b32 nn) r22.1 x0 x1 x3 (1 : Int32)) else (f_X7_judge_b132 (f_X7_judge_b32 nn) r22.1 x0 x1 x3 (0 : Int32))))))))))))))
def f_X7_judge (M : Mm) (o0 : Nat) (a1 : Int32) : Option (Mm × Int32) := gd (ok nM shM o0 7) (Option.bind (f_X7_lacks M o0 a1) (fun r30 => if r30.2 < 0 then (Option.bind (r30.1.2.2 o0 0) (fun q33 => Option.bind (r30.1.2.2 o0 2) (fun q34 => Option.bind (f_X7_carry r30.1 q33 q34) (fun r35 => f_X7_judge_b32 1000 r35.1 o0 a1 (0 : Int32) (1 : Int32))))) else (Option.bind (f_X7_finding r30.1 o0 r30.2) (fun r36 => some (r36.1, r36.2)))))
def rmX7_judge : Room := { frames := 7, cells := 0, slots := 0, locals := 198 }
theorem hdX7_judge : yX7_judge.cls ≠ "java/lang/invoke/MethodHandle" ∧ yX7_judge.cls ≠ "java/lang/invoke/VarHandle" ∧ (parseMethodDescriptor yX7_judge.desc).map (fun d => d.parameters.length) = some 1 := by decide +kernel
def f_X7_image (M : Mm) (o0 : Nat) : Option (Mm × Int32) := gd (ok nM shM o0 7) (Option.bind (M.2.2 o0 0) (fun q2 => Option.bind (M.2.2 o0 1) (fun q3 => Option.bind (f_X7_carry M q2 q3) (fun r4 => lt (sI r4.1 o0 3 (1 : Int32)) (fun M5 => some (M5, (1 : Int32)))))))
def rmX7_image : Room := { frames := 2, cells := 0, slots := 0, locals := 82 }
theorem hdX7_image : yX7_image.cls ≠ "java/lang/invoke/MethodHandle" ∧ yX7_image.cls ≠ "java/lang/invoke/VarHandle" ∧ (parseMethodDescriptor yX7_image.desc).map (fun d => d.parameters.length) = some 0 := by decide +kernel
def f_X7_undo (M : Mm) (o0 : Nat) : Option (Mm × Int32) := gd (ok nM shM o0 7) (if M.1 o0 3 = 0 then (Option.bind (f_X7_finding M o0 (3 : Int32)) (fun r8 => some (r8.1, r8.2))) else (Option.bind (M.2.2 o0 1) (fun q3 => Option.bind (M.2.2 o0 0) (fun q4 => Option.bind (f_X7_carry M q3 q4) (fun r5 => Option.bind (r5.1.2.2 o0 0) (fun q6 => gd (okA nM shM q6 8 (2 : Int32)) (some (r5.1, r5.1.1 q6 (2 : Int32).toNatClampNeg))))))))
def rmX7_undo : Room := { frames := 2, cells := 0, slots := 0, locals := 82 }
theorem hdX7_undo : yX7_undo.cls ≠ "java/lang/invoke/MethodHandle" ∧ yX7_undo.cls ≠ "java/lang/invoke/VarHandle" ∧ (parseMethodDescriptor yX7_undo.desc).map (fun d => d.parameters.length) = some 0 := by decide +kernel
def f_X7_tear_b12  (M : Mm) (x0 : Nat) (t0 : Int32) : Option (Mm × Int32) := gd (ok nM shM x0 7) (lt (sI M x0 3 (0 : Int32)) (fun M2 => some (M2, t0)))
def f_X7_tear (M : Mm) (o0 : Nat) : Option (Mm × Int32) := gd (ok nM shM o0 7) (if M.1 o0 3 = 0 then (f_X7_tear_b12 M o0 (0 : Int32)) else (f_X7_tear_b12 M o0 (1 : Int32)))
def rmX7_tear : Room := { frames := 1, cells := 0, slots := 0, locals := 60 }
theorem hdX7_tear : yX7_tear.cls ≠ "java/lang/invoke/MethodHandle" ∧ yX7_tear.cls ≠ "java/lang/invoke/VarHandle" ∧ (parseMethodDescriptor yX7_tear.desc).map (fun d => d.parameters.length) = some 0 := by decide +kernel
def f_X7_count_b113 (k88 : Mm → Nat → Int32 → Int32 → Option (Mm × Int32)) (M : Mm) (x0 : Nat) (x3 : Int32) (t0 : Int32) (t1 : Int32) : Option (Mm × Int32) := k88 M x0 (t0 + t1) (x3 + (1 : Int32))
def f_X7_count_b88  : Nat → Mm → Nat → Int32 → Int32 → Option (Mm × Int32)
  | 0, _, _, _, _ => none
  | nn + 1, M, x0, x2, x3 => if (10 : Int32) ≤ x3 then (some (M, x2)) else (gd (ok nM shM x0 7) (Option.bind (M.2.2 x0 0) (fun q3 => gd (okA nM shM q3 8 ((79 : Int32) + x3)) (if M.1 q3 ((79 : Int32) + x3).toNatClampNeg = (-1 : Int32) then (f_X7_count_b113 (f_X7_count_b88 nn) M x0 x3 x2 (0 : Int32)) else (f_X7_count_b113 (f_X7_count_b88 nn) M x0 x3 x2 (1 : Int32))))))
def f_X7_count (M : Mm) (o0 : Nat) (a1 : Int32) : Option (Mm × Int32) := if a1 = 0 then (gd (ok nM shM o0 7) (Option.bind (M.2.2 o0 0) (fun q8 => gd (okA nM shM q8 8 (0 : Int32)) (some (M, M.1 q8 (0 : Int32).toNatClampNeg))))) else (if a1 = 1 then (gd (ok nM shM o0 7) (Option.bind (M.2.2 o0 0) (fun q12 => gd (okA nM shM q12 8 (1 : Int32)) (some (M, M.1 q12 (1 : Int32).toNatClampNeg))))) else (if a1 = 2 then (gd (ok nM shM o0 7) (Option.bind (M.2.2 o0 0) (fun q16 => gd (okA nM shM q16 8 (2 : Int32)) (some (M, M.1 q16 (2 : Int32).toNatClampNeg))))) else (if a1 = 3 then (gd (ok nM shM o0 7) (Option.bind (M.2.2 o0 0) (fun q20 => gd (okA nM shM q20 8 (3 : Int32)) (some (M, M.1 q20 (3 : Int32).toNatClampNeg))))) else (if a1 = 4 then (gd (ok nM shM o0 7) (some (M, M.1 o0 9))) else (if a1 = 5 then (gd (ok nM shM o0 7) (Option.bind (M.2.2 o0 0) (fun q26 => gd (okA nM shM q26 8 (4 : Int32)) (some (M, M.1 q26 (4 : Int32).toNatClampNeg))))) else (if a1 = 6 then (f_X7_count_b88 1000 M o0 (0 : Int32) (0 : Int32)) else (gd (ok nM shM o0 7) (Option.bind (f_X7_finding M o0 (0 : Int32)) (fun r29 => some (r29.1, r29.2))))))))))
def rmX7_count : Room := { frames := 2, cells := 0, slots := 0, locals := 81 }
theorem hdX7_count : yX7_count.cls ≠ "java/lang/invoke/MethodHandle" ∧ yX7_count.cls ≠ "java/lang/invoke/VarHandle" ∧ (parseMethodDescriptor yX7_count.desc).map (fun d => d.parameters.length) = some 1 := by decide +kernel
def f_X7_status_b47 (k20 : Mm → Nat → Int32 → Int32 → Int32 → Option (Mm × Int32)) (M : Mm) (x0 : Nat) (x1 : Int32) (x3 : Int32) (t0 : Int32) (t1 : Int32) : Option (Mm × Int32) := k20 M x0 x1 (t0 + t1) (x3 + (1 : Int32))
def f_X7_status_b37 (k20 : Mm → Nat → Int32 → Int32 → Int32 → Option (Mm × Int32)) (M : Mm) (x0 : Nat) (x1 : Int32) (x3 : Int32) (t0 : Int32) : Option (Mm × Int32) := gd (ok nM shM x0 7) (Option.bind (M.2.2 x0 4) (fun q2 => gd (okA nM shM q2 8 x3) (f_X7_status_b47 k20 M x0 x1 x3 t0 (M.1 q2 x3.toNatClampNeg))))
def f_X7_status_b20  : Nat → Mm → Nat → Int32 → Int32 → Int32 → Option (Mm × Int32)
  | 0, _, _, _, _, _ => none
  | nn + 1, M, x0, x1, x2, x3 => if (7 : Int32) ≤ x3 then (some (M, x2)) else (if x1 = (-1 : Int32) then (f_X7_status_b37 (f_X7_status_b20 nn) M x0 x1 x3 x2) else (if x1 = x3 then (f_X7_status_b37 (f_X7_status_b20 nn) M x0 x1 x3 x2) else (f_X7_status_b47 (f_X7_status_b20 nn) M x0 x1 x3 x2 (0 : Int32))))
def f_X7_status (M : Mm) (o0 : Nat) (a1 : Int32) : Option (Mm × Int32) := Option.bind (f_X7_in M a1 (-1 : Int32) (6 : Int32)) (fun r7 => if r7.2 = 0 then (gd (ok nM shM o0 7) (Option.bind (f_X7_finding r7.1 o0 (0 : Int32)) (fun r9 => some (r9.1, r9.2)))) else (f_X7_status_b20 1000 r7.1 o0 a1 (0 : Int32) (0 : Int32)))
def rmX7_status : Room := { frames := 2, cells := 0, slots := 0, locals := 82 }
theorem hdX7_status : yX7_status.cls ≠ "java/lang/invoke/MethodHandle" ∧ yX7_status.cls ≠ "java/lang/invoke/VarHandle" ∧ (parseMethodDescriptor yX7_status.desc).map (fun d => d.parameters.length) = some 1 := by decide +kernel
end
section
theorem dX4_kindOfWord_0 : decode cX4_kindOfWord 0 = .ok (.aload_n 0, 1) := by decide +kernel
theorem dX4_kindOfWord_1 : decode cX4_kindOfWord 1 = .ok (.ldc 97, 2) := by decide +kernel
theorem dX4_kindOfWord_3 : decode cX4_kindOfWord 3 = .ok (.invokevirtual 48, 3) := by decide +kernel
theorem dX4_kindOfWord_6 : decode cX4_kindOfWord 6 = .ok (.ifCond .eq 5, 3) := by decide +kernel
theorem dX4_kindOfWord_9 : decode cX4_kindOfWord 9 = .ok (.iconst 0, 1) := by decide +kernel
theorem dX4_kindOfWord_10 : decode cX4_kindOfWord 10 = .ok (.ireturn, 1) := by decide +kernel
theorem dX4_kindOfWord_11 : decode cX4_kindOfWord 11 = .ok (.aload_n 0, 1) := by decide +kernel
theorem dX4_kindOfWord_12 : decode cX4_kindOfWord 12 = .ok (.ldc 99, 2) := by decide +kernel
theorem dX4_kindOfWord_14 : decode cX4_kindOfWord 14 = .ok (.invokevirtual 48, 3) := by decide +kernel
theorem dX4_kindOfWord_17 : decode cX4_kindOfWord 17 = .ok (.ifCond .eq 5, 3) := by decide +kernel
theorem dX4_kindOfWord_20 : decode cX4_kindOfWord 20 = .ok (.iconst 1, 1) := by decide +kernel
theorem dX4_kindOfWord_21 : decode cX4_kindOfWord 21 = .ok (.ireturn, 1) := by decide +kernel
theorem dX4_kindOfWord_22 : decode cX4_kindOfWord 22 = .ok (.aload_n 0, 1) := by decide +kernel
theorem dX4_kindOfWord_23 : decode cX4_kindOfWord 23 = .ok (.ldc 101, 2) := by decide +kernel
theorem dX4_kindOfWord_25 : decode cX4_kindOfWord 25 = .ok (.invokevirtual 48, 3) := by decide +kernel
theorem dX4_kindOfWord_28 : decode cX4_kindOfWord 28 = .ok (.ifCond .eq 5, 3) := by decide +kernel
theorem dX4_kindOfWord_31 : decode cX4_kindOfWord 31 = .ok (.iconst 2, 1) := by decide +kernel
theorem dX4_kindOfWord_32 : decode cX4_kindOfWord 32 = .ok (.ireturn, 1) := by decide +kernel
theorem dX4_kindOfWord_33 : decode cX4_kindOfWord 33 = .ok (.aload_n 0, 1) := by decide +kernel
theorem dX4_kindOfWord_34 : decode cX4_kindOfWord 34 = .ok (.ldc 103, 2) := by decide +kernel
theorem dX4_kindOfWord_36 : decode cX4_kindOfWord 36 = .ok (.invokevirtual 48, 3) := by decide +kernel
theorem dX4_kindOfWord_39 : decode cX4_kindOfWord 39 = .ok (.ifCond .eq 5, 3) := by decide +kernel
theorem dX4_kindOfWord_42 : decode cX4_kindOfWord 42 = .ok (.iconst 3, 1) := by decide +kernel
theorem dX4_kindOfWord_43 : decode cX4_kindOfWord 43 = .ok (.ireturn, 1) := by decide +kernel
theorem dX4_kindOfWord_44 : decode cX4_kindOfWord 44 = .ok (.aload_n 0, 1) := by decide +kernel
theorem dX4_kindOfWord_45 : decode cX4_kindOfWord 45 = .ok (.ldc 105, 2) := by decide +kernel
theorem dX4_kindOfWord_47 : decode cX4_kindOfWord 47 = .ok (.invokevirtual 48, 3) := by decide +kernel
theorem dX4_kindOfWord_50 : decode cX4_kindOfWord 50 = .ok (.ifCond .eq 5, 3) := by decide +kernel
theorem dX4_kindOfWord_53 : decode cX4_kindOfWord 53 = .ok (.iconst 4, 1) := by decide +kernel
theorem dX4_kindOfWord_54 : decode cX4_kindOfWord 54 = .ok (.ireturn, 1) := by decide +kernel
theorem dX4_kindOfWord_55 : decode cX4_kindOfWord 55 = .ok (.aload_n 0, 1) := by decide +kernel
theorem dX4_kindOfWord_56 : decode cX4_kindOfWord 56 = .ok (.ldc 107, 2) := by decide +kernel
theorem dX4_kindOfWord_58 : decode cX4_kindOfWord 58 = .ok (.invokevirtual 48, 3) := by decide +kernel
theorem dX4_kindOfWord_61 : decode cX4_kindOfWord 61 = .ok (.ifCond .eq 5, 3) := by decide +kernel
theorem dX4_kindOfWord_64 : decode cX4_kindOfWord 64 = .ok (.iconst 5, 1) := by decide +kernel
theorem dX4_kindOfWord_65 : decode cX4_kindOfWord 65 = .ok (.ireturn, 1) := by decide +kernel
theorem dX4_kindOfWord_66 : decode cX4_kindOfWord 66 = .ok (.aload_n 0, 1) := by decide +kernel
theorem dX4_kindOfWord_67 : decode cX4_kindOfWord 67 = .ok (.ldc 109, 2) := by decide +kernel
theorem dX4_kindOfWord_69 : decode cX4_kindOfWord 69 = .ok (.invokevirtual 48, 3) := by decide +kernel
theorem dX4_kindOfWord_72 : decode cX4_kindOfWord 72 = .ok (.ifCond .eq 8, 3) := by decide +kernel
theorem dX4_kindOfWord_75 : decode cX4_kindOfWord 75 = .ok (.bipush 6, 2) := by decide +kernel
theorem dX4_kindOfWord_77 : decode cX4_kindOfWord 77 = .ok (.goto 4, 3) := by decide +kernel
theorem dX4_kindOfWord_80 : decode cX4_kindOfWord 80 = .ok (.iconst (-1), 1) := by decide +kernel
theorem dX4_kindOfWord_81 : decode cX4_kindOfWord 81 = .ok (.ireturn, 1) := by decide +kernel
set_option maxHeartbeats 4000000 in
set_option maxRecDepth 100000 in
theorem zz_A (l : Launch) (D : va_G) (cy : Nat → ClassId) (ad adK adV : Nat → Nat) (M : Mm) (o0 : Nat) (res : Mm × Int32) (h : f_X4_kindOfWord M o0 = some res) : Met l yX4_kindOfWord (wU yX4_kindOfWord cX4_kindOfWord 1 (some .int)) rmX4_kindOfWord (va_Pc [.ref (ad o0)] (Pre D cy shX ad nX adK adV M)) (va_Qi (fun r (M2 : Mm) => r = res.2 ∧ M2 = res.1) (Pre D cy shX ad nX adK adV) (Aw ad nX)) 0 0 (Aw ad nX) := by
  refine Met.ofW (cc := cX4_kindOfWord) (maxL := 1) (ret := (some .int)) (by decide) rfl ?_
  intro p e s m args below meth c s₁ B hml hv
  obtain ⟨hargs, hPre⟩ := hv
  have hx := B.exec
  have hb := B.bytes
  have hr := B.returns
  have hts := atoms_spec (ws := wU yX4_kindOfWord cX4_kindOfWord 1 (some .int)) B.pre
  have hq : ∀ w ∈ gW, w.before args s = true := fun w hw => hts w (List.mem_cons_of_mem _ hw)
  have hcm : ∀ w ∈ gW, w ∈ wU yX4_kindOfWord cX4_kindOfWord 1 (some .int) := fun w hw => List.mem_cons_of_mem _ hw
  have hown : s.vm.findClass RX4 = some m.cls := findClass_of_methodNamed B.named
  have hlocks := B.notSynchronized
  have hF : CallFix p m c cX4_kindOfWord 1 s args (wU yX4_kindOfWord cX4_kindOfWord 1 (some .int)) RX4 := ⟨hx, hb, hml, hown, hts⟩
  have hK := hPre.2.1
  have hZ := hPre.2.2.2
  have hw : Wd D cy shX ad nX (Aw ad nX) s.heap M s.heap [] := ⟨hPre.1, hPre.2.2.1, va_S.rf⟩
  rw [show entryFrame m args 1 = entryFrame m ([.ref (ad o0)] : List Value).toArray 1 from by rw [hargs]]
  have hl := lv_entry ([.ref (ad o0)]) (n := 1) (Nat.le_of_ble_eq_true rfl)
  rw [lg_entry_eq]
  generalize (lg_sl ([.ref (ad o0)]) ++ List.replicate (1 - (lg_sl ([.ref (ad o0)])).length) Slot.unset).toArray = ls at hl ⊢
  have hl : lv_has ls 1 [(0, .ref (ad o0))] := hl
  unfold f_X4_kindOfWord at h
  refine lv_aload_n hx hb dX4_kindOfWord_0 rfl (lv_at hl 0 rfl) ?_
  refine va_ldcS (own := RX4) (tx := "side") (index := 97) (q := adK 0) hx hb hown (hZ.str stm0) dX4_kindOfWord_1 ?_
  exact sorry
end
section
set_option maxHeartbeats 4000000 in
set_option maxRecDepth 100000 in
theorem zz_C (l : Launch) (D : va_G) (cy : Nat → ClassId) (ad adK adV : Nat → Nat) (M : Mm) (o0 : Nat) (res : Mm × Int32) (h : f_X4_kindOfWord M o0 = some res) : Met l yX4_kindOfWord (wU yX4_kindOfWord cX4_kindOfWord 1 (some .int)) rmX4_kindOfWord (va_Pc [.ref (ad o0)] (Pre D cy shX ad nX adK adV M)) (va_Qi (fun r (M2 : Mm) => r = res.2 ∧ M2 = res.1) (Pre D cy shX ad nX adK adV) (Aw ad nX)) 0 0 (Aw ad nX) := by
  refine Met.ofW (cc := cX4_kindOfWord) (maxL := 1) (ret := (some .int)) (by decide) rfl ?_
  intro p e s m args below meth c s₁ B hml hv
  obtain ⟨hargs, hPre⟩ := hv
  have hx := B.exec
  have hb := B.bytes
  have hr := B.returns
  have hts := atoms_spec (ws := wU yX4_kindOfWord cX4_kindOfWord 1 (some .int)) B.pre
  have hq : ∀ w ∈ gW, w.before args s = true := fun w hw => hts w (List.mem_cons_of_mem _ hw)
  have hcm : ∀ w ∈ gW, w ∈ wU yX4_kindOfWord cX4_kindOfWord 1 (some .int) := fun w hw => List.mem_cons_of_mem _ hw
  have hown : s.vm.findClass RX4 = some m.cls := findClass_of_methodNamed B.named
  have hlocks := B.notSynchronized
  have hF : CallFix p m c cX4_kindOfWord 1 s args (wU yX4_kindOfWord cX4_kindOfWord 1 (some .int)) RX4 := ⟨hx, hb, hml, hown, hts⟩
  have hK := hPre.2.1
  have hZ := hPre.2.2.2
  have hw : Wd D cy shX ad nX (Aw ad nX) s.heap M s.heap [] := ⟨hPre.1, hPre.2.2.1, va_S.rf⟩
  rw [show entryFrame m args 1 = entryFrame m ([.ref (ad o0)] : List Value).toArray 1 from by rw [hargs]]
  have hl := lv_entry ([.ref (ad o0)]) (n := 1) (Nat.le_of_ble_eq_true rfl)
  rw [lg_entry_eq]
  generalize (lg_sl ([.ref (ad o0)]) ++ List.replicate (1 - (lg_sl ([.ref (ad o0)])).length) Slot.unset).toArray = ls at hl ⊢
  have hl : lv_has ls 1 [(0, .ref (ad o0))] := hl
  unfold f_X4_kindOfWord at h
  refine lv_aload_n hx hb dX4_kindOfWord_0 rfl (lv_at hl 0 rfl) ?_
  refine va_ldcS (own := RX4) (tx := "side") (index := 97) (q := adK 0) hx hb hown sorry dX4_kindOfWord_1 ?_
  exact sorry
end
