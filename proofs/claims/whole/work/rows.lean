section
-- ===== PART A: goes FIRST, ahead of the names: the tables' words, and 'selects' of the private methods out of them =====
/-- a private method of a class that the tables say can be made, by its rows of tables_1 -/
def lw_okq (q : MethodName × Nat) : Prop := (q.1.cls ≠ "java/lang/invoke/MethodHandle" ∧ q.1.cls ≠ "java/lang/invoke/VarHandle") ∧ Cond.instantiable q.1.cls q.2 ∈ tables_1 ∧ Cond.privateMethod q.1 ∈ tables_1 ∧ Cond.instanceMethod q.1 ∈ tables_1
theorem lw_p0 : lw_okq (⟨"Phrasehall$Phrase", "isEntry", "(I)Z"⟩, 7) := ⟨⟨by decide +kernel, by decide +kernel⟩, List.mem_of_getElem? (i := 31) (by decide +kernel), List.mem_of_getElem? (i := 155) (by decide +kernel), List.mem_of_getElem? (i := 156) (by decide +kernel)⟩
theorem lw_p1 : lw_okq (⟨"Phrasehall$RightOfWay", "attack", "(II)V"⟩, 5) := ⟨⟨by decide +kernel, by decide +kernel⟩, List.mem_of_getElem? (i := 37) (by decide +kernel), List.mem_of_getElem? (i := 163) (by decide +kernel), List.mem_of_getElem? (i := 164) (by decide +kernel)⟩
theorem lw_p2 : lw_okq (⟨"Phrasehall$RightOfWay", "give", "(III)V"⟩, 5) := ⟨⟨by decide +kernel, by decide +kernel⟩, List.mem_of_getElem? (i := 37) (by decide +kernel), List.mem_of_getElem? (i := 167) (by decide +kernel), List.mem_of_getElem? (i := 168) (by decide +kernel)⟩
theorem lw_p3 : lw_okq (⟨"Phrasehall$RightOfWay", "parry", "(II)V"⟩, 5) := ⟨⟨by decide +kernel, by decide +kernel⟩, List.mem_of_getElem? (i := 37) (by decide +kernel), List.mem_of_getElem? (i := 171) (by decide +kernel), List.mem_of_getElem? (i := 172) (by decide +kernel)⟩
theorem lw_p4 : lw_okq (⟨"java/lang/Throwable", "fillInStackTrace", "(I)Ljava/lang/Throwable;"⟩, 6) := ⟨⟨by decide +kernel, by decide +kernel⟩, List.mem_of_getElem? (i := 225) (by decide +kernel), List.mem_of_getElem? (i := 223) (by decide +kernel), List.mem_of_getElem? (i := 224) (by decide +kernel)⟩
theorem lw_p5 : lw_okq (⟨"Phrasehall", "poolOf", "(I)LPhrasehall$Pool;"⟩, 10) := ⟨⟨by decide +kernel, by decide +kernel⟩, List.mem_of_getElem? (i := 19) (by decide +kernel), List.mem_of_getElem? (i := 264) (by decide +kernel), List.mem_of_getElem? (i := 265) (by decide +kernel)⟩
theorem lw_p6 : lw_okq (⟨"Phrasehall", "isFencer", "(I)Z"⟩, 10) := ⟨⟨by decide +kernel, by decide +kernel⟩, List.mem_of_getElem? (i := 19) (by decide +kernel), List.mem_of_getElem? (i := 268) (by decide +kernel), List.mem_of_getElem? (i := 269) (by decide +kernel)⟩
theorem lw_p7 : lw_okq (⟨"Phrasehall", "putOnPiste", "(LPhrasehall$Bout;)I"⟩, 10) := ⟨⟨by decide +kernel, by decide +kernel⟩, List.mem_of_getElem? (i := 19) (by decide +kernel), List.mem_of_getElem? (i := 385) (by decide +kernel), List.mem_of_getElem? (i := 386) (by decide +kernel)⟩
theorem lw_p8 : lw_okq (⟨"Phrasehall", "checkRoomInPhrase", "(I)V"⟩, 10) := ⟨⟨by decide +kernel, by decide +kernel⟩, List.mem_of_getElem? (i := 19) (by decide +kernel), List.mem_of_getElem? (i := 401) (by decide +kernel), List.mem_of_getElem? (i := 402) (by decide +kernel)⟩
theorem lw_p9 : lw_okq (⟨"Phrasehall$Phrase", "append", "(IIIII)I"⟩, 7) := ⟨⟨by decide +kernel, by decide +kernel⟩, List.mem_of_getElem? (i := 31) (by decide +kernel), List.mem_of_getElem? (i := 422) (by decide +kernel), List.mem_of_getElem? (i := 423) (by decide +kernel)⟩
theorem lw_p10 : lw_okq (⟨"Phrasehall", "boutOnPiste", "()LPhrasehall$Bout;"⟩, 10) := ⟨⟨by decide +kernel, by decide +kernel⟩, List.mem_of_getElem? (i := 19) (by decide +kernel), List.mem_of_getElem? (i := 446) (by decide +kernel), List.mem_of_getElem? (i := 447) (by decide +kernel)⟩
theorem lw_p11 : lw_okq (⟨"Phrasehall", "judgeFor", "(IZ)I"⟩, 10) := ⟨⟨by decide +kernel, by decide +kernel⟩, List.mem_of_getElem? (i := 19) (by decide +kernel), List.mem_of_getElem? (i := 455) (by decide +kernel), List.mem_of_getElem? (i := 456) (by decide +kernel)⟩
theorem lw_p12 : lw_okq (⟨"Phrasehall$Phrase", "couldRegister", "(II)Z"⟩, 7) := ⟨⟨by decide +kernel, by decide +kernel⟩, List.mem_of_getElem? (i := 31) (by decide +kernel), List.mem_of_getElem? (i := 463) (by decide +kernel), List.mem_of_getElem? (i := 464) (by decide +kernel)⟩
theorem lw_p13 : lw_okq (⟨"Phrasehall", "because", "(II)I"⟩, 10) := ⟨⟨by decide +kernel, by decide +kernel⟩, List.mem_of_getElem? (i := 19) (by decide +kernel), List.mem_of_getElem? (i := 473) (by decide +kernel), List.mem_of_getElem? (i := 474) (by decide +kernel)⟩
theorem lw_p14 : lw_okq (⟨"Phrasehall", "judgeByRight", "(II)I"⟩, 10) := ⟨⟨by decide +kernel, by decide +kernel⟩, List.mem_of_getElem? (i := 19) (by decide +kernel), List.mem_of_getElem? (i := 484) (by decide +kernel), List.mem_of_getElem? (i := 485) (by decide +kernel)⟩
theorem lw_p15 : lw_okq (⟨"Phrasehall$Bout", "addTouches", "(I)V"⟩, 10) := ⟨⟨by decide +kernel, by decide +kernel⟩, List.mem_of_getElem? (i := 320) (by decide +kernel), List.mem_of_getElem? (i := 496) (by decide +kernel), List.mem_of_getElem? (i := 497) (by decide +kernel)⟩
def lw_privs_1 : List (MethodName × Nat) := [(⟨"Phrasehall$Phrase", "isEntry", "(I)Z"⟩, 7), (⟨"Phrasehall$RightOfWay", "attack", "(II)V"⟩, 5), (⟨"Phrasehall$RightOfWay", "give", "(III)V"⟩, 5), (⟨"Phrasehall$RightOfWay", "parry", "(II)V"⟩, 5), (⟨"java/lang/Throwable", "fillInStackTrace", "(I)Ljava/lang/Throwable;"⟩, 6), (⟨"Phrasehall", "poolOf", "(I)LPhrasehall$Pool;"⟩, 10), (⟨"Phrasehall", "isFencer", "(I)Z"⟩, 10), (⟨"Phrasehall", "putOnPiste", "(LPhrasehall$Bout;)I"⟩, 10), (⟨"Phrasehall", "checkRoomInPhrase", "(I)V"⟩, 10), (⟨"Phrasehall$Phrase", "append", "(IIIII)I"⟩, 7), (⟨"Phrasehall", "boutOnPiste", "()LPhrasehall$Bout;"⟩, 10), (⟨"Phrasehall", "judgeFor", "(IZ)I"⟩, 10), (⟨"Phrasehall$Phrase", "couldRegister", "(II)Z"⟩, 7), (⟨"Phrasehall", "because", "(II)I"⟩, 10), (⟨"Phrasehall", "judgeByRight", "(II)I"⟩, 10), (⟨"Phrasehall$Bout", "addTouches", "(I)V"⟩, 10)]
theorem lw_r1 : ∀ q ∈ lw_privs_1, lw_okq q := List.forall_mem_cons.mpr ⟨lw_p0, List.forall_mem_cons.mpr ⟨lw_p1, List.forall_mem_cons.mpr ⟨lw_p2, List.forall_mem_cons.mpr ⟨lw_p3, List.forall_mem_cons.mpr ⟨lw_p4, List.forall_mem_cons.mpr ⟨lw_p5, List.forall_mem_cons.mpr ⟨lw_p6, List.forall_mem_cons.mpr ⟨lw_p7, List.forall_mem_cons.mpr ⟨lw_p8, List.forall_mem_cons.mpr ⟨lw_p9, List.forall_mem_cons.mpr ⟨lw_p10, List.forall_mem_cons.mpr ⟨lw_p11, List.forall_mem_cons.mpr ⟨lw_p12, List.forall_mem_cons.mpr ⟨lw_p13, List.forall_mem_cons.mpr ⟨lw_p14, List.forall_mem_cons.mpr ⟨lw_p15, fun _ h => absurd h List.not_mem_nil⟩⟩⟩⟩⟩⟩⟩⟩⟩⟩⟩⟩⟩⟩⟩⟩
theorem lw_p16 : lw_okq (⟨"Phrasehall$Bout", "isLike", "()Z"⟩, 10) := ⟨⟨by decide +kernel, by decide +kernel⟩, List.mem_of_getElem? (i := 320) (by decide +kernel), List.mem_of_getElem? (i := 500) (by decide +kernel), List.mem_of_getElem? (i := 501) (by decide +kernel)⟩
theorem lw_p17 : lw_okq (⟨"Phrasehall", "clearPisteIfOver", "(LPhrasehall$Bout;)V"⟩, 10) := ⟨⟨by decide +kernel, by decide +kernel⟩, List.mem_of_getElem? (i := 19) (by decide +kernel), List.mem_of_getElem? (i := 516) (by decide +kernel), List.mem_of_getElem? (i := 517) (by decide +kernel)⟩
theorem lw_p18 : lw_okq (⟨"Phrasehall$Bout", "corner", "(I)LPhrasehall$Corner;"⟩, 10) := ⟨⟨by decide +kernel, by decide +kernel⟩, List.mem_of_getElem? (i := 320) (by decide +kernel), List.mem_of_getElem? (i := 532) (by decide +kernel), List.mem_of_getElem? (i := 533) (by decide +kernel)⟩
theorem lw_p19 : lw_okq (⟨"Phrasehall$Pool", "addTo", "(III)V"⟩, 5) := ⟨⟨by decide +kernel, by decide +kernel⟩, List.mem_of_getElem? (i := 538) (by decide +kernel), List.mem_of_getElem? (i := 536) (by decide +kernel), List.mem_of_getElem? (i := 537) (by decide +kernel)⟩
theorem lw_p20 : lw_okq (⟨"Phrasehall$Bout", "becomePassive", "()V"⟩, 10) := ⟨⟨by decide +kernel, by decide +kernel⟩, List.mem_of_getElem? (i := 320) (by decide +kernel), List.mem_of_getElem? (i := 575) (by decide +kernel), List.mem_of_getElem? (i := 576) (by decide +kernel)⟩
theorem lw_p21 : lw_okq (⟨"Phrasehall$Bout", "lookAtTime", "(LPhrasehall$Lot;)V"⟩, 10) := ⟨⟨by decide +kernel, by decide +kernel⟩, List.mem_of_getElem? (i := 320) (by decide +kernel), List.mem_of_getElem? (i := 580) (by decide +kernel), List.mem_of_getElem? (i := 581) (by decide +kernel)⟩
theorem lw_p22 : lw_okq (⟨"Phrasehall$Bout", "timeLimit", "()I"⟩, 10) := ⟨⟨by decide +kernel, by decide +kernel⟩, List.mem_of_getElem? (i := 320) (by decide +kernel), List.mem_of_getElem? (i := 584) (by decide +kernel), List.mem_of_getElem? (i := 585) (by decide +kernel)⟩
theorem lw_p23 : lw_okq (⟨"Phrasehall", "poolWith", "(II)LPhrasehall$Pool;"⟩, 10) := ⟨⟨by decide +kernel, by decide +kernel⟩, List.mem_of_getElem? (i := 19) (by decide +kernel), List.mem_of_getElem? (i := 661) (by decide +kernel), List.mem_of_getElem? (i := 662) (by decide +kernel)⟩
theorem lw_p24 : lw_okq (⟨"Phrasehall", "isBusyFor", "(LPhrasehall$Pool;I)Z"⟩, 10) := ⟨⟨by decide +kernel, by decide +kernel⟩, List.mem_of_getElem? (i := 19) (by decide +kernel), List.mem_of_getElem? (i := 666) (by decide +kernel), List.mem_of_getElem? (i := 667) (by decide +kernel)⟩
theorem lw_p25 : lw_okq (⟨"Phrasehall", "boutAt", "(I)LPhrasehall$Bout;"⟩, 10) := ⟨⟨by decide +kernel, by decide +kernel⟩, List.mem_of_getElem? (i := 19) (by decide +kernel), List.mem_of_getElem? (i := 675) (by decide +kernel), List.mem_of_getElem? (i := 676) (by decide +kernel)⟩
theorem lw_p26 : lw_okq (⟨"Phrasehall$Pool", "isRanked", "(I)Z"⟩, 5) := ⟨⟨by decide +kernel, by decide +kernel⟩, List.mem_of_getElem? (i := 538) (by decide +kernel), List.mem_of_getElem? (i := 712) (by decide +kernel), List.mem_of_getElem? (i := 713) (by decide +kernel)⟩
theorem lw_p27 : lw_okq (⟨"Phrasehall$Pool", "insert", "(II)V"⟩, 5) := ⟨⟨by decide +kernel, by decide +kernel⟩, List.mem_of_getElem? (i := 538) (by decide +kernel), List.mem_of_getElem? (i := 716) (by decide +kernel), List.mem_of_getElem? (i := 717) (by decide +kernel)⟩
theorem lw_p28 : lw_okq (⟨"Phrasehall$Pool", "isAhead", "(II)Z"⟩, 5) := ⟨⟨by decide +kernel, by decide +kernel⟩, List.mem_of_getElem? (i := 538) (by decide +kernel), List.mem_of_getElem? (i := 720) (by decide +kernel), List.mem_of_getElem? (i := 721) (by decide +kernel)⟩
theorem lw_p29 : lw_okq (⟨"Phrasehall$Pool", "balance", "(I)I"⟩, 5) := ⟨⟨by decide +kernel, by decide +kernel⟩, List.mem_of_getElem? (i := 538) (by decide +kernel), List.mem_of_getElem? (i := 729) (by decide +kernel), List.mem_of_getElem? (i := 730) (by decide +kernel)⟩
theorem lw_p30 : lw_okq (⟨"Phrasehall$Bracket", "orderPlaces", "(I)V"⟩, 3) := ⟨⟨by decide +kernel, by decide +kernel⟩, List.mem_of_getElem? (i := 84) (by decide +kernel), List.mem_of_getElem? (i := 737) (by decide +kernel), List.mem_of_getElem? (i := 738) (by decide +kernel)⟩
theorem lw_p31 : lw_okq (⟨"Phrasehall$Bracket", "put", "(II)V"⟩, 3) := ⟨⟨by decide +kernel, by decide +kernel⟩, List.mem_of_getElem? (i := 84) (by decide +kernel), List.mem_of_getElem? (i := 741) (by decide +kernel), List.mem_of_getElem? (i := 742) (by decide +kernel)⟩
def lw_privs_2 : List (MethodName × Nat) := [(⟨"Phrasehall$Bout", "isLike", "()Z"⟩, 10), (⟨"Phrasehall", "clearPisteIfOver", "(LPhrasehall$Bout;)V"⟩, 10), (⟨"Phrasehall$Bout", "corner", "(I)LPhrasehall$Corner;"⟩, 10), (⟨"Phrasehall$Pool", "addTo", "(III)V"⟩, 5), (⟨"Phrasehall$Bout", "becomePassive", "()V"⟩, 10), (⟨"Phrasehall$Bout", "lookAtTime", "(LPhrasehall$Lot;)V"⟩, 10), (⟨"Phrasehall$Bout", "timeLimit", "()I"⟩, 10), (⟨"Phrasehall", "poolWith", "(II)LPhrasehall$Pool;"⟩, 10), (⟨"Phrasehall", "isBusyFor", "(LPhrasehall$Pool;I)Z"⟩, 10), (⟨"Phrasehall", "boutAt", "(I)LPhrasehall$Bout;"⟩, 10), (⟨"Phrasehall$Pool", "isRanked", "(I)Z"⟩, 5), (⟨"Phrasehall$Pool", "insert", "(II)V"⟩, 5), (⟨"Phrasehall$Pool", "isAhead", "(II)Z"⟩, 5), (⟨"Phrasehall$Pool", "balance", "(I)I"⟩, 5), (⟨"Phrasehall$Bracket", "orderPlaces", "(I)V"⟩, 3), (⟨"Phrasehall$Bracket", "put", "(II)V"⟩, 3)]
theorem lw_r2 : ∀ q ∈ lw_privs_2, lw_okq q := List.forall_mem_cons.mpr ⟨lw_p16, List.forall_mem_cons.mpr ⟨lw_p17, List.forall_mem_cons.mpr ⟨lw_p18, List.forall_mem_cons.mpr ⟨lw_p19, List.forall_mem_cons.mpr ⟨lw_p20, List.forall_mem_cons.mpr ⟨lw_p21, List.forall_mem_cons.mpr ⟨lw_p22, List.forall_mem_cons.mpr ⟨lw_p23, List.forall_mem_cons.mpr ⟨lw_p24, List.forall_mem_cons.mpr ⟨lw_p25, List.forall_mem_cons.mpr ⟨lw_p26, List.forall_mem_cons.mpr ⟨lw_p27, List.forall_mem_cons.mpr ⟨lw_p28, List.forall_mem_cons.mpr ⟨lw_p29, List.forall_mem_cons.mpr ⟨lw_p30, List.forall_mem_cons.mpr ⟨lw_p31, fun _ h => absurd h List.not_mem_nil⟩⟩⟩⟩⟩⟩⟩⟩⟩⟩⟩⟩⟩⟩⟩⟩
theorem lw_p32 : lw_okq (⟨"Phrasehall$Bracket", "passBye", "(I)V"⟩, 3) := ⟨⟨by decide +kernel, by decide +kernel⟩, List.mem_of_getElem? (i := 84) (by decide +kernel), List.mem_of_getElem? (i := 749) (by decide +kernel), List.mem_of_getElem? (i := 750) (by decide +kernel)⟩
theorem lw_p33 : lw_okq (⟨"Phrasehall$Bracket", "at", "(I)I"⟩, 3) := ⟨⟨by decide +kernel, by decide +kernel⟩, List.mem_of_getElem? (i := 84) (by decide +kernel), List.mem_of_getElem? (i := 753) (by decide +kernel), List.mem_of_getElem? (i := 754) (by decide +kernel)⟩
theorem lw_p34 : lw_okq (⟨"Phrasehall", "checkMatch", "(II)V"⟩, 10) := ⟨⟨by decide +kernel, by decide +kernel⟩, List.mem_of_getElem? (i := 19) (by decide +kernel), List.mem_of_getElem? (i := 764) (by decide +kernel), List.mem_of_getElem? (i := 765) (by decide +kernel)⟩
theorem lw_p35 : lw_okq (⟨"Phrasehall$Bracket", "matchesIn", "(I)I"⟩, 3) := ⟨⟨by decide +kernel, by decide +kernel⟩, List.mem_of_getElem? (i := 84) (by decide +kernel), List.mem_of_getElem? (i := 772) (by decide +kernel), List.mem_of_getElem? (i := 773) (by decide +kernel)⟩
theorem lw_p36 : lw_okq (⟨"Phrasehall$Bracket", "nodeOf", "(II)I"⟩, 3) := ⟨⟨by decide +kernel, by decide +kernel⟩, List.mem_of_getElem? (i := 84) (by decide +kernel), List.mem_of_getElem? (i := 786) (by decide +kernel), List.mem_of_getElem? (i := 787) (by decide +kernel)⟩
theorem lw_p37 : lw_okq (⟨"PhrasehallModel", "isFencer", "(I)Z"⟩, 32) := ⟨⟨by decide +kernel, by decide +kernel⟩, List.mem_of_getElem? (i := 861) (by decide +kernel), List.mem_of_getElem? (i := 977) (by decide +kernel), List.mem_of_getElem? (i := 978) (by decide +kernel)⟩
theorem lw_p38 : lw_okq (⟨"PhrasehallModel", "isPool", "(I)Z"⟩, 32) := ⟨⟨by decide +kernel, by decide +kernel⟩, List.mem_of_getElem? (i := 861) (by decide +kernel), List.mem_of_getElem? (i := 984) (by decide +kernel), List.mem_of_getElem? (i := 985) (by decide +kernel)⟩
theorem lw_p39 : lw_okq (⟨"PhrasehallModel", "may", "(I)Z"⟩, 32) := ⟨⟨by decide +kernel, by decide +kernel⟩, List.mem_of_getElem? (i := 861) (by decide +kernel), List.mem_of_getElem? (i := 999) (by decide +kernel), List.mem_of_getElem? (i := 1000) (by decide +kernel)⟩
theorem lw_p40 : lw_okq (⟨"PhrasehallModel", "puts", "(III)I"⟩, 32) := ⟨⟨by decide +kernel, by decide +kernel⟩, List.mem_of_getElem? (i := 861) (by decide +kernel), List.mem_of_getElem? (i := 1003) (by decide +kernel), List.mem_of_getElem? (i := 1004) (by decide +kernel)⟩
theorem lw_p41 : lw_okq (⟨"PhrasehallModel", "given", "()I"⟩, 32) := ⟨⟨by decide +kernel, by decide +kernel⟩, List.mem_of_getElem? (i := 861) (by decide +kernel), List.mem_of_getElem? (i := 1015) (by decide +kernel), List.mem_of_getElem? (i := 1016) (by decide +kernel)⟩
theorem lw_p42 : lw_okq (⟨"PhrasehallModel", "registered", "(I)I"⟩, 32) := ⟨⟨by decide +kernel, by decide +kernel⟩, List.mem_of_getElem? (i := 861) (by decide +kernel), List.mem_of_getElem? (i := 1019) (by decide +kernel), List.mem_of_getElem? (i := 1020) (by decide +kernel)⟩
theorem lw_p43 : lw_okq (⟨"PhrasehallModel", "rights", "(I)I"⟩, 32) := ⟨⟨by decide +kernel, by decide +kernel⟩, List.mem_of_getElem? (i := 861) (by decide +kernel), List.mem_of_getElem? (i := 1029) (by decide +kernel), List.mem_of_getElem? (i := 1030) (by decide +kernel)⟩
theorem lw_p44 : lw_okq (⟨"PhrasehallModel", "gives", "(I)V"⟩, 32) := ⟨⟨by decide +kernel, by decide +kernel⟩, List.mem_of_getElem? (i := 861) (by decide +kernel), List.mem_of_getElem? (i := 1033) (by decide +kernel), List.mem_of_getElem? (i := 1034) (by decide +kernel)⟩
theorem lw_p45 : lw_okq (⟨"PhrasehallModel", "ahead", "()I"⟩, 32) := ⟨⟨by decide +kernel, by decide +kernel⟩, List.mem_of_getElem? (i := 861) (by decide +kernel), List.mem_of_getElem? (i := 1037) (by decide +kernel), List.mem_of_getElem? (i := 1038) (by decide +kernel)⟩
theorem lw_p46 : lw_okq (⟨"PhrasehallModel", "ends", "(I)V"⟩, 32) := ⟨⟨by decide +kernel, by decide +kernel⟩, List.mem_of_getElem? (i := 861) (by decide +kernel), List.mem_of_getElem? (i := 1041) (by decide +kernel), List.mem_of_getElem? (i := 1042) (by decide +kernel)⟩
theorem lw_p47 : lw_okq (⟨"PhrasehallModel", "second", "()V"⟩, 32) := ⟨⟨by decide +kernel, by decide +kernel⟩, List.mem_of_getElem? (i := 861) (by decide +kernel), List.mem_of_getElem? (i := 1053) (by decide +kernel), List.mem_of_getElem? (i := 1054) (by decide +kernel)⟩
def lw_privs_3 : List (MethodName × Nat) := [(⟨"Phrasehall$Bracket", "passBye", "(I)V"⟩, 3), (⟨"Phrasehall$Bracket", "at", "(I)I"⟩, 3), (⟨"Phrasehall", "checkMatch", "(II)V"⟩, 10), (⟨"Phrasehall$Bracket", "matchesIn", "(I)I"⟩, 3), (⟨"Phrasehall$Bracket", "nodeOf", "(II)I"⟩, 3), (⟨"PhrasehallModel", "isFencer", "(I)Z"⟩, 32), (⟨"PhrasehallModel", "isPool", "(I)Z"⟩, 32), (⟨"PhrasehallModel", "may", "(I)Z"⟩, 32), (⟨"PhrasehallModel", "puts", "(III)I"⟩, 32), (⟨"PhrasehallModel", "given", "()I"⟩, 32), (⟨"PhrasehallModel", "registered", "(I)I"⟩, 32), (⟨"PhrasehallModel", "rights", "(I)I"⟩, 32), (⟨"PhrasehallModel", "gives", "(I)V"⟩, 32), (⟨"PhrasehallModel", "ahead", "()I"⟩, 32), (⟨"PhrasehallModel", "ends", "(I)V"⟩, 32), (⟨"PhrasehallModel", "second", "()V"⟩, 32)]
theorem lw_r3 : ∀ q ∈ lw_privs_3, lw_okq q := List.forall_mem_cons.mpr ⟨lw_p32, List.forall_mem_cons.mpr ⟨lw_p33, List.forall_mem_cons.mpr ⟨lw_p34, List.forall_mem_cons.mpr ⟨lw_p35, List.forall_mem_cons.mpr ⟨lw_p36, List.forall_mem_cons.mpr ⟨lw_p37, List.forall_mem_cons.mpr ⟨lw_p38, List.forall_mem_cons.mpr ⟨lw_p39, List.forall_mem_cons.mpr ⟨lw_p40, List.forall_mem_cons.mpr ⟨lw_p41, List.forall_mem_cons.mpr ⟨lw_p42, List.forall_mem_cons.mpr ⟨lw_p43, List.forall_mem_cons.mpr ⟨lw_p44, List.forall_mem_cons.mpr ⟨lw_p45, List.forall_mem_cons.mpr ⟨lw_p46, List.forall_mem_cons.mpr ⟨lw_p47, fun _ h => absurd h List.not_mem_nil⟩⟩⟩⟩⟩⟩⟩⟩⟩⟩⟩⟩⟩⟩⟩⟩
theorem lw_p48 : lw_okq (⟨"PhrasehallModel", "isMember", "(II)Z"⟩, 32) := ⟨⟨by decide +kernel, by decide +kernel⟩, List.mem_of_getElem? (i := 861) (by decide +kernel), List.mem_of_getElem? (i := 1084) (by decide +kernel), List.mem_of_getElem? (i := 1085) (by decide +kernel)⟩
theorem lw_p49 : lw_okq (⟨"PhrasehallModel", "tells", "(III)I"⟩, 32) := ⟨⟨by decide +kernel, by decide +kernel⟩, List.mem_of_getElem? (i := 861) (by decide +kernel), List.mem_of_getElem? (i := 1088) (by decide +kernel), List.mem_of_getElem? (i := 1089) (by decide +kernel)⟩
theorem lw_p50 : lw_okq (⟨"PhrasehallModel", "sideIn", "(III)I"⟩, 32) := ⟨⟨by decide +kernel, by decide +kernel⟩, List.mem_of_getElem? (i := 861) (by decide +kernel), List.mem_of_getElem? (i := 1092) (by decide +kernel), List.mem_of_getElem? (i := 1093) (by decide +kernel)⟩
theorem lw_p51 : lw_okq (⟨"PhrasehallModel", "ranks", "(I)I"⟩, 32) := ⟨⟨by decide +kernel, by decide +kernel⟩, List.mem_of_getElem? (i := 861) (by decide +kernel), List.mem_of_getElem? (i := 1100) (by decide +kernel), List.mem_of_getElem? (i := 1101) (by decide +kernel)⟩
theorem lw_p52 : lw_okq (⟨"PhrasehallModel", "isBetter", "(III)Z"⟩, 32) := ⟨⟨by decide +kernel, by decide +kernel⟩, List.mem_of_getElem? (i := 861) (by decide +kernel), List.mem_of_getElem? (i := 1104) (by decide +kernel), List.mem_of_getElem? (i := 1105) (by decide +kernel)⟩
theorem lw_p53 : lw_okq (⟨"PhrasehallModel", "isWon", "(III)V"⟩, 32) := ⟨⟨by decide +kernel, by decide +kernel⟩, List.mem_of_getElem? (i := 861) (by decide +kernel), List.mem_of_getElem? (i := 1111) (by decide +kernel), List.mem_of_getElem? (i := 1112) (by decide +kernel)⟩
theorem lw_p54 : lw_okq (⟨"PhrasehallModel", "isMatch", "(II)Z"⟩, 32) := ⟨⟨by decide +kernel, by decide +kernel⟩, List.mem_of_getElem? (i := 861) (by decide +kernel), List.mem_of_getElem? (i := 1122) (by decide +kernel), List.mem_of_getElem? (i := 1123) (by decide +kernel)⟩
theorem lw_p55 : lw_okq (⟨"PhrasehallModel", "ofPools", "(III)I"⟩, 32) := ⟨⟨by decide +kernel, by decide +kernel⟩, List.mem_of_getElem? (i := 861) (by decide +kernel), List.mem_of_getElem? (i := 1146) (by decide +kernel), List.mem_of_getElem? (i := 1147) (by decide +kernel)⟩
def lw_privs_4 : List (MethodName × Nat) := [(⟨"PhrasehallModel", "isMember", "(II)Z"⟩, 32), (⟨"PhrasehallModel", "tells", "(III)I"⟩, 32), (⟨"PhrasehallModel", "sideIn", "(III)I"⟩, 32), (⟨"PhrasehallModel", "ranks", "(I)I"⟩, 32), (⟨"PhrasehallModel", "isBetter", "(III)Z"⟩, 32), (⟨"PhrasehallModel", "isWon", "(III)V"⟩, 32), (⟨"PhrasehallModel", "isMatch", "(II)Z"⟩, 32), (⟨"PhrasehallModel", "ofPools", "(III)I"⟩, 32)]
theorem lw_r4 : ∀ q ∈ lw_privs_4, lw_okq q := List.forall_mem_cons.mpr ⟨lw_p48, List.forall_mem_cons.mpr ⟨lw_p49, List.forall_mem_cons.mpr ⟨lw_p50, List.forall_mem_cons.mpr ⟨lw_p51, List.forall_mem_cons.mpr ⟨lw_p52, List.forall_mem_cons.mpr ⟨lw_p53, List.forall_mem_cons.mpr ⟨lw_p54, List.forall_mem_cons.mpr ⟨lw_p55, fun _ h => absurd h List.not_mem_nil⟩⟩⟩⟩⟩⟩⟩⟩
def lw_privs : List (MethodName × Nat) := lw_privs_1 ++ (lw_privs_2 ++ (lw_privs_3 ++ (lw_privs_4)))
def lw_tbl : List Cond := k2_sels lw_privs ++ tables_1
theorem lw_privs_ok : ∀ q ∈ lw_privs, lw_okq q := by
  show ∀ q ∈ lw_privs_1 ++ (lw_privs_2 ++ (lw_privs_3 ++ (lw_privs_4))), lw_okq q
  exact List.forall_mem_append.mpr ⟨lw_r1, List.forall_mem_append.mpr ⟨lw_r2, List.forall_mem_append.mpr ⟨lw_r3, lw_r4⟩⟩⟩
end
section
/-! ===== BEGIN exceptions that leave a method, and their catching by the caller (launches without stack traces) ===== -/
section VXA
/-! The laws vx_back, vx_callV, vx_callS, vx_callSW, vx_throw0, vx_throwS follow proofs of the library, with one case more: JvmDerived/Free/Laws.lean (Back.of_free), Shelf42/LK1.lean (callV, callS), Shelf/KitTraced.lean (throwNew0V, throwNewS). -/
/-- where a method has thrown q: the class by its name, the cell, what was written, the world -/
def vx_T (XC : String → State → State → Prop) (st : State) (q : Addr) (t : State) (mc ms : Nat) (free : Addr → Prop) : Prop :=
  ∃ (E : String) (ce : Cell) (L : List Loc), XC E st t ∧ t.heap[q]? = some ce ∧ ce.vm = .none ∧ st.vm.findClass E = some ce.cls ∧ st.WarmedH t.vm ∧ st.sameButNew ({ t with vm := st.vm } : State) L mc ms ∧ ∀ z ∈ L, free z.base
def vx_Q (Qc : Array Value → State → Outcome → State → Prop) (XC : String → State → State → Prop) (mc ms : Nat) (free : Addr → Prop) : Array Value → State → Outcome → State → Prop := fun a st o t =>
  (Qc a st o t ∧ ∃ L, FrameEnd st o t L mc ms ∧ ∀ q ∈ L, free q.base) ∨ ∃ q, o = .threw q ∧ vx_T XC st q t mc ms free
/-- a callee that returns or throws -/
def vx_Met (l : Launch) (y : MethodName) (ws : List Cond) (rm : Room) (Pc : Array Value → State → Prop) (Qc : Array Value → State → Outcome → State → Prop) (XC : String → State → State → Prop) (mc ms : Nat) (free : Addr → Prop) : Prop :=
  MetFree l y (headSpec ws rm) Pc (fun _ _ _ _ _ => True) (vx_Q Qc XC mc ms free)
def vx_Post (XC : String → State → State → Prop) (mc ms : Nat) (free : Addr → Prop) : Pt → Array Value → Addr → Pt → Prop := fun A a q B =>
  ∃ (g : JFrame) (mk : MethodId) (t : State) (L : List Loc) (E : String) (ce : Cell), B.U.heap = t.heap ∧ B.U.vm = t.vm ∧ XC E (A.U.calling g mk a) t ∧ t.heap[q]? = some ce ∧ ce.vm = .none ∧ A.U.vm.findClass E = some ce.cls ∧ B.locs = A.locs ++ L ∧ (∀ z ∈ L, free z.base) ∧ B.cells = A.cells + mc ∧ B.slots = A.slots + ms
def vx_Back (l : Launch) (R : Room) (p : Program) (e : Env) (below : List Frame) (s : State) (sargs : Array Value) (y : MethodName) (len W9 : Nat)
    (Pre : Pt → Array Value → Prop) (Post : Pt → Array Value → Option Value → Pt → Prop) (PostX : Pt → Array Value → Addr → Pt → Prop) : Prop :=
  ∀ (m : MethodId) (meth : Method) (c : Code) (A : Pt) (g : JFrame) (ig : Instr) (mk : MethodId) (a : Array Value),
    Stand p l e R s m sargs below meth c A.U A.locs A.cells A.slots → g.method = m → g.locals.size = c.maxLocals → decode c.code g.pc = .ok (ig, len) →
    2 * g.monitorRoom + (g.stack.map fun v => v.category).sum ≤ W9 → A.U.methodNamed? y = some mk → Pre A a →
    (∃ (v : Option Value) (B : Pt), Stand p l e R s m sargs below meth c B.U B.locs B.cells B.slots ∧ Post A a v B ∧
      Steps p.tables e below (doInvoke e (A.U.setTop g) [] mk a).1 (B.U.setTop { g with pc := g.pc + len, stack := v.toList ++ g.stack })) ∨
    (∃ (q : Addr) (B : Pt), Stand p l e R s m sargs below meth c B.U B.locs B.cells B.slots ∧ PostX A a q B ∧
      Steps p.tables e below (doInvoke e (A.U.setTop g) [] mk a).1 ((B.U.setTop g).pushFrame (.throwing q)))
section Payer
variable {l : Launch} {R : Room} {p : Program} {e : Env} {below : List Frame} {s : State} {sargs : Array Value} {y : MethodName} {len W9 : Nat}
theorem vx_back {ws : List Cond} {rm : Room} {Pc : Array Value → State → Prop} {Qc : Array Value → State → Outcome → State → Prop} {XC : String → State → State → Prop} {mc ms : Nat} {free : Addr → Prop} {bytes : ByteArray} {maxL : Nat} {ret : Option FieldType}
    (hM : vx_Met l y ws rm Pc Qc XC mc ms free) (hblind : FrameBlind Pc) (hrc : rm.cells = mc) (hrs : rm.slots = ms)
    (hframes : rm.frames + 1 ≤ R.frames) (hlocals : W9 + (maxL + 11) + rm.locals ≤ R.locals)
    (hws : ∀ w ∈ ws, ∀ a' U, s.WarmedH U.vm → w.before a' U = true) (hcode : Cond.code y bytes maxL ret ∈ ws) (hinit : ∀ a' U, s.WarmedH U.vm → (Cond.initialized y.cls).before a' U = true) :
    vx_Back l R p e below s sargs y len W9 (PreOf R mc ms Pc) (PostOf Qc mc ms free) (vx_Post XC mc ms free) := by
  intro m meth c A g ig mk a X hg hsize hdg hW hn hp
  have h1 : (headSpec ws rm).pre.before a A.U = true := atoms_intro fun w hw => hws w hw _ _ X.warmed
  have h2 : (Cond.code y bytes maxL ret).before a A.U = true := hws _ hcode _ _ X.warmed
  have h3 : (Cond.initialized y.cls).before a A.U = true := hinit _ _ X.warmed
  have h4 : A.cells + (headSpec ws rm).room.cells ≤ R.cells := by rw [show (headSpec ws rm).room.cells = mc from hrc]; exact hp.1
  have h5 : A.slots + (headSpec ws rm).room.slots ≤ R.slots := by rw [show (headSpec ws rm).room.slots = ms from hrs]; exact hp.2.1
  have hPc : Pc a (A.U.calling g mk a) := hblind _ _ _ _ hp.2.2
  obtain ⟨U, Ls, c0, s0⟩ := A
  dsimp only [Pt.U, Pt.locs, Pt.cells, Pt.slots] at h1 h2 h3 h4 h5 X hn hPc ⊢
  obtain ⟨methY, cY, hmY, hcY, -, hlY, -, -, -, -⟩ := Cond.code_spec hn h2
  obtain ⟨kY, hkY, -⟩ := className_of_methodNamed hn
  have hinitY : kY.init = .initialized := Cond.initialized_spec (findClass_of_methodNamed hn) hkY h3
  have h : At U g.method c below := by rw [hg]; exact X.here
  have hlocals9 : W9 + (maxL + 11) + (headSpec ws rm).room.locals ≤ R.locals := hlocals
  have happ : (headSpec ws rm).appliesLoose y e.platform (U.calling g mk a) = true :=
    Spec.appliesLoose_calling (g := g) h hdg hn hkY hinitY
      (X.room_calling (g := g) (R' := (headSpec ws rm).room) hsize hmY hcY hframes (by rw [hlY]; omega) h4 h5) h1
  obtain ⟨mid, hmid⟩ := h.above
  have hfr : (U.setTop g).frames = (.java g :: mid) ++ below := by rw [State.frames_setTop' g h.top, hmid]; rfl
  obtain ⟨o, s₂, hsteps, -, hend, hq⟩ := Steps.callFree hM p X.admits X.cas X.clock (acts := []) hfr happ hPc trivial
  have hq' : vx_Q Qc XC mc ms free a (U.calling g mk a) o s₂ := hq
  rw [State.frames_setTop' g h.top] at hend
  obtain ⟨g₀, hg0⟩ := Option.isSome_iff_exists.mp h.top
  obtain ⟨r, hr⟩ := State.topJava?_eq_some.mp hg0
  have hr' : (({ U with heap := s₂.heap, slotsUsed := s₂.slotsUsed } : State).setVm s₂.vm).frames = .java g₀ :: r := hr
  rcases hq' with ⟨hqc, L, hfe, hL⟩ | ⟨q, rfl, E, ce, L, hx, hce, hcv, hcl, hW₂, hsm, hL⟩
  · obtain ⟨⟨v, rfl⟩, hW₂, e2, q2, q3, q4, q5, q6⟩ := id hfe
    have e3 : s₂ = ({ (U.calling g mk a).setFrames s₂.frames with heap := s₂.heap, slotsUsed := s₂.slotsUsed } : State).setVm s₂.vm := by
      have : s₂ = ({ s₂ with vm := (U.calling g mk a).vm } : State).setVm s₂.vm := rfl
      rw [e2] at this
      exact this
    obtain ⟨c₂, i₂, len₂, hc₂, hd₂, hf₂⟩ := hend
    have hW' : U.WarmedH s₂.vm := hW₂
    have hcc : c₂ = c := by
      have h1 : s₂.code? g.method = U.code? g.method := by
        rw [State.code?_eq, State.code?_eq, hW'.alike.method?]
      exact Option.some.inj (hc₂.symm.trans (h1.trans h.code))
    subst hcc
    have hlen : len₂ = len := by rw [hdg] at hd₂; cases hd₂; rfl
    subst hlen
    have hs₂ : s₂ = (({ U with heap := s₂.heap, slotsUsed := s₂.slotsUsed } : State).setVm s₂.vm).setTop { g with pc := g.pc + len₂, stack := v.toList ++ g.stack } := by
      refine e3.trans ?_
      rw [hf₂, State.calling_eq h.top, State.setFrames_setFrames, State.setTop_of_frames _ hr', hr]
      rfl
    have hsame : U.sameButNew ({ U with heap := s₂.heap, slotsUsed := s₂.slotsUsed } : State) L mc ms := by
      refine ⟨?_, q2, q3, q4, q5, q6⟩
      obtain ⟨t, ht, -⟩ := State.frames_cons hr
      show ({ U with heap := s₂.heap, slotsUsed := s₂.slotsUsed } : State) = { U.setFrames U.frames with heap := s₂.heap, slotsUsed := s₂.slotsUsed }
      rw [State.setFrames_self ht]
    subst hg
    refine Or.inl ⟨v, ⟨(({ U with heap := s₂.heap, slotsUsed := s₂.slotsUsed } : State).setVm s₂.vm), Ls ++ L, c0 + mc, s0 + ms⟩,
      ⟨X.admits, X.cas, X.clock, X.frames, X.room, X.hears, X.method, X.code, (X.here.setHeapUsed s₂.heap s₂.slotsUsed).setVm hW'.alike, X.tail, State.WarmedH.trans X.warmed hW', X.limits, X.bytes, X.same.trans (hsame.setVm s.vm)⟩,
      ⟨g, mk, s₂, L, rfl, rfl, hqc, rfl, hL, rfl, rfl⟩, ?_⟩
    show Steps p.tables e below _ ((({ U with heap := s₂.heap, slotsUsed := s₂.slotsUsed } : State).setVm s₂.vm).setTop { g with pc := g.pc + len₂, stack := v.toList ++ g.stack })
    rw [← hs₂]
    exact hsteps
  · obtain ⟨e2, q2, q3, q4, q5, q6⟩ := id hsm
    have e3 : s₂ = ({ (U.calling g mk a).setFrames s₂.frames with heap := s₂.heap, slotsUsed := s₂.slotsUsed } : State).setVm s₂.vm := by
      have : s₂ = ({ s₂ with vm := (U.calling g mk a).vm } : State).setVm s₂.vm := rfl
      rw [e2] at this
      exact this
    have hf₂ : s₂.frames = .throwing q :: .java g :: U.frames.tail := hend
    have hW' : U.WarmedH s₂.vm := hW₂
    have hs₂ : s₂ = ((({ U with heap := s₂.heap, slotsUsed := s₂.slotsUsed } : State).setVm s₂.vm).setTop g).pushFrame (.throwing q) := by
      refine e3.trans ?_
      rw [hf₂, State.calling_eq h.top, State.setFrames_setFrames, State.pushFrame, State.frames_setTop _ hr', State.setTop_of_frames _ hr', State.setFrames_setFrames, hr]
      rfl
    have hsame : U.sameButNew ({ U with heap := s₂.heap, slotsUsed := s₂.slotsUsed } : State) L mc ms := by
      refine ⟨?_, q2, q3, q4, q5, q6⟩
      obtain ⟨t, ht, -⟩ := State.frames_cons hr
      show ({ U with heap := s₂.heap, slotsUsed := s₂.slotsUsed } : State) = { U.setFrames U.frames with heap := s₂.heap, slotsUsed := s₂.slotsUsed }
      rw [State.setFrames_self ht]
    subst hg
    refine Or.inr ⟨q, ⟨(({ U with heap := s₂.heap, slotsUsed := s₂.slotsUsed } : State).setVm s₂.vm), Ls ++ L, c0 + mc, s0 + ms⟩,
      ⟨X.admits, X.cas, X.clock, X.frames, X.room, X.hears, X.method, X.code, (X.here.setHeapUsed s₂.heap s₂.slotsUsed).setVm hW'.alike, X.tail, State.WarmedH.trans X.warmed hW', X.limits, X.bytes, X.same.trans (hsame.setVm s.vm)⟩,
      ⟨g, mk, s₂, L, E, ce, rfl, rfl, hx, hce, hcv, hcl, rfl, hL, rfl, rfl⟩, ?_⟩
    show Steps p.tables e below _ (((({ U with heap := s₂.heap, slotsUsed := s₂.slotsUsed } : State).setVm s₂.vm).setTop g).pushFrame (.throwing q))
    rw [← hs₂]
    exact hsteps
end Payer
section Calls
variable {p : Program} {l : Launch} {e : Env} {R : Room} {s : State} {m : MethodId} {args : Array Value} {below : List Frame} {meth : Method} {c : Code} {T : State} {locs : List Loc} {cells slots : Nat}
theorem vx_callV (X : Stand p l e R s m args below meth c T locs cells slots) (hexec : p.tables.exec = Jvm.exec) {own C : String} {index : Nat} {y : MethodName} {bytes : ByteArray} {maxL : Nat} {ret : Option FieldType}
    (hown : s.vm.findClass own = some m.cls) (hlink : (Cond.methodLink own index y).before args s = true) (hinst : (Cond.instanceMethod y).before args s = true) (hsel : (Cond.selects C y y).before args s = true)
    (hcode : (Cond.code y bytes maxL ret).before args s = true) (hy : y.cls ≠ "java/lang/invoke/MethodHandle" ∧ y.cls ≠ "java/lang/invoke/VarHandle")
    {W9 : Nat} {Pre : Pt → Array Value → Prop} {Post : Pt → Array Value → Option Value → Pt → Prop} {PostX : Pt → Array Value → Addr → Pt → Prop} (hK : vx_Back l R p e below s args y 3 W9 Pre Post PostX)
    {b : Addr} {cellB : Cell} (hcell : T.heap[b]? = some cellB) (hobj : cellB.vm.isStatics = false) (hcls : s.vm.findClass C = some cellB.cls)
    {g : JFrame} (hg : g.method = m) (hsize : g.locals.size = c.maxLocals) {argsL rest : List Value} (hlen : ∀ sig, parseMethodDescriptor y.desc = some sig → argsL.length = sig.parameters.length)
    (hstack : g.stack = argsL.reverse ++ .ref b :: rest) (hW : 2 * g.monitorRoom + (rest.map fun v => v.category).sum ≤ W9) (hdg : decode c.code g.pc = .ok (.invokevirtual index, 3))
    (hpre : ∀ vm₁, s.WarmedH vm₁ → Pre ⟨T.setVm vm₁, locs, cells, slots⟩ (Value.ref b :: argsL).toArray) :
    (∃ (v : Option Value) (vm₁ : Vm) (B : Pt), s.WarmedH vm₁ ∧ Stand p l e R s m args below meth c B.U B.locs B.cells B.slots ∧ Post ⟨T.setVm vm₁, locs, cells, slots⟩ (Value.ref b :: argsL).toArray v B ∧
      ∀ target, Steps p.tables e below (B.U.setTop { g with pc := g.pc + 3, stack := v.toList ++ rest }) target → Steps p.tables e below (T.setTop g) target) ∨
    (∃ (q : Addr) (vm₁ : Vm) (B : Pt), s.WarmedH vm₁ ∧ Stand p l e R s m args below meth c B.U B.locs B.cells B.slots ∧ PostX ⟨T.setVm vm₁, locs, cells, slots⟩ (Value.ref b :: argsL).toArray q B ∧
      Steps p.tables e below (T.setTop g) ((B.U.setTop { g with stack := rest }).pushFrame (.throwing q))) := by
  obtain ⟨mk, methM, hnamed, hmethM, hstM, habM⟩ := Cond.instanceMethod_spec hinst
  obtain ⟨methM', cM, hmethM', -, -, -, -, -, -, hsigM⟩ := Cond.code_spec hnamed hcode
  cases hmethM.symm.trans hmethM'
  obtain ⟨c2, r2, m2, q1, q2, q3, q4, kP, hkP, hkPi⟩ := Cond.selects_spec hsel
  cases hcls.symm.trans q1
  cases (State.methodFound?_of_named hnamed hy).symm.trans q2
  cases hnamed.symm.trans q3
  have hselP : selectMethod e.platform s.vm cellB.cls mk = .method mk := by rw [Launch.admits_selectMethod X.admits]; exact q4
  obtain ⟨vm₁, X₁, hstep₁⟩ := X.invokevirtual hexec hown hlink hnamed hmethM hstM hkP hkPi hy (a := b) (cell := cellB) hcell
    (fun z h => by rw [h] at hobj; cases hobj) hselP hmethM habM hkP hkPi (g := g) hg (argsL := argsL) (rest := rest) (hlen _ hsigM) hstack hdg
  rcases hK m meth c ⟨T.setVm vm₁, locs, cells, slots⟩ { g with stack := rest } (.invokevirtual index) mk (Value.ref b :: argsL).toArray X₁ hg hsize hdg hW (X₁.named hnamed) (hpre vm₁ X₁.warmed) with ⟨v, B, X', hpost, hsteps⟩ | ⟨q, B, X', hpost, hsteps⟩
  · exact Or.inl ⟨v, vm₁, B, X₁.warmed, X', hpost, fun target h => hstep₁ _ fun acts => by rw [doInvoke_state]; exact hsteps.trans h⟩
  · exact Or.inr ⟨q, vm₁, B, X₁.warmed, X', hpost, hstep₁ _ fun acts => by rw [doInvoke_state]; exact hsteps⟩
theorem vx_callS (X : Stand p l e R s m args below meth c T locs cells slots) (hexec : p.tables.exec = Jvm.exec) {own : String} {index : Nat} {y : MethodName} {bytes : ByteArray} {maxL : Nat} {ret : Option FieldType}
    (hown : s.vm.findClass own = some m.cls) (hlink : (Cond.methodLink own index y).before args s = true) (hstat : (Cond.static y).before args s = true) (hinit : (Cond.initialized y.cls).before args s = true)
    (hcode : (Cond.code y bytes maxL ret).before args s = true) (hy : y.cls ≠ "java/lang/invoke/MethodHandle" ∧ y.cls ≠ "java/lang/invoke/VarHandle")
    {W9 : Nat} {Pre : Pt → Array Value → Prop} {Post : Pt → Array Value → Option Value → Pt → Prop} {PostX : Pt → Array Value → Addr → Pt → Prop} (hK : vx_Back l R p e below s args y 3 W9 Pre Post PostX)
    {g : JFrame} (hg : g.method = m) (hsize : g.locals.size = c.maxLocals) {argsL rest : List Value} (hlen : ∀ sig, parseMethodDescriptor y.desc = some sig → argsL.length = sig.parameters.length)
    (hstack : g.stack = argsL.reverse ++ rest) (hW : 2 * g.monitorRoom + (rest.map fun v => v.category).sum ≤ W9) (hdg : decode c.code g.pc = .ok (.invokestatic index, 3))
    (hpre : ∀ vm₁, s.WarmedH vm₁ → Pre ⟨T.setVm vm₁, locs, cells, slots⟩ argsL.toArray) :
    (∃ (v : Option Value) (vm₁ : Vm) (B : Pt), s.WarmedH vm₁ ∧ Stand p l e R s m args below meth c B.U B.locs B.cells B.slots ∧ Post ⟨T.setVm vm₁, locs, cells, slots⟩ argsL.toArray v B ∧
      ∀ target, Steps p.tables e below (B.U.setTop { g with pc := g.pc + 3, stack := v.toList ++ rest }) target → Steps p.tables e below (T.setTop g) target) ∨
    (∃ (q : Addr) (vm₁ : Vm) (B : Pt), s.WarmedH vm₁ ∧ Stand p l e R s m args below meth c B.U B.locs B.cells B.slots ∧ PostX ⟨T.setVm vm₁, locs, cells, slots⟩ argsL.toArray q B ∧
      Steps p.tables e below (T.setTop g) ((B.U.setTop { g with stack := rest }).pushFrame (.throwing q))) := by
  obtain ⟨mk, hnamed⟩ := Cond.code_named hcode
  obtain ⟨methM, cM, hmethM, -, -, -, -, -, -, hsigM⟩ := Cond.code_spec hnamed hcode
  have hstatic : methM.isStatic = true := Cond.static_spec hnamed hmethM hstat
  obtain ⟨kP, hkP, -⟩ := className_of_methodNamed hnamed
  have hinitP : kP.init = .initialized := Cond.initialized_spec (findClass_of_methodNamed hnamed) hkP hinit
  obtain ⟨vm₁, X₁, hstep₁⟩ := X.invokestatic hexec hown hlink hnamed hmethM hstatic hkP hinitP hy (g := g) hg (argsL := argsL) (rest := rest) (hlen _ hsigM) hstack hdg
  rcases hK m meth c ⟨T.setVm vm₁, locs, cells, slots⟩ { g with stack := rest } (.invokestatic index) mk argsL.toArray X₁ hg hsize hdg hW (X₁.named hnamed) (hpre vm₁ X₁.warmed) with ⟨v, B, X', hpost, hsteps⟩ | ⟨q, B, X', hpost, hsteps⟩
  · exact Or.inl ⟨v, vm₁, B, X₁.warmed, X', hpost, fun target h => hstep₁ _ fun acts => by rw [doInvoke_state]; exact hsteps.trans h⟩
  · exact Or.inr ⟨q, vm₁, B, X₁.warmed, X', hpost, hstep₁ _ fun acts => by rw [doInvoke_state]; exact hsteps⟩
end Calls
theorem vx_cls {s : State} {T : State} {vm₁ : Vm} {E : String} {k : ClassId} (hW : s.WarmedH vm₁) (h : (T.setVm vm₁).vm.findClass E = some k) : s.vm.findClass E = some k := by
  have h1 : vm₁.findClass E = some k := h
  rw [hW.alike.findClass] at h1
  exact h1
/-- the method's frame g, with q thrown over it -/
def vx_W (p : Program) (l : Launch) (e : Env) (R : Room) (s : State) (m : MethodId) (args : Array Value) (below : List Frame) (meth : Method) (c : Code) (H : Heap) (locs : List Loc) (cells slots : Nat) (Q : State → Prop) (g : JFrame) (q : Addr) : Prop :=
  ∀ T : State, T.heap = H → Stand p l e R s m args below meth c T locs cells slots → ∃ t, Steps p.tables e below ((T.setTop g).pushFrame (.throwing q)) t ∧ Q t
def vx_Run (p : Program) (l : Launch) (e : Env) (R : Room) (s : State) (m : MethodId) (args : Array Value) (below : List Frame) (meth : Method) (c : Code) (H : Heap) (locs : List Loc) (cells slots mc ms : Nat) (g : JFrame) (rest : List Value) (Qa : State → Outcome → State → Prop) (XC : String → State → State → Prop) (free : Addr → Prop) : Prop :=
  ∀ T : State, T.heap = H → Stand p l e R s m args below meth c T locs cells slots →
    (∃ (v : Option Value) (st₀ t T' : State) (L : List Loc), st₀.heap = H ∧ Stand p l e R s m args below meth c T' (locs ++ L) (cells + mc) (slots + ms) ∧ (∀ q ∈ L, free q.base) ∧ T'.heap = t.heap ∧ T'.vm = t.vm ∧ Qa st₀ (.returned v) t ∧
      Goes p e below T g T' { g with pc := g.pc + 3, stack := v.toList ++ rest }) ∨
    (∃ (q : Addr) (st₀ t T' : State) (L : List Loc) (E : String) (ce : Cell), st₀.heap = H ∧ Stand p l e R s m args below meth c T' (locs ++ L) (cells + mc) (slots + ms) ∧ (∀ z ∈ L, free z.base) ∧ T'.heap = t.heap ∧ T'.vm = t.vm ∧ XC E st₀ t ∧ t.heap[q]? = some ce ∧ ce.vm = .none ∧ s.vm.findClass E = some ce.cls ∧
      Steps p.tables e below (T.setTop g) ((T'.setTop { g with stack := rest }).pushFrame (.throwing q)))
def vx_X {S : Type} (px : S → Prop) (B : String → S → State → Prop) (A : Nat → Prop) : String → State → State → Prop := fun E st t => ∃ u : S, px u ∧ B E u t ∧ va_F A st t
section Runs
variable {p : Program} {l : Launch} {e : Env} {R : Room} {s : State} {m : MethodId} {args : Array Value} {below : List Frame} {meth : Method} {c : Code} {H : Heap} {locs : List Loc} {cells slots : Nat}
variable {y : MethodName} {bytes cc : ByteArray} {maxL nL mc ms n index : Nat} {ret : Option FieldType} {ws : List Cond} {rm : Room} {Pc : Array Value → State → Prop} {Qc : Array Value → State → Outcome → State → Prop} {XC : String → State → State → Prop} {free : Addr → Prop} {Ts : List Cond} {own C : String} {b : Addr} {As rest : List Value} {g : JFrame}
theorem vx_callBack (cb : CallB R s args own index y bytes maxL ret ws rm mc ms n) (hM : vx_Met l y ws rm Pc Qc XC mc ms free) (hbl : FrameBlind Pc) : vx_Back l R p e below s args y 3 8 (PreOf R mc ms Pc) (PostOf Qc mc ms free) (vx_Post XC mc ms free) := by
  obtain ⟨hrc, hrs, hfr, hlo, hws, hcw, -, hini, -⟩ := cb
  exact vx_back (bytes := bytes) (maxL := maxL) (ret := ret) hM hbl hrc hrs hfr hlo hws hcw (fun a' U hW => word_at hW (Or.inl (by first | rfl | simp [Cond.onTables, Cond.keeps, Cond.steady])) hini)
theorem vx_runV (S : CallFix p m c cc nL s args Ts own) (hM : vx_Met l y ws rm Pc Qc XC mc ms free) (cw : CallW R s args own C index y bytes maxL ret ws rm mc ms n) (hp : PreV s H C b Pc As)
    (hg : g.method = m) (hn : As.length = n) (hsize : g.locals.size = nL) (hstack : g.stack = As.reverse ++ .ref b :: rest) (hW : 2 * g.monitorRoom + (rest.map fun v => v.category).sum ≤ 8) (hdg : decode cc g.pc = .ok (.invokevirtual index, 3)) (hf : cells + mc ≤ R.cells ∧ slots + ms ≤ R.slots) :
    vx_Run p l e R s m args below meth c H locs cells slots mc ms g rest (Qc (Value.ref b :: As).toArray) XC free := by
  have hK : vx_Back l R p e below s args y 3 8 (PreOf R mc ms Pc) (PostOf Qc mc ms free) (vx_Post XC mc ms free) := vx_callBack cw.1 hM hp.1
  obtain ⟨⟨-, -, -, -, -, -, hcode, -, hy, hlen, hl⟩, hin, hse⟩ := cw
  obtain ⟨hx, hb, hml, ho, -⟩ := S
  obtain ⟨-, ⟨cellB, hcB, hoB, hclB⟩, hPc⟩ := hp
  intro T hT X
  rcases vx_callV X hx (C := C) (bytes := bytes) (maxL := maxL) (ret := ret) ho hl hin hse hcode hy hK (by rw [hT]; exact hcB) hoB hclB hg (hsize.trans hml.symm) (argsL := As) (rest := rest) (fun sig h => hn.trans (hlen sig h)) hstack hW (by rw [hb]; exact hdg)
    (fun vm₁ hW₁ => ⟨hf.1, hf.2, hPc (T.setVm vm₁) hT hW₁⟩) with ⟨v, vm₁, ⟨U', l2, c2, s2⟩, hW₁, X', ⟨g', mk, t, L, e1, e2, hq, h1, hL, h2, h3⟩, st⟩ | ⟨q, vm₁, ⟨U', l2, c2, s2⟩, hW₁, X', ⟨g', mk, t, L, E, ce, e1, e2, hq, hce, hcv, hcl, h1, hL, h2, h3⟩, st⟩
  · dsimp only [Pt.U, Pt.locs, Pt.cells, Pt.slots] at X' e1 e2 h1 h2 h3 st
    subst h1; subst h2; subst h3
    exact Or.inl ⟨v, (T.setVm vm₁).calling g' mk (Value.ref b :: As).toArray, t, U', L, hT, X', hL, e1, e2, hq, st⟩
  · dsimp only [Pt.U, Pt.locs, Pt.cells, Pt.slots] at X' e1 e2 h1 h2 h3 st hcl
    subst h1; subst h2; subst h3
    exact Or.inr ⟨q, (T.setVm vm₁).calling g' mk (Value.ref b :: As).toArray, t, U', L, E, ce, hT, X', hL, e1, e2, hq, hce, hcv, vx_cls hW₁ hcl, st⟩
theorem vx_runS (S : CallFix p m c cc nL s args Ts own) (hM : vx_Met l y ws rm Pc Qc XC mc ms free) (cw : CallB R s args own index y bytes maxL ret ws rm mc ms n ∧ (Cond.static y).before args s = true) (hp : PreS s H Pc As)
    (hg : g.method = m) (hn : As.length = n) (hsize : g.locals.size = nL) (hstack : g.stack = As.reverse ++ rest) (hW : 2 * g.monitorRoom + (rest.map fun v => v.category).sum ≤ 8) (hdg : decode cc g.pc = .ok (.invokestatic index, 3)) (hf : cells + mc ≤ R.cells ∧ slots + ms ≤ R.slots) :
    vx_Run p l e R s m args below meth c H locs cells slots mc ms g rest (Qc As.toArray) XC free := by
  have hK : vx_Back l R p e below s args y 3 8 (PreOf R mc ms Pc) (PostOf Qc mc ms free) (vx_Post XC mc ms free) := vx_callBack cw.1 hM hp.1
  obtain ⟨⟨-, -, -, -, -, -, hcode, hini, hy, hlen, hl⟩, hstt⟩ := cw
  obtain ⟨hx, hb, hml, ho, -⟩ := S
  intro T hT X
  rcases vx_callS X hx (bytes := bytes) (maxL := maxL) (ret := ret) ho hl hstt hini hcode hy hK hg (hsize.trans hml.symm) (argsL := As) (rest := rest) (fun sig h => hn.trans (hlen sig h)) hstack hW (by rw [hb]; exact hdg)
    (fun vm₁ hW₁ => ⟨hf.1, hf.2, hp.2 (T.setVm vm₁) hT hW₁⟩) with ⟨v, vm₁, ⟨U', l2, c2, s2⟩, hW₁, X', ⟨g', mk, t, L, e1, e2, hq, h1, hL, h2, h3⟩, st⟩ | ⟨q, vm₁, ⟨U', l2, c2, s2⟩, hW₁, X', ⟨g', mk, t, L, E, ce, e1, e2, hq, hce, hcv, hcl, h1, hL, h2, h3⟩, st⟩
  · dsimp only [Pt.U, Pt.locs, Pt.cells, Pt.slots] at X' e1 e2 h1 h2 h3 st
    subst h1; subst h2; subst h3
    exact Or.inl ⟨v, (T.setVm vm₁).calling g' mk As.toArray, t, U', L, hT, X', hL, e1, e2, hq, st⟩
  · dsimp only [Pt.U, Pt.locs, Pt.cells, Pt.slots] at X' e1 e2 h1 h2 h3 st hcl
    subst h1; subst h2; subst h3
    exact Or.inr ⟨q, (T.setVm vm₁).calling g' mk As.toArray, t, U', L, E, ce, hT, X', hL, e1, e2, hq, hce, hcv, vx_cls hW₁ hcl, st⟩
end Runs
section Rows
variable {p : Program} {l : Launch} {e : Env} {R : Room} {s : State} {m : MethodId} {args : Array Value} {below : List Frame} {meth : Method} {c : Code} {H : Heap} {locs : List Loc} {cells slots : Nat} {Q : State → Prop}
variable {mc ms : Nat} {free : Addr → Prop} {A0 A1 : Nat → Prop} {H0 : Heap} {a : Array Value} {pc : Nat} {ls : Array Slot} {st0 rest : List Value}
theorem vx_keep {st₀ t T' : State} {L : List Loc} (h0 : st₀.heap = H) (e1 : T'.heap = t.heap) (hS : va_S A0 H0 H locs) (hA : ∀ q, q < H.size → A1 q → A0 q) (hf : ∀ q, free q → A0 q) (hL : ∀ q ∈ L, free q.base) (hF : va_F A1 st₀ t) :
    H.size ≤ T'.heap.size ∧ (∀ q : Nat, q < H.size → ¬ A1 q → T'.heap[q]? = H[q]?) ∧ va_S A0 H0 T'.heap (locs ++ L) := by
  obtain ⟨hz, hk⟩ := hF
  rw [h0] at hz hk
  exact ⟨by rw [e1]; exact hz, fun q h1 h2 => by rw [e1]; exact hk q h1 h2,
    ⟨Nat.le_trans hS.1 (by rw [e1]; exact hz), fun q h1 h2 => by rw [e1, hk q (Nat.lt_of_lt_of_le h1 hS.1) (fun z => h2 (hA q (Nat.lt_of_lt_of_le h1 hS.1) z))]; exact hS.2.1 q h1 h2, fun q hq => by
      rcases List.mem_append.mp hq with h | h
      · exact hS.2.2 q h
      · exact hf _ (hL q h)⟩⟩
theorem vx_calli {S SX : Type} {post : Int32 → S → Prop} {px : SX → Prop} {B : S → State → Prop} {BX : String → SX → State → Prop} {AX : Nat → Prop} (hr : vx_Run p l e R s m args below meth c H locs cells slots mc ms (F0 m pc ls st0) rest (va_Qi post B A1 a) (vx_X px BX AX) free) (hS : va_S A0 H0 H locs) (hA : ∀ q, q < H.size → A1 q → A0 q) (hf : ∀ q, free q → A0 q) (hAX : ∀ q, q < H.size → AX q → A0 q)
    (kx : ∀ (E : String) (ce : Cell) (q9 : Addr) (u : SX) (t : State) (H1 : Heap) (locs1 : List Loc), t.heap = H1 → s.vm.Alike t.vm → px u → BX E u t → H.size ≤ H1.size → (∀ q : Nat, q < H.size → ¬ AX q → H1[q]? = H[q]?) → va_S A0 H0 H1 locs1 → H1[q9]? = some ce → ce.vm = .none → s.vm.findClass E = some ce.cls → vx_W p l e R s m args below meth c H1 locs1 (cells + mc) (slots + ms) Q (F0 m pc ls rest) q9)
    (kk : ∀ (r : Int32) (u : S) (t : State) (H1 : Heap) (locs1 : List Loc), t.heap = H1 → s.vm.Alike t.vm → post r u → B u t → H.size ≤ H1.size → (∀ q : Nat, q < H.size → ¬ A1 q → H1[q]? = H[q]?) → va_S A0 H0 H1 locs1 → W p l e R s m args below meth c H1 locs1 (cells + mc) (slots + ms) Q (F0 m (pc + 3) ls (.int r :: rest))) : W p l e R s m args below meth c H locs cells slots Q (F0 m pc ls st0) := by
  intro T hT X
  rcases hr T hT X with ⟨v, st₀, t, T', L, h0, X', hL, e1, e2, ⟨⟨r, u, hv, hp, hb⟩, hF⟩, st⟩ | ⟨q, st₀, t, T', L, E, ce, h0, X', hL, e1, e2, ⟨u, hp, hb, hF⟩, hce, hcv, hcl, st⟩
  · cases hv
    obtain ⟨k1, k2, k3⟩ := vx_keep h0 e1 hS hA hf hL hF
    obtain ⟨t2, a1, b1⟩ := kk r u t T'.heap (locs ++ L) e1.symm (by rw [← e2]; exact X'.warmed.alike) hp hb k1 k2 k3 T' rfl X'
    exact ⟨t2, st t2 a1, b1⟩
  · obtain ⟨k1, k2, k3⟩ := vx_keep h0 e1 hS hAX hf hL hF
    obtain ⟨t2, a1, b1⟩ := kx E ce q u t T'.heap (locs ++ L) e1.symm (by rw [← e2]; exact X'.warmed.alike) hp hb k1 k2 k3 (by rw [e1]; exact hce) hcv hcl T' rfl X'
    exact ⟨t2, st.trans a1, b1⟩
theorem vx_calll {S SX : Type} {post : Int64 → S → Prop} {px : SX → Prop} {B : S → State → Prop} {BX : String → SX → State → Prop} {AX : Nat → Prop} (hr : vx_Run p l e R s m args below meth c H locs cells slots mc ms (F0 m pc ls st0) rest (va_Ql post B A1 a) (vx_X px BX AX) free) (hS : va_S A0 H0 H locs) (hA : ∀ q, q < H.size → A1 q → A0 q) (hf : ∀ q, free q → A0 q) (hAX : ∀ q, q < H.size → AX q → A0 q)
    (kx : ∀ (E : String) (ce : Cell) (q9 : Addr) (u : SX) (t : State) (H1 : Heap) (locs1 : List Loc), t.heap = H1 → s.vm.Alike t.vm → px u → BX E u t → H.size ≤ H1.size → (∀ q : Nat, q < H.size → ¬ AX q → H1[q]? = H[q]?) → va_S A0 H0 H1 locs1 → H1[q9]? = some ce → ce.vm = .none → s.vm.findClass E = some ce.cls → vx_W p l e R s m args below meth c H1 locs1 (cells + mc) (slots + ms) Q (F0 m pc ls rest) q9)
    (kk : ∀ (r : Int64) (u : S) (t : State) (H1 : Heap) (locs1 : List Loc), t.heap = H1 → s.vm.Alike t.vm → post r u → B u t → H.size ≤ H1.size → (∀ q : Nat, q < H.size → ¬ A1 q → H1[q]? = H[q]?) → va_S A0 H0 H1 locs1 → W p l e R s m args below meth c H1 locs1 (cells + mc) (slots + ms) Q (F0 m (pc + 3) ls (.long r :: rest))) : W p l e R s m args below meth c H locs cells slots Q (F0 m pc ls st0) := by
  intro T hT X
  rcases hr T hT X with ⟨v, st₀, t, T', L, h0, X', hL, e1, e2, ⟨⟨r, u, hv, hp, hb⟩, hF⟩, st⟩ | ⟨q, st₀, t, T', L, E, ce, h0, X', hL, e1, e2, ⟨u, hp, hb, hF⟩, hce, hcv, hcl, st⟩
  · cases hv
    obtain ⟨k1, k2, k3⟩ := vx_keep h0 e1 hS hA hf hL hF
    obtain ⟨t2, a1, b1⟩ := kk r u t T'.heap (locs ++ L) e1.symm (by rw [← e2]; exact X'.warmed.alike) hp hb k1 k2 k3 T' rfl X'
    exact ⟨t2, st t2 a1, b1⟩
  · obtain ⟨k1, k2, k3⟩ := vx_keep h0 e1 hS hAX hf hL hF
    obtain ⟨t2, a1, b1⟩ := kx E ce q u t T'.heap (locs ++ L) e1.symm (by rw [← e2]; exact X'.warmed.alike) hp hb k1 k2 k3 (by rw [e1]; exact hce) hcv hcl T' rfl X'
    exact ⟨t2, st.trans a1, b1⟩
theorem vx_callf {S SX : Type} {post : UInt32 → S → Prop} {px : SX → Prop} {B : S → State → Prop} {BX : String → SX → State → Prop} {AX : Nat → Prop} (hr : vx_Run p l e R s m args below meth c H locs cells slots mc ms (F0 m pc ls st0) rest (va_Qf post B A1 a) (vx_X px BX AX) free) (hS : va_S A0 H0 H locs) (hA : ∀ q, q < H.size → A1 q → A0 q) (hf : ∀ q, free q → A0 q) (hAX : ∀ q, q < H.size → AX q → A0 q)
    (kx : ∀ (E : String) (ce : Cell) (q9 : Addr) (u : SX) (t : State) (H1 : Heap) (locs1 : List Loc), t.heap = H1 → s.vm.Alike t.vm → px u → BX E u t → H.size ≤ H1.size → (∀ q : Nat, q < H.size → ¬ AX q → H1[q]? = H[q]?) → va_S A0 H0 H1 locs1 → H1[q9]? = some ce → ce.vm = .none → s.vm.findClass E = some ce.cls → vx_W p l e R s m args below meth c H1 locs1 (cells + mc) (slots + ms) Q (F0 m pc ls rest) q9)
    (kk : ∀ (r : UInt32) (u : S) (t : State) (H1 : Heap) (locs1 : List Loc), t.heap = H1 → s.vm.Alike t.vm → post r u → B u t → H.size ≤ H1.size → (∀ q : Nat, q < H.size → ¬ A1 q → H1[q]? = H[q]?) → va_S A0 H0 H1 locs1 → W p l e R s m args below meth c H1 locs1 (cells + mc) (slots + ms) Q (F0 m (pc + 3) ls (.float r :: rest))) : W p l e R s m args below meth c H locs cells slots Q (F0 m pc ls st0) := by
  intro T hT X
  rcases hr T hT X with ⟨v, st₀, t, T', L, h0, X', hL, e1, e2, ⟨⟨r, u, hv, hp, hb⟩, hF⟩, st⟩ | ⟨q, st₀, t, T', L, E, ce, h0, X', hL, e1, e2, ⟨u, hp, hb, hF⟩, hce, hcv, hcl, st⟩
  · cases hv
    obtain ⟨k1, k2, k3⟩ := vx_keep h0 e1 hS hA hf hL hF
    obtain ⟨t2, a1, b1⟩ := kk r u t T'.heap (locs ++ L) e1.symm (by rw [← e2]; exact X'.warmed.alike) hp hb k1 k2 k3 T' rfl X'
    exact ⟨t2, st t2 a1, b1⟩
  · obtain ⟨k1, k2, k3⟩ := vx_keep h0 e1 hS hAX hf hL hF
    obtain ⟨t2, a1, b1⟩ := kx E ce q u t T'.heap (locs ++ L) e1.symm (by rw [← e2]; exact X'.warmed.alike) hp hb k1 k2 k3 (by rw [e1]; exact hce) hcv hcl T' rfl X'
    exact ⟨t2, st.trans a1, b1⟩
theorem vx_calld {S SX : Type} {post : UInt64 → S → Prop} {px : SX → Prop} {B : S → State → Prop} {BX : String → SX → State → Prop} {AX : Nat → Prop} (hr : vx_Run p l e R s m args below meth c H locs cells slots mc ms (F0 m pc ls st0) rest (va_Qd post B A1 a) (vx_X px BX AX) free) (hS : va_S A0 H0 H locs) (hA : ∀ q, q < H.size → A1 q → A0 q) (hf : ∀ q, free q → A0 q) (hAX : ∀ q, q < H.size → AX q → A0 q)
    (kx : ∀ (E : String) (ce : Cell) (q9 : Addr) (u : SX) (t : State) (H1 : Heap) (locs1 : List Loc), t.heap = H1 → s.vm.Alike t.vm → px u → BX E u t → H.size ≤ H1.size → (∀ q : Nat, q < H.size → ¬ AX q → H1[q]? = H[q]?) → va_S A0 H0 H1 locs1 → H1[q9]? = some ce → ce.vm = .none → s.vm.findClass E = some ce.cls → vx_W p l e R s m args below meth c H1 locs1 (cells + mc) (slots + ms) Q (F0 m pc ls rest) q9)
    (kk : ∀ (r : UInt64) (u : S) (t : State) (H1 : Heap) (locs1 : List Loc), t.heap = H1 → s.vm.Alike t.vm → post r u → B u t → H.size ≤ H1.size → (∀ q : Nat, q < H.size → ¬ A1 q → H1[q]? = H[q]?) → va_S A0 H0 H1 locs1 → W p l e R s m args below meth c H1 locs1 (cells + mc) (slots + ms) Q (F0 m (pc + 3) ls (.double r :: rest))) : W p l e R s m args below meth c H locs cells slots Q (F0 m pc ls st0) := by
  intro T hT X
  rcases hr T hT X with ⟨v, st₀, t, T', L, h0, X', hL, e1, e2, ⟨⟨r, u, hv, hp, hb⟩, hF⟩, st⟩ | ⟨q, st₀, t, T', L, E, ce, h0, X', hL, e1, e2, ⟨u, hp, hb, hF⟩, hce, hcv, hcl, st⟩
  · cases hv
    obtain ⟨k1, k2, k3⟩ := vx_keep h0 e1 hS hA hf hL hF
    obtain ⟨t2, a1, b1⟩ := kk r u t T'.heap (locs ++ L) e1.symm (by rw [← e2]; exact X'.warmed.alike) hp hb k1 k2 k3 T' rfl X'
    exact ⟨t2, st t2 a1, b1⟩
  · obtain ⟨k1, k2, k3⟩ := vx_keep h0 e1 hS hAX hf hL hF
    obtain ⟨t2, a1, b1⟩ := kx E ce q u t T'.heap (locs ++ L) e1.symm (by rw [← e2]; exact X'.warmed.alike) hp hb k1 k2 k3 (by rw [e1]; exact hce) hcv hcl T' rfl X'
    exact ⟨t2, st.trans a1, b1⟩
theorem vx_callv {S SX : Type} {post : S → Prop} {px : SX → Prop} {B : S → State → Prop} {BX : String → SX → State → Prop} {AX : Nat → Prop} (hr : vx_Run p l e R s m args below meth c H locs cells slots mc ms (F0 m pc ls st0) rest (va_Qv post B A1 a) (vx_X px BX AX) free) (hS : va_S A0 H0 H locs) (hA : ∀ q, q < H.size → A1 q → A0 q) (hf : ∀ q, free q → A0 q) (hAX : ∀ q, q < H.size → AX q → A0 q)
    (kx : ∀ (E : String) (ce : Cell) (q9 : Addr) (u : SX) (t : State) (H1 : Heap) (locs1 : List Loc), t.heap = H1 → s.vm.Alike t.vm → px u → BX E u t → H.size ≤ H1.size → (∀ q : Nat, q < H.size → ¬ AX q → H1[q]? = H[q]?) → va_S A0 H0 H1 locs1 → H1[q9]? = some ce → ce.vm = .none → s.vm.findClass E = some ce.cls → vx_W p l e R s m args below meth c H1 locs1 (cells + mc) (slots + ms) Q (F0 m pc ls rest) q9)
    (kk : ∀ (u : S) (t : State) (H1 : Heap) (locs1 : List Loc), t.heap = H1 → s.vm.Alike t.vm → post u → B u t → H.size ≤ H1.size → (∀ q : Nat, q < H.size → ¬ A1 q → H1[q]? = H[q]?) → va_S A0 H0 H1 locs1 → W p l e R s m args below meth c H1 locs1 (cells + mc) (slots + ms) Q (F0 m (pc + 3) ls (rest))) : W p l e R s m args below meth c H locs cells slots Q (F0 m pc ls st0) := by
  intro T hT X
  rcases hr T hT X with ⟨v, st₀, t, T', L, h0, X', hL, e1, e2, ⟨⟨u, hv, hp, hb⟩, hF⟩, st⟩ | ⟨q, st₀, t, T', L, E, ce, h0, X', hL, e1, e2, ⟨u, hp, hb, hF⟩, hce, hcv, hcl, st⟩
  · cases hv
    obtain ⟨k1, k2, k3⟩ := vx_keep h0 e1 hS hA hf hL hF
    obtain ⟨t2, a1, b1⟩ := kk u t T'.heap (locs ++ L) e1.symm (by rw [← e2]; exact X'.warmed.alike) hp hb k1 k2 k3 T' rfl X'
    exact ⟨t2, st t2 a1, b1⟩
  · obtain ⟨k1, k2, k3⟩ := vx_keep h0 e1 hS hAX hf hL hF
    obtain ⟨t2, a1, b1⟩ := kx E ce q u t T'.heap (locs ++ L) e1.symm (by rw [← e2]; exact X'.warmed.alike) hp hb k1 k2 k3 (by rw [e1]; exact hce) hcv hcl T' rfl X'
    exact ⟨t2, st.trans a1, b1⟩
/-- caught by the row x of this method's table; the rows ahead don't take it -/
theorem vx_catch {own name : String} {E : String} {ce : Cell} {q : Addr} (hown : s.vm.findClass own = some m.cls) (pre : List ExceptionTableEntry) (x : ExceptionTableEntry) (suf : List ExceptionTableEntry) (hsplit : c.exceptionTable.toList = pre ++ x :: suf)
    (hpass : ∀ z ∈ pre, covers z pc = false ∨ (z.catchType ≠ 0 ∧ ∃ nm : String, (Cond.classLink own z.catchType nm).before args s = true ∧ va_Nc E nm s)) (hx : covers x pc = true) (h0 : x.catchType ≠ 0)
    (hlink : (Cond.classLink own x.catchType name).before args s = true) (hcast : (Cond.castable E name).before args s = true) (hcell : H[q]? = some ce) (hv : ce.vm = .none) (hcl : s.vm.findClass E = some ce.cls)
    (kk : W p l e R s m args below meth c H locs cells slots Q (F0 m x.handlerPc ls [.ref q])) : vx_W p l e R s m args below meth c H locs cells slots Q (F0 m pc ls rest) q := by
  intro T hT X
  have hpl : e.platform.magicAccessors = ({} : Platform).magicAccessors := by rw [X.admits.platform]
  obtain ⟨c3, c4, hc3, hc4, hasg⟩ := Cond.castable_spec hcast
  cases Option.some.inj (hc3.symm.trans hcl)
  obtain ⟨c5, hc5, hcl5⟩ := Cond.classLink_spec hown hlink e.platform hpl
  cases Option.some.inj (hc4.symm.trans hc5)
  obtain ⟨vm', X', st⟩ := X.thenCaughtThrough q (g := F0 m pc ls rest) rfl (Steps.refl _) (by rw [hT]; exact hcell) (by rw [hv]; rfl) (by obtain ⟨k9, h9, -⟩ := Vm.findClass_spec hcl; exact ⟨k9, h9⟩) pre x suf hsplit
    (fun z hz => by
      rcases hpass z hz with h | ⟨hz0, nm, hl1, hn1⟩
      · exact Or.inl h
      · obtain ⟨c6, hc6, hcl6⟩ := Cond.classLink_spec hown hl1 e.platform hpl
        obtain ⟨a8, b8, h1, h2, h3⟩ := hn1
        cases Option.some.inj (h1.symm.trans hcl)
        cases Option.some.inj (h2.symm.trans hc6)
        exact Or.inr ⟨hz0, _, hcl6, h3⟩) hx (Or.inr ⟨h0, c4, hcl5, hasg⟩)
  obtain ⟨t, a1, b1⟩ := kk (T.setVm vm') hT X'
  exact ⟨t, st.trans a1, b1⟩
end Rows
section Ends
variable {p : Program} {l : Launch} {e : Env} {R : Room} {s : State} {m : MethodId} {args : Array Value} {below : List Frame} {meth : Method} {c : Code} {H : Heap} {locs : List Loc} {cells slots : Nat} {Q : State → Prop}
variable {mc ms : Nat} {free : Addr → Prop} {A0 A1 : Nat → Prop} {H0 : Heap} {a : Array Value} {ls : Array Slot} {st0 rest : List Value}
variable {Qc : Array Value → State → Outcome → State → Prop} {XC : String → State → State → Prop}
/-- what a body that may throw owes at its end -/
def vx_MQ (below : List Frame) (Qc : Array Value → State → Outcome → State → Prop) (XC : String → State → State → Prop) (a : Array Value) (s : State) (mc ms : Nat) (free : Addr → Prop) : State → Prop := fun t =>
  ∃ o, t.status = .running ∧ Ended t below o ∧ vx_Q Qc XC mc ms free a s o t
theorem vx_ret {g : JFrame} {mc ms : Nat} (k : W p l e R s m args below meth c H locs cells slots (MQ below Qc args s mc ms free) g) : W p l e R s m args below meth c H locs cells slots (vx_MQ below Qc XC args s mc ms free) g := by
  intro T hT X
  obtain ⟨t, a1, o, b1, b2, b3, b4⟩ := k T hT X
  exact ⟨t, a1, o, b1, b2, Or.inl ⟨b3, b4⟩⟩
/-- not caught here: it goes on to the caller -/
theorem vx_widen {g : JFrame} {q : Addr} {k n : Nat} (h1 : cells ≤ k) (h2 : slots ≤ n) (kk : vx_W p l e R s m args below meth c H locs k n Q g q) : vx_W p l e R s m args below meth c H locs cells slots Q g q := fun T hT X => kk T hT (stand_widen X h1 h2)
theorem vx_out {pc : Nat} {E : String} {ce : Cell} {q : Addr} {mc ms : Nat} (hout : ∀ x ∈ c.exceptionTable.toList, covers x pc = false) (hlocks : meth.locks = false) (hcell : H[q]? = some ce) (hv : ce.vm = .none) (hcl : s.vm.findClass E = some ce.cls)
    (hx : ∀ t : State, t.heap = H → s.vm.Alike t.vm → XC E s t) (hf : ∀ z ∈ locs, free z.base) (hc : cells ≤ mc) (hs : slots ≤ ms) :
    vx_W p l e R s m args below meth c H locs cells slots (vx_MQ below Qc XC args s mc ms free) (F0 m pc ls rest) q := by
  intro T hT X
  obtain ⟨st1, hrun, hend, hW, hsm⟩ := X.leaveThrown q (g := F0 m pc ls rest) rfl rfl rfl hout hlocks
  have hcell9 : (T.setFrames (.throwing q :: below)).heap[q]? = some ce := by
    show T.heap[q]? = some ce
    rw [hT]; exact hcell
  exact ⟨_, st1, .threw q, hrun, hend, Or.inr ⟨q, rfl, E, ce, locs, hx _ hT hW.alike, hcell9, hv, hcl, hW, hsm.mono hc hs, hf⟩⟩
theorem vx_frame {U : State} {k n : Nat} (h : s.sameButNew ({ U with vm := s.vm } : State) locs k n) : s.heap.size ≤ U.heap.size ∧ ∀ q : Nat, q < s.heap.size → (∀ z ∈ locs, z.base ≠ q) → U.heap[q]? = s.heap[q]? := by
  obtain ⟨-, h2, -, -, -, h6⟩ := h
  refine ⟨h2, fun q hq hz => ?_⟩
  obtain ⟨c9, e1, e2, e3, e4⟩ := h6 q _ (Array.getElem?_eq_getElem hq)
  have hs : c9.slots = (s.heap[q]).slots := Array.ext_getElem? fun i => e4 i fun hm => hz _ hm rfl
  have h9 : c9 = s.heap[q] := by
    rw [hs] at e2
    exact e2
  have e5 : U.heap[q]? = some c9 := e1
  rw [e5, h9, Array.getElem?_eq_getElem hq]
/-- the words of a throw but the four that speak of the heap -/
def vx_no (w : Cond) : Bool := decide (w ≠ .isRef (.static Bundle.tN "UNASSIGNED_STACK" Bundle.steD)) && decide (w ≠ .isRef (.static Bundle.tN "SUPPRESSED_SENTINEL" Bundle.listD)) && decide (w ≠ .laysStatic Bundle.tN "UNASSIGNED_STACK" Bundle.steD) && decide (w ≠ .laysStatic Bundle.tN "SUPPRESSED_SENTINEL" Bundle.listD)
def vx_at0 (own : String) (ic : Nat) (X : String) (names : List String) : List Cond := (Bundle.ownAtoms0 own ic X names).filter vx_no
def vx_atS (own : String) (ic : Nat) (X : String) (names : List String) : List Cond := (Bundle.ownAtoms own ic X names).filter vx_no
/-- a word that the tables alone decide, or a good one -/
def vx_ot (w : Cond) : Bool := w.onTables || goodWord w
theorem vx_ot_at {args a' : Array Value} {s U : State} {w : Cond} (hW : s.WarmedH U.vm) (hvm : s.vm = U.vm) (hg : vx_ot w = true) (h : w.before args s = true) : w.before a' U = true := by
  simp only [vx_ot, Bool.or_eq_true] at hg
  rcases hg with hg | hg
  · exact va_tabs hg hvm h
  · exact word_at hW (good_of_word hg) h
/-- a list's words: the good ones out of the method's own list, the others by premises of their own -/
theorem vx_hat {args : Array Value} {s : State} {L B : List Cond} (h1 : ∀ w ∈ L.filter goodWord, w.before args s = true) (h2 : ∀ w ∈ L.filter (fun w => !goodWord w), w ∈ B) (h3 : ∀ w ∈ B, w.before args s = true) : ∀ w ∈ L, w.before args s = true := by
  intro w hw
  by_cases g : goodWord w = true
  · exact h1 w (List.mem_filter.mpr ⟨hw, g⟩)
  · refine h3 w (h2 w (List.mem_filter.mpr ⟨hw, ?_⟩))
    show (!goodWord w) = true
    cases hgw : goodWord w
    · rfl
    · exact absurd hgw g
theorem vx_c {args : Array Value} {s : State} {w : Cond} {B : List Cond} (h : w.before args s = true) (t : ∀ w ∈ B, w.before args s = true) : ∀ w' ∈ w :: B, w'.before args s = true := fun w' h' => (List.mem_cons.mp h').elim (fun e => by rw [e]; exact h) (t w')
theorem vx_n {args : Array Value} {s : State} : ∀ w ∈ ([] : List Cond), w.before args s = true := fun _ h => nomatch h
theorem vx_own {args : Array Value} {s : State} {L : List Cond} (h1 : ∀ w ∈ L.filter vx_no, w.before args s = true)
    (hU : (Cond.isRef (.static Bundle.tN "UNASSIGNED_STACK" Bundle.steD)).before args s = true) (hN : (Cond.isRef (.static Bundle.tN "SUPPRESSED_SENTINEL" Bundle.listD)).before args s = true)
    (lU : (Cond.laysStatic Bundle.tN "UNASSIGNED_STACK" Bundle.steD).before args s = true) (lN : (Cond.laysStatic Bundle.tN "SUPPRESSED_SENTINEL" Bundle.listD).before args s = true) : ∀ w ∈ L, w.before args s = true := by
  intro w hw
  by_cases e1 : w = .isRef (.static Bundle.tN "UNASSIGNED_STACK" Bundle.steD)
  · rw [e1]; exact hU
  · by_cases e2 : w = .isRef (.static Bundle.tN "SUPPRESSED_SENTINEL" Bundle.listD)
    · rw [e2]; exact hN
    · by_cases e3 : w = .laysStatic Bundle.tN "UNASSIGNED_STACK" Bundle.steD
      · rw [e3]; exact lU
      · by_cases e4 : w = .laysStatic Bundle.tN "SUPPRESSED_SENTINEL" Bundle.listD
        · rw [e4]; exact lN
        · exact h1 w (List.mem_filter.mpr ⟨hw, by unfold vx_no; rw [decide_eq_true e1, decide_eq_true e2, decide_eq_true e3, decide_eq_true e4]; rfl⟩)
/-- where a static field lies, its class's statics cell in H -/
def vx_L (C n d : String) (A : Nat → Prop) (U : State) (H : Heap) : Prop := ∃ (c : ClassId) (k : Class) (i : Nat) (f : Field) (a : Nat) (cell : Cell), U.vm.findClass C = some c ∧ U.fieldFound? C n d = some (c, k, i, f) ∧ f.isStatic = true ∧ k.statics = some a ∧ H[a]? = some cell ∧ cell.vm.isStatics = true ∧ cell.cls = c ∧ f.slot < cell.slots.size ∧ k.staticTypes[f.slot]? = some f.type ∧ ¬ A a
theorem vx_L.moved {C n d : String} {A : Nat → Prop} {u U : State} {H : Heap} (hvm : u.vm.Alike U.vm) (h : vx_L C n d A u H) : vx_L C n d A U H := by
  obtain ⟨c, k, i, f, a, cell, h1, h2, h3, h4, h5, h6, h7, h8, h9, h10⟩ := h
  obtain ⟨k', hi', he⟩ := State.fieldFound?_setVm hvm h2
  exact ⟨c, k', i, f, a, cell, by rw [hvm.findClass]; exact h1, hi', h3, by rw [he]; exact h4, h5, h6, h7, h8, by rw [he]; exact h9, h10⟩
theorem vx_L.kept {C n d : String} {A : Nat → Prop} {U : State} {H H1 : Heap} (h : vx_L C n d A U H) (hq : ∀ a : Nat, a < H.size → ¬ A a → H1[a]? = H[a]?) : vx_L C n d A U H1 := by
  obtain ⟨c, k, i, f, a, cell, h1, h2, h3, h4, h5, h6, h7, h8, h9, h10⟩ := h
  exact ⟨c, k, i, f, a, cell, h1, h2, h3, h4, by rw [hq a (Array.getElem?_eq_some_iff.mp h5).1 h10]; exact h5, h6, h7, h8, h9, h10⟩
theorem vx_L.narrow {C n d : String} {A B : Nat → Prop} {U : State} {H : Heap} (h : vx_L C n d A U H) (hAB : ∀ q, B q → A q) : vx_L C n d B U H := by
  obtain ⟨c, k, i, f, a, cell, h1, h2, h3, h4, h5, h6, h7, h8, h9, h10⟩ := h
  exact ⟨c, k, i, f, a, cell, h1, h2, h3, h4, h5, h6, h7, h8, h9, fun z => h10 (hAB _ z)⟩
theorem vx_L.word {C n d : String} {A : Nat → Prop} {s : State} {args : Array Value} (h : vx_L C n d A s s.heap) : (Cond.laysStatic C n d).before args s = true := by
  obtain ⟨c, k, i, f, a, cell, h1, h2, h3, h4, h5, h6, h7, h8, h9, -⟩ := h
  show (Cond.laysStatic C n d).holds args s none s [] = true
  exact Cond.laysStatic_of h1 h2 h3 h4 h5 h6 h7 h8 h9
/-- .. and what it holds: null or some reference -/
def vx_Zq (C n d : String) (A : Nat → Prop) (U : State) (H : Heap) : Prop := va_Zq C n d A U H ∧ vx_L C n d A U H
theorem vx_Zq.moved {C n d : String} {A : Nat → Prop} {u U : State} {H : Heap} (hvm : u.vm.Alike U.vm) (h : vx_Zq C n d A u H) : vx_Zq C n d A U H := ⟨va_Zq.moved hvm h.1, vx_L.moved hvm h.2⟩
theorem vx_Zq.kept {C n d : String} {A : Nat → Prop} {U : State} {H H1 : Heap} (h : vx_Zq C n d A U H) (hq : ∀ a : Nat, a < H.size → ¬ A a → H1[a]? = H[a]?) : vx_Zq C n d A U H1 := ⟨va_Zq.kept h.1 hq, vx_L.kept h.2 hq⟩
theorem vx_Zq.narrow {C n d : String} {A B : Nat → Prop} {U : State} {H : Heap} (h : vx_Zq C n d A U H) (hAB : ∀ q, B q → A q) : vx_Zq C n d B U H := ⟨va_Zq.narrow h.1 hAB, vx_L.narrow h.2 hAB⟩
theorem vx_Zqof {args : Array Value} {s : State} {C n d : String} {A : Nat → Prop} (hl : (Cond.laysStatic C n d).before args s = true) (hini : (Cond.initialized C).before args s = true) (h : (Cond.isRef (.static C n d)).before args s = true) (hA : ∀ a : Nat, a < s.heap.size → ¬ A a) : vx_Zq C n d A s s.heap := by
  refine ⟨va_Zqof hl hini h hA, ?_⟩
  obtain ⟨c, k, i, f, a, cell, h1, h2, h3, h4, h5, h6, h7, h8, h9⟩ := Cond.laysStatic_spec hl
  exact ⟨c, k, i, f, a, cell, h1, h2, h3, h4, h5, h6, h7, h8, h9, hA a (Array.getElem?_eq_some_iff.mp h5).1⟩
theorem vx_isRef {C n d : String} {v : Value} {A : Nat → Prop} {s : State} {args : Array Value} (h : va_Z C n d v A s s.heap) (hv : v.isRef = true) : (Cond.isRef (.static C n d)).before args s = true := by
  obtain ⟨cf, kf, fi, f, a, cell, h1, h2, h3, h4, h5, h6, h7, -⟩ := h
  have he : (Term.static C n d).eval args s none [] s = some v := by
    simp [Term.eval, State.fieldNamed?, h1, h2, h4, h5, h6, h7]
  simp only [Cond.before, Cond.holds, Cond.value, he]
  cases v <;> simp_all [Value.isRef]
theorem vx_isRefq {C n d : String} {A : Nat → Prop} {s : State} {args : Array Value} (h : va_Zq C n d A s s.heap) : (Cond.isRef (.static C n d)).before args s = true := by
  rcases h with h | ⟨t, h⟩
  · exact vx_isRef h rfl
  · exact vx_isRef h rfl
/-- the same frame, seen from here: as if the method were called anew in this heap -/
theorem vx_rebase {T : State} (X : Stand p l e R s m args below meth c T locs cells slots) {R' : Room} (hf : R'.frames ≤ R.frames) (hl : R'.locals ≤ R.locals) (hc : cells + R'.cells ≤ R.cells) (hs : slots + R'.slots ≤ R.slots) :
    Stand p l e R' ((T.setVm s.vm).setFrames (.invoking m args :: below)) m args below meth c T [] 0 0 := by
  have htop : (T.setVm s.vm).topJava?.isSome := X.here.top
  have hF : ((T.setVm s.vm).setFrames (.invoking m args :: below)).frames = .invoking m args :: below := State.frames_setFrames _ (State.cur_lt_of_top htop)
  obtain ⟨g₀, hg0⟩ := Option.isSome_iff_exists.mp htop
  obtain ⟨r, hr⟩ := State.topJava?_eq_some.mp hg0
  have hl9 : e.platform.stackLimits (T.setVm s.vm).me = e.platform.stackLimits s.me := X.limits
  have hb9 : (T.setVm s.vm).me.stackBytes = s.me.stackBytes := X.bytes
  refine ⟨X.admits, X.cas, X.clock, hF, ?_, X.hears, X.method, X.code, X.here, X.tail, X.warmed, ?_, ?_, ?_⟩
  · have h := X.room
    have hU : ((T.setVm s.vm).setFrames (.invoking m args :: below)).localsInUse = s.localsInUse := by
      rw [State.localsInUse_invoking hF (meth := meth) (c := c) X.method X.code, State.localsInUse_invoking X.frames X.method X.code]
    simp only [State.hasRoom, Bool.and_eq_true, decide_eq_true_eq] at h ⊢
    obtain ⟨⟨⟨⟨h1, h2, h3, h4, h5, h6⟩, h7⟩, h8⟩, h9⟩ := h
    rw [X.frames, List.length_cons] at h2 h3
    have q1 := X.heapSize
    have q2 := X.used
    simp only [hF, hU, List.length_cons, State.stackLimits_setFrames, State.stackBytes_setFrames, hl9, hb9]
    refine ⟨⟨⟨⟨by omega, by omega, by omega, by omega, by omega, h6⟩, ?_⟩, ?_⟩, X.book⟩
    · show T.heap.size + R'.cells ≤ e.platform.maxCells
      omega
    · show T.slotsUsed + R'.slots ≤ e.platform.maxSlots
      omega
  · rw [State.stackLimits_setFrames]; rfl
  · rw [State.stackBytes_setFrames]; rfl
  · refine ⟨?_, Nat.le_refl _, Nat.le_refl _, ?_, ?_, fun a c9 h9 => ⟨c9, h9, rfl, rfl, fun _ _ => rfl⟩⟩
    · obtain ⟨t, ht, -⟩ := State.frames_cons hr
      show T.setVm s.vm = { ((T.setVm s.vm).setFrames (.invoking m args :: below)).setFrames (T.setVm s.vm).frames with heap := T.heap, slotsUsed := T.slotsUsed }
      rw [State.setFrames_setFrames, State.setFrames_self ht]
      rfl
    · show T.slotsUsed = T.slotsUsed + ((T.heap.toList.drop T.heap.size).map (·.slots.size)).sum
      rw [List.drop_eq_nil_of_le (Nat.le_of_eq Array.length_toList)]
      rfl
    · show ((T.heap.toList.drop T.heap.size).map (·.slots.size)).sum ≤ 0
      rw [List.drop_eq_nil_of_le (Nat.le_of_eq Array.length_toList)]
      exact Nat.le_refl _
/-- 'throw new E()': new; dup; invokespecial; athrow -/
theorem vx_throw0 {cc : ByteArray} {pc : Nat} (hexec : p.tables.exec = Jvm.exec) (hb : c.code = cc) (hl : l.stackTraces = false) {own cls : String} {names : List String} {ik ic mc ms : Nat} {A : Nat → Prop}
    (hown : s.vm.findClass own = some m.cls) (hcls : Bundle.fit cls = true) (hnames : ∀ n ∈ names, Bundle.fit n = true)
    (hk : (Cond.classLink own ik cls).before args s = true) (hini : (Cond.initialized cls).before args s = true) (hat : ∀ w ∈ vx_at0 own ic cls names, w.before args s = true)
    (hgood : ∀ w ∈ Cond.classLink own ik cls :: Cond.initialized cls :: vx_at0 own ic cls names, vx_ot w = true)
    (hU : vx_Zq Bundle.tN "UNASSIGNED_STACK" Bundle.steD A s s.heap) (hN : vx_Zq Bundle.tN "SUPPRESSED_SENTINEL" Bundle.listD A s s.heap) (hS : va_S A s.heap H locs) (hsize : ls.size = c.maxLocals)
    (d0 : decode cc pc = .ok (.new ik, 3)) (d3 : decode cc (pc + 3) = .ok (.dup, 1)) (d4 : decode cc (pc + 4) = .ok (.invokespecial ic, 3)) (d7 : decode cc (pc + 7) = .ok (.athrow, 1))
    (hout : ∀ x ∈ c.exceptionTable.toList, covers x (pc + 7) = false)
    (hRframes : names.length + 3 < R.frames) (hRlocals : (rest.map fun v => v.category).sum + (13 * (names.length + 1) + 42) ≤ R.locals) (hRcells : cells + 1 ≤ R.cells) (hRslots : slots + 6 ≤ R.slots) (hlocks : meth.locks = false)
    (hx : ∀ t : State, s.vm.Alike t.vm → H.size ≤ t.heap.size → (∀ q : Nat, q < H.size → t.heap[q]? = H[q]?) → XC cls s t)
    (hf : ∀ z ∈ locs, free z.base) (hc : cells + 1 ≤ mc) (hs : slots + 6 ≤ ms) :
    W p l e R s m args below meth c H locs cells slots (vx_MQ below Qc XC args s mc ms free) (F0 m pc ls rest) := by
  intro T hT X
  have htr : e.platform.stackTraces = false := (show e.platform.stackTraces = l.stackTraces by rw [X.admits.platform]).trans hl
  have Y := vx_rebase X (R' := { frames := R.frames, locals := R.locals, cells := 1, slots := 6 }) (Nat.le_refl _) (Nat.le_refl _) hRcells hRslots
  obtain ⟨s', hA⟩ : ∃ z, z = (T.setVm s.vm).setFrames (.invoking m args :: below) := ⟨_, rfl⟩
  rw [← hA] at Y
  have hvm : s'.vm = s.vm := by rw [hA]; rfl
  have hhp : s'.heap = H := by rw [hA]; exact hT
  have hW0 : s.WarmedH s'.vm := by rw [hvm]; exact State.WarmedH.refl s
  have hat' : ∀ w ∈ vx_at0 own ic cls names, w.before args s' = true := fun w hw => vx_ot_at hW0 hvm.symm (hgood w (List.mem_cons_of_mem _ (List.mem_cons_of_mem _ hw))) (hat w hw)
  have hk' : (Cond.classLink own ik cls).before args s' = true := vx_ot_at hW0 hvm.symm (hgood _ List.mem_cons_self) hk
  have hini' : (Cond.initialized cls).before args s' = true := vx_ot_at hW0 hvm.symm (hgood _ (List.mem_cons_of_mem _ List.mem_cons_self)) hini
  have hU' : vx_Zq Bundle.tN "UNASSIGNED_STACK" Bundle.steD A s' s'.heap := by rw [hhp]; exact vx_Zq.moved hW0.alike (hU.kept hS.2.1)
  have hN' : vx_Zq Bundle.tN "SUPPRESSED_SENTINEL" Bundle.listD A s' s'.heap := by rw [hhp]; exact vx_Zq.moved hW0.alike (hN.kept hS.2.1)
  have h : ∀ w ∈ Bundle.ownAtoms0 own ic cls names, w.before args s' = true := vx_own hat' (vx_isRefq hU'.1) (vx_isRefq hN'.1) hU'.2.word hN'.2.word
  have hown' : s'.vm.findClass own = some m.cls := by rw [hvm]; exact hown
  have hins : (Cond.instantiable cls 6).before args s' = true := h _ (by simp [Bundle.ownAtoms0])
  obtain ⟨vm₁, cX, kX, hfX, hkX, -, -, X₁, st1⟩ := Y.newCold hexec (own := own) (C := cls) (index := ik) (n := 6) hown' hk' hins hini'
    (g := F0 m pc ls rest) rfl (by rw [hb]; exact d0) (Nat.le_refl _) (Nat.le_refl _)
  generalize hT1 : (T.setVm vm₁).pushCell { cls := cX, slots := kX.instanceTypes.map defaultValue, vm := .none } = T1 at X₁ st1
  have hcat : (Value.ref T.heap.size).category = 1 := rfl
  have hcellA : T1.heap[T.heap.size]? = some (freshCell cX kX) := by rw [← hT1]; exact State.heap_pushCell_size _ _
  have d3' : decode c.code (pc + 3) = .ok (.dup, 1) := by rw [hb]; exact d3
  obtain ⟨U, hsteps, hrun, hend, hW, hsame, ce, hce, hO⟩ := X₁.ctorThrow0 hexec htr (own := own) (cls := cls) (names := names) (ic := ic) hown' hcls hnames h (fun x hx => nomatch hx) hfX hkX hcellA (by rw [hhp, hT]; exact Nat.le_refl _)
    (g := { method := m, pc := pc + 4, locals := ls, stack := .ref T.heap.size :: .ref T.heap.size :: rest, locked := none }) rfl hsize rfl rfl (rest := rest) rfl
    (by rw [hb]; exact d4) (by rw [hb]; exact d7) hout hRframes (by simp only [List.map_cons, List.sum_cons, hcat]; omega) hlocks
  obtain ⟨f1, f2⟩ := vx_frame hsame
  rw [hhp] at f1 f2
  have hWs : s.WarmedH U.vm := State.WarmedH.trans hW0 hW
  have hcl : s.vm.findClass cls = some ce.cls := by
    have h9 := hO.cls
    rw [hvm] at h9
    exact h9
  have hall : s.sameButNew ({ U with vm := s.vm } : State) locs mc ms := by
    subst hA
    obtain ⟨e1, e2⟩ := hsame
    rw [State.setFrames_setFrames] at e1
    have h2 : (T.setVm s.vm).sameButNew ({ U with vm := s.vm } : State) [] (0 + 1) (0 + 6) := ⟨e1, e2⟩
    have h3 := X.same.trans h2
    rw [List.append_nil] at h3
    exact h3.mono hc hs
  refine ⟨U, ?_, .threw T.heap.size, hrun, hend, Or.inr ⟨T.heap.size, rfl, cls, ce, locs, hx U hWs.alike f1 (fun q hq => f2 q hq (fun z hz => nomatch hz)), hce, hO.vm, hcl, hWs, hall, hf⟩⟩
  refine st1 _ ?_
  show Steps p.tables e below (T1.setTop { method := m, pc := pc + 3, locals := ls, stack := .ref T.heap.size :: rest, locked := none }) _
  jvm_step X₁.here [X₁.here.top, hexec, d3', Value.category]
  exact hsteps
/-- 'throw new E("text")': new; dup; ldc; invokespecial; athrow -/
theorem vx_throwS {cc : ByteArray} {pc : Nat} (hexec : p.tables.exec = Jvm.exec) (hb : c.code = cc) (hl : l.stackTraces = false) {own cls text : String} {names : List String} {ik is ic mc ms sa : Nat} {A : Nat → Prop}
    (hown : s.vm.findClass own = some m.cls) (hcls : Bundle.fit cls = true) (hnames : ∀ n ∈ names, Bundle.fit n = true)
    (hk : (Cond.classLink own ik cls).before args s = true) (hini : (Cond.initialized cls).before args s = true) (hstr : vk_R own is text sa s) (hat : ∀ w ∈ vx_atS own ic cls names, w.before args s = true)
    (hgood : ∀ w ∈ Cond.classLink own ik cls :: Cond.initialized cls :: vx_atS own ic cls names, vx_ot w = true)
    (hU : vx_Zq Bundle.tN "UNASSIGNED_STACK" Bundle.steD A s s.heap) (hN : vx_Zq Bundle.tN "SUPPRESSED_SENTINEL" Bundle.listD A s s.heap) (hS : va_S A s.heap H locs) (hsize : ls.size = c.maxLocals)
    (d0 : decode cc pc = .ok (.new ik, 3)) (d3 : decode cc (pc + 3) = .ok (.dup, 1)) (d4 : decode cc (pc + 4) = .ok (.ldc is, 2)) (d6 : decode cc (pc + 6) = .ok (.invokespecial ic, 3)) (d9 : decode cc (pc + 9) = .ok (.athrow, 1))
    (hout : ∀ x ∈ c.exceptionTable.toList, covers x (pc + 9) = false)
    (hRframes : names.length + 3 < R.frames) (hRlocals : (rest.map fun v => v.category).sum + (13 * (names.length + 1) + 43) ≤ R.locals) (hRcells : cells + 1 ≤ R.cells) (hRslots : slots + 6 ≤ R.slots) (hlocks : meth.locks = false)
    (hx : ∀ t : State, s.vm.Alike t.vm → H.size ≤ t.heap.size → (∀ q : Nat, q < H.size → t.heap[q]? = H[q]?) → XC cls s t)
    (hf : ∀ z ∈ locs, free z.base) (hc : cells + 1 ≤ mc) (hs : slots + 6 ≤ ms) :
    W p l e R s m args below meth c H locs cells slots (vx_MQ below Qc XC args s mc ms free) (F0 m pc ls rest) := by
  intro T hT X
  have htr : e.platform.stackTraces = false := (show e.platform.stackTraces = l.stackTraces by rw [X.admits.platform]).trans hl
  have Y := vx_rebase X (R' := { frames := R.frames, locals := R.locals, cells := 1, slots := 6 }) (Nat.le_refl _) (Nat.le_refl _) hRcells hRslots
  obtain ⟨s', hA⟩ : ∃ z, z = (T.setVm s.vm).setFrames (.invoking m args :: below) := ⟨_, rfl⟩
  rw [← hA] at Y
  have hvm : s'.vm = s.vm := by rw [hA]; rfl
  have hhp : s'.heap = H := by rw [hA]; exact hT
  have hW0 : s.WarmedH s'.vm := by rw [hvm]; exact State.WarmedH.refl s
  have hat' : ∀ w ∈ vx_atS own ic cls names, w.before args s' = true := fun w hw => vx_ot_at hW0 hvm.symm (hgood w (List.mem_cons_of_mem _ (List.mem_cons_of_mem _ hw))) (hat w hw)
  have hk' : (Cond.classLink own ik cls).before args s' = true := vx_ot_at hW0 hvm.symm (hgood _ List.mem_cons_self) hk
  have hini' : (Cond.initialized cls).before args s' = true := vx_ot_at hW0 hvm.symm (hgood _ (List.mem_cons_of_mem _ List.mem_cons_self)) hini
  have hU' : vx_Zq Bundle.tN "UNASSIGNED_STACK" Bundle.steD A s' s'.heap := by rw [hhp]; exact vx_Zq.moved hW0.alike (hU.kept hS.2.1)
  have hN' : vx_Zq Bundle.tN "SUPPRESSED_SENTINEL" Bundle.listD A s' s'.heap := by rw [hhp]; exact vx_Zq.moved hW0.alike (hN.kept hS.2.1)
  have h : ∀ w ∈ Bundle.ownAtoms own ic cls names, w.before args s' = true := vx_own hat' (vx_isRefq hU'.1) (vx_isRefq hN'.1) hU'.2.word hN'.2.word
  have hown' : s'.vm.findClass own = some m.cls := by rw [hvm]; exact hown
  have hins : (Cond.instantiable cls 6).before args s' = true := h _ (by simp [Bundle.ownAtoms])
  obtain ⟨vm₁, cX, kX, hfX, hkX, -, -, X₁, st1⟩ := Y.newCold hexec (own := own) (C := cls) (index := ik) (n := 6) hown' hk' hins hini'
    (g := F0 m pc ls rest) rfl (by rw [hb]; exact d0) (Nat.le_refl _) (Nat.le_refl _)
  generalize hT1 : (T.setVm vm₁).pushCell { cls := cX, slots := kX.instanceTypes.map defaultValue, vm := .none } = T1 at X₁ st1
  have hcat : (Value.ref T.heap.size).category = 1 := rfl
  have hcellA : T1.heap[T.heap.size]? = some (freshCell cX kX) := by rw [← hT1]; exact State.heap_pushCell_size _ _
  have d3' : decode c.code (pc + 3) = .ok (.dup, 1) := by rw [hb]; exact d3
  have d4' : decode c.code (pc + 4) = .ok (.ldc is, 2) := by rw [hb]; exact d4
  have hstr' : vk_R own is text sa s' := vk_R.warm hW0 hstr
  obtain ⟨U, hsteps, hrun, hend, hW, hsame, ce, hce, hO⟩ := X₁.ctorThrowS hexec htr (own := own) (cls := cls) (names := names) (ic := ic) hown' hcls hnames h (fun x hx => nomatch hx) hfX hkX hcellA (by rw [hhp, hT]; exact Nat.le_refl _) (msg := .ref sa) rfl
    (g := { method := m, pc := pc + 6, locals := ls, stack := .ref sa :: .ref T.heap.size :: .ref T.heap.size :: rest, locked := none }) rfl hsize rfl rfl (rest := rest) rfl
    (by rw [hb]; exact d6) (by rw [hb]; exact d9) hout hRframes (by simp only [List.map_cons, List.sum_cons, hcat]; omega) hlocks
  obtain ⟨f1, f2⟩ := vx_frame hsame
  rw [hhp] at f1 f2
  have hWs : s.WarmedH U.vm := State.WarmedH.trans hW0 hW
  have hcl : s.vm.findClass cls = some ce.cls := by
    have h9 := hO.cls
    rw [hvm] at h9
    exact h9
  have hall : s.sameButNew ({ U with vm := s.vm } : State) locs mc ms := by
    subst hA
    obtain ⟨e1, e2⟩ := hsame
    rw [State.setFrames_setFrames] at e1
    have h2 : (T.setVm s.vm).sameButNew ({ U with vm := s.vm } : State) [] (0 + 1) (0 + 6) := ⟨e1, e2⟩
    have h3 := X.same.trans h2
    rw [List.append_nil] at h3
    exact h3.mono hc hs
  refine ⟨U, ?_, .threw T.heap.size, hrun, hend, Or.inr ⟨T.heap.size, rfl, cls, ce, locs, hx U hWs.alike f1 (fun q hq => f2 q hq (fun z hz => nomatch hz)), hce, hO.vm, hcl, hWs, hall, hf⟩⟩
  refine st1 _ ?_
  show Steps p.tables e below (T1.setTop { method := m, pc := pc + 3, locals := ls, stack := .ref T.heap.size :: rest, locked := none }) _
  jvm_step X₁.here [X₁.here.top, hexec, d3', Value.category]
  exact X₁.ldcString hexec (own := own) (text := text) (index := is) (a := sa) hown' hstr'.1 hstr'.2
    (g := { method := m, pc := pc + 4, locals := ls, stack := .ref T.heap.size :: .ref T.heap.size :: rest, locked := none }) rfl d4' _ hsteps
/-- 'throw new E("text")', the text by a wide index -/
theorem vx_throwSW {cc : ByteArray} {pc : Nat} (hexec : p.tables.exec = Jvm.exec) (hb : c.code = cc) (hl : l.stackTraces = false) {own cls text : String} {names : List String} {ik is ic mc ms sa : Nat} {A : Nat → Prop}
    (hown : s.vm.findClass own = some m.cls) (hcls : Bundle.fit cls = true) (hnames : ∀ n ∈ names, Bundle.fit n = true)
    (hk : (Cond.classLink own ik cls).before args s = true) (hini : (Cond.initialized cls).before args s = true) (hstr : vk_R own is text sa s) (hat : ∀ w ∈ vx_atS own ic cls names, w.before args s = true)
    (hgood : ∀ w ∈ Cond.classLink own ik cls :: Cond.initialized cls :: vx_atS own ic cls names, vx_ot w = true)
    (hU : vx_Zq Bundle.tN "UNASSIGNED_STACK" Bundle.steD A s s.heap) (hN : vx_Zq Bundle.tN "SUPPRESSED_SENTINEL" Bundle.listD A s s.heap) (hS : va_S A s.heap H locs) (hsize : ls.size = c.maxLocals)
    (d0 : decode cc pc = .ok (.new ik, 3)) (d3 : decode cc (pc + 3) = .ok (.dup, 1)) (d4 : decode cc (pc + 4) = .ok (.ldc_w is, 3)) (d7 : decode cc (pc + 7) = .ok (.invokespecial ic, 3)) (d10 : decode cc (pc + 10) = .ok (.athrow, 1))
    (hout : ∀ x ∈ c.exceptionTable.toList, covers x (pc + 10) = false)
    (hRframes : names.length + 3 < R.frames) (hRlocals : (rest.map fun v => v.category).sum + (13 * (names.length + 1) + 43) ≤ R.locals) (hRcells : cells + 1 ≤ R.cells) (hRslots : slots + 6 ≤ R.slots) (hlocks : meth.locks = false)
    (hx : ∀ t : State, s.vm.Alike t.vm → H.size ≤ t.heap.size → (∀ q : Nat, q < H.size → t.heap[q]? = H[q]?) → XC cls s t)
    (hf : ∀ z ∈ locs, free z.base) (hc : cells + 1 ≤ mc) (hs : slots + 6 ≤ ms) :
    W p l e R s m args below meth c H locs cells slots (vx_MQ below Qc XC args s mc ms free) (F0 m pc ls rest) := by
  intro T hT X
  have htr : e.platform.stackTraces = false := (show e.platform.stackTraces = l.stackTraces by rw [X.admits.platform]).trans hl
  have Y := vx_rebase X (R' := { frames := R.frames, locals := R.locals, cells := 1, slots := 6 }) (Nat.le_refl _) (Nat.le_refl _) hRcells hRslots
  obtain ⟨s', hA⟩ : ∃ z, z = (T.setVm s.vm).setFrames (.invoking m args :: below) := ⟨_, rfl⟩
  rw [← hA] at Y
  have hvm : s'.vm = s.vm := by rw [hA]; rfl
  have hhp : s'.heap = H := by rw [hA]; exact hT
  have hW0 : s.WarmedH s'.vm := by rw [hvm]; exact State.WarmedH.refl s
  have hat' : ∀ w ∈ vx_atS own ic cls names, w.before args s' = true := fun w hw => vx_ot_at hW0 hvm.symm (hgood w (List.mem_cons_of_mem _ (List.mem_cons_of_mem _ hw))) (hat w hw)
  have hk' : (Cond.classLink own ik cls).before args s' = true := vx_ot_at hW0 hvm.symm (hgood _ List.mem_cons_self) hk
  have hini' : (Cond.initialized cls).before args s' = true := vx_ot_at hW0 hvm.symm (hgood _ (List.mem_cons_of_mem _ List.mem_cons_self)) hini
  have hU' : vx_Zq Bundle.tN "UNASSIGNED_STACK" Bundle.steD A s' s'.heap := by rw [hhp]; exact vx_Zq.moved hW0.alike (hU.kept hS.2.1)
  have hN' : vx_Zq Bundle.tN "SUPPRESSED_SENTINEL" Bundle.listD A s' s'.heap := by rw [hhp]; exact vx_Zq.moved hW0.alike (hN.kept hS.2.1)
  have h : ∀ w ∈ Bundle.ownAtoms own ic cls names, w.before args s' = true := vx_own hat' (vx_isRefq hU'.1) (vx_isRefq hN'.1) hU'.2.word hN'.2.word
  have hown' : s'.vm.findClass own = some m.cls := by rw [hvm]; exact hown
  have hins : (Cond.instantiable cls 6).before args s' = true := h _ (by simp [Bundle.ownAtoms])
  obtain ⟨vm₁, cX, kX, hfX, hkX, -, -, X₁, st1⟩ := Y.newCold hexec (own := own) (C := cls) (index := ik) (n := 6) hown' hk' hins hini'
    (g := F0 m pc ls rest) rfl (by rw [hb]; exact d0) (Nat.le_refl _) (Nat.le_refl _)
  generalize hT1 : (T.setVm vm₁).pushCell { cls := cX, slots := kX.instanceTypes.map defaultValue, vm := .none } = T1 at X₁ st1
  have hcat : (Value.ref T.heap.size).category = 1 := rfl
  have hcellA : T1.heap[T.heap.size]? = some (freshCell cX kX) := by rw [← hT1]; exact State.heap_pushCell_size _ _
  have d3' : decode c.code (pc + 3) = .ok (.dup, 1) := by rw [hb]; exact d3
  have d4' : decode c.code (pc + 4) = .ok (.ldc_w is, 3) := by rw [hb]; exact d4
  have hstr' : vk_R own is text sa s' := vk_R.warm hW0 hstr
  obtain ⟨U, hsteps, hrun, hend, hW, hsame, ce, hce, hO⟩ := X₁.ctorThrowS hexec htr (own := own) (cls := cls) (names := names) (ic := ic) hown' hcls hnames h (fun x hx => nomatch hx) hfX hkX hcellA (by rw [hhp, hT]; exact Nat.le_refl _) (msg := .ref sa) rfl
    (g := { method := m, pc := pc + 7, locals := ls, stack := .ref sa :: .ref T.heap.size :: .ref T.heap.size :: rest, locked := none }) rfl hsize rfl rfl (rest := rest) rfl
    (by rw [hb]; exact d7) (by rw [hb]; exact d10) hout hRframes (by simp only [List.map_cons, List.sum_cons, hcat]; omega) hlocks
  obtain ⟨f1, f2⟩ := vx_frame hsame
  rw [hhp] at f1 f2
  have hWs : s.WarmedH U.vm := State.WarmedH.trans hW0 hW
  have hcl : s.vm.findClass cls = some ce.cls := by
    have h9 := hO.cls
    rw [hvm] at h9
    exact h9
  have hall : s.sameButNew ({ U with vm := s.vm } : State) locs mc ms := by
    subst hA
    obtain ⟨e1, e2⟩ := hsame
    rw [State.setFrames_setFrames] at e1
    have h2 : (T.setVm s.vm).sameButNew ({ U with vm := s.vm } : State) [] (0 + 1) (0 + 6) := ⟨e1, e2⟩
    have h3 := X.same.trans h2
    rw [List.append_nil] at h3
    exact h3.mono hc hs
  refine ⟨U, ?_, .threw T.heap.size, hrun, hend, Or.inr ⟨T.heap.size, rfl, cls, ce, locs, hx U hWs.alike f1 (fun q hq => f2 q hq (fun z hz => nomatch hz)), hce, hO.vm, hcl, hWs, hall, hf⟩⟩
  refine st1 _ ?_
  show Steps p.tables e below (T1.setTop { method := m, pc := pc + 3, locals := ls, stack := .ref T.heap.size :: rest, locked := none }) _
  jvm_step X₁.here [X₁.here.top, hexec, d3', Value.category]
  exact X₁.ldcStringW hexec (own := own) (text := text) (index := is) (a := sa) hown' hstr'.1 hstr'.2
    (g := { method := m, pc := pc + 4, locals := ls, stack := .ref T.heap.size :: .ref T.heap.size :: rest, locked := none }) rfl d4' _ hsteps
end Ends
section Bodies
variable {l : Launch}
theorem vx_ofW {y : MethodName} {ws ws' : List Cond} {rm : Room} {Pc : Array Value → State → Prop} {Qc : Array Value → State → Outcome → State → Prop} {XC : String → State → State → Prop} {mc ms : Nat} {free : Addr → Prop} {cc : ByteArray} {maxL : Nat} {ret : Option FieldType}
    (hy : plainName y.cls = true) (hw : ws = Cond.code y cc maxL ret :: ws')
    (body : ∀ p e s m args below meth c s₁, BodyLoose p l y (headSpec ws rm) cc maxL ret e s m args below meth c s₁ → c.maxLocals = maxL → (∀ x ∈ c.exceptionTable.toList, False) → Pc args s →
      W p l e (headSpec ws rm).room s m args below meth c s.heap [] 0 0 (vx_MQ below Qc XC args s mc ms free) (entryFrame m args maxL)) : vx_Met l y ws rm Pc Qc XC mc ms free := by
  refine MetFree.of_bodyS (code := cc) (maxLocals := maxL) (ret := ret) hy ?_ ?_
  · intro args s m h hn
    obtain ⟨meth, c, h1, h2, h3, h4, h5, h6, -, -⟩ := Cond.code_spec hn (atoms_spec (ws := ws) h _ (by rw [hw]; exact List.mem_cons_self))
    exact ⟨meth, c, h1, h2, h3, h4, h5, h6⟩
  · intro p e s m args below meth c s₁ B hml hP _
    have hh0 : s₁.heap = s.heap := by rw [B.state]; rfl
    have ht : ∀ x ∈ c.exceptionTable.toList, False := by
      obtain ⟨meth9, c9, h1, h2, -, -, -, -, h7, -⟩ := Cond.code_spec B.named (atoms_spec (ws := ws) B.pre _ (by rw [hw]; exact List.mem_cons_self))
      cases Option.some.inj (h1.symm.trans B.method)
      cases Option.some.inj (h2.symm.trans (Stand.of_body B).code)
      intro x hx
      rw [Array.isEmpty_iff.mp h7] at hx
      cases hx
    obtain ⟨t, a1, o, b1, b2, b3⟩ := body p e s m args below meth c s₁ B hml ht hP s₁ hh0 (Stand.of_body B)
    exact ⟨t, o, a1, b1, b2, b3⟩
/-- the table of a body with handlers -/
theorem vx_table {p : Program} {x y : MethodName} {S : Spec} {cc bytes : ByteArray} {maxL maxL' : Nat} {ret ret' : Option FieldType} {e : Env} {s s₁ : State} {m : MethodId} {args : Array Value} {below : List Frame} {meth : Method} {c : Code} {hh : List (Nat × Nat × Nat × Nat)}
    (B : BodyLoose p l y S cc maxL ret e s m args below meth c s₁) (h : (Cond.codeWith y bytes maxL' ret' hh).before args s = true) : c.exceptionTable.toList = tableOf hh := by
  obtain ⟨m9, meth9, c9, hn9, h1, h2, -, -, h6, -⟩ := Cond.codeWith_spec h
  cases Option.some.inj (hn9.symm.trans B.named)
  cases Option.some.inj (h1.symm.trans B.method)
  cases Option.some.inj (h2.symm.trans (Stand.of_body B).code)
  rw [← h6, table_eq]
end Bodies
end VXA
/-! ===== END ===== -/
/-! ===== BEGIN a static call of a method with an exception table ===== -/
section VXS
variable {p : Program} {l : Launch} {e : Env} {R : Room} {s : State} {m : MethodId} {args : Array Value} {below : List Frame} {meth : Method} {c : Code} {T : State} {H : Heap} {locs : List Loc} {cells slots : Nat}
abbrev vx_CSW (R : Room) (s : State) (args : Array Value) (own : String) (index : Nat) (y : MethodName) (bytes : ByteArray) (maxL : Nat) (ret : Option FieldType) (hh : List (Nat × Nat × Nat × Nat)) (ws : List Cond) (rm : Room) (mc ms n : Nat) : Prop :=
  (rm.cells = mc ∧ rm.slots = ms ∧ rm.frames + 1 ≤ R.frames ∧ 8 + (maxL + 11) + rm.locals ≤ R.locals ∧ (∀ w ∈ ws, ∀ (a' : Array Value) (U : State), s.WarmedH U.vm → w.before a' U = true) ∧ Cond.codeWith y bytes maxL ret hh ∈ ws) ∧
  (Cond.codeWith y bytes maxL ret hh).before args s = true ∧ (Cond.initialized y.cls).before args s = true ∧ (y.cls ≠ "java/lang/invoke/MethodHandle" ∧ y.cls ≠ "java/lang/invoke/VarHandle") ∧
  (∀ sig, parseMethodDescriptor y.desc = some sig → n = sig.parameters.length) ∧ (Cond.methodLink own index y).before args s = true ∧ (Cond.static y).before args s = true
theorem vx_cwSW {own : String} {index maxL mc ms : Nat} {y : MethodName} {bytes : ByteArray} {ret : Option FieldType} {hh : List (Nat × Nat × Nat × Nat)} {Ts ws ws' : List Cond} {rm : Room} (n : Nat) (ht : ∀ w ∈ Ts, w.before args s = true) (hT : GoodIn Ts (va_wsS own index y ws)) (hw : ws = Cond.codeWith y bytes maxL ret hh :: ws') (hrc : rm.cells = mc) (hrs : rm.slots = ms)
    (hd : y.cls ≠ "java/lang/invoke/MethodHandle" ∧ y.cls ≠ "java/lang/invoke/VarHandle" ∧ (parseMethodDescriptor y.desc).map (fun d => d.parameters.length) = some n) (hR : rm.frames + 1 ≤ R.frames ∧ 8 + (maxL + 11) + rm.locals ≤ R.locals) :
    vx_CSW R s args own index y bytes maxL ret hh ws rm mc ms n := by
  have ok : ∀ w ∈ va_wsS own index y ws, w.before args s = true := fun w h => ht w (hT w h).1
  have hG : GoodIn Ts ws := fun w h => hT w (by unfold va_wsS; exact List.mem_append_right _ h)
  have hc : Cond.codeWith y bytes maxL ret hh ∈ ws := by rw [hw]; exact List.mem_cons_self
  refine ⟨⟨hrc, hrs, hR.1, hR.2, pay_in ht hG, hc⟩, ht _ (hG _ hc).1, ok _ (by simp [va_wsS]), ⟨hd.1, hd.2.1⟩, fun sig h => ?_, ok _ (by simp [va_wsS]), ok _ (by simp [va_wsS])⟩
  have h2 := hd.2.2
  rw [h] at h2
  exact (Option.some.inj h2).symm
theorem vx_callSW (X : Stand p l e R s m args below meth c T locs cells slots) (hexec : p.tables.exec = Jvm.exec) {own : String} {index : Nat} {y : MethodName} {bytes : ByteArray} {maxL : Nat} {ret : Option FieldType} {hh : List (Nat × Nat × Nat × Nat)}
    (hown : s.vm.findClass own = some m.cls) (hlink : (Cond.methodLink own index y).before args s = true) (hstat : (Cond.static y).before args s = true) (hinit : (Cond.initialized y.cls).before args s = true)
    (hcode : (Cond.codeWith y bytes maxL ret hh).before args s = true) (hy : y.cls ≠ "java/lang/invoke/MethodHandle" ∧ y.cls ≠ "java/lang/invoke/VarHandle")
    {W9 : Nat} {Pre : Pt → Array Value → Prop} {Post : Pt → Array Value → Option Value → Pt → Prop} (hK : Back l R p e below s args y 3 W9 Pre Post)
    {g : JFrame} (hg : g.method = m) (hsize : g.locals.size = c.maxLocals) {argsL rest : List Value} (hlen : ∀ sig, parseMethodDescriptor y.desc = some sig → argsL.length = sig.parameters.length)
    (hstack : g.stack = argsL.reverse ++ rest) (hW : 2 * g.monitorRoom + (rest.map fun v => v.category).sum ≤ W9) (hdg : decode c.code g.pc = .ok (.invokestatic index, 3))
    (hpre : ∀ vm₁, s.WarmedH vm₁ → Pre ⟨T.setVm vm₁, locs, cells, slots⟩ argsL.toArray) :
    ∃ (v : Option Value) (vm₁ : Vm) (B : Pt), s.WarmedH vm₁ ∧ Stand p l e R s m args below meth c B.U B.locs B.cells B.slots ∧ Post ⟨T.setVm vm₁, locs, cells, slots⟩ argsL.toArray v B ∧
      ∀ target, Steps p.tables e below (B.U.setTop { g with pc := g.pc + 3, stack := v.toList ++ rest }) target → Steps p.tables e below (T.setTop g) target := by
  obtain ⟨mk, methM, cM, hnamed, hmethM, -, -, -, -, -, -, hsigM⟩ := Cond.codeWith_spec hcode
  have hstatic : methM.isStatic = true := Cond.static_spec hnamed hmethM hstat
  obtain ⟨kP, hkP, -⟩ := className_of_methodNamed hnamed
  have hinitP : kP.init = .initialized := Cond.initialized_spec (findClass_of_methodNamed hnamed) hkP hinit
  obtain ⟨vm₁, X₁, hstep₁⟩ := X.invokestatic hexec hown hlink hnamed hmethM hstatic hkP hinitP hy (g := g) hg (argsL := argsL) (rest := rest) (hlen _ hsigM) hstack hdg
  obtain ⟨v, B, X', hpost, hsteps⟩ := hK m meth c ⟨T.setVm vm₁, locs, cells, slots⟩ { g with stack := rest } (.invokestatic index) mk argsL.toArray X₁ hg hsize hdg hW (X₁.named hnamed) (hpre vm₁ X₁.warmed)
  exact ⟨v, vm₁, B, X₁.warmed, X', hpost, fun target h => hstep₁ _ fun acts => by rw [doInvoke_state]; exact hsteps.trans h⟩
theorem vx_runSW {y : MethodName} {bytes cc : ByteArray} {maxL nL mc ms n index : Nat} {ret : Option FieldType} {hh : List (Nat × Nat × Nat × Nat)} {ws : List Cond} {rm : Room} {Pc : Array Value → State → Prop} {Qc : Array Value → State → Outcome → State → Prop} {free : Addr → Prop} {Ts : List Cond} {own : String} {As rest : List Value} {g : JFrame}
    (S : CallFix p m c cc nL s args Ts own) (hM : Met l y ws rm Pc Qc mc ms free) (cw : vx_CSW R s args own index y bytes maxL ret hh ws rm mc ms n) (hp : PreS s H Pc As)
    (hg : g.method = m) (hn : As.length = n) (hsize : g.locals.size = nL) (hstack : g.stack = As.reverse ++ rest) (hW : 2 * g.monitorRoom + (rest.map fun v => v.category).sum ≤ 8) (hdg : decode cc g.pc = .ok (.invokestatic index, 3)) (hf : cells + mc ≤ R.cells ∧ slots + ms ≤ R.slots) :
    va_Run p l e R s m args below meth c H locs cells slots mc ms g rest (Qc As.toArray) (free) := by
  obtain ⟨⟨hrc, hrs, hfr, hlo, hws, hcw⟩, hcode, hini, hy, hlen, hl, hstt⟩ := cw
  have hK : Back l R p e below s args y 3 8 (PreOf R mc ms Pc) (PostOf Qc mc ms free) := va_backW (hh := hh) (bytes := bytes) (maxL := maxL) (ret := ret) hM hp.1 hrc hrs hfr hlo hws hcw (fun a' U hW => word_at hW (Or.inl (by first | rfl | simp [Cond.onTables, Cond.keeps, Cond.steady])) hini)
  obtain ⟨hx, hb, hml, ho, -⟩ := S
  intro T hT X
  obtain ⟨v, vm₁, ⟨U', l2, c2, s2⟩, hW₁, X', ⟨g', mk, t, L, e1, e2, hq, h1, hL, h2, h3⟩, st⟩ := vx_callSW X hx (hh := hh) (bytes := bytes) (maxL := maxL) (ret := ret) ho hl hstt hini hcode hy hK hg (hsize.trans hml.symm) (argsL := As) (rest := rest) (fun sig h => hn.trans (hlen sig h)) hstack hW (by rw [hb]; exact hdg)
    (fun vm₁ hW₁ => ⟨hf.1, hf.2, hp.2 (T.setVm vm₁) hT hW₁⟩)
  dsimp only [Pt.U, Pt.locs, Pt.cells, Pt.slots] at X' e1 e2 h1 h2 h3 st
  subst h1; subst h2; subst h3
  exact ⟨v, (T.setVm vm₁).calling g' mk As.toArray, t, U', L, hT, X', hL, e1, e2, hq, st⟩
/-- not caught here, past rows that name other classes: it goes on to the caller -/
theorem vx_outP {p : Program} {l : Launch} {e : Env} {R : Room} {s : State} {m : MethodId} {args : Array Value} {below : List Frame} {meth : Method} {c : Code} {H : Heap} {locs : List Loc} {cells slots : Nat} {free : Addr → Prop} {ls : Array Slot} {rest : List Value} {Qc : Array Value → State → Outcome → State → Prop} {XC : String → State → State → Prop}
    {pc : Nat} {own E : String} {ce : Cell} {q : Addr} {mc ms : Nat} (hown : s.vm.findClass own = some m.cls) (hlocks : meth.locks = false)
    (hpass : ∀ z ∈ c.exceptionTable.toList, covers z pc = false ∨ (z.catchType ≠ 0 ∧ ∃ nm : String, (Cond.classLink own z.catchType nm).before args s = true ∧ va_Nc E nm s)) (hcell : H[q]? = some ce) (hv : ce.vm = .none) (hcl : s.vm.findClass E = some ce.cls)
    (hx : ∀ t : State, t.heap = H → s.vm.Alike t.vm → XC E s t) (hf : ∀ z ∈ locs, free z.base) (hc : cells ≤ mc) (hs : slots ≤ ms) :
    vx_W p l e R s m args below meth c H locs cells slots (vx_MQ below Qc XC args s mc ms free) (F0 m pc ls rest) q := by
  intro T hT X
  have hpl : e.platform.magicAccessors = ({} : Platform).magicAccessors := by rw [X.admits.platform]
  obtain ⟨vm', hW', X', st⟩ := X.outThrough hlocks q (g := F0 m pc ls rest) rfl rfl rfl (cell := ce) (by rw [hT]; exact hcell) (by rw [hv]; rfl)
    (by obtain ⟨k9, h9, -⟩ := Vm.findClass_spec hcl; exact ⟨k9, h9⟩) (fun z hz => by
      rcases hpass z hz with h | ⟨hz0, nm, hl1, hn1⟩
      · exact Or.inl h
      · obtain ⟨c6, hc6, hcl6⟩ := Cond.classLink_spec hown hl1 e.platform hpl
        obtain ⟨a8, b8, h1, h2, h3⟩ := hn1
        cases Option.some.inj (h1.symm.trans hcl)
        cases Option.some.inj (h2.symm.trans hc6)
        exact Or.inr ⟨hz0, _, hcl6, h3⟩)
  obtain ⟨g₀, hfr⟩ := X'.frames_eq
  have hcell9 : ((T.setVm vm').setFrames (.throwing q :: below)).heap[q]? = some ce := by
    show T.heap[q]? = some ce
    rw [hT]; exact hcell
  have hend : Ended ((T.setVm vm').setFrames (.throwing q :: below)) below (.threw q) := State.frames_setFrames _ (State.cur_lt_of_frames hfr)
  refine ⟨(T.setVm vm').setFrames (.throwing q :: below), ?_, .threw q, X'.here.running, hend, Or.inr ⟨q, rfl, E, ce, locs, hx _ hT (X'.ends _).1.alike, hcell9, hv, hcl, (X'.ends _).1, (X'.ends _).2.mono hc hs, hf⟩⟩
  rw [X.pushThrowing_eq]
  exact st
/-- a thing of a world lies in the heap -/
theorem vx_lt {D : va_G} {cl : List vw_C} {ws : va_W} {H1 : Heap} (h : va_P D cl ws H1) {k : Nat} {q : Nat × va_E} (hk : ws[k]? = some q) : q.1 < H1.size := (h k q hk).lt
end VXS
/-! ===== END ===== -/
/-! ===== BEGIN methods with a table of their own: called by a name, returning or throwing ===== -/
section VXH
/-! vx_backW, vx_callVX, vx_callSX, vx_callVW, vx_runVW, vx_runVX, vx_runSX, vx_ofWH follow the same proofs as their sisters above (Free/Laws.lean, Shelf42/LK1.lean); vx_outP calls Shelf42/NT130.lean (outThrough). -/
section
variable {l : Launch} {R : Room} {p : Program} {e : Env} {below : List Frame} {s : State} {sargs : Array Value} {y : MethodName} {len W9 : Nat}
theorem vx_backW {ws : List Cond} {rm : Room} {Pc : Array Value → State → Prop} {Qc : Array Value → State → Outcome → State → Prop} {XC : String → State → State → Prop} {mc ms : Nat} {free : Addr → Prop} {bytes : ByteArray} {maxL : Nat} {ret : Option FieldType} {hh : List (Nat × Nat × Nat × Nat)}
    (hM : vx_Met l y ws rm Pc Qc XC mc ms free) (hblind : FrameBlind Pc) (hrc : rm.cells = mc) (hrs : rm.slots = ms)
    (hframes : rm.frames + 1 ≤ R.frames) (hlocals : W9 + (maxL + 11) + rm.locals ≤ R.locals)
    (hws : ∀ w ∈ ws, ∀ a' U, s.WarmedH U.vm → w.before a' U = true) (hcode : Cond.codeWith y bytes maxL ret hh ∈ ws) (hinit : ∀ a' U, s.WarmedH U.vm → (Cond.initialized y.cls).before a' U = true) :
    vx_Back l R p e below s sargs y len W9 (PreOf R mc ms Pc) (PostOf Qc mc ms free) (vx_Post XC mc ms free) := by
  intro m meth c A g ig mk a X hg hsize hdg hW hn hp
  have h1 : (headSpec ws rm).pre.before a A.U = true := atoms_intro fun w hw => hws w hw _ _ X.warmed
  have h2 : (Cond.codeWith y bytes maxL ret hh).before a A.U = true := hws _ hcode _ _ X.warmed
  have h3 : (Cond.initialized y.cls).before a A.U = true := hinit _ _ X.warmed
  have h4 : A.cells + (headSpec ws rm).room.cells ≤ R.cells := by rw [show (headSpec ws rm).room.cells = mc from hrc]; exact hp.1
  have h5 : A.slots + (headSpec ws rm).room.slots ≤ R.slots := by rw [show (headSpec ws rm).room.slots = ms from hrs]; exact hp.2.1
  have hPc : Pc a (A.U.calling g mk a) := hblind _ _ _ _ hp.2.2
  obtain ⟨U, Ls, c0, s0⟩ := A
  dsimp only [Pt.U, Pt.locs, Pt.cells, Pt.slots] at h1 h2 h3 h4 h5 X hn hPc ⊢
  obtain ⟨m9, methY, cY, hn9, hmY, hcY, -, hlY, -⟩ := Cond.codeWith_spec h2
  cases Option.some.inj (hn9.symm.trans hn)
  obtain ⟨kY, hkY, -⟩ := className_of_methodNamed hn
  have hinitY : kY.init = .initialized := Cond.initialized_spec (findClass_of_methodNamed hn) hkY h3
  have h : At U g.method c below := by rw [hg]; exact X.here
  have hlocals9 : W9 + (maxL + 11) + (headSpec ws rm).room.locals ≤ R.locals := hlocals
  have happ : (headSpec ws rm).appliesLoose y e.platform (U.calling g mk a) = true :=
    Spec.appliesLoose_calling (g := g) h hdg hn hkY hinitY
      (X.room_calling (g := g) (R' := (headSpec ws rm).room) hsize hmY hcY hframes (by rw [hlY]; omega) h4 h5) h1
  obtain ⟨mid, hmid⟩ := h.above
  have hfr : (U.setTop g).frames = (.java g :: mid) ++ below := by rw [State.frames_setTop' g h.top, hmid]; rfl
  obtain ⟨o, s₂, hsteps, -, hend, hq⟩ := Steps.callFree hM p X.admits X.cas X.clock (acts := []) hfr happ hPc trivial
  have hq' : vx_Q Qc XC mc ms free a (U.calling g mk a) o s₂ := hq
  rw [State.frames_setTop' g h.top] at hend
  obtain ⟨g₀, hg0⟩ := Option.isSome_iff_exists.mp h.top
  obtain ⟨r, hr⟩ := State.topJava?_eq_some.mp hg0
  have hr' : (({ U with heap := s₂.heap, slotsUsed := s₂.slotsUsed } : State).setVm s₂.vm).frames = .java g₀ :: r := hr
  rcases hq' with ⟨hqc, L, hfe, hL⟩ | ⟨q, rfl, E, ce, L, hx, hce, hcv, hcl, hW₂, hsm, hL⟩
  · obtain ⟨⟨v, rfl⟩, hW₂, e2, q2, q3, q4, q5, q6⟩ := id hfe
    have e3 : s₂ = ({ (U.calling g mk a).setFrames s₂.frames with heap := s₂.heap, slotsUsed := s₂.slotsUsed } : State).setVm s₂.vm := by
      have : s₂ = ({ s₂ with vm := (U.calling g mk a).vm } : State).setVm s₂.vm := rfl
      rw [e2] at this
      exact this
    obtain ⟨c₂, i₂, len₂, hc₂, hd₂, hf₂⟩ := hend
    have hW' : U.WarmedH s₂.vm := hW₂
    have hcc : c₂ = c := by
      have h1 : s₂.code? g.method = U.code? g.method := by
        rw [State.code?_eq, State.code?_eq, hW'.alike.method?]
      exact Option.some.inj (hc₂.symm.trans (h1.trans h.code))
    subst hcc
    have hlen : len₂ = len := by rw [hdg] at hd₂; cases hd₂; rfl
    subst hlen
    have hs₂ : s₂ = (({ U with heap := s₂.heap, slotsUsed := s₂.slotsUsed } : State).setVm s₂.vm).setTop { g with pc := g.pc + len₂, stack := v.toList ++ g.stack } := by
      refine e3.trans ?_
      rw [hf₂, State.calling_eq h.top, State.setFrames_setFrames, State.setTop_of_frames _ hr', hr]
      rfl
    have hsame : U.sameButNew ({ U with heap := s₂.heap, slotsUsed := s₂.slotsUsed } : State) L mc ms := by
      refine ⟨?_, q2, q3, q4, q5, q6⟩
      obtain ⟨t, ht, -⟩ := State.frames_cons hr
      show ({ U with heap := s₂.heap, slotsUsed := s₂.slotsUsed } : State) = { U.setFrames U.frames with heap := s₂.heap, slotsUsed := s₂.slotsUsed }
      rw [State.setFrames_self ht]
    subst hg
    refine Or.inl ⟨v, ⟨(({ U with heap := s₂.heap, slotsUsed := s₂.slotsUsed } : State).setVm s₂.vm), Ls ++ L, c0 + mc, s0 + ms⟩,
      ⟨X.admits, X.cas, X.clock, X.frames, X.room, X.hears, X.method, X.code, (X.here.setHeapUsed s₂.heap s₂.slotsUsed).setVm hW'.alike, X.tail, State.WarmedH.trans X.warmed hW', X.limits, X.bytes, X.same.trans (hsame.setVm s.vm)⟩,
      ⟨g, mk, s₂, L, rfl, rfl, hqc, rfl, hL, rfl, rfl⟩, ?_⟩
    show Steps p.tables e below _ ((({ U with heap := s₂.heap, slotsUsed := s₂.slotsUsed } : State).setVm s₂.vm).setTop { g with pc := g.pc + len₂, stack := v.toList ++ g.stack })
    rw [← hs₂]
    exact hsteps
  · obtain ⟨e2, q2, q3, q4, q5, q6⟩ := id hsm
    have e3 : s₂ = ({ (U.calling g mk a).setFrames s₂.frames with heap := s₂.heap, slotsUsed := s₂.slotsUsed } : State).setVm s₂.vm := by
      have : s₂ = ({ s₂ with vm := (U.calling g mk a).vm } : State).setVm s₂.vm := rfl
      rw [e2] at this
      exact this
    have hf₂ : s₂.frames = .throwing q :: .java g :: U.frames.tail := hend
    have hW' : U.WarmedH s₂.vm := hW₂
    have hs₂ : s₂ = ((({ U with heap := s₂.heap, slotsUsed := s₂.slotsUsed } : State).setVm s₂.vm).setTop g).pushFrame (.throwing q) := by
      refine e3.trans ?_
      rw [hf₂, State.calling_eq h.top, State.setFrames_setFrames, State.pushFrame, State.frames_setTop _ hr', State.setTop_of_frames _ hr', State.setFrames_setFrames, hr]
      rfl
    have hsame : U.sameButNew ({ U with heap := s₂.heap, slotsUsed := s₂.slotsUsed } : State) L mc ms := by
      refine ⟨?_, q2, q3, q4, q5, q6⟩
      obtain ⟨t, ht, -⟩ := State.frames_cons hr
      show ({ U with heap := s₂.heap, slotsUsed := s₂.slotsUsed } : State) = { U.setFrames U.frames with heap := s₂.heap, slotsUsed := s₂.slotsUsed }
      rw [State.setFrames_self ht]
    subst hg
    refine Or.inr ⟨q, ⟨(({ U with heap := s₂.heap, slotsUsed := s₂.slotsUsed } : State).setVm s₂.vm), Ls ++ L, c0 + mc, s0 + ms⟩,
      ⟨X.admits, X.cas, X.clock, X.frames, X.room, X.hears, X.method, X.code, (X.here.setHeapUsed s₂.heap s₂.slotsUsed).setVm hW'.alike, X.tail, State.WarmedH.trans X.warmed hW', X.limits, X.bytes, X.same.trans (hsame.setVm s.vm)⟩,
      ⟨g, mk, s₂, L, E, ce, rfl, rfl, hx, hce, hcv, hcl, rfl, hL, rfl, rfl⟩, ?_⟩
    show Steps p.tables e below _ (((({ U with heap := s₂.heap, slotsUsed := s₂.slotsUsed } : State).setVm s₂.vm).setTop g).pushFrame (.throwing q))
    rw [← hs₂]
    exact hsteps
end
variable {p : Program} {l : Launch} {e : Env} {R : Room} {s : State} {m : MethodId} {args : Array Value} {below : List Frame} {meth : Method} {c : Code} {T : State} {H : Heap} {locs : List Loc} {cells slots : Nat}
theorem vx_callVX (X : Stand p l e R s m args below meth c T locs cells slots) (hexec : p.tables.exec = Jvm.exec) {own C : String} {index : Nat} {y : MethodName} {bytes : ByteArray} {maxL : Nat} {ret : Option FieldType} {hh : List (Nat × Nat × Nat × Nat)}
    (hown : s.vm.findClass own = some m.cls) (hlink : (Cond.methodLink own index y).before args s = true) (hinst : (Cond.instanceMethod y).before args s = true) (hsel : (Cond.selects C y y).before args s = true)
    (hcode : (Cond.codeWith y bytes maxL ret hh).before args s = true) (hy : y.cls ≠ "java/lang/invoke/MethodHandle" ∧ y.cls ≠ "java/lang/invoke/VarHandle")
    {W9 : Nat} {Pre : Pt → Array Value → Prop} {Post : Pt → Array Value → Option Value → Pt → Prop} {PostX : Pt → Array Value → Addr → Pt → Prop} (hK : vx_Back l R p e below s args y 3 W9 Pre Post PostX)
    {b : Addr} {cellB : Cell} (hcell : T.heap[b]? = some cellB) (hobj : cellB.vm.isStatics = false) (hcls : s.vm.findClass C = some cellB.cls)
    {g : JFrame} (hg : g.method = m) (hsize : g.locals.size = c.maxLocals) {argsL rest : List Value} (hlen : ∀ sig, parseMethodDescriptor y.desc = some sig → argsL.length = sig.parameters.length)
    (hstack : g.stack = argsL.reverse ++ .ref b :: rest) (hW : 2 * g.monitorRoom + (rest.map fun v => v.category).sum ≤ W9) (hdg : decode c.code g.pc = .ok (.invokevirtual index, 3))
    (hpre : ∀ vm₁, s.WarmedH vm₁ → Pre ⟨T.setVm vm₁, locs, cells, slots⟩ (Value.ref b :: argsL).toArray) :
    (∃ (v : Option Value) (vm₁ : Vm) (B : Pt), s.WarmedH vm₁ ∧ Stand p l e R s m args below meth c B.U B.locs B.cells B.slots ∧ Post ⟨T.setVm vm₁, locs, cells, slots⟩ (Value.ref b :: argsL).toArray v B ∧
      ∀ target, Steps p.tables e below (B.U.setTop { g with pc := g.pc + 3, stack := v.toList ++ rest }) target → Steps p.tables e below (T.setTop g) target) ∨
    (∃ (q : Addr) (vm₁ : Vm) (B : Pt), s.WarmedH vm₁ ∧ Stand p l e R s m args below meth c B.U B.locs B.cells B.slots ∧ PostX ⟨T.setVm vm₁, locs, cells, slots⟩ (Value.ref b :: argsL).toArray q B ∧
      Steps p.tables e below (T.setTop g) ((B.U.setTop { g with stack := rest }).pushFrame (.throwing q))) := by
  obtain ⟨mk, methM, hnamed, hmethM, hstM, habM⟩ := Cond.instanceMethod_spec hinst
  obtain ⟨m8, methM', cM, hn8, hmethM', -, -, -, -, -, -, hsigM⟩ := Cond.codeWith_spec hcode
  cases Option.some.inj (hn8.symm.trans hnamed)
  cases hmethM.symm.trans hmethM'
  obtain ⟨c2, r2, m2, q1, q2, q3, q4, kP, hkP, hkPi⟩ := Cond.selects_spec hsel
  cases hcls.symm.trans q1
  cases (State.methodFound?_of_named hnamed hy).symm.trans q2
  cases hnamed.symm.trans q3
  have hselP : selectMethod e.platform s.vm cellB.cls mk = .method mk := by rw [Launch.admits_selectMethod X.admits]; exact q4
  obtain ⟨vm₁, X₁, hstep₁⟩ := X.invokevirtual hexec hown hlink hnamed hmethM hstM hkP hkPi hy (a := b) (cell := cellB) hcell
    (fun z h => by rw [h] at hobj; cases hobj) hselP hmethM habM hkP hkPi (g := g) hg (argsL := argsL) (rest := rest) (hlen _ hsigM) hstack hdg
  rcases hK m meth c ⟨T.setVm vm₁, locs, cells, slots⟩ { g with stack := rest } (.invokevirtual index) mk (Value.ref b :: argsL).toArray X₁ hg hsize hdg hW (X₁.named hnamed) (hpre vm₁ X₁.warmed) with ⟨v, B, X', hpost, hsteps⟩ | ⟨q, B, X', hpost, hsteps⟩
  · exact Or.inl ⟨v, vm₁, B, X₁.warmed, X', hpost, fun target h => hstep₁ _ fun acts => by rw [doInvoke_state]; exact hsteps.trans h⟩
  · exact Or.inr ⟨q, vm₁, B, X₁.warmed, X', hpost, hstep₁ _ fun acts => by rw [doInvoke_state]; exact hsteps⟩
theorem vx_callSX (X : Stand p l e R s m args below meth c T locs cells slots) (hexec : p.tables.exec = Jvm.exec) {own : String} {index : Nat} {y : MethodName} {bytes : ByteArray} {maxL : Nat} {ret : Option FieldType} {hh : List (Nat × Nat × Nat × Nat)}
    (hown : s.vm.findClass own = some m.cls) (hlink : (Cond.methodLink own index y).before args s = true) (hstat : (Cond.static y).before args s = true) (hinit : (Cond.initialized y.cls).before args s = true)
    (hcode : (Cond.codeWith y bytes maxL ret hh).before args s = true) (hy : y.cls ≠ "java/lang/invoke/MethodHandle" ∧ y.cls ≠ "java/lang/invoke/VarHandle")
    {W9 : Nat} {Pre : Pt → Array Value → Prop} {Post : Pt → Array Value → Option Value → Pt → Prop} {PostX : Pt → Array Value → Addr → Pt → Prop} (hK : vx_Back l R p e below s args y 3 W9 Pre Post PostX)
    {g : JFrame} (hg : g.method = m) (hsize : g.locals.size = c.maxLocals) {argsL rest : List Value} (hlen : ∀ sig, parseMethodDescriptor y.desc = some sig → argsL.length = sig.parameters.length)
    (hstack : g.stack = argsL.reverse ++ rest) (hW : 2 * g.monitorRoom + (rest.map fun v => v.category).sum ≤ W9) (hdg : decode c.code g.pc = .ok (.invokestatic index, 3))
    (hpre : ∀ vm₁, s.WarmedH vm₁ → Pre ⟨T.setVm vm₁, locs, cells, slots⟩ argsL.toArray) :
    (∃ (v : Option Value) (vm₁ : Vm) (B : Pt), s.WarmedH vm₁ ∧ Stand p l e R s m args below meth c B.U B.locs B.cells B.slots ∧ Post ⟨T.setVm vm₁, locs, cells, slots⟩ argsL.toArray v B ∧
      ∀ target, Steps p.tables e below (B.U.setTop { g with pc := g.pc + 3, stack := v.toList ++ rest }) target → Steps p.tables e below (T.setTop g) target) ∨
    (∃ (q : Addr) (vm₁ : Vm) (B : Pt), s.WarmedH vm₁ ∧ Stand p l e R s m args below meth c B.U B.locs B.cells B.slots ∧ PostX ⟨T.setVm vm₁, locs, cells, slots⟩ argsL.toArray q B ∧
      Steps p.tables e below (T.setTop g) ((B.U.setTop { g with stack := rest }).pushFrame (.throwing q))) := by
  obtain ⟨mk, methM, cM, hnamed, hmethM, -, -, -, -, -, -, hsigM⟩ := Cond.codeWith_spec hcode
  have hstatic : methM.isStatic = true := Cond.static_spec hnamed hmethM hstat
  obtain ⟨kP, hkP, -⟩ := className_of_methodNamed hnamed
  have hinitP : kP.init = .initialized := Cond.initialized_spec (findClass_of_methodNamed hnamed) hkP hinit
  obtain ⟨vm₁, X₁, hstep₁⟩ := X.invokestatic hexec hown hlink hnamed hmethM hstatic hkP hinitP hy (g := g) hg (argsL := argsL) (rest := rest) (hlen _ hsigM) hstack hdg
  rcases hK m meth c ⟨T.setVm vm₁, locs, cells, slots⟩ { g with stack := rest } (.invokestatic index) mk argsL.toArray X₁ hg hsize hdg hW (X₁.named hnamed) (hpre vm₁ X₁.warmed) with ⟨v, B, X', hpost, hsteps⟩ | ⟨q, B, X', hpost, hsteps⟩
  · exact Or.inl ⟨v, vm₁, B, X₁.warmed, X', hpost, fun target h => hstep₁ _ fun acts => by rw [doInvoke_state]; exact hsteps.trans h⟩
  · exact Or.inr ⟨q, vm₁, B, X₁.warmed, X', hpost, hstep₁ _ fun acts => by rw [doInvoke_state]; exact hsteps⟩
theorem vx_callVW (X : Stand p l e R s m args below meth c T locs cells slots) (hexec : p.tables.exec = Jvm.exec) {own C : String} {index : Nat} {y : MethodName} {bytes : ByteArray} {maxL : Nat} {ret : Option FieldType} {hh : List (Nat × Nat × Nat × Nat)}
    (hown : s.vm.findClass own = some m.cls) (hlink : (Cond.methodLink own index y).before args s = true) (hinst : (Cond.instanceMethod y).before args s = true) (hsel : (Cond.selects C y y).before args s = true)
    (hcode : (Cond.codeWith y bytes maxL ret hh).before args s = true) (hy : y.cls ≠ "java/lang/invoke/MethodHandle" ∧ y.cls ≠ "java/lang/invoke/VarHandle")
    {W9 : Nat} {Pre : Pt → Array Value → Prop} {Post : Pt → Array Value → Option Value → Pt → Prop} (hK : Back l R p e below s args y 3 W9 Pre Post)
    {b : Addr} {cellB : Cell} (hcell : T.heap[b]? = some cellB) (hobj : cellB.vm.isStatics = false) (hcls : s.vm.findClass C = some cellB.cls)
    {g : JFrame} (hg : g.method = m) (hsize : g.locals.size = c.maxLocals) {argsL rest : List Value} (hlen : ∀ sig, parseMethodDescriptor y.desc = some sig → argsL.length = sig.parameters.length)
    (hstack : g.stack = argsL.reverse ++ .ref b :: rest) (hW : 2 * g.monitorRoom + (rest.map fun v => v.category).sum ≤ W9) (hdg : decode c.code g.pc = .ok (.invokevirtual index, 3))
    (hpre : ∀ vm₁, s.WarmedH vm₁ → Pre ⟨T.setVm vm₁, locs, cells, slots⟩ (Value.ref b :: argsL).toArray) :
    ∃ (v : Option Value) (vm₁ : Vm) (B : Pt), s.WarmedH vm₁ ∧ Stand p l e R s m args below meth c B.U B.locs B.cells B.slots ∧ Post ⟨T.setVm vm₁, locs, cells, slots⟩ (Value.ref b :: argsL).toArray v B ∧
      ∀ target, Steps p.tables e below (B.U.setTop { g with pc := g.pc + 3, stack := v.toList ++ rest }) target → Steps p.tables e below (T.setTop g) target := by
  obtain ⟨mk, methM, hnamed, hmethM, hstM, habM⟩ := Cond.instanceMethod_spec hinst
  obtain ⟨m8, methM', cM, hn8, hmethM', -, -, -, -, -, -, hsigM⟩ := Cond.codeWith_spec hcode
  cases Option.some.inj (hn8.symm.trans hnamed)
  cases hmethM.symm.trans hmethM'
  obtain ⟨c2, r2, m2, q1, q2, q3, q4, kP, hkP, hkPi⟩ := Cond.selects_spec hsel
  cases hcls.symm.trans q1
  cases (State.methodFound?_of_named hnamed hy).symm.trans q2
  cases hnamed.symm.trans q3
  have hselP : selectMethod e.platform s.vm cellB.cls mk = .method mk := by rw [Launch.admits_selectMethod X.admits]; exact q4
  obtain ⟨vm₁, X₁, hstep₁⟩ := X.invokevirtual hexec hown hlink hnamed hmethM hstM hkP hkPi hy (a := b) (cell := cellB) hcell
    (fun z h => by rw [h] at hobj; cases hobj) hselP hmethM habM hkP hkPi (g := g) hg (argsL := argsL) (rest := rest) (hlen _ hsigM) hstack hdg
  obtain ⟨v, B, X', hpost, hsteps⟩ := hK m meth c ⟨T.setVm vm₁, locs, cells, slots⟩ { g with stack := rest } (.invokevirtual index) mk (Value.ref b :: argsL).toArray X₁ hg hsize hdg hW (X₁.named hnamed) (hpre vm₁ X₁.warmed)
  exact ⟨v, vm₁, B, X₁.warmed, X', hpost, fun target h => hstep₁ _ fun acts => by rw [doInvoke_state]; exact hsteps.trans h⟩
abbrev vx_CVW (R : Room) (s : State) (args : Array Value) (own C : String) (index : Nat) (y : MethodName) (bytes : ByteArray) (maxL : Nat) (ret : Option FieldType) (hh : List (Nat × Nat × Nat × Nat)) (ws : List Cond) (rm : Room) (mc ms n : Nat) : Prop :=
  (rm.cells = mc ∧ rm.slots = ms ∧ rm.frames + 1 ≤ R.frames ∧ 8 + (maxL + 11) + rm.locals ≤ R.locals ∧ (∀ w ∈ ws, ∀ (a' : Array Value) (U : State), s.WarmedH U.vm → w.before a' U = true) ∧ Cond.codeWith y bytes maxL ret hh ∈ ws) ∧
  (Cond.codeWith y bytes maxL ret hh).before args s = true ∧ (Cond.initialized y.cls).before args s = true ∧ (y.cls ≠ "java/lang/invoke/MethodHandle" ∧ y.cls ≠ "java/lang/invoke/VarHandle") ∧
  (∀ sig, parseMethodDescriptor y.desc = some sig → n = sig.parameters.length) ∧ (Cond.methodLink own index y).before args s = true ∧ (Cond.instanceMethod y).before args s = true ∧ (Cond.selects C y y).before args s = true
theorem vx_cwVW {own C : String} {index maxL mc ms : Nat} {y : MethodName} {bytes : ByteArray} {ret : Option FieldType} {hh : List (Nat × Nat × Nat × Nat)} {Ts ws ws' : List Cond} {rm : Room} (n : Nat) (ht : ∀ w ∈ Ts, w.before args s = true) (hT : GoodIn Ts (wsV own index C y ws)) (hw : ws = Cond.codeWith y bytes maxL ret hh :: ws') (hrc : rm.cells = mc) (hrs : rm.slots = ms)
    (hd : y.cls = C ∧ y.cls ≠ "java/lang/invoke/MethodHandle" ∧ y.cls ≠ "java/lang/invoke/VarHandle" ∧ (parseMethodDescriptor y.desc).map (fun d => d.parameters.length) = some n) (hR : rm.frames + 1 ≤ R.frames ∧ 8 + (maxL + 11) + rm.locals ≤ R.locals) :
    vx_CVW R s args own C index y bytes maxL ret hh ws rm mc ms n := by
  obtain ⟨hC, hd⟩ := hd
  subst hC
  have ok : ∀ w ∈ wsV own index y.cls y ws, w.before args s = true := fun w h => ht w (hT w h).1
  have hG : GoodIn Ts ws := fun w h => hT w (by unfold wsV; exact List.mem_append_right _ h)
  have hc : Cond.codeWith y bytes maxL ret hh ∈ ws := by rw [hw]; exact List.mem_cons_self
  refine ⟨⟨hrc, hrs, hR.1, hR.2, pay_in ht hG, hc⟩, ht _ (hG _ hc).1, ok _ (by simp [wsV]), ⟨hd.1, hd.2.1⟩, fun sig h => ?_, ok _ (by simp [wsV]), ok _ (by simp [wsV]), ok _ (by simp [wsV])⟩
  have h2 := hd.2.2
  rw [h] at h2
  exact (Option.some.inj h2).symm
theorem vx_runVW {y : MethodName} {bytes cc : ByteArray} {maxL nL mc ms n index : Nat} {ret : Option FieldType} {hh : List (Nat × Nat × Nat × Nat)} {ws : List Cond} {rm : Room} {Pc : Array Value → State → Prop} {Qc : Array Value → State → Outcome → State → Prop} {free : Addr → Prop} {Ts : List Cond} {own C : String} {b : Addr} {As rest : List Value} {g : JFrame}
    (S : CallFix p m c cc nL s args Ts own) (hM : Met l y ws rm Pc Qc mc ms free) (cw : vx_CVW R s args own C index y bytes maxL ret hh ws rm mc ms n) (hp : PreV s H C b Pc As)
    (hg : g.method = m) (hn : As.length = n) (hsize : g.locals.size = nL) (hstack : g.stack = As.reverse ++ .ref b :: rest) (hW : 2 * g.monitorRoom + (rest.map fun v => v.category).sum ≤ 8) (hdg : decode cc g.pc = .ok (.invokevirtual index, 3)) (hf : cells + mc ≤ R.cells ∧ slots + ms ≤ R.slots) :
    va_Run p l e R s m args below meth c H locs cells slots mc ms g rest (Qc (Value.ref b :: As).toArray) free := by
  obtain ⟨⟨hrc, hrs, hfr, hlo, hws, hcw⟩, hcode, hini, hy, hlen, hl, hin, hse⟩ := cw
  have hK : Back l R p e below s args y 3 8 (PreOf R mc ms Pc) (PostOf Qc mc ms free) := va_backW (hh := hh) (bytes := bytes) (maxL := maxL) (ret := ret) hM hp.1 hrc hrs hfr hlo hws hcw (fun a' U hW => word_at hW (Or.inl (by first | rfl | simp [Cond.onTables, Cond.keeps, Cond.steady])) hini)
  obtain ⟨hx, hb, hml, ho, -⟩ := S
  obtain ⟨-, ⟨cellB, hcB, hoB, hclB⟩, hPc⟩ := hp
  intro T hT X
  obtain ⟨v, vm₁, ⟨U', l2, c2, s2⟩, hW₁, X', ⟨g', mk, t, L, e1, e2, hq, h1, hL, h2, h3⟩, st⟩ := vx_callVW X hx (C := C) (hh := hh) (bytes := bytes) (maxL := maxL) (ret := ret) ho hl hin hse hcode hy hK (by rw [hT]; exact hcB) hoB hclB hg (hsize.trans hml.symm) (argsL := As) (rest := rest) (fun sig h => hn.trans (hlen sig h)) hstack hW (by rw [hb]; exact hdg)
    (fun vm₁ hW₁ => ⟨hf.1, hf.2, hPc (T.setVm vm₁) hT hW₁⟩)
  dsimp only [Pt.U, Pt.locs, Pt.cells, Pt.slots] at X' e1 e2 h1 h2 h3 st
  subst h1; subst h2; subst h3
  exact ⟨v, (T.setVm vm₁).calling g' mk (Value.ref b :: As).toArray, t, U', L, hT, X', hL, e1, e2, hq, st⟩
section
variable {y : MethodName} {bytes cc : ByteArray} {maxL nL mc ms n index : Nat} {ret : Option FieldType} {ws : List Cond} {rm : Room} {Pc : Array Value → State → Prop} {Qc : Array Value → State → Outcome → State → Prop} {XC : String → State → State → Prop} {free : Addr → Prop} {Ts : List Cond} {own C : String} {b : Addr} {As rest : List Value} {g : JFrame}
theorem vx_runVX {hh : List (Nat × Nat × Nat × Nat)} (S : CallFix p m c cc nL s args Ts own) (hM : vx_Met l y ws rm Pc Qc XC mc ms free) (cw : vx_CVW R s args own C index y bytes maxL ret hh ws rm mc ms n) (hp : PreV s H C b Pc As)
    (hg : g.method = m) (hn : As.length = n) (hsize : g.locals.size = nL) (hstack : g.stack = As.reverse ++ .ref b :: rest) (hW : 2 * g.monitorRoom + (rest.map fun v => v.category).sum ≤ 8) (hdg : decode cc g.pc = .ok (.invokevirtual index, 3)) (hf : cells + mc ≤ R.cells ∧ slots + ms ≤ R.slots) :
    vx_Run p l e R s m args below meth c H locs cells slots mc ms g rest (Qc (Value.ref b :: As).toArray) XC free := by
  obtain ⟨⟨hrc, hrs, hfr, hlo, hws, hcw⟩, hcode, hini, hy, hlen, hl, hin, hse⟩ := cw
  have hK : vx_Back l R p e below s args y 3 8 (PreOf R mc ms Pc) (PostOf Qc mc ms free) (vx_Post XC mc ms free) := vx_backW (hh := hh) (bytes := bytes) (maxL := maxL) (ret := ret) hM hp.1 hrc hrs hfr hlo hws hcw (fun a' U hW => word_at hW (Or.inl (by first | rfl | simp [Cond.onTables, Cond.keeps, Cond.steady])) hini)
  obtain ⟨hx, hb, hml, ho, -⟩ := S
  obtain ⟨-, ⟨cellB, hcB, hoB, hclB⟩, hPc⟩ := hp
  intro T hT X
  rcases vx_callVX X hx (C := C) (hh := hh) (bytes := bytes) (maxL := maxL) (ret := ret) ho hl hin hse hcode hy hK (by rw [hT]; exact hcB) hoB hclB hg (hsize.trans hml.symm) (argsL := As) (rest := rest) (fun sig h => hn.trans (hlen sig h)) hstack hW (by rw [hb]; exact hdg)
    (fun vm₁ hW₁ => ⟨hf.1, hf.2, hPc (T.setVm vm₁) hT hW₁⟩) with ⟨v, vm₁, ⟨U', l2, c2, s2⟩, hW₁, X', ⟨g', mk, t, L, e1, e2, hq, h1, hL, h2, h3⟩, st⟩ | ⟨q, vm₁, ⟨U', l2, c2, s2⟩, hW₁, X', ⟨g', mk, t, L, E, ce, e1, e2, hq, hce, hcv, hcl, h1, hL, h2, h3⟩, st⟩
  · dsimp only [Pt.U, Pt.locs, Pt.cells, Pt.slots] at X' e1 e2 h1 h2 h3 st
    subst h1; subst h2; subst h3
    exact Or.inl ⟨v, (T.setVm vm₁).calling g' mk (Value.ref b :: As).toArray, t, U', L, hT, X', hL, e1, e2, hq, st⟩
  · dsimp only [Pt.U, Pt.locs, Pt.cells, Pt.slots] at X' e1 e2 h1 h2 h3 st hcl
    subst h1; subst h2; subst h3
    exact Or.inr ⟨q, (T.setVm vm₁).calling g' mk (Value.ref b :: As).toArray, t, U', L, E, ce, hT, X', hL, e1, e2, hq, hce, hcv, vx_cls hW₁ hcl, st⟩
theorem vx_runSX {hh : List (Nat × Nat × Nat × Nat)} (S : CallFix p m c cc nL s args Ts own) (hM : vx_Met l y ws rm Pc Qc XC mc ms free) (cw : vx_CSW R s args own index y bytes maxL ret hh ws rm mc ms n) (hp : PreS s H Pc As)
    (hg : g.method = m) (hn : As.length = n) (hsize : g.locals.size = nL) (hstack : g.stack = As.reverse ++ rest) (hW : 2 * g.monitorRoom + (rest.map fun v => v.category).sum ≤ 8) (hdg : decode cc g.pc = .ok (.invokestatic index, 3)) (hf : cells + mc ≤ R.cells ∧ slots + ms ≤ R.slots) :
    vx_Run p l e R s m args below meth c H locs cells slots mc ms g rest (Qc As.toArray) XC free := by
  obtain ⟨⟨hrc, hrs, hfr, hlo, hws, hcw⟩, hcode, hini, hy, hlen, hl, hstt⟩ := cw
  have hK : vx_Back l R p e below s args y 3 8 (PreOf R mc ms Pc) (PostOf Qc mc ms free) (vx_Post XC mc ms free) := vx_backW (hh := hh) (bytes := bytes) (maxL := maxL) (ret := ret) hM hp.1 hrc hrs hfr hlo hws hcw (fun a' U hW => word_at hW (Or.inl (by first | rfl | simp [Cond.onTables, Cond.keeps, Cond.steady])) hini)
  obtain ⟨hx, hb, hml, ho, -⟩ := S
  intro T hT X
  rcases vx_callSX X hx (hh := hh) (bytes := bytes) (maxL := maxL) (ret := ret) ho hl hstt hini hcode hy hK hg (hsize.trans hml.symm) (argsL := As) (rest := rest) (fun sig h => hn.trans (hlen sig h)) hstack hW (by rw [hb]; exact hdg)
    (fun vm₁ hW₁ => ⟨hf.1, hf.2, hp.2 (T.setVm vm₁) hT hW₁⟩) with ⟨v, vm₁, ⟨U', l2, c2, s2⟩, hW₁, X', ⟨g', mk, t, L, e1, e2, hq, h1, hL, h2, h3⟩, st⟩ | ⟨q, vm₁, ⟨U', l2, c2, s2⟩, hW₁, X', ⟨g', mk, t, L, E, ce, e1, e2, hq, hce, hcv, hcl, h1, hL, h2, h3⟩, st⟩
  · dsimp only [Pt.U, Pt.locs, Pt.cells, Pt.slots] at X' e1 e2 h1 h2 h3 st
    subst h1; subst h2; subst h3
    exact Or.inl ⟨v, (T.setVm vm₁).calling g' mk As.toArray, t, U', L, hT, X', hL, e1, e2, hq, st⟩
  · dsimp only [Pt.U, Pt.locs, Pt.cells, Pt.slots] at X' e1 e2 h1 h2 h3 st hcl
    subst h1; subst h2; subst h3
    exact Or.inr ⟨q, (T.setVm vm₁).calling g' mk As.toArray, t, U', L, E, ce, hT, X', hL, e1, e2, hq, hce, hcv, vx_cls hW₁ hcl, st⟩
end
end VXH
theorem vx_ofWH {l : Launch} {y : MethodName} {ws ws' : List Cond} {rm : Room} {Pc : Array Value → State → Prop} {Qc : Array Value → State → Outcome → State → Prop} {XC : String → State → State → Prop} {mc ms : Nat} {free : Addr → Prop} {cc : ByteArray} {maxL : Nat} {ret : Option FieldType} {hh : List (Nat × Nat × Nat × Nat)}
    (hy : plainName y.cls = true) (hw : ws = Cond.codeWith y cc maxL ret hh :: ws')
    (body : ∀ p e s m args below meth c s₁, BodyLoose p l y (headSpec ws rm) cc maxL ret e s m args below meth c s₁ → c.maxLocals = maxL → Pc args s →
      W p l e (headSpec ws rm).room s m args below meth c s.heap [] 0 0 (vx_MQ below Qc XC args s mc ms free) (entryFrame m args maxL)) : vx_Met l y ws rm Pc Qc XC mc ms free := by
  refine MetFree.of_bodyS (code := cc) (maxLocals := maxL) (ret := ret) hy ?_ ?_
  · intro args s m h hn
    obtain ⟨m9, meth, c, hn9, h1, h2, h3, h4, -, h5, h6, -⟩ := Cond.codeWith_spec (atoms_spec (ws := ws) h _ (by rw [hw]; exact List.mem_cons_self))
    cases hn.symm.trans hn9
    exact ⟨meth, c, h1, h2, h3, h4, h5, h6⟩
  · intro p e s m args below meth c s₁ B hml hP _
    have hh0 : s₁.heap = s.heap := by rw [B.state]; rfl
    obtain ⟨t, a1, o, b1, b2, b3⟩ := body p e s m args below meth c s₁ B hml hP s₁ hh0 (Stand.of_body B)
    exact ⟨t, o, a1, b1, b2, b3⟩
/-! ===== END ===== -/
end
section
def RX0 : String := "Phrasehall$Bout"
def TX0 : u_T := fun k => match k with
  | 0 => ("Phrasehall$Bout", "first", "LPhrasehall$Corner;", true)
  | 1 => ("Phrasehall$Bout", "second", "LPhrasehall$Corner;", true)
  | 2 => ("Phrasehall$Bout", "weapon", "I", true)
  | 3 => ("Phrasehall$Bout", "to", "I", true)
  | 4 => ("Phrasehall$Bout", "pool", "I", true)
  | 5 => ("Phrasehall$Bout", "winner", "I", false)
  | 6 => ("Phrasehall$Bout", "drawn", "I", false)
  | 7 => ("Phrasehall$Bout", "seconds", "I", false)
  | 8 => ("Phrasehall$Bout", "quietSeconds", "I", false)
  | _ => ("Phrasehall$Bout", "passivities", "I", false)
def tyX0 : Nat → FieldType := fun k => match k with
  | 0 => .object "Phrasehall$Corner"
  | 1 => .object "Phrasehall$Corner"
  | 2 => .int
  | 3 => .int
  | 4 => .int
  | 5 => .int
  | 6 => .int
  | 7 => .int
  | 8 => .int
  | _ => .int
abbrev wsX00 : List Cond := u_ws RX0 TX0 10
theorem nmX0 : ∀ a, a < 10 → ∀ b, b < 10 → a ≠ b → (TX0 a).2.1 ≠ (TX0 b).2.1 := by decide +kernel
theorem tyX0_ok : ∀ k, k < 10 → parseFieldDescriptor (TX0 k).2.2.1 = some (tyX0 k) := by decide +kernel
abbrev cX0_init : ByteArray := prog_2_method_1_code
def yX0_init : MethodName := ⟨RX0, "<init>", "(IIIII)V"⟩
abbrev cX0_corner : ByteArray := prog_2_method_2_code
def yX0_corner : MethodName := ⟨RX0, "corner", "(I)LPhrasehall$Corner;"⟩
abbrev cX0_has : ByteArray := prog_2_method_3_code
def yX0_has : MethodName := ⟨RX0, "has", "(I)Z"⟩
abbrev cX0_sideOf : ByteArray := prog_2_method_4_code
def yX0_sideOf : MethodName := ⟨RX0, "sideOf", "(I)I"⟩
abbrev cX0_isOver : ByteArray := prog_2_method_5_code
def yX0_isOver : MethodName := ⟨RX0, "isOver", "()Z"⟩
abbrev cX0_isLike : ByteArray := prog_2_method_6_code
def yX0_isLike : MethodName := ⟨RX0, "isLike", "()Z"⟩
abbrev cX0_leader : ByteArray := prog_2_method_7_code
def yX0_leader : MethodName := ⟨RX0, "leader", "()I"⟩
abbrev cX0_finish : ByteArray := prog_2_method_8_code
def yX0_finish : MethodName := ⟨RX0, "finish", "(I)V"⟩
abbrev cX0_isDoubleTooFar : ByteArray := prog_2_method_9_code
def yX0_isDoubleTooFar : MethodName := ⟨RX0, "isDoubleTooFar", "()Z"⟩
abbrev cX0_giveTouches : ByteArray := prog_2_method_10_code
def yX0_giveTouches : MethodName := ⟨RX0, "giveTouches", "(I)V"⟩
abbrev cX0_addTouches : ByteArray := prog_2_method_11_code
def yX0_addTouches : MethodName := ⟨RX0, "addTouches", "(I)V"⟩
abbrev cX0_giveCard : ByteArray := prog_2_method_12_code
def yX0_giveCard : MethodName := ⟨RX0, "giveCard", "(II)I"⟩
abbrev cX0_passSecond : ByteArray := prog_2_method_13_code
def yX0_passSecond : MethodName := ⟨RX0, "passSecond", "(LPhrasehall$Lot;)V"⟩
abbrev cX0_becomePassive : ByteArray := prog_2_method_14_code
def yX0_becomePassive : MethodName := ⟨RX0, "becomePassive", "()V"⟩
abbrev cX0_lookAtTime : ByteArray := prog_2_method_15_code
def yX0_lookAtTime : MethodName := ⟨RX0, "lookAtTime", "(LPhrasehall$Lot;)V"⟩
abbrev cX0_timeLimit : ByteArray := prog_2_method_16_code
def yX0_timeLimit : MethodName := ⟨RX0, "timeLimit", "()I"⟩
abbrev cX0_secondsLeft : ByteArray := prog_2_method_17_code
def yX0_secondsLeft : MethodName := ⟨RX0, "secondsLeft", "()I"⟩
abbrev cX0_told : ByteArray := prog_2_method_18_code
def yX0_told : MethodName := ⟨RX0, "told", "(I)I"⟩
abbrev cX0_share : ByteArray := prog_2_method_19_code
def yX0_share : MethodName := ⟨RX0, "share", "(II)I"⟩
def RX1 : String := "Phrasehall$Bracket"
def TX1 : u_T := fun k => match k with
  | 0 => ("Phrasehall$Bracket", "nodes", "[I", true)
  | 1 => ("Phrasehall$Bracket", "order", "[I", true)
  | _ => ("Phrasehall$Bracket", "places", "I", false)
def tyX1 : Nat → FieldType := fun k => match k with
  | 0 => .array .int
  | 1 => .array .int
  | _ => .int
abbrev wsX10 : List Cond := u_ws RX1 TX1 3
theorem nmX1 : ∀ a, a < 3 → ∀ b, b < 3 → a ≠ b → (TX1 a).2.1 ≠ (TX1 b).2.1 := by decide +kernel
theorem tyX1_ok : ∀ k, k < 3 → parseFieldDescriptor (TX1 k).2.2.1 = some (tyX1 k) := by decide +kernel
abbrev cX1_init : ByteArray := prog_3_method_1_code
def yX1_init : MethodName := ⟨RX1, "<init>", "()V"⟩
abbrev cX1_makeFrom : ByteArray := prog_3_method_2_code
def yX1_makeFrom : MethodName := ⟨RX1, "makeFrom", "(LPhrasehall$Pool;)V"⟩
abbrev cX1_leastPlaces : ByteArray := prog_3_method_3_code
def yX1_leastPlaces : MethodName := ⟨RX1, "leastPlaces", "(I)I"⟩
abbrev cX1_orderPlaces : ByteArray := prog_3_method_4_code
def yX1_orderPlaces : MethodName := ⟨RX1, "orderPlaces", "(I)V"⟩
abbrev cX1_passBye : ByteArray := prog_3_method_5_code
def yX1_passBye : MethodName := ⟨RX1, "passBye", "(I)V"⟩
abbrev cX1_at : ByteArray := prog_3_method_6_code
def yX1_at : MethodName := ⟨RX1, "at", "(I)I"⟩
abbrev cX1_put : ByteArray := prog_3_method_7_code
def yX1_put : MethodName := ⟨RX1, "put", "(II)V"⟩
abbrev cX1_matchesIn : ByteArray := prog_3_method_8_code
def yX1_matchesIn : MethodName := ⟨RX1, "matchesIn", "(I)I"⟩
abbrev cX1_hasMatch : ByteArray := prog_3_method_9_code
def yX1_hasMatch : MethodName := ⟨RX1, "hasMatch", "(II)Z"⟩
abbrev cX1_nodeOf : ByteArray := prog_3_method_10_code
def yX1_nodeOf : MethodName := ⟨RX1, "nodeOf", "(II)I"⟩
abbrev cX1_winnerOf : ByteArray := prog_3_method_11_code
def yX1_winnerOf : MethodName := ⟨RX1, "winnerOf", "(II)I"⟩
abbrev cX1_fencerIn : ByteArray := prog_3_method_12_code
def yX1_fencerIn : MethodName := ⟨RX1, "fencerIn", "(III)I"⟩
abbrev cX1_isOpen : ByteArray := prog_3_method_13_code
def yX1_isOpen : MethodName := ⟨RX1, "isOpen", "(II)Z"⟩
abbrev cX1_settle : ByteArray := prog_3_method_14_code
def yX1_settle : MethodName := ⟨RX1, "settle", "(III)I"⟩
def RX2 : String := "Phrasehall$Corner"
def TX2 : u_T := fun k => match k with
  | 0 => ("Phrasehall$Corner", "fencer", "I", true)
  | 1 => ("Phrasehall$Corner", "touches", "I", false)
  | 2 => ("Phrasehall$Corner", "carded", "Z", false)
  | _ => ("Phrasehall$Corner", "cardedInThird", "Z", false)
def tyX2 : Nat → FieldType := fun k => match k with
  | 0 => .int
  | 1 => .int
  | 2 => .boolean
  | _ => .boolean
abbrev wsX20 : List Cond := u_ws RX2 TX2 4
theorem nmX2 : ∀ a, a < 4 → ∀ b, b < 4 → a ≠ b → (TX2 a).2.1 ≠ (TX2 b).2.1 := by decide +kernel
theorem tyX2_ok : ∀ k, k < 4 → parseFieldDescriptor (TX2 k).2.2.1 = some (tyX2 k) := by decide +kernel
abbrev cX2_init : ByteArray := prog_4_method_1_code
def yX2_init : MethodName := ⟨RX2, "<init>", "(I)V"⟩
abbrev cX2_colourFor : ByteArray := prog_4_method_2_code
def yX2_colourFor : MethodName := ⟨RX2, "colourFor", "(I)I"⟩
abbrev cX2_note : ByteArray := prog_4_method_3_code
def yX2_note : MethodName := ⟨RX2, "note", "(I)V"⟩
def RX3 : String := "Phrasehall$Lot"
def TX3 : u_T := fun k => match k with
  | _ => ("Phrasehall$Lot", "seed", "J", false)
def tyX3 : Nat → FieldType := fun k => match k with
  | _ => .long
abbrev wsX30 : List Cond := u_ws RX3 TX3 1
theorem nmX3 : ∀ a, a < 1 → ∀ b, b < 1 → a ≠ b → (TX3 a).2.1 ≠ (TX3 b).2.1 := by decide +kernel
theorem tyX3_ok : ∀ k, k < 1 → parseFieldDescriptor (TX3 k).2.2.1 = some (tyX3 k) := by decide +kernel
abbrev cX3_init : ByteArray := prog_5_method_1_code
def yX3_init : MethodName := ⟨RX3, "<init>", "()V"⟩
abbrev cX3_draw : ByteArray := prog_5_method_2_code
def yX3_draw : MethodName := ⟨RX3, "draw", "()I"⟩
def RX4 : String := "Phrasehall$Phrase"
def TX4 : u_T := fun k => match k with
  | 0 => ("Phrasehall$Phrase", "sides", "[I", true)
  | 1 => ("Phrasehall$Phrase", "kinds", "[I", true)
  | 2 => ("Phrasehall$Phrase", "times", "[I", true)
  | 3 => ("Phrasehall$Phrase", "spans", "[I", true)
  | 4 => ("Phrasehall$Phrase", "targets", "[I", true)
  | 5 => ("Phrasehall$Phrase", "rightOfWay", "LPhrasehall$RightOfWay;", true)
  | _ => ("Phrasehall$Phrase", "count", "I", false)
def tyX4 : Nat → FieldType := fun k => match k with
  | 0 => .array .int
  | 1 => .array .int
  | 2 => .array .int
  | 3 => .array .int
  | 4 => .array .int
  | 5 => .object "Phrasehall$RightOfWay"
  | _ => .int
abbrev wsX40 : List Cond := u_ws RX4 TX4 7
theorem nmX4 : ∀ a, a < 7 → ∀ b, b < 7 → a ≠ b → (TX4 a).2.1 ≠ (TX4 b).2.1 := by decide +kernel
theorem tyX4_ok : ∀ k, k < 7 → parseFieldDescriptor (TX4 k).2.2.1 = some (tyX4 k) := by decide +kernel
abbrev cX4_init : ByteArray := prog_6_method_1_code
def yX4_init : MethodName := ⟨RX4, "<init>", "()V"⟩
abbrev cX4_empty : ByteArray := prog_6_method_2_code
def yX4_empty : MethodName := ⟨RX4, "empty", "()V"⟩
abbrev cX4_isFull : ByteArray := prog_6_method_3_code
def yX4_isFull : MethodName := ⟨RX4, "isFull", "()Z"⟩
abbrev cX4_lastTime : ByteArray := prog_6_method_4_code
def yX4_lastTime : MethodName := ⟨RX4, "lastTime", "()I"⟩
abbrev cX4_addAction : ByteArray := prog_6_method_5_code
def yX4_addAction : MethodName := ⟨RX4, "addAction", "(III)I"⟩
abbrev cX4_addContact : ByteArray := prog_6_method_6_code
def yX4_addContact : MethodName := ⟨RX4, "addContact", "(IIII)I"⟩
abbrev cX4_append : ByteArray := prog_6_method_7_code
def yX4_append : MethodName := ⟨RX4, "append", "(IIIII)I"⟩
abbrev cX4_isEntry : ByteArray := prog_6_method_8_code
def yX4_isEntry : MethodName := ⟨RX4, "isEntry", "(I)Z"⟩
abbrev cX4_timeAt : ByteArray := prog_6_method_9_code
def yX4_timeAt : MethodName := ⟨RX4, "timeAt", "(I)I"⟩
abbrev cX4_targetAt : ByteArray := prog_6_method_10_code
def yX4_targetAt : MethodName := ⟨RX4, "targetAt", "(I)I"⟩
abbrev cX4_registered : ByteArray := prog_6_method_11_code
def yX4_registered : MethodName := ⟨RX4, "registered", "(II)I"⟩
abbrev cX4_couldRegister : ByteArray := prog_6_method_12_code
def yX4_couldRegister : MethodName := ⟨RX4, "couldRegister", "(II)Z"⟩
abbrev cX4_leastSpan : ByteArray := prog_6_method_13_code
def yX4_leastSpan : MethodName := ⟨RX4, "leastSpan", "(I)I"⟩
abbrev cX4_lockout : ByteArray := prog_6_method_14_code
def yX4_lockout : MethodName := ⟨RX4, "lockout", "(I)I"⟩
abbrev cX4_holderAhead : ByteArray := prog_6_method_15_code
def yX4_holderAhead : MethodName := ⟨RX4, "holderAhead", "(I)I"⟩
def RX5 : String := "Phrasehall$Pool"
def TX5 : u_T := fun k => match k with
  | 0 => ("Phrasehall$Pool", "number", "I", true)
  | 1 => ("Phrasehall$Pool", "members", "I", true)
  | 2 => ("Phrasehall$Pool", "table", "[I", true)
  | 3 => ("Phrasehall$Pool", "ranking", "[I", true)
  | _ => ("Phrasehall$Pool", "withdrawn", "I", false)
def tyX5 : Nat → FieldType := fun k => match k with
  | 0 => .int
  | 1 => .int
  | 2 => .array .int
  | 3 => .array .int
  | _ => .int
abbrev wsX50 : List Cond := u_ws RX5 TX5 5
theorem nmX5 : ∀ a, a < 5 → ∀ b, b < 5 → a ≠ b → (TX5 a).2.1 ≠ (TX5 b).2.1 := by decide +kernel
theorem tyX5_ok : ∀ k, k < 5 → parseFieldDescriptor (TX5 k).2.2.1 = some (tyX5 k) := by decide +kernel
abbrev cX5_init : ByteArray := prog_7_method_1_code
def yX5_init : MethodName := ⟨RX5, "<init>", "(II)V"⟩
abbrev cX5_isIn : ByteArray := prog_7_method_2_code
def yX5_isIn : MethodName := ⟨RX5, "isIn", "(II)Z"⟩
abbrev cX5_has : ByteArray := prog_7_method_3_code
def yX5_has : MethodName := ⟨RX5, "has", "(I)Z"⟩
abbrev cX5_isWithdrawn : ByteArray := prog_7_method_4_code
def yX5_isWithdrawn : MethodName := ⟨RX5, "isWithdrawn", "(I)Z"⟩
abbrev cX5_markWithdrawn : ByteArray := prog_7_method_5_code
def yX5_markWithdrawn : MethodName := ⟨RX5, "markWithdrawn", "(I)V"⟩
abbrev cX5_counts : ByteArray := prog_7_method_6_code
def yX5_counts : MethodName := ⟨RX5, "counts", "(LPhrasehall$Bout;)Z"⟩
abbrev cX5_enter : ByteArray := prog_7_method_7_code
def yX5_enter : MethodName := ⟨RX5, "enter", "(LPhrasehall$Bout;I)V"⟩
abbrev cX5_addTo : ByteArray := prog_7_method_8_code
def yX5_addTo : MethodName := ⟨RX5, "addTo", "(III)V"⟩
abbrev cX5_kept : ByteArray := prog_7_method_9_code
def yX5_kept : MethodName := ⟨RX5, "kept", "(II)I"⟩
abbrev cX5_isRanked : ByteArray := prog_7_method_10_code
def yX5_isRanked : MethodName := ⟨RX5, "isRanked", "(I)Z"⟩
abbrev cX5_rankedCount : ByteArray := prog_7_method_11_code
def yX5_rankedCount : MethodName := ⟨RX5, "rankedCount", "()I"⟩
abbrev cX5_orderRanked : ByteArray := prog_7_method_12_code
def yX5_orderRanked : MethodName := ⟨RX5, "orderRanked", "()V"⟩
abbrev cX5_insert : ByteArray := prog_7_method_13_code
def yX5_insert : MethodName := ⟨RX5, "insert", "(II)V"⟩
abbrev cX5_rankedAt : ByteArray := prog_7_method_14_code
def yX5_rankedAt : MethodName := ⟨RX5, "rankedAt", "(I)I"⟩
abbrev cX5_isAhead : ByteArray := prog_7_method_15_code
def yX5_isAhead : MethodName := ⟨RX5, "isAhead", "(II)Z"⟩
abbrev cX5_balance : ByteArray := prog_7_method_16_code
def yX5_balance : MethodName := ⟨RX5, "balance", "(I)I"⟩
def RX6 : String := "Phrasehall$RightOfWay"
def TX6 : u_T := fun k => match k with
  | 0 => ("Phrasehall$RightOfWay", "side", "I", false)
  | 1 => ("Phrasehall$RightOfWay", "by", "I", false)
  | 2 => ("Phrasehall$RightOfWay", "since", "I", false)
  | 3 => ("Phrasehall$RightOfWay", "parrier", "I", false)
  | _ => ("Phrasehall$RightOfWay", "parriedAt", "I", false)
def tyX6 : Nat → FieldType := fun k => match k with
  | 0 => .int
  | 1 => .int
  | 2 => .int
  | 3 => .int
  | _ => .int
abbrev wsX60 : List Cond := u_ws RX6 TX6 5
theorem nmX6 : ∀ a, a < 5 → ∀ b, b < 5 → a ≠ b → (TX6 a).2.1 ≠ (TX6 b).2.1 := by decide +kernel
theorem tyX6_ok : ∀ k, k < 5 → parseFieldDescriptor (TX6 k).2.2.1 = some (tyX6 k) := by decide +kernel
abbrev cX6_init : ByteArray := prog_8_method_1_code
def yX6_init : MethodName := ⟨RX6, "<init>", "()V"⟩
abbrev cX6_forget : ByteArray := prog_8_method_2_code
def yX6_forget : MethodName := ⟨RX6, "forget", "()V"⟩
abbrev cX6_take : ByteArray := prog_8_method_3_code
def yX6_take : MethodName := ⟨RX6, "take", "(III)V"⟩
abbrev cX6_give : ByteArray := prog_8_method_4_code
def yX6_give : MethodName := ⟨RX6, "give", "(III)V"⟩
abbrev cX6_attack : ByteArray := prog_8_method_5_code
def yX6_attack : MethodName := ⟨RX6, "attack", "(II)V"⟩
abbrev cX6_parry : ByteArray := prog_8_method_6_code
def yX6_parry : MethodName := ⟨RX6, "parry", "(II)V"⟩
def RX7 : String := "Phrasehall"
def TX7 : u_T := fun k => match k with
  | 0 => ("Phrasehall", "bouts", "[LPhrasehall$Bout;", true)
  | 1 => ("Phrasehall", "pools", "[LPhrasehall$Pool;", true)
  | 2 => ("Phrasehall", "phrase", "LPhrasehall$Phrase;", true)
  | 3 => ("Phrasehall", "bracket", "LPhrasehall$Bracket;", true)
  | 4 => ("Phrasehall", "lot", "LPhrasehall$Lot;", true)
  | 5 => ("Phrasehall", "fencerCount", "I", false)
  | 6 => ("Phrasehall", "boutCount", "I", false)
  | 7 => ("Phrasehall", "poolCount", "I", false)
  | 8 => ("Phrasehall", "piste", "LPhrasehall$Bout;", false)
  | _ => ("Phrasehall", "lastReason", "I", false)
def tyX7 : Nat → FieldType := fun k => match k with
  | 0 => .array (.object "Phrasehall$Bout")
  | 1 => .array (.object "Phrasehall$Pool")
  | 2 => .object "Phrasehall$Phrase"
  | 3 => .object "Phrasehall$Bracket"
  | 4 => .object "Phrasehall$Lot"
  | 5 => .int
  | 6 => .int
  | 7 => .int
  | 8 => .object "Phrasehall$Bout"
  | _ => .int
abbrev wsX70 : List Cond := u_ws RX7 TX7 10
theorem nmX7 : ∀ a, a < 10 → ∀ b, b < 10 → a ≠ b → (TX7 a).2.1 ≠ (TX7 b).2.1 := by decide +kernel
theorem tyX7_ok : ∀ k, k < 10 → parseFieldDescriptor (TX7 k).2.2.1 = some (tyX7 k) := by decide +kernel
abbrev cX7_init : ByteArray := prog_1_method_1_code
def yX7_init : MethodName := ⟨RX7, "<init>", "()V"⟩
abbrev cX7_fencer : ByteArray := prog_1_method_2_code
def yX7_fencer : MethodName := ⟨RX7, "fencer", "()I"⟩
abbrev cX7_begin : ByteArray := prog_1_method_3_code
def yX7_begin : MethodName := ⟨RX7, "begin", "(IIIII)I"⟩
abbrev cX7_act : ByteArray := prog_1_method_4_code
def yX7_act : MethodName := ⟨RX7, "act", "(III)I"⟩
abbrev cX7_hit : ByteArray := prog_1_method_5_code
def yX7_hit : MethodName := ⟨RX7, "hit", "(IIII)I"⟩
abbrev cX7_judge : ByteArray := prog_1_method_6_code
def yX7_judge : MethodName := ⟨RX7, "judge", "()I"⟩
abbrev cX7_card : ByteArray := prog_1_method_7_code
def yX7_card : MethodName := ⟨RX7, "card", "(II)I"⟩
abbrev cX7_clock : ByteArray := prog_1_method_8_code
def yX7_clock : MethodName := ⟨RX7, "clock", "(I)I"⟩
abbrev cX7_end : ByteArray := prog_1_method_9_code
def yX7_end : MethodName := ⟨RX7, "end", "()I"⟩
abbrev cX7_seed : ByteArray := prog_1_method_10_code
def yX7_seed : MethodName := ⟨RX7, "seed", "(I)V"⟩
abbrev cX7_pool : ByteArray := prog_1_method_11_code
def yX7_pool : MethodName := ⟨RX7, "pool", "(I)I"⟩
abbrev cX7_withdraw : ByteArray := prog_1_method_12_code
def yX7_withdraw : MethodName := ⟨RX7, "withdraw", "(II)I"⟩
abbrev cX7_tableau : ByteArray := prog_1_method_13_code
def yX7_tableau : MethodName := ⟨RX7, "tableau", "(I)I"⟩
abbrev cX7_wins : ByteArray := prog_1_method_14_code
def yX7_wins : MethodName := ⟨RX7, "wins", "(III)I"⟩
abbrev cX7_lamp : ByteArray := prog_1_method_15_code
def yX7_lamp : MethodName := ⟨RX7, "lamp", "(I)I"⟩
abbrev cX7_holder : ByteArray := prog_1_method_16_code
def yX7_holder : MethodName := ⟨RX7, "holder", "()I"⟩
abbrev cX7_reason : ByteArray := prog_1_method_17_code
def yX7_reason : MethodName := ⟨RX7, "reason", "()I"⟩
abbrev cX7_ofBout : ByteArray := prog_1_method_18_code
def yX7_ofBout : MethodName := ⟨RX7, "ofBout", "(II)I"⟩
abbrev cX7_ofPool : ByteArray := prog_1_method_19_code
def yX7_ofPool : MethodName := ⟨RX7, "ofPool", "(III)I"⟩
abbrev cX7_ofPoolAnew : ByteArray := prog_1_method_20_code
def yX7_ofPoolAnew : MethodName := ⟨RX7, "ofPoolAnew", "(III)I"⟩
abbrev cX7_rank : ByteArray := prog_1_method_21_code
def yX7_rank : MethodName := ⟨RX7, "rank", "(II)I"⟩
abbrev cX7_meets : ByteArray := prog_1_method_22_code
def yX7_meets : MethodName := ⟨RX7, "meets", "(III)I"⟩
abbrev cX7_isWithin : ByteArray := prog_1_method_23_code
def yX7_isWithin : MethodName := ⟨RX7, "isWithin", "(III)Z"⟩
abbrev cX7_isSide : ByteArray := prog_1_method_24_code
def yX7_isSide : MethodName := ⟨RX7, "isSide", "(I)Z"⟩
abbrev cX7_isFencer : ByteArray := prog_1_method_25_code
def yX7_isFencer : MethodName := ⟨RX7, "isFencer", "(I)Z"⟩
abbrev cX7_boutAt : ByteArray := prog_1_method_26_code
def yX7_boutAt : MethodName := ⟨RX7, "boutAt", "(I)LPhrasehall$Bout;"⟩
abbrev cX7_poolOf : ByteArray := prog_1_method_27_code
def yX7_poolOf : MethodName := ⟨RX7, "poolOf", "(I)LPhrasehall$Pool;"⟩
abbrev cX7_poolWith : ByteArray := prog_1_method_28_code
def yX7_poolWith : MethodName := ⟨RX7, "poolWith", "(II)LPhrasehall$Pool;"⟩
abbrev cX7_boutOnPiste : ByteArray := prog_1_method_29_code
def yX7_boutOnPiste : MethodName := ⟨RX7, "boutOnPiste", "()LPhrasehall$Bout;"⟩
abbrev cX7_checkRoomInPhrase : ByteArray := prog_1_method_30_code
def yX7_checkRoomInPhrase : MethodName := ⟨RX7, "checkRoomInPhrase", "(I)V"⟩
abbrev cX7_checkMatch : ByteArray := prog_1_method_31_code
def yX7_checkMatch : MethodName := ⟨RX7, "checkMatch", "(II)V"⟩
abbrev cX7_checkOfPool : ByteArray := prog_1_method_32_code
def yX7_checkOfPool : MethodName := ⟨RX7, "checkOfPool", "(I)V"⟩
abbrev cX7_isBusyFor : ByteArray := prog_1_method_33_code
def yX7_isBusyFor : MethodName := ⟨RX7, "isBusyFor", "(LPhrasehall$Pool;I)Z"⟩
abbrev cX7_putOnPiste : ByteArray := prog_1_method_34_code
def yX7_putOnPiste : MethodName := ⟨RX7, "putOnPiste", "(LPhrasehall$Bout;)I"⟩
abbrev cX7_clearPisteIfOver : ByteArray := prog_1_method_35_code
def yX7_clearPisteIfOver : MethodName := ⟨RX7, "clearPisteIfOver", "(LPhrasehall$Bout;)V"⟩
abbrev cX7_because : ByteArray := prog_1_method_36_code
def yX7_because : MethodName := ⟨RX7, "because", "(II)I"⟩
abbrev cX7_judgeFor : ByteArray := prog_1_method_37_code
def yX7_judgeFor : MethodName := ⟨RX7, "judgeFor", "(IZ)I"⟩
abbrev cX7_judgeByRight : ByteArray := prog_1_method_38_code
def yX7_judgeByRight : MethodName := ⟨RX7, "judgeByRight", "(II)I"⟩
abbrev cX7_bitOf : ByteArray := prog_1_method_39_code
def yX7_bitOf : MethodName := ⟨RX7, "bitOf", "(I)I"⟩
def RX8 : String := "PhrasehallModel"
def TX8 : u_T := fun k => match k with
  | 0 => ("PhrasehallModel", "fencers", "I", false)
  | 1 => ("PhrasehallModel", "seed", "J", false)
  | 2 => ("PhrasehallModel", "reason", "I", false)
  | 3 => ("PhrasehallModel", "bouts", "I", false)
  | 4 => ("PhrasehallModel", "onPiste", "I", false)
  | 5 => ("PhrasehallModel", "who", "[I", true)
  | 6 => ("PhrasehallModel", "touches", "[I", true)
  | 7 => ("PhrasehallModel", "weapon", "[I", true)
  | 8 => ("PhrasehallModel", "goes", "[I", true)
  | 9 => ("PhrasehallModel", "poolOf", "[I", true)
  | 10 => ("PhrasehallModel", "winner", "[I", true)
  | 11 => ("PhrasehallModel", "seconds", "[I", true)
  | 12 => ("PhrasehallModel", "passive", "[I", true)
  | 13 => ("PhrasehallModel", "drawn", "[I", true)
  | 14 => ("PhrasehallModel", "quiet", "I", false)
  | 15 => ("PhrasehallModel", "cards", "[I", true)
  | 16 => ("PhrasehallModel", "hadThird", "[Z", true)
  | 17 => ("PhrasehallModel", "items", "I", false)
  | 18 => ("PhrasehallModel", "side", "[I", true)
  | 19 => ("PhrasehallModel", "kind", "[I", true)
  | 20 => ("PhrasehallModel", "time", "[I", true)
  | 21 => ("PhrasehallModel", "span", "[I", true)
  | 22 => ("PhrasehallModel", "target", "[I", true)
  | 23 => ("PhrasehallModel", "pools", "I", false)
  | 24 => ("PhrasehallModel", "members", "[I", true)
  | 25 => ("PhrasehallModel", "gone", "[I", true)
  | 26 => ("PhrasehallModel", "ranked", "[I", true)
  | 27 => ("PhrasehallModel", "places", "I", false)
  | 28 => ("PhrasehallModel", "meets", "[I", true)
  | 29 => ("PhrasehallModel", "won", "[I", true)
  | 30 => ("PhrasehallModel", "holder", "I", false)
  | _ => ("PhrasehallModel", "thrown", "I", false)
def tyX8 : Nat → FieldType := fun k => match k with
  | 0 => .int
  | 1 => .long
  | 2 => .int
  | 3 => .int
  | 4 => .int
  | 5 => .array .int
  | 6 => .array .int
  | 7 => .array .int
  | 8 => .array .int
  | 9 => .array .int
  | 10 => .array .int
  | 11 => .array .int
  | 12 => .array .int
  | 13 => .array .int
  | 14 => .int
  | 15 => .array .int
  | 16 => .array .boolean
  | 17 => .int
  | 18 => .array .int
  | 19 => .array .int
  | 20 => .array .int
  | 21 => .array .int
  | 22 => .array .int
  | 23 => .int
  | 24 => .array .int
  | 25 => .array .int
  | 26 => .array .int
  | 27 => .int
  | 28 => .array .int
  | 29 => .array .int
  | 30 => .int
  | _ => .int
abbrev wsX80 : List Cond := u_ws RX8 TX8 32
theorem nmX8 : ∀ a, a < 32 → ∀ b, b < 32 → a ≠ b → (TX8 a).2.1 ≠ (TX8 b).2.1 := by decide +kernel
theorem tyX8_ok : ∀ k, k < 32 → parseFieldDescriptor (TX8 k).2.2.1 = some (tyX8 k) := by decide +kernel
abbrev cX8_init : ByteArray := prog_10_method_1_code
def yX8_init : MethodName := ⟨RX8, "<init>", "()V"⟩
abbrev cX8_thrown : ByteArray := prog_10_method_2_code
def yX8_thrown : MethodName := ⟨RX8, "thrown", "()I"⟩
abbrev cX8_isIn : ByteArray := prog_10_method_3_code
def yX8_isIn : MethodName := ⟨RX8, "isIn", "(III)Z"⟩
abbrev cX8_isFencer : ByteArray := prog_10_method_4_code
def yX8_isFencer : MethodName := ⟨RX8, "isFencer", "(I)Z"⟩
abbrev cX8_isPool : ByteArray := prog_10_method_5_code
def yX8_isPool : MethodName := ⟨RX8, "isPool", "(I)Z"⟩
abbrev cX8_has : ByteArray := prog_10_method_6_code
def yX8_has : MethodName := ⟨RX8, "has", "(II)Z"⟩
abbrev cX8_fencer : ByteArray := prog_10_method_7_code
def yX8_fencer : MethodName := ⟨RX8, "fencer", "()I"⟩
abbrev cX8_begin : ByteArray := prog_10_method_8_code
def yX8_begin : MethodName := ⟨RX8, "begin", "(IIIII)I"⟩
abbrev cX8_puts : ByteArray := prog_10_method_9_code
def yX8_puts : MethodName := ⟨RX8, "puts", "(III)I"⟩
abbrev cX8_may : ByteArray := prog_10_method_10_code
def yX8_may : MethodName := ⟨RX8, "may", "(I)Z"⟩
abbrev cX8_isSide : ByteArray := prog_10_method_11_code
def yX8_isSide : MethodName := ⟨RX8, "isSide", "(I)Z"⟩
abbrev cX8_act : ByteArray := prog_10_method_12_code
def yX8_act : MethodName := ⟨RX8, "act", "(III)I"⟩
abbrev cX8_hit : ByteArray := prog_10_method_13_code
def yX8_hit : MethodName := ⟨RX8, "hit", "(IIII)I"⟩
abbrev cX8_least : ByteArray := prog_10_method_14_code
def yX8_least : MethodName := ⟨RX8, "least", "(I)I"⟩
abbrev cX8_locks : ByteArray := prog_10_method_15_code
def yX8_locks : MethodName := ⟨RX8, "locks", "(I)I"⟩
abbrev cX8_registered : ByteArray := prog_10_method_16_code
def yX8_registered : MethodName := ⟨RX8, "registered", "(I)I"⟩
abbrev cX8_rights : ByteArray := prog_10_method_17_code
def yX8_rights : MethodName := ⟨RX8, "rights", "(I)I"⟩
abbrev cX8_ends : ByteArray := prog_10_method_18_code
def yX8_ends : MethodName := ⟨RX8, "ends", "(I)V"⟩
abbrev cX8_ahead : ByteArray := prog_10_method_19_code
def yX8_ahead : MethodName := ⟨RX8, "ahead", "()I"⟩
abbrev cX8_gives : ByteArray := prog_10_method_20_code
def yX8_gives : MethodName := ⟨RX8, "gives", "(I)V"⟩
abbrev cX8_given : ByteArray := prog_10_method_21_code
def yX8_given : MethodName := ⟨RX8, "given", "()I"⟩
abbrev cX8_judge : ByteArray := prog_10_method_22_code
def yX8_judge : MethodName := ⟨RX8, "judge", "()I"⟩
abbrev cX8_card : ByteArray := prog_10_method_23_code
def yX8_card : MethodName := ⟨RX8, "card", "(II)I"⟩
abbrev cX8_next : ByteArray := prog_10_method_24_code
def yX8_next : MethodName := ⟨RX8, "next", "(J)J"⟩
abbrev cX8_second : ByteArray := prog_10_method_25_code
def yX8_second : MethodName := ⟨RX8, "second", "()V"⟩
abbrev cX8_clock : ByteArray := prog_10_method_26_code
def yX8_clock : MethodName := ⟨RX8, "clock", "(I)I"⟩
abbrev cX8_end : ByteArray := prog_10_method_27_code
def yX8_end : MethodName := ⟨RX8, "end", "()I"⟩
abbrev cX8_seed : ByteArray := prog_10_method_28_code
def yX8_seed : MethodName := ⟨RX8, "seed", "(I)V"⟩
abbrev cX8_many : ByteArray := prog_10_method_29_code
def yX8_many : MethodName := ⟨RX8, "many", "(I)I"⟩
abbrev cX8_pool : ByteArray := prog_10_method_30_code
def yX8_pool : MethodName := ⟨RX8, "pool", "(I)I"⟩
abbrev cX8_isMember : ByteArray := prog_10_method_31_code
def yX8_isMember : MethodName := ⟨RX8, "isMember", "(II)Z"⟩
abbrev cX8_sideIn : ByteArray := prog_10_method_32_code
def yX8_sideIn : MethodName := ⟨RX8, "sideIn", "(III)I"⟩
abbrev cX8_tells : ByteArray := prog_10_method_33_code
def yX8_tells : MethodName := ⟨RX8, "tells", "(III)I"⟩
abbrev cX8_withdraw : ByteArray := prog_10_method_34_code
def yX8_withdraw : MethodName := ⟨RX8, "withdraw", "(II)I"⟩
abbrev cX8_isBetter : ByteArray := prog_10_method_35_code
def yX8_isBetter : MethodName := ⟨RX8, "isBetter", "(III)Z"⟩
abbrev cX8_ranks : ByteArray := prog_10_method_36_code
def yX8_ranks : MethodName := ⟨RX8, "ranks", "(I)I"⟩
abbrev cX8_orderAt : ByteArray := prog_10_method_37_code
def yX8_orderAt : MethodName := ⟨RX8, "orderAt", "(II)I"⟩
abbrev cX8_tableau : ByteArray := prog_10_method_38_code
def yX8_tableau : MethodName := ⟨RX8, "tableau", "(I)I"⟩
abbrev cX8_rounds : ByteArray := prog_10_method_39_code
def yX8_rounds : MethodName := ⟨RX8, "rounds", "(I)I"⟩
abbrev cX8_isWon : ByteArray := prog_10_method_40_code
def yX8_isWon : MethodName := ⟨RX8, "isWon", "(III)V"⟩
abbrev cX8_isMatch : ByteArray := prog_10_method_41_code
def yX8_isMatch : MethodName := ⟨RX8, "isMatch", "(II)Z"⟩
abbrev cX8_wins : ByteArray := prog_10_method_42_code
def yX8_wins : MethodName := ⟨RX8, "wins", "(III)I"⟩
abbrev cX8_lamp : ByteArray := prog_10_method_43_code
def yX8_lamp : MethodName := ⟨RX8, "lamp", "(I)I"⟩
abbrev cX8_holder : ByteArray := prog_10_method_44_code
def yX8_holder : MethodName := ⟨RX8, "holder", "()I"⟩
abbrev cX8_reason : ByteArray := prog_10_method_45_code
def yX8_reason : MethodName := ⟨RX8, "reason", "()I"⟩
abbrev cX8_ofBout : ByteArray := prog_10_method_46_code
def yX8_ofBout : MethodName := ⟨RX8, "ofBout", "(II)I"⟩
abbrev cX8_ofPools : ByteArray := prog_10_method_47_code
def yX8_ofPools : MethodName := ⟨RX8, "ofPools", "(III)I"⟩
abbrev cX8_ofPool : ByteArray := prog_10_method_48_code
def yX8_ofPool : MethodName := ⟨RX8, "ofPool", "(III)I"⟩
abbrev cX8_ofPoolAnew : ByteArray := prog_10_method_49_code
def yX8_ofPoolAnew : MethodName := ⟨RX8, "ofPoolAnew", "(III)I"⟩
abbrev cX8_rank : ByteArray := prog_10_method_50_code
def yX8_rank : MethodName := ⟨RX8, "rank", "(II)I"⟩
abbrev cX8_meets : ByteArray := prog_10_method_51_code
def yX8_meets : MethodName := ⟨RX8, "meets", "(III)I"⟩
def RL : String := "PhrasehallLaw"
abbrev cL_fencer : ByteArray := method_3_code
def yL_fencer : MethodName := ⟨RL, "fencer", "(LPhrasehall;[J)I"⟩
abbrev cL_begin : ByteArray := method_4_code
def yL_begin : MethodName := ⟨RL, "begin", "(LPhrasehall;IIIII[J)I"⟩
abbrev cL_act : ByteArray := method_5_code
def yL_act : MethodName := ⟨RL, "act", "(LPhrasehall;III[J)I"⟩
abbrev cL_hit : ByteArray := method_6_code
def yL_hit : MethodName := ⟨RL, "hit", "(LPhrasehall;IIII[J)I"⟩
abbrev cL_judge : ByteArray := method_7_code
def yL_judge : MethodName := ⟨RL, "judge", "(LPhrasehall;[J)I"⟩
abbrev cL_card : ByteArray := method_8_code
def yL_card : MethodName := ⟨RL, "card", "(LPhrasehall;II[J)I"⟩
abbrev cL_clock : ByteArray := method_9_code
def yL_clock : MethodName := ⟨RL, "clock", "(LPhrasehall;I[J)I"⟩
abbrev cL_end : ByteArray := method_10_code
def yL_end : MethodName := ⟨RL, "end", "(LPhrasehall;[J)I"⟩
abbrev cL_seed : ByteArray := method_11_code
def yL_seed : MethodName := ⟨RL, "seed", "(LPhrasehall;I)I"⟩
abbrev cL_pool : ByteArray := method_12_code
def yL_pool : MethodName := ⟨RL, "pool", "(LPhrasehall;I[J)I"⟩
abbrev cL_withdraw : ByteArray := method_13_code
def yL_withdraw : MethodName := ⟨RL, "withdraw", "(LPhrasehall;II[J)I"⟩
abbrev cL_tableau : ByteArray := method_14_code
def yL_tableau : MethodName := ⟨RL, "tableau", "(LPhrasehall;I[J)I"⟩
abbrev cL_wins : ByteArray := method_15_code
def yL_wins : MethodName := ⟨RL, "wins", "(LPhrasehall;III[J)I"⟩
abbrev cL_lamp : ByteArray := method_16_code
def yL_lamp : MethodName := ⟨RL, "lamp", "(LPhrasehall;I[J)I"⟩
abbrev cL_ofBout : ByteArray := method_17_code
def yL_ofBout : MethodName := ⟨RL, "ofBout", "(LPhrasehall;II[J)I"⟩
abbrev cL_ofPool : ByteArray := method_18_code
def yL_ofPool : MethodName := ⟨RL, "ofPool", "(LPhrasehall;III[J)I"⟩
abbrev cL_ofPoolAnew : ByteArray := method_19_code
def yL_ofPoolAnew : MethodName := ⟨RL, "ofPoolAnew", "(LPhrasehall;III[J)I"⟩
abbrev cL_rank : ByteArray := method_20_code
def yL_rank : MethodName := ⟨RL, "rank", "(LPhrasehall;II[J)I"⟩
abbrev cL_meets : ByteArray := method_21_code
def yL_meets : MethodName := ⟨RL, "meets", "(LPhrasehall;III[J)I"⟩
abbrev cL_law : ByteArray := code
def yL_law : MethodName := ⟨RL, "law", "([I)Z"⟩
abbrev vwCl : List vw_C := [(RX0, TX0, 10), (RX1, TX1, 3), (RX2, TX2, 4), (RX3, TX3, 1), (RX4, TX4, 7), (RX5, TX5, 5), (RX6, TX6, 5), (RX7, TX7, 10), (RX8, TX8, 32)]
end
section
theorem dX0_init_0 : decode cX0_init 0 = .ok (.aload_n 0, 1) := by decide +kernel
theorem dX0_init_1 : decode cX0_init 1 = .ok (.invokespecial 3, 3) := by decide +kernel
theorem dX0_init_4 : decode cX0_init 4 = .ok (.aload_n 0, 1) := by decide +kernel
theorem dX0_init_5 : decode cX0_init 5 = .ok (.iconst (-1), 1) := by decide +kernel
theorem dX0_init_6 : decode cX0_init 6 = .ok (.putfield 9, 3) := by decide +kernel
theorem dX0_init_9 : decode cX0_init 9 = .ok (.aload_n 0, 1) := by decide +kernel
theorem dX0_init_10 : decode cX0_init 10 = .ok (.iconst (-1), 1) := by decide +kernel
theorem dX0_init_11 : decode cX0_init 11 = .ok (.putfield 15, 3) := by decide +kernel
theorem dX0_init_14 : decode cX0_init 14 = .ok (.aload_n 0, 1) := by decide +kernel
theorem dX0_init_15 : decode cX0_init 15 = .ok (.iconst 0, 1) := by decide +kernel
theorem dX0_init_16 : decode cX0_init 16 = .ok (.putfield 18, 3) := by decide +kernel
theorem dX0_init_19 : decode cX0_init 19 = .ok (.aload_n 0, 1) := by decide +kernel
theorem dX0_init_20 : decode cX0_init 20 = .ok (.iconst 0, 1) := by decide +kernel
theorem dX0_init_21 : decode cX0_init 21 = .ok (.putfield 21, 3) := by decide +kernel
theorem dX0_init_24 : decode cX0_init 24 = .ok (.aload_n 0, 1) := by decide +kernel
theorem dX0_init_25 : decode cX0_init 25 = .ok (.iconst 0, 1) := by decide +kernel
theorem dX0_init_26 : decode cX0_init 26 = .ok (.putfield 24, 3) := by decide +kernel
theorem dX0_init_29 : decode cX0_init 29 = .ok (.aload_n 0, 1) := by decide +kernel
theorem dX0_init_30 : decode cX0_init 30 = .ok (.new 27, 3) := by decide +kernel
theorem dX0_init_33 : decode cX0_init 33 = .ok (.dup, 1) := by decide +kernel
theorem dX0_init_34 : decode cX0_init 34 = .ok (.iload_n 1, 1) := by decide +kernel
theorem dX0_init_35 : decode cX0_init 35 = .ok (.invokespecial 29, 3) := by decide +kernel
theorem dX0_init_38 : decode cX0_init 38 = .ok (.putfield 32, 3) := by decide +kernel
theorem dX0_init_41 : decode cX0_init 41 = .ok (.aload_n 0, 1) := by decide +kernel
theorem dX0_init_42 : decode cX0_init 42 = .ok (.new 27, 3) := by decide +kernel
theorem dX0_init_45 : decode cX0_init 45 = .ok (.dup, 1) := by decide +kernel
theorem dX0_init_46 : decode cX0_init 46 = .ok (.iload_n 2, 1) := by decide +kernel
theorem dX0_init_47 : decode cX0_init 47 = .ok (.invokespecial 29, 3) := by decide +kernel
theorem dX0_init_50 : decode cX0_init 50 = .ok (.putfield 36, 3) := by decide +kernel
theorem dX0_init_53 : decode cX0_init 53 = .ok (.aload_n 0, 1) := by decide +kernel
theorem dX0_init_54 : decode cX0_init 54 = .ok (.iload_n 3, 1) := by decide +kernel
theorem dX0_init_55 : decode cX0_init 55 = .ok (.putfield 39, 3) := by decide +kernel
theorem dX0_init_58 : decode cX0_init 58 = .ok (.aload_n 0, 1) := by decide +kernel
theorem dX0_init_59 : decode cX0_init 59 = .ok (.iload 4, 2) := by decide +kernel
theorem dX0_init_61 : decode cX0_init 61 = .ok (.putfield 42, 3) := by decide +kernel
theorem dX0_init_64 : decode cX0_init 64 = .ok (.aload_n 0, 1) := by decide +kernel
theorem dX0_init_65 : decode cX0_init 65 = .ok (.iload 5, 2) := by decide +kernel
theorem dX0_init_67 : decode cX0_init 67 = .ok (.putfield 45, 3) := by decide +kernel
theorem dX0_init_70 : decode cX0_init 70 = .ok (.return_, 1) := by decide +kernel
theorem dX0_corner_0 : decode cX0_corner 0 = .ok (.iload_n 1, 1) := by decide +kernel
theorem dX0_corner_1 : decode cX0_corner 1 = .ok (.ifCond .ne 10, 3) := by decide +kernel
theorem dX0_corner_4 : decode cX0_corner 4 = .ok (.aload_n 0, 1) := by decide +kernel
theorem dX0_corner_5 : decode cX0_corner 5 = .ok (.getfield 32, 3) := by decide +kernel
theorem dX0_corner_8 : decode cX0_corner 8 = .ok (.goto 7, 3) := by decide +kernel
theorem dX0_corner_11 : decode cX0_corner 11 = .ok (.aload_n 0, 1) := by decide +kernel
theorem dX0_corner_12 : decode cX0_corner 12 = .ok (.getfield 36, 3) := by decide +kernel
theorem dX0_corner_15 : decode cX0_corner 15 = .ok (.areturn, 1) := by decide +kernel
theorem dX0_has_0 : decode cX0_has 0 = .ok (.aload_n 0, 1) := by decide +kernel
theorem dX0_has_1 : decode cX0_has 1 = .ok (.getfield 32, 3) := by decide +kernel
theorem dX0_has_4 : decode cX0_has 4 = .ok (.getfield 48, 3) := by decide +kernel
theorem dX0_has_7 : decode cX0_has 7 = .ok (.iload_n 1, 1) := by decide +kernel
theorem dX0_has_8 : decode cX0_has 8 = .ok (.if_icmp .eq 14, 3) := by decide +kernel
theorem dX0_has_11 : decode cX0_has 11 = .ok (.aload_n 0, 1) := by decide +kernel
theorem dX0_has_12 : decode cX0_has 12 = .ok (.getfield 36, 3) := by decide +kernel
theorem dX0_has_15 : decode cX0_has 15 = .ok (.getfield 48, 3) := by decide +kernel
theorem dX0_has_18 : decode cX0_has 18 = .ok (.iload_n 1, 1) := by decide +kernel
theorem dX0_has_19 : decode cX0_has 19 = .ok (.if_icmp .ne 7, 3) := by decide +kernel
theorem dX0_has_22 : decode cX0_has 22 = .ok (.iconst 1, 1) := by decide +kernel
theorem dX0_has_23 : decode cX0_has 23 = .ok (.goto 4, 3) := by decide +kernel
theorem dX0_has_26 : decode cX0_has 26 = .ok (.iconst 0, 1) := by decide +kernel
theorem dX0_has_27 : decode cX0_has 27 = .ok (.ireturn, 1) := by decide +kernel
theorem dX0_sideOf_0 : decode cX0_sideOf 0 = .ok (.aload_n 0, 1) := by decide +kernel
theorem dX0_sideOf_1 : decode cX0_sideOf 1 = .ok (.getfield 32, 3) := by decide +kernel
theorem dX0_sideOf_4 : decode cX0_sideOf 4 = .ok (.getfield 48, 3) := by decide +kernel
theorem dX0_sideOf_7 : decode cX0_sideOf 7 = .ok (.iload_n 1, 1) := by decide +kernel
theorem dX0_sideOf_8 : decode cX0_sideOf 8 = .ok (.if_icmp .ne 7, 3) := by decide +kernel
theorem dX0_sideOf_11 : decode cX0_sideOf 11 = .ok (.iconst 0, 1) := by decide +kernel
theorem dX0_sideOf_12 : decode cX0_sideOf 12 = .ok (.goto 4, 3) := by decide +kernel
theorem dX0_sideOf_15 : decode cX0_sideOf 15 = .ok (.iconst 1, 1) := by decide +kernel
theorem dX0_sideOf_16 : decode cX0_sideOf 16 = .ok (.ireturn, 1) := by decide +kernel
theorem dX0_isOver_0 : decode cX0_isOver 0 = .ok (.aload_n 0, 1) := by decide +kernel
theorem dX0_isOver_1 : decode cX0_isOver 1 = .ok (.getfield 9, 3) := by decide +kernel
theorem dX0_isOver_4 : decode cX0_isOver 4 = .ok (.iconst (-1), 1) := by decide +kernel
theorem dX0_isOver_5 : decode cX0_isOver 5 = .ok (.if_icmp .eq 7, 3) := by decide +kernel
theorem dX0_isOver_8 : decode cX0_isOver 8 = .ok (.iconst 1, 1) := by decide +kernel
theorem dX0_isOver_9 : decode cX0_isOver 9 = .ok (.goto 4, 3) := by decide +kernel
theorem dX0_isOver_12 : decode cX0_isOver 12 = .ok (.iconst 0, 1) := by decide +kernel
theorem dX0_isOver_13 : decode cX0_isOver 13 = .ok (.ireturn, 1) := by decide +kernel
theorem dX0_isLike_0 : decode cX0_isLike 0 = .ok (.aload_n 0, 1) := by decide +kernel
theorem dX0_isLike_1 : decode cX0_isLike 1 = .ok (.getfield 32, 3) := by decide +kernel
theorem dX0_isLike_4 : decode cX0_isLike 4 = .ok (.getfield 51, 3) := by decide +kernel
theorem dX0_isLike_7 : decode cX0_isLike 7 = .ok (.aload_n 0, 1) := by decide +kernel
theorem dX0_isLike_8 : decode cX0_isLike 8 = .ok (.getfield 36, 3) := by decide +kernel
theorem dX0_isLike_11 : decode cX0_isLike 11 = .ok (.getfield 51, 3) := by decide +kernel
theorem dX0_isLike_14 : decode cX0_isLike 14 = .ok (.if_icmp .ne 7, 3) := by decide +kernel
theorem dX0_isLike_17 : decode cX0_isLike 17 = .ok (.iconst 1, 1) := by decide +kernel
theorem dX0_isLike_18 : decode cX0_isLike 18 = .ok (.goto 4, 3) := by decide +kernel
theorem dX0_isLike_21 : decode cX0_isLike 21 = .ok (.iconst 0, 1) := by decide +kernel
theorem dX0_isLike_22 : decode cX0_isLike 22 = .ok (.ireturn, 1) := by decide +kernel
theorem dX0_leader_0 : decode cX0_leader 0 = .ok (.aload_n 0, 1) := by decide +kernel
theorem dX0_leader_1 : decode cX0_leader 1 = .ok (.invokevirtual 54, 3) := by decide +kernel
theorem dX0_leader_4 : decode cX0_leader 4 = .ok (.ifCond .eq 26, 3) := by decide +kernel
theorem dX0_leader_7 : decode cX0_leader 7 = .ok (.aload_n 0, 1) := by decide +kernel
theorem dX0_leader_8 : decode cX0_leader 8 = .ok (.getfield 32, 3) := by decide +kernel
theorem dX0_leader_11 : decode cX0_leader 11 = .ok (.getfield 48, 3) := by decide +kernel
theorem dX0_leader_14 : decode cX0_leader 14 = .ok (.aload_n 0, 1) := by decide +kernel
theorem dX0_leader_15 : decode cX0_leader 15 = .ok (.getfield 36, 3) := by decide +kernel
theorem dX0_leader_18 : decode cX0_leader 18 = .ok (.getfield 48, 3) := by decide +kernel
theorem dX0_leader_21 : decode cX0_leader 21 = .ok (.if_icmp .ge 7, 3) := by decide +kernel
theorem dX0_leader_24 : decode cX0_leader 24 = .ok (.iconst 0, 1) := by decide +kernel
theorem dX0_leader_25 : decode cX0_leader 25 = .ok (.goto 4, 3) := by decide +kernel
theorem dX0_leader_28 : decode cX0_leader 28 = .ok (.iconst 1, 1) := by decide +kernel
theorem dX0_leader_29 : decode cX0_leader 29 = .ok (.ireturn, 1) := by decide +kernel
theorem dX0_leader_30 : decode cX0_leader 30 = .ok (.aload_n 0, 1) := by decide +kernel
theorem dX0_leader_31 : decode cX0_leader 31 = .ok (.getfield 32, 3) := by decide +kernel
theorem dX0_leader_34 : decode cX0_leader 34 = .ok (.getfield 51, 3) := by decide +kernel
theorem dX0_leader_37 : decode cX0_leader 37 = .ok (.aload_n 0, 1) := by decide +kernel
theorem dX0_leader_38 : decode cX0_leader 38 = .ok (.getfield 36, 3) := by decide +kernel
theorem dX0_leader_41 : decode cX0_leader 41 = .ok (.getfield 51, 3) := by decide +kernel
theorem dX0_leader_44 : decode cX0_leader 44 = .ok (.if_icmp .le 7, 3) := by decide +kernel
theorem dX0_leader_47 : decode cX0_leader 47 = .ok (.iconst 0, 1) := by decide +kernel
theorem dX0_leader_48 : decode cX0_leader 48 = .ok (.goto 4, 3) := by decide +kernel
theorem dX0_leader_51 : decode cX0_leader 51 = .ok (.iconst 1, 1) := by decide +kernel
theorem dX0_leader_52 : decode cX0_leader 52 = .ok (.ireturn, 1) := by decide +kernel
theorem dX0_finish_0 : decode cX0_finish 0 = .ok (.aload_n 0, 1) := by decide +kernel
theorem dX0_finish_1 : decode cX0_finish 1 = .ok (.iload_n 1, 1) := by decide +kernel
theorem dX0_finish_2 : decode cX0_finish 2 = .ok (.putfield 9, 3) := by decide +kernel
theorem dX0_finish_5 : decode cX0_finish 5 = .ok (.return_, 1) := by decide +kernel
theorem dX0_isDoubleTooFar_0 : decode cX0_isDoubleTooFar 0 = .ok (.aload_n 0, 1) := by decide +kernel
theorem dX0_isDoubleTooFar_1 : decode cX0_isDoubleTooFar 1 = .ok (.getfield 32, 3) := by decide +kernel
theorem dX0_isDoubleTooFar_4 : decode cX0_isDoubleTooFar 4 = .ok (.getfield 51, 3) := by decide +kernel
theorem dX0_isDoubleTooFar_7 : decode cX0_isDoubleTooFar 7 = .ok (.iconst 1, 1) := by decide +kernel
theorem dX0_isDoubleTooFar_8 : decode cX0_isDoubleTooFar 8 = .ok (.iadd, 1) := by decide +kernel
theorem dX0_isDoubleTooFar_9 : decode cX0_isDoubleTooFar 9 = .ok (.aload_n 0, 1) := by decide +kernel
theorem dX0_isDoubleTooFar_10 : decode cX0_isDoubleTooFar 10 = .ok (.getfield 42, 3) := by decide +kernel
theorem dX0_isDoubleTooFar_13 : decode cX0_isDoubleTooFar 13 = .ok (.if_icmp .lt 23, 3) := by decide +kernel
theorem dX0_isDoubleTooFar_16 : decode cX0_isDoubleTooFar 16 = .ok (.aload_n 0, 1) := by decide +kernel
theorem dX0_isDoubleTooFar_17 : decode cX0_isDoubleTooFar 17 = .ok (.getfield 36, 3) := by decide +kernel
theorem dX0_isDoubleTooFar_20 : decode cX0_isDoubleTooFar 20 = .ok (.getfield 51, 3) := by decide +kernel
theorem dX0_isDoubleTooFar_23 : decode cX0_isDoubleTooFar 23 = .ok (.iconst 1, 1) := by decide +kernel
theorem dX0_isDoubleTooFar_24 : decode cX0_isDoubleTooFar 24 = .ok (.iadd, 1) := by decide +kernel
theorem dX0_isDoubleTooFar_25 : decode cX0_isDoubleTooFar 25 = .ok (.aload_n 0, 1) := by decide +kernel
theorem dX0_isDoubleTooFar_26 : decode cX0_isDoubleTooFar 26 = .ok (.getfield 42, 3) := by decide +kernel
theorem dX0_isDoubleTooFar_29 : decode cX0_isDoubleTooFar 29 = .ok (.if_icmp .lt 7, 3) := by decide +kernel
theorem dX0_isDoubleTooFar_32 : decode cX0_isDoubleTooFar 32 = .ok (.iconst 1, 1) := by decide +kernel
theorem dX0_isDoubleTooFar_33 : decode cX0_isDoubleTooFar 33 = .ok (.goto 4, 3) := by decide +kernel
theorem dX0_isDoubleTooFar_36 : decode cX0_isDoubleTooFar 36 = .ok (.iconst 0, 1) := by decide +kernel
theorem dX0_isDoubleTooFar_37 : decode cX0_isDoubleTooFar 37 = .ok (.ireturn, 1) := by decide +kernel
theorem dX0_giveTouches_0 : decode cX0_giveTouches 0 = .ok (.iload_n 1, 1) := by decide +kernel
theorem dX0_giveTouches_1 : decode cX0_giveTouches 1 = .ok (.ifCond .eq 13, 3) := by decide +kernel
theorem dX0_giveTouches_4 : decode cX0_giveTouches 4 = .ok (.aload_n 0, 1) := by decide +kernel
theorem dX0_giveTouches_5 : decode cX0_giveTouches 5 = .ok (.iconst 0, 1) := by decide +kernel
theorem dX0_giveTouches_6 : decode cX0_giveTouches 6 = .ok (.putfield 21, 3) := by decide +kernel
theorem dX0_giveTouches_9 : decode cX0_giveTouches 9 = .ok (.aload_n 0, 1) := by decide +kernel
theorem dX0_giveTouches_10 : decode cX0_giveTouches 10 = .ok (.iload_n 1, 1) := by decide +kernel
theorem dX0_giveTouches_11 : decode cX0_giveTouches 11 = .ok (.invokevirtual 58, 3) := by decide +kernel
theorem dX0_giveTouches_14 : decode cX0_giveTouches 14 = .ok (.return_, 1) := by decide +kernel
theorem dX0_addTouches_0 : decode cX0_addTouches 0 = .ok (.iload_n 1, 1) := by decide +kernel
theorem dX0_addTouches_1 : decode cX0_addTouches 1 = .ok (.iconst 1, 1) := by decide +kernel
theorem dX0_addTouches_2 : decode cX0_addTouches 2 = .ok (.iand, 1) := by decide +kernel
theorem dX0_addTouches_3 : decode cX0_addTouches 3 = .ok (.ifCond .eq 16, 3) := by decide +kernel
theorem dX0_addTouches_6 : decode cX0_addTouches 6 = .ok (.aload_n 0, 1) := by decide +kernel
theorem dX0_addTouches_7 : decode cX0_addTouches 7 = .ok (.getfield 32, 3) := by decide +kernel
theorem dX0_addTouches_10 : decode cX0_addTouches 10 = .ok (.dup, 1) := by decide +kernel
theorem dX0_addTouches_11 : decode cX0_addTouches 11 = .ok (.getfield 51, 3) := by decide +kernel
theorem dX0_addTouches_14 : decode cX0_addTouches 14 = .ok (.iconst 1, 1) := by decide +kernel
theorem dX0_addTouches_15 : decode cX0_addTouches 15 = .ok (.iadd, 1) := by decide +kernel
theorem dX0_addTouches_16 : decode cX0_addTouches 16 = .ok (.putfield 51, 3) := by decide +kernel
theorem dX0_addTouches_19 : decode cX0_addTouches 19 = .ok (.iload_n 1, 1) := by decide +kernel
theorem dX0_addTouches_20 : decode cX0_addTouches 20 = .ok (.iconst 2, 1) := by decide +kernel
theorem dX0_addTouches_21 : decode cX0_addTouches 21 = .ok (.iand, 1) := by decide +kernel
theorem dX0_addTouches_22 : decode cX0_addTouches 22 = .ok (.ifCond .eq 16, 3) := by decide +kernel
theorem dX0_addTouches_25 : decode cX0_addTouches 25 = .ok (.aload_n 0, 1) := by decide +kernel
theorem dX0_addTouches_26 : decode cX0_addTouches 26 = .ok (.getfield 36, 3) := by decide +kernel
theorem dX0_addTouches_29 : decode cX0_addTouches 29 = .ok (.dup, 1) := by decide +kernel
theorem dX0_addTouches_30 : decode cX0_addTouches 30 = .ok (.getfield 51, 3) := by decide +kernel
theorem dX0_addTouches_33 : decode cX0_addTouches 33 = .ok (.iconst 1, 1) := by decide +kernel
theorem dX0_addTouches_34 : decode cX0_addTouches 34 = .ok (.iadd, 1) := by decide +kernel
theorem dX0_addTouches_35 : decode cX0_addTouches 35 = .ok (.putfield 51, 3) := by decide +kernel
theorem dX0_addTouches_38 : decode cX0_addTouches 38 = .ok (.aload_n 0, 1) := by decide +kernel
theorem dX0_addTouches_39 : decode cX0_addTouches 39 = .ok (.getfield 32, 3) := by decide +kernel
theorem dX0_addTouches_42 : decode cX0_addTouches 42 = .ok (.getfield 51, 3) := by decide +kernel
theorem dX0_addTouches_45 : decode cX0_addTouches 45 = .ok (.aload_n 0, 1) := by decide +kernel
theorem dX0_addTouches_46 : decode cX0_addTouches 46 = .ok (.getfield 42, 3) := by decide +kernel
theorem dX0_addTouches_49 : decode cX0_addTouches 49 = .ok (.if_icmp .ge 17, 3) := by decide +kernel
theorem dX0_addTouches_52 : decode cX0_addTouches 52 = .ok (.aload_n 0, 1) := by decide +kernel
theorem dX0_addTouches_53 : decode cX0_addTouches 53 = .ok (.getfield 36, 3) := by decide +kernel
theorem dX0_addTouches_56 : decode cX0_addTouches 56 = .ok (.getfield 51, 3) := by decide +kernel
theorem dX0_addTouches_59 : decode cX0_addTouches 59 = .ok (.aload_n 0, 1) := by decide +kernel
theorem dX0_addTouches_60 : decode cX0_addTouches 60 = .ok (.getfield 42, 3) := by decide +kernel
theorem dX0_addTouches_63 : decode cX0_addTouches 63 = .ok (.if_icmp .lt 7, 3) := by decide +kernel
theorem dX0_addTouches_66 : decode cX0_addTouches 66 = .ok (.iconst 1, 1) := by decide +kernel
theorem dX0_addTouches_67 : decode cX0_addTouches 67 = .ok (.goto 4, 3) := by decide +kernel
theorem dX0_addTouches_70 : decode cX0_addTouches 70 = .ok (.iconst 0, 1) := by decide +kernel
theorem dX0_addTouches_71 : decode cX0_addTouches 71 = .ok (.istore_n 2, 1) := by decide +kernel
theorem dX0_addTouches_72 : decode cX0_addTouches 72 = .ok (.iload_n 2, 1) := by decide +kernel
theorem dX0_addTouches_73 : decode cX0_addTouches 73 = .ok (.ifCond .ne 18, 3) := by decide +kernel
theorem dX0_addTouches_76 : decode cX0_addTouches 76 = .ok (.aload_n 0, 1) := by decide +kernel
theorem dX0_addTouches_77 : decode cX0_addTouches 77 = .ok (.getfield 15, 3) := by decide +kernel
theorem dX0_addTouches_80 : decode cX0_addTouches 80 = .ok (.iconst (-1), 1) := by decide +kernel
theorem dX0_addTouches_81 : decode cX0_addTouches 81 = .ok (.if_icmp .eq 18, 3) := by decide +kernel
theorem dX0_addTouches_84 : decode cX0_addTouches 84 = .ok (.aload_n 0, 1) := by decide +kernel
theorem dX0_addTouches_85 : decode cX0_addTouches 85 = .ok (.invokevirtual 54, 3) := by decide +kernel
theorem dX0_addTouches_88 : decode cX0_addTouches 88 = .ok (.ifCond .ne 11, 3) := by decide +kernel
theorem dX0_addTouches_91 : decode cX0_addTouches 91 = .ok (.aload_n 0, 1) := by decide +kernel
theorem dX0_addTouches_92 : decode cX0_addTouches 92 = .ok (.aload_n 0, 1) := by decide +kernel
theorem dX0_addTouches_93 : decode cX0_addTouches 93 = .ok (.invokevirtual 61, 3) := by decide +kernel
theorem dX0_addTouches_96 : decode cX0_addTouches 96 = .ok (.invokevirtual 65, 3) := by decide +kernel
theorem dX0_addTouches_99 : decode cX0_addTouches 99 = .ok (.return_, 1) := by decide +kernel
theorem dX0_giveCard_0 : decode cX0_giveCard 0 = .ok (.aload_n 0, 1) := by decide +kernel
theorem dX0_giveCard_1 : decode cX0_giveCard 1 = .ok (.iload_n 1, 1) := by decide +kernel
theorem dX0_giveCard_2 : decode cX0_giveCard 2 = .ok (.invokevirtual 68, 3) := by decide +kernel
theorem dX0_giveCard_5 : decode cX0_giveCard 5 = .ok (.iload_n 2, 1) := by decide +kernel
theorem dX0_giveCard_6 : decode cX0_giveCard 6 = .ok (.invokevirtual 72, 3) := by decide +kernel
theorem dX0_giveCard_9 : decode cX0_giveCard 9 = .ok (.istore_n 3, 1) := by decide +kernel
theorem dX0_giveCard_10 : decode cX0_giveCard 10 = .ok (.aload_n 0, 1) := by decide +kernel
theorem dX0_giveCard_11 : decode cX0_giveCard 11 = .ok (.iload_n 1, 1) := by decide +kernel
theorem dX0_giveCard_12 : decode cX0_giveCard 12 = .ok (.invokevirtual 68, 3) := by decide +kernel
theorem dX0_giveCard_15 : decode cX0_giveCard 15 = .ok (.iload_n 2, 1) := by decide +kernel
theorem dX0_giveCard_16 : decode cX0_giveCard 16 = .ok (.invokevirtual 76, 3) := by decide +kernel
theorem dX0_giveCard_19 : decode cX0_giveCard 19 = .ok (.iload_n 3, 1) := by decide +kernel
theorem dX0_giveCard_20 : decode cX0_giveCard 20 = .ok (.iconst 2, 1) := by decide +kernel
theorem dX0_giveCard_21 : decode cX0_giveCard 21 = .ok (.if_icmp .ne 16, 3) := by decide +kernel
theorem dX0_giveCard_24 : decode cX0_giveCard 24 = .ok (.aload_n 0, 1) := by decide +kernel
theorem dX0_giveCard_25 : decode cX0_giveCard 25 = .ok (.iconst 1, 1) := by decide +kernel
theorem dX0_giveCard_26 : decode cX0_giveCard 26 = .ok (.iload_n 1, 1) := by decide +kernel
theorem dX0_giveCard_27 : decode cX0_giveCard 27 = .ok (.isub, 1) := by decide +kernel
theorem dX0_giveCard_28 : decode cX0_giveCard 28 = .ok (.invokestatic 79, 3) := by decide +kernel
theorem dX0_giveCard_31 : decode cX0_giveCard 31 = .ok (.invokevirtual 82, 3) := by decide +kernel
theorem dX0_giveCard_34 : decode cX0_giveCard 34 = .ok (.goto 15, 3) := by decide +kernel
theorem dX0_giveCard_37 : decode cX0_giveCard 37 = .ok (.iload_n 3, 1) := by decide +kernel
theorem dX0_giveCard_38 : decode cX0_giveCard 38 = .ok (.iconst 3, 1) := by decide +kernel
theorem dX0_giveCard_39 : decode cX0_giveCard 39 = .ok (.if_icmp .ne 10, 3) := by decide +kernel
theorem dX0_giveCard_42 : decode cX0_giveCard 42 = .ok (.aload_n 0, 1) := by decide +kernel
theorem dX0_giveCard_43 : decode cX0_giveCard 43 = .ok (.iconst 1, 1) := by decide +kernel
theorem dX0_giveCard_44 : decode cX0_giveCard 44 = .ok (.iload_n 1, 1) := by decide +kernel
theorem dX0_giveCard_45 : decode cX0_giveCard 45 = .ok (.isub, 1) := by decide +kernel
theorem dX0_giveCard_46 : decode cX0_giveCard 46 = .ok (.invokevirtual 65, 3) := by decide +kernel
theorem dX0_giveCard_49 : decode cX0_giveCard 49 = .ok (.iload_n 3, 1) := by decide +kernel
theorem dX0_giveCard_50 : decode cX0_giveCard 50 = .ok (.ireturn, 1) := by decide +kernel
theorem dX0_passSecond_0 : decode cX0_passSecond 0 = .ok (.aload_n 0, 1) := by decide +kernel
theorem dX0_passSecond_1 : decode cX0_passSecond 1 = .ok (.dup, 1) := by decide +kernel
theorem dX0_passSecond_2 : decode cX0_passSecond 2 = .ok (.getfield 18, 3) := by decide +kernel
theorem dX0_passSecond_5 : decode cX0_passSecond 5 = .ok (.iconst 1, 1) := by decide +kernel
theorem dX0_passSecond_6 : decode cX0_passSecond 6 = .ok (.iadd, 1) := by decide +kernel
theorem dX0_passSecond_7 : decode cX0_passSecond 7 = .ok (.putfield 18, 3) := by decide +kernel
theorem dX0_passSecond_10 : decode cX0_passSecond 10 = .ok (.aload_n 0, 1) := by decide +kernel
theorem dX0_passSecond_11 : decode cX0_passSecond 11 = .ok (.dup, 1) := by decide +kernel
theorem dX0_passSecond_12 : decode cX0_passSecond 12 = .ok (.getfield 21, 3) := by decide +kernel
theorem dX0_passSecond_15 : decode cX0_passSecond 15 = .ok (.iconst 1, 1) := by decide +kernel
theorem dX0_passSecond_16 : decode cX0_passSecond 16 = .ok (.iadd, 1) := by decide +kernel
theorem dX0_passSecond_17 : decode cX0_passSecond 17 = .ok (.putfield 21, 3) := by decide +kernel
theorem dX0_passSecond_20 : decode cX0_passSecond 20 = .ok (.aload_n 0, 1) := by decide +kernel
theorem dX0_passSecond_21 : decode cX0_passSecond 21 = .ok (.getfield 21, 3) := by decide +kernel
theorem dX0_passSecond_24 : decode cX0_passSecond 24 = .ok (.bipush 60, 2) := by decide +kernel
theorem dX0_passSecond_26 : decode cX0_passSecond 26 = .ok (.if_icmp .lt 7, 3) := by decide +kernel
theorem dX0_passSecond_29 : decode cX0_passSecond 29 = .ok (.aload_n 0, 1) := by decide +kernel
theorem dX0_passSecond_30 : decode cX0_passSecond 30 = .ok (.invokevirtual 85, 3) := by decide +kernel
theorem dX0_passSecond_33 : decode cX0_passSecond 33 = .ok (.aload_n 0, 1) := by decide +kernel
theorem dX0_passSecond_34 : decode cX0_passSecond 34 = .ok (.invokevirtual 88, 3) := by decide +kernel
theorem dX0_passSecond_37 : decode cX0_passSecond 37 = .ok (.ifCond .ne 8, 3) := by decide +kernel
theorem dX0_passSecond_40 : decode cX0_passSecond 40 = .ok (.aload_n 0, 1) := by decide +kernel
theorem dX0_passSecond_41 : decode cX0_passSecond 41 = .ok (.aload_n 1, 1) := by decide +kernel
theorem dX0_passSecond_42 : decode cX0_passSecond 42 = .ok (.invokevirtual 91, 3) := by decide +kernel
theorem dX0_passSecond_45 : decode cX0_passSecond 45 = .ok (.return_, 1) := by decide +kernel
theorem dX0_becomePassive_0 : decode cX0_becomePassive 0 = .ok (.aload_n 0, 1) := by decide +kernel
theorem dX0_becomePassive_1 : decode cX0_becomePassive 1 = .ok (.iconst 0, 1) := by decide +kernel
theorem dX0_becomePassive_2 : decode cX0_becomePassive 2 = .ok (.putfield 21, 3) := by decide +kernel
theorem dX0_becomePassive_5 : decode cX0_becomePassive 5 = .ok (.aload_n 0, 1) := by decide +kernel
theorem dX0_becomePassive_6 : decode cX0_becomePassive 6 = .ok (.dup, 1) := by decide +kernel
theorem dX0_becomePassive_7 : decode cX0_becomePassive 7 = .ok (.getfield 24, 3) := by decide +kernel
theorem dX0_becomePassive_10 : decode cX0_becomePassive 10 = .ok (.iconst 1, 1) := by decide +kernel
theorem dX0_becomePassive_11 : decode cX0_becomePassive 11 = .ok (.iadd, 1) := by decide +kernel
theorem dX0_becomePassive_12 : decode cX0_becomePassive 12 = .ok (.putfield 24, 3) := by decide +kernel
theorem dX0_becomePassive_15 : decode cX0_becomePassive 15 = .ok (.aload_n 0, 1) := by decide +kernel
theorem dX0_becomePassive_16 : decode cX0_becomePassive 16 = .ok (.getfield 24, 3) := by decide +kernel
theorem dX0_becomePassive_19 : decode cX0_becomePassive 19 = .ok (.iconst 2, 1) := by decide +kernel
theorem dX0_becomePassive_20 : decode cX0_becomePassive 20 = .ok (.if_icmp .ne 11, 3) := by decide +kernel
theorem dX0_becomePassive_23 : decode cX0_becomePassive 23 = .ok (.aload_n 0, 1) := by decide +kernel
theorem dX0_becomePassive_24 : decode cX0_becomePassive 24 = .ok (.iconst 3, 1) := by decide +kernel
theorem dX0_becomePassive_25 : decode cX0_becomePassive 25 = .ok (.invokevirtual 58, 3) := by decide +kernel
theorem dX0_becomePassive_28 : decode cX0_becomePassive 28 = .ok (.goto 19, 3) := by decide +kernel
theorem dX0_becomePassive_31 : decode cX0_becomePassive 31 = .ok (.aload_n 0, 1) := by decide +kernel
theorem dX0_becomePassive_32 : decode cX0_becomePassive 32 = .ok (.getfield 24, 3) := by decide +kernel
theorem dX0_becomePassive_35 : decode cX0_becomePassive 35 = .ok (.iconst 3, 1) := by decide +kernel
theorem dX0_becomePassive_36 : decode cX0_becomePassive 36 = .ok (.if_icmp .lt 11, 3) := by decide +kernel
theorem dX0_becomePassive_39 : decode cX0_becomePassive 39 = .ok (.aload_n 0, 1) := by decide +kernel
theorem dX0_becomePassive_40 : decode cX0_becomePassive 40 = .ok (.aload_n 0, 1) := by decide +kernel
theorem dX0_becomePassive_41 : decode cX0_becomePassive 41 = .ok (.invokevirtual 61, 3) := by decide +kernel
theorem dX0_becomePassive_44 : decode cX0_becomePassive 44 = .ok (.invokevirtual 65, 3) := by decide +kernel
theorem dX0_becomePassive_47 : decode cX0_becomePassive 47 = .ok (.return_, 1) := by decide +kernel
theorem dX0_lookAtTime_0 : decode cX0_lookAtTime 0 = .ok (.aload_n 0, 1) := by decide +kernel
theorem dX0_lookAtTime_1 : decode cX0_lookAtTime 1 = .ok (.getfield 18, 3) := by decide +kernel
theorem dX0_lookAtTime_4 : decode cX0_lookAtTime 4 = .ok (.aload_n 0, 1) := by decide +kernel
theorem dX0_lookAtTime_5 : decode cX0_lookAtTime 5 = .ok (.invokevirtual 95, 3) := by decide +kernel
theorem dX0_lookAtTime_8 : decode cX0_lookAtTime 8 = .ok (.if_icmp .ge 4, 3) := by decide +kernel
theorem dX0_lookAtTime_11 : decode cX0_lookAtTime 11 = .ok (.return_, 1) := by decide +kernel
theorem dX0_lookAtTime_12 : decode cX0_lookAtTime 12 = .ok (.aload_n 0, 1) := by decide +kernel
theorem dX0_lookAtTime_13 : decode cX0_lookAtTime 13 = .ok (.getfield 15, 3) := by decide +kernel
theorem dX0_lookAtTime_16 : decode cX0_lookAtTime 16 = .ok (.iconst (-1), 1) := by decide +kernel
theorem dX0_lookAtTime_17 : decode cX0_lookAtTime 17 = .ok (.if_icmp .eq 14, 3) := by decide +kernel
theorem dX0_lookAtTime_20 : decode cX0_lookAtTime 20 = .ok (.aload_n 0, 1) := by decide +kernel
theorem dX0_lookAtTime_21 : decode cX0_lookAtTime 21 = .ok (.aload_n 0, 1) := by decide +kernel
theorem dX0_lookAtTime_22 : decode cX0_lookAtTime 22 = .ok (.getfield 15, 3) := by decide +kernel
theorem dX0_lookAtTime_25 : decode cX0_lookAtTime 25 = .ok (.invokevirtual 65, 3) := by decide +kernel
theorem dX0_lookAtTime_28 : decode cX0_lookAtTime 28 = .ok (.goto 29, 3) := by decide +kernel
theorem dX0_lookAtTime_31 : decode cX0_lookAtTime 31 = .ok (.aload_n 0, 1) := by decide +kernel
theorem dX0_lookAtTime_32 : decode cX0_lookAtTime 32 = .ok (.invokevirtual 54, 3) := by decide +kernel
theorem dX0_lookAtTime_35 : decode cX0_lookAtTime 35 = .ok (.ifCond .eq 14, 3) := by decide +kernel
theorem dX0_lookAtTime_38 : decode cX0_lookAtTime 38 = .ok (.aload_n 0, 1) := by decide +kernel
theorem dX0_lookAtTime_39 : decode cX0_lookAtTime 39 = .ok (.aload_n 1, 1) := by decide +kernel
theorem dX0_lookAtTime_40 : decode cX0_lookAtTime 40 = .ok (.invokevirtual 98, 3) := by decide +kernel
theorem dX0_lookAtTime_43 : decode cX0_lookAtTime 43 = .ok (.putfield 15, 3) := by decide +kernel
theorem dX0_lookAtTime_46 : decode cX0_lookAtTime 46 = .ok (.goto 11, 3) := by decide +kernel
theorem dX0_lookAtTime_49 : decode cX0_lookAtTime 49 = .ok (.aload_n 0, 1) := by decide +kernel
theorem dX0_lookAtTime_50 : decode cX0_lookAtTime 50 = .ok (.aload_n 0, 1) := by decide +kernel
theorem dX0_lookAtTime_51 : decode cX0_lookAtTime 51 = .ok (.invokevirtual 61, 3) := by decide +kernel
theorem dX0_lookAtTime_54 : decode cX0_lookAtTime 54 = .ok (.invokevirtual 65, 3) := by decide +kernel
theorem dX0_lookAtTime_57 : decode cX0_lookAtTime 57 = .ok (.return_, 1) := by decide +kernel
theorem dX0_timeLimit_0 : decode cX0_timeLimit 0 = .ok (.aload_n 0, 1) := by decide +kernel
theorem dX0_timeLimit_1 : decode cX0_timeLimit 1 = .ok (.getfield 15, 3) := by decide +kernel
theorem dX0_timeLimit_4 : decode cX0_timeLimit 4 = .ok (.iconst (-1), 1) := by decide +kernel
theorem dX0_timeLimit_5 : decode cX0_timeLimit 5 = .ok (.if_icmp .ne 9, 3) := by decide +kernel
theorem dX0_timeLimit_8 : decode cX0_timeLimit 8 = .ok (.sipush 180, 3) := by decide +kernel
theorem dX0_timeLimit_11 : decode cX0_timeLimit 11 = .ok (.goto 6, 3) := by decide +kernel
theorem dX0_timeLimit_14 : decode cX0_timeLimit 14 = .ok (.sipush 240, 3) := by decide +kernel
theorem dX0_timeLimit_17 : decode cX0_timeLimit 17 = .ok (.ireturn, 1) := by decide +kernel
theorem dX0_secondsLeft_0 : decode cX0_secondsLeft 0 = .ok (.aload_n 0, 1) := by decide +kernel
theorem dX0_secondsLeft_1 : decode cX0_secondsLeft 1 = .ok (.invokevirtual 88, 3) := by decide +kernel
theorem dX0_secondsLeft_4 : decode cX0_secondsLeft 4 = .ok (.ifCond .eq 7, 3) := by decide +kernel
theorem dX0_secondsLeft_7 : decode cX0_secondsLeft 7 = .ok (.iconst 0, 1) := by decide +kernel
theorem dX0_secondsLeft_8 : decode cX0_secondsLeft 8 = .ok (.goto 12, 3) := by decide +kernel
theorem dX0_secondsLeft_11 : decode cX0_secondsLeft 11 = .ok (.aload_n 0, 1) := by decide +kernel
theorem dX0_secondsLeft_12 : decode cX0_secondsLeft 12 = .ok (.invokevirtual 95, 3) := by decide +kernel
theorem dX0_secondsLeft_15 : decode cX0_secondsLeft 15 = .ok (.aload_n 0, 1) := by decide +kernel
theorem dX0_secondsLeft_16 : decode cX0_secondsLeft 16 = .ok (.getfield 18, 3) := by decide +kernel
theorem dX0_secondsLeft_19 : decode cX0_secondsLeft 19 = .ok (.isub, 1) := by decide +kernel
theorem dX0_secondsLeft_20 : decode cX0_secondsLeft 20 = .ok (.ireturn, 1) := by decide +kernel
theorem dX0_told_0 : decode cX0_told 0 = .ok (.iload_n 1, 1) := by decide +kernel
theorem dX0_told_1 : decode cX0_told 1 = .ok (.tableswitch 66 0 4 #[35, 43, 51, 56, 61], 35) := by decide +kernel
theorem dX0_told_36 : decode cX0_told 36 = .ok (.aload_n 0, 1) := by decide +kernel
theorem dX0_told_37 : decode cX0_told 37 = .ok (.getfield 32, 3) := by decide +kernel
theorem dX0_told_40 : decode cX0_told 40 = .ok (.getfield 51, 3) := by decide +kernel
theorem dX0_told_43 : decode cX0_told 43 = .ok (.ireturn, 1) := by decide +kernel
theorem dX0_told_44 : decode cX0_told 44 = .ok (.aload_n 0, 1) := by decide +kernel
theorem dX0_told_45 : decode cX0_told 45 = .ok (.getfield 36, 3) := by decide +kernel
theorem dX0_told_48 : decode cX0_told 48 = .ok (.getfield 51, 3) := by decide +kernel
theorem dX0_told_51 : decode cX0_told 51 = .ok (.ireturn, 1) := by decide +kernel
theorem dX0_told_52 : decode cX0_told 52 = .ok (.aload_n 0, 1) := by decide +kernel
theorem dX0_told_53 : decode cX0_told 53 = .ok (.getfield 9, 3) := by decide +kernel
theorem dX0_told_56 : decode cX0_told 56 = .ok (.ireturn, 1) := by decide +kernel
theorem dX0_told_57 : decode cX0_told 57 = .ok (.aload_n 0, 1) := by decide +kernel
theorem dX0_told_58 : decode cX0_told 58 = .ok (.getfield 18, 3) := by decide +kernel
theorem dX0_told_61 : decode cX0_told 61 = .ok (.ireturn, 1) := by decide +kernel
theorem dX0_told_62 : decode cX0_told 62 = .ok (.aload_n 0, 1) := by decide +kernel
theorem dX0_told_63 : decode cX0_told 63 = .ok (.getfield 24, 3) := by decide +kernel
theorem dX0_told_66 : decode cX0_told 66 = .ok (.ireturn, 1) := by decide +kernel
theorem dX0_told_67 : decode cX0_told 67 = .ok (.aload_n 0, 1) := by decide +kernel
theorem dX0_told_68 : decode cX0_told 68 = .ok (.getfield 15, 3) := by decide +kernel
theorem dX0_told_71 : decode cX0_told 71 = .ok (.ireturn, 1) := by decide +kernel
theorem dX0_share_0 : decode cX0_share 0 = .ok (.iload_n 2, 1) := by decide +kernel
theorem dX0_share_1 : decode cX0_share 1 = .ok (.tableswitch 52 0 2 #[27, 29, 43], 27) := by decide +kernel
theorem dX0_share_28 : decode cX0_share 28 = .ok (.iconst 1, 1) := by decide +kernel
theorem dX0_share_29 : decode cX0_share 29 = .ok (.ireturn, 1) := by decide +kernel
theorem dX0_share_30 : decode cX0_share 30 = .ok (.aload_n 0, 1) := by decide +kernel
theorem dX0_share_31 : decode cX0_share 31 = .ok (.getfield 9, 3) := by decide +kernel
theorem dX0_share_34 : decode cX0_share 34 = .ok (.iload_n 1, 1) := by decide +kernel
theorem dX0_share_35 : decode cX0_share 35 = .ok (.if_icmp .ne 7, 3) := by decide +kernel
theorem dX0_share_38 : decode cX0_share 38 = .ok (.iconst 1, 1) := by decide +kernel
theorem dX0_share_39 : decode cX0_share 39 = .ok (.goto 4, 3) := by decide +kernel
theorem dX0_share_42 : decode cX0_share 42 = .ok (.iconst 0, 1) := by decide +kernel
theorem dX0_share_43 : decode cX0_share 43 = .ok (.ireturn, 1) := by decide +kernel
theorem dX0_share_44 : decode cX0_share 44 = .ok (.aload_n 0, 1) := by decide +kernel
theorem dX0_share_45 : decode cX0_share 45 = .ok (.iload_n 1, 1) := by decide +kernel
theorem dX0_share_46 : decode cX0_share 46 = .ok (.invokevirtual 68, 3) := by decide +kernel
theorem dX0_share_49 : decode cX0_share 49 = .ok (.getfield 51, 3) := by decide +kernel
theorem dX0_share_52 : decode cX0_share 52 = .ok (.ireturn, 1) := by decide +kernel
theorem dX0_share_53 : decode cX0_share 53 = .ok (.aload_n 0, 1) := by decide +kernel
theorem dX0_share_54 : decode cX0_share 54 = .ok (.iconst 1, 1) := by decide +kernel
theorem dX0_share_55 : decode cX0_share 55 = .ok (.iload_n 1, 1) := by decide +kernel
theorem dX0_share_56 : decode cX0_share 56 = .ok (.isub, 1) := by decide +kernel
theorem dX0_share_57 : decode cX0_share 57 = .ok (.invokevirtual 68, 3) := by decide +kernel
theorem dX0_share_60 : decode cX0_share 60 = .ok (.getfield 51, 3) := by decide +kernel
theorem dX0_share_63 : decode cX0_share 63 = .ok (.ireturn, 1) := by decide +kernel
theorem dX1_init_0 : decode cX1_init 0 = .ok (.aload_n 0, 1) := by decide +kernel
theorem dX1_init_1 : decode cX1_init 1 = .ok (.invokespecial 3, 3) := by decide +kernel
theorem dX1_init_4 : decode cX1_init 4 = .ok (.aload_n 0, 1) := by decide +kernel
theorem dX1_init_5 : decode cX1_init 5 = .ok (.bipush 32, 2) := by decide +kernel
theorem dX1_init_7 : decode cX1_init 7 = .ok (.newarray .int, 2) := by decide +kernel
theorem dX1_init_9 : decode cX1_init 9 = .ok (.putfield 11, 3) := by decide +kernel
theorem dX1_init_12 : decode cX1_init 12 = .ok (.aload_n 0, 1) := by decide +kernel
theorem dX1_init_13 : decode cX1_init 13 = .ok (.bipush 16, 2) := by decide +kernel
theorem dX1_init_15 : decode cX1_init 15 = .ok (.newarray .int, 2) := by decide +kernel
theorem dX1_init_17 : decode cX1_init 17 = .ok (.putfield 15, 3) := by decide +kernel
theorem dX1_init_20 : decode cX1_init 20 = .ok (.aload_n 0, 1) := by decide +kernel
theorem dX1_init_21 : decode cX1_init 21 = .ok (.iconst 0, 1) := by decide +kernel
theorem dX1_init_22 : decode cX1_init 22 = .ok (.putfield 18, 3) := by decide +kernel
theorem dX1_init_25 : decode cX1_init 25 = .ok (.return_, 1) := by decide +kernel
theorem dX1_makeFrom_0 : decode cX1_makeFrom 0 = .ok (.aload_n 1, 1) := by decide +kernel
theorem dX1_makeFrom_1 : decode cX1_makeFrom 1 = .ok (.invokevirtual 22, 3) := by decide +kernel
theorem dX1_makeFrom_4 : decode cX1_makeFrom 4 = .ok (.aload_n 0, 1) := by decide +kernel
theorem dX1_makeFrom_5 : decode cX1_makeFrom 5 = .ok (.aload_n 1, 1) := by decide +kernel
theorem dX1_makeFrom_6 : decode cX1_makeFrom 6 = .ok (.invokevirtual 27, 3) := by decide +kernel
theorem dX1_makeFrom_9 : decode cX1_makeFrom 9 = .ok (.invokestatic 31, 3) := by decide +kernel
theorem dX1_makeFrom_12 : decode cX1_makeFrom 12 = .ok (.invokevirtual 35, 3) := by decide +kernel
theorem dX1_makeFrom_15 : decode cX1_makeFrom 15 = .ok (.iconst 0, 1) := by decide +kernel
theorem dX1_makeFrom_16 : decode cX1_makeFrom 16 = .ok (.istore_n 2, 1) := by decide +kernel
theorem dX1_makeFrom_17 : decode cX1_makeFrom 17 = .ok (.iload_n 2, 1) := by decide +kernel
theorem dX1_makeFrom_18 : decode cX1_makeFrom 18 = .ok (.aload_n 0, 1) := by decide +kernel
theorem dX1_makeFrom_19 : decode cX1_makeFrom 19 = .ok (.getfield 18, 3) := by decide +kernel
theorem dX1_makeFrom_22 : decode cX1_makeFrom 22 = .ok (.if_icmp .ge 15, 3) := by decide +kernel
theorem dX1_makeFrom_25 : decode cX1_makeFrom 25 = .ok (.aload_n 0, 1) := by decide +kernel
theorem dX1_makeFrom_26 : decode cX1_makeFrom 26 = .ok (.iload_n 2, 1) := by decide +kernel
theorem dX1_makeFrom_27 : decode cX1_makeFrom 27 = .ok (.iconst (-1), 1) := by decide +kernel
theorem dX1_makeFrom_28 : decode cX1_makeFrom 28 = .ok (.invokevirtual 39, 3) := by decide +kernel
theorem dX1_makeFrom_31 : decode cX1_makeFrom 31 = .ok (.iinc 2 1, 3) := by decide +kernel
theorem dX1_makeFrom_34 : decode cX1_makeFrom 34 = .ok (.goto (-17), 3) := by decide +kernel
theorem dX1_makeFrom_37 : decode cX1_makeFrom 37 = .ok (.iconst 0, 1) := by decide +kernel
theorem dX1_makeFrom_38 : decode cX1_makeFrom 38 = .ok (.istore_n 2, 1) := by decide +kernel
theorem dX1_makeFrom_39 : decode cX1_makeFrom 39 = .ok (.iload_n 2, 1) := by decide +kernel
theorem dX1_makeFrom_40 : decode cX1_makeFrom 40 = .ok (.aload_n 0, 1) := by decide +kernel
theorem dX1_makeFrom_41 : decode cX1_makeFrom 41 = .ok (.getfield 18, 3) := by decide +kernel
theorem dX1_makeFrom_44 : decode cX1_makeFrom 44 = .ok (.if_icmp .ge 35, 3) := by decide +kernel
theorem dX1_makeFrom_47 : decode cX1_makeFrom 47 = .ok (.iload_n 2, 1) := by decide +kernel
theorem dX1_makeFrom_48 : decode cX1_makeFrom 48 = .ok (.bipush 16, 2) := by decide +kernel
theorem dX1_makeFrom_50 : decode cX1_makeFrom 50 = .ok (.if_icmp .ge 29, 3) := by decide +kernel
theorem dX1_makeFrom_53 : decode cX1_makeFrom 53 = .ok (.aload_n 0, 1) := by decide +kernel
theorem dX1_makeFrom_54 : decode cX1_makeFrom 54 = .ok (.aload_n 0, 1) := by decide +kernel
theorem dX1_makeFrom_55 : decode cX1_makeFrom 55 = .ok (.getfield 18, 3) := by decide +kernel
theorem dX1_makeFrom_58 : decode cX1_makeFrom 58 = .ok (.iload_n 2, 1) := by decide +kernel
theorem dX1_makeFrom_59 : decode cX1_makeFrom 59 = .ok (.iadd, 1) := by decide +kernel
theorem dX1_makeFrom_60 : decode cX1_makeFrom 60 = .ok (.aload_n 1, 1) := by decide +kernel
theorem dX1_makeFrom_61 : decode cX1_makeFrom 61 = .ok (.aload_n 0, 1) := by decide +kernel
theorem dX1_makeFrom_62 : decode cX1_makeFrom 62 = .ok (.getfield 15, 3) := by decide +kernel
theorem dX1_makeFrom_65 : decode cX1_makeFrom 65 = .ok (.iload_n 2, 1) := by decide +kernel
theorem dX1_makeFrom_66 : decode cX1_makeFrom 66 = .ok (.iaload, 1) := by decide +kernel
theorem dX1_makeFrom_67 : decode cX1_makeFrom 67 = .ok (.invokevirtual 43, 3) := by decide +kernel
theorem dX1_makeFrom_70 : decode cX1_makeFrom 70 = .ok (.invokevirtual 39, 3) := by decide +kernel
theorem dX1_makeFrom_73 : decode cX1_makeFrom 73 = .ok (.iinc 2 1, 3) := by decide +kernel
theorem dX1_makeFrom_76 : decode cX1_makeFrom 76 = .ok (.goto (-37), 3) := by decide +kernel
theorem dX1_makeFrom_79 : decode cX1_makeFrom 79 = .ok (.aload_n 0, 1) := by decide +kernel
theorem dX1_makeFrom_80 : decode cX1_makeFrom 80 = .ok (.getfield 18, 3) := by decide +kernel
theorem dX1_makeFrom_83 : decode cX1_makeFrom 83 = .ok (.iconst 2, 1) := by decide +kernel
theorem dX1_makeFrom_84 : decode cX1_makeFrom 84 = .ok (.idiv, 1) := by decide +kernel
theorem dX1_makeFrom_85 : decode cX1_makeFrom 85 = .ok (.istore_n 2, 1) := by decide +kernel
theorem dX1_makeFrom_86 : decode cX1_makeFrom 86 = .ok (.iload_n 2, 1) := by decide +kernel
theorem dX1_makeFrom_87 : decode cX1_makeFrom 87 = .ok (.aload_n 0, 1) := by decide +kernel
theorem dX1_makeFrom_88 : decode cX1_makeFrom 88 = .ok (.getfield 18, 3) := by decide +kernel
theorem dX1_makeFrom_91 : decode cX1_makeFrom 91 = .ok (.if_icmp .ge 14, 3) := by decide +kernel
theorem dX1_makeFrom_94 : decode cX1_makeFrom 94 = .ok (.aload_n 0, 1) := by decide +kernel
theorem dX1_makeFrom_95 : decode cX1_makeFrom 95 = .ok (.iload_n 2, 1) := by decide +kernel
theorem dX1_makeFrom_96 : decode cX1_makeFrom 96 = .ok (.invokevirtual 46, 3) := by decide +kernel
theorem dX1_makeFrom_99 : decode cX1_makeFrom 99 = .ok (.iinc 2 1, 3) := by decide +kernel
theorem dX1_makeFrom_102 : decode cX1_makeFrom 102 = .ok (.goto (-16), 3) := by decide +kernel
theorem dX1_makeFrom_105 : decode cX1_makeFrom 105 = .ok (.return_, 1) := by decide +kernel
theorem dX1_leastPlaces_0 : decode cX1_leastPlaces 0 = .ok (.iconst 2, 1) := by decide +kernel
theorem dX1_leastPlaces_1 : decode cX1_leastPlaces 1 = .ok (.istore_n 1, 1) := by decide +kernel
theorem dX1_leastPlaces_2 : decode cX1_leastPlaces 2 = .ok (.iload_n 1, 1) := by decide +kernel
theorem dX1_leastPlaces_3 : decode cX1_leastPlaces 3 = .ok (.iload_n 0, 1) := by decide +kernel
theorem dX1_leastPlaces_4 : decode cX1_leastPlaces 4 = .ok (.if_icmp .ge 16, 3) := by decide +kernel
theorem dX1_leastPlaces_7 : decode cX1_leastPlaces 7 = .ok (.iload_n 1, 1) := by decide +kernel
theorem dX1_leastPlaces_8 : decode cX1_leastPlaces 8 = .ok (.bipush 16, 2) := by decide +kernel
theorem dX1_leastPlaces_10 : decode cX1_leastPlaces 10 = .ok (.if_icmp .ge 10, 3) := by decide +kernel
theorem dX1_leastPlaces_13 : decode cX1_leastPlaces 13 = .ok (.iload_n 1, 1) := by decide +kernel
theorem dX1_leastPlaces_14 : decode cX1_leastPlaces 14 = .ok (.iconst 2, 1) := by decide +kernel
theorem dX1_leastPlaces_15 : decode cX1_leastPlaces 15 = .ok (.imul, 1) := by decide +kernel
theorem dX1_leastPlaces_16 : decode cX1_leastPlaces 16 = .ok (.istore_n 1, 1) := by decide +kernel
theorem dX1_leastPlaces_17 : decode cX1_leastPlaces 17 = .ok (.goto (-15), 3) := by decide +kernel
theorem dX1_leastPlaces_20 : decode cX1_leastPlaces 20 = .ok (.iload_n 1, 1) := by decide +kernel
theorem dX1_leastPlaces_21 : decode cX1_leastPlaces 21 = .ok (.ireturn, 1) := by decide +kernel
theorem dX1_orderPlaces_0 : decode cX1_orderPlaces 0 = .ok (.aload_n 0, 1) := by decide +kernel
theorem dX1_orderPlaces_1 : decode cX1_orderPlaces 1 = .ok (.iconst 2, 1) := by decide +kernel
theorem dX1_orderPlaces_2 : decode cX1_orderPlaces 2 = .ok (.putfield 18, 3) := by decide +kernel
theorem dX1_orderPlaces_5 : decode cX1_orderPlaces 5 = .ok (.aload_n 0, 1) := by decide +kernel
theorem dX1_orderPlaces_6 : decode cX1_orderPlaces 6 = .ok (.getfield 15, 3) := by decide +kernel
theorem dX1_orderPlaces_9 : decode cX1_orderPlaces 9 = .ok (.iconst 0, 1) := by decide +kernel
theorem dX1_orderPlaces_10 : decode cX1_orderPlaces 10 = .ok (.iconst 0, 1) := by decide +kernel
theorem dX1_orderPlaces_11 : decode cX1_orderPlaces 11 = .ok (.iastore, 1) := by decide +kernel
theorem dX1_orderPlaces_12 : decode cX1_orderPlaces 12 = .ok (.aload_n 0, 1) := by decide +kernel
theorem dX1_orderPlaces_13 : decode cX1_orderPlaces 13 = .ok (.getfield 15, 3) := by decide +kernel
theorem dX1_orderPlaces_16 : decode cX1_orderPlaces 16 = .ok (.iconst 1, 1) := by decide +kernel
theorem dX1_orderPlaces_17 : decode cX1_orderPlaces 17 = .ok (.iconst 1, 1) := by decide +kernel
theorem dX1_orderPlaces_18 : decode cX1_orderPlaces 18 = .ok (.iastore, 1) := by decide +kernel
theorem dX1_orderPlaces_19 : decode cX1_orderPlaces 19 = .ok (.aload_n 0, 1) := by decide +kernel
theorem dX1_orderPlaces_20 : decode cX1_orderPlaces 20 = .ok (.getfield 18, 3) := by decide +kernel
theorem dX1_orderPlaces_23 : decode cX1_orderPlaces 23 = .ok (.iload_n 1, 1) := by decide +kernel
theorem dX1_orderPlaces_24 : decode cX1_orderPlaces 24 = .ok (.if_icmp .ge 80, 3) := by decide +kernel
theorem dX1_orderPlaces_27 : decode cX1_orderPlaces 27 = .ok (.iconst 2, 1) := by decide +kernel
theorem dX1_orderPlaces_28 : decode cX1_orderPlaces 28 = .ok (.aload_n 0, 1) := by decide +kernel
theorem dX1_orderPlaces_29 : decode cX1_orderPlaces 29 = .ok (.getfield 18, 3) := by decide +kernel
theorem dX1_orderPlaces_32 : decode cX1_orderPlaces 32 = .ok (.imul, 1) := by decide +kernel
theorem dX1_orderPlaces_33 : decode cX1_orderPlaces 33 = .ok (.bipush 16, 2) := by decide +kernel
theorem dX1_orderPlaces_35 : decode cX1_orderPlaces 35 = .ok (.if_icmp .gt 69, 3) := by decide +kernel
theorem dX1_orderPlaces_38 : decode cX1_orderPlaces 38 = .ok (.aload_n 0, 1) := by decide +kernel
theorem dX1_orderPlaces_39 : decode cX1_orderPlaces 39 = .ok (.getfield 18, 3) := by decide +kernel
theorem dX1_orderPlaces_42 : decode cX1_orderPlaces 42 = .ok (.iconst 1, 1) := by decide +kernel
theorem dX1_orderPlaces_43 : decode cX1_orderPlaces 43 = .ok (.isub, 1) := by decide +kernel
theorem dX1_orderPlaces_44 : decode cX1_orderPlaces 44 = .ok (.istore_n 2, 1) := by decide +kernel
theorem dX1_orderPlaces_45 : decode cX1_orderPlaces 45 = .ok (.iload_n 2, 1) := by decide +kernel
theorem dX1_orderPlaces_46 : decode cX1_orderPlaces 46 = .ok (.ifCond .lt 45, 3) := by decide +kernel
theorem dX1_orderPlaces_49 : decode cX1_orderPlaces 49 = .ok (.aload_n 0, 1) := by decide +kernel
theorem dX1_orderPlaces_50 : decode cX1_orderPlaces 50 = .ok (.getfield 15, 3) := by decide +kernel
theorem dX1_orderPlaces_53 : decode cX1_orderPlaces 53 = .ok (.iload_n 2, 1) := by decide +kernel
theorem dX1_orderPlaces_54 : decode cX1_orderPlaces 54 = .ok (.iaload, 1) := by decide +kernel
theorem dX1_orderPlaces_55 : decode cX1_orderPlaces 55 = .ok (.istore_n 3, 1) := by decide +kernel
theorem dX1_orderPlaces_56 : decode cX1_orderPlaces 56 = .ok (.aload_n 0, 1) := by decide +kernel
theorem dX1_orderPlaces_57 : decode cX1_orderPlaces 57 = .ok (.getfield 15, 3) := by decide +kernel
theorem dX1_orderPlaces_60 : decode cX1_orderPlaces 60 = .ok (.iconst 2, 1) := by decide +kernel
theorem dX1_orderPlaces_61 : decode cX1_orderPlaces 61 = .ok (.iload_n 2, 1) := by decide +kernel
theorem dX1_orderPlaces_62 : decode cX1_orderPlaces 62 = .ok (.imul, 1) := by decide +kernel
theorem dX1_orderPlaces_63 : decode cX1_orderPlaces 63 = .ok (.iload_n 3, 1) := by decide +kernel
theorem dX1_orderPlaces_64 : decode cX1_orderPlaces 64 = .ok (.iastore, 1) := by decide +kernel
theorem dX1_orderPlaces_65 : decode cX1_orderPlaces 65 = .ok (.aload_n 0, 1) := by decide +kernel
theorem dX1_orderPlaces_66 : decode cX1_orderPlaces 66 = .ok (.getfield 15, 3) := by decide +kernel
theorem dX1_orderPlaces_69 : decode cX1_orderPlaces 69 = .ok (.iconst 2, 1) := by decide +kernel
theorem dX1_orderPlaces_70 : decode cX1_orderPlaces 70 = .ok (.iload_n 2, 1) := by decide +kernel
theorem dX1_orderPlaces_71 : decode cX1_orderPlaces 71 = .ok (.imul, 1) := by decide +kernel
theorem dX1_orderPlaces_72 : decode cX1_orderPlaces 72 = .ok (.iconst 1, 1) := by decide +kernel
theorem dX1_orderPlaces_73 : decode cX1_orderPlaces 73 = .ok (.iadd, 1) := by decide +kernel
theorem dX1_orderPlaces_74 : decode cX1_orderPlaces 74 = .ok (.iconst 2, 1) := by decide +kernel
theorem dX1_orderPlaces_75 : decode cX1_orderPlaces 75 = .ok (.aload_n 0, 1) := by decide +kernel
theorem dX1_orderPlaces_76 : decode cX1_orderPlaces 76 = .ok (.getfield 18, 3) := by decide +kernel
theorem dX1_orderPlaces_79 : decode cX1_orderPlaces 79 = .ok (.imul, 1) := by decide +kernel
theorem dX1_orderPlaces_80 : decode cX1_orderPlaces 80 = .ok (.iconst 1, 1) := by decide +kernel
theorem dX1_orderPlaces_81 : decode cX1_orderPlaces 81 = .ok (.isub, 1) := by decide +kernel
theorem dX1_orderPlaces_82 : decode cX1_orderPlaces 82 = .ok (.iload_n 3, 1) := by decide +kernel
theorem dX1_orderPlaces_83 : decode cX1_orderPlaces 83 = .ok (.isub, 1) := by decide +kernel
theorem dX1_orderPlaces_84 : decode cX1_orderPlaces 84 = .ok (.iastore, 1) := by decide +kernel
theorem dX1_orderPlaces_85 : decode cX1_orderPlaces 85 = .ok (.iinc 2 (-1), 3) := by decide +kernel
theorem dX1_orderPlaces_88 : decode cX1_orderPlaces 88 = .ok (.goto (-43), 3) := by decide +kernel
theorem dX1_orderPlaces_91 : decode cX1_orderPlaces 91 = .ok (.aload_n 0, 1) := by decide +kernel
theorem dX1_orderPlaces_92 : decode cX1_orderPlaces 92 = .ok (.dup, 1) := by decide +kernel
theorem dX1_orderPlaces_93 : decode cX1_orderPlaces 93 = .ok (.getfield 18, 3) := by decide +kernel
theorem dX1_orderPlaces_96 : decode cX1_orderPlaces 96 = .ok (.iconst 2, 1) := by decide +kernel
theorem dX1_orderPlaces_97 : decode cX1_orderPlaces 97 = .ok (.imul, 1) := by decide +kernel
theorem dX1_orderPlaces_98 : decode cX1_orderPlaces 98 = .ok (.putfield 18, 3) := by decide +kernel
theorem dX1_orderPlaces_101 : decode cX1_orderPlaces 101 = .ok (.goto (-82), 3) := by decide +kernel
theorem dX1_orderPlaces_104 : decode cX1_orderPlaces 104 = .ok (.return_, 1) := by decide +kernel
theorem dX1_passBye_0 : decode cX1_passBye 0 = .ok (.aload_n 0, 1) := by decide +kernel
theorem dX1_passBye_1 : decode cX1_passBye 1 = .ok (.iconst 2, 1) := by decide +kernel
theorem dX1_passBye_2 : decode cX1_passBye 2 = .ok (.iload_n 1, 1) := by decide +kernel
theorem dX1_passBye_3 : decode cX1_passBye 3 = .ok (.imul, 1) := by decide +kernel
theorem dX1_passBye_4 : decode cX1_passBye 4 = .ok (.invokevirtual 49, 3) := by decide +kernel
theorem dX1_passBye_7 : decode cX1_passBye 7 = .ok (.istore_n 2, 1) := by decide +kernel
theorem dX1_passBye_8 : decode cX1_passBye 8 = .ok (.aload_n 0, 1) := by decide +kernel
theorem dX1_passBye_9 : decode cX1_passBye 9 = .ok (.iconst 2, 1) := by decide +kernel
theorem dX1_passBye_10 : decode cX1_passBye 10 = .ok (.iload_n 1, 1) := by decide +kernel
theorem dX1_passBye_11 : decode cX1_passBye 11 = .ok (.imul, 1) := by decide +kernel
theorem dX1_passBye_12 : decode cX1_passBye 12 = .ok (.iconst 1, 1) := by decide +kernel
theorem dX1_passBye_13 : decode cX1_passBye 13 = .ok (.iadd, 1) := by decide +kernel
theorem dX1_passBye_14 : decode cX1_passBye 14 = .ok (.invokevirtual 49, 3) := by decide +kernel
theorem dX1_passBye_17 : decode cX1_passBye 17 = .ok (.istore_n 3, 1) := by decide +kernel
theorem dX1_passBye_18 : decode cX1_passBye 18 = .ok (.iload_n 2, 1) := by decide +kernel
theorem dX1_passBye_19 : decode cX1_passBye 19 = .ok (.iconst (-1), 1) := by decide +kernel
theorem dX1_passBye_20 : decode cX1_passBye 20 = .ok (.if_icmp .eq 8, 3) := by decide +kernel
theorem dX1_passBye_23 : decode cX1_passBye 23 = .ok (.iload_n 3, 1) := by decide +kernel
theorem dX1_passBye_24 : decode cX1_passBye 24 = .ok (.iconst (-1), 1) := by decide +kernel
theorem dX1_passBye_25 : decode cX1_passBye 25 = .ok (.if_icmp .ne 18, 3) := by decide +kernel
theorem dX1_passBye_28 : decode cX1_passBye 28 = .ok (.aload_n 0, 1) := by decide +kernel
theorem dX1_passBye_29 : decode cX1_passBye 29 = .ok (.iload_n 1, 1) := by decide +kernel
theorem dX1_passBye_30 : decode cX1_passBye 30 = .ok (.iload_n 2, 1) := by decide +kernel
theorem dX1_passBye_31 : decode cX1_passBye 31 = .ok (.iconst (-1), 1) := by decide +kernel
theorem dX1_passBye_32 : decode cX1_passBye 32 = .ok (.if_icmp .ne 7, 3) := by decide +kernel
theorem dX1_passBye_35 : decode cX1_passBye 35 = .ok (.iload_n 3, 1) := by decide +kernel
theorem dX1_passBye_36 : decode cX1_passBye 36 = .ok (.goto 4, 3) := by decide +kernel
theorem dX1_passBye_39 : decode cX1_passBye 39 = .ok (.iload_n 2, 1) := by decide +kernel
theorem dX1_passBye_40 : decode cX1_passBye 40 = .ok (.invokevirtual 39, 3) := by decide +kernel
theorem dX1_passBye_43 : decode cX1_passBye 43 = .ok (.return_, 1) := by decide +kernel
theorem dX1_at_0 : decode cX1_at 0 = .ok (.iload_n 1, 1) := by decide +kernel
theorem dX1_at_1 : decode cX1_at 1 = .ok (.ifCond .lt 21, 3) := by decide +kernel
theorem dX1_at_4 : decode cX1_at 4 = .ok (.iload_n 1, 1) := by decide +kernel
theorem dX1_at_5 : decode cX1_at 5 = .ok (.aload_n 0, 1) := by decide +kernel
theorem dX1_at_6 : decode cX1_at 6 = .ok (.getfield 11, 3) := by decide +kernel
theorem dX1_at_9 : decode cX1_at 9 = .ok (.arraylength, 1) := by decide +kernel
theorem dX1_at_10 : decode cX1_at 10 = .ok (.if_icmp .ge 12, 3) := by decide +kernel
theorem dX1_at_13 : decode cX1_at 13 = .ok (.aload_n 0, 1) := by decide +kernel
theorem dX1_at_14 : decode cX1_at 14 = .ok (.getfield 11, 3) := by decide +kernel
theorem dX1_at_17 : decode cX1_at 17 = .ok (.iload_n 1, 1) := by decide +kernel
theorem dX1_at_18 : decode cX1_at 18 = .ok (.iaload, 1) := by decide +kernel
theorem dX1_at_19 : decode cX1_at 19 = .ok (.goto 4, 3) := by decide +kernel
theorem dX1_at_22 : decode cX1_at 22 = .ok (.iconst (-1), 1) := by decide +kernel
theorem dX1_at_23 : decode cX1_at 23 = .ok (.ireturn, 1) := by decide +kernel
theorem dX1_put_0 : decode cX1_put 0 = .ok (.iload_n 1, 1) := by decide +kernel
theorem dX1_put_1 : decode cX1_put 1 = .ok (.ifCond .lt 19, 3) := by decide +kernel
theorem dX1_put_4 : decode cX1_put 4 = .ok (.iload_n 1, 1) := by decide +kernel
theorem dX1_put_5 : decode cX1_put 5 = .ok (.aload_n 0, 1) := by decide +kernel
theorem dX1_put_6 : decode cX1_put 6 = .ok (.getfield 11, 3) := by decide +kernel
theorem dX1_put_9 : decode cX1_put 9 = .ok (.arraylength, 1) := by decide +kernel
theorem dX1_put_10 : decode cX1_put 10 = .ok (.if_icmp .ge 10, 3) := by decide +kernel
theorem dX1_put_13 : decode cX1_put 13 = .ok (.aload_n 0, 1) := by decide +kernel
theorem dX1_put_14 : decode cX1_put 14 = .ok (.getfield 11, 3) := by decide +kernel
theorem dX1_put_17 : decode cX1_put 17 = .ok (.iload_n 1, 1) := by decide +kernel
theorem dX1_put_18 : decode cX1_put 18 = .ok (.iload_n 2, 1) := by decide +kernel
theorem dX1_put_19 : decode cX1_put 19 = .ok (.iastore, 1) := by decide +kernel
theorem dX1_put_20 : decode cX1_put 20 = .ok (.return_, 1) := by decide +kernel
theorem dX1_matchesIn_0 : decode cX1_matchesIn 0 = .ok (.iload_n 1, 1) := by decide +kernel
theorem dX1_matchesIn_1 : decode cX1_matchesIn 1 = .ok (.ifCond .lt 19, 3) := by decide +kernel
theorem dX1_matchesIn_4 : decode cX1_matchesIn 4 = .ok (.iload_n 1, 1) := by decide +kernel
theorem dX1_matchesIn_5 : decode cX1_matchesIn 5 = .ok (.iconst 3, 1) := by decide +kernel
theorem dX1_matchesIn_6 : decode cX1_matchesIn 6 = .ok (.if_icmp .gt 14, 3) := by decide +kernel
theorem dX1_matchesIn_9 : decode cX1_matchesIn 9 = .ok (.aload_n 0, 1) := by decide +kernel
theorem dX1_matchesIn_10 : decode cX1_matchesIn 10 = .ok (.getfield 18, 3) := by decide +kernel
theorem dX1_matchesIn_13 : decode cX1_matchesIn 13 = .ok (.iload_n 1, 1) := by decide +kernel
theorem dX1_matchesIn_14 : decode cX1_matchesIn 14 = .ok (.iconst 1, 1) := by decide +kernel
theorem dX1_matchesIn_15 : decode cX1_matchesIn 15 = .ok (.iadd, 1) := by decide +kernel
theorem dX1_matchesIn_16 : decode cX1_matchesIn 16 = .ok (.ishr, 1) := by decide +kernel
theorem dX1_matchesIn_17 : decode cX1_matchesIn 17 = .ok (.goto 4, 3) := by decide +kernel
theorem dX1_matchesIn_20 : decode cX1_matchesIn 20 = .ok (.iconst 0, 1) := by decide +kernel
theorem dX1_matchesIn_21 : decode cX1_matchesIn 21 = .ok (.ireturn, 1) := by decide +kernel
theorem dX1_hasMatch_0 : decode cX1_hasMatch 0 = .ok (.iload_n 2, 1) := by decide +kernel
theorem dX1_hasMatch_1 : decode cX1_hasMatch 1 = .ok (.ifCond .lt 16, 3) := by decide +kernel
theorem dX1_hasMatch_4 : decode cX1_hasMatch 4 = .ok (.iload_n 2, 1) := by decide +kernel
theorem dX1_hasMatch_5 : decode cX1_hasMatch 5 = .ok (.aload_n 0, 1) := by decide +kernel
theorem dX1_hasMatch_6 : decode cX1_hasMatch 6 = .ok (.iload_n 1, 1) := by decide +kernel
theorem dX1_hasMatch_7 : decode cX1_hasMatch 7 = .ok (.invokevirtual 52, 3) := by decide +kernel
theorem dX1_hasMatch_10 : decode cX1_hasMatch 10 = .ok (.if_icmp .ge 7, 3) := by decide +kernel
theorem dX1_hasMatch_13 : decode cX1_hasMatch 13 = .ok (.iconst 1, 1) := by decide +kernel
theorem dX1_hasMatch_14 : decode cX1_hasMatch 14 = .ok (.goto 4, 3) := by decide +kernel
theorem dX1_hasMatch_17 : decode cX1_hasMatch 17 = .ok (.iconst 0, 1) := by decide +kernel
theorem dX1_hasMatch_18 : decode cX1_hasMatch 18 = .ok (.ireturn, 1) := by decide +kernel
theorem dX1_nodeOf_0 : decode cX1_nodeOf 0 = .ok (.aload_n 0, 1) := by decide +kernel
theorem dX1_nodeOf_1 : decode cX1_nodeOf 1 = .ok (.iload_n 1, 1) := by decide +kernel
theorem dX1_nodeOf_2 : decode cX1_nodeOf 2 = .ok (.invokevirtual 52, 3) := by decide +kernel
theorem dX1_nodeOf_5 : decode cX1_nodeOf 5 = .ok (.iload_n 2, 1) := by decide +kernel
theorem dX1_nodeOf_6 : decode cX1_nodeOf 6 = .ok (.iadd, 1) := by decide +kernel
theorem dX1_nodeOf_7 : decode cX1_nodeOf 7 = .ok (.ireturn, 1) := by decide +kernel
theorem dX1_winnerOf_0 : decode cX1_winnerOf 0 = .ok (.aload_n 0, 1) := by decide +kernel
theorem dX1_winnerOf_1 : decode cX1_winnerOf 1 = .ok (.aload_n 0, 1) := by decide +kernel
theorem dX1_winnerOf_2 : decode cX1_winnerOf 2 = .ok (.iload_n 1, 1) := by decide +kernel
theorem dX1_winnerOf_3 : decode cX1_winnerOf 3 = .ok (.iload_n 2, 1) := by decide +kernel
theorem dX1_winnerOf_4 : decode cX1_winnerOf 4 = .ok (.invokevirtual 55, 3) := by decide +kernel
theorem dX1_winnerOf_7 : decode cX1_winnerOf 7 = .ok (.invokevirtual 49, 3) := by decide +kernel
theorem dX1_winnerOf_10 : decode cX1_winnerOf 10 = .ok (.ireturn, 1) := by decide +kernel
theorem dX1_fencerIn_0 : decode cX1_fencerIn 0 = .ok (.aload_n 0, 1) := by decide +kernel
theorem dX1_fencerIn_1 : decode cX1_fencerIn 1 = .ok (.iconst 2, 1) := by decide +kernel
theorem dX1_fencerIn_2 : decode cX1_fencerIn 2 = .ok (.aload_n 0, 1) := by decide +kernel
theorem dX1_fencerIn_3 : decode cX1_fencerIn 3 = .ok (.iload_n 1, 1) := by decide +kernel
theorem dX1_fencerIn_4 : decode cX1_fencerIn 4 = .ok (.iload_n 2, 1) := by decide +kernel
theorem dX1_fencerIn_5 : decode cX1_fencerIn 5 = .ok (.invokevirtual 55, 3) := by decide +kernel
theorem dX1_fencerIn_8 : decode cX1_fencerIn 8 = .ok (.imul, 1) := by decide +kernel
theorem dX1_fencerIn_9 : decode cX1_fencerIn 9 = .ok (.iload_n 3, 1) := by decide +kernel
theorem dX1_fencerIn_10 : decode cX1_fencerIn 10 = .ok (.iadd, 1) := by decide +kernel
theorem dX1_fencerIn_11 : decode cX1_fencerIn 11 = .ok (.invokevirtual 49, 3) := by decide +kernel
theorem dX1_fencerIn_14 : decode cX1_fencerIn 14 = .ok (.ireturn, 1) := by decide +kernel
theorem dX1_isOpen_0 : decode cX1_isOpen 0 = .ok (.aload_n 0, 1) := by decide +kernel
theorem dX1_isOpen_1 : decode cX1_isOpen 1 = .ok (.iload_n 1, 1) := by decide +kernel
theorem dX1_isOpen_2 : decode cX1_isOpen 2 = .ok (.iload_n 2, 1) := by decide +kernel
theorem dX1_isOpen_3 : decode cX1_isOpen 3 = .ok (.iconst 0, 1) := by decide +kernel
theorem dX1_isOpen_4 : decode cX1_isOpen 4 = .ok (.invokevirtual 59, 3) := by decide +kernel
theorem dX1_isOpen_7 : decode cX1_isOpen 7 = .ok (.iconst (-1), 1) := by decide +kernel
theorem dX1_isOpen_8 : decode cX1_isOpen 8 = .ok (.if_icmp .eq 18, 3) := by decide +kernel
theorem dX1_isOpen_11 : decode cX1_isOpen 11 = .ok (.aload_n 0, 1) := by decide +kernel
theorem dX1_isOpen_12 : decode cX1_isOpen 12 = .ok (.iload_n 1, 1) := by decide +kernel
theorem dX1_isOpen_13 : decode cX1_isOpen 13 = .ok (.iload_n 2, 1) := by decide +kernel
theorem dX1_isOpen_14 : decode cX1_isOpen 14 = .ok (.iconst 1, 1) := by decide +kernel
theorem dX1_isOpen_15 : decode cX1_isOpen 15 = .ok (.invokevirtual 59, 3) := by decide +kernel
theorem dX1_isOpen_18 : decode cX1_isOpen 18 = .ok (.iconst (-1), 1) := by decide +kernel
theorem dX1_isOpen_19 : decode cX1_isOpen 19 = .ok (.if_icmp .eq 7, 3) := by decide +kernel
theorem dX1_isOpen_22 : decode cX1_isOpen 22 = .ok (.iconst 1, 1) := by decide +kernel
theorem dX1_isOpen_23 : decode cX1_isOpen 23 = .ok (.goto 4, 3) := by decide +kernel
theorem dX1_isOpen_26 : decode cX1_isOpen 26 = .ok (.iconst 0, 1) := by decide +kernel
theorem dX1_isOpen_27 : decode cX1_isOpen 27 = .ok (.istore_n 3, 1) := by decide +kernel
theorem dX1_isOpen_28 : decode cX1_isOpen 28 = .ok (.iload_n 3, 1) := by decide +kernel
theorem dX1_isOpen_29 : decode cX1_isOpen 29 = .ok (.ifCond .eq 17, 3) := by decide +kernel
theorem dX1_isOpen_32 : decode cX1_isOpen 32 = .ok (.aload_n 0, 1) := by decide +kernel
theorem dX1_isOpen_33 : decode cX1_isOpen 33 = .ok (.iload_n 1, 1) := by decide +kernel
theorem dX1_isOpen_34 : decode cX1_isOpen 34 = .ok (.iload_n 2, 1) := by decide +kernel
theorem dX1_isOpen_35 : decode cX1_isOpen 35 = .ok (.invokevirtual 63, 3) := by decide +kernel
theorem dX1_isOpen_38 : decode cX1_isOpen 38 = .ok (.iconst (-1), 1) := by decide +kernel
theorem dX1_isOpen_39 : decode cX1_isOpen 39 = .ok (.if_icmp .ne 7, 3) := by decide +kernel
theorem dX1_isOpen_42 : decode cX1_isOpen 42 = .ok (.iconst 1, 1) := by decide +kernel
theorem dX1_isOpen_43 : decode cX1_isOpen 43 = .ok (.goto 4, 3) := by decide +kernel
theorem dX1_isOpen_46 : decode cX1_isOpen 46 = .ok (.iconst 0, 1) := by decide +kernel
theorem dX1_isOpen_47 : decode cX1_isOpen 47 = .ok (.ireturn, 1) := by decide +kernel
theorem dX1_settle_0 : decode cX1_settle 0 = .ok (.aload_n 0, 1) := by decide +kernel
theorem dX1_settle_1 : decode cX1_settle 1 = .ok (.iload_n 1, 1) := by decide +kernel
theorem dX1_settle_2 : decode cX1_settle 2 = .ok (.iload_n 2, 1) := by decide +kernel
theorem dX1_settle_3 : decode cX1_settle 3 = .ok (.iload_n 3, 1) := by decide +kernel
theorem dX1_settle_4 : decode cX1_settle 4 = .ok (.invokevirtual 59, 3) := by decide +kernel
theorem dX1_settle_7 : decode cX1_settle 7 = .ok (.istore 4, 2) := by decide +kernel
theorem dX1_settle_9 : decode cX1_settle 9 = .ok (.aload_n 0, 1) := by decide +kernel
theorem dX1_settle_10 : decode cX1_settle 10 = .ok (.aload_n 0, 1) := by decide +kernel
theorem dX1_settle_11 : decode cX1_settle 11 = .ok (.iload_n 1, 1) := by decide +kernel
theorem dX1_settle_12 : decode cX1_settle 12 = .ok (.iload_n 2, 1) := by decide +kernel
theorem dX1_settle_13 : decode cX1_settle 13 = .ok (.invokevirtual 55, 3) := by decide +kernel
theorem dX1_settle_16 : decode cX1_settle 16 = .ok (.iload 4, 2) := by decide +kernel
theorem dX1_settle_18 : decode cX1_settle 18 = .ok (.invokevirtual 39, 3) := by decide +kernel
theorem dX1_settle_21 : decode cX1_settle 21 = .ok (.iload 4, 2) := by decide +kernel
theorem dX1_settle_23 : decode cX1_settle 23 = .ok (.ireturn, 1) := by decide +kernel
theorem dX2_init_0 : decode cX2_init 0 = .ok (.aload_n 0, 1) := by decide +kernel
theorem dX2_init_1 : decode cX2_init 1 = .ok (.invokespecial 3, 3) := by decide +kernel
theorem dX2_init_4 : decode cX2_init 4 = .ok (.aload_n 0, 1) := by decide +kernel
theorem dX2_init_5 : decode cX2_init 5 = .ok (.iconst 0, 1) := by decide +kernel
theorem dX2_init_6 : decode cX2_init 6 = .ok (.putfield 9, 3) := by decide +kernel
theorem dX2_init_9 : decode cX2_init 9 = .ok (.aload_n 0, 1) := by decide +kernel
theorem dX2_init_10 : decode cX2_init 10 = .ok (.iconst 0, 1) := by decide +kernel
theorem dX2_init_11 : decode cX2_init 11 = .ok (.putfield 15, 3) := by decide +kernel
theorem dX2_init_14 : decode cX2_init 14 = .ok (.aload_n 0, 1) := by decide +kernel
theorem dX2_init_15 : decode cX2_init 15 = .ok (.iconst 0, 1) := by decide +kernel
theorem dX2_init_16 : decode cX2_init 16 = .ok (.putfield 19, 3) := by decide +kernel
theorem dX2_init_19 : decode cX2_init 19 = .ok (.aload_n 0, 1) := by decide +kernel
theorem dX2_init_20 : decode cX2_init 20 = .ok (.iload_n 1, 1) := by decide +kernel
theorem dX2_init_21 : decode cX2_init 21 = .ok (.putfield 22, 3) := by decide +kernel
theorem dX2_init_24 : decode cX2_init 24 = .ok (.return_, 1) := by decide +kernel
theorem dX2_colourFor_0 : decode cX2_colourFor 0 = .ok (.iload_n 1, 1) := by decide +kernel
theorem dX2_colourFor_1 : decode cX2_colourFor 1 = .ok (.iconst 1, 1) := by decide +kernel
theorem dX2_colourFor_2 : decode cX2_colourFor 2 = .ok (.if_icmp .ne 16, 3) := by decide +kernel
theorem dX2_colourFor_5 : decode cX2_colourFor 5 = .ok (.aload_n 0, 1) := by decide +kernel
theorem dX2_colourFor_6 : decode cX2_colourFor 6 = .ok (.getfield 15, 3) := by decide +kernel
theorem dX2_colourFor_9 : decode cX2_colourFor 9 = .ok (.ifCond .eq 7, 3) := by decide +kernel
theorem dX2_colourFor_12 : decode cX2_colourFor 12 = .ok (.iconst 2, 1) := by decide +kernel
theorem dX2_colourFor_13 : decode cX2_colourFor 13 = .ok (.goto 4, 3) := by decide +kernel
theorem dX2_colourFor_16 : decode cX2_colourFor 16 = .ok (.iconst 1, 1) := by decide +kernel
theorem dX2_colourFor_17 : decode cX2_colourFor 17 = .ok (.ireturn, 1) := by decide +kernel
theorem dX2_colourFor_18 : decode cX2_colourFor 18 = .ok (.iload_n 1, 1) := by decide +kernel
theorem dX2_colourFor_19 : decode cX2_colourFor 19 = .ok (.iconst 3, 1) := by decide +kernel
theorem dX2_colourFor_20 : decode cX2_colourFor 20 = .ok (.if_icmp .ne 14, 3) := by decide +kernel
theorem dX2_colourFor_23 : decode cX2_colourFor 23 = .ok (.aload_n 0, 1) := by decide +kernel
theorem dX2_colourFor_24 : decode cX2_colourFor 24 = .ok (.getfield 19, 3) := by decide +kernel
theorem dX2_colourFor_27 : decode cX2_colourFor 27 = .ok (.ifCond .eq 7, 3) := by decide +kernel
theorem dX2_colourFor_30 : decode cX2_colourFor 30 = .ok (.iconst 3, 1) := by decide +kernel
theorem dX2_colourFor_31 : decode cX2_colourFor 31 = .ok (.goto 4, 3) := by decide +kernel
theorem dX2_colourFor_34 : decode cX2_colourFor 34 = .ok (.iconst 2, 1) := by decide +kernel
theorem dX2_colourFor_35 : decode cX2_colourFor 35 = .ok (.ireturn, 1) := by decide +kernel
theorem dX2_note_0 : decode cX2_note 0 = .ok (.aload_n 0, 1) := by decide +kernel
theorem dX2_note_1 : decode cX2_note 1 = .ok (.iconst 1, 1) := by decide +kernel
theorem dX2_note_2 : decode cX2_note 2 = .ok (.putfield 15, 3) := by decide +kernel
theorem dX2_note_5 : decode cX2_note 5 = .ok (.iload_n 1, 1) := by decide +kernel
theorem dX2_note_6 : decode cX2_note 6 = .ok (.iconst 3, 1) := by decide +kernel
theorem dX2_note_7 : decode cX2_note 7 = .ok (.if_icmp .ne 8, 3) := by decide +kernel
theorem dX2_note_10 : decode cX2_note 10 = .ok (.aload_n 0, 1) := by decide +kernel
theorem dX2_note_11 : decode cX2_note 11 = .ok (.iconst 1, 1) := by decide +kernel
theorem dX2_note_12 : decode cX2_note 12 = .ok (.putfield 19, 3) := by decide +kernel
theorem dX2_note_15 : decode cX2_note 15 = .ok (.return_, 1) := by decide +kernel
theorem dX3_init_0 : decode cX3_init 0 = .ok (.aload_n 0, 1) := by decide +kernel
theorem dX3_init_1 : decode cX3_init 1 = .ok (.invokespecial 1, 3) := by decide +kernel
theorem dX3_init_4 : decode cX3_init 4 = .ok (.aload_n 0, 1) := by decide +kernel
theorem dX3_init_5 : decode cX3_init 5 = .ok (.lconst 0, 1) := by decide +kernel
theorem dX3_init_6 : decode cX3_init 6 = .ok (.putfield 7, 3) := by decide +kernel
theorem dX3_init_9 : decode cX3_init 9 = .ok (.return_, 1) := by decide +kernel
theorem dX3_draw_0 : decode cX3_draw 0 = .ok (.aload_n 0, 1) := by decide +kernel
theorem dX3_draw_1 : decode cX3_draw 1 = .ok (.ldc2_w 13, 3) := by decide +kernel
theorem dX3_draw_4 : decode cX3_draw 4 = .ok (.aload_n 0, 1) := by decide +kernel
theorem dX3_draw_5 : decode cX3_draw 5 = .ok (.getfield 7, 3) := by decide +kernel
theorem dX3_draw_8 : decode cX3_draw 8 = .ok (.lmul, 1) := by decide +kernel
theorem dX3_draw_9 : decode cX3_draw 9 = .ok (.ldc2_w 15, 3) := by decide +kernel
theorem dX3_draw_12 : decode cX3_draw 12 = .ok (.ladd, 1) := by decide +kernel
theorem dX3_draw_13 : decode cX3_draw 13 = .ok (.ldc2_w 17, 3) := by decide +kernel
theorem dX3_draw_16 : decode cX3_draw 16 = .ok (.lrem, 1) := by decide +kernel
theorem dX3_draw_17 : decode cX3_draw 17 = .ok (.putfield 7, 3) := by decide +kernel
theorem dX3_draw_20 : decode cX3_draw 20 = .ok (.aload_n 0, 1) := by decide +kernel
theorem dX3_draw_21 : decode cX3_draw 21 = .ok (.getfield 7, 3) := by decide +kernel
theorem dX3_draw_24 : decode cX3_draw 24 = .ok (.ldc2_w 19, 3) := by decide +kernel
theorem dX3_draw_27 : decode cX3_draw 27 = .ok (.ldiv, 1) := by decide +kernel
theorem dX3_draw_28 : decode cX3_draw 28 = .ok (.ldc2_w 21, 3) := by decide +kernel
theorem dX3_draw_31 : decode cX3_draw 31 = .ok (.lrem, 1) := by decide +kernel
theorem dX3_draw_32 : decode cX3_draw 32 = .ok (.l2i, 1) := by decide +kernel
theorem dX3_draw_33 : decode cX3_draw 33 = .ok (.ireturn, 1) := by decide +kernel
theorem dX4_init_0 : decode cX4_init 0 = .ok (.aload_n 0, 1) := by decide +kernel
theorem dX4_init_1 : decode cX4_init 1 = .ok (.invokespecial 3, 3) := by decide +kernel
theorem dX4_init_4 : decode cX4_init 4 = .ok (.aload_n 0, 1) := by decide +kernel
theorem dX4_init_5 : decode cX4_init 5 = .ok (.bipush 24, 2) := by decide +kernel
theorem dX4_init_7 : decode cX4_init 7 = .ok (.newarray .int, 2) := by decide +kernel
theorem dX4_init_9 : decode cX4_init 9 = .ok (.putfield 11, 3) := by decide +kernel
theorem dX4_init_12 : decode cX4_init 12 = .ok (.aload_n 0, 1) := by decide +kernel
theorem dX4_init_13 : decode cX4_init 13 = .ok (.bipush 24, 2) := by decide +kernel
theorem dX4_init_15 : decode cX4_init 15 = .ok (.newarray .int, 2) := by decide +kernel
theorem dX4_init_17 : decode cX4_init 17 = .ok (.putfield 15, 3) := by decide +kernel
theorem dX4_init_20 : decode cX4_init 20 = .ok (.aload_n 0, 1) := by decide +kernel
theorem dX4_init_21 : decode cX4_init 21 = .ok (.bipush 24, 2) := by decide +kernel
theorem dX4_init_23 : decode cX4_init 23 = .ok (.newarray .int, 2) := by decide +kernel
theorem dX4_init_25 : decode cX4_init 25 = .ok (.putfield 18, 3) := by decide +kernel
theorem dX4_init_28 : decode cX4_init 28 = .ok (.aload_n 0, 1) := by decide +kernel
theorem dX4_init_29 : decode cX4_init 29 = .ok (.bipush 24, 2) := by decide +kernel
theorem dX4_init_31 : decode cX4_init 31 = .ok (.newarray .int, 2) := by decide +kernel
theorem dX4_init_33 : decode cX4_init 33 = .ok (.putfield 21, 3) := by decide +kernel
theorem dX4_init_36 : decode cX4_init 36 = .ok (.aload_n 0, 1) := by decide +kernel
theorem dX4_init_37 : decode cX4_init 37 = .ok (.bipush 24, 2) := by decide +kernel
theorem dX4_init_39 : decode cX4_init 39 = .ok (.newarray .int, 2) := by decide +kernel
theorem dX4_init_41 : decode cX4_init 41 = .ok (.putfield 24, 3) := by decide +kernel
theorem dX4_init_44 : decode cX4_init 44 = .ok (.aload_n 0, 1) := by decide +kernel
theorem dX4_init_45 : decode cX4_init 45 = .ok (.new 27, 3) := by decide +kernel
theorem dX4_init_48 : decode cX4_init 48 = .ok (.dup, 1) := by decide +kernel
theorem dX4_init_49 : decode cX4_init 49 = .ok (.invokespecial 29, 3) := by decide +kernel
theorem dX4_init_52 : decode cX4_init 52 = .ok (.putfield 30, 3) := by decide +kernel
theorem dX4_init_55 : decode cX4_init 55 = .ok (.aload_n 0, 1) := by decide +kernel
theorem dX4_init_56 : decode cX4_init 56 = .ok (.iconst 0, 1) := by decide +kernel
theorem dX4_init_57 : decode cX4_init 57 = .ok (.putfield 34, 3) := by decide +kernel
theorem dX4_init_60 : decode cX4_init 60 = .ok (.return_, 1) := by decide +kernel
theorem dX4_empty_0 : decode cX4_empty 0 = .ok (.aload_n 0, 1) := by decide +kernel
theorem dX4_empty_1 : decode cX4_empty 1 = .ok (.iconst 0, 1) := by decide +kernel
theorem dX4_empty_2 : decode cX4_empty 2 = .ok (.putfield 34, 3) := by decide +kernel
theorem dX4_empty_5 : decode cX4_empty 5 = .ok (.return_, 1) := by decide +kernel
theorem dX4_isFull_0 : decode cX4_isFull 0 = .ok (.aload_n 0, 1) := by decide +kernel
theorem dX4_isFull_1 : decode cX4_isFull 1 = .ok (.getfield 34, 3) := by decide +kernel
theorem dX4_isFull_4 : decode cX4_isFull 4 = .ok (.bipush 24, 2) := by decide +kernel
theorem dX4_isFull_6 : decode cX4_isFull 6 = .ok (.if_icmp .lt 7, 3) := by decide +kernel
theorem dX4_isFull_9 : decode cX4_isFull 9 = .ok (.iconst 1, 1) := by decide +kernel
theorem dX4_isFull_10 : decode cX4_isFull 10 = .ok (.goto 4, 3) := by decide +kernel
theorem dX4_isFull_13 : decode cX4_isFull 13 = .ok (.iconst 0, 1) := by decide +kernel
theorem dX4_isFull_14 : decode cX4_isFull 14 = .ok (.ireturn, 1) := by decide +kernel
theorem dX4_lastTime_0 : decode cX4_lastTime 0 = .ok (.aload_n 0, 1) := by decide +kernel
theorem dX4_lastTime_1 : decode cX4_lastTime 1 = .ok (.getfield 34, 3) := by decide +kernel
theorem dX4_lastTime_4 : decode cX4_lastTime 4 = .ok (.ifCond .ne 7, 3) := by decide +kernel
theorem dX4_lastTime_7 : decode cX4_lastTime 7 = .ok (.iconst 0, 1) := by decide +kernel
theorem dX4_lastTime_8 : decode cX4_lastTime 8 = .ok (.goto 13, 3) := by decide +kernel
theorem dX4_lastTime_11 : decode cX4_lastTime 11 = .ok (.aload_n 0, 1) := by decide +kernel
theorem dX4_lastTime_12 : decode cX4_lastTime 12 = .ok (.aload_n 0, 1) := by decide +kernel
theorem dX4_lastTime_13 : decode cX4_lastTime 13 = .ok (.getfield 34, 3) := by decide +kernel
theorem dX4_lastTime_16 : decode cX4_lastTime 16 = .ok (.iconst 1, 1) := by decide +kernel
theorem dX4_lastTime_17 : decode cX4_lastTime 17 = .ok (.isub, 1) := by decide +kernel
theorem dX4_lastTime_18 : decode cX4_lastTime 18 = .ok (.invokevirtual 38, 3) := by decide +kernel
theorem dX4_lastTime_21 : decode cX4_lastTime 21 = .ok (.ireturn, 1) := by decide +kernel
theorem dX4_addAction_0 : decode cX4_addAction 0 = .ok (.aload_n 0, 1) := by decide +kernel
theorem dX4_addAction_1 : decode cX4_addAction 1 = .ok (.iload_n 1, 1) := by decide +kernel
theorem dX4_addAction_2 : decode cX4_addAction 2 = .ok (.iload_n 2, 1) := by decide +kernel
theorem dX4_addAction_3 : decode cX4_addAction 3 = .ok (.iload_n 3, 1) := by decide +kernel
theorem dX4_addAction_4 : decode cX4_addAction 4 = .ok (.iconst 0, 1) := by decide +kernel
theorem dX4_addAction_5 : decode cX4_addAction 5 = .ok (.iconst (-1), 1) := by decide +kernel
theorem dX4_addAction_6 : decode cX4_addAction 6 = .ok (.invokevirtual 42, 3) := by decide +kernel
theorem dX4_addAction_9 : decode cX4_addAction 9 = .ok (.ireturn, 1) := by decide +kernel
theorem dX4_addContact_0 : decode cX4_addContact 0 = .ok (.aload_n 0, 1) := by decide +kernel
theorem dX4_addContact_1 : decode cX4_addContact 1 = .ok (.iload_n 1, 1) := by decide +kernel
theorem dX4_addContact_2 : decode cX4_addContact 2 = .ok (.iconst (-1), 1) := by decide +kernel
theorem dX4_addContact_3 : decode cX4_addContact 3 = .ok (.iload_n 2, 1) := by decide +kernel
theorem dX4_addContact_4 : decode cX4_addContact 4 = .ok (.iload_n 3, 1) := by decide +kernel
theorem dX4_addContact_5 : decode cX4_addContact 5 = .ok (.iload 4, 2) := by decide +kernel
theorem dX4_addContact_7 : decode cX4_addContact 7 = .ok (.invokevirtual 42, 3) := by decide +kernel
theorem dX4_addContact_10 : decode cX4_addContact 10 = .ok (.ireturn, 1) := by decide +kernel
theorem dX4_append_0 : decode cX4_append 0 = .ok (.aload_n 0, 1) := by decide +kernel
theorem dX4_append_1 : decode cX4_append 1 = .ok (.getfield 34, 3) := by decide +kernel
theorem dX4_append_4 : decode cX4_append 4 = .ok (.ifCond .lt 74, 3) := by decide +kernel
theorem dX4_append_7 : decode cX4_append 7 = .ok (.aload_n 0, 1) := by decide +kernel
theorem dX4_append_8 : decode cX4_append 8 = .ok (.getfield 34, 3) := by decide +kernel
theorem dX4_append_11 : decode cX4_append 11 = .ok (.bipush 24, 2) := by decide +kernel
theorem dX4_append_13 : decode cX4_append 13 = .ok (.if_icmp .ge 65, 3) := by decide +kernel
theorem dX4_append_16 : decode cX4_append 16 = .ok (.aload_n 0, 1) := by decide +kernel
theorem dX4_append_17 : decode cX4_append 17 = .ok (.getfield 11, 3) := by decide +kernel
theorem dX4_append_20 : decode cX4_append 20 = .ok (.aload_n 0, 1) := by decide +kernel
theorem dX4_append_21 : decode cX4_append 21 = .ok (.getfield 34, 3) := by decide +kernel
theorem dX4_append_24 : decode cX4_append 24 = .ok (.iload_n 1, 1) := by decide +kernel
theorem dX4_append_25 : decode cX4_append 25 = .ok (.iastore, 1) := by decide +kernel
theorem dX4_append_26 : decode cX4_append 26 = .ok (.aload_n 0, 1) := by decide +kernel
theorem dX4_append_27 : decode cX4_append 27 = .ok (.getfield 15, 3) := by decide +kernel
theorem dX4_append_30 : decode cX4_append 30 = .ok (.aload_n 0, 1) := by decide +kernel
theorem dX4_append_31 : decode cX4_append 31 = .ok (.getfield 34, 3) := by decide +kernel
theorem dX4_append_34 : decode cX4_append 34 = .ok (.iload_n 2, 1) := by decide +kernel
theorem dX4_append_35 : decode cX4_append 35 = .ok (.iastore, 1) := by decide +kernel
theorem dX4_append_36 : decode cX4_append 36 = .ok (.aload_n 0, 1) := by decide +kernel
theorem dX4_append_37 : decode cX4_append 37 = .ok (.getfield 18, 3) := by decide +kernel
theorem dX4_append_40 : decode cX4_append 40 = .ok (.aload_n 0, 1) := by decide +kernel
theorem dX4_append_41 : decode cX4_append 41 = .ok (.getfield 34, 3) := by decide +kernel
theorem dX4_append_44 : decode cX4_append 44 = .ok (.iload_n 3, 1) := by decide +kernel
theorem dX4_append_45 : decode cX4_append 45 = .ok (.iastore, 1) := by decide +kernel
theorem dX4_append_46 : decode cX4_append 46 = .ok (.aload_n 0, 1) := by decide +kernel
theorem dX4_append_47 : decode cX4_append 47 = .ok (.getfield 21, 3) := by decide +kernel
theorem dX4_append_50 : decode cX4_append 50 = .ok (.aload_n 0, 1) := by decide +kernel
theorem dX4_append_51 : decode cX4_append 51 = .ok (.getfield 34, 3) := by decide +kernel
theorem dX4_append_54 : decode cX4_append 54 = .ok (.iload 4, 2) := by decide +kernel
theorem dX4_append_56 : decode cX4_append 56 = .ok (.iastore, 1) := by decide +kernel
theorem dX4_append_57 : decode cX4_append 57 = .ok (.aload_n 0, 1) := by decide +kernel
theorem dX4_append_58 : decode cX4_append 58 = .ok (.getfield 24, 3) := by decide +kernel
theorem dX4_append_61 : decode cX4_append 61 = .ok (.aload_n 0, 1) := by decide +kernel
theorem dX4_append_62 : decode cX4_append 62 = .ok (.getfield 34, 3) := by decide +kernel
theorem dX4_append_65 : decode cX4_append 65 = .ok (.iload 5, 2) := by decide +kernel
theorem dX4_append_67 : decode cX4_append 67 = .ok (.iastore, 1) := by decide +kernel
theorem dX4_append_68 : decode cX4_append 68 = .ok (.aload_n 0, 1) := by decide +kernel
theorem dX4_append_69 : decode cX4_append 69 = .ok (.dup, 1) := by decide +kernel
theorem dX4_append_70 : decode cX4_append 70 = .ok (.getfield 34, 3) := by decide +kernel
theorem dX4_append_73 : decode cX4_append 73 = .ok (.iconst 1, 1) := by decide +kernel
theorem dX4_append_74 : decode cX4_append 74 = .ok (.iadd, 1) := by decide +kernel
theorem dX4_append_75 : decode cX4_append 75 = .ok (.putfield 34, 3) := by decide +kernel
theorem dX4_append_78 : decode cX4_append 78 = .ok (.aload_n 0, 1) := by decide +kernel
theorem dX4_append_79 : decode cX4_append 79 = .ok (.getfield 34, 3) := by decide +kernel
theorem dX4_append_82 : decode cX4_append 82 = .ok (.ireturn, 1) := by decide +kernel
theorem dX4_isEntry_0 : decode cX4_isEntry 0 = .ok (.iload_n 1, 1) := by decide +kernel
theorem dX4_isEntry_1 : decode cX4_isEntry 1 = .ok (.ifCond .lt 21, 3) := by decide +kernel
theorem dX4_isEntry_4 : decode cX4_isEntry 4 = .ok (.iload_n 1, 1) := by decide +kernel
theorem dX4_isEntry_5 : decode cX4_isEntry 5 = .ok (.aload_n 0, 1) := by decide +kernel
theorem dX4_isEntry_6 : decode cX4_isEntry 6 = .ok (.getfield 34, 3) := by decide +kernel
theorem dX4_isEntry_9 : decode cX4_isEntry 9 = .ok (.if_icmp .ge 13, 3) := by decide +kernel
theorem dX4_isEntry_12 : decode cX4_isEntry 12 = .ok (.iload_n 1, 1) := by decide +kernel
theorem dX4_isEntry_13 : decode cX4_isEntry 13 = .ok (.bipush 24, 2) := by decide +kernel
theorem dX4_isEntry_15 : decode cX4_isEntry 15 = .ok (.if_icmp .ge 7, 3) := by decide +kernel
theorem dX4_isEntry_18 : decode cX4_isEntry 18 = .ok (.iconst 1, 1) := by decide +kernel
theorem dX4_isEntry_19 : decode cX4_isEntry 19 = .ok (.goto 4, 3) := by decide +kernel
theorem dX4_isEntry_22 : decode cX4_isEntry 22 = .ok (.iconst 0, 1) := by decide +kernel
theorem dX4_isEntry_23 : decode cX4_isEntry 23 = .ok (.ireturn, 1) := by decide +kernel
theorem dX4_timeAt_0 : decode cX4_timeAt 0 = .ok (.aload_n 0, 1) := by decide +kernel
theorem dX4_timeAt_1 : decode cX4_timeAt 1 = .ok (.iload_n 1, 1) := by decide +kernel
theorem dX4_timeAt_2 : decode cX4_timeAt 2 = .ok (.invokevirtual 46, 3) := by decide +kernel
theorem dX4_timeAt_5 : decode cX4_timeAt 5 = .ok (.ifCond .eq 12, 3) := by decide +kernel
theorem dX4_timeAt_8 : decode cX4_timeAt 8 = .ok (.aload_n 0, 1) := by decide +kernel
theorem dX4_timeAt_9 : decode cX4_timeAt 9 = .ok (.getfield 18, 3) := by decide +kernel
theorem dX4_timeAt_12 : decode cX4_timeAt 12 = .ok (.iload_n 1, 1) := by decide +kernel
theorem dX4_timeAt_13 : decode cX4_timeAt 13 = .ok (.iaload, 1) := by decide +kernel
theorem dX4_timeAt_14 : decode cX4_timeAt 14 = .ok (.goto 4, 3) := by decide +kernel
theorem dX4_timeAt_17 : decode cX4_timeAt 17 = .ok (.iconst 0, 1) := by decide +kernel
theorem dX4_timeAt_18 : decode cX4_timeAt 18 = .ok (.ireturn, 1) := by decide +kernel
theorem dX4_targetAt_0 : decode cX4_targetAt 0 = .ok (.aload_n 0, 1) := by decide +kernel
theorem dX4_targetAt_1 : decode cX4_targetAt 1 = .ok (.iload_n 1, 1) := by decide +kernel
theorem dX4_targetAt_2 : decode cX4_targetAt 2 = .ok (.invokevirtual 46, 3) := by decide +kernel
theorem dX4_targetAt_5 : decode cX4_targetAt 5 = .ok (.ifCond .eq 12, 3) := by decide +kernel
theorem dX4_targetAt_8 : decode cX4_targetAt 8 = .ok (.aload_n 0, 1) := by decide +kernel
theorem dX4_targetAt_9 : decode cX4_targetAt 9 = .ok (.getfield 24, 3) := by decide +kernel
theorem dX4_targetAt_12 : decode cX4_targetAt 12 = .ok (.iload_n 1, 1) := by decide +kernel
theorem dX4_targetAt_13 : decode cX4_targetAt 13 = .ok (.iaload, 1) := by decide +kernel
theorem dX4_targetAt_14 : decode cX4_targetAt 14 = .ok (.goto 4, 3) := by decide +kernel
theorem dX4_targetAt_17 : decode cX4_targetAt 17 = .ok (.iconst (-1), 1) := by decide +kernel
theorem dX4_targetAt_18 : decode cX4_targetAt 18 = .ok (.ireturn, 1) := by decide +kernel
theorem dX4_registered_0 : decode cX4_registered 0 = .ok (.iconst (-1), 1) := by decide +kernel
theorem dX4_registered_1 : decode cX4_registered 1 = .ok (.istore_n 3, 1) := by decide +kernel
theorem dX4_registered_2 : decode cX4_registered 2 = .ok (.iconst 0, 1) := by decide +kernel
theorem dX4_registered_3 : decode cX4_registered 3 = .ok (.istore 4, 2) := by decide +kernel
theorem dX4_registered_5 : decode cX4_registered 5 = .ok (.iload 4, 2) := by decide +kernel
theorem dX4_registered_7 : decode cX4_registered 7 = .ok (.aload_n 0, 1) := by decide +kernel
theorem dX4_registered_8 : decode cX4_registered 8 = .ok (.getfield 34, 3) := by decide +kernel
theorem dX4_registered_11 : decode cX4_registered 11 = .ok (.if_icmp .ge 74, 3) := by decide +kernel
theorem dX4_registered_14 : decode cX4_registered 14 = .ok (.aload_n 0, 1) := by decide +kernel
theorem dX4_registered_15 : decode cX4_registered 15 = .ok (.iload 4, 2) := by decide +kernel
theorem dX4_registered_17 : decode cX4_registered 17 = .ok (.invokevirtual 46, 3) := by decide +kernel
theorem dX4_registered_20 : decode cX4_registered 20 = .ok (.ifCond .eq 59, 3) := by decide +kernel
theorem dX4_registered_23 : decode cX4_registered 23 = .ok (.aload_n 0, 1) := by decide +kernel
theorem dX4_registered_24 : decode cX4_registered 24 = .ok (.iload 4, 2) := by decide +kernel
theorem dX4_registered_26 : decode cX4_registered 26 = .ok (.iload_n 2, 1) := by decide +kernel
theorem dX4_registered_27 : decode cX4_registered 27 = .ok (.invokevirtual 50, 3) := by decide +kernel
theorem dX4_registered_30 : decode cX4_registered 30 = .ok (.ifCond .eq 49, 3) := by decide +kernel
theorem dX4_registered_33 : decode cX4_registered 33 = .ok (.iload_n 3, 1) := by decide +kernel
theorem dX4_registered_34 : decode cX4_registered 34 = .ok (.iconst (-1), 1) := by decide +kernel
theorem dX4_registered_35 : decode cX4_registered 35 = .ok (.if_icmp .ne 8, 3) := by decide +kernel
theorem dX4_registered_38 : decode cX4_registered 38 = .ok (.iload 4, 2) := by decide +kernel
theorem dX4_registered_40 : decode cX4_registered 40 = .ok (.goto 4, 3) := by decide +kernel
theorem dX4_registered_43 : decode cX4_registered 43 = .ok (.iload_n 3, 1) := by decide +kernel
theorem dX4_registered_44 : decode cX4_registered 44 = .ok (.istore_n 3, 1) := by decide +kernel
theorem dX4_registered_45 : decode cX4_registered 45 = .ok (.aload_n 0, 1) := by decide +kernel
theorem dX4_registered_46 : decode cX4_registered 46 = .ok (.getfield 11, 3) := by decide +kernel
theorem dX4_registered_49 : decode cX4_registered 49 = .ok (.iload 4, 2) := by decide +kernel
theorem dX4_registered_51 : decode cX4_registered 51 = .ok (.iaload, 1) := by decide +kernel
theorem dX4_registered_52 : decode cX4_registered 52 = .ok (.iload_n 1, 1) := by decide +kernel
theorem dX4_registered_53 : decode cX4_registered 53 = .ok (.if_icmp .ne 26, 3) := by decide +kernel
theorem dX4_registered_56 : decode cX4_registered 56 = .ok (.aload_n 0, 1) := by decide +kernel
theorem dX4_registered_57 : decode cX4_registered 57 = .ok (.getfield 18, 3) := by decide +kernel
theorem dX4_registered_60 : decode cX4_registered 60 = .ok (.iload 4, 2) := by decide +kernel
theorem dX4_registered_62 : decode cX4_registered 62 = .ok (.iaload, 1) := by decide +kernel
theorem dX4_registered_63 : decode cX4_registered 63 = .ok (.aload_n 0, 1) := by decide +kernel
theorem dX4_registered_64 : decode cX4_registered 64 = .ok (.iload_n 3, 1) := by decide +kernel
theorem dX4_registered_65 : decode cX4_registered 65 = .ok (.invokevirtual 38, 3) := by decide +kernel
theorem dX4_registered_68 : decode cX4_registered 68 = .ok (.isub, 1) := by decide +kernel
theorem dX4_registered_69 : decode cX4_registered 69 = .ok (.iload_n 2, 1) := by decide +kernel
theorem dX4_registered_70 : decode cX4_registered 70 = .ok (.invokestatic 54, 3) := by decide +kernel
theorem dX4_registered_73 : decode cX4_registered 73 = .ok (.if_icmp .gt 6, 3) := by decide +kernel
theorem dX4_registered_76 : decode cX4_registered 76 = .ok (.iload 4, 2) := by decide +kernel
theorem dX4_registered_78 : decode cX4_registered 78 = .ok (.ireturn, 1) := by decide +kernel
theorem dX4_registered_79 : decode cX4_registered 79 = .ok (.iinc 4 1, 3) := by decide +kernel
theorem dX4_registered_82 : decode cX4_registered 82 = .ok (.goto (-77), 3) := by decide +kernel
theorem dX4_registered_85 : decode cX4_registered 85 = .ok (.iconst (-1), 1) := by decide +kernel
theorem dX4_registered_86 : decode cX4_registered 86 = .ok (.ireturn, 1) := by decide +kernel
theorem dX4_couldRegister_0 : decode cX4_couldRegister 0 = .ok (.aload_n 0, 1) := by decide +kernel
theorem dX4_couldRegister_1 : decode cX4_couldRegister 1 = .ok (.iload_n 1, 1) := by decide +kernel
theorem dX4_couldRegister_2 : decode cX4_couldRegister 2 = .ok (.invokevirtual 46, 3) := by decide +kernel
theorem dX4_couldRegister_5 : decode cX4_couldRegister 5 = .ok (.ifCond .eq 26, 3) := by decide +kernel
theorem dX4_couldRegister_8 : decode cX4_couldRegister 8 = .ok (.aload_n 0, 1) := by decide +kernel
theorem dX4_couldRegister_9 : decode cX4_couldRegister 9 = .ok (.getfield 15, 3) := by decide +kernel
theorem dX4_couldRegister_12 : decode cX4_couldRegister 12 = .ok (.iload_n 1, 1) := by decide +kernel
theorem dX4_couldRegister_13 : decode cX4_couldRegister 13 = .ok (.iaload, 1) := by decide +kernel
theorem dX4_couldRegister_14 : decode cX4_couldRegister 14 = .ok (.iconst (-1), 1) := by decide +kernel
theorem dX4_couldRegister_15 : decode cX4_couldRegister 15 = .ok (.if_icmp .ne 16, 3) := by decide +kernel
theorem dX4_couldRegister_18 : decode cX4_couldRegister 18 = .ok (.aload_n 0, 1) := by decide +kernel
theorem dX4_couldRegister_19 : decode cX4_couldRegister 19 = .ok (.getfield 21, 3) := by decide +kernel
theorem dX4_couldRegister_22 : decode cX4_couldRegister 22 = .ok (.iload_n 1, 1) := by decide +kernel
theorem dX4_couldRegister_23 : decode cX4_couldRegister 23 = .ok (.iaload, 1) := by decide +kernel
theorem dX4_couldRegister_24 : decode cX4_couldRegister 24 = .ok (.iload_n 2, 1) := by decide +kernel
theorem dX4_couldRegister_25 : decode cX4_couldRegister 25 = .ok (.invokestatic 57, 3) := by decide +kernel
theorem dX4_couldRegister_28 : decode cX4_couldRegister 28 = .ok (.if_icmp .ge 5, 3) := by decide +kernel
theorem dX4_couldRegister_31 : decode cX4_couldRegister 31 = .ok (.iconst 0, 1) := by decide +kernel
theorem dX4_couldRegister_32 : decode cX4_couldRegister 32 = .ok (.ireturn, 1) := by decide +kernel
theorem dX4_couldRegister_33 : decode cX4_couldRegister 33 = .ok (.aload_n 0, 1) := by decide +kernel
theorem dX4_couldRegister_34 : decode cX4_couldRegister 34 = .ok (.getfield 24, 3) := by decide +kernel
theorem dX4_couldRegister_37 : decode cX4_couldRegister 37 = .ok (.iload_n 1, 1) := by decide +kernel
theorem dX4_couldRegister_38 : decode cX4_couldRegister 38 = .ok (.iaload, 1) := by decide +kernel
theorem dX4_couldRegister_39 : decode cX4_couldRegister 39 = .ok (.ifCond .eq 17, 3) := by decide +kernel
theorem dX4_couldRegister_42 : decode cX4_couldRegister 42 = .ok (.iload_n 2, 1) := by decide +kernel
theorem dX4_couldRegister_43 : decode cX4_couldRegister 43 = .ok (.ifCond .ne 17, 3) := by decide +kernel
theorem dX4_couldRegister_46 : decode cX4_couldRegister 46 = .ok (.aload_n 0, 1) := by decide +kernel
theorem dX4_couldRegister_47 : decode cX4_couldRegister 47 = .ok (.getfield 24, 3) := by decide +kernel
theorem dX4_couldRegister_50 : decode cX4_couldRegister 50 = .ok (.iload_n 1, 1) := by decide +kernel
theorem dX4_couldRegister_51 : decode cX4_couldRegister 51 = .ok (.iaload, 1) := by decide +kernel
theorem dX4_couldRegister_52 : decode cX4_couldRegister 52 = .ok (.iconst 1, 1) := by decide +kernel
theorem dX4_couldRegister_53 : decode cX4_couldRegister 53 = .ok (.if_icmp .ne 7, 3) := by decide +kernel
theorem dX4_couldRegister_56 : decode cX4_couldRegister 56 = .ok (.iconst 1, 1) := by decide +kernel
theorem dX4_couldRegister_57 : decode cX4_couldRegister 57 = .ok (.goto 4, 3) := by decide +kernel
theorem dX4_couldRegister_60 : decode cX4_couldRegister 60 = .ok (.iconst 0, 1) := by decide +kernel
theorem dX4_couldRegister_61 : decode cX4_couldRegister 61 = .ok (.ireturn, 1) := by decide +kernel
theorem dX4_leastSpan_0 : decode cX4_leastSpan 0 = .ok (.iload_n 0, 1) := by decide +kernel
theorem dX4_leastSpan_1 : decode cX4_leastSpan 1 = .ok (.ifCond .ne 8, 3) := by decide +kernel
theorem dX4_leastSpan_4 : decode cX4_leastSpan 4 = .ok (.bipush 14, 2) := by decide +kernel
theorem dX4_leastSpan_6 : decode cX4_leastSpan 6 = .ok (.goto 13, 3) := by decide +kernel
theorem dX4_leastSpan_9 : decode cX4_leastSpan 9 = .ok (.iload_n 0, 1) := by decide +kernel
theorem dX4_leastSpan_10 : decode cX4_leastSpan 10 = .ok (.iconst 1, 1) := by decide +kernel
theorem dX4_leastSpan_11 : decode cX4_leastSpan 11 = .ok (.if_icmp .ne 7, 3) := by decide +kernel
theorem dX4_leastSpan_14 : decode cX4_leastSpan 14 = .ok (.iconst 2, 1) := by decide +kernel
theorem dX4_leastSpan_15 : decode cX4_leastSpan 15 = .ok (.goto 4, 3) := by decide +kernel
theorem dX4_leastSpan_18 : decode cX4_leastSpan 18 = .ok (.iconst 1, 1) := by decide +kernel
theorem dX4_leastSpan_19 : decode cX4_leastSpan 19 = .ok (.ireturn, 1) := by decide +kernel
theorem dX4_lockout_0 : decode cX4_lockout 0 = .ok (.iload_n 0, 1) := by decide +kernel
theorem dX4_lockout_1 : decode cX4_lockout 1 = .ok (.ifCond .ne 9, 3) := by decide +kernel
theorem dX4_lockout_4 : decode cX4_lockout 4 = .ok (.sipush 300, 3) := by decide +kernel
theorem dX4_lockout_7 : decode cX4_lockout 7 = .ok (.goto 16, 3) := by decide +kernel
theorem dX4_lockout_10 : decode cX4_lockout 10 = .ok (.iload_n 0, 1) := by decide +kernel
theorem dX4_lockout_11 : decode cX4_lockout 11 = .ok (.iconst 1, 1) := by decide +kernel
theorem dX4_lockout_12 : decode cX4_lockout 12 = .ok (.if_icmp .ne 8, 3) := by decide +kernel
theorem dX4_lockout_15 : decode cX4_lockout 15 = .ok (.bipush 45, 2) := by decide +kernel
theorem dX4_lockout_17 : decode cX4_lockout 17 = .ok (.goto 6, 3) := by decide +kernel
theorem dX4_lockout_20 : decode cX4_lockout 20 = .ok (.sipush 170, 3) := by decide +kernel
theorem dX4_lockout_23 : decode cX4_lockout 23 = .ok (.ireturn, 1) := by decide +kernel
theorem dX4_holderAhead_0 : decode cX4_holderAhead 0 = .ok (.aload_n 0, 1) := by decide +kernel
theorem dX4_holderAhead_1 : decode cX4_holderAhead 1 = .ok (.getfield 30, 3) := by decide +kernel
theorem dX4_holderAhead_4 : decode cX4_holderAhead 4 = .ok (.invokevirtual 60, 3) := by decide +kernel
theorem dX4_holderAhead_7 : decode cX4_holderAhead 7 = .ok (.iconst 0, 1) := by decide +kernel
theorem dX4_holderAhead_8 : decode cX4_holderAhead 8 = .ok (.istore_n 2, 1) := by decide +kernel
theorem dX4_holderAhead_9 : decode cX4_holderAhead 9 = .ok (.iload_n 2, 1) := by decide +kernel
theorem dX4_holderAhead_10 : decode cX4_holderAhead 10 = .ok (.iload_n 1, 1) := by decide +kernel
theorem dX4_holderAhead_11 : decode cX4_holderAhead 11 = .ok (.if_icmp .ge 60, 3) := by decide +kernel
theorem dX4_holderAhead_14 : decode cX4_holderAhead 14 = .ok (.iload_n 2, 1) := by decide +kernel
theorem dX4_holderAhead_15 : decode cX4_holderAhead 15 = .ok (.aload_n 0, 1) := by decide +kernel
theorem dX4_holderAhead_16 : decode cX4_holderAhead 16 = .ok (.getfield 34, 3) := by decide +kernel
theorem dX4_holderAhead_19 : decode cX4_holderAhead 19 = .ok (.if_icmp .ge 52, 3) := by decide +kernel
theorem dX4_holderAhead_22 : decode cX4_holderAhead 22 = .ok (.aload_n 0, 1) := by decide +kernel
theorem dX4_holderAhead_23 : decode cX4_holderAhead 23 = .ok (.iload_n 2, 1) := by decide +kernel
theorem dX4_holderAhead_24 : decode cX4_holderAhead 24 = .ok (.invokevirtual 46, 3) := by decide +kernel
theorem dX4_holderAhead_27 : decode cX4_holderAhead 27 = .ok (.ifCond .eq 38, 3) := by decide +kernel
theorem dX4_holderAhead_30 : decode cX4_holderAhead 30 = .ok (.aload_n 0, 1) := by decide +kernel
theorem dX4_holderAhead_31 : decode cX4_holderAhead 31 = .ok (.getfield 15, 3) := by decide +kernel
theorem dX4_holderAhead_34 : decode cX4_holderAhead 34 = .ok (.iload_n 2, 1) := by decide +kernel
theorem dX4_holderAhead_35 : decode cX4_holderAhead 35 = .ok (.iaload, 1) := by decide +kernel
theorem dX4_holderAhead_36 : decode cX4_holderAhead 36 = .ok (.iconst (-1), 1) := by decide +kernel
theorem dX4_holderAhead_37 : decode cX4_holderAhead 37 = .ok (.if_icmp .eq 28, 3) := by decide +kernel
theorem dX4_holderAhead_40 : decode cX4_holderAhead 40 = .ok (.aload_n 0, 1) := by decide +kernel
theorem dX4_holderAhead_41 : decode cX4_holderAhead 41 = .ok (.getfield 30, 3) := by decide +kernel
theorem dX4_holderAhead_44 : decode cX4_holderAhead 44 = .ok (.aload_n 0, 1) := by decide +kernel
theorem dX4_holderAhead_45 : decode cX4_holderAhead 45 = .ok (.getfield 11, 3) := by decide +kernel
theorem dX4_holderAhead_48 : decode cX4_holderAhead 48 = .ok (.iload_n 2, 1) := by decide +kernel
theorem dX4_holderAhead_49 : decode cX4_holderAhead 49 = .ok (.iaload, 1) := by decide +kernel
theorem dX4_holderAhead_50 : decode cX4_holderAhead 50 = .ok (.aload_n 0, 1) := by decide +kernel
theorem dX4_holderAhead_51 : decode cX4_holderAhead 51 = .ok (.getfield 15, 3) := by decide +kernel
theorem dX4_holderAhead_54 : decode cX4_holderAhead 54 = .ok (.iload_n 2, 1) := by decide +kernel
theorem dX4_holderAhead_55 : decode cX4_holderAhead 55 = .ok (.iaload, 1) := by decide +kernel
theorem dX4_holderAhead_56 : decode cX4_holderAhead 56 = .ok (.aload_n 0, 1) := by decide +kernel
theorem dX4_holderAhead_57 : decode cX4_holderAhead 57 = .ok (.getfield 18, 3) := by decide +kernel
theorem dX4_holderAhead_60 : decode cX4_holderAhead 60 = .ok (.iload_n 2, 1) := by decide +kernel
theorem dX4_holderAhead_61 : decode cX4_holderAhead 61 = .ok (.iaload, 1) := by decide +kernel
theorem dX4_holderAhead_62 : decode cX4_holderAhead 62 = .ok (.invokevirtual 63, 3) := by decide +kernel
theorem dX4_holderAhead_65 : decode cX4_holderAhead 65 = .ok (.iinc 2 1, 3) := by decide +kernel
theorem dX4_holderAhead_68 : decode cX4_holderAhead 68 = .ok (.goto (-59), 3) := by decide +kernel
theorem dX4_holderAhead_71 : decode cX4_holderAhead 71 = .ok (.aload_n 0, 1) := by decide +kernel
theorem dX4_holderAhead_72 : decode cX4_holderAhead 72 = .ok (.getfield 30, 3) := by decide +kernel
theorem dX4_holderAhead_75 : decode cX4_holderAhead 75 = .ok (.getfield 67, 3) := by decide +kernel
theorem dX4_holderAhead_78 : decode cX4_holderAhead 78 = .ok (.ireturn, 1) := by decide +kernel
theorem dX5_init_0 : decode cX5_init 0 = .ok (.aload_n 0, 1) := by decide +kernel
theorem dX5_init_1 : decode cX5_init 1 = .ok (.invokespecial 3, 3) := by decide +kernel
theorem dX5_init_4 : decode cX5_init 4 = .ok (.aload_n 0, 1) := by decide +kernel
theorem dX5_init_5 : decode cX5_init 5 = .ok (.bipush 48, 2) := by decide +kernel
theorem dX5_init_7 : decode cX5_init 7 = .ok (.newarray .int, 2) := by decide +kernel
theorem dX5_init_9 : decode cX5_init 9 = .ok (.putfield 11, 3) := by decide +kernel
theorem dX5_init_12 : decode cX5_init 12 = .ok (.aload_n 0, 1) := by decide +kernel
theorem dX5_init_13 : decode cX5_init 13 = .ok (.bipush 12, 2) := by decide +kernel
theorem dX5_init_15 : decode cX5_init 15 = .ok (.newarray .int, 2) := by decide +kernel
theorem dX5_init_17 : decode cX5_init 17 = .ok (.putfield 15, 3) := by decide +kernel
theorem dX5_init_20 : decode cX5_init 20 = .ok (.aload_n 0, 1) := by decide +kernel
theorem dX5_init_21 : decode cX5_init 21 = .ok (.iconst 0, 1) := by decide +kernel
theorem dX5_init_22 : decode cX5_init 22 = .ok (.putfield 18, 3) := by decide +kernel
theorem dX5_init_25 : decode cX5_init 25 = .ok (.aload_n 0, 1) := by decide +kernel
theorem dX5_init_26 : decode cX5_init 26 = .ok (.iload_n 1, 1) := by decide +kernel
theorem dX5_init_27 : decode cX5_init 27 = .ok (.putfield 22, 3) := by decide +kernel
theorem dX5_init_30 : decode cX5_init 30 = .ok (.aload_n 0, 1) := by decide +kernel
theorem dX5_init_31 : decode cX5_init 31 = .ok (.iload_n 2, 1) := by decide +kernel
theorem dX5_init_32 : decode cX5_init 32 = .ok (.putfield 25, 3) := by decide +kernel
theorem dX5_init_35 : decode cX5_init 35 = .ok (.return_, 1) := by decide +kernel
theorem dX5_isIn_0 : decode cX5_isIn 0 = .ok (.iload_n 1, 1) := by decide +kernel
theorem dX5_isIn_1 : decode cX5_isIn 1 = .ok (.ifCond .lt 21, 3) := by decide +kernel
theorem dX5_isIn_4 : decode cX5_isIn 4 = .ok (.iload_n 1, 1) := by decide +kernel
theorem dX5_isIn_5 : decode cX5_isIn 5 = .ok (.bipush 12, 2) := by decide +kernel
theorem dX5_isIn_7 : decode cX5_isIn 7 = .ok (.if_icmp .ge 15, 3) := by decide +kernel
theorem dX5_isIn_10 : decode cX5_isIn 10 = .ok (.iload_n 0, 1) := by decide +kernel
theorem dX5_isIn_11 : decode cX5_isIn 11 = .ok (.iconst 1, 1) := by decide +kernel
theorem dX5_isIn_12 : decode cX5_isIn 12 = .ok (.iload_n 1, 1) := by decide +kernel
theorem dX5_isIn_13 : decode cX5_isIn 13 = .ok (.ishl, 1) := by decide +kernel
theorem dX5_isIn_14 : decode cX5_isIn 14 = .ok (.iand, 1) := by decide +kernel
theorem dX5_isIn_15 : decode cX5_isIn 15 = .ok (.ifCond .eq 7, 3) := by decide +kernel
theorem dX5_isIn_18 : decode cX5_isIn 18 = .ok (.iconst 1, 1) := by decide +kernel
theorem dX5_isIn_19 : decode cX5_isIn 19 = .ok (.goto 4, 3) := by decide +kernel
theorem dX5_isIn_22 : decode cX5_isIn 22 = .ok (.iconst 0, 1) := by decide +kernel
theorem dX5_isIn_23 : decode cX5_isIn 23 = .ok (.ireturn, 1) := by decide +kernel
theorem dX5_has_0 : decode cX5_has 0 = .ok (.aload_n 0, 1) := by decide +kernel
theorem dX5_has_1 : decode cX5_has 1 = .ok (.getfield 25, 3) := by decide +kernel
theorem dX5_has_4 : decode cX5_has 4 = .ok (.iload_n 1, 1) := by decide +kernel
theorem dX5_has_5 : decode cX5_has 5 = .ok (.invokestatic 28, 3) := by decide +kernel
theorem dX5_has_8 : decode cX5_has 8 = .ok (.ireturn, 1) := by decide +kernel
theorem dX5_isWithdrawn_0 : decode cX5_isWithdrawn 0 = .ok (.aload_n 0, 1) := by decide +kernel
theorem dX5_isWithdrawn_1 : decode cX5_isWithdrawn 1 = .ok (.getfield 18, 3) := by decide +kernel
theorem dX5_isWithdrawn_4 : decode cX5_isWithdrawn 4 = .ok (.iload_n 1, 1) := by decide +kernel
theorem dX5_isWithdrawn_5 : decode cX5_isWithdrawn 5 = .ok (.invokestatic 28, 3) := by decide +kernel
theorem dX5_isWithdrawn_8 : decode cX5_isWithdrawn 8 = .ok (.ireturn, 1) := by decide +kernel
theorem dX5_markWithdrawn_0 : decode cX5_markWithdrawn 0 = .ok (.aload_n 0, 1) := by decide +kernel
theorem dX5_markWithdrawn_1 : decode cX5_markWithdrawn 1 = .ok (.iload_n 1, 1) := by decide +kernel
theorem dX5_markWithdrawn_2 : decode cX5_markWithdrawn 2 = .ok (.invokevirtual 32, 3) := by decide +kernel
theorem dX5_markWithdrawn_5 : decode cX5_markWithdrawn 5 = .ok (.ifCond .eq 15, 3) := by decide +kernel
theorem dX5_markWithdrawn_8 : decode cX5_markWithdrawn 8 = .ok (.aload_n 0, 1) := by decide +kernel
theorem dX5_markWithdrawn_9 : decode cX5_markWithdrawn 9 = .ok (.dup, 1) := by decide +kernel
theorem dX5_markWithdrawn_10 : decode cX5_markWithdrawn 10 = .ok (.getfield 18, 3) := by decide +kernel
theorem dX5_markWithdrawn_13 : decode cX5_markWithdrawn 13 = .ok (.iconst 1, 1) := by decide +kernel
theorem dX5_markWithdrawn_14 : decode cX5_markWithdrawn 14 = .ok (.iload_n 1, 1) := by decide +kernel
theorem dX5_markWithdrawn_15 : decode cX5_markWithdrawn 15 = .ok (.ishl, 1) := by decide +kernel
theorem dX5_markWithdrawn_16 : decode cX5_markWithdrawn 16 = .ok (.ior, 1) := by decide +kernel
theorem dX5_markWithdrawn_17 : decode cX5_markWithdrawn 17 = .ok (.putfield 18, 3) := by decide +kernel
theorem dX5_markWithdrawn_20 : decode cX5_markWithdrawn 20 = .ok (.return_, 1) := by decide +kernel
theorem dX5_counts_0 : decode cX5_counts 0 = .ok (.aload_n 1, 1) := by decide +kernel
theorem dX5_counts_1 : decode cX5_counts 1 = .ok (.getfield 36, 3) := by decide +kernel
theorem dX5_counts_4 : decode cX5_counts 4 = .ok (.aload_n 0, 1) := by decide +kernel
theorem dX5_counts_5 : decode cX5_counts 5 = .ok (.getfield 22, 3) := by decide +kernel
theorem dX5_counts_8 : decode cX5_counts 8 = .ok (.if_icmp .ne 42, 3) := by decide +kernel
theorem dX5_counts_11 : decode cX5_counts 11 = .ok (.aload_n 1, 1) := by decide +kernel
theorem dX5_counts_12 : decode cX5_counts 12 = .ok (.invokevirtual 41, 3) := by decide +kernel
theorem dX5_counts_15 : decode cX5_counts 15 = .ok (.ifCond .eq 35, 3) := by decide +kernel
theorem dX5_counts_18 : decode cX5_counts 18 = .ok (.aload_n 0, 1) := by decide +kernel
theorem dX5_counts_19 : decode cX5_counts 19 = .ok (.aload_n 1, 1) := by decide +kernel
theorem dX5_counts_20 : decode cX5_counts 20 = .ok (.getfield 45, 3) := by decide +kernel
theorem dX5_counts_23 : decode cX5_counts 23 = .ok (.getfield 49, 3) := by decide +kernel
theorem dX5_counts_26 : decode cX5_counts 26 = .ok (.invokevirtual 54, 3) := by decide +kernel
theorem dX5_counts_29 : decode cX5_counts 29 = .ok (.ifCond .ne 21, 3) := by decide +kernel
theorem dX5_counts_32 : decode cX5_counts 32 = .ok (.aload_n 0, 1) := by decide +kernel
theorem dX5_counts_33 : decode cX5_counts 33 = .ok (.aload_n 1, 1) := by decide +kernel
theorem dX5_counts_34 : decode cX5_counts 34 = .ok (.getfield 57, 3) := by decide +kernel
theorem dX5_counts_37 : decode cX5_counts 37 = .ok (.getfield 49, 3) := by decide +kernel
theorem dX5_counts_40 : decode cX5_counts 40 = .ok (.invokevirtual 54, 3) := by decide +kernel
theorem dX5_counts_43 : decode cX5_counts 43 = .ok (.ifCond .ne 7, 3) := by decide +kernel
theorem dX5_counts_46 : decode cX5_counts 46 = .ok (.iconst 1, 1) := by decide +kernel
theorem dX5_counts_47 : decode cX5_counts 47 = .ok (.goto 4, 3) := by decide +kernel
theorem dX5_counts_50 : decode cX5_counts 50 = .ok (.iconst 0, 1) := by decide +kernel
theorem dX5_counts_51 : decode cX5_counts 51 = .ok (.ireturn, 1) := by decide +kernel
theorem dX5_enter_0 : decode cX5_enter 0 = .ok (.iconst 0, 1) := by decide +kernel
theorem dX5_enter_1 : decode cX5_enter 1 = .ok (.istore_n 3, 1) := by decide +kernel
theorem dX5_enter_2 : decode cX5_enter 2 = .ok (.iload_n 3, 1) := by decide +kernel
theorem dX5_enter_3 : decode cX5_enter 3 = .ok (.iconst 4, 1) := by decide +kernel
theorem dX5_enter_4 : decode cX5_enter 4 = .ok (.if_icmp .ge 49, 3) := by decide +kernel
theorem dX5_enter_7 : decode cX5_enter 7 = .ok (.aload_n 0, 1) := by decide +kernel
theorem dX5_enter_8 : decode cX5_enter 8 = .ok (.aload_n 1, 1) := by decide +kernel
theorem dX5_enter_9 : decode cX5_enter 9 = .ok (.getfield 45, 3) := by decide +kernel
theorem dX5_enter_12 : decode cX5_enter 12 = .ok (.getfield 49, 3) := by decide +kernel
theorem dX5_enter_15 : decode cX5_enter 15 = .ok (.iload_n 3, 1) := by decide +kernel
theorem dX5_enter_16 : decode cX5_enter 16 = .ok (.iload_n 2, 1) := by decide +kernel
theorem dX5_enter_17 : decode cX5_enter 17 = .ok (.aload_n 1, 1) := by decide +kernel
theorem dX5_enter_18 : decode cX5_enter 18 = .ok (.iconst 0, 1) := by decide +kernel
theorem dX5_enter_19 : decode cX5_enter 19 = .ok (.iload_n 3, 1) := by decide +kernel
theorem dX5_enter_20 : decode cX5_enter 20 = .ok (.invokevirtual 60, 3) := by decide +kernel
theorem dX5_enter_23 : decode cX5_enter 23 = .ok (.imul, 1) := by decide +kernel
theorem dX5_enter_24 : decode cX5_enter 24 = .ok (.invokevirtual 64, 3) := by decide +kernel
theorem dX5_enter_27 : decode cX5_enter 27 = .ok (.aload_n 0, 1) := by decide +kernel
theorem dX5_enter_28 : decode cX5_enter 28 = .ok (.aload_n 1, 1) := by decide +kernel
theorem dX5_enter_29 : decode cX5_enter 29 = .ok (.getfield 57, 3) := by decide +kernel
theorem dX5_enter_32 : decode cX5_enter 32 = .ok (.getfield 49, 3) := by decide +kernel
theorem dX5_enter_35 : decode cX5_enter 35 = .ok (.iload_n 3, 1) := by decide +kernel
theorem dX5_enter_36 : decode cX5_enter 36 = .ok (.iload_n 2, 1) := by decide +kernel
theorem dX5_enter_37 : decode cX5_enter 37 = .ok (.aload_n 1, 1) := by decide +kernel
theorem dX5_enter_38 : decode cX5_enter 38 = .ok (.iconst 1, 1) := by decide +kernel
theorem dX5_enter_39 : decode cX5_enter 39 = .ok (.iload_n 3, 1) := by decide +kernel
theorem dX5_enter_40 : decode cX5_enter 40 = .ok (.invokevirtual 60, 3) := by decide +kernel
theorem dX5_enter_43 : decode cX5_enter 43 = .ok (.imul, 1) := by decide +kernel
theorem dX5_enter_44 : decode cX5_enter 44 = .ok (.invokevirtual 64, 3) := by decide +kernel
theorem dX5_enter_47 : decode cX5_enter 47 = .ok (.iinc 3 1, 3) := by decide +kernel
theorem dX5_enter_50 : decode cX5_enter 50 = .ok (.goto (-48), 3) := by decide +kernel
theorem dX5_enter_53 : decode cX5_enter 53 = .ok (.return_, 1) := by decide +kernel
theorem dX5_addTo_0 : decode cX5_addTo 0 = .ok (.iload_n 1, 1) := by decide +kernel
theorem dX5_addTo_1 : decode cX5_addTo 1 = .ok (.iconst 4, 1) := by decide +kernel
theorem dX5_addTo_2 : decode cX5_addTo 2 = .ok (.imul, 1) := by decide +kernel
theorem dX5_addTo_3 : decode cX5_addTo 3 = .ok (.iload_n 2, 1) := by decide +kernel
theorem dX5_addTo_4 : decode cX5_addTo 4 = .ok (.iadd, 1) := by decide +kernel
theorem dX5_addTo_5 : decode cX5_addTo 5 = .ok (.istore 4, 2) := by decide +kernel
theorem dX5_addTo_7 : decode cX5_addTo 7 = .ok (.iload 4, 2) := by decide +kernel
theorem dX5_addTo_9 : decode cX5_addTo 9 = .ok (.ifCond .lt 24, 3) := by decide +kernel
theorem dX5_addTo_12 : decode cX5_addTo 12 = .ok (.iload 4, 2) := by decide +kernel
theorem dX5_addTo_14 : decode cX5_addTo 14 = .ok (.aload_n 0, 1) := by decide +kernel
theorem dX5_addTo_15 : decode cX5_addTo 15 = .ok (.getfield 11, 3) := by decide +kernel
theorem dX5_addTo_18 : decode cX5_addTo 18 = .ok (.arraylength, 1) := by decide +kernel
theorem dX5_addTo_19 : decode cX5_addTo 19 = .ok (.if_icmp .ge 14, 3) := by decide +kernel
theorem dX5_addTo_22 : decode cX5_addTo 22 = .ok (.aload_n 0, 1) := by decide +kernel
theorem dX5_addTo_23 : decode cX5_addTo 23 = .ok (.getfield 11, 3) := by decide +kernel
theorem dX5_addTo_26 : decode cX5_addTo 26 = .ok (.iload 4, 2) := by decide +kernel
theorem dX5_addTo_28 : decode cX5_addTo 28 = .ok (.dup2, 1) := by decide +kernel
theorem dX5_addTo_29 : decode cX5_addTo 29 = .ok (.iaload, 1) := by decide +kernel
theorem dX5_addTo_30 : decode cX5_addTo 30 = .ok (.iload_n 3, 1) := by decide +kernel
theorem dX5_addTo_31 : decode cX5_addTo 31 = .ok (.iadd, 1) := by decide +kernel
theorem dX5_addTo_32 : decode cX5_addTo 32 = .ok (.iastore, 1) := by decide +kernel
theorem dX5_addTo_33 : decode cX5_addTo 33 = .ok (.return_, 1) := by decide +kernel
theorem dX5_kept_0 : decode cX5_kept 0 = .ok (.iload_n 1, 1) := by decide +kernel
theorem dX5_kept_1 : decode cX5_kept 1 = .ok (.iconst 4, 1) := by decide +kernel
theorem dX5_kept_2 : decode cX5_kept 2 = .ok (.imul, 1) := by decide +kernel
theorem dX5_kept_3 : decode cX5_kept 3 = .ok (.iload_n 2, 1) := by decide +kernel
theorem dX5_kept_4 : decode cX5_kept 4 = .ok (.iadd, 1) := by decide +kernel
theorem dX5_kept_5 : decode cX5_kept 5 = .ok (.istore_n 3, 1) := by decide +kernel
theorem dX5_kept_6 : decode cX5_kept 6 = .ok (.iload_n 3, 1) := by decide +kernel
theorem dX5_kept_7 : decode cX5_kept 7 = .ok (.ifCond .lt 21, 3) := by decide +kernel
theorem dX5_kept_10 : decode cX5_kept 10 = .ok (.iload_n 3, 1) := by decide +kernel
theorem dX5_kept_11 : decode cX5_kept 11 = .ok (.aload_n 0, 1) := by decide +kernel
theorem dX5_kept_12 : decode cX5_kept 12 = .ok (.getfield 11, 3) := by decide +kernel
theorem dX5_kept_15 : decode cX5_kept 15 = .ok (.arraylength, 1) := by decide +kernel
theorem dX5_kept_16 : decode cX5_kept 16 = .ok (.if_icmp .ge 12, 3) := by decide +kernel
theorem dX5_kept_19 : decode cX5_kept 19 = .ok (.aload_n 0, 1) := by decide +kernel
theorem dX5_kept_20 : decode cX5_kept 20 = .ok (.getfield 11, 3) := by decide +kernel
theorem dX5_kept_23 : decode cX5_kept 23 = .ok (.iload_n 3, 1) := by decide +kernel
theorem dX5_kept_24 : decode cX5_kept 24 = .ok (.iaload, 1) := by decide +kernel
theorem dX5_kept_25 : decode cX5_kept 25 = .ok (.goto 4, 3) := by decide +kernel
theorem dX5_kept_28 : decode cX5_kept 28 = .ok (.iconst 0, 1) := by decide +kernel
theorem dX5_kept_29 : decode cX5_kept 29 = .ok (.ireturn, 1) := by decide +kernel
theorem dX5_isRanked_0 : decode cX5_isRanked 0 = .ok (.aload_n 0, 1) := by decide +kernel
theorem dX5_isRanked_1 : decode cX5_isRanked 1 = .ok (.iload_n 1, 1) := by decide +kernel
theorem dX5_isRanked_2 : decode cX5_isRanked 2 = .ok (.invokevirtual 32, 3) := by decide +kernel
theorem dX5_isRanked_5 : decode cX5_isRanked 5 = .ok (.ifCond .eq 15, 3) := by decide +kernel
theorem dX5_isRanked_8 : decode cX5_isRanked 8 = .ok (.aload_n 0, 1) := by decide +kernel
theorem dX5_isRanked_9 : decode cX5_isRanked 9 = .ok (.iload_n 1, 1) := by decide +kernel
theorem dX5_isRanked_10 : decode cX5_isRanked 10 = .ok (.invokevirtual 54, 3) := by decide +kernel
theorem dX5_isRanked_13 : decode cX5_isRanked 13 = .ok (.ifCond .ne 7, 3) := by decide +kernel
theorem dX5_isRanked_16 : decode cX5_isRanked 16 = .ok (.iconst 1, 1) := by decide +kernel
theorem dX5_isRanked_17 : decode cX5_isRanked 17 = .ok (.goto 4, 3) := by decide +kernel
theorem dX5_isRanked_20 : decode cX5_isRanked 20 = .ok (.iconst 0, 1) := by decide +kernel
theorem dX5_isRanked_21 : decode cX5_isRanked 21 = .ok (.ireturn, 1) := by decide +kernel
theorem dX5_rankedCount_0 : decode cX5_rankedCount 0 = .ok (.aload_n 0, 1) := by decide +kernel
theorem dX5_rankedCount_1 : decode cX5_rankedCount 1 = .ok (.getfield 25, 3) := by decide +kernel
theorem dX5_rankedCount_4 : decode cX5_rankedCount 4 = .ok (.aload_n 0, 1) := by decide +kernel
theorem dX5_rankedCount_5 : decode cX5_rankedCount 5 = .ok (.getfield 18, 3) := by decide +kernel
theorem dX5_rankedCount_8 : decode cX5_rankedCount 8 = .ok (.iconst (-1), 1) := by decide +kernel
theorem dX5_rankedCount_9 : decode cX5_rankedCount 9 = .ok (.ixor, 1) := by decide +kernel
theorem dX5_rankedCount_10 : decode cX5_rankedCount 10 = .ok (.iand, 1) := by decide +kernel
theorem dX5_rankedCount_11 : decode cX5_rankedCount 11 = .ok (.invokestatic 68, 3) := by decide +kernel
theorem dX5_rankedCount_14 : decode cX5_rankedCount 14 = .ok (.ireturn, 1) := by decide +kernel
theorem dX5_orderRanked_0 : decode cX5_orderRanked 0 = .ok (.iconst 0, 1) := by decide +kernel
theorem dX5_orderRanked_1 : decode cX5_orderRanked 1 = .ok (.istore_n 1, 1) := by decide +kernel
theorem dX5_orderRanked_2 : decode cX5_orderRanked 2 = .ok (.iconst 0, 1) := by decide +kernel
theorem dX5_orderRanked_3 : decode cX5_orderRanked 3 = .ok (.istore_n 2, 1) := by decide +kernel
theorem dX5_orderRanked_4 : decode cX5_orderRanked 4 = .ok (.iload_n 2, 1) := by decide +kernel
theorem dX5_orderRanked_5 : decode cX5_orderRanked 5 = .ok (.bipush 12, 2) := by decide +kernel
theorem dX5_orderRanked_7 : decode cX5_orderRanked 7 = .ok (.if_icmp .ge 33, 3) := by decide +kernel
theorem dX5_orderRanked_10 : decode cX5_orderRanked 10 = .ok (.aload_n 0, 1) := by decide +kernel
theorem dX5_orderRanked_11 : decode cX5_orderRanked 11 = .ok (.getfield 15, 3) := by decide +kernel
theorem dX5_orderRanked_14 : decode cX5_orderRanked 14 = .ok (.iload_n 2, 1) := by decide +kernel
theorem dX5_orderRanked_15 : decode cX5_orderRanked 15 = .ok (.iconst (-1), 1) := by decide +kernel
theorem dX5_orderRanked_16 : decode cX5_orderRanked 16 = .ok (.iastore, 1) := by decide +kernel
theorem dX5_orderRanked_17 : decode cX5_orderRanked 17 = .ok (.aload_n 0, 1) := by decide +kernel
theorem dX5_orderRanked_18 : decode cX5_orderRanked 18 = .ok (.iload_n 2, 1) := by decide +kernel
theorem dX5_orderRanked_19 : decode cX5_orderRanked 19 = .ok (.invokevirtual 74, 3) := by decide +kernel
theorem dX5_orderRanked_22 : decode cX5_orderRanked 22 = .ok (.ifCond .eq 12, 3) := by decide +kernel
theorem dX5_orderRanked_25 : decode cX5_orderRanked 25 = .ok (.aload_n 0, 1) := by decide +kernel
theorem dX5_orderRanked_26 : decode cX5_orderRanked 26 = .ok (.iload_n 2, 1) := by decide +kernel
theorem dX5_orderRanked_27 : decode cX5_orderRanked 27 = .ok (.iload_n 1, 1) := by decide +kernel
theorem dX5_orderRanked_28 : decode cX5_orderRanked 28 = .ok (.invokevirtual 77, 3) := by decide +kernel
theorem dX5_orderRanked_31 : decode cX5_orderRanked 31 = .ok (.iinc 1 1, 3) := by decide +kernel
theorem dX5_orderRanked_34 : decode cX5_orderRanked 34 = .ok (.iinc 2 1, 3) := by decide +kernel
theorem dX5_orderRanked_37 : decode cX5_orderRanked 37 = .ok (.goto (-33), 3) := by decide +kernel
theorem dX5_orderRanked_40 : decode cX5_orderRanked 40 = .ok (.return_, 1) := by decide +kernel
theorem dX5_insert_0 : decode cX5_insert 0 = .ok (.iload_n 2, 1) := by decide +kernel
theorem dX5_insert_1 : decode cX5_insert 1 = .ok (.istore_n 3, 1) := by decide +kernel
theorem dX5_insert_2 : decode cX5_insert 2 = .ok (.iload_n 3, 1) := by decide +kernel
theorem dX5_insert_3 : decode cX5_insert 3 = .ok (.ifCond .le 45, 3) := by decide +kernel
theorem dX5_insert_6 : decode cX5_insert 6 = .ok (.iload_n 3, 1) := by decide +kernel
theorem dX5_insert_7 : decode cX5_insert 7 = .ok (.bipush 12, 2) := by decide +kernel
theorem dX5_insert_9 : decode cX5_insert 9 = .ok (.if_icmp .ge 39, 3) := by decide +kernel
theorem dX5_insert_12 : decode cX5_insert 12 = .ok (.aload_n 0, 1) := by decide +kernel
theorem dX5_insert_13 : decode cX5_insert 13 = .ok (.iload_n 1, 1) := by decide +kernel
theorem dX5_insert_14 : decode cX5_insert 14 = .ok (.aload_n 0, 1) := by decide +kernel
theorem dX5_insert_15 : decode cX5_insert 15 = .ok (.getfield 15, 3) := by decide +kernel
theorem dX5_insert_18 : decode cX5_insert 18 = .ok (.iload_n 3, 1) := by decide +kernel
theorem dX5_insert_19 : decode cX5_insert 19 = .ok (.iconst 1, 1) := by decide +kernel
theorem dX5_insert_20 : decode cX5_insert 20 = .ok (.isub, 1) := by decide +kernel
theorem dX5_insert_21 : decode cX5_insert 21 = .ok (.iaload, 1) := by decide +kernel
theorem dX5_insert_22 : decode cX5_insert 22 = .ok (.invokevirtual 81, 3) := by decide +kernel
theorem dX5_insert_25 : decode cX5_insert 25 = .ok (.ifCond .eq 23, 3) := by decide +kernel
theorem dX5_insert_28 : decode cX5_insert 28 = .ok (.aload_n 0, 1) := by decide +kernel
theorem dX5_insert_29 : decode cX5_insert 29 = .ok (.getfield 15, 3) := by decide +kernel
theorem dX5_insert_32 : decode cX5_insert 32 = .ok (.iload_n 3, 1) := by decide +kernel
theorem dX5_insert_33 : decode cX5_insert 33 = .ok (.aload_n 0, 1) := by decide +kernel
theorem dX5_insert_34 : decode cX5_insert 34 = .ok (.getfield 15, 3) := by decide +kernel
theorem dX5_insert_37 : decode cX5_insert 37 = .ok (.iload_n 3, 1) := by decide +kernel
theorem dX5_insert_38 : decode cX5_insert 38 = .ok (.iconst 1, 1) := by decide +kernel
theorem dX5_insert_39 : decode cX5_insert 39 = .ok (.isub, 1) := by decide +kernel
theorem dX5_insert_40 : decode cX5_insert 40 = .ok (.iaload, 1) := by decide +kernel
theorem dX5_insert_41 : decode cX5_insert 41 = .ok (.iastore, 1) := by decide +kernel
theorem dX5_insert_42 : decode cX5_insert 42 = .ok (.iinc 3 (-1), 3) := by decide +kernel
theorem dX5_insert_45 : decode cX5_insert 45 = .ok (.goto (-43), 3) := by decide +kernel
theorem dX5_insert_48 : decode cX5_insert 48 = .ok (.iload_n 3, 1) := by decide +kernel
theorem dX5_insert_49 : decode cX5_insert 49 = .ok (.ifCond .lt 16, 3) := by decide +kernel
theorem dX5_insert_52 : decode cX5_insert 52 = .ok (.iload_n 3, 1) := by decide +kernel
theorem dX5_insert_53 : decode cX5_insert 53 = .ok (.bipush 12, 2) := by decide +kernel
theorem dX5_insert_55 : decode cX5_insert 55 = .ok (.if_icmp .ge 10, 3) := by decide +kernel
theorem dX5_insert_58 : decode cX5_insert 58 = .ok (.aload_n 0, 1) := by decide +kernel
theorem dX5_insert_59 : decode cX5_insert 59 = .ok (.getfield 15, 3) := by decide +kernel
theorem dX5_insert_62 : decode cX5_insert 62 = .ok (.iload_n 3, 1) := by decide +kernel
theorem dX5_insert_63 : decode cX5_insert 63 = .ok (.iload_n 1, 1) := by decide +kernel
theorem dX5_insert_64 : decode cX5_insert 64 = .ok (.iastore, 1) := by decide +kernel
theorem dX5_insert_65 : decode cX5_insert 65 = .ok (.return_, 1) := by decide +kernel
theorem dX5_rankedAt_0 : decode cX5_rankedAt 0 = .ok (.iload_n 1, 1) := by decide +kernel
theorem dX5_rankedAt_1 : decode cX5_rankedAt 1 = .ok (.ifCond .lt 18, 3) := by decide +kernel
theorem dX5_rankedAt_4 : decode cX5_rankedAt 4 = .ok (.iload_n 1, 1) := by decide +kernel
theorem dX5_rankedAt_5 : decode cX5_rankedAt 5 = .ok (.bipush 12, 2) := by decide +kernel
theorem dX5_rankedAt_7 : decode cX5_rankedAt 7 = .ok (.if_icmp .ge 12, 3) := by decide +kernel
theorem dX5_rankedAt_10 : decode cX5_rankedAt 10 = .ok (.aload_n 0, 1) := by decide +kernel
theorem dX5_rankedAt_11 : decode cX5_rankedAt 11 = .ok (.getfield 15, 3) := by decide +kernel
theorem dX5_rankedAt_14 : decode cX5_rankedAt 14 = .ok (.iload_n 1, 1) := by decide +kernel
theorem dX5_rankedAt_15 : decode cX5_rankedAt 15 = .ok (.iaload, 1) := by decide +kernel
theorem dX5_rankedAt_16 : decode cX5_rankedAt 16 = .ok (.goto 4, 3) := by decide +kernel
theorem dX5_rankedAt_19 : decode cX5_rankedAt 19 = .ok (.iconst (-1), 1) := by decide +kernel
theorem dX5_rankedAt_20 : decode cX5_rankedAt 20 = .ok (.ireturn, 1) := by decide +kernel
theorem dX5_isAhead_0 : decode cX5_isAhead 0 = .ok (.aload_n 0, 1) := by decide +kernel
theorem dX5_isAhead_1 : decode cX5_isAhead 1 = .ok (.iload_n 1, 1) := by decide +kernel
theorem dX5_isAhead_2 : decode cX5_isAhead 2 = .ok (.iconst 1, 1) := by decide +kernel
theorem dX5_isAhead_3 : decode cX5_isAhead 3 = .ok (.invokevirtual 84, 3) := by decide +kernel
theorem dX5_isAhead_6 : decode cX5_isAhead 6 = .ok (.iconst 1, 1) := by decide +kernel
theorem dX5_isAhead_7 : decode cX5_isAhead 7 = .ok (.aload_n 0, 1) := by decide +kernel
theorem dX5_isAhead_8 : decode cX5_isAhead 8 = .ok (.iload_n 2, 1) := by decide +kernel
theorem dX5_isAhead_9 : decode cX5_isAhead 9 = .ok (.iconst 0, 1) := by decide +kernel
theorem dX5_isAhead_10 : decode cX5_isAhead 10 = .ok (.invokevirtual 84, 3) := by decide +kernel
theorem dX5_isAhead_13 : decode cX5_isAhead 13 = .ok (.invokestatic 87, 3) := by decide +kernel
theorem dX5_isAhead_16 : decode cX5_isAhead 16 = .ok (.imul, 1) := by decide +kernel
theorem dX5_isAhead_17 : decode cX5_isAhead 17 = .ok (.istore_n 3, 1) := by decide +kernel
theorem dX5_isAhead_18 : decode cX5_isAhead 18 = .ok (.aload_n 0, 1) := by decide +kernel
theorem dX5_isAhead_19 : decode cX5_isAhead 19 = .ok (.iload_n 2, 1) := by decide +kernel
theorem dX5_isAhead_20 : decode cX5_isAhead 20 = .ok (.iconst 1, 1) := by decide +kernel
theorem dX5_isAhead_21 : decode cX5_isAhead 21 = .ok (.invokevirtual 84, 3) := by decide +kernel
theorem dX5_isAhead_24 : decode cX5_isAhead 24 = .ok (.iconst 1, 1) := by decide +kernel
theorem dX5_isAhead_25 : decode cX5_isAhead 25 = .ok (.aload_n 0, 1) := by decide +kernel
theorem dX5_isAhead_26 : decode cX5_isAhead 26 = .ok (.iload_n 1, 1) := by decide +kernel
theorem dX5_isAhead_27 : decode cX5_isAhead 27 = .ok (.iconst 0, 1) := by decide +kernel
theorem dX5_isAhead_28 : decode cX5_isAhead 28 = .ok (.invokevirtual 84, 3) := by decide +kernel
theorem dX5_isAhead_31 : decode cX5_isAhead 31 = .ok (.invokestatic 87, 3) := by decide +kernel
theorem dX5_isAhead_34 : decode cX5_isAhead 34 = .ok (.imul, 1) := by decide +kernel
theorem dX5_isAhead_35 : decode cX5_isAhead 35 = .ok (.istore 4, 2) := by decide +kernel
theorem dX5_isAhead_37 : decode cX5_isAhead 37 = .ok (.iload_n 3, 1) := by decide +kernel
theorem dX5_isAhead_38 : decode cX5_isAhead 38 = .ok (.iload 4, 2) := by decide +kernel
theorem dX5_isAhead_40 : decode cX5_isAhead 40 = .ok (.if_icmp .eq 15, 3) := by decide +kernel
theorem dX5_isAhead_43 : decode cX5_isAhead 43 = .ok (.iload_n 3, 1) := by decide +kernel
theorem dX5_isAhead_44 : decode cX5_isAhead 44 = .ok (.iload 4, 2) := by decide +kernel
theorem dX5_isAhead_46 : decode cX5_isAhead 46 = .ok (.if_icmp .le 7, 3) := by decide +kernel
theorem dX5_isAhead_49 : decode cX5_isAhead 49 = .ok (.iconst 1, 1) := by decide +kernel
theorem dX5_isAhead_50 : decode cX5_isAhead 50 = .ok (.goto 4, 3) := by decide +kernel
theorem dX5_isAhead_53 : decode cX5_isAhead 53 = .ok (.iconst 0, 1) := by decide +kernel
theorem dX5_isAhead_54 : decode cX5_isAhead 54 = .ok (.ireturn, 1) := by decide +kernel
theorem dX5_isAhead_55 : decode cX5_isAhead 55 = .ok (.aload_n 0, 1) := by decide +kernel
theorem dX5_isAhead_56 : decode cX5_isAhead 56 = .ok (.iload_n 1, 1) := by decide +kernel
theorem dX5_isAhead_57 : decode cX5_isAhead 57 = .ok (.invokevirtual 92, 3) := by decide +kernel
theorem dX5_isAhead_60 : decode cX5_isAhead 60 = .ok (.aload_n 0, 1) := by decide +kernel
theorem dX5_isAhead_61 : decode cX5_isAhead 61 = .ok (.iload_n 2, 1) := by decide +kernel
theorem dX5_isAhead_62 : decode cX5_isAhead 62 = .ok (.invokevirtual 92, 3) := by decide +kernel
theorem dX5_isAhead_65 : decode cX5_isAhead 65 = .ok (.if_icmp .eq 22, 3) := by decide +kernel
theorem dX5_isAhead_68 : decode cX5_isAhead 68 = .ok (.aload_n 0, 1) := by decide +kernel
theorem dX5_isAhead_69 : decode cX5_isAhead 69 = .ok (.iload_n 1, 1) := by decide +kernel
theorem dX5_isAhead_70 : decode cX5_isAhead 70 = .ok (.invokevirtual 92, 3) := by decide +kernel
theorem dX5_isAhead_73 : decode cX5_isAhead 73 = .ok (.aload_n 0, 1) := by decide +kernel
theorem dX5_isAhead_74 : decode cX5_isAhead 74 = .ok (.iload_n 2, 1) := by decide +kernel
theorem dX5_isAhead_75 : decode cX5_isAhead 75 = .ok (.invokevirtual 92, 3) := by decide +kernel
theorem dX5_isAhead_78 : decode cX5_isAhead 78 = .ok (.if_icmp .le 7, 3) := by decide +kernel
theorem dX5_isAhead_81 : decode cX5_isAhead 81 = .ok (.iconst 1, 1) := by decide +kernel
theorem dX5_isAhead_82 : decode cX5_isAhead 82 = .ok (.goto 4, 3) := by decide +kernel
theorem dX5_isAhead_85 : decode cX5_isAhead 85 = .ok (.iconst 0, 1) := by decide +kernel
theorem dX5_isAhead_86 : decode cX5_isAhead 86 = .ok (.ireturn, 1) := by decide +kernel
theorem dX5_isAhead_87 : decode cX5_isAhead 87 = .ok (.aload_n 0, 1) := by decide +kernel
theorem dX5_isAhead_88 : decode cX5_isAhead 88 = .ok (.iload_n 1, 1) := by decide +kernel
theorem dX5_isAhead_89 : decode cX5_isAhead 89 = .ok (.iconst 2, 1) := by decide +kernel
theorem dX5_isAhead_90 : decode cX5_isAhead 90 = .ok (.invokevirtual 84, 3) := by decide +kernel
theorem dX5_isAhead_93 : decode cX5_isAhead 93 = .ok (.aload_n 0, 1) := by decide +kernel
theorem dX5_isAhead_94 : decode cX5_isAhead 94 = .ok (.iload_n 2, 1) := by decide +kernel
theorem dX5_isAhead_95 : decode cX5_isAhead 95 = .ok (.iconst 2, 1) := by decide +kernel
theorem dX5_isAhead_96 : decode cX5_isAhead 96 = .ok (.invokevirtual 84, 3) := by decide +kernel
theorem dX5_isAhead_99 : decode cX5_isAhead 99 = .ok (.if_icmp .eq 24, 3) := by decide +kernel
theorem dX5_isAhead_102 : decode cX5_isAhead 102 = .ok (.aload_n 0, 1) := by decide +kernel
theorem dX5_isAhead_103 : decode cX5_isAhead 103 = .ok (.iload_n 1, 1) := by decide +kernel
theorem dX5_isAhead_104 : decode cX5_isAhead 104 = .ok (.iconst 2, 1) := by decide +kernel
theorem dX5_isAhead_105 : decode cX5_isAhead 105 = .ok (.invokevirtual 84, 3) := by decide +kernel
theorem dX5_isAhead_108 : decode cX5_isAhead 108 = .ok (.aload_n 0, 1) := by decide +kernel
theorem dX5_isAhead_109 : decode cX5_isAhead 109 = .ok (.iload_n 2, 1) := by decide +kernel
theorem dX5_isAhead_110 : decode cX5_isAhead 110 = .ok (.iconst 2, 1) := by decide +kernel
theorem dX5_isAhead_111 : decode cX5_isAhead 111 = .ok (.invokevirtual 84, 3) := by decide +kernel
theorem dX5_isAhead_114 : decode cX5_isAhead 114 = .ok (.if_icmp .le 7, 3) := by decide +kernel
theorem dX5_isAhead_117 : decode cX5_isAhead 117 = .ok (.iconst 1, 1) := by decide +kernel
theorem dX5_isAhead_118 : decode cX5_isAhead 118 = .ok (.goto 4, 3) := by decide +kernel
theorem dX5_isAhead_121 : decode cX5_isAhead 121 = .ok (.iconst 0, 1) := by decide +kernel
theorem dX5_isAhead_122 : decode cX5_isAhead 122 = .ok (.ireturn, 1) := by decide +kernel
theorem dX5_isAhead_123 : decode cX5_isAhead 123 = .ok (.iload_n 1, 1) := by decide +kernel
theorem dX5_isAhead_124 : decode cX5_isAhead 124 = .ok (.iload_n 2, 1) := by decide +kernel
theorem dX5_isAhead_125 : decode cX5_isAhead 125 = .ok (.if_icmp .ge 7, 3) := by decide +kernel
theorem dX5_isAhead_128 : decode cX5_isAhead 128 = .ok (.iconst 1, 1) := by decide +kernel
theorem dX5_isAhead_129 : decode cX5_isAhead 129 = .ok (.goto 4, 3) := by decide +kernel
theorem dX5_isAhead_132 : decode cX5_isAhead 132 = .ok (.iconst 0, 1) := by decide +kernel
theorem dX5_isAhead_133 : decode cX5_isAhead 133 = .ok (.ireturn, 1) := by decide +kernel
theorem dX5_balance_0 : decode cX5_balance 0 = .ok (.aload_n 0, 1) := by decide +kernel
theorem dX5_balance_1 : decode cX5_balance 1 = .ok (.iload_n 1, 1) := by decide +kernel
theorem dX5_balance_2 : decode cX5_balance 2 = .ok (.iconst 2, 1) := by decide +kernel
theorem dX5_balance_3 : decode cX5_balance 3 = .ok (.invokevirtual 84, 3) := by decide +kernel
theorem dX5_balance_6 : decode cX5_balance 6 = .ok (.aload_n 0, 1) := by decide +kernel
theorem dX5_balance_7 : decode cX5_balance 7 = .ok (.iload_n 1, 1) := by decide +kernel
theorem dX5_balance_8 : decode cX5_balance 8 = .ok (.iconst 3, 1) := by decide +kernel
theorem dX5_balance_9 : decode cX5_balance 9 = .ok (.invokevirtual 84, 3) := by decide +kernel
theorem dX5_balance_12 : decode cX5_balance 12 = .ok (.isub, 1) := by decide +kernel
theorem dX5_balance_13 : decode cX5_balance 13 = .ok (.ireturn, 1) := by decide +kernel
theorem dX6_init_0 : decode cX6_init 0 = .ok (.aload_n 0, 1) := by decide +kernel
theorem dX6_init_1 : decode cX6_init 1 = .ok (.invokespecial 3, 3) := by decide +kernel
theorem dX6_init_4 : decode cX6_init 4 = .ok (.aload_n 0, 1) := by decide +kernel
theorem dX6_init_5 : decode cX6_init 5 = .ok (.iconst (-1), 1) := by decide +kernel
theorem dX6_init_6 : decode cX6_init 6 = .ok (.putfield 9, 3) := by decide +kernel
theorem dX6_init_9 : decode cX6_init 9 = .ok (.aload_n 0, 1) := by decide +kernel
theorem dX6_init_10 : decode cX6_init 10 = .ok (.iconst (-1), 1) := by decide +kernel
theorem dX6_init_11 : decode cX6_init 11 = .ok (.putfield 15, 3) := by decide +kernel
theorem dX6_init_14 : decode cX6_init 14 = .ok (.aload_n 0, 1) := by decide +kernel
theorem dX6_init_15 : decode cX6_init 15 = .ok (.iconst 0, 1) := by decide +kernel
theorem dX6_init_16 : decode cX6_init 16 = .ok (.putfield 18, 3) := by decide +kernel
theorem dX6_init_19 : decode cX6_init 19 = .ok (.aload_n 0, 1) := by decide +kernel
theorem dX6_init_20 : decode cX6_init 20 = .ok (.iconst (-1), 1) := by decide +kernel
theorem dX6_init_21 : decode cX6_init 21 = .ok (.putfield 21, 3) := by decide +kernel
theorem dX6_init_24 : decode cX6_init 24 = .ok (.aload_n 0, 1) := by decide +kernel
theorem dX6_init_25 : decode cX6_init 25 = .ok (.iconst 0, 1) := by decide +kernel
theorem dX6_init_26 : decode cX6_init 26 = .ok (.putfield 24, 3) := by decide +kernel
theorem dX6_init_29 : decode cX6_init 29 = .ok (.return_, 1) := by decide +kernel
theorem dX6_forget_0 : decode cX6_forget 0 = .ok (.aload_n 0, 1) := by decide +kernel
theorem dX6_forget_1 : decode cX6_forget 1 = .ok (.iconst (-1), 1) := by decide +kernel
theorem dX6_forget_2 : decode cX6_forget 2 = .ok (.putfield 9, 3) := by decide +kernel
theorem dX6_forget_5 : decode cX6_forget 5 = .ok (.aload_n 0, 1) := by decide +kernel
theorem dX6_forget_6 : decode cX6_forget 6 = .ok (.iconst (-1), 1) := by decide +kernel
theorem dX6_forget_7 : decode cX6_forget 7 = .ok (.putfield 21, 3) := by decide +kernel
theorem dX6_forget_10 : decode cX6_forget 10 = .ok (.return_, 1) := by decide +kernel
theorem dX6_take_0 : decode cX6_take 0 = .ok (.iconst 1, 1) := by decide +kernel
theorem dX6_take_1 : decode cX6_take 1 = .ok (.iload_n 1, 1) := by decide +kernel
theorem dX6_take_2 : decode cX6_take 2 = .ok (.isub, 1) := by decide +kernel
theorem dX6_take_3 : decode cX6_take 3 = .ok (.istore 4, 2) := by decide +kernel
theorem dX6_take_5 : decode cX6_take 5 = .ok (.iload_n 2, 1) := by decide +kernel
theorem dX6_take_6 : decode cX6_take 6 = .ok (.tableswitch 198 0 6 #[42, 51, 69, 96, 105, 143, 182], 42) := by decide +kernel
theorem dX6_take_48 : decode cX6_take 48 = .ok (.aload_n 0, 1) := by decide +kernel
theorem dX6_take_49 : decode cX6_take 49 = .ok (.iload_n 1, 1) := by decide +kernel
theorem dX6_take_50 : decode cX6_take 50 = .ok (.iload_n 3, 1) := by decide +kernel
theorem dX6_take_51 : decode cX6_take 51 = .ok (.invokevirtual 27, 3) := by decide +kernel
theorem dX6_take_54 : decode cX6_take 54 = .ok (.goto 150, 3) := by decide +kernel
theorem dX6_take_57 : decode cX6_take 57 = .ok (.aload_n 0, 1) := by decide +kernel
theorem dX6_take_58 : decode cX6_take 58 = .ok (.getfield 9, 3) := by decide +kernel
theorem dX6_take_61 : decode cX6_take 61 = .ok (.iconst (-1), 1) := by decide +kernel
theorem dX6_take_62 : decode cX6_take 62 = .ok (.if_icmp .ne 142, 3) := by decide +kernel
theorem dX6_take_65 : decode cX6_take 65 = .ok (.aload_n 0, 1) := by decide +kernel
theorem dX6_take_66 : decode cX6_take 66 = .ok (.iload_n 1, 1) := by decide +kernel
theorem dX6_take_67 : decode cX6_take 67 = .ok (.iconst 1, 1) := by decide +kernel
theorem dX6_take_68 : decode cX6_take 68 = .ok (.iload_n 3, 1) := by decide +kernel
theorem dX6_take_69 : decode cX6_take 69 = .ok (.invokevirtual 31, 3) := by decide +kernel
theorem dX6_take_72 : decode cX6_take 72 = .ok (.goto 132, 3) := by decide +kernel
theorem dX6_take_75 : decode cX6_take 75 = .ok (.aload_n 0, 1) := by decide +kernel
theorem dX6_take_76 : decode cX6_take 76 = .ok (.getfield 9, 3) := by decide +kernel
theorem dX6_take_79 : decode cX6_take 79 = .ok (.iload 4, 2) := by decide +kernel
theorem dX6_take_81 : decode cX6_take 81 = .ok (.if_icmp .ne 123, 3) := by decide +kernel
theorem dX6_take_84 : decode cX6_take 84 = .ok (.aload_n 0, 1) := by decide +kernel
theorem dX6_take_85 : decode cX6_take 85 = .ok (.getfield 15, 3) := by decide +kernel
theorem dX6_take_88 : decode cX6_take 88 = .ok (.iconst 1, 1) := by decide +kernel
theorem dX6_take_89 : decode cX6_take 89 = .ok (.if_icmp .ne 115, 3) := by decide +kernel
theorem dX6_take_92 : decode cX6_take 92 = .ok (.aload_n 0, 1) := by decide +kernel
theorem dX6_take_93 : decode cX6_take 93 = .ok (.iload_n 1, 1) := by decide +kernel
theorem dX6_take_94 : decode cX6_take 94 = .ok (.iconst 0, 1) := by decide +kernel
theorem dX6_take_95 : decode cX6_take 95 = .ok (.iload_n 3, 1) := by decide +kernel
theorem dX6_take_96 : decode cX6_take 96 = .ok (.invokevirtual 31, 3) := by decide +kernel
theorem dX6_take_99 : decode cX6_take 99 = .ok (.goto 105, 3) := by decide +kernel
theorem dX6_take_102 : decode cX6_take 102 = .ok (.aload_n 0, 1) := by decide +kernel
theorem dX6_take_103 : decode cX6_take 103 = .ok (.iload_n 1, 1) := by decide +kernel
theorem dX6_take_104 : decode cX6_take 104 = .ok (.iload_n 3, 1) := by decide +kernel
theorem dX6_take_105 : decode cX6_take 105 = .ok (.invokevirtual 35, 3) := by decide +kernel
theorem dX6_take_108 : decode cX6_take 108 = .ok (.goto 96, 3) := by decide +kernel
theorem dX6_take_111 : decode cX6_take 111 = .ok (.aload_n 0, 1) := by decide +kernel
theorem dX6_take_112 : decode cX6_take 112 = .ok (.getfield 9, 3) := by decide +kernel
theorem dX6_take_115 : decode cX6_take 115 = .ok (.iconst (-1), 1) := by decide +kernel
theorem dX6_take_116 : decode cX6_take 116 = .ok (.if_icmp .ne 88, 3) := by decide +kernel
theorem dX6_take_119 : decode cX6_take 119 = .ok (.aload_n 0, 1) := by decide +kernel
theorem dX6_take_120 : decode cX6_take 120 = .ok (.getfield 21, 3) := by decide +kernel
theorem dX6_take_123 : decode cX6_take 123 = .ok (.iload_n 1, 1) := by decide +kernel
theorem dX6_take_124 : decode cX6_take 124 = .ok (.if_icmp .ne 80, 3) := by decide +kernel
theorem dX6_take_127 : decode cX6_take 127 = .ok (.iload_n 3, 1) := by decide +kernel
theorem dX6_take_128 : decode cX6_take 128 = .ok (.aload_n 0, 1) := by decide +kernel
theorem dX6_take_129 : decode cX6_take 129 = .ok (.getfield 24, 3) := by decide +kernel
theorem dX6_take_132 : decode cX6_take 132 = .ok (.isub, 1) := by decide +kernel
theorem dX6_take_133 : decode cX6_take 133 = .ok (.sipush 300, 3) := by decide +kernel
theorem dX6_take_136 : decode cX6_take 136 = .ok (.if_icmp .gt 68, 3) := by decide +kernel
theorem dX6_take_139 : decode cX6_take 139 = .ok (.aload_n 0, 1) := by decide +kernel
theorem dX6_take_140 : decode cX6_take 140 = .ok (.iload_n 1, 1) := by decide +kernel
theorem dX6_take_141 : decode cX6_take 141 = .ok (.iconst 4, 1) := by decide +kernel
theorem dX6_take_142 : decode cX6_take 142 = .ok (.iload_n 3, 1) := by decide +kernel
theorem dX6_take_143 : decode cX6_take 143 = .ok (.invokevirtual 31, 3) := by decide +kernel
theorem dX6_take_146 : decode cX6_take 146 = .ok (.goto 58, 3) := by decide +kernel
theorem dX6_take_149 : decode cX6_take 149 = .ok (.aload_n 0, 1) := by decide +kernel
theorem dX6_take_150 : decode cX6_take 150 = .ok (.getfield 9, 3) := by decide +kernel
theorem dX6_take_153 : decode cX6_take 153 = .ok (.iconst (-1), 1) := by decide +kernel
theorem dX6_take_154 : decode cX6_take 154 = .ok (.if_icmp .ne 50, 3) := by decide +kernel
theorem dX6_take_157 : decode cX6_take 157 = .ok (.aload_n 0, 1) := by decide +kernel
theorem dX6_take_158 : decode cX6_take 158 = .ok (.getfield 21, 3) := by decide +kernel
theorem dX6_take_161 : decode cX6_take 161 = .ok (.iload 4, 2) := by decide +kernel
theorem dX6_take_163 : decode cX6_take 163 = .ok (.if_icmp .ne 41, 3) := by decide +kernel
theorem dX6_take_166 : decode cX6_take 166 = .ok (.iload_n 3, 1) := by decide +kernel
theorem dX6_take_167 : decode cX6_take 167 = .ok (.aload_n 0, 1) := by decide +kernel
theorem dX6_take_168 : decode cX6_take 168 = .ok (.getfield 24, 3) := by decide +kernel
theorem dX6_take_171 : decode cX6_take 171 = .ok (.isub, 1) := by decide +kernel
theorem dX6_take_172 : decode cX6_take 172 = .ok (.sipush 300, 3) := by decide +kernel
theorem dX6_take_175 : decode cX6_take 175 = .ok (.if_icmp .le 29, 3) := by decide +kernel
theorem dX6_take_178 : decode cX6_take 178 = .ok (.aload_n 0, 1) := by decide +kernel
theorem dX6_take_179 : decode cX6_take 179 = .ok (.iload_n 1, 1) := by decide +kernel
theorem dX6_take_180 : decode cX6_take 180 = .ok (.iconst 5, 1) := by decide +kernel
theorem dX6_take_181 : decode cX6_take 181 = .ok (.iload_n 3, 1) := by decide +kernel
theorem dX6_take_182 : decode cX6_take 182 = .ok (.invokevirtual 31, 3) := by decide +kernel
theorem dX6_take_185 : decode cX6_take 185 = .ok (.goto 19, 3) := by decide +kernel
theorem dX6_take_188 : decode cX6_take 188 = .ok (.aload_n 0, 1) := by decide +kernel
theorem dX6_take_189 : decode cX6_take 189 = .ok (.getfield 9, 3) := by decide +kernel
theorem dX6_take_192 : decode cX6_take 192 = .ok (.iload_n 1, 1) := by decide +kernel
theorem dX6_take_193 : decode cX6_take 193 = .ok (.if_icmp .ne 11, 3) := by decide +kernel
theorem dX6_take_196 : decode cX6_take 196 = .ok (.aload_n 0, 1) := by decide +kernel
theorem dX6_take_197 : decode cX6_take 197 = .ok (.iconst (-1), 1) := by decide +kernel
theorem dX6_take_198 : decode cX6_take 198 = .ok (.putfield 9, 3) := by decide +kernel
theorem dX6_take_201 : decode cX6_take 201 = .ok (.goto 3, 3) := by decide +kernel
theorem dX6_take_204 : decode cX6_take 204 = .ok (.return_, 1) := by decide +kernel
theorem dX6_give_0 : decode cX6_give 0 = .ok (.aload_n 0, 1) := by decide +kernel
theorem dX6_give_1 : decode cX6_give 1 = .ok (.iload_n 1, 1) := by decide +kernel
theorem dX6_give_2 : decode cX6_give 2 = .ok (.putfield 9, 3) := by decide +kernel
theorem dX6_give_5 : decode cX6_give 5 = .ok (.aload_n 0, 1) := by decide +kernel
theorem dX6_give_6 : decode cX6_give 6 = .ok (.iload_n 2, 1) := by decide +kernel
theorem dX6_give_7 : decode cX6_give 7 = .ok (.putfield 15, 3) := by decide +kernel
theorem dX6_give_10 : decode cX6_give 10 = .ok (.aload_n 0, 1) := by decide +kernel
theorem dX6_give_11 : decode cX6_give 11 = .ok (.iload_n 3, 1) := by decide +kernel
theorem dX6_give_12 : decode cX6_give 12 = .ok (.putfield 18, 3) := by decide +kernel
theorem dX6_give_15 : decode cX6_give 15 = .ok (.return_, 1) := by decide +kernel
theorem dX6_attack_0 : decode cX6_attack 0 = .ok (.aload_n 0, 1) := by decide +kernel
theorem dX6_attack_1 : decode cX6_attack 1 = .ok (.getfield 9, 3) := by decide +kernel
theorem dX6_attack_4 : decode cX6_attack 4 = .ok (.iconst 1, 1) := by decide +kernel
theorem dX6_attack_5 : decode cX6_attack 5 = .ok (.iload_n 1, 1) := by decide +kernel
theorem dX6_attack_6 : decode cX6_attack 6 = .ok (.isub, 1) := by decide +kernel
theorem dX6_attack_7 : decode cX6_attack 7 = .ok (.if_icmp .eq 13, 3) := by decide +kernel
theorem dX6_attack_10 : decode cX6_attack 10 = .ok (.aload_n 0, 1) := by decide +kernel
theorem dX6_attack_11 : decode cX6_attack 11 = .ok (.iload_n 1, 1) := by decide +kernel
theorem dX6_attack_12 : decode cX6_attack 12 = .ok (.iconst 0, 1) := by decide +kernel
theorem dX6_attack_13 : decode cX6_attack 13 = .ok (.iload_n 2, 1) := by decide +kernel
theorem dX6_attack_14 : decode cX6_attack 14 = .ok (.invokevirtual 31, 3) := by decide +kernel
theorem dX6_attack_17 : decode cX6_attack 17 = .ok (.goto 26, 3) := by decide +kernel
theorem dX6_attack_20 : decode cX6_attack 20 = .ok (.aload_n 0, 1) := by decide +kernel
theorem dX6_attack_21 : decode cX6_attack 21 = .ok (.getfield 15, 3) := by decide +kernel
theorem dX6_attack_24 : decode cX6_attack 24 = .ok (.ifCond .ne 19, 3) := by decide +kernel
theorem dX6_attack_27 : decode cX6_attack 27 = .ok (.iload_n 2, 1) := by decide +kernel
theorem dX6_attack_28 : decode cX6_attack 28 = .ok (.aload_n 0, 1) := by decide +kernel
theorem dX6_attack_29 : decode cX6_attack 29 = .ok (.getfield 18, 3) := by decide +kernel
theorem dX6_attack_32 : decode cX6_attack 32 = .ok (.isub, 1) := by decide +kernel
theorem dX6_attack_33 : decode cX6_attack 33 = .ok (.bipush 40, 2) := by decide +kernel
theorem dX6_attack_35 : decode cX6_attack 35 = .ok (.if_icmp .gt 8, 3) := by decide +kernel
theorem dX6_attack_38 : decode cX6_attack 38 = .ok (.aload_n 0, 1) := by decide +kernel
theorem dX6_attack_39 : decode cX6_attack 39 = .ok (.iconst (-1), 1) := by decide +kernel
theorem dX6_attack_40 : decode cX6_attack 40 = .ok (.putfield 9, 3) := by decide +kernel
theorem dX6_attack_43 : decode cX6_attack 43 = .ok (.return_, 1) := by decide +kernel
theorem dX6_parry_0 : decode cX6_parry 0 = .ok (.aload_n 0, 1) := by decide +kernel
theorem dX6_parry_1 : decode cX6_parry 1 = .ok (.getfield 9, 3) := by decide +kernel
theorem dX6_parry_4 : decode cX6_parry 4 = .ok (.iconst 1, 1) := by decide +kernel
theorem dX6_parry_5 : decode cX6_parry 5 = .ok (.iload_n 1, 1) := by decide +kernel
theorem dX6_parry_6 : decode cX6_parry 6 = .ok (.isub, 1) := by decide +kernel
theorem dX6_parry_7 : decode cX6_parry 7 = .ok (.if_icmp .ne 26, 3) := by decide +kernel
theorem dX6_parry_10 : decode cX6_parry 10 = .ok (.aload_n 0, 1) := by decide +kernel
theorem dX6_parry_11 : decode cX6_parry 11 = .ok (.getfield 15, 3) := by decide +kernel
theorem dX6_parry_14 : decode cX6_parry 14 = .ok (.iconst 1, 1) := by decide +kernel
theorem dX6_parry_15 : decode cX6_parry 15 = .ok (.if_icmp .eq 18, 3) := by decide +kernel
theorem dX6_parry_18 : decode cX6_parry 18 = .ok (.aload_n 0, 1) := by decide +kernel
theorem dX6_parry_19 : decode cX6_parry 19 = .ok (.iconst (-1), 1) := by decide +kernel
theorem dX6_parry_20 : decode cX6_parry 20 = .ok (.putfield 9, 3) := by decide +kernel
theorem dX6_parry_23 : decode cX6_parry 23 = .ok (.aload_n 0, 1) := by decide +kernel
theorem dX6_parry_24 : decode cX6_parry 24 = .ok (.iload_n 1, 1) := by decide +kernel
theorem dX6_parry_25 : decode cX6_parry 25 = .ok (.putfield 21, 3) := by decide +kernel
theorem dX6_parry_28 : decode cX6_parry 28 = .ok (.aload_n 0, 1) := by decide +kernel
theorem dX6_parry_29 : decode cX6_parry 29 = .ok (.iload_n 2, 1) := by decide +kernel
theorem dX6_parry_30 : decode cX6_parry 30 = .ok (.putfield 24, 3) := by decide +kernel
theorem dX6_parry_33 : decode cX6_parry 33 = .ok (.return_, 1) := by decide +kernel
theorem dX7_init_0 : decode cX7_init 0 = .ok (.aload_n 0, 1) := by decide +kernel
theorem dX7_init_1 : decode cX7_init 1 = .ok (.invokespecial 1, 3) := by decide +kernel
theorem dX7_init_4 : decode cX7_init 4 = .ok (.aload_n 0, 1) := by decide +kernel
theorem dX7_init_5 : decode cX7_init 5 = .ok (.bipush 80, 2) := by decide +kernel
theorem dX7_init_7 : decode cX7_init 7 = .ok (.anewarray 9, 3) := by decide +kernel
theorem dX7_init_10 : decode cX7_init 10 = .ok (.putfield 11, 3) := by decide +kernel
theorem dX7_init_13 : decode cX7_init 13 = .ok (.aload_n 0, 1) := by decide +kernel
theorem dX7_init_14 : decode cX7_init 14 = .ok (.bipush 6, 2) := by decide +kernel
theorem dX7_init_16 : decode cX7_init 16 = .ok (.anewarray 15, 3) := by decide +kernel
theorem dX7_init_19 : decode cX7_init 19 = .ok (.putfield 17, 3) := by decide +kernel
theorem dX7_init_22 : decode cX7_init 22 = .ok (.aload_n 0, 1) := by decide +kernel
theorem dX7_init_23 : decode cX7_init 23 = .ok (.new 21, 3) := by decide +kernel
theorem dX7_init_26 : decode cX7_init 26 = .ok (.dup, 1) := by decide +kernel
theorem dX7_init_27 : decode cX7_init 27 = .ok (.invokespecial 23, 3) := by decide +kernel
theorem dX7_init_30 : decode cX7_init 30 = .ok (.putfield 24, 3) := by decide +kernel
theorem dX7_init_33 : decode cX7_init 33 = .ok (.aload_n 0, 1) := by decide +kernel
theorem dX7_init_34 : decode cX7_init 34 = .ok (.new 28, 3) := by decide +kernel
theorem dX7_init_37 : decode cX7_init 37 = .ok (.dup, 1) := by decide +kernel
theorem dX7_init_38 : decode cX7_init 38 = .ok (.invokespecial 30, 3) := by decide +kernel
theorem dX7_init_41 : decode cX7_init 41 = .ok (.putfield 31, 3) := by decide +kernel
theorem dX7_init_44 : decode cX7_init 44 = .ok (.aload_n 0, 1) := by decide +kernel
theorem dX7_init_45 : decode cX7_init 45 = .ok (.new 35, 3) := by decide +kernel
theorem dX7_init_48 : decode cX7_init 48 = .ok (.dup, 1) := by decide +kernel
theorem dX7_init_49 : decode cX7_init 49 = .ok (.invokespecial 37, 3) := by decide +kernel
theorem dX7_init_52 : decode cX7_init 52 = .ok (.putfield 38, 3) := by decide +kernel
theorem dX7_init_55 : decode cX7_init 55 = .ok (.aload_n 0, 1) := by decide +kernel
theorem dX7_init_56 : decode cX7_init 56 = .ok (.iconst 0, 1) := by decide +kernel
theorem dX7_init_57 : decode cX7_init 57 = .ok (.putfield 42, 3) := by decide +kernel
theorem dX7_init_60 : decode cX7_init 60 = .ok (.aload_n 0, 1) := by decide +kernel
theorem dX7_init_61 : decode cX7_init 61 = .ok (.iconst 0, 1) := by decide +kernel
theorem dX7_init_62 : decode cX7_init 62 = .ok (.putfield 46, 3) := by decide +kernel
theorem dX7_init_65 : decode cX7_init 65 = .ok (.aload_n 0, 1) := by decide +kernel
theorem dX7_init_66 : decode cX7_init 66 = .ok (.iconst 0, 1) := by decide +kernel
theorem dX7_init_67 : decode cX7_init 67 = .ok (.putfield 49, 3) := by decide +kernel
theorem dX7_init_70 : decode cX7_init 70 = .ok (.aload_n 0, 1) := by decide +kernel
theorem dX7_init_71 : decode cX7_init 71 = .ok (.aconst_null, 1) := by decide +kernel
theorem dX7_init_72 : decode cX7_init 72 = .ok (.putfield 52, 3) := by decide +kernel
theorem dX7_init_75 : decode cX7_init 75 = .ok (.aload_n 0, 1) := by decide +kernel
theorem dX7_init_76 : decode cX7_init 76 = .ok (.iconst (-1), 1) := by decide +kernel
theorem dX7_init_77 : decode cX7_init 77 = .ok (.putfield 56, 3) := by decide +kernel
theorem dX7_init_80 : decode cX7_init 80 = .ok (.return_, 1) := by decide +kernel
theorem dX7_fencer_0 : decode cX7_fencer 0 = .ok (.aload_n 0, 1) := by decide +kernel
theorem dX7_fencer_1 : decode cX7_fencer 1 = .ok (.getfield 42, 3) := by decide +kernel
theorem dX7_fencer_4 : decode cX7_fencer 4 = .ok (.bipush 12, 2) := by decide +kernel
theorem dX7_fencer_6 : decode cX7_fencer 6 = .ok (.if_icmp .lt 13, 3) := by decide +kernel
theorem dX7_fencer_9 : decode cX7_fencer 9 = .ok (.new 59, 3) := by decide +kernel
theorem dX7_fencer_12 : decode cX7_fencer 12 = .ok (.dup, 1) := by decide +kernel
theorem dX7_fencer_13 : decode cX7_fencer 13 = .ok (.ldc 61, 2) := by decide +kernel
theorem dX7_fencer_15 : decode cX7_fencer 15 = .ok (.invokespecial 63, 3) := by decide +kernel
theorem dX7_fencer_18 : decode cX7_fencer 18 = .ok (.athrow, 1) := by decide +kernel
theorem dX7_fencer_19 : decode cX7_fencer 19 = .ok (.aload_n 0, 1) := by decide +kernel
theorem dX7_fencer_20 : decode cX7_fencer 20 = .ok (.getfield 42, 3) := by decide +kernel
theorem dX7_fencer_23 : decode cX7_fencer 23 = .ok (.istore_n 1, 1) := by decide +kernel
theorem dX7_fencer_24 : decode cX7_fencer 24 = .ok (.aload_n 0, 1) := by decide +kernel
theorem dX7_fencer_25 : decode cX7_fencer 25 = .ok (.dup, 1) := by decide +kernel
theorem dX7_fencer_26 : decode cX7_fencer 26 = .ok (.getfield 42, 3) := by decide +kernel
theorem dX7_fencer_29 : decode cX7_fencer 29 = .ok (.iconst 1, 1) := by decide +kernel
theorem dX7_fencer_30 : decode cX7_fencer 30 = .ok (.iadd, 1) := by decide +kernel
theorem dX7_fencer_31 : decode cX7_fencer 31 = .ok (.putfield 42, 3) := by decide +kernel
theorem dX7_fencer_34 : decode cX7_fencer 34 = .ok (.iload_n 1, 1) := by decide +kernel
theorem dX7_fencer_35 : decode cX7_fencer 35 = .ok (.ireturn, 1) := by decide +kernel
theorem dX7_begin_0 : decode cX7_begin 0 = .ok (.aload_n 0, 1) := by decide +kernel
theorem dX7_begin_1 : decode cX7_begin 1 = .ok (.iload 5, 2) := by decide +kernel
theorem dX7_begin_3 : decode cX7_begin 3 = .ok (.invokevirtual 66, 3) := by decide +kernel
theorem dX7_begin_6 : decode cX7_begin 6 = .ok (.astore 6, 2) := by decide +kernel
theorem dX7_begin_8 : decode cX7_begin 8 = .ok (.aload_n 0, 1) := by decide +kernel
theorem dX7_begin_9 : decode cX7_begin 9 = .ok (.iload_n 1, 1) := by decide +kernel
theorem dX7_begin_10 : decode cX7_begin 10 = .ok (.invokevirtual 70, 3) := by decide +kernel
theorem dX7_begin_13 : decode cX7_begin 13 = .ok (.ifCond .eq 22, 3) := by decide +kernel
theorem dX7_begin_16 : decode cX7_begin 16 = .ok (.aload_n 0, 1) := by decide +kernel
theorem dX7_begin_17 : decode cX7_begin 17 = .ok (.iload_n 2, 1) := by decide +kernel
theorem dX7_begin_18 : decode cX7_begin 18 = .ok (.invokevirtual 70, 3) := by decide +kernel
theorem dX7_begin_21 : decode cX7_begin 21 = .ok (.ifCond .eq 14, 3) := by decide +kernel
theorem dX7_begin_24 : decode cX7_begin 24 = .ok (.aload 6, 2) := by decide +kernel
theorem dX7_begin_26 : decode cX7_begin 26 = .ok (.ifnonnull 19, 3) := by decide +kernel
theorem dX7_begin_29 : decode cX7_begin 29 = .ok (.iload 5, 2) := by decide +kernel
theorem dX7_begin_31 : decode cX7_begin 31 = .ok (.iconst (-1), 1) := by decide +kernel
theorem dX7_begin_32 : decode cX7_begin 32 = .ok (.if_icmp .eq 13, 3) := by decide +kernel
theorem dX7_begin_35 : decode cX7_begin 35 = .ok (.new 74, 3) := by decide +kernel
theorem dX7_begin_38 : decode cX7_begin 38 = .ok (.dup, 1) := by decide +kernel
theorem dX7_begin_39 : decode cX7_begin 39 = .ok (.ldc 76, 2) := by decide +kernel
theorem dX7_begin_41 : decode cX7_begin 41 = .ok (.invokespecial 78, 3) := by decide +kernel
theorem dX7_begin_44 : decode cX7_begin 44 = .ok (.athrow, 1) := by decide +kernel
theorem dX7_begin_45 : decode cX7_begin 45 = .ok (.iload_n 1, 1) := by decide +kernel
theorem dX7_begin_46 : decode cX7_begin 46 = .ok (.iload_n 2, 1) := by decide +kernel
theorem dX7_begin_47 : decode cX7_begin 47 = .ok (.if_icmp .eq 23, 3) := by decide +kernel
theorem dX7_begin_50 : decode cX7_begin 50 = .ok (.iload_n 3, 1) := by decide +kernel
theorem dX7_begin_51 : decode cX7_begin 51 = .ok (.iconst 0, 1) := by decide +kernel
theorem dX7_begin_52 : decode cX7_begin 52 = .ok (.iconst 2, 1) := by decide +kernel
theorem dX7_begin_53 : decode cX7_begin 53 = .ok (.invokestatic 79, 3) := by decide +kernel
theorem dX7_begin_56 : decode cX7_begin 56 = .ok (.ifCond .eq 14, 3) := by decide +kernel
theorem dX7_begin_59 : decode cX7_begin 59 = .ok (.iload 4, 2) := by decide +kernel
theorem dX7_begin_61 : decode cX7_begin 61 = .ok (.iconst 1, 1) := by decide +kernel
theorem dX7_begin_62 : decode cX7_begin 62 = .ok (.bipush 45, 2) := by decide +kernel
theorem dX7_begin_64 : decode cX7_begin 64 = .ok (.invokestatic 79, 3) := by decide +kernel
theorem dX7_begin_67 : decode cX7_begin 67 = .ok (.ifCond .ne 13, 3) := by decide +kernel
theorem dX7_begin_70 : decode cX7_begin 70 = .ok (.new 83, 3) := by decide +kernel
theorem dX7_begin_73 : decode cX7_begin 73 = .ok (.dup, 1) := by decide +kernel
theorem dX7_begin_74 : decode cX7_begin 74 = .ok (.ldc 85, 2) := by decide +kernel
theorem dX7_begin_76 : decode cX7_begin 76 = .ok (.invokespecial 87, 3) := by decide +kernel
theorem dX7_begin_79 : decode cX7_begin 79 = .ok (.athrow, 1) := by decide +kernel
theorem dX7_begin_80 : decode cX7_begin 80 = .ok (.aload 6, 2) := by decide +kernel
theorem dX7_begin_82 : decode cX7_begin 82 = .ok (.ifnull 31, 3) := by decide +kernel
theorem dX7_begin_85 : decode cX7_begin 85 = .ok (.aload 6, 2) := by decide +kernel
theorem dX7_begin_87 : decode cX7_begin 87 = .ok (.iload_n 1, 1) := by decide +kernel
theorem dX7_begin_88 : decode cX7_begin 88 = .ok (.invokevirtual 88, 3) := by decide +kernel
theorem dX7_begin_91 : decode cX7_begin 91 = .ok (.ifCond .eq 12, 3) := by decide +kernel
theorem dX7_begin_94 : decode cX7_begin 94 = .ok (.aload 6, 2) := by decide +kernel
theorem dX7_begin_96 : decode cX7_begin 96 = .ok (.iload_n 2, 1) := by decide +kernel
theorem dX7_begin_97 : decode cX7_begin 97 = .ok (.invokevirtual 88, 3) := by decide +kernel
theorem dX7_begin_100 : decode cX7_begin 100 = .ok (.ifCond .ne 13, 3) := by decide +kernel
theorem dX7_begin_103 : decode cX7_begin 103 = .ok (.new 83, 3) := by decide +kernel
theorem dX7_begin_106 : decode cX7_begin 106 = .ok (.dup, 1) := by decide +kernel
theorem dX7_begin_107 : decode cX7_begin 107 = .ok (.ldc 91, 2) := by decide +kernel
theorem dX7_begin_109 : decode cX7_begin 109 = .ok (.invokespecial 87, 3) := by decide +kernel
theorem dX7_begin_112 : decode cX7_begin 112 = .ok (.athrow, 1) := by decide +kernel
theorem dX7_begin_113 : decode cX7_begin 113 = .ok (.aload 6, 2) := by decide +kernel
theorem dX7_begin_115 : decode cX7_begin 115 = .ok (.ifnull 31, 3) := by decide +kernel
theorem dX7_begin_118 : decode cX7_begin 118 = .ok (.aload 6, 2) := by decide +kernel
theorem dX7_begin_120 : decode cX7_begin 120 = .ok (.iload_n 1, 1) := by decide +kernel
theorem dX7_begin_121 : decode cX7_begin 121 = .ok (.invokevirtual 93, 3) := by decide +kernel
theorem dX7_begin_124 : decode cX7_begin 124 = .ok (.ifCond .ne 12, 3) := by decide +kernel
theorem dX7_begin_127 : decode cX7_begin 127 = .ok (.aload 6, 2) := by decide +kernel
theorem dX7_begin_129 : decode cX7_begin 129 = .ok (.iload_n 2, 1) := by decide +kernel
theorem dX7_begin_130 : decode cX7_begin 130 = .ok (.invokevirtual 93, 3) := by decide +kernel
theorem dX7_begin_133 : decode cX7_begin 133 = .ok (.ifCond .eq 13, 3) := by decide +kernel
theorem dX7_begin_136 : decode cX7_begin 136 = .ok (.new 59, 3) := by decide +kernel
theorem dX7_begin_139 : decode cX7_begin 139 = .ok (.dup, 1) := by decide +kernel
theorem dX7_begin_140 : decode cX7_begin 140 = .ok (.ldc 96, 2) := by decide +kernel
theorem dX7_begin_142 : decode cX7_begin 142 = .ok (.invokespecial 63, 3) := by decide +kernel
theorem dX7_begin_145 : decode cX7_begin 145 = .ok (.athrow, 1) := by decide +kernel
theorem dX7_begin_146 : decode cX7_begin 146 = .ok (.aload_n 0, 1) := by decide +kernel
theorem dX7_begin_147 : decode cX7_begin 147 = .ok (.getfield 52, 3) := by decide +kernel
theorem dX7_begin_150 : decode cX7_begin 150 = .ok (.ifnonnull 12, 3) := by decide +kernel
theorem dX7_begin_153 : decode cX7_begin 153 = .ok (.aload_n 0, 1) := by decide +kernel
theorem dX7_begin_154 : decode cX7_begin 154 = .ok (.getfield 46, 3) := by decide +kernel
theorem dX7_begin_157 : decode cX7_begin 157 = .ok (.bipush 80, 2) := by decide +kernel
theorem dX7_begin_159 : decode cX7_begin 159 = .ok (.if_icmp .lt 13, 3) := by decide +kernel
theorem dX7_begin_162 : decode cX7_begin 162 = .ok (.new 59, 3) := by decide +kernel
theorem dX7_begin_165 : decode cX7_begin 165 = .ok (.dup, 1) := by decide +kernel
theorem dX7_begin_166 : decode cX7_begin 166 = .ok (.ldc 98, 2) := by decide +kernel
theorem dX7_begin_168 : decode cX7_begin 168 = .ok (.invokespecial 63, 3) := by decide +kernel
theorem dX7_begin_171 : decode cX7_begin 171 = .ok (.athrow, 1) := by decide +kernel
theorem dX7_begin_172 : decode cX7_begin 172 = .ok (.aload_n 0, 1) := by decide +kernel
theorem dX7_begin_173 : decode cX7_begin 173 = .ok (.new 9, 3) := by decide +kernel
theorem dX7_begin_176 : decode cX7_begin 176 = .ok (.dup, 1) := by decide +kernel
theorem dX7_begin_177 : decode cX7_begin 177 = .ok (.iload_n 1, 1) := by decide +kernel
theorem dX7_begin_178 : decode cX7_begin 178 = .ok (.iload_n 2, 1) := by decide +kernel
theorem dX7_begin_179 : decode cX7_begin 179 = .ok (.iload_n 3, 1) := by decide +kernel
theorem dX7_begin_180 : decode cX7_begin 180 = .ok (.iload 4, 2) := by decide +kernel
theorem dX7_begin_182 : decode cX7_begin 182 = .ok (.iload 5, 2) := by decide +kernel
theorem dX7_begin_184 : decode cX7_begin 184 = .ok (.invokespecial 100, 3) := by decide +kernel
theorem dX7_begin_187 : decode cX7_begin 187 = .ok (.invokevirtual 103, 3) := by decide +kernel
theorem dX7_begin_190 : decode cX7_begin 190 = .ok (.ireturn, 1) := by decide +kernel
theorem dX7_act_0 : decode cX7_act 0 = .ok (.iload_n 1, 1) := by decide +kernel
theorem dX7_act_1 : decode cX7_act 1 = .ok (.invokestatic 107, 3) := by decide +kernel
theorem dX7_act_4 : decode cX7_act 4 = .ok (.ifCond .eq 23, 3) := by decide +kernel
theorem dX7_act_7 : decode cX7_act 7 = .ok (.iload_n 2, 1) := by decide +kernel
theorem dX7_act_8 : decode cX7_act 8 = .ok (.iconst 0, 1) := by decide +kernel
theorem dX7_act_9 : decode cX7_act 9 = .ok (.bipush 6, 2) := by decide +kernel
theorem dX7_act_11 : decode cX7_act 11 = .ok (.invokestatic 79, 3) := by decide +kernel
theorem dX7_act_14 : decode cX7_act 14 = .ok (.ifCond .eq 13, 3) := by decide +kernel
theorem dX7_act_17 : decode cX7_act 17 = .ok (.iload_n 3, 1) := by decide +kernel
theorem dX7_act_18 : decode cX7_act 18 = .ok (.iconst 0, 1) := by decide +kernel
theorem dX7_act_19 : decode cX7_act 19 = .ok (.ldc 110, 2) := by decide +kernel
theorem dX7_act_21 : decode cX7_act 21 = .ok (.invokestatic 79, 3) := by decide +kernel
theorem dX7_act_24 : decode cX7_act 24 = .ok (.ifCond .ne 13, 3) := by decide +kernel
theorem dX7_act_27 : decode cX7_act 27 = .ok (.new 83, 3) := by decide +kernel
theorem dX7_act_30 : decode cX7_act 30 = .ok (.dup, 1) := by decide +kernel
theorem dX7_act_31 : decode cX7_act 31 = .ok (.ldc 111, 2) := by decide +kernel
theorem dX7_act_33 : decode cX7_act 33 = .ok (.invokespecial 87, 3) := by decide +kernel
theorem dX7_act_36 : decode cX7_act 36 = .ok (.athrow, 1) := by decide +kernel
theorem dX7_act_37 : decode cX7_act 37 = .ok (.aload_n 0, 1) := by decide +kernel
theorem dX7_act_38 : decode cX7_act 38 = .ok (.iload_n 3, 1) := by decide +kernel
theorem dX7_act_39 : decode cX7_act 39 = .ok (.invokevirtual 113, 3) := by decide +kernel
theorem dX7_act_42 : decode cX7_act 42 = .ok (.aload_n 0, 1) := by decide +kernel
theorem dX7_act_43 : decode cX7_act 43 = .ok (.getfield 24, 3) := by decide +kernel
theorem dX7_act_46 : decode cX7_act 46 = .ok (.iload_n 1, 1) := by decide +kernel
theorem dX7_act_47 : decode cX7_act 47 = .ok (.iload_n 2, 1) := by decide +kernel
theorem dX7_act_48 : decode cX7_act 48 = .ok (.iload_n 3, 1) := by decide +kernel
theorem dX7_act_49 : decode cX7_act 49 = .ok (.invokevirtual 117, 3) := by decide +kernel
theorem dX7_act_52 : decode cX7_act 52 = .ok (.ireturn, 1) := by decide +kernel
theorem dX7_hit_0 : decode cX7_hit 0 = .ok (.iload_n 1, 1) := by decide +kernel
theorem dX7_hit_1 : decode cX7_hit 1 = .ok (.invokestatic 107, 3) := by decide +kernel
theorem dX7_hit_4 : decode cX7_hit 4 = .ok (.ifCond .eq 13, 3) := by decide +kernel
theorem dX7_hit_7 : decode cX7_hit 7 = .ok (.iload_n 2, 1) := by decide +kernel
theorem dX7_hit_8 : decode cX7_hit 8 = .ok (.iconst 0, 1) := by decide +kernel
theorem dX7_hit_9 : decode cX7_hit 9 = .ok (.ldc 110, 2) := by decide +kernel
theorem dX7_hit_11 : decode cX7_hit 11 = .ok (.invokestatic 79, 3) := by decide +kernel
theorem dX7_hit_14 : decode cX7_hit 14 = .ok (.ifCond .ne 13, 3) := by decide +kernel
theorem dX7_hit_17 : decode cX7_hit 17 = .ok (.new 83, 3) := by decide +kernel
theorem dX7_hit_20 : decode cX7_hit 20 = .ok (.dup, 1) := by decide +kernel
theorem dX7_hit_21 : decode cX7_hit 21 = .ok (.ldc 121, 2) := by decide +kernel
theorem dX7_hit_23 : decode cX7_hit 23 = .ok (.invokespecial 87, 3) := by decide +kernel
theorem dX7_hit_26 : decode cX7_hit 26 = .ok (.athrow, 1) := by decide +kernel
theorem dX7_hit_27 : decode cX7_hit 27 = .ok (.iload_n 3, 1) := by decide +kernel
theorem dX7_hit_28 : decode cX7_hit 28 = .ok (.iconst 0, 1) := by decide +kernel
theorem dX7_hit_29 : decode cX7_hit 29 = .ok (.sipush 1000, 3) := by decide +kernel
theorem dX7_hit_32 : decode cX7_hit 32 = .ok (.invokestatic 79, 3) := by decide +kernel
theorem dX7_hit_35 : decode cX7_hit 35 = .ok (.ifCond .eq 13, 3) := by decide +kernel
theorem dX7_hit_38 : decode cX7_hit 38 = .ok (.iload 4, 2) := by decide +kernel
theorem dX7_hit_40 : decode cX7_hit 40 = .ok (.iconst 0, 1) := by decide +kernel
theorem dX7_hit_41 : decode cX7_hit 41 = .ok (.iconst 2, 1) := by decide +kernel
theorem dX7_hit_42 : decode cX7_hit 42 = .ok (.invokestatic 79, 3) := by decide +kernel
theorem dX7_hit_45 : decode cX7_hit 45 = .ok (.ifCond .ne 13, 3) := by decide +kernel
theorem dX7_hit_48 : decode cX7_hit 48 = .ok (.new 83, 3) := by decide +kernel
theorem dX7_hit_51 : decode cX7_hit 51 = .ok (.dup, 1) := by decide +kernel
theorem dX7_hit_52 : decode cX7_hit 52 = .ok (.ldc 123, 2) := by decide +kernel
theorem dX7_hit_54 : decode cX7_hit 54 = .ok (.invokespecial 87, 3) := by decide +kernel
theorem dX7_hit_57 : decode cX7_hit 57 = .ok (.athrow, 1) := by decide +kernel
theorem dX7_hit_58 : decode cX7_hit 58 = .ok (.aload_n 0, 1) := by decide +kernel
theorem dX7_hit_59 : decode cX7_hit 59 = .ok (.iload_n 2, 1) := by decide +kernel
theorem dX7_hit_60 : decode cX7_hit 60 = .ok (.invokevirtual 113, 3) := by decide +kernel
theorem dX7_hit_63 : decode cX7_hit 63 = .ok (.aload_n 0, 1) := by decide +kernel
theorem dX7_hit_64 : decode cX7_hit 64 = .ok (.getfield 24, 3) := by decide +kernel
theorem dX7_hit_67 : decode cX7_hit 67 = .ok (.iload_n 1, 1) := by decide +kernel
theorem dX7_hit_68 : decode cX7_hit 68 = .ok (.iload_n 2, 1) := by decide +kernel
theorem dX7_hit_69 : decode cX7_hit 69 = .ok (.iload_n 3, 1) := by decide +kernel
theorem dX7_hit_70 : decode cX7_hit 70 = .ok (.iload 4, 2) := by decide +kernel
theorem dX7_hit_72 : decode cX7_hit 72 = .ok (.invokevirtual 125, 3) := by decide +kernel
theorem dX7_hit_75 : decode cX7_hit 75 = .ok (.ireturn, 1) := by decide +kernel
theorem dX7_judge_0 : decode cX7_judge 0 = .ok (.aload_n 0, 1) := by decide +kernel
theorem dX7_judge_1 : decode cX7_judge 1 = .ok (.invokevirtual 129, 3) := by decide +kernel
theorem dX7_judge_4 : decode cX7_judge 4 = .ok (.astore_n 1, 1) := by decide +kernel
theorem dX7_judge_5 : decode cX7_judge 5 = .ok (.aload_n 0, 1) := by decide +kernel
theorem dX7_judge_6 : decode cX7_judge 6 = .ok (.aload_n 1, 1) := by decide +kernel
theorem dX7_judge_7 : decode cX7_judge 7 = .ok (.getfield 133, 3) := by decide +kernel
theorem dX7_judge_10 : decode cX7_judge 10 = .ok (.aload_n 1, 1) := by decide +kernel
theorem dX7_judge_11 : decode cX7_judge 11 = .ok (.invokevirtual 136, 3) := by decide +kernel
theorem dX7_judge_14 : decode cX7_judge 14 = .ok (.invokevirtual 140, 3) := by decide +kernel
theorem dX7_judge_17 : decode cX7_judge 17 = .ok (.istore_n 2, 1) := by decide +kernel
theorem dX7_judge_18 : decode cX7_judge 18 = .ok (.aload_n 1, 1) := by decide +kernel
theorem dX7_judge_19 : decode cX7_judge 19 = .ok (.iload_n 2, 1) := by decide +kernel
theorem dX7_judge_20 : decode cX7_judge 20 = .ok (.invokevirtual 144, 3) := by decide +kernel
theorem dX7_judge_23 : decode cX7_judge 23 = .ok (.aload_n 0, 1) := by decide +kernel
theorem dX7_judge_24 : decode cX7_judge 24 = .ok (.getfield 24, 3) := by decide +kernel
theorem dX7_judge_27 : decode cX7_judge 27 = .ok (.invokevirtual 147, 3) := by decide +kernel
theorem dX7_judge_30 : decode cX7_judge 30 = .ok (.aload_n 0, 1) := by decide +kernel
theorem dX7_judge_31 : decode cX7_judge 31 = .ok (.aload_n 1, 1) := by decide +kernel
theorem dX7_judge_32 : decode cX7_judge 32 = .ok (.invokevirtual 150, 3) := by decide +kernel
theorem dX7_judge_35 : decode cX7_judge 35 = .ok (.iload_n 2, 1) := by decide +kernel
theorem dX7_judge_36 : decode cX7_judge 36 = .ok (.ireturn, 1) := by decide +kernel
theorem dX7_card_0 : decode cX7_card 0 = .ok (.iload_n 1, 1) := by decide +kernel
theorem dX7_card_1 : decode cX7_card 1 = .ok (.invokestatic 107, 3) := by decide +kernel
theorem dX7_card_4 : decode cX7_card 4 = .ok (.ifCond .eq 12, 3) := by decide +kernel
theorem dX7_card_7 : decode cX7_card 7 = .ok (.iload_n 2, 1) := by decide +kernel
theorem dX7_card_8 : decode cX7_card 8 = .ok (.iconst 1, 1) := by decide +kernel
theorem dX7_card_9 : decode cX7_card 9 = .ok (.iconst 3, 1) := by decide +kernel
theorem dX7_card_10 : decode cX7_card 10 = .ok (.invokestatic 79, 3) := by decide +kernel
theorem dX7_card_13 : decode cX7_card 13 = .ok (.ifCond .ne 13, 3) := by decide +kernel
theorem dX7_card_16 : decode cX7_card 16 = .ok (.new 83, 3) := by decide +kernel
theorem dX7_card_19 : decode cX7_card 19 = .ok (.dup, 1) := by decide +kernel
theorem dX7_card_20 : decode cX7_card 20 = .ok (.ldc 154, 2) := by decide +kernel
theorem dX7_card_22 : decode cX7_card 22 = .ok (.invokespecial 87, 3) := by decide +kernel
theorem dX7_card_25 : decode cX7_card 25 = .ok (.athrow, 1) := by decide +kernel
theorem dX7_card_26 : decode cX7_card 26 = .ok (.aload_n 0, 1) := by decide +kernel
theorem dX7_card_27 : decode cX7_card 27 = .ok (.invokevirtual 129, 3) := by decide +kernel
theorem dX7_card_30 : decode cX7_card 30 = .ok (.astore_n 3, 1) := by decide +kernel
theorem dX7_card_31 : decode cX7_card 31 = .ok (.aload_n 3, 1) := by decide +kernel
theorem dX7_card_32 : decode cX7_card 32 = .ok (.iload_n 1, 1) := by decide +kernel
theorem dX7_card_33 : decode cX7_card 33 = .ok (.iload_n 2, 1) := by decide +kernel
theorem dX7_card_34 : decode cX7_card 34 = .ok (.invokevirtual 156, 3) := by decide +kernel
theorem dX7_card_37 : decode cX7_card 37 = .ok (.istore 4, 2) := by decide +kernel
theorem dX7_card_39 : decode cX7_card 39 = .ok (.aload_n 0, 1) := by decide +kernel
theorem dX7_card_40 : decode cX7_card 40 = .ok (.aload_n 3, 1) := by decide +kernel
theorem dX7_card_41 : decode cX7_card 41 = .ok (.invokevirtual 150, 3) := by decide +kernel
theorem dX7_card_44 : decode cX7_card 44 = .ok (.iload 4, 2) := by decide +kernel
theorem dX7_card_46 : decode cX7_card 46 = .ok (.ireturn, 1) := by decide +kernel
theorem dX7_clock_0 : decode cX7_clock 0 = .ok (.iload_n 1, 1) := by decide +kernel
theorem dX7_clock_1 : decode cX7_clock 1 = .ok (.iconst 1, 1) := by decide +kernel
theorem dX7_clock_2 : decode cX7_clock 2 = .ok (.sipush 240, 3) := by decide +kernel
theorem dX7_clock_5 : decode cX7_clock 5 = .ok (.invokestatic 79, 3) := by decide +kernel
theorem dX7_clock_8 : decode cX7_clock 8 = .ok (.ifCond .ne 13, 3) := by decide +kernel
theorem dX7_clock_11 : decode cX7_clock 11 = .ok (.new 83, 3) := by decide +kernel
theorem dX7_clock_14 : decode cX7_clock 14 = .ok (.dup, 1) := by decide +kernel
theorem dX7_clock_15 : decode cX7_clock 15 = .ok (.ldc 160, 2) := by decide +kernel
theorem dX7_clock_17 : decode cX7_clock 17 = .ok (.invokespecial 87, 3) := by decide +kernel
theorem dX7_clock_20 : decode cX7_clock 20 = .ok (.athrow, 1) := by decide +kernel
theorem dX7_clock_21 : decode cX7_clock 21 = .ok (.aload_n 0, 1) := by decide +kernel
theorem dX7_clock_22 : decode cX7_clock 22 = .ok (.invokevirtual 129, 3) := by decide +kernel
theorem dX7_clock_25 : decode cX7_clock 25 = .ok (.astore_n 2, 1) := by decide +kernel
theorem dX7_clock_26 : decode cX7_clock 26 = .ok (.iconst 0, 1) := by decide +kernel
theorem dX7_clock_27 : decode cX7_clock 27 = .ok (.istore_n 3, 1) := by decide +kernel
theorem dX7_clock_28 : decode cX7_clock 28 = .ok (.iload_n 3, 1) := by decide +kernel
theorem dX7_clock_29 : decode cX7_clock 29 = .ok (.iload_n 1, 1) := by decide +kernel
theorem dX7_clock_30 : decode cX7_clock 30 = .ok (.if_icmp .ge 24, 3) := by decide +kernel
theorem dX7_clock_33 : decode cX7_clock 33 = .ok (.aload_n 2, 1) := by decide +kernel
theorem dX7_clock_34 : decode cX7_clock 34 = .ok (.invokevirtual 162, 3) := by decide +kernel
theorem dX7_clock_37 : decode cX7_clock 37 = .ok (.ifCond .ne 17, 3) := by decide +kernel
theorem dX7_clock_40 : decode cX7_clock 40 = .ok (.aload_n 2, 1) := by decide +kernel
theorem dX7_clock_41 : decode cX7_clock 41 = .ok (.aload_n 0, 1) := by decide +kernel
theorem dX7_clock_42 : decode cX7_clock 42 = .ok (.getfield 38, 3) := by decide +kernel
theorem dX7_clock_45 : decode cX7_clock 45 = .ok (.invokevirtual 165, 3) := by decide +kernel
theorem dX7_clock_48 : decode cX7_clock 48 = .ok (.iinc 3 1, 3) := by decide +kernel
theorem dX7_clock_51 : decode cX7_clock 51 = .ok (.goto (-23), 3) := by decide +kernel
theorem dX7_clock_54 : decode cX7_clock 54 = .ok (.aload_n 0, 1) := by decide +kernel
theorem dX7_clock_55 : decode cX7_clock 55 = .ok (.aload_n 2, 1) := by decide +kernel
theorem dX7_clock_56 : decode cX7_clock 56 = .ok (.invokevirtual 150, 3) := by decide +kernel
theorem dX7_clock_59 : decode cX7_clock 59 = .ok (.aload_n 2, 1) := by decide +kernel
theorem dX7_clock_60 : decode cX7_clock 60 = .ok (.invokevirtual 169, 3) := by decide +kernel
theorem dX7_clock_63 : decode cX7_clock 63 = .ok (.ireturn, 1) := by decide +kernel
theorem dX7_end_0 : decode cX7_end 0 = .ok (.aload_n 0, 1) := by decide +kernel
theorem dX7_end_1 : decode cX7_end 1 = .ok (.invokevirtual 129, 3) := by decide +kernel
theorem dX7_end_4 : decode cX7_end 4 = .ok (.astore_n 1, 1) := by decide +kernel
theorem dX7_end_5 : decode cX7_end 5 = .ok (.aload_n 1, 1) := by decide +kernel
theorem dX7_end_6 : decode cX7_end 6 = .ok (.aload_n 1, 1) := by decide +kernel
theorem dX7_end_7 : decode cX7_end 7 = .ok (.invokevirtual 173, 3) := by decide +kernel
theorem dX7_end_10 : decode cX7_end 10 = .ok (.invokevirtual 176, 3) := by decide +kernel
theorem dX7_end_13 : decode cX7_end 13 = .ok (.aload_n 0, 1) := by decide +kernel
theorem dX7_end_14 : decode cX7_end 14 = .ok (.aload_n 1, 1) := by decide +kernel
theorem dX7_end_15 : decode cX7_end 15 = .ok (.invokevirtual 150, 3) := by decide +kernel
theorem dX7_end_18 : decode cX7_end 18 = .ok (.aload_n 1, 1) := by decide +kernel
theorem dX7_end_19 : decode cX7_end 19 = .ok (.getfield 179, 3) := by decide +kernel
theorem dX7_end_22 : decode cX7_end 22 = .ok (.ireturn, 1) := by decide +kernel
theorem dX7_seed_0 : decode cX7_seed 0 = .ok (.iload_n 1, 1) := by decide +kernel
theorem dX7_seed_1 : decode cX7_seed 1 = .ok (.ifCond .ge 13, 3) := by decide +kernel
theorem dX7_seed_4 : decode cX7_seed 4 = .ok (.new 83, 3) := by decide +kernel
theorem dX7_seed_7 : decode cX7_seed 7 = .ok (.dup, 1) := by decide +kernel
theorem dX7_seed_8 : decode cX7_seed 8 = .ok (.ldc 182, 2) := by decide +kernel
theorem dX7_seed_10 : decode cX7_seed 10 = .ok (.invokespecial 87, 3) := by decide +kernel
theorem dX7_seed_13 : decode cX7_seed 13 = .ok (.athrow, 1) := by decide +kernel
theorem dX7_seed_14 : decode cX7_seed 14 = .ok (.aload_n 0, 1) := by decide +kernel
theorem dX7_seed_15 : decode cX7_seed 15 = .ok (.getfield 38, 3) := by decide +kernel
theorem dX7_seed_18 : decode cX7_seed 18 = .ok (.iload_n 1, 1) := by decide +kernel
theorem dX7_seed_19 : decode cX7_seed 19 = .ok (.i2l, 1) := by decide +kernel
theorem dX7_seed_20 : decode cX7_seed 20 = .ok (.putfield 184, 3) := by decide +kernel
theorem dX7_seed_23 : decode cX7_seed 23 = .ok (.return_, 1) := by decide +kernel
theorem dX7_pool_0 : decode cX7_pool 0 = .ok (.iload_n 1, 1) := by decide +kernel
theorem dX7_pool_1 : decode cX7_pool 1 = .ok (.iconst 1, 1) := by decide +kernel
theorem dX7_pool_2 : decode cX7_pool 2 = .ok (.aload_n 0, 1) := by decide +kernel
theorem dX7_pool_3 : decode cX7_pool 3 = .ok (.getfield 42, 3) := by decide +kernel
theorem dX7_pool_6 : decode cX7_pool 6 = .ok (.ishl, 1) := by decide +kernel
theorem dX7_pool_7 : decode cX7_pool 7 = .ok (.ineg, 1) := by decide +kernel
theorem dX7_pool_8 : decode cX7_pool 8 = .ok (.iand, 1) := by decide +kernel
theorem dX7_pool_9 : decode cX7_pool 9 = .ok (.istore_n 2, 1) := by decide +kernel
theorem dX7_pool_10 : decode cX7_pool 10 = .ok (.iload_n 2, 1) := by decide +kernel
theorem dX7_pool_11 : decode cX7_pool 11 = .ok (.ifCond .ne 11, 3) := by decide +kernel
theorem dX7_pool_14 : decode cX7_pool 14 = .ok (.iload_n 1, 1) := by decide +kernel
theorem dX7_pool_15 : decode cX7_pool 15 = .ok (.invokestatic 188, 3) := by decide +kernel
theorem dX7_pool_18 : decode cX7_pool 18 = .ok (.iconst 2, 1) := by decide +kernel
theorem dX7_pool_19 : decode cX7_pool 19 = .ok (.if_icmp .ge 13, 3) := by decide +kernel
theorem dX7_pool_22 : decode cX7_pool 22 = .ok (.new 83, 3) := by decide +kernel
theorem dX7_pool_25 : decode cX7_pool 25 = .ok (.dup, 1) := by decide +kernel
theorem dX7_pool_26 : decode cX7_pool 26 = .ok (.ldc 194, 2) := by decide +kernel
theorem dX7_pool_28 : decode cX7_pool 28 = .ok (.invokespecial 87, 3) := by decide +kernel
theorem dX7_pool_31 : decode cX7_pool 31 = .ok (.athrow, 1) := by decide +kernel
theorem dX7_pool_32 : decode cX7_pool 32 = .ok (.aload_n 0, 1) := by decide +kernel
theorem dX7_pool_33 : decode cX7_pool 33 = .ok (.getfield 49, 3) := by decide +kernel
theorem dX7_pool_36 : decode cX7_pool 36 = .ok (.bipush 6, 2) := by decide +kernel
theorem dX7_pool_38 : decode cX7_pool 38 = .ok (.if_icmp .lt 13, 3) := by decide +kernel
theorem dX7_pool_41 : decode cX7_pool 41 = .ok (.new 59, 3) := by decide +kernel
theorem dX7_pool_44 : decode cX7_pool 44 = .ok (.dup, 1) := by decide +kernel
theorem dX7_pool_45 : decode cX7_pool 45 = .ok (.ldc 196, 2) := by decide +kernel
theorem dX7_pool_47 : decode cX7_pool 47 = .ok (.invokespecial 63, 3) := by decide +kernel
theorem dX7_pool_50 : decode cX7_pool 50 = .ok (.athrow, 1) := by decide +kernel
theorem dX7_pool_51 : decode cX7_pool 51 = .ok (.aload_n 0, 1) := by decide +kernel
theorem dX7_pool_52 : decode cX7_pool 52 = .ok (.getfield 49, 3) := by decide +kernel
theorem dX7_pool_55 : decode cX7_pool 55 = .ok (.istore_n 3, 1) := by decide +kernel
theorem dX7_pool_56 : decode cX7_pool 56 = .ok (.aload_n 0, 1) := by decide +kernel
theorem dX7_pool_57 : decode cX7_pool 57 = .ok (.getfield 17, 3) := by decide +kernel
theorem dX7_pool_60 : decode cX7_pool 60 = .ok (.iload_n 3, 1) := by decide +kernel
theorem dX7_pool_61 : decode cX7_pool 61 = .ok (.new 15, 3) := by decide +kernel
theorem dX7_pool_64 : decode cX7_pool 64 = .ok (.dup, 1) := by decide +kernel
theorem dX7_pool_65 : decode cX7_pool 65 = .ok (.iload_n 3, 1) := by decide +kernel
theorem dX7_pool_66 : decode cX7_pool 66 = .ok (.iload_n 1, 1) := by decide +kernel
theorem dX7_pool_67 : decode cX7_pool 67 = .ok (.invokespecial 198, 3) := by decide +kernel
theorem dX7_pool_70 : decode cX7_pool 70 = .ok (.aastore, 1) := by decide +kernel
theorem dX7_pool_71 : decode cX7_pool 71 = .ok (.aload_n 0, 1) := by decide +kernel
theorem dX7_pool_72 : decode cX7_pool 72 = .ok (.dup, 1) := by decide +kernel
theorem dX7_pool_73 : decode cX7_pool 73 = .ok (.getfield 49, 3) := by decide +kernel
theorem dX7_pool_76 : decode cX7_pool 76 = .ok (.iconst 1, 1) := by decide +kernel
theorem dX7_pool_77 : decode cX7_pool 77 = .ok (.iadd, 1) := by decide +kernel
theorem dX7_pool_78 : decode cX7_pool 78 = .ok (.putfield 49, 3) := by decide +kernel
theorem dX7_pool_81 : decode cX7_pool 81 = .ok (.iload_n 3, 1) := by decide +kernel
theorem dX7_pool_82 : decode cX7_pool 82 = .ok (.ireturn, 1) := by decide +kernel
theorem dX7_withdraw_0 : decode cX7_withdraw 0 = .ok (.aload_n 0, 1) := by decide +kernel
theorem dX7_withdraw_1 : decode cX7_withdraw 1 = .ok (.iload_n 1, 1) := by decide +kernel
theorem dX7_withdraw_2 : decode cX7_withdraw 2 = .ok (.iload_n 2, 1) := by decide +kernel
theorem dX7_withdraw_3 : decode cX7_withdraw 3 = .ok (.invokevirtual 201, 3) := by decide +kernel
theorem dX7_withdraw_6 : decode cX7_withdraw 6 = .ok (.astore_n 3, 1) := by decide +kernel
theorem dX7_withdraw_7 : decode cX7_withdraw 7 = .ok (.aload_n 3, 1) := by decide +kernel
theorem dX7_withdraw_8 : decode cX7_withdraw 8 = .ok (.iload_n 2, 1) := by decide +kernel
theorem dX7_withdraw_9 : decode cX7_withdraw 9 = .ok (.invokevirtual 93, 3) := by decide +kernel
theorem dX7_withdraw_12 : decode cX7_withdraw 12 = .ok (.ifCond .ne 12, 3) := by decide +kernel
theorem dX7_withdraw_15 : decode cX7_withdraw 15 = .ok (.aload_n 0, 1) := by decide +kernel
theorem dX7_withdraw_16 : decode cX7_withdraw 16 = .ok (.aload_n 3, 1) := by decide +kernel
theorem dX7_withdraw_17 : decode cX7_withdraw 17 = .ok (.iload_n 2, 1) := by decide +kernel
theorem dX7_withdraw_18 : decode cX7_withdraw 18 = .ok (.invokevirtual 205, 3) := by decide +kernel
theorem dX7_withdraw_21 : decode cX7_withdraw 21 = .ok (.ifCond .eq 13, 3) := by decide +kernel
theorem dX7_withdraw_24 : decode cX7_withdraw 24 = .ok (.new 59, 3) := by decide +kernel
theorem dX7_withdraw_27 : decode cX7_withdraw 27 = .ok (.dup, 1) := by decide +kernel
theorem dX7_withdraw_28 : decode cX7_withdraw 28 = .ok (.ldc 209, 2) := by decide +kernel
theorem dX7_withdraw_30 : decode cX7_withdraw 30 = .ok (.invokespecial 63, 3) := by decide +kernel
theorem dX7_withdraw_33 : decode cX7_withdraw 33 = .ok (.athrow, 1) := by decide +kernel
theorem dX7_withdraw_34 : decode cX7_withdraw 34 = .ok (.iconst 0, 1) := by decide +kernel
theorem dX7_withdraw_35 : decode cX7_withdraw 35 = .ok (.istore 4, 2) := by decide +kernel
theorem dX7_withdraw_37 : decode cX7_withdraw 37 = .ok (.iconst 0, 1) := by decide +kernel
theorem dX7_withdraw_38 : decode cX7_withdraw 38 = .ok (.istore 5, 2) := by decide +kernel
theorem dX7_withdraw_40 : decode cX7_withdraw 40 = .ok (.iload 5, 2) := by decide +kernel
theorem dX7_withdraw_42 : decode cX7_withdraw 42 = .ok (.aload_n 0, 1) := by decide +kernel
theorem dX7_withdraw_43 : decode cX7_withdraw 43 = .ok (.getfield 46, 3) := by decide +kernel
theorem dX7_withdraw_46 : decode cX7_withdraw 46 = .ok (.if_icmp .ge 50, 3) := by decide +kernel
theorem dX7_withdraw_49 : decode cX7_withdraw 49 = .ok (.aload_n 0, 1) := by decide +kernel
theorem dX7_withdraw_50 : decode cX7_withdraw 50 = .ok (.iload 5, 2) := by decide +kernel
theorem dX7_withdraw_52 : decode cX7_withdraw 52 = .ok (.invokevirtual 211, 3) := by decide +kernel
theorem dX7_withdraw_55 : decode cX7_withdraw 55 = .ok (.astore 6, 2) := by decide +kernel
theorem dX7_withdraw_57 : decode cX7_withdraw 57 = .ok (.aload 6, 2) := by decide +kernel
theorem dX7_withdraw_59 : decode cX7_withdraw 59 = .ok (.ifnull 31, 3) := by decide +kernel
theorem dX7_withdraw_62 : decode cX7_withdraw 62 = .ok (.aload 6, 2) := by decide +kernel
theorem dX7_withdraw_64 : decode cX7_withdraw 64 = .ok (.iload_n 2, 1) := by decide +kernel
theorem dX7_withdraw_65 : decode cX7_withdraw 65 = .ok (.invokevirtual 215, 3) := by decide +kernel
theorem dX7_withdraw_68 : decode cX7_withdraw 68 = .ok (.ifCond .eq 22, 3) := by decide +kernel
theorem dX7_withdraw_71 : decode cX7_withdraw 71 = .ok (.aload_n 3, 1) := by decide +kernel
theorem dX7_withdraw_72 : decode cX7_withdraw 72 = .ok (.aload 6, 2) := by decide +kernel
theorem dX7_withdraw_74 : decode cX7_withdraw 74 = .ok (.invokevirtual 216, 3) := by decide +kernel
theorem dX7_withdraw_77 : decode cX7_withdraw 77 = .ok (.ifCond .eq 13, 3) := by decide +kernel
theorem dX7_withdraw_80 : decode cX7_withdraw 80 = .ok (.aload_n 3, 1) := by decide +kernel
theorem dX7_withdraw_81 : decode cX7_withdraw 81 = .ok (.aload 6, 2) := by decide +kernel
theorem dX7_withdraw_83 : decode cX7_withdraw 83 = .ok (.iconst (-1), 1) := by decide +kernel
theorem dX7_withdraw_84 : decode cX7_withdraw 84 = .ok (.invokevirtual 220, 3) := by decide +kernel
theorem dX7_withdraw_87 : decode cX7_withdraw 87 = .ok (.iinc 4 1, 3) := by decide +kernel
theorem dX7_withdraw_90 : decode cX7_withdraw 90 = .ok (.iinc 5 1, 3) := by decide +kernel
theorem dX7_withdraw_93 : decode cX7_withdraw 93 = .ok (.goto (-53), 3) := by decide +kernel
theorem dX7_withdraw_96 : decode cX7_withdraw 96 = .ok (.aload_n 3, 1) := by decide +kernel
theorem dX7_withdraw_97 : decode cX7_withdraw 97 = .ok (.iload_n 2, 1) := by decide +kernel
theorem dX7_withdraw_98 : decode cX7_withdraw 98 = .ok (.invokevirtual 224, 3) := by decide +kernel
theorem dX7_withdraw_101 : decode cX7_withdraw 101 = .ok (.iload 4, 2) := by decide +kernel
theorem dX7_withdraw_103 : decode cX7_withdraw 103 = .ok (.ireturn, 1) := by decide +kernel
theorem dX7_tableau_0 : decode cX7_tableau 0 = .ok (.aload_n 0, 1) := by decide +kernel
theorem dX7_tableau_1 : decode cX7_tableau 1 = .ok (.iload_n 1, 1) := by decide +kernel
theorem dX7_tableau_2 : decode cX7_tableau 2 = .ok (.invokevirtual 66, 3) := by decide +kernel
theorem dX7_tableau_5 : decode cX7_tableau 5 = .ok (.astore_n 2, 1) := by decide +kernel
theorem dX7_tableau_6 : decode cX7_tableau 6 = .ok (.aload_n 2, 1) := by decide +kernel
theorem dX7_tableau_7 : decode cX7_tableau 7 = .ok (.ifnonnull 13, 3) := by decide +kernel
theorem dX7_tableau_10 : decode cX7_tableau 10 = .ok (.new 74, 3) := by decide +kernel
theorem dX7_tableau_13 : decode cX7_tableau 13 = .ok (.dup, 1) := by decide +kernel
theorem dX7_tableau_14 : decode cX7_tableau 14 = .ok (.ldc 227, 2) := by decide +kernel
theorem dX7_tableau_16 : decode cX7_tableau 16 = .ok (.invokespecial 78, 3) := by decide +kernel
theorem dX7_tableau_19 : decode cX7_tableau 19 = .ok (.athrow, 1) := by decide +kernel
theorem dX7_tableau_20 : decode cX7_tableau 20 = .ok (.aload_n 2, 1) := by decide +kernel
theorem dX7_tableau_21 : decode cX7_tableau 21 = .ok (.invokevirtual 229, 3) := by decide +kernel
theorem dX7_tableau_24 : decode cX7_tableau 24 = .ok (.iconst 2, 1) := by decide +kernel
theorem dX7_tableau_25 : decode cX7_tableau 25 = .ok (.if_icmp .ge 13, 3) := by decide +kernel
theorem dX7_tableau_28 : decode cX7_tableau 28 = .ok (.new 59, 3) := by decide +kernel
theorem dX7_tableau_31 : decode cX7_tableau 31 = .ok (.dup, 1) := by decide +kernel
theorem dX7_tableau_32 : decode cX7_tableau 32 = .ok (.ldc 232, 2) := by decide +kernel
theorem dX7_tableau_34 : decode cX7_tableau 34 = .ok (.invokespecial 63, 3) := by decide +kernel
theorem dX7_tableau_37 : decode cX7_tableau 37 = .ok (.athrow, 1) := by decide +kernel
theorem dX7_tableau_38 : decode cX7_tableau 38 = .ok (.aload_n 0, 1) := by decide +kernel
theorem dX7_tableau_39 : decode cX7_tableau 39 = .ok (.getfield 31, 3) := by decide +kernel
theorem dX7_tableau_42 : decode cX7_tableau 42 = .ok (.aload_n 2, 1) := by decide +kernel
theorem dX7_tableau_43 : decode cX7_tableau 43 = .ok (.invokevirtual 234, 3) := by decide +kernel
theorem dX7_tableau_46 : decode cX7_tableau 46 = .ok (.aload_n 0, 1) := by decide +kernel
theorem dX7_tableau_47 : decode cX7_tableau 47 = .ok (.getfield 31, 3) := by decide +kernel
theorem dX7_tableau_50 : decode cX7_tableau 50 = .ok (.getfield 238, 3) := by decide +kernel
theorem dX7_tableau_53 : decode cX7_tableau 53 = .ok (.ireturn, 1) := by decide +kernel
theorem dX7_wins_0 : decode cX7_wins 0 = .ok (.aload_n 0, 1) := by decide +kernel
theorem dX7_wins_1 : decode cX7_wins 1 = .ok (.iload_n 1, 1) := by decide +kernel
theorem dX7_wins_2 : decode cX7_wins 2 = .ok (.iload_n 2, 1) := by decide +kernel
theorem dX7_wins_3 : decode cX7_wins 3 = .ok (.invokevirtual 241, 3) := by decide +kernel
theorem dX7_wins_6 : decode cX7_wins 6 = .ok (.iload_n 3, 1) := by decide +kernel
theorem dX7_wins_7 : decode cX7_wins 7 = .ok (.invokestatic 107, 3) := by decide +kernel
theorem dX7_wins_10 : decode cX7_wins 10 = .ok (.ifCond .ne 13, 3) := by decide +kernel
theorem dX7_wins_13 : decode cX7_wins 13 = .ok (.new 83, 3) := by decide +kernel
theorem dX7_wins_16 : decode cX7_wins 16 = .ok (.dup, 1) := by decide +kernel
theorem dX7_wins_17 : decode cX7_wins 17 = .ok (.ldc 244, 2) := by decide +kernel
theorem dX7_wins_19 : decode cX7_wins 19 = .ok (.invokespecial 87, 3) := by decide +kernel
theorem dX7_wins_22 : decode cX7_wins 22 = .ok (.athrow, 1) := by decide +kernel
theorem dX7_wins_23 : decode cX7_wins 23 = .ok (.aload_n 0, 1) := by decide +kernel
theorem dX7_wins_24 : decode cX7_wins 24 = .ok (.getfield 31, 3) := by decide +kernel
theorem dX7_wins_27 : decode cX7_wins 27 = .ok (.iload_n 1, 1) := by decide +kernel
theorem dX7_wins_28 : decode cX7_wins 28 = .ok (.iload_n 2, 1) := by decide +kernel
theorem dX7_wins_29 : decode cX7_wins 29 = .ok (.invokevirtual 246, 3) := by decide +kernel
theorem dX7_wins_32 : decode cX7_wins 32 = .ok (.ifCond .ne 13, 3) := by decide +kernel
theorem dX7_wins_35 : decode cX7_wins 35 = .ok (.new 59, 3) := by decide +kernel
theorem dX7_wins_38 : decode cX7_wins 38 = .ok (.dup, 1) := by decide +kernel
theorem dX7_wins_39 : decode cX7_wins 39 = .ok (.ldc 250, 2) := by decide +kernel
theorem dX7_wins_41 : decode cX7_wins 41 = .ok (.invokespecial 63, 3) := by decide +kernel
theorem dX7_wins_44 : decode cX7_wins 44 = .ok (.athrow, 1) := by decide +kernel
theorem dX7_wins_45 : decode cX7_wins 45 = .ok (.aload_n 0, 1) := by decide +kernel
theorem dX7_wins_46 : decode cX7_wins 46 = .ok (.getfield 31, 3) := by decide +kernel
theorem dX7_wins_49 : decode cX7_wins 49 = .ok (.iload_n 1, 1) := by decide +kernel
theorem dX7_wins_50 : decode cX7_wins 50 = .ok (.iload_n 2, 1) := by decide +kernel
theorem dX7_wins_51 : decode cX7_wins 51 = .ok (.iload_n 3, 1) := by decide +kernel
theorem dX7_wins_52 : decode cX7_wins 52 = .ok (.invokevirtual 252, 3) := by decide +kernel
theorem dX7_wins_55 : decode cX7_wins 55 = .ok (.ireturn, 1) := by decide +kernel
theorem dX7_lamp_0 : decode cX7_lamp 0 = .ok (.iload_n 1, 1) := by decide +kernel
theorem dX7_lamp_1 : decode cX7_lamp 1 = .ok (.invokestatic 107, 3) := by decide +kernel
theorem dX7_lamp_4 : decode cX7_lamp 4 = .ok (.ifCond .ne 13, 3) := by decide +kernel
theorem dX7_lamp_7 : decode cX7_lamp 7 = .ok (.new 83, 3) := by decide +kernel
theorem dX7_lamp_10 : decode cX7_lamp 10 = .ok (.dup, 1) := by decide +kernel
theorem dX7_lamp_11 : decode cX7_lamp 11 = .ok (.ldc 244, 2) := by decide +kernel
theorem dX7_lamp_13 : decode cX7_lamp 13 = .ok (.invokespecial 87, 3) := by decide +kernel
theorem dX7_lamp_16 : decode cX7_lamp 16 = .ok (.athrow, 1) := by decide +kernel
theorem dX7_lamp_17 : decode cX7_lamp 17 = .ok (.aload_n 0, 1) := by decide +kernel
theorem dX7_lamp_18 : decode cX7_lamp 18 = .ok (.getfield 52, 3) := by decide +kernel
theorem dX7_lamp_21 : decode cX7_lamp 21 = .ok (.ifnonnull 7, 3) := by decide +kernel
theorem dX7_lamp_24 : decode cX7_lamp 24 = .ok (.iconst (-1), 1) := by decide +kernel
theorem dX7_lamp_25 : decode cX7_lamp 25 = .ok (.goto 25, 3) := by decide +kernel
theorem dX7_lamp_28 : decode cX7_lamp 28 = .ok (.aload_n 0, 1) := by decide +kernel
theorem dX7_lamp_29 : decode cX7_lamp 29 = .ok (.getfield 24, 3) := by decide +kernel
theorem dX7_lamp_32 : decode cX7_lamp 32 = .ok (.aload_n 0, 1) := by decide +kernel
theorem dX7_lamp_33 : decode cX7_lamp 33 = .ok (.getfield 24, 3) := by decide +kernel
theorem dX7_lamp_36 : decode cX7_lamp 36 = .ok (.iload_n 1, 1) := by decide +kernel
theorem dX7_lamp_37 : decode cX7_lamp 37 = .ok (.aload_n 0, 1) := by decide +kernel
theorem dX7_lamp_38 : decode cX7_lamp 38 = .ok (.getfield 52, 3) := by decide +kernel
theorem dX7_lamp_41 : decode cX7_lamp 41 = .ok (.getfield 133, 3) := by decide +kernel
theorem dX7_lamp_44 : decode cX7_lamp 44 = .ok (.invokevirtual 255, 3) := by decide +kernel
theorem dX7_lamp_47 : decode cX7_lamp 47 = .ok (.invokevirtual 258, 3) := by decide +kernel
theorem dX7_lamp_50 : decode cX7_lamp 50 = .ok (.ireturn, 1) := by decide +kernel
theorem dX7_holder_0 : decode cX7_holder 0 = .ok (.aload_n 0, 1) := by decide +kernel
theorem dX7_holder_1 : decode cX7_holder 1 = .ok (.getfield 24, 3) := by decide +kernel
theorem dX7_holder_4 : decode cX7_holder 4 = .ok (.aload_n 0, 1) := by decide +kernel
theorem dX7_holder_5 : decode cX7_holder 5 = .ok (.getfield 24, 3) := by decide +kernel
theorem dX7_holder_8 : decode cX7_holder 8 = .ok (.getfield 261, 3) := by decide +kernel
theorem dX7_holder_11 : decode cX7_holder 11 = .ok (.invokevirtual 264, 3) := by decide +kernel
theorem dX7_holder_14 : decode cX7_holder 14 = .ok (.ireturn, 1) := by decide +kernel
theorem dX7_reason_0 : decode cX7_reason 0 = .ok (.aload_n 0, 1) := by decide +kernel
theorem dX7_reason_1 : decode cX7_reason 1 = .ok (.getfield 56, 3) := by decide +kernel
theorem dX7_reason_4 : decode cX7_reason 4 = .ok (.ireturn, 1) := by decide +kernel
theorem dX7_ofBout_0 : decode cX7_ofBout 0 = .ok (.aload_n 0, 1) := by decide +kernel
theorem dX7_ofBout_1 : decode cX7_ofBout 1 = .ok (.iload_n 1, 1) := by decide +kernel
theorem dX7_ofBout_2 : decode cX7_ofBout 2 = .ok (.invokevirtual 211, 3) := by decide +kernel
theorem dX7_ofBout_5 : decode cX7_ofBout 5 = .ok (.astore_n 3, 1) := by decide +kernel
theorem dX7_ofBout_6 : decode cX7_ofBout 6 = .ok (.aload_n 3, 1) := by decide +kernel
theorem dX7_ofBout_7 : decode cX7_ofBout 7 = .ok (.ifnonnull 14, 3) := by decide +kernel
theorem dX7_ofBout_10 : decode cX7_ofBout 10 = .ok (.new 74, 3) := by decide +kernel
theorem dX7_ofBout_13 : decode cX7_ofBout 13 = .ok (.dup, 1) := by decide +kernel
theorem dX7_ofBout_14 : decode cX7_ofBout 14 = .ok (.ldc_w 267, 3) := by decide +kernel
theorem dX7_ofBout_17 : decode cX7_ofBout 17 = .ok (.invokespecial 78, 3) := by decide +kernel
theorem dX7_ofBout_20 : decode cX7_ofBout 20 = .ok (.athrow, 1) := by decide +kernel
theorem dX7_ofBout_21 : decode cX7_ofBout 21 = .ok (.iload_n 2, 1) := by decide +kernel
theorem dX7_ofBout_22 : decode cX7_ofBout 22 = .ok (.iconst 0, 1) := by decide +kernel
theorem dX7_ofBout_23 : decode cX7_ofBout 23 = .ok (.iconst 5, 1) := by decide +kernel
theorem dX7_ofBout_24 : decode cX7_ofBout 24 = .ok (.invokestatic 79, 3) := by decide +kernel
theorem dX7_ofBout_27 : decode cX7_ofBout 27 = .ok (.ifCond .ne 14, 3) := by decide +kernel
theorem dX7_ofBout_30 : decode cX7_ofBout 30 = .ok (.new 83, 3) := by decide +kernel
theorem dX7_ofBout_33 : decode cX7_ofBout 33 = .ok (.dup, 1) := by decide +kernel
theorem dX7_ofBout_34 : decode cX7_ofBout 34 = .ok (.ldc_w 269, 3) := by decide +kernel
theorem dX7_ofBout_37 : decode cX7_ofBout 37 = .ok (.invokespecial 87, 3) := by decide +kernel
theorem dX7_ofBout_40 : decode cX7_ofBout 40 = .ok (.athrow, 1) := by decide +kernel
theorem dX7_ofBout_41 : decode cX7_ofBout 41 = .ok (.aload_n 3, 1) := by decide +kernel
theorem dX7_ofBout_42 : decode cX7_ofBout 42 = .ok (.iload_n 2, 1) := by decide +kernel
theorem dX7_ofBout_43 : decode cX7_ofBout 43 = .ok (.invokevirtual 271, 3) := by decide +kernel
theorem dX7_ofBout_46 : decode cX7_ofBout 46 = .ok (.ireturn, 1) := by decide +kernel
theorem dX7_ofPool_0 : decode cX7_ofPool 0 = .ok (.aload_n 0, 1) := by decide +kernel
theorem dX7_ofPool_1 : decode cX7_ofPool 1 = .ok (.iload_n 1, 1) := by decide +kernel
theorem dX7_ofPool_2 : decode cX7_ofPool 2 = .ok (.iload_n 2, 1) := by decide +kernel
theorem dX7_ofPool_3 : decode cX7_ofPool 3 = .ok (.invokevirtual 201, 3) := by decide +kernel
theorem dX7_ofPool_6 : decode cX7_ofPool 6 = .ok (.astore 4, 2) := by decide +kernel
theorem dX7_ofPool_8 : decode cX7_ofPool 8 = .ok (.iload_n 3, 1) := by decide +kernel
theorem dX7_ofPool_9 : decode cX7_ofPool 9 = .ok (.invokestatic 274, 3) := by decide +kernel
theorem dX7_ofPool_12 : decode cX7_ofPool 12 = .ok (.aload 4, 2) := by decide +kernel
theorem dX7_ofPool_14 : decode cX7_ofPool 14 = .ok (.iload_n 2, 1) := by decide +kernel
theorem dX7_ofPool_15 : decode cX7_ofPool 15 = .ok (.iload_n 3, 1) := by decide +kernel
theorem dX7_ofPool_16 : decode cX7_ofPool 16 = .ok (.invokevirtual 277, 3) := by decide +kernel
theorem dX7_ofPool_19 : decode cX7_ofPool 19 = .ok (.ireturn, 1) := by decide +kernel
theorem dX7_ofPoolAnew_0 : decode cX7_ofPoolAnew 0 = .ok (.aload_n 0, 1) := by decide +kernel
theorem dX7_ofPoolAnew_1 : decode cX7_ofPoolAnew 1 = .ok (.iload_n 1, 1) := by decide +kernel
theorem dX7_ofPoolAnew_2 : decode cX7_ofPoolAnew 2 = .ok (.iload_n 2, 1) := by decide +kernel
theorem dX7_ofPoolAnew_3 : decode cX7_ofPoolAnew 3 = .ok (.invokevirtual 201, 3) := by decide +kernel
theorem dX7_ofPoolAnew_6 : decode cX7_ofPoolAnew 6 = .ok (.astore 4, 2) := by decide +kernel
theorem dX7_ofPoolAnew_8 : decode cX7_ofPoolAnew 8 = .ok (.iload_n 3, 1) := by decide +kernel
theorem dX7_ofPoolAnew_9 : decode cX7_ofPoolAnew 9 = .ok (.invokestatic 274, 3) := by decide +kernel
theorem dX7_ofPoolAnew_12 : decode cX7_ofPoolAnew 12 = .ok (.iconst 0, 1) := by decide +kernel
theorem dX7_ofPoolAnew_13 : decode cX7_ofPoolAnew 13 = .ok (.istore 5, 2) := by decide +kernel
theorem dX7_ofPoolAnew_15 : decode cX7_ofPoolAnew 15 = .ok (.iconst 0, 1) := by decide +kernel
theorem dX7_ofPoolAnew_16 : decode cX7_ofPoolAnew 16 = .ok (.istore 6, 2) := by decide +kernel
theorem dX7_ofPoolAnew_18 : decode cX7_ofPoolAnew 18 = .ok (.iload 6, 2) := by decide +kernel
theorem dX7_ofPoolAnew_20 : decode cX7_ofPoolAnew 20 = .ok (.aload_n 0, 1) := by decide +kernel
theorem dX7_ofPoolAnew_21 : decode cX7_ofPoolAnew 21 = .ok (.getfield 46, 3) := by decide +kernel
theorem dX7_ofPoolAnew_24 : decode cX7_ofPoolAnew 24 = .ok (.if_icmp .ge 58, 3) := by decide +kernel
theorem dX7_ofPoolAnew_27 : decode cX7_ofPoolAnew 27 = .ok (.aload_n 0, 1) := by decide +kernel
theorem dX7_ofPoolAnew_28 : decode cX7_ofPoolAnew 28 = .ok (.iload 6, 2) := by decide +kernel
theorem dX7_ofPoolAnew_30 : decode cX7_ofPoolAnew 30 = .ok (.invokevirtual 211, 3) := by decide +kernel
theorem dX7_ofPoolAnew_33 : decode cX7_ofPoolAnew 33 = .ok (.astore 7, 2) := by decide +kernel
theorem dX7_ofPoolAnew_35 : decode cX7_ofPoolAnew 35 = .ok (.aload 7, 2) := by decide +kernel
theorem dX7_ofPoolAnew_37 : decode cX7_ofPoolAnew 37 = .ok (.ifnull 39, 3) := by decide +kernel
theorem dX7_ofPoolAnew_40 : decode cX7_ofPoolAnew 40 = .ok (.aload 7, 2) := by decide +kernel
theorem dX7_ofPoolAnew_42 : decode cX7_ofPoolAnew 42 = .ok (.iload_n 2, 1) := by decide +kernel
theorem dX7_ofPoolAnew_43 : decode cX7_ofPoolAnew 43 = .ok (.invokevirtual 215, 3) := by decide +kernel
theorem dX7_ofPoolAnew_46 : decode cX7_ofPoolAnew 46 = .ok (.ifCond .eq 30, 3) := by decide +kernel
theorem dX7_ofPoolAnew_49 : decode cX7_ofPoolAnew 49 = .ok (.aload 4, 2) := by decide +kernel
theorem dX7_ofPoolAnew_51 : decode cX7_ofPoolAnew 51 = .ok (.aload 7, 2) := by decide +kernel
theorem dX7_ofPoolAnew_53 : decode cX7_ofPoolAnew 53 = .ok (.invokevirtual 216, 3) := by decide +kernel
theorem dX7_ofPoolAnew_56 : decode cX7_ofPoolAnew 56 = .ok (.ifCond .eq 20, 3) := by decide +kernel
theorem dX7_ofPoolAnew_59 : decode cX7_ofPoolAnew 59 = .ok (.iload 5, 2) := by decide +kernel
theorem dX7_ofPoolAnew_61 : decode cX7_ofPoolAnew 61 = .ok (.aload 7, 2) := by decide +kernel
theorem dX7_ofPoolAnew_63 : decode cX7_ofPoolAnew 63 = .ok (.aload 7, 2) := by decide +kernel
theorem dX7_ofPoolAnew_65 : decode cX7_ofPoolAnew 65 = .ok (.iload_n 2, 1) := by decide +kernel
theorem dX7_ofPoolAnew_66 : decode cX7_ofPoolAnew 66 = .ok (.invokevirtual 280, 3) := by decide +kernel
theorem dX7_ofPoolAnew_69 : decode cX7_ofPoolAnew 69 = .ok (.iload_n 3, 1) := by decide +kernel
theorem dX7_ofPoolAnew_70 : decode cX7_ofPoolAnew 70 = .ok (.invokevirtual 283, 3) := by decide +kernel
theorem dX7_ofPoolAnew_73 : decode cX7_ofPoolAnew 73 = .ok (.iadd, 1) := by decide +kernel
theorem dX7_ofPoolAnew_74 : decode cX7_ofPoolAnew 74 = .ok (.istore 5, 2) := by decide +kernel
theorem dX7_ofPoolAnew_76 : decode cX7_ofPoolAnew 76 = .ok (.iinc 6 1, 3) := by decide +kernel
theorem dX7_ofPoolAnew_79 : decode cX7_ofPoolAnew 79 = .ok (.goto (-61), 3) := by decide +kernel
theorem dX7_ofPoolAnew_82 : decode cX7_ofPoolAnew 82 = .ok (.iload 5, 2) := by decide +kernel
theorem dX7_ofPoolAnew_84 : decode cX7_ofPoolAnew 84 = .ok (.ireturn, 1) := by decide +kernel
theorem dX7_rank_0 : decode cX7_rank 0 = .ok (.aload_n 0, 1) := by decide +kernel
theorem dX7_rank_1 : decode cX7_rank 1 = .ok (.iload_n 1, 1) := by decide +kernel
theorem dX7_rank_2 : decode cX7_rank 2 = .ok (.invokevirtual 66, 3) := by decide +kernel
theorem dX7_rank_5 : decode cX7_rank 5 = .ok (.astore_n 3, 1) := by decide +kernel
theorem dX7_rank_6 : decode cX7_rank 6 = .ok (.aload_n 3, 1) := by decide +kernel
theorem dX7_rank_7 : decode cX7_rank 7 = .ok (.ifnull 7, 3) := by decide +kernel
theorem dX7_rank_10 : decode cX7_rank 10 = .ok (.iload_n 2, 1) := by decide +kernel
theorem dX7_rank_11 : decode cX7_rank 11 = .ok (.ifCond .ge 14, 3) := by decide +kernel
theorem dX7_rank_14 : decode cX7_rank 14 = .ok (.new 74, 3) := by decide +kernel
theorem dX7_rank_17 : decode cX7_rank 17 = .ok (.dup, 1) := by decide +kernel
theorem dX7_rank_18 : decode cX7_rank 18 = .ok (.ldc_w 286, 3) := by decide +kernel
theorem dX7_rank_21 : decode cX7_rank 21 = .ok (.invokespecial 78, 3) := by decide +kernel
theorem dX7_rank_24 : decode cX7_rank 24 = .ok (.athrow, 1) := by decide +kernel
theorem dX7_rank_25 : decode cX7_rank 25 = .ok (.aload_n 3, 1) := by decide +kernel
theorem dX7_rank_26 : decode cX7_rank 26 = .ok (.invokevirtual 288, 3) := by decide +kernel
theorem dX7_rank_29 : decode cX7_rank 29 = .ok (.aload_n 3, 1) := by decide +kernel
theorem dX7_rank_30 : decode cX7_rank 30 = .ok (.iload_n 2, 1) := by decide +kernel
theorem dX7_rank_31 : decode cX7_rank 31 = .ok (.invokevirtual 291, 3) := by decide +kernel
theorem dX7_rank_34 : decode cX7_rank 34 = .ok (.ireturn, 1) := by decide +kernel
theorem dX7_meets_0 : decode cX7_meets 0 = .ok (.aload_n 0, 1) := by decide +kernel
theorem dX7_meets_1 : decode cX7_meets 1 = .ok (.iload_n 1, 1) := by decide +kernel
theorem dX7_meets_2 : decode cX7_meets 2 = .ok (.iload_n 2, 1) := by decide +kernel
theorem dX7_meets_3 : decode cX7_meets 3 = .ok (.invokevirtual 241, 3) := by decide +kernel
theorem dX7_meets_6 : decode cX7_meets 6 = .ok (.iload_n 3, 1) := by decide +kernel
theorem dX7_meets_7 : decode cX7_meets 7 = .ok (.iconst 0, 1) := by decide +kernel
theorem dX7_meets_8 : decode cX7_meets 8 = .ok (.iconst 2, 1) := by decide +kernel
theorem dX7_meets_9 : decode cX7_meets 9 = .ok (.invokestatic 79, 3) := by decide +kernel
theorem dX7_meets_12 : decode cX7_meets 12 = .ok (.ifCond .ne 13, 3) := by decide +kernel
theorem dX7_meets_15 : decode cX7_meets 15 = .ok (.new 83, 3) := by decide +kernel
theorem dX7_meets_18 : decode cX7_meets 18 = .ok (.dup, 1) := by decide +kernel
theorem dX7_meets_19 : decode cX7_meets 19 = .ok (.ldc 244, 2) := by decide +kernel
theorem dX7_meets_21 : decode cX7_meets 21 = .ok (.invokespecial 87, 3) := by decide +kernel
theorem dX7_meets_24 : decode cX7_meets 24 = .ok (.athrow, 1) := by decide +kernel
theorem dX7_meets_25 : decode cX7_meets 25 = .ok (.iload_n 3, 1) := by decide +kernel
theorem dX7_meets_26 : decode cX7_meets 26 = .ok (.iconst 2, 1) := by decide +kernel
theorem dX7_meets_27 : decode cX7_meets 27 = .ok (.if_icmp .ne 15, 3) := by decide +kernel
theorem dX7_meets_30 : decode cX7_meets 30 = .ok (.aload_n 0, 1) := by decide +kernel
theorem dX7_meets_31 : decode cX7_meets 31 = .ok (.getfield 31, 3) := by decide +kernel
theorem dX7_meets_34 : decode cX7_meets 34 = .ok (.iload_n 1, 1) := by decide +kernel
theorem dX7_meets_35 : decode cX7_meets 35 = .ok (.iload_n 2, 1) := by decide +kernel
theorem dX7_meets_36 : decode cX7_meets 36 = .ok (.invokevirtual 294, 3) := by decide +kernel
theorem dX7_meets_39 : decode cX7_meets 39 = .ok (.goto 13, 3) := by decide +kernel
theorem dX7_meets_42 : decode cX7_meets 42 = .ok (.aload_n 0, 1) := by decide +kernel
theorem dX7_meets_43 : decode cX7_meets 43 = .ok (.getfield 31, 3) := by decide +kernel
theorem dX7_meets_46 : decode cX7_meets 46 = .ok (.iload_n 1, 1) := by decide +kernel
theorem dX7_meets_47 : decode cX7_meets 47 = .ok (.iload_n 2, 1) := by decide +kernel
theorem dX7_meets_48 : decode cX7_meets 48 = .ok (.iload_n 3, 1) := by decide +kernel
theorem dX7_meets_49 : decode cX7_meets 49 = .ok (.invokevirtual 297, 3) := by decide +kernel
theorem dX7_meets_52 : decode cX7_meets 52 = .ok (.ireturn, 1) := by decide +kernel
theorem dX7_isWithin_0 : decode cX7_isWithin 0 = .ok (.iload_n 0, 1) := by decide +kernel
theorem dX7_isWithin_1 : decode cX7_isWithin 1 = .ok (.iload_n 1, 1) := by decide +kernel
theorem dX7_isWithin_2 : decode cX7_isWithin 2 = .ok (.if_icmp .lt 12, 3) := by decide +kernel
theorem dX7_isWithin_5 : decode cX7_isWithin 5 = .ok (.iload_n 0, 1) := by decide +kernel
theorem dX7_isWithin_6 : decode cX7_isWithin 6 = .ok (.iload_n 2, 1) := by decide +kernel
theorem dX7_isWithin_7 : decode cX7_isWithin 7 = .ok (.if_icmp .gt 7, 3) := by decide +kernel
theorem dX7_isWithin_10 : decode cX7_isWithin 10 = .ok (.iconst 1, 1) := by decide +kernel
theorem dX7_isWithin_11 : decode cX7_isWithin 11 = .ok (.goto 4, 3) := by decide +kernel
theorem dX7_isWithin_14 : decode cX7_isWithin 14 = .ok (.iconst 0, 1) := by decide +kernel
theorem dX7_isWithin_15 : decode cX7_isWithin 15 = .ok (.ireturn, 1) := by decide +kernel
theorem dX7_isSide_0 : decode cX7_isSide 0 = .ok (.iload_n 0, 1) := by decide +kernel
theorem dX7_isSide_1 : decode cX7_isSide 1 = .ok (.ifCond .eq 8, 3) := by decide +kernel
theorem dX7_isSide_4 : decode cX7_isSide 4 = .ok (.iload_n 0, 1) := by decide +kernel
theorem dX7_isSide_5 : decode cX7_isSide 5 = .ok (.iconst 1, 1) := by decide +kernel
theorem dX7_isSide_6 : decode cX7_isSide 6 = .ok (.if_icmp .ne 7, 3) := by decide +kernel
theorem dX7_isSide_9 : decode cX7_isSide 9 = .ok (.iconst 1, 1) := by decide +kernel
theorem dX7_isSide_10 : decode cX7_isSide 10 = .ok (.goto 4, 3) := by decide +kernel
theorem dX7_isSide_13 : decode cX7_isSide 13 = .ok (.iconst 0, 1) := by decide +kernel
theorem dX7_isSide_14 : decode cX7_isSide 14 = .ok (.ireturn, 1) := by decide +kernel
theorem dX7_isFencer_0 : decode cX7_isFencer 0 = .ok (.iload_n 1, 1) := by decide +kernel
theorem dX7_isFencer_1 : decode cX7_isFencer 1 = .ok (.ifCond .lt 15, 3) := by decide +kernel
theorem dX7_isFencer_4 : decode cX7_isFencer 4 = .ok (.iload_n 1, 1) := by decide +kernel
theorem dX7_isFencer_5 : decode cX7_isFencer 5 = .ok (.aload_n 0, 1) := by decide +kernel
theorem dX7_isFencer_6 : decode cX7_isFencer 6 = .ok (.getfield 42, 3) := by decide +kernel
theorem dX7_isFencer_9 : decode cX7_isFencer 9 = .ok (.if_icmp .ge 7, 3) := by decide +kernel
theorem dX7_isFencer_12 : decode cX7_isFencer 12 = .ok (.iconst 1, 1) := by decide +kernel
theorem dX7_isFencer_13 : decode cX7_isFencer 13 = .ok (.goto 4, 3) := by decide +kernel
theorem dX7_isFencer_16 : decode cX7_isFencer 16 = .ok (.iconst 0, 1) := by decide +kernel
theorem dX7_isFencer_17 : decode cX7_isFencer 17 = .ok (.ireturn, 1) := by decide +kernel
theorem dX7_boutAt_0 : decode cX7_boutAt 0 = .ok (.iload_n 1, 1) := by decide +kernel
theorem dX7_boutAt_1 : decode cX7_boutAt 1 = .ok (.ifCond .lt 29, 3) := by decide +kernel
theorem dX7_boutAt_4 : decode cX7_boutAt 4 = .ok (.iload_n 1, 1) := by decide +kernel
theorem dX7_boutAt_5 : decode cX7_boutAt 5 = .ok (.aload_n 0, 1) := by decide +kernel
theorem dX7_boutAt_6 : decode cX7_boutAt 6 = .ok (.getfield 46, 3) := by decide +kernel
theorem dX7_boutAt_9 : decode cX7_boutAt 9 = .ok (.if_icmp .ge 21, 3) := by decide +kernel
theorem dX7_boutAt_12 : decode cX7_boutAt 12 = .ok (.iload_n 1, 1) := by decide +kernel
theorem dX7_boutAt_13 : decode cX7_boutAt 13 = .ok (.aload_n 0, 1) := by decide +kernel
theorem dX7_boutAt_14 : decode cX7_boutAt 14 = .ok (.getfield 11, 3) := by decide +kernel
theorem dX7_boutAt_17 : decode cX7_boutAt 17 = .ok (.arraylength, 1) := by decide +kernel
theorem dX7_boutAt_18 : decode cX7_boutAt 18 = .ok (.if_icmp .ge 12, 3) := by decide +kernel
theorem dX7_boutAt_21 : decode cX7_boutAt 21 = .ok (.aload_n 0, 1) := by decide +kernel
theorem dX7_boutAt_22 : decode cX7_boutAt 22 = .ok (.getfield 11, 3) := by decide +kernel
theorem dX7_boutAt_25 : decode cX7_boutAt 25 = .ok (.iload_n 1, 1) := by decide +kernel
theorem dX7_boutAt_26 : decode cX7_boutAt 26 = .ok (.aaload, 1) := by decide +kernel
theorem dX7_boutAt_27 : decode cX7_boutAt 27 = .ok (.goto 4, 3) := by decide +kernel
theorem dX7_boutAt_30 : decode cX7_boutAt 30 = .ok (.aconst_null, 1) := by decide +kernel
theorem dX7_boutAt_31 : decode cX7_boutAt 31 = .ok (.areturn, 1) := by decide +kernel
theorem dX7_poolOf_0 : decode cX7_poolOf 0 = .ok (.iload_n 1, 1) := by decide +kernel
theorem dX7_poolOf_1 : decode cX7_poolOf 1 = .ok (.ifCond .lt 29, 3) := by decide +kernel
theorem dX7_poolOf_4 : decode cX7_poolOf 4 = .ok (.iload_n 1, 1) := by decide +kernel
theorem dX7_poolOf_5 : decode cX7_poolOf 5 = .ok (.aload_n 0, 1) := by decide +kernel
theorem dX7_poolOf_6 : decode cX7_poolOf 6 = .ok (.getfield 49, 3) := by decide +kernel
theorem dX7_poolOf_9 : decode cX7_poolOf 9 = .ok (.if_icmp .ge 21, 3) := by decide +kernel
theorem dX7_poolOf_12 : decode cX7_poolOf 12 = .ok (.iload_n 1, 1) := by decide +kernel
theorem dX7_poolOf_13 : decode cX7_poolOf 13 = .ok (.aload_n 0, 1) := by decide +kernel
theorem dX7_poolOf_14 : decode cX7_poolOf 14 = .ok (.getfield 17, 3) := by decide +kernel
theorem dX7_poolOf_17 : decode cX7_poolOf 17 = .ok (.arraylength, 1) := by decide +kernel
theorem dX7_poolOf_18 : decode cX7_poolOf 18 = .ok (.if_icmp .ge 12, 3) := by decide +kernel
theorem dX7_poolOf_21 : decode cX7_poolOf 21 = .ok (.aload_n 0, 1) := by decide +kernel
theorem dX7_poolOf_22 : decode cX7_poolOf 22 = .ok (.getfield 17, 3) := by decide +kernel
theorem dX7_poolOf_25 : decode cX7_poolOf 25 = .ok (.iload_n 1, 1) := by decide +kernel
theorem dX7_poolOf_26 : decode cX7_poolOf 26 = .ok (.aaload, 1) := by decide +kernel
theorem dX7_poolOf_27 : decode cX7_poolOf 27 = .ok (.goto 4, 3) := by decide +kernel
theorem dX7_poolOf_30 : decode cX7_poolOf 30 = .ok (.aconst_null, 1) := by decide +kernel
theorem dX7_poolOf_31 : decode cX7_poolOf 31 = .ok (.areturn, 1) := by decide +kernel
theorem dX7_poolWith_0 : decode cX7_poolWith 0 = .ok (.aload_n 0, 1) := by decide +kernel
theorem dX7_poolWith_1 : decode cX7_poolWith 1 = .ok (.iload_n 1, 1) := by decide +kernel
theorem dX7_poolWith_2 : decode cX7_poolWith 2 = .ok (.invokevirtual 66, 3) := by decide +kernel
theorem dX7_poolWith_5 : decode cX7_poolWith 5 = .ok (.astore_n 3, 1) := by decide +kernel
theorem dX7_poolWith_6 : decode cX7_poolWith 6 = .ok (.aload_n 3, 1) := by decide +kernel
theorem dX7_poolWith_7 : decode cX7_poolWith 7 = .ok (.ifnull 11, 3) := by decide +kernel
theorem dX7_poolWith_10 : decode cX7_poolWith 10 = .ok (.aload_n 3, 1) := by decide +kernel
theorem dX7_poolWith_11 : decode cX7_poolWith 11 = .ok (.iload_n 2, 1) := by decide +kernel
theorem dX7_poolWith_12 : decode cX7_poolWith 12 = .ok (.invokevirtual 88, 3) := by decide +kernel
theorem dX7_poolWith_15 : decode cX7_poolWith 15 = .ok (.ifCond .ne 14, 3) := by decide +kernel
theorem dX7_poolWith_18 : decode cX7_poolWith 18 = .ok (.new 74, 3) := by decide +kernel
theorem dX7_poolWith_21 : decode cX7_poolWith 21 = .ok (.dup, 1) := by decide +kernel
theorem dX7_poolWith_22 : decode cX7_poolWith 22 = .ok (.ldc_w 300, 3) := by decide +kernel
theorem dX7_poolWith_25 : decode cX7_poolWith 25 = .ok (.invokespecial 78, 3) := by decide +kernel
theorem dX7_poolWith_28 : decode cX7_poolWith 28 = .ok (.athrow, 1) := by decide +kernel
theorem dX7_poolWith_29 : decode cX7_poolWith 29 = .ok (.aload_n 3, 1) := by decide +kernel
theorem dX7_poolWith_30 : decode cX7_poolWith 30 = .ok (.areturn, 1) := by decide +kernel
theorem dX7_boutOnPiste_0 : decode cX7_boutOnPiste 0 = .ok (.aload_n 0, 1) := by decide +kernel
theorem dX7_boutOnPiste_1 : decode cX7_boutOnPiste 1 = .ok (.getfield 52, 3) := by decide +kernel
theorem dX7_boutOnPiste_4 : decode cX7_boutOnPiste 4 = .ok (.ifnonnull 14, 3) := by decide +kernel
theorem dX7_boutOnPiste_7 : decode cX7_boutOnPiste 7 = .ok (.new 59, 3) := by decide +kernel
theorem dX7_boutOnPiste_10 : decode cX7_boutOnPiste 10 = .ok (.dup, 1) := by decide +kernel
theorem dX7_boutOnPiste_11 : decode cX7_boutOnPiste 11 = .ok (.ldc_w 302, 3) := by decide +kernel
theorem dX7_boutOnPiste_14 : decode cX7_boutOnPiste 14 = .ok (.invokespecial 63, 3) := by decide +kernel
theorem dX7_boutOnPiste_17 : decode cX7_boutOnPiste 17 = .ok (.athrow, 1) := by decide +kernel
theorem dX7_boutOnPiste_18 : decode cX7_boutOnPiste 18 = .ok (.aload_n 0, 1) := by decide +kernel
theorem dX7_boutOnPiste_19 : decode cX7_boutOnPiste 19 = .ok (.getfield 52, 3) := by decide +kernel
theorem dX7_boutOnPiste_22 : decode cX7_boutOnPiste 22 = .ok (.areturn, 1) := by decide +kernel
theorem dX7_checkRoomInPhrase_0 : decode cX7_checkRoomInPhrase 0 = .ok (.aload_n 0, 1) := by decide +kernel
theorem dX7_checkRoomInPhrase_1 : decode cX7_checkRoomInPhrase 1 = .ok (.getfield 52, 3) := by decide +kernel
theorem dX7_checkRoomInPhrase_4 : decode cX7_checkRoomInPhrase 4 = .ok (.ifnull 24, 3) := by decide +kernel
theorem dX7_checkRoomInPhrase_7 : decode cX7_checkRoomInPhrase 7 = .ok (.iload_n 1, 1) := by decide +kernel
theorem dX7_checkRoomInPhrase_8 : decode cX7_checkRoomInPhrase 8 = .ok (.aload_n 0, 1) := by decide +kernel
theorem dX7_checkRoomInPhrase_9 : decode cX7_checkRoomInPhrase 9 = .ok (.getfield 24, 3) := by decide +kernel
theorem dX7_checkRoomInPhrase_12 : decode cX7_checkRoomInPhrase 12 = .ok (.invokevirtual 304, 3) := by decide +kernel
theorem dX7_checkRoomInPhrase_15 : decode cX7_checkRoomInPhrase 15 = .ok (.if_icmp .lt 13, 3) := by decide +kernel
theorem dX7_checkRoomInPhrase_18 : decode cX7_checkRoomInPhrase 18 = .ok (.aload_n 0, 1) := by decide +kernel
theorem dX7_checkRoomInPhrase_19 : decode cX7_checkRoomInPhrase 19 = .ok (.getfield 24, 3) := by decide +kernel
theorem dX7_checkRoomInPhrase_22 : decode cX7_checkRoomInPhrase 22 = .ok (.invokevirtual 307, 3) := by decide +kernel
theorem dX7_checkRoomInPhrase_25 : decode cX7_checkRoomInPhrase 25 = .ok (.ifCond .eq 14, 3) := by decide +kernel
theorem dX7_checkRoomInPhrase_28 : decode cX7_checkRoomInPhrase 28 = .ok (.new 59, 3) := by decide +kernel
theorem dX7_checkRoomInPhrase_31 : decode cX7_checkRoomInPhrase 31 = .ok (.dup, 1) := by decide +kernel
theorem dX7_checkRoomInPhrase_32 : decode cX7_checkRoomInPhrase 32 = .ok (.ldc_w 310, 3) := by decide +kernel
theorem dX7_checkRoomInPhrase_35 : decode cX7_checkRoomInPhrase 35 = .ok (.invokespecial 63, 3) := by decide +kernel
theorem dX7_checkRoomInPhrase_38 : decode cX7_checkRoomInPhrase 38 = .ok (.athrow, 1) := by decide +kernel
theorem dX7_checkRoomInPhrase_39 : decode cX7_checkRoomInPhrase 39 = .ok (.return_, 1) := by decide +kernel
theorem dX7_checkMatch_0 : decode cX7_checkMatch 0 = .ok (.aload_n 0, 1) := by decide +kernel
theorem dX7_checkMatch_1 : decode cX7_checkMatch 1 = .ok (.getfield 31, 3) := by decide +kernel
theorem dX7_checkMatch_4 : decode cX7_checkMatch 4 = .ok (.iload_n 1, 1) := by decide +kernel
theorem dX7_checkMatch_5 : decode cX7_checkMatch 5 = .ok (.iload_n 2, 1) := by decide +kernel
theorem dX7_checkMatch_6 : decode cX7_checkMatch 6 = .ok (.invokevirtual 312, 3) := by decide +kernel
theorem dX7_checkMatch_9 : decode cX7_checkMatch 9 = .ok (.ifCond .ne 14, 3) := by decide +kernel
theorem dX7_checkMatch_12 : decode cX7_checkMatch 12 = .ok (.new 74, 3) := by decide +kernel
theorem dX7_checkMatch_15 : decode cX7_checkMatch 15 = .ok (.dup, 1) := by decide +kernel
theorem dX7_checkMatch_16 : decode cX7_checkMatch 16 = .ok (.ldc_w 315, 3) := by decide +kernel
theorem dX7_checkMatch_19 : decode cX7_checkMatch 19 = .ok (.invokespecial 78, 3) := by decide +kernel
theorem dX7_checkMatch_22 : decode cX7_checkMatch 22 = .ok (.athrow, 1) := by decide +kernel
theorem dX7_checkMatch_23 : decode cX7_checkMatch 23 = .ok (.return_, 1) := by decide +kernel
theorem dX7_checkOfPool_0 : decode cX7_checkOfPool 0 = .ok (.iload_n 0, 1) := by decide +kernel
theorem dX7_checkOfPool_1 : decode cX7_checkOfPool 1 = .ok (.iconst 0, 1) := by decide +kernel
theorem dX7_checkOfPool_2 : decode cX7_checkOfPool 2 = .ok (.iconst 3, 1) := by decide +kernel
theorem dX7_checkOfPool_3 : decode cX7_checkOfPool 3 = .ok (.invokestatic 79, 3) := by decide +kernel
theorem dX7_checkOfPool_6 : decode cX7_checkOfPool 6 = .ok (.ifCond .ne 14, 3) := by decide +kernel
theorem dX7_checkOfPool_9 : decode cX7_checkOfPool 9 = .ok (.new 83, 3) := by decide +kernel
theorem dX7_checkOfPool_12 : decode cX7_checkOfPool 12 = .ok (.dup, 1) := by decide +kernel
theorem dX7_checkOfPool_13 : decode cX7_checkOfPool 13 = .ok (.ldc_w 269, 3) := by decide +kernel
theorem dX7_checkOfPool_16 : decode cX7_checkOfPool 16 = .ok (.invokespecial 87, 3) := by decide +kernel
theorem dX7_checkOfPool_19 : decode cX7_checkOfPool 19 = .ok (.athrow, 1) := by decide +kernel
theorem dX7_checkOfPool_20 : decode cX7_checkOfPool 20 = .ok (.return_, 1) := by decide +kernel
theorem dX7_isBusyFor_0 : decode cX7_isBusyFor 0 = .ok (.aload_n 0, 1) := by decide +kernel
theorem dX7_isBusyFor_1 : decode cX7_isBusyFor 1 = .ok (.getfield 52, 3) := by decide +kernel
theorem dX7_isBusyFor_4 : decode cX7_isBusyFor 4 = .ok (.ifnull 32, 3) := by decide +kernel
theorem dX7_isBusyFor_7 : decode cX7_isBusyFor 7 = .ok (.aload_n 0, 1) := by decide +kernel
theorem dX7_isBusyFor_8 : decode cX7_isBusyFor 8 = .ok (.getfield 52, 3) := by decide +kernel
theorem dX7_isBusyFor_11 : decode cX7_isBusyFor 11 = .ok (.getfield 317, 3) := by decide +kernel
theorem dX7_isBusyFor_14 : decode cX7_isBusyFor 14 = .ok (.aload_n 1, 1) := by decide +kernel
theorem dX7_isBusyFor_15 : decode cX7_isBusyFor 15 = .ok (.getfield 320, 3) := by decide +kernel
theorem dX7_isBusyFor_18 : decode cX7_isBusyFor 18 = .ok (.if_icmp .ne 18, 3) := by decide +kernel
theorem dX7_isBusyFor_21 : decode cX7_isBusyFor 21 = .ok (.aload_n 0, 1) := by decide +kernel
theorem dX7_isBusyFor_22 : decode cX7_isBusyFor 22 = .ok (.getfield 52, 3) := by decide +kernel
theorem dX7_isBusyFor_25 : decode cX7_isBusyFor 25 = .ok (.iload_n 2, 1) := by decide +kernel
theorem dX7_isBusyFor_26 : decode cX7_isBusyFor 26 = .ok (.invokevirtual 215, 3) := by decide +kernel
theorem dX7_isBusyFor_29 : decode cX7_isBusyFor 29 = .ok (.ifCond .eq 7, 3) := by decide +kernel
theorem dX7_isBusyFor_32 : decode cX7_isBusyFor 32 = .ok (.iconst 1, 1) := by decide +kernel
theorem dX7_isBusyFor_33 : decode cX7_isBusyFor 33 = .ok (.goto 4, 3) := by decide +kernel
theorem dX7_isBusyFor_36 : decode cX7_isBusyFor 36 = .ok (.iconst 0, 1) := by decide +kernel
theorem dX7_isBusyFor_37 : decode cX7_isBusyFor 37 = .ok (.ireturn, 1) := by decide +kernel
theorem dX7_putOnPiste_0 : decode cX7_putOnPiste 0 = .ok (.aload_n 0, 1) := by decide +kernel
theorem dX7_putOnPiste_1 : decode cX7_putOnPiste 1 = .ok (.getfield 46, 3) := by decide +kernel
theorem dX7_putOnPiste_4 : decode cX7_putOnPiste 4 = .ok (.istore_n 2, 1) := by decide +kernel
theorem dX7_putOnPiste_5 : decode cX7_putOnPiste 5 = .ok (.iload_n 2, 1) := by decide +kernel
theorem dX7_putOnPiste_6 : decode cX7_putOnPiste 6 = .ok (.aload_n 0, 1) := by decide +kernel
theorem dX7_putOnPiste_7 : decode cX7_putOnPiste 7 = .ok (.getfield 11, 3) := by decide +kernel
theorem dX7_putOnPiste_10 : decode cX7_putOnPiste 10 = .ok (.arraylength, 1) := by decide +kernel
theorem dX7_putOnPiste_11 : decode cX7_putOnPiste 11 = .ok (.if_icmp .ge 25, 3) := by decide +kernel
theorem dX7_putOnPiste_14 : decode cX7_putOnPiste 14 = .ok (.aload_n 0, 1) := by decide +kernel
theorem dX7_putOnPiste_15 : decode cX7_putOnPiste 15 = .ok (.getfield 11, 3) := by decide +kernel
theorem dX7_putOnPiste_18 : decode cX7_putOnPiste 18 = .ok (.iload_n 2, 1) := by decide +kernel
theorem dX7_putOnPiste_19 : decode cX7_putOnPiste 19 = .ok (.aload_n 1, 1) := by decide +kernel
theorem dX7_putOnPiste_20 : decode cX7_putOnPiste 20 = .ok (.aastore, 1) := by decide +kernel
theorem dX7_putOnPiste_21 : decode cX7_putOnPiste 21 = .ok (.aload_n 0, 1) := by decide +kernel
theorem dX7_putOnPiste_22 : decode cX7_putOnPiste 22 = .ok (.dup, 1) := by decide +kernel
theorem dX7_putOnPiste_23 : decode cX7_putOnPiste 23 = .ok (.getfield 46, 3) := by decide +kernel
theorem dX7_putOnPiste_26 : decode cX7_putOnPiste 26 = .ok (.iconst 1, 1) := by decide +kernel
theorem dX7_putOnPiste_27 : decode cX7_putOnPiste 27 = .ok (.iadd, 1) := by decide +kernel
theorem dX7_putOnPiste_28 : decode cX7_putOnPiste 28 = .ok (.putfield 46, 3) := by decide +kernel
theorem dX7_putOnPiste_31 : decode cX7_putOnPiste 31 = .ok (.aload_n 0, 1) := by decide +kernel
theorem dX7_putOnPiste_32 : decode cX7_putOnPiste 32 = .ok (.aload_n 1, 1) := by decide +kernel
theorem dX7_putOnPiste_33 : decode cX7_putOnPiste 33 = .ok (.putfield 52, 3) := by decide +kernel
theorem dX7_putOnPiste_36 : decode cX7_putOnPiste 36 = .ok (.iload_n 2, 1) := by decide +kernel
theorem dX7_putOnPiste_37 : decode cX7_putOnPiste 37 = .ok (.ireturn, 1) := by decide +kernel
theorem dX7_clearPisteIfOver_0 : decode cX7_clearPisteIfOver 0 = .ok (.aload_n 1, 1) := by decide +kernel
theorem dX7_clearPisteIfOver_1 : decode cX7_clearPisteIfOver 1 = .ok (.invokevirtual 162, 3) := by decide +kernel
theorem dX7_clearPisteIfOver_4 : decode cX7_clearPisteIfOver 4 = .ok (.ifCond .ne 4, 3) := by decide +kernel
theorem dX7_clearPisteIfOver_7 : decode cX7_clearPisteIfOver 7 = .ok (.return_, 1) := by decide +kernel
theorem dX7_clearPisteIfOver_8 : decode cX7_clearPisteIfOver 8 = .ok (.aload_n 0, 1) := by decide +kernel
theorem dX7_clearPisteIfOver_9 : decode cX7_clearPisteIfOver 9 = .ok (.aconst_null, 1) := by decide +kernel
theorem dX7_clearPisteIfOver_10 : decode cX7_clearPisteIfOver 10 = .ok (.putfield 52, 3) := by decide +kernel
theorem dX7_clearPisteIfOver_13 : decode cX7_clearPisteIfOver 13 = .ok (.aload_n 0, 1) := by decide +kernel
theorem dX7_clearPisteIfOver_14 : decode cX7_clearPisteIfOver 14 = .ok (.getfield 24, 3) := by decide +kernel
theorem dX7_clearPisteIfOver_17 : decode cX7_clearPisteIfOver 17 = .ok (.invokevirtual 147, 3) := by decide +kernel
theorem dX7_clearPisteIfOver_20 : decode cX7_clearPisteIfOver 20 = .ok (.aload_n 0, 1) := by decide +kernel
theorem dX7_clearPisteIfOver_21 : decode cX7_clearPisteIfOver 21 = .ok (.aload_n 1, 1) := by decide +kernel
theorem dX7_clearPisteIfOver_22 : decode cX7_clearPisteIfOver 22 = .ok (.getfield 317, 3) := by decide +kernel
theorem dX7_clearPisteIfOver_25 : decode cX7_clearPisteIfOver 25 = .ok (.invokevirtual 66, 3) := by decide +kernel
theorem dX7_clearPisteIfOver_28 : decode cX7_clearPisteIfOver 28 = .ok (.astore_n 2, 1) := by decide +kernel
theorem dX7_clearPisteIfOver_29 : decode cX7_clearPisteIfOver 29 = .ok (.aload_n 2, 1) := by decide +kernel
theorem dX7_clearPisteIfOver_30 : decode cX7_clearPisteIfOver 30 = .ok (.ifnull 9, 3) := by decide +kernel
theorem dX7_clearPisteIfOver_33 : decode cX7_clearPisteIfOver 33 = .ok (.aload_n 2, 1) := by decide +kernel
theorem dX7_clearPisteIfOver_34 : decode cX7_clearPisteIfOver 34 = .ok (.aload_n 1, 1) := by decide +kernel
theorem dX7_clearPisteIfOver_35 : decode cX7_clearPisteIfOver 35 = .ok (.iconst 1, 1) := by decide +kernel
theorem dX7_clearPisteIfOver_36 : decode cX7_clearPisteIfOver 36 = .ok (.invokevirtual 220, 3) := by decide +kernel
theorem dX7_clearPisteIfOver_39 : decode cX7_clearPisteIfOver 39 = .ok (.return_, 1) := by decide +kernel
theorem dX7_because_0 : decode cX7_because 0 = .ok (.aload_n 0, 1) := by decide +kernel
theorem dX7_because_1 : decode cX7_because 1 = .ok (.iload_n 1, 1) := by decide +kernel
theorem dX7_because_2 : decode cX7_because 2 = .ok (.putfield 56, 3) := by decide +kernel
theorem dX7_because_5 : decode cX7_because 5 = .ok (.iload_n 2, 1) := by decide +kernel
theorem dX7_because_6 : decode cX7_because 6 = .ok (.ireturn, 1) := by decide +kernel
theorem dX7_judgeFor_0 : decode cX7_judgeFor 0 = .ok (.aload_n 0, 1) := by decide +kernel
theorem dX7_judgeFor_1 : decode cX7_judgeFor 1 = .ok (.getfield 24, 3) := by decide +kernel
theorem dX7_judgeFor_4 : decode cX7_judgeFor 4 = .ok (.iconst 0, 1) := by decide +kernel
theorem dX7_judgeFor_5 : decode cX7_judgeFor 5 = .ok (.iload_n 1, 1) := by decide +kernel
theorem dX7_judgeFor_6 : decode cX7_judgeFor 6 = .ok (.invokevirtual 255, 3) := by decide +kernel
theorem dX7_judgeFor_9 : decode cX7_judgeFor 9 = .ok (.istore_n 3, 1) := by decide +kernel
theorem dX7_judgeFor_10 : decode cX7_judgeFor 10 = .ok (.aload_n 0, 1) := by decide +kernel
theorem dX7_judgeFor_11 : decode cX7_judgeFor 11 = .ok (.getfield 24, 3) := by decide +kernel
theorem dX7_judgeFor_14 : decode cX7_judgeFor 14 = .ok (.iconst 1, 1) := by decide +kernel
theorem dX7_judgeFor_15 : decode cX7_judgeFor 15 = .ok (.iload_n 1, 1) := by decide +kernel
theorem dX7_judgeFor_16 : decode cX7_judgeFor 16 = .ok (.invokevirtual 255, 3) := by decide +kernel
theorem dX7_judgeFor_19 : decode cX7_judgeFor 19 = .ok (.istore 4, 2) := by decide +kernel
theorem dX7_judgeFor_21 : decode cX7_judgeFor 21 = .ok (.iload_n 3, 1) := by decide +kernel
theorem dX7_judgeFor_22 : decode cX7_judgeFor 22 = .ok (.iconst (-1), 1) := by decide +kernel
theorem dX7_judgeFor_23 : decode cX7_judgeFor 23 = .ok (.if_icmp .ne 16, 3) := by decide +kernel
theorem dX7_judgeFor_26 : decode cX7_judgeFor 26 = .ok (.iload 4, 2) := by decide +kernel
theorem dX7_judgeFor_28 : decode cX7_judgeFor 28 = .ok (.iconst (-1), 1) := by decide +kernel
theorem dX7_judgeFor_29 : decode cX7_judgeFor 29 = .ok (.if_icmp .ne 10, 3) := by decide +kernel
theorem dX7_judgeFor_32 : decode cX7_judgeFor 32 = .ok (.aload_n 0, 1) := by decide +kernel
theorem dX7_judgeFor_33 : decode cX7_judgeFor 33 = .ok (.iconst 0, 1) := by decide +kernel
theorem dX7_judgeFor_34 : decode cX7_judgeFor 34 = .ok (.iconst 0, 1) := by decide +kernel
theorem dX7_judgeFor_35 : decode cX7_judgeFor 35 = .ok (.invokevirtual 323, 3) := by decide +kernel
theorem dX7_judgeFor_38 : decode cX7_judgeFor 38 = .ok (.ireturn, 1) := by decide +kernel
theorem dX7_judgeFor_39 : decode cX7_judgeFor 39 = .ok (.iload_n 3, 1) := by decide +kernel
theorem dX7_judgeFor_40 : decode cX7_judgeFor 40 = .ok (.iconst (-1), 1) := by decide +kernel
theorem dX7_judgeFor_41 : decode cX7_judgeFor 41 = .ok (.if_icmp .eq 9, 3) := by decide +kernel
theorem dX7_judgeFor_44 : decode cX7_judgeFor 44 = .ok (.iload 4, 2) := by decide +kernel
theorem dX7_judgeFor_46 : decode cX7_judgeFor 46 = .ok (.iconst (-1), 1) := by decide +kernel
theorem dX7_judgeFor_47 : decode cX7_judgeFor 47 = .ok (.if_icmp .ne 56, 3) := by decide +kernel
theorem dX7_judgeFor_50 : decode cX7_judgeFor 50 = .ok (.iload_n 3, 1) := by decide +kernel
theorem dX7_judgeFor_51 : decode cX7_judgeFor 51 = .ok (.iconst (-1), 1) := by decide +kernel
theorem dX7_judgeFor_52 : decode cX7_judgeFor 52 = .ok (.if_icmp .ne 8, 3) := by decide +kernel
theorem dX7_judgeFor_55 : decode cX7_judgeFor 55 = .ok (.iload 4, 2) := by decide +kernel
theorem dX7_judgeFor_57 : decode cX7_judgeFor 57 = .ok (.goto 4, 3) := by decide +kernel
theorem dX7_judgeFor_60 : decode cX7_judgeFor 60 = .ok (.iload_n 3, 1) := by decide +kernel
theorem dX7_judgeFor_61 : decode cX7_judgeFor 61 = .ok (.istore 5, 2) := by decide +kernel
theorem dX7_judgeFor_63 : decode cX7_judgeFor 63 = .ok (.aload_n 0, 1) := by decide +kernel
theorem dX7_judgeFor_64 : decode cX7_judgeFor 64 = .ok (.getfield 24, 3) := by decide +kernel
theorem dX7_judgeFor_67 : decode cX7_judgeFor 67 = .ok (.iload 5, 2) := by decide +kernel
theorem dX7_judgeFor_69 : decode cX7_judgeFor 69 = .ok (.invokevirtual 258, 3) := by decide +kernel
theorem dX7_judgeFor_72 : decode cX7_judgeFor 72 = .ok (.ifCond .ne 24, 3) := by decide +kernel
theorem dX7_judgeFor_75 : decode cX7_judgeFor 75 = .ok (.aload_n 0, 1) := by decide +kernel
theorem dX7_judgeFor_76 : decode cX7_judgeFor 76 = .ok (.iconst 1, 1) := by decide +kernel
theorem dX7_judgeFor_77 : decode cX7_judgeFor 77 = .ok (.iload_n 3, 1) := by decide +kernel
theorem dX7_judgeFor_78 : decode cX7_judgeFor 78 = .ok (.iconst (-1), 1) := by decide +kernel
theorem dX7_judgeFor_79 : decode cX7_judgeFor 79 = .ok (.if_icmp .ne 7, 3) := by decide +kernel
theorem dX7_judgeFor_82 : decode cX7_judgeFor 82 = .ok (.iconst 1, 1) := by decide +kernel
theorem dX7_judgeFor_83 : decode cX7_judgeFor 83 = .ok (.goto 4, 3) := by decide +kernel
theorem dX7_judgeFor_86 : decode cX7_judgeFor 86 = .ok (.iconst 0, 1) := by decide +kernel
theorem dX7_judgeFor_87 : decode cX7_judgeFor 87 = .ok (.invokestatic 326, 3) := by decide +kernel
theorem dX7_judgeFor_90 : decode cX7_judgeFor 90 = .ok (.invokevirtual 323, 3) := by decide +kernel
theorem dX7_judgeFor_93 : decode cX7_judgeFor 93 = .ok (.goto 9, 3) := by decide +kernel
theorem dX7_judgeFor_96 : decode cX7_judgeFor 96 = .ok (.aload_n 0, 1) := by decide +kernel
theorem dX7_judgeFor_97 : decode cX7_judgeFor 97 = .ok (.iconst 2, 1) := by decide +kernel
theorem dX7_judgeFor_98 : decode cX7_judgeFor 98 = .ok (.iconst 0, 1) := by decide +kernel
theorem dX7_judgeFor_99 : decode cX7_judgeFor 99 = .ok (.invokevirtual 323, 3) := by decide +kernel
theorem dX7_judgeFor_102 : decode cX7_judgeFor 102 = .ok (.ireturn, 1) := by decide +kernel
theorem dX7_judgeFor_103 : decode cX7_judgeFor 103 = .ok (.iload_n 1, 1) := by decide +kernel
theorem dX7_judgeFor_104 : decode cX7_judgeFor 104 = .ok (.iconst 1, 1) := by decide +kernel
theorem dX7_judgeFor_105 : decode cX7_judgeFor 105 = .ok (.if_icmp .ne 18, 3) := by decide +kernel
theorem dX7_judgeFor_108 : decode cX7_judgeFor 108 = .ok (.aload_n 0, 1) := by decide +kernel
theorem dX7_judgeFor_109 : decode cX7_judgeFor 109 = .ok (.iconst 3, 1) := by decide +kernel
theorem dX7_judgeFor_110 : decode cX7_judgeFor 110 = .ok (.iload_n 2, 1) := by decide +kernel
theorem dX7_judgeFor_111 : decode cX7_judgeFor 111 = .ok (.ifCond .eq 7, 3) := by decide +kernel
theorem dX7_judgeFor_114 : decode cX7_judgeFor 114 = .ok (.iconst 0, 1) := by decide +kernel
theorem dX7_judgeFor_115 : decode cX7_judgeFor 115 = .ok (.goto 4, 3) := by decide +kernel
theorem dX7_judgeFor_118 : decode cX7_judgeFor 118 = .ok (.iconst 3, 1) := by decide +kernel
theorem dX7_judgeFor_119 : decode cX7_judgeFor 119 = .ok (.invokevirtual 323, 3) := by decide +kernel
theorem dX7_judgeFor_122 : decode cX7_judgeFor 122 = .ok (.ireturn, 1) := by decide +kernel
theorem dX7_judgeFor_123 : decode cX7_judgeFor 123 = .ok (.aload_n 0, 1) := by decide +kernel
theorem dX7_judgeFor_124 : decode cX7_judgeFor 124 = .ok (.iload_n 3, 1) := by decide +kernel
theorem dX7_judgeFor_125 : decode cX7_judgeFor 125 = .ok (.iload 4, 2) := by decide +kernel
theorem dX7_judgeFor_127 : decode cX7_judgeFor 127 = .ok (.invokevirtual 329, 3) := by decide +kernel
theorem dX7_judgeFor_130 : decode cX7_judgeFor 130 = .ok (.ireturn, 1) := by decide +kernel
theorem dX7_judgeByRight_0 : decode cX7_judgeByRight 0 = .ok (.aload_n 0, 1) := by decide +kernel
theorem dX7_judgeByRight_1 : decode cX7_judgeByRight 1 = .ok (.getfield 24, 3) := by decide +kernel
theorem dX7_judgeByRight_4 : decode cX7_judgeByRight 4 = .ok (.iload_n 1, 1) := by decide +kernel
theorem dX7_judgeByRight_5 : decode cX7_judgeByRight 5 = .ok (.iload_n 2, 1) := by decide +kernel
theorem dX7_judgeByRight_6 : decode cX7_judgeByRight 6 = .ok (.invokestatic 332, 3) := by decide +kernel
theorem dX7_judgeByRight_9 : decode cX7_judgeByRight 9 = .ok (.invokevirtual 264, 3) := by decide +kernel
theorem dX7_judgeByRight_12 : decode cX7_judgeByRight 12 = .ok (.istore_n 3, 1) := by decide +kernel
theorem dX7_judgeByRight_13 : decode cX7_judgeByRight 13 = .ok (.iload_n 3, 1) := by decide +kernel
theorem dX7_judgeByRight_14 : decode cX7_judgeByRight 14 = .ok (.iconst (-1), 1) := by decide +kernel
theorem dX7_judgeByRight_15 : decode cX7_judgeByRight 15 = .ok (.if_icmp .ne 10, 3) := by decide +kernel
theorem dX7_judgeByRight_18 : decode cX7_judgeByRight 18 = .ok (.aload_n 0, 1) := by decide +kernel
theorem dX7_judgeByRight_19 : decode cX7_judgeByRight 19 = .ok (.iconst 4, 1) := by decide +kernel
theorem dX7_judgeByRight_20 : decode cX7_judgeByRight 20 = .ok (.iconst 0, 1) := by decide +kernel
theorem dX7_judgeByRight_21 : decode cX7_judgeByRight 21 = .ok (.invokevirtual 323, 3) := by decide +kernel
theorem dX7_judgeByRight_24 : decode cX7_judgeByRight 24 = .ok (.ireturn, 1) := by decide +kernel
theorem dX7_judgeByRight_25 : decode cX7_judgeByRight 25 = .ok (.iload_n 3, 1) := by decide +kernel
theorem dX7_judgeByRight_26 : decode cX7_judgeByRight 26 = .ok (.ifCond .ne 7, 3) := by decide +kernel
theorem dX7_judgeByRight_29 : decode cX7_judgeByRight 29 = .ok (.iload_n 1, 1) := by decide +kernel
theorem dX7_judgeByRight_30 : decode cX7_judgeByRight 30 = .ok (.goto 4, 3) := by decide +kernel
theorem dX7_judgeByRight_33 : decode cX7_judgeByRight 33 = .ok (.iload_n 2, 1) := by decide +kernel
theorem dX7_judgeByRight_34 : decode cX7_judgeByRight 34 = .ok (.istore 4, 2) := by decide +kernel
theorem dX7_judgeByRight_36 : decode cX7_judgeByRight 36 = .ok (.iload_n 3, 1) := by decide +kernel
theorem dX7_judgeByRight_37 : decode cX7_judgeByRight 37 = .ok (.ifCond .ne 7, 3) := by decide +kernel
theorem dX7_judgeByRight_40 : decode cX7_judgeByRight 40 = .ok (.iload_n 2, 1) := by decide +kernel
theorem dX7_judgeByRight_41 : decode cX7_judgeByRight 41 = .ok (.goto 4, 3) := by decide +kernel
theorem dX7_judgeByRight_44 : decode cX7_judgeByRight 44 = .ok (.iload_n 1, 1) := by decide +kernel
theorem dX7_judgeByRight_45 : decode cX7_judgeByRight 45 = .ok (.istore 5, 2) := by decide +kernel
theorem dX7_judgeByRight_47 : decode cX7_judgeByRight 47 = .ok (.aload_n 0, 1) := by decide +kernel
theorem dX7_judgeByRight_48 : decode cX7_judgeByRight 48 = .ok (.getfield 24, 3) := by decide +kernel
theorem dX7_judgeByRight_51 : decode cX7_judgeByRight 51 = .ok (.iload 4, 2) := by decide +kernel
theorem dX7_judgeByRight_53 : decode cX7_judgeByRight 53 = .ok (.invokevirtual 337, 3) := by decide +kernel
theorem dX7_judgeByRight_56 : decode cX7_judgeByRight 56 = .ok (.aload_n 0, 1) := by decide +kernel
theorem dX7_judgeByRight_57 : decode cX7_judgeByRight 57 = .ok (.getfield 24, 3) := by decide +kernel
theorem dX7_judgeByRight_60 : decode cX7_judgeByRight 60 = .ok (.iload 5, 2) := by decide +kernel
theorem dX7_judgeByRight_62 : decode cX7_judgeByRight 62 = .ok (.invokevirtual 337, 3) := by decide +kernel
theorem dX7_judgeByRight_65 : decode cX7_judgeByRight 65 = .ok (.isub, 1) := by decide +kernel
theorem dX7_judgeByRight_66 : decode cX7_judgeByRight 66 = .ok (.istore 6, 2) := by decide +kernel
theorem dX7_judgeByRight_68 : decode cX7_judgeByRight 68 = .ok (.aload_n 0, 1) := by decide +kernel
theorem dX7_judgeByRight_69 : decode cX7_judgeByRight 69 = .ok (.getfield 24, 3) := by decide +kernel
theorem dX7_judgeByRight_72 : decode cX7_judgeByRight 72 = .ok (.iload 5, 2) := by decide +kernel
theorem dX7_judgeByRight_74 : decode cX7_judgeByRight 74 = .ok (.invokevirtual 258, 3) := by decide +kernel
theorem dX7_judgeByRight_77 : decode cX7_judgeByRight 77 = .ok (.ifCond .ne 23, 3) := by decide +kernel
theorem dX7_judgeByRight_80 : decode cX7_judgeByRight 80 = .ok (.iload 6, 2) := by decide +kernel
theorem dX7_judgeByRight_82 : decode cX7_judgeByRight 82 = .ok (.sipush 150, 3) := by decide +kernel
theorem dX7_judgeByRight_85 : decode cX7_judgeByRight 85 = .ok (.if_icmp .lt 15, 3) := by decide +kernel
theorem dX7_judgeByRight_88 : decode cX7_judgeByRight 88 = .ok (.aload_n 0, 1) := by decide +kernel
theorem dX7_judgeByRight_89 : decode cX7_judgeByRight 89 = .ok (.iconst 5, 1) := by decide +kernel
theorem dX7_judgeByRight_90 : decode cX7_judgeByRight 90 = .ok (.iconst 1, 1) := by decide +kernel
theorem dX7_judgeByRight_91 : decode cX7_judgeByRight 91 = .ok (.iload_n 3, 1) := by decide +kernel
theorem dX7_judgeByRight_92 : decode cX7_judgeByRight 92 = .ok (.isub, 1) := by decide +kernel
theorem dX7_judgeByRight_93 : decode cX7_judgeByRight 93 = .ok (.invokestatic 326, 3) := by decide +kernel
theorem dX7_judgeByRight_96 : decode cX7_judgeByRight 96 = .ok (.invokevirtual 323, 3) := by decide +kernel
theorem dX7_judgeByRight_99 : decode cX7_judgeByRight 99 = .ok (.ireturn, 1) := by decide +kernel
theorem dX7_judgeByRight_100 : decode cX7_judgeByRight 100 = .ok (.aload_n 0, 1) := by decide +kernel
theorem dX7_judgeByRight_101 : decode cX7_judgeByRight 101 = .ok (.getfield 24, 3) := by decide +kernel
theorem dX7_judgeByRight_104 : decode cX7_judgeByRight 104 = .ok (.iload 4, 2) := by decide +kernel
theorem dX7_judgeByRight_106 : decode cX7_judgeByRight 106 = .ok (.invokevirtual 258, 3) := by decide +kernel
theorem dX7_judgeByRight_109 : decode cX7_judgeByRight 109 = .ok (.ifCond .ne 16, 3) := by decide +kernel
theorem dX7_judgeByRight_112 : decode cX7_judgeByRight 112 = .ok (.aload_n 0, 1) := by decide +kernel
theorem dX7_judgeByRight_113 : decode cX7_judgeByRight 113 = .ok (.bipush 6, 2) := by decide +kernel
theorem dX7_judgeByRight_115 : decode cX7_judgeByRight 115 = .ok (.iload_n 3, 1) := by decide +kernel
theorem dX7_judgeByRight_116 : decode cX7_judgeByRight 116 = .ok (.invokestatic 326, 3) := by decide +kernel
theorem dX7_judgeByRight_119 : decode cX7_judgeByRight 119 = .ok (.invokevirtual 323, 3) := by decide +kernel
theorem dX7_judgeByRight_122 : decode cX7_judgeByRight 122 = .ok (.goto 9, 3) := by decide +kernel
theorem dX7_judgeByRight_125 : decode cX7_judgeByRight 125 = .ok (.aload_n 0, 1) := by decide +kernel
theorem dX7_judgeByRight_126 : decode cX7_judgeByRight 126 = .ok (.iconst 2, 1) := by decide +kernel
theorem dX7_judgeByRight_127 : decode cX7_judgeByRight 127 = .ok (.iconst 0, 1) := by decide +kernel
theorem dX7_judgeByRight_128 : decode cX7_judgeByRight 128 = .ok (.invokevirtual 323, 3) := by decide +kernel
theorem dX7_judgeByRight_131 : decode cX7_judgeByRight 131 = .ok (.ireturn, 1) := by decide +kernel
theorem dX7_bitOf_0 : decode cX7_bitOf 0 = .ok (.iload_n 0, 1) := by decide +kernel
theorem dX7_bitOf_1 : decode cX7_bitOf 1 = .ok (.ifCond .ne 7, 3) := by decide +kernel
theorem dX7_bitOf_4 : decode cX7_bitOf 4 = .ok (.iconst 1, 1) := by decide +kernel
theorem dX7_bitOf_5 : decode cX7_bitOf 5 = .ok (.goto 4, 3) := by decide +kernel
theorem dX7_bitOf_8 : decode cX7_bitOf 8 = .ok (.iconst 2, 1) := by decide +kernel
theorem dX7_bitOf_9 : decode cX7_bitOf 9 = .ok (.ireturn, 1) := by decide +kernel
end
section
theorem dX8_init_0 : decode cX8_init 0 = .ok (.aload_n 0, 1) := by decide +kernel
theorem dX8_init_1 : decode cX8_init 1 = .ok (.invokespecial 1, 3) := by decide +kernel
theorem dX8_init_4 : decode cX8_init 4 = .ok (.aload_n 0, 1) := by decide +kernel
theorem dX8_init_5 : decode cX8_init 5 = .ok (.iconst (-1), 1) := by decide +kernel
theorem dX8_init_6 : decode cX8_init 6 = .ok (.putfield 9, 3) := by decide +kernel
theorem dX8_init_9 : decode cX8_init 9 = .ok (.aload_n 0, 1) := by decide +kernel
theorem dX8_init_10 : decode cX8_init 10 = .ok (.iconst (-1), 1) := by decide +kernel
theorem dX8_init_11 : decode cX8_init 11 = .ok (.putfield 13, 3) := by decide +kernel
theorem dX8_init_14 : decode cX8_init 14 = .ok (.aload_n 0, 1) := by decide +kernel
theorem dX8_init_15 : decode cX8_init 15 = .ok (.sipush 160, 3) := by decide +kernel
theorem dX8_init_18 : decode cX8_init 18 = .ok (.newarray .int, 2) := by decide +kernel
theorem dX8_init_20 : decode cX8_init 20 = .ok (.putfield 16, 3) := by decide +kernel
theorem dX8_init_23 : decode cX8_init 23 = .ok (.aload_n 0, 1) := by decide +kernel
theorem dX8_init_24 : decode cX8_init 24 = .ok (.sipush 160, 3) := by decide +kernel
theorem dX8_init_27 : decode cX8_init 27 = .ok (.newarray .int, 2) := by decide +kernel
theorem dX8_init_29 : decode cX8_init 29 = .ok (.putfield 20, 3) := by decide +kernel
theorem dX8_init_32 : decode cX8_init 32 = .ok (.aload_n 0, 1) := by decide +kernel
theorem dX8_init_33 : decode cX8_init 33 = .ok (.bipush 80, 2) := by decide +kernel
theorem dX8_init_35 : decode cX8_init 35 = .ok (.newarray .int, 2) := by decide +kernel
theorem dX8_init_37 : decode cX8_init 37 = .ok (.putfield 23, 3) := by decide +kernel
theorem dX8_init_40 : decode cX8_init 40 = .ok (.aload_n 0, 1) := by decide +kernel
theorem dX8_init_41 : decode cX8_init 41 = .ok (.bipush 80, 2) := by decide +kernel
theorem dX8_init_43 : decode cX8_init 43 = .ok (.newarray .int, 2) := by decide +kernel
theorem dX8_init_45 : decode cX8_init 45 = .ok (.putfield 26, 3) := by decide +kernel
theorem dX8_init_48 : decode cX8_init 48 = .ok (.aload_n 0, 1) := by decide +kernel
theorem dX8_init_49 : decode cX8_init 49 = .ok (.bipush 80, 2) := by decide +kernel
theorem dX8_init_51 : decode cX8_init 51 = .ok (.newarray .int, 2) := by decide +kernel
theorem dX8_init_53 : decode cX8_init 53 = .ok (.putfield 29, 3) := by decide +kernel
theorem dX8_init_56 : decode cX8_init 56 = .ok (.aload_n 0, 1) := by decide +kernel
theorem dX8_init_57 : decode cX8_init 57 = .ok (.bipush 80, 2) := by decide +kernel
theorem dX8_init_59 : decode cX8_init 59 = .ok (.newarray .int, 2) := by decide +kernel
theorem dX8_init_61 : decode cX8_init 61 = .ok (.putfield 32, 3) := by decide +kernel
theorem dX8_init_64 : decode cX8_init 64 = .ok (.aload_n 0, 1) := by decide +kernel
theorem dX8_init_65 : decode cX8_init 65 = .ok (.bipush 80, 2) := by decide +kernel
theorem dX8_init_67 : decode cX8_init 67 = .ok (.newarray .int, 2) := by decide +kernel
theorem dX8_init_69 : decode cX8_init 69 = .ok (.putfield 35, 3) := by decide +kernel
theorem dX8_init_72 : decode cX8_init 72 = .ok (.aload_n 0, 1) := by decide +kernel
theorem dX8_init_73 : decode cX8_init 73 = .ok (.bipush 80, 2) := by decide +kernel
theorem dX8_init_75 : decode cX8_init 75 = .ok (.newarray .int, 2) := by decide +kernel
theorem dX8_init_77 : decode cX8_init 77 = .ok (.putfield 38, 3) := by decide +kernel
theorem dX8_init_80 : decode cX8_init 80 = .ok (.aload_n 0, 1) := by decide +kernel
theorem dX8_init_81 : decode cX8_init 81 = .ok (.bipush 80, 2) := by decide +kernel
theorem dX8_init_83 : decode cX8_init 83 = .ok (.newarray .int, 2) := by decide +kernel
theorem dX8_init_85 : decode cX8_init 85 = .ok (.putfield 41, 3) := by decide +kernel
theorem dX8_init_88 : decode cX8_init 88 = .ok (.aload_n 0, 1) := by decide +kernel
theorem dX8_init_89 : decode cX8_init 89 = .ok (.iconst 2, 1) := by decide +kernel
theorem dX8_init_90 : decode cX8_init 90 = .ok (.newarray .int, 2) := by decide +kernel
theorem dX8_init_92 : decode cX8_init 92 = .ok (.putfield 44, 3) := by decide +kernel
theorem dX8_init_95 : decode cX8_init 95 = .ok (.aload_n 0, 1) := by decide +kernel
theorem dX8_init_96 : decode cX8_init 96 = .ok (.iconst 2, 1) := by decide +kernel
theorem dX8_init_97 : decode cX8_init 97 = .ok (.newarray .boolean, 2) := by decide +kernel
theorem dX8_init_99 : decode cX8_init 99 = .ok (.putfield 47, 3) := by decide +kernel
theorem dX8_init_102 : decode cX8_init 102 = .ok (.aload_n 0, 1) := by decide +kernel
theorem dX8_init_103 : decode cX8_init 103 = .ok (.bipush 24, 2) := by decide +kernel
theorem dX8_init_105 : decode cX8_init 105 = .ok (.newarray .int, 2) := by decide +kernel
theorem dX8_init_107 : decode cX8_init 107 = .ok (.putfield 51, 3) := by decide +kernel
theorem dX8_init_110 : decode cX8_init 110 = .ok (.aload_n 0, 1) := by decide +kernel
theorem dX8_init_111 : decode cX8_init 111 = .ok (.bipush 24, 2) := by decide +kernel
theorem dX8_init_113 : decode cX8_init 113 = .ok (.newarray .int, 2) := by decide +kernel
theorem dX8_init_115 : decode cX8_init 115 = .ok (.putfield 54, 3) := by decide +kernel
theorem dX8_init_118 : decode cX8_init 118 = .ok (.aload_n 0, 1) := by decide +kernel
theorem dX8_init_119 : decode cX8_init 119 = .ok (.bipush 24, 2) := by decide +kernel
theorem dX8_init_121 : decode cX8_init 121 = .ok (.newarray .int, 2) := by decide +kernel
theorem dX8_init_123 : decode cX8_init 123 = .ok (.putfield 57, 3) := by decide +kernel
theorem dX8_init_126 : decode cX8_init 126 = .ok (.aload_n 0, 1) := by decide +kernel
theorem dX8_init_127 : decode cX8_init 127 = .ok (.bipush 24, 2) := by decide +kernel
theorem dX8_init_129 : decode cX8_init 129 = .ok (.newarray .int, 2) := by decide +kernel
theorem dX8_init_131 : decode cX8_init 131 = .ok (.putfield 60, 3) := by decide +kernel
theorem dX8_init_134 : decode cX8_init 134 = .ok (.aload_n 0, 1) := by decide +kernel
theorem dX8_init_135 : decode cX8_init 135 = .ok (.bipush 24, 2) := by decide +kernel
theorem dX8_init_137 : decode cX8_init 137 = .ok (.newarray .int, 2) := by decide +kernel
theorem dX8_init_139 : decode cX8_init 139 = .ok (.putfield 63, 3) := by decide +kernel
theorem dX8_init_142 : decode cX8_init 142 = .ok (.aload_n 0, 1) := by decide +kernel
theorem dX8_init_143 : decode cX8_init 143 = .ok (.bipush 6, 2) := by decide +kernel
theorem dX8_init_145 : decode cX8_init 145 = .ok (.newarray .int, 2) := by decide +kernel
theorem dX8_init_147 : decode cX8_init 147 = .ok (.putfield 66, 3) := by decide +kernel
theorem dX8_init_150 : decode cX8_init 150 = .ok (.aload_n 0, 1) := by decide +kernel
theorem dX8_init_151 : decode cX8_init 151 = .ok (.bipush 6, 2) := by decide +kernel
theorem dX8_init_153 : decode cX8_init 153 = .ok (.newarray .int, 2) := by decide +kernel
theorem dX8_init_155 : decode cX8_init 155 = .ok (.putfield 69, 3) := by decide +kernel
theorem dX8_init_158 : decode cX8_init 158 = .ok (.aload_n 0, 1) := by decide +kernel
theorem dX8_init_159 : decode cX8_init 159 = .ok (.bipush 12, 2) := by decide +kernel
theorem dX8_init_161 : decode cX8_init 161 = .ok (.newarray .int, 2) := by decide +kernel
theorem dX8_init_163 : decode cX8_init 163 = .ok (.putfield 72, 3) := by decide +kernel
theorem dX8_init_166 : decode cX8_init 166 = .ok (.aload_n 0, 1) := by decide +kernel
theorem dX8_init_167 : decode cX8_init 167 = .ok (.sipush 128, 3) := by decide +kernel
theorem dX8_init_170 : decode cX8_init 170 = .ok (.newarray .int, 2) := by decide +kernel
theorem dX8_init_172 : decode cX8_init 172 = .ok (.putfield 75, 3) := by decide +kernel
theorem dX8_init_175 : decode cX8_init 175 = .ok (.aload_n 0, 1) := by decide +kernel
theorem dX8_init_176 : decode cX8_init 176 = .ok (.bipush 64, 2) := by decide +kernel
theorem dX8_init_178 : decode cX8_init 178 = .ok (.newarray .int, 2) := by decide +kernel
theorem dX8_init_180 : decode cX8_init 180 = .ok (.putfield 78, 3) := by decide +kernel
theorem dX8_init_183 : decode cX8_init 183 = .ok (.return_, 1) := by decide +kernel
theorem dX8_thrown_0 : decode cX8_thrown 0 = .ok (.aload_n 0, 1) := by decide +kernel
theorem dX8_thrown_1 : decode cX8_thrown 1 = .ok (.getfield 81, 3) := by decide +kernel
theorem dX8_thrown_4 : decode cX8_thrown 4 = .ok (.ireturn, 1) := by decide +kernel
theorem dX8_isIn_0 : decode cX8_isIn 0 = .ok (.iload_n 0, 1) := by decide +kernel
theorem dX8_isIn_1 : decode cX8_isIn 1 = .ok (.iload_n 1, 1) := by decide +kernel
theorem dX8_isIn_2 : decode cX8_isIn 2 = .ok (.if_icmp .lt 12, 3) := by decide +kernel
theorem dX8_isIn_5 : decode cX8_isIn 5 = .ok (.iload_n 0, 1) := by decide +kernel
theorem dX8_isIn_6 : decode cX8_isIn 6 = .ok (.iload_n 2, 1) := by decide +kernel
theorem dX8_isIn_7 : decode cX8_isIn 7 = .ok (.if_icmp .gt 7, 3) := by decide +kernel
theorem dX8_isIn_10 : decode cX8_isIn 10 = .ok (.iconst 1, 1) := by decide +kernel
theorem dX8_isIn_11 : decode cX8_isIn 11 = .ok (.goto 4, 3) := by decide +kernel
theorem dX8_isIn_14 : decode cX8_isIn 14 = .ok (.iconst 0, 1) := by decide +kernel
theorem dX8_isIn_15 : decode cX8_isIn 15 = .ok (.ireturn, 1) := by decide +kernel
theorem dX8_isFencer_0 : decode cX8_isFencer 0 = .ok (.iload_n 1, 1) := by decide +kernel
theorem dX8_isFencer_1 : decode cX8_isFencer 1 = .ok (.iconst 0, 1) := by decide +kernel
theorem dX8_isFencer_2 : decode cX8_isFencer 2 = .ok (.aload_n 0, 1) := by decide +kernel
theorem dX8_isFencer_3 : decode cX8_isFencer 3 = .ok (.getfield 84, 3) := by decide +kernel
theorem dX8_isFencer_6 : decode cX8_isFencer 6 = .ok (.iconst 1, 1) := by decide +kernel
theorem dX8_isFencer_7 : decode cX8_isFencer 7 = .ok (.isub, 1) := by decide +kernel
theorem dX8_isFencer_8 : decode cX8_isFencer 8 = .ok (.invokestatic 87, 3) := by decide +kernel
theorem dX8_isFencer_11 : decode cX8_isFencer 11 = .ok (.ireturn, 1) := by decide +kernel
theorem dX8_isPool_0 : decode cX8_isPool 0 = .ok (.iload_n 1, 1) := by decide +kernel
theorem dX8_isPool_1 : decode cX8_isPool 1 = .ok (.iconst 0, 1) := by decide +kernel
theorem dX8_isPool_2 : decode cX8_isPool 2 = .ok (.aload_n 0, 1) := by decide +kernel
theorem dX8_isPool_3 : decode cX8_isPool 3 = .ok (.getfield 91, 3) := by decide +kernel
theorem dX8_isPool_6 : decode cX8_isPool 6 = .ok (.iconst 1, 1) := by decide +kernel
theorem dX8_isPool_7 : decode cX8_isPool 7 = .ok (.isub, 1) := by decide +kernel
theorem dX8_isPool_8 : decode cX8_isPool 8 = .ok (.invokestatic 87, 3) := by decide +kernel
theorem dX8_isPool_11 : decode cX8_isPool 11 = .ok (.ireturn, 1) := by decide +kernel
theorem dX8_has_0 : decode cX8_has 0 = .ok (.iload_n 0, 1) := by decide +kernel
theorem dX8_has_1 : decode cX8_has 1 = .ok (.iload_n 1, 1) := by decide +kernel
theorem dX8_has_2 : decode cX8_has 2 = .ok (.ishr, 1) := by decide +kernel
theorem dX8_has_3 : decode cX8_has 3 = .ok (.iconst 1, 1) := by decide +kernel
theorem dX8_has_4 : decode cX8_has 4 = .ok (.iand, 1) := by decide +kernel
theorem dX8_has_5 : decode cX8_has 5 = .ok (.iconst 1, 1) := by decide +kernel
theorem dX8_has_6 : decode cX8_has 6 = .ok (.if_icmp .ne 7, 3) := by decide +kernel
theorem dX8_has_9 : decode cX8_has 9 = .ok (.iconst 1, 1) := by decide +kernel
theorem dX8_has_10 : decode cX8_has 10 = .ok (.goto 4, 3) := by decide +kernel
theorem dX8_has_13 : decode cX8_has 13 = .ok (.iconst 0, 1) := by decide +kernel
theorem dX8_has_14 : decode cX8_has 14 = .ok (.ireturn, 1) := by decide +kernel
theorem dX8_fencer_0 : decode cX8_fencer 0 = .ok (.aload_n 0, 1) := by decide +kernel
theorem dX8_fencer_1 : decode cX8_fencer 1 = .ok (.aload_n 0, 1) := by decide +kernel
theorem dX8_fencer_2 : decode cX8_fencer 2 = .ok (.getfield 84, 3) := by decide +kernel
theorem dX8_fencer_5 : decode cX8_fencer 5 = .ok (.bipush 12, 2) := by decide +kernel
theorem dX8_fencer_7 : decode cX8_fencer 7 = .ok (.if_icmp .ne 7, 3) := by decide +kernel
theorem dX8_fencer_10 : decode cX8_fencer 10 = .ok (.iconst 1, 1) := by decide +kernel
theorem dX8_fencer_11 : decode cX8_fencer 11 = .ok (.goto 4, 3) := by decide +kernel
theorem dX8_fencer_14 : decode cX8_fencer 14 = .ok (.iconst 0, 1) := by decide +kernel
theorem dX8_fencer_15 : decode cX8_fencer 15 = .ok (.putfield 81, 3) := by decide +kernel
theorem dX8_fencer_18 : decode cX8_fencer 18 = .ok (.aload_n 0, 1) := by decide +kernel
theorem dX8_fencer_19 : decode cX8_fencer 19 = .ok (.getfield 81, 3) := by decide +kernel
theorem dX8_fencer_22 : decode cX8_fencer 22 = .ok (.ifCond .le 5, 3) := by decide +kernel
theorem dX8_fencer_25 : decode cX8_fencer 25 = .ok (.iconst 0, 1) := by decide +kernel
theorem dX8_fencer_26 : decode cX8_fencer 26 = .ok (.ireturn, 1) := by decide +kernel
theorem dX8_fencer_27 : decode cX8_fencer 27 = .ok (.aload_n 0, 1) := by decide +kernel
theorem dX8_fencer_28 : decode cX8_fencer 28 = .ok (.dup, 1) := by decide +kernel
theorem dX8_fencer_29 : decode cX8_fencer 29 = .ok (.getfield 84, 3) := by decide +kernel
theorem dX8_fencer_32 : decode cX8_fencer 32 = .ok (.iconst 1, 1) := by decide +kernel
theorem dX8_fencer_33 : decode cX8_fencer 33 = .ok (.iadd, 1) := by decide +kernel
theorem dX8_fencer_34 : decode cX8_fencer 34 = .ok (.putfield 84, 3) := by decide +kernel
theorem dX8_fencer_37 : decode cX8_fencer 37 = .ok (.aload_n 0, 1) := by decide +kernel
theorem dX8_fencer_38 : decode cX8_fencer 38 = .ok (.getfield 84, 3) := by decide +kernel
theorem dX8_fencer_41 : decode cX8_fencer 41 = .ok (.iconst 1, 1) := by decide +kernel
theorem dX8_fencer_42 : decode cX8_fencer 42 = .ok (.isub, 1) := by decide +kernel
theorem dX8_fencer_43 : decode cX8_fencer 43 = .ok (.ireturn, 1) := by decide +kernel
theorem dX8_begin_0 : decode cX8_begin 0 = .ok (.aload_n 0, 1) := by decide +kernel
theorem dX8_begin_1 : decode cX8_begin 1 = .ok (.aload_n 0, 1) := by decide +kernel
theorem dX8_begin_2 : decode cX8_begin 2 = .ok (.iload_n 1, 1) := by decide +kernel
theorem dX8_begin_3 : decode cX8_begin 3 = .ok (.invokevirtual 94, 3) := by decide +kernel
theorem dX8_begin_6 : decode cX8_begin 6 = .ok (.ifCond .eq 26, 3) := by decide +kernel
theorem dX8_begin_9 : decode cX8_begin 9 = .ok (.aload_n 0, 1) := by decide +kernel
theorem dX8_begin_10 : decode cX8_begin 10 = .ok (.iload_n 2, 1) := by decide +kernel
theorem dX8_begin_11 : decode cX8_begin 11 = .ok (.invokevirtual 94, 3) := by decide +kernel
theorem dX8_begin_14 : decode cX8_begin 14 = .ok (.ifCond .eq 18, 3) := by decide +kernel
theorem dX8_begin_17 : decode cX8_begin 17 = .ok (.iload 5, 2) := by decide +kernel
theorem dX8_begin_19 : decode cX8_begin 19 = .ok (.iconst (-1), 1) := by decide +kernel
theorem dX8_begin_20 : decode cX8_begin 20 = .ok (.if_icmp .eq 16, 3) := by decide +kernel
theorem dX8_begin_23 : decode cX8_begin 23 = .ok (.aload_n 0, 1) := by decide +kernel
theorem dX8_begin_24 : decode cX8_begin 24 = .ok (.iload 5, 2) := by decide +kernel
theorem dX8_begin_26 : decode cX8_begin 26 = .ok (.invokevirtual 98, 3) := by decide +kernel
theorem dX8_begin_29 : decode cX8_begin 29 = .ok (.ifCond .ne 7, 3) := by decide +kernel
theorem dX8_begin_32 : decode cX8_begin 32 = .ok (.iconst 1, 1) := by decide +kernel
theorem dX8_begin_33 : decode cX8_begin 33 = .ok (.goto 4, 3) := by decide +kernel
theorem dX8_begin_36 : decode cX8_begin 36 = .ok (.iconst 0, 1) := by decide +kernel
theorem dX8_begin_37 : decode cX8_begin 37 = .ok (.putfield 81, 3) := by decide +kernel
theorem dX8_begin_40 : decode cX8_begin 40 = .ok (.aload_n 0, 1) := by decide +kernel
theorem dX8_begin_41 : decode cX8_begin 41 = .ok (.getfield 81, 3) := by decide +kernel
theorem dX8_begin_44 : decode cX8_begin 44 = .ok (.ifCond .le 5, 3) := by decide +kernel
theorem dX8_begin_47 : decode cX8_begin 47 = .ok (.iconst 0, 1) := by decide +kernel
theorem dX8_begin_48 : decode cX8_begin 48 = .ok (.ireturn, 1) := by decide +kernel
theorem dX8_begin_49 : decode cX8_begin 49 = .ok (.iload 5, 2) := by decide +kernel
theorem dX8_begin_51 : decode cX8_begin 51 = .ok (.iconst (-1), 1) := by decide +kernel
theorem dX8_begin_52 : decode cX8_begin 52 = .ok (.if_icmp .eq 31, 3) := by decide +kernel
theorem dX8_begin_55 : decode cX8_begin 55 = .ok (.aload_n 0, 1) := by decide +kernel
theorem dX8_begin_56 : decode cX8_begin 56 = .ok (.getfield 66, 3) := by decide +kernel
theorem dX8_begin_59 : decode cX8_begin 59 = .ok (.iload 5, 2) := by decide +kernel
theorem dX8_begin_61 : decode cX8_begin 61 = .ok (.iaload, 1) := by decide +kernel
theorem dX8_begin_62 : decode cX8_begin 62 = .ok (.iload_n 1, 1) := by decide +kernel
theorem dX8_begin_63 : decode cX8_begin 63 = .ok (.invokestatic 101, 3) := by decide +kernel
theorem dX8_begin_66 : decode cX8_begin 66 = .ok (.ifCond .eq 21, 3) := by decide +kernel
theorem dX8_begin_69 : decode cX8_begin 69 = .ok (.aload_n 0, 1) := by decide +kernel
theorem dX8_begin_70 : decode cX8_begin 70 = .ok (.getfield 66, 3) := by decide +kernel
theorem dX8_begin_73 : decode cX8_begin 73 = .ok (.iload 5, 2) := by decide +kernel
theorem dX8_begin_75 : decode cX8_begin 75 = .ok (.iaload, 1) := by decide +kernel
theorem dX8_begin_76 : decode cX8_begin 76 = .ok (.iload_n 2, 1) := by decide +kernel
theorem dX8_begin_77 : decode cX8_begin 77 = .ok (.invokestatic 101, 3) := by decide +kernel
theorem dX8_begin_80 : decode cX8_begin 80 = .ok (.ifCond .eq 7, 3) := by decide +kernel
theorem dX8_begin_83 : decode cX8_begin 83 = .ok (.iconst 1, 1) := by decide +kernel
theorem dX8_begin_84 : decode cX8_begin 84 = .ok (.goto 4, 3) := by decide +kernel
theorem dX8_begin_87 : decode cX8_begin 87 = .ok (.iconst 0, 1) := by decide +kernel
theorem dX8_begin_88 : decode cX8_begin 88 = .ok (.istore 6, 2) := by decide +kernel
theorem dX8_begin_90 : decode cX8_begin 90 = .ok (.iload 5, 2) := by decide +kernel
theorem dX8_begin_92 : decode cX8_begin 92 = .ok (.iconst (-1), 1) := by decide +kernel
theorem dX8_begin_93 : decode cX8_begin 93 = .ok (.if_icmp .eq 31, 3) := by decide +kernel
theorem dX8_begin_96 : decode cX8_begin 96 = .ok (.aload_n 0, 1) := by decide +kernel
theorem dX8_begin_97 : decode cX8_begin 97 = .ok (.getfield 69, 3) := by decide +kernel
theorem dX8_begin_100 : decode cX8_begin 100 = .ok (.iload 5, 2) := by decide +kernel
theorem dX8_begin_102 : decode cX8_begin 102 = .ok (.iaload, 1) := by decide +kernel
theorem dX8_begin_103 : decode cX8_begin 103 = .ok (.iload_n 1, 1) := by decide +kernel
theorem dX8_begin_104 : decode cX8_begin 104 = .ok (.invokestatic 101, 3) := by decide +kernel
theorem dX8_begin_107 : decode cX8_begin 107 = .ok (.ifCond .ne 21, 3) := by decide +kernel
theorem dX8_begin_110 : decode cX8_begin 110 = .ok (.aload_n 0, 1) := by decide +kernel
theorem dX8_begin_111 : decode cX8_begin 111 = .ok (.getfield 69, 3) := by decide +kernel
theorem dX8_begin_114 : decode cX8_begin 114 = .ok (.iload 5, 2) := by decide +kernel
theorem dX8_begin_116 : decode cX8_begin 116 = .ok (.iaload, 1) := by decide +kernel
theorem dX8_begin_117 : decode cX8_begin 117 = .ok (.iload_n 2, 1) := by decide +kernel
theorem dX8_begin_118 : decode cX8_begin 118 = .ok (.invokestatic 101, 3) := by decide +kernel
theorem dX8_begin_121 : decode cX8_begin 121 = .ok (.ifCond .ne 7, 3) := by decide +kernel
theorem dX8_begin_124 : decode cX8_begin 124 = .ok (.iconst 1, 1) := by decide +kernel
theorem dX8_begin_125 : decode cX8_begin 125 = .ok (.goto 4, 3) := by decide +kernel
theorem dX8_begin_128 : decode cX8_begin 128 = .ok (.iconst 0, 1) := by decide +kernel
theorem dX8_begin_129 : decode cX8_begin 129 = .ok (.istore 7, 2) := by decide +kernel
theorem dX8_begin_131 : decode cX8_begin 131 = .ok (.aload_n 0, 1) := by decide +kernel
theorem dX8_begin_132 : decode cX8_begin 132 = .ok (.iload_n 1, 1) := by decide +kernel
theorem dX8_begin_133 : decode cX8_begin 133 = .ok (.iload_n 2, 1) := by decide +kernel
theorem dX8_begin_134 : decode cX8_begin 134 = .ok (.if_icmp .eq 28, 3) := by decide +kernel
theorem dX8_begin_137 : decode cX8_begin 137 = .ok (.iload_n 3, 1) := by decide +kernel
theorem dX8_begin_138 : decode cX8_begin 138 = .ok (.iconst 0, 1) := by decide +kernel
theorem dX8_begin_139 : decode cX8_begin 139 = .ok (.iconst 2, 1) := by decide +kernel
theorem dX8_begin_140 : decode cX8_begin 140 = .ok (.invokestatic 87, 3) := by decide +kernel
theorem dX8_begin_143 : decode cX8_begin 143 = .ok (.ifCond .eq 19, 3) := by decide +kernel
theorem dX8_begin_146 : decode cX8_begin 146 = .ok (.iload 4, 2) := by decide +kernel
theorem dX8_begin_148 : decode cX8_begin 148 = .ok (.iconst 1, 1) := by decide +kernel
theorem dX8_begin_149 : decode cX8_begin 149 = .ok (.bipush 45, 2) := by decide +kernel
theorem dX8_begin_151 : decode cX8_begin 151 = .ok (.invokestatic 87, 3) := by decide +kernel
theorem dX8_begin_154 : decode cX8_begin 154 = .ok (.ifCond .eq 8, 3) := by decide +kernel
theorem dX8_begin_157 : decode cX8_begin 157 = .ok (.iload 6, 2) := by decide +kernel
theorem dX8_begin_159 : decode cX8_begin 159 = .ok (.ifCond .ne 7, 3) := by decide +kernel
theorem dX8_begin_162 : decode cX8_begin 162 = .ok (.iconst 2, 1) := by decide +kernel
theorem dX8_begin_163 : decode cX8_begin 163 = .ok (.goto 30, 3) := by decide +kernel
theorem dX8_begin_166 : decode cX8_begin 166 = .ok (.aload_n 0, 1) := by decide +kernel
theorem dX8_begin_167 : decode cX8_begin 167 = .ok (.getfield 13, 3) := by decide +kernel
theorem dX8_begin_170 : decode cX8_begin 170 = .ok (.iconst (-1), 1) := by decide +kernel
theorem dX8_begin_171 : decode cX8_begin 171 = .ok (.if_icmp .ne 17, 3) := by decide +kernel
theorem dX8_begin_174 : decode cX8_begin 174 = .ok (.iload 7, 2) := by decide +kernel
theorem dX8_begin_176 : decode cX8_begin 176 = .ok (.ifCond .eq 12, 3) := by decide +kernel
theorem dX8_begin_179 : decode cX8_begin 179 = .ok (.aload_n 0, 1) := by decide +kernel
theorem dX8_begin_180 : decode cX8_begin 180 = .ok (.getfield 105, 3) := by decide +kernel
theorem dX8_begin_183 : decode cX8_begin 183 = .ok (.bipush 80, 2) := by decide +kernel
theorem dX8_begin_185 : decode cX8_begin 185 = .ok (.if_icmp .ne 7, 3) := by decide +kernel
theorem dX8_begin_188 : decode cX8_begin 188 = .ok (.iconst 3, 1) := by decide +kernel
theorem dX8_begin_189 : decode cX8_begin 189 = .ok (.goto 4, 3) := by decide +kernel
theorem dX8_begin_192 : decode cX8_begin 192 = .ok (.iconst 0, 1) := by decide +kernel
theorem dX8_begin_193 : decode cX8_begin 193 = .ok (.putfield 81, 3) := by decide +kernel
theorem dX8_begin_196 : decode cX8_begin 196 = .ok (.aload_n 0, 1) := by decide +kernel
theorem dX8_begin_197 : decode cX8_begin 197 = .ok (.getfield 81, 3) := by decide +kernel
theorem dX8_begin_200 : decode cX8_begin 200 = .ok (.ifCond .le 5, 3) := by decide +kernel
theorem dX8_begin_203 : decode cX8_begin 203 = .ok (.iconst 0, 1) := by decide +kernel
theorem dX8_begin_204 : decode cX8_begin 204 = .ok (.ireturn, 1) := by decide +kernel
theorem dX8_begin_205 : decode cX8_begin 205 = .ok (.aload_n 0, 1) := by decide +kernel
theorem dX8_begin_206 : decode cX8_begin 206 = .ok (.getfield 16, 3) := by decide +kernel
theorem dX8_begin_209 : decode cX8_begin 209 = .ok (.iconst 2, 1) := by decide +kernel
theorem dX8_begin_210 : decode cX8_begin 210 = .ok (.aload_n 0, 1) := by decide +kernel
theorem dX8_begin_211 : decode cX8_begin 211 = .ok (.getfield 105, 3) := by decide +kernel
theorem dX8_begin_214 : decode cX8_begin 214 = .ok (.imul, 1) := by decide +kernel
theorem dX8_begin_215 : decode cX8_begin 215 = .ok (.iload_n 1, 1) := by decide +kernel
theorem dX8_begin_216 : decode cX8_begin 216 = .ok (.iastore, 1) := by decide +kernel
theorem dX8_begin_217 : decode cX8_begin 217 = .ok (.aload_n 0, 1) := by decide +kernel
theorem dX8_begin_218 : decode cX8_begin 218 = .ok (.getfield 16, 3) := by decide +kernel
theorem dX8_begin_221 : decode cX8_begin 221 = .ok (.iconst 2, 1) := by decide +kernel
theorem dX8_begin_222 : decode cX8_begin 222 = .ok (.aload_n 0, 1) := by decide +kernel
theorem dX8_begin_223 : decode cX8_begin 223 = .ok (.getfield 105, 3) := by decide +kernel
theorem dX8_begin_226 : decode cX8_begin 226 = .ok (.imul, 1) := by decide +kernel
theorem dX8_begin_227 : decode cX8_begin 227 = .ok (.iconst 1, 1) := by decide +kernel
theorem dX8_begin_228 : decode cX8_begin 228 = .ok (.iadd, 1) := by decide +kernel
theorem dX8_begin_229 : decode cX8_begin 229 = .ok (.iload_n 2, 1) := by decide +kernel
theorem dX8_begin_230 : decode cX8_begin 230 = .ok (.iastore, 1) := by decide +kernel
theorem dX8_begin_231 : decode cX8_begin 231 = .ok (.aload_n 0, 1) := by decide +kernel
theorem dX8_begin_232 : decode cX8_begin 232 = .ok (.getfield 23, 3) := by decide +kernel
theorem dX8_begin_235 : decode cX8_begin 235 = .ok (.aload_n 0, 1) := by decide +kernel
theorem dX8_begin_236 : decode cX8_begin 236 = .ok (.getfield 105, 3) := by decide +kernel
theorem dX8_begin_239 : decode cX8_begin 239 = .ok (.iload_n 3, 1) := by decide +kernel
theorem dX8_begin_240 : decode cX8_begin 240 = .ok (.iastore, 1) := by decide +kernel
theorem dX8_begin_241 : decode cX8_begin 241 = .ok (.aload_n 0, 1) := by decide +kernel
theorem dX8_begin_242 : decode cX8_begin 242 = .ok (.getfield 26, 3) := by decide +kernel
theorem dX8_begin_245 : decode cX8_begin 245 = .ok (.aload_n 0, 1) := by decide +kernel
theorem dX8_begin_246 : decode cX8_begin 246 = .ok (.getfield 105, 3) := by decide +kernel
theorem dX8_begin_249 : decode cX8_begin 249 = .ok (.iload 4, 2) := by decide +kernel
theorem dX8_begin_251 : decode cX8_begin 251 = .ok (.iastore, 1) := by decide +kernel
theorem dX8_begin_252 : decode cX8_begin 252 = .ok (.aload_n 0, 1) := by decide +kernel
theorem dX8_begin_253 : decode cX8_begin 253 = .ok (.getfield 29, 3) := by decide +kernel
theorem dX8_begin_256 : decode cX8_begin 256 = .ok (.aload_n 0, 1) := by decide +kernel
theorem dX8_begin_257 : decode cX8_begin 257 = .ok (.getfield 105, 3) := by decide +kernel
theorem dX8_begin_260 : decode cX8_begin 260 = .ok (.iload 5, 2) := by decide +kernel
theorem dX8_begin_262 : decode cX8_begin 262 = .ok (.iastore, 1) := by decide +kernel
theorem dX8_begin_263 : decode cX8_begin 263 = .ok (.aload_n 0, 1) := by decide +kernel
theorem dX8_begin_264 : decode cX8_begin 264 = .ok (.getfield 32, 3) := by decide +kernel
theorem dX8_begin_267 : decode cX8_begin 267 = .ok (.aload_n 0, 1) := by decide +kernel
theorem dX8_begin_268 : decode cX8_begin 268 = .ok (.getfield 105, 3) := by decide +kernel
theorem dX8_begin_271 : decode cX8_begin 271 = .ok (.iconst (-1), 1) := by decide +kernel
theorem dX8_begin_272 : decode cX8_begin 272 = .ok (.iastore, 1) := by decide +kernel
theorem dX8_begin_273 : decode cX8_begin 273 = .ok (.aload_n 0, 1) := by decide +kernel
theorem dX8_begin_274 : decode cX8_begin 274 = .ok (.getfield 41, 3) := by decide +kernel
theorem dX8_begin_277 : decode cX8_begin 277 = .ok (.aload_n 0, 1) := by decide +kernel
theorem dX8_begin_278 : decode cX8_begin 278 = .ok (.getfield 105, 3) := by decide +kernel
theorem dX8_begin_281 : decode cX8_begin 281 = .ok (.iconst (-1), 1) := by decide +kernel
theorem dX8_begin_282 : decode cX8_begin 282 = .ok (.iastore, 1) := by decide +kernel
theorem dX8_begin_283 : decode cX8_begin 283 = .ok (.aload_n 0, 1) := by decide +kernel
theorem dX8_begin_284 : decode cX8_begin 284 = .ok (.aload_n 0, 1) := by decide +kernel
theorem dX8_begin_285 : decode cX8_begin 285 = .ok (.getfield 105, 3) := by decide +kernel
theorem dX8_begin_288 : decode cX8_begin 288 = .ok (.putfield 13, 3) := by decide +kernel
theorem dX8_begin_291 : decode cX8_begin 291 = .ok (.aload_n 0, 1) := by decide +kernel
theorem dX8_begin_292 : decode cX8_begin 292 = .ok (.iconst 0, 1) := by decide +kernel
theorem dX8_begin_293 : decode cX8_begin 293 = .ok (.putfield 108, 3) := by decide +kernel
theorem dX8_begin_296 : decode cX8_begin 296 = .ok (.iconst 0, 1) := by decide +kernel
theorem dX8_begin_297 : decode cX8_begin 297 = .ok (.istore 8, 2) := by decide +kernel
theorem dX8_begin_299 : decode cX8_begin 299 = .ok (.iload 8, 2) := by decide +kernel
theorem dX8_begin_301 : decode cX8_begin 301 = .ok (.iconst 2, 1) := by decide +kernel
theorem dX8_begin_302 : decode cX8_begin 302 = .ok (.if_icmp .ge 25, 3) := by decide +kernel
theorem dX8_begin_305 : decode cX8_begin 305 = .ok (.aload_n 0, 1) := by decide +kernel
theorem dX8_begin_306 : decode cX8_begin 306 = .ok (.getfield 44, 3) := by decide +kernel
theorem dX8_begin_309 : decode cX8_begin 309 = .ok (.iload 8, 2) := by decide +kernel
theorem dX8_begin_311 : decode cX8_begin 311 = .ok (.iconst 0, 1) := by decide +kernel
theorem dX8_begin_312 : decode cX8_begin 312 = .ok (.iastore, 1) := by decide +kernel
theorem dX8_begin_313 : decode cX8_begin 313 = .ok (.aload_n 0, 1) := by decide +kernel
theorem dX8_begin_314 : decode cX8_begin 314 = .ok (.getfield 47, 3) := by decide +kernel
theorem dX8_begin_317 : decode cX8_begin 317 = .ok (.iload 8, 2) := by decide +kernel
theorem dX8_begin_319 : decode cX8_begin 319 = .ok (.iconst 0, 1) := by decide +kernel
theorem dX8_begin_320 : decode cX8_begin 320 = .ok (.bastore, 1) := by decide +kernel
theorem dX8_begin_321 : decode cX8_begin 321 = .ok (.iinc 8 1, 3) := by decide +kernel
theorem dX8_begin_324 : decode cX8_begin 324 = .ok (.goto (-25), 3) := by decide +kernel
theorem dX8_begin_327 : decode cX8_begin 327 = .ok (.aload_n 0, 1) := by decide +kernel
theorem dX8_begin_328 : decode cX8_begin 328 = .ok (.iconst 0, 1) := by decide +kernel
theorem dX8_begin_329 : decode cX8_begin 329 = .ok (.putfield 111, 3) := by decide +kernel
theorem dX8_begin_332 : decode cX8_begin 332 = .ok (.aload_n 0, 1) := by decide +kernel
theorem dX8_begin_333 : decode cX8_begin 333 = .ok (.dup, 1) := by decide +kernel
theorem dX8_begin_334 : decode cX8_begin 334 = .ok (.getfield 105, 3) := by decide +kernel
theorem dX8_begin_337 : decode cX8_begin 337 = .ok (.iconst 1, 1) := by decide +kernel
theorem dX8_begin_338 : decode cX8_begin 338 = .ok (.iadd, 1) := by decide +kernel
theorem dX8_begin_339 : decode cX8_begin 339 = .ok (.putfield 105, 3) := by decide +kernel
theorem dX8_begin_342 : decode cX8_begin 342 = .ok (.aload_n 0, 1) := by decide +kernel
theorem dX8_begin_343 : decode cX8_begin 343 = .ok (.getfield 13, 3) := by decide +kernel
theorem dX8_begin_346 : decode cX8_begin 346 = .ok (.ireturn, 1) := by decide +kernel
theorem dX8_puts_0 : decode cX8_puts 0 = .ok (.aload_n 0, 1) := by decide +kernel
theorem dX8_puts_1 : decode cX8_puts 1 = .ok (.getfield 51, 3) := by decide +kernel
theorem dX8_puts_4 : decode cX8_puts 4 = .ok (.aload_n 0, 1) := by decide +kernel
theorem dX8_puts_5 : decode cX8_puts 5 = .ok (.getfield 111, 3) := by decide +kernel
theorem dX8_puts_8 : decode cX8_puts 8 = .ok (.iload_n 1, 1) := by decide +kernel
theorem dX8_puts_9 : decode cX8_puts 9 = .ok (.iastore, 1) := by decide +kernel
theorem dX8_puts_10 : decode cX8_puts 10 = .ok (.aload_n 0, 1) := by decide +kernel
theorem dX8_puts_11 : decode cX8_puts 11 = .ok (.getfield 54, 3) := by decide +kernel
theorem dX8_puts_14 : decode cX8_puts 14 = .ok (.aload_n 0, 1) := by decide +kernel
theorem dX8_puts_15 : decode cX8_puts 15 = .ok (.getfield 111, 3) := by decide +kernel
theorem dX8_puts_18 : decode cX8_puts 18 = .ok (.iload_n 2, 1) := by decide +kernel
theorem dX8_puts_19 : decode cX8_puts 19 = .ok (.iastore, 1) := by decide +kernel
theorem dX8_puts_20 : decode cX8_puts 20 = .ok (.aload_n 0, 1) := by decide +kernel
theorem dX8_puts_21 : decode cX8_puts 21 = .ok (.getfield 57, 3) := by decide +kernel
theorem dX8_puts_24 : decode cX8_puts 24 = .ok (.aload_n 0, 1) := by decide +kernel
theorem dX8_puts_25 : decode cX8_puts 25 = .ok (.getfield 111, 3) := by decide +kernel
theorem dX8_puts_28 : decode cX8_puts 28 = .ok (.iload_n 3, 1) := by decide +kernel
theorem dX8_puts_29 : decode cX8_puts 29 = .ok (.iastore, 1) := by decide +kernel
theorem dX8_puts_30 : decode cX8_puts 30 = .ok (.aload_n 0, 1) := by decide +kernel
theorem dX8_puts_31 : decode cX8_puts 31 = .ok (.dup, 1) := by decide +kernel
theorem dX8_puts_32 : decode cX8_puts 32 = .ok (.getfield 111, 3) := by decide +kernel
theorem dX8_puts_35 : decode cX8_puts 35 = .ok (.iconst 1, 1) := by decide +kernel
theorem dX8_puts_36 : decode cX8_puts 36 = .ok (.iadd, 1) := by decide +kernel
theorem dX8_puts_37 : decode cX8_puts 37 = .ok (.putfield 111, 3) := by decide +kernel
theorem dX8_puts_40 : decode cX8_puts 40 = .ok (.aload_n 0, 1) := by decide +kernel
theorem dX8_puts_41 : decode cX8_puts 41 = .ok (.getfield 111, 3) := by decide +kernel
theorem dX8_puts_44 : decode cX8_puts 44 = .ok (.ireturn, 1) := by decide +kernel
theorem dX8_may_0 : decode cX8_may 0 = .ok (.aload_n 0, 1) := by decide +kernel
theorem dX8_may_1 : decode cX8_may 1 = .ok (.getfield 13, 3) := by decide +kernel
theorem dX8_may_4 : decode cX8_may 4 = .ok (.iconst (-1), 1) := by decide +kernel
theorem dX8_may_5 : decode cX8_may 5 = .ok (.if_icmp .eq 38, 3) := by decide +kernel
theorem dX8_may_8 : decode cX8_may 8 = .ok (.aload_n 0, 1) := by decide +kernel
theorem dX8_may_9 : decode cX8_may 9 = .ok (.getfield 111, 3) := by decide +kernel
theorem dX8_may_12 : decode cX8_may 12 = .ok (.bipush 24, 2) := by decide +kernel
theorem dX8_may_14 : decode cX8_may 14 = .ok (.if_icmp .ge 29, 3) := by decide +kernel
theorem dX8_may_17 : decode cX8_may 17 = .ok (.aload_n 0, 1) := by decide +kernel
theorem dX8_may_18 : decode cX8_may 18 = .ok (.getfield 111, 3) := by decide +kernel
theorem dX8_may_21 : decode cX8_may 21 = .ok (.ifCond .eq 18, 3) := by decide +kernel
theorem dX8_may_24 : decode cX8_may 24 = .ok (.iload_n 1, 1) := by decide +kernel
theorem dX8_may_25 : decode cX8_may 25 = .ok (.aload_n 0, 1) := by decide +kernel
theorem dX8_may_26 : decode cX8_may 26 = .ok (.getfield 57, 3) := by decide +kernel
theorem dX8_may_29 : decode cX8_may 29 = .ok (.aload_n 0, 1) := by decide +kernel
theorem dX8_may_30 : decode cX8_may 30 = .ok (.getfield 111, 3) := by decide +kernel
theorem dX8_may_33 : decode cX8_may 33 = .ok (.iconst 1, 1) := by decide +kernel
theorem dX8_may_34 : decode cX8_may 34 = .ok (.isub, 1) := by decide +kernel
theorem dX8_may_35 : decode cX8_may 35 = .ok (.iaload, 1) := by decide +kernel
theorem dX8_may_36 : decode cX8_may 36 = .ok (.if_icmp .lt 7, 3) := by decide +kernel
theorem dX8_may_39 : decode cX8_may 39 = .ok (.iconst 1, 1) := by decide +kernel
theorem dX8_may_40 : decode cX8_may 40 = .ok (.goto 4, 3) := by decide +kernel
theorem dX8_may_43 : decode cX8_may 43 = .ok (.iconst 0, 1) := by decide +kernel
theorem dX8_may_44 : decode cX8_may 44 = .ok (.ireturn, 1) := by decide +kernel
theorem dX8_isSide_0 : decode cX8_isSide 0 = .ok (.iload_n 0, 1) := by decide +kernel
theorem dX8_isSide_1 : decode cX8_isSide 1 = .ok (.iconst 0, 1) := by decide +kernel
theorem dX8_isSide_2 : decode cX8_isSide 2 = .ok (.iconst 1, 1) := by decide +kernel
theorem dX8_isSide_3 : decode cX8_isSide 3 = .ok (.invokestatic 87, 3) := by decide +kernel
theorem dX8_isSide_6 : decode cX8_isSide 6 = .ok (.ireturn, 1) := by decide +kernel
theorem dX8_act_0 : decode cX8_act 0 = .ok (.aload_n 0, 1) := by decide +kernel
theorem dX8_act_1 : decode cX8_act 1 = .ok (.iload_n 1, 1) := by decide +kernel
theorem dX8_act_2 : decode cX8_act 2 = .ok (.invokestatic 114, 3) := by decide +kernel
theorem dX8_act_5 : decode cX8_act 5 = .ok (.ifCond .eq 23, 3) := by decide +kernel
theorem dX8_act_8 : decode cX8_act 8 = .ok (.iload_n 2, 1) := by decide +kernel
theorem dX8_act_9 : decode cX8_act 9 = .ok (.iconst 0, 1) := by decide +kernel
theorem dX8_act_10 : decode cX8_act 10 = .ok (.bipush 6, 2) := by decide +kernel
theorem dX8_act_12 : decode cX8_act 12 = .ok (.invokestatic 87, 3) := by decide +kernel
theorem dX8_act_15 : decode cX8_act 15 = .ok (.ifCond .eq 13, 3) := by decide +kernel
theorem dX8_act_18 : decode cX8_act 18 = .ok (.iload_n 3, 1) := by decide +kernel
theorem dX8_act_19 : decode cX8_act 19 = .ok (.iconst 0, 1) := by decide +kernel
theorem dX8_act_20 : decode cX8_act 20 = .ok (.ldc 117, 2) := by decide +kernel
theorem dX8_act_22 : decode cX8_act 22 = .ok (.invokestatic 87, 3) := by decide +kernel
theorem dX8_act_25 : decode cX8_act 25 = .ok (.ifCond .ne 7, 3) := by decide +kernel
theorem dX8_act_28 : decode cX8_act 28 = .ok (.iconst 1, 1) := by decide +kernel
theorem dX8_act_29 : decode cX8_act 29 = .ok (.goto 16, 3) := by decide +kernel
theorem dX8_act_32 : decode cX8_act 32 = .ok (.aload_n 0, 1) := by decide +kernel
theorem dX8_act_33 : decode cX8_act 33 = .ok (.iload_n 3, 1) := by decide +kernel
theorem dX8_act_34 : decode cX8_act 34 = .ok (.invokevirtual 118, 3) := by decide +kernel
theorem dX8_act_37 : decode cX8_act 37 = .ok (.ifCond .ne 7, 3) := by decide +kernel
theorem dX8_act_40 : decode cX8_act 40 = .ok (.iconst 2, 1) := by decide +kernel
theorem dX8_act_41 : decode cX8_act 41 = .ok (.goto 4, 3) := by decide +kernel
theorem dX8_act_44 : decode cX8_act 44 = .ok (.iconst 0, 1) := by decide +kernel
theorem dX8_act_45 : decode cX8_act 45 = .ok (.putfield 81, 3) := by decide +kernel
theorem dX8_act_48 : decode cX8_act 48 = .ok (.aload_n 0, 1) := by decide +kernel
theorem dX8_act_49 : decode cX8_act 49 = .ok (.getfield 81, 3) := by decide +kernel
theorem dX8_act_52 : decode cX8_act 52 = .ok (.ifCond .le 7, 3) := by decide +kernel
theorem dX8_act_55 : decode cX8_act 55 = .ok (.iconst 0, 1) := by decide +kernel
theorem dX8_act_56 : decode cX8_act 56 = .ok (.goto 10, 3) := by decide +kernel
theorem dX8_act_59 : decode cX8_act 59 = .ok (.aload_n 0, 1) := by decide +kernel
theorem dX8_act_60 : decode cX8_act 60 = .ok (.iload_n 1, 1) := by decide +kernel
theorem dX8_act_61 : decode cX8_act 61 = .ok (.iload_n 2, 1) := by decide +kernel
theorem dX8_act_62 : decode cX8_act 62 = .ok (.iload_n 3, 1) := by decide +kernel
theorem dX8_act_63 : decode cX8_act 63 = .ok (.invokevirtual 121, 3) := by decide +kernel
theorem dX8_act_66 : decode cX8_act 66 = .ok (.ireturn, 1) := by decide +kernel
theorem dX8_hit_0 : decode cX8_hit 0 = .ok (.aload_n 0, 1) := by decide +kernel
theorem dX8_hit_1 : decode cX8_hit 1 = .ok (.iload_n 1, 1) := by decide +kernel
theorem dX8_hit_2 : decode cX8_hit 2 = .ok (.invokestatic 114, 3) := by decide +kernel
theorem dX8_hit_5 : decode cX8_hit 5 = .ok (.ifCond .eq 34, 3) := by decide +kernel
theorem dX8_hit_8 : decode cX8_hit 8 = .ok (.iload_n 2, 1) := by decide +kernel
theorem dX8_hit_9 : decode cX8_hit 9 = .ok (.iconst 0, 1) := by decide +kernel
theorem dX8_hit_10 : decode cX8_hit 10 = .ok (.ldc 117, 2) := by decide +kernel
theorem dX8_hit_12 : decode cX8_hit 12 = .ok (.invokestatic 87, 3) := by decide +kernel
theorem dX8_hit_15 : decode cX8_hit 15 = .ok (.ifCond .eq 24, 3) := by decide +kernel
theorem dX8_hit_18 : decode cX8_hit 18 = .ok (.iload_n 3, 1) := by decide +kernel
theorem dX8_hit_19 : decode cX8_hit 19 = .ok (.iconst 0, 1) := by decide +kernel
theorem dX8_hit_20 : decode cX8_hit 20 = .ok (.sipush 1000, 3) := by decide +kernel
theorem dX8_hit_23 : decode cX8_hit 23 = .ok (.invokestatic 87, 3) := by decide +kernel
theorem dX8_hit_26 : decode cX8_hit 26 = .ok (.ifCond .eq 13, 3) := by decide +kernel
theorem dX8_hit_29 : decode cX8_hit 29 = .ok (.iload 4, 2) := by decide +kernel
theorem dX8_hit_31 : decode cX8_hit 31 = .ok (.iconst 0, 1) := by decide +kernel
theorem dX8_hit_32 : decode cX8_hit 32 = .ok (.iconst 2, 1) := by decide +kernel
theorem dX8_hit_33 : decode cX8_hit 33 = .ok (.invokestatic 87, 3) := by decide +kernel
theorem dX8_hit_36 : decode cX8_hit 36 = .ok (.ifCond .ne 7, 3) := by decide +kernel
theorem dX8_hit_39 : decode cX8_hit 39 = .ok (.iconst 1, 1) := by decide +kernel
theorem dX8_hit_40 : decode cX8_hit 40 = .ok (.goto 16, 3) := by decide +kernel
theorem dX8_hit_43 : decode cX8_hit 43 = .ok (.aload_n 0, 1) := by decide +kernel
theorem dX8_hit_44 : decode cX8_hit 44 = .ok (.iload_n 2, 1) := by decide +kernel
theorem dX8_hit_45 : decode cX8_hit 45 = .ok (.invokevirtual 118, 3) := by decide +kernel
theorem dX8_hit_48 : decode cX8_hit 48 = .ok (.ifCond .ne 7, 3) := by decide +kernel
theorem dX8_hit_51 : decode cX8_hit 51 = .ok (.iconst 2, 1) := by decide +kernel
theorem dX8_hit_52 : decode cX8_hit 52 = .ok (.goto 4, 3) := by decide +kernel
theorem dX8_hit_55 : decode cX8_hit 55 = .ok (.iconst 0, 1) := by decide +kernel
theorem dX8_hit_56 : decode cX8_hit 56 = .ok (.putfield 81, 3) := by decide +kernel
theorem dX8_hit_59 : decode cX8_hit 59 = .ok (.aload_n 0, 1) := by decide +kernel
theorem dX8_hit_60 : decode cX8_hit 60 = .ok (.getfield 81, 3) := by decide +kernel
theorem dX8_hit_63 : decode cX8_hit 63 = .ok (.ifCond .le 5, 3) := by decide +kernel
theorem dX8_hit_66 : decode cX8_hit 66 = .ok (.iconst 0, 1) := by decide +kernel
theorem dX8_hit_67 : decode cX8_hit 67 = .ok (.ireturn, 1) := by decide +kernel
theorem dX8_hit_68 : decode cX8_hit 68 = .ok (.aload_n 0, 1) := by decide +kernel
theorem dX8_hit_69 : decode cX8_hit 69 = .ok (.getfield 60, 3) := by decide +kernel
theorem dX8_hit_72 : decode cX8_hit 72 = .ok (.aload_n 0, 1) := by decide +kernel
theorem dX8_hit_73 : decode cX8_hit 73 = .ok (.getfield 111, 3) := by decide +kernel
theorem dX8_hit_76 : decode cX8_hit 76 = .ok (.iload_n 3, 1) := by decide +kernel
theorem dX8_hit_77 : decode cX8_hit 77 = .ok (.iastore, 1) := by decide +kernel
theorem dX8_hit_78 : decode cX8_hit 78 = .ok (.aload_n 0, 1) := by decide +kernel
theorem dX8_hit_79 : decode cX8_hit 79 = .ok (.getfield 63, 3) := by decide +kernel
theorem dX8_hit_82 : decode cX8_hit 82 = .ok (.aload_n 0, 1) := by decide +kernel
theorem dX8_hit_83 : decode cX8_hit 83 = .ok (.getfield 111, 3) := by decide +kernel
theorem dX8_hit_86 : decode cX8_hit 86 = .ok (.iload 4, 2) := by decide +kernel
theorem dX8_hit_88 : decode cX8_hit 88 = .ok (.iastore, 1) := by decide +kernel
theorem dX8_hit_89 : decode cX8_hit 89 = .ok (.aload_n 0, 1) := by decide +kernel
theorem dX8_hit_90 : decode cX8_hit 90 = .ok (.iload_n 1, 1) := by decide +kernel
theorem dX8_hit_91 : decode cX8_hit 91 = .ok (.bipush 7, 2) := by decide +kernel
theorem dX8_hit_93 : decode cX8_hit 93 = .ok (.iload_n 2, 1) := by decide +kernel
theorem dX8_hit_94 : decode cX8_hit 94 = .ok (.invokevirtual 121, 3) := by decide +kernel
theorem dX8_hit_97 : decode cX8_hit 97 = .ok (.ireturn, 1) := by decide +kernel
theorem dX8_least_0 : decode cX8_least 0 = .ok (.iload_n 0, 1) := by decide +kernel
theorem dX8_least_1 : decode cX8_least 1 = .ok (.ifCond .ne 8, 3) := by decide +kernel
theorem dX8_least_4 : decode cX8_least 4 = .ok (.bipush 14, 2) := by decide +kernel
theorem dX8_least_6 : decode cX8_least 6 = .ok (.goto 13, 3) := by decide +kernel
theorem dX8_least_9 : decode cX8_least 9 = .ok (.iload_n 0, 1) := by decide +kernel
theorem dX8_least_10 : decode cX8_least 10 = .ok (.iconst 1, 1) := by decide +kernel
theorem dX8_least_11 : decode cX8_least 11 = .ok (.if_icmp .ne 7, 3) := by decide +kernel
theorem dX8_least_14 : decode cX8_least 14 = .ok (.iconst 2, 1) := by decide +kernel
theorem dX8_least_15 : decode cX8_least 15 = .ok (.goto 4, 3) := by decide +kernel
theorem dX8_least_18 : decode cX8_least 18 = .ok (.iconst 1, 1) := by decide +kernel
theorem dX8_least_19 : decode cX8_least 19 = .ok (.ireturn, 1) := by decide +kernel
theorem dX8_locks_0 : decode cX8_locks 0 = .ok (.iload_n 0, 1) := by decide +kernel
theorem dX8_locks_1 : decode cX8_locks 1 = .ok (.ifCond .ne 9, 3) := by decide +kernel
theorem dX8_locks_4 : decode cX8_locks 4 = .ok (.sipush 300, 3) := by decide +kernel
theorem dX8_locks_7 : decode cX8_locks 7 = .ok (.goto 16, 3) := by decide +kernel
theorem dX8_locks_10 : decode cX8_locks 10 = .ok (.iload_n 0, 1) := by decide +kernel
theorem dX8_locks_11 : decode cX8_locks 11 = .ok (.iconst 1, 1) := by decide +kernel
theorem dX8_locks_12 : decode cX8_locks 12 = .ok (.if_icmp .ne 8, 3) := by decide +kernel
theorem dX8_locks_15 : decode cX8_locks 15 = .ok (.bipush 45, 2) := by decide +kernel
theorem dX8_locks_17 : decode cX8_locks 17 = .ok (.goto 6, 3) := by decide +kernel
theorem dX8_locks_20 : decode cX8_locks 20 = .ok (.sipush 170, 3) := by decide +kernel
theorem dX8_locks_23 : decode cX8_locks 23 = .ok (.ireturn, 1) := by decide +kernel
theorem dX8_registered_0 : decode cX8_registered 0 = .ok (.aload_n 0, 1) := by decide +kernel
theorem dX8_registered_1 : decode cX8_registered 1 = .ok (.getfield 13, 3) := by decide +kernel
theorem dX8_registered_4 : decode cX8_registered 4 = .ok (.iconst (-1), 1) := by decide +kernel
theorem dX8_registered_5 : decode cX8_registered 5 = .ok (.if_icmp .ne 5, 3) := by decide +kernel
theorem dX8_registered_8 : decode cX8_registered 8 = .ok (.iconst (-1), 1) := by decide +kernel
theorem dX8_registered_9 : decode cX8_registered 9 = .ok (.ireturn, 1) := by decide +kernel
theorem dX8_registered_10 : decode cX8_registered 10 = .ok (.aload_n 0, 1) := by decide +kernel
theorem dX8_registered_11 : decode cX8_registered 11 = .ok (.getfield 23, 3) := by decide +kernel
theorem dX8_registered_14 : decode cX8_registered 14 = .ok (.aload_n 0, 1) := by decide +kernel
theorem dX8_registered_15 : decode cX8_registered 15 = .ok (.getfield 13, 3) := by decide +kernel
theorem dX8_registered_18 : decode cX8_registered 18 = .ok (.iaload, 1) := by decide +kernel
theorem dX8_registered_19 : decode cX8_registered 19 = .ok (.istore_n 2, 1) := by decide +kernel
theorem dX8_registered_20 : decode cX8_registered 20 = .ok (.iconst (-1), 1) := by decide +kernel
theorem dX8_registered_21 : decode cX8_registered 21 = .ok (.istore_n 3, 1) := by decide +kernel
theorem dX8_registered_22 : decode cX8_registered 22 = .ok (.iconst (-1), 1) := by decide +kernel
theorem dX8_registered_23 : decode cX8_registered 23 = .ok (.istore 4, 2) := by decide +kernel
theorem dX8_registered_25 : decode cX8_registered 25 = .ok (.iconst 0, 1) := by decide +kernel
theorem dX8_registered_26 : decode cX8_registered 26 = .ok (.istore 5, 2) := by decide +kernel
theorem dX8_registered_28 : decode cX8_registered 28 = .ok (.iload 5, 2) := by decide +kernel
theorem dX8_registered_30 : decode cX8_registered 30 = .ok (.aload_n 0, 1) := by decide +kernel
theorem dX8_registered_31 : decode cX8_registered 31 = .ok (.getfield 111, 3) := by decide +kernel
theorem dX8_registered_34 : decode cX8_registered 34 = .ok (.if_icmp .ge 182, 3) := by decide +kernel
theorem dX8_registered_37 : decode cX8_registered 37 = .ok (.aload_n 0, 1) := by decide +kernel
theorem dX8_registered_38 : decode cX8_registered 38 = .ok (.getfield 54, 3) := by decide +kernel
theorem dX8_registered_41 : decode cX8_registered 41 = .ok (.iload 5, 2) := by decide +kernel
theorem dX8_registered_43 : decode cX8_registered 43 = .ok (.iaload, 1) := by decide +kernel
theorem dX8_registered_44 : decode cX8_registered 44 = .ok (.bipush 7, 2) := by decide +kernel
theorem dX8_registered_46 : decode cX8_registered 46 = .ok (.if_icmp .ne 46, 3) := by decide +kernel
theorem dX8_registered_49 : decode cX8_registered 49 = .ok (.aload_n 0, 1) := by decide +kernel
theorem dX8_registered_50 : decode cX8_registered 50 = .ok (.getfield 60, 3) := by decide +kernel
theorem dX8_registered_53 : decode cX8_registered 53 = .ok (.iload 5, 2) := by decide +kernel
theorem dX8_registered_55 : decode cX8_registered 55 = .ok (.iaload, 1) := by decide +kernel
theorem dX8_registered_56 : decode cX8_registered 56 = .ok (.iload_n 2, 1) := by decide +kernel
theorem dX8_registered_57 : decode cX8_registered 57 = .ok (.invokestatic 125, 3) := by decide +kernel
theorem dX8_registered_60 : decode cX8_registered 60 = .ok (.if_icmp .lt 32, 3) := by decide +kernel
theorem dX8_registered_63 : decode cX8_registered 63 = .ok (.aload_n 0, 1) := by decide +kernel
theorem dX8_registered_64 : decode cX8_registered 64 = .ok (.getfield 63, 3) := by decide +kernel
theorem dX8_registered_67 : decode cX8_registered 67 = .ok (.iload 5, 2) := by decide +kernel
theorem dX8_registered_69 : decode cX8_registered 69 = .ok (.iaload, 1) := by decide +kernel
theorem dX8_registered_70 : decode cX8_registered 70 = .ok (.ifCond .eq 18, 3) := by decide +kernel
theorem dX8_registered_73 : decode cX8_registered 73 = .ok (.iload_n 2, 1) := by decide +kernel
theorem dX8_registered_74 : decode cX8_registered 74 = .ok (.ifCond .ne 18, 3) := by decide +kernel
theorem dX8_registered_77 : decode cX8_registered 77 = .ok (.aload_n 0, 1) := by decide +kernel
theorem dX8_registered_78 : decode cX8_registered 78 = .ok (.getfield 63, 3) := by decide +kernel
theorem dX8_registered_81 : decode cX8_registered 81 = .ok (.iload 5, 2) := by decide +kernel
theorem dX8_registered_83 : decode cX8_registered 83 = .ok (.iaload, 1) := by decide +kernel
theorem dX8_registered_84 : decode cX8_registered 84 = .ok (.iconst 1, 1) := by decide +kernel
theorem dX8_registered_85 : decode cX8_registered 85 = .ok (.if_icmp .ne 7, 3) := by decide +kernel
theorem dX8_registered_88 : decode cX8_registered 88 = .ok (.iconst 1, 1) := by decide +kernel
theorem dX8_registered_89 : decode cX8_registered 89 = .ok (.goto 4, 3) := by decide +kernel
theorem dX8_registered_92 : decode cX8_registered 92 = .ok (.iconst 0, 1) := by decide +kernel
theorem dX8_registered_93 : decode cX8_registered 93 = .ok (.istore 6, 2) := by decide +kernel
theorem dX8_registered_95 : decode cX8_registered 95 = .ok (.iload_n 3, 1) := by decide +kernel
theorem dX8_registered_96 : decode cX8_registered 96 = .ok (.iconst (-1), 1) := by decide +kernel
theorem dX8_registered_97 : decode cX8_registered 97 = .ok (.if_icmp .eq 7, 3) := by decide +kernel
theorem dX8_registered_100 : decode cX8_registered 100 = .ok (.iload_n 3, 1) := by decide +kernel
theorem dX8_registered_101 : decode cX8_registered 101 = .ok (.goto 5, 3) := by decide +kernel
theorem dX8_registered_104 : decode cX8_registered 104 = .ok (.iload 4, 2) := by decide +kernel
theorem dX8_registered_106 : decode cX8_registered 106 = .ok (.istore 7, 2) := by decide +kernel
theorem dX8_registered_108 : decode cX8_registered 108 = .ok (.aload_n 0, 1) := by decide +kernel
theorem dX8_registered_109 : decode cX8_registered 109 = .ok (.getfield 51, 3) := by decide +kernel
theorem dX8_registered_112 : decode cX8_registered 112 = .ok (.iload 5, 2) := by decide +kernel
theorem dX8_registered_114 : decode cX8_registered 114 = .ok (.iaload, 1) := by decide +kernel
theorem dX8_registered_115 : decode cX8_registered 115 = .ok (.ifCond .ne 7, 3) := by decide +kernel
theorem dX8_registered_118 : decode cX8_registered 118 = .ok (.iload_n 3, 1) := by decide +kernel
theorem dX8_registered_119 : decode cX8_registered 119 = .ok (.goto 5, 3) := by decide +kernel
theorem dX8_registered_122 : decode cX8_registered 122 = .ok (.iload 4, 2) := by decide +kernel
theorem dX8_registered_124 : decode cX8_registered 124 = .ok (.iconst (-1), 1) := by decide +kernel
theorem dX8_registered_125 : decode cX8_registered 125 = .ok (.if_icmp .ne 7, 3) := by decide +kernel
theorem dX8_registered_128 : decode cX8_registered 128 = .ok (.iconst 1, 1) := by decide +kernel
theorem dX8_registered_129 : decode cX8_registered 129 = .ok (.goto 4, 3) := by decide +kernel
theorem dX8_registered_132 : decode cX8_registered 132 = .ok (.iconst 0, 1) := by decide +kernel
theorem dX8_registered_133 : decode cX8_registered 133 = .ok (.istore 8, 2) := by decide +kernel
theorem dX8_registered_135 : decode cX8_registered 135 = .ok (.iload 6, 2) := by decide +kernel
theorem dX8_registered_137 : decode cX8_registered 137 = .ok (.ifCond .eq 73, 3) := by decide +kernel
theorem dX8_registered_140 : decode cX8_registered 140 = .ok (.iload 8, 2) := by decide +kernel
theorem dX8_registered_142 : decode cX8_registered 142 = .ok (.ifCond .eq 68, 3) := by decide +kernel
theorem dX8_registered_145 : decode cX8_registered 145 = .ok (.iload 7, 2) := by decide +kernel
theorem dX8_registered_147 : decode cX8_registered 147 = .ok (.iconst (-1), 1) := by decide +kernel
theorem dX8_registered_148 : decode cX8_registered 148 = .ok (.if_icmp .eq 25, 3) := by decide +kernel
theorem dX8_registered_151 : decode cX8_registered 151 = .ok (.aload_n 0, 1) := by decide +kernel
theorem dX8_registered_152 : decode cX8_registered 152 = .ok (.getfield 57, 3) := by decide +kernel
theorem dX8_registered_155 : decode cX8_registered 155 = .ok (.iload 5, 2) := by decide +kernel
theorem dX8_registered_157 : decode cX8_registered 157 = .ok (.iaload, 1) := by decide +kernel
theorem dX8_registered_158 : decode cX8_registered 158 = .ok (.aload_n 0, 1) := by decide +kernel
theorem dX8_registered_159 : decode cX8_registered 159 = .ok (.getfield 57, 3) := by decide +kernel
theorem dX8_registered_162 : decode cX8_registered 162 = .ok (.iload 7, 2) := by decide +kernel
theorem dX8_registered_164 : decode cX8_registered 164 = .ok (.iaload, 1) := by decide +kernel
theorem dX8_registered_165 : decode cX8_registered 165 = .ok (.isub, 1) := by decide +kernel
theorem dX8_registered_166 : decode cX8_registered 166 = .ok (.iload_n 2, 1) := by decide +kernel
theorem dX8_registered_167 : decode cX8_registered 167 = .ok (.invokestatic 129, 3) := by decide +kernel
theorem dX8_registered_170 : decode cX8_registered 170 = .ok (.if_icmp .gt 40, 3) := by decide +kernel
theorem dX8_registered_173 : decode cX8_registered 173 = .ok (.aload_n 0, 1) := by decide +kernel
theorem dX8_registered_174 : decode cX8_registered 174 = .ok (.getfield 51, 3) := by decide +kernel
theorem dX8_registered_177 : decode cX8_registered 177 = .ok (.iload 5, 2) := by decide +kernel
theorem dX8_registered_179 : decode cX8_registered 179 = .ok (.iaload, 1) := by decide +kernel
theorem dX8_registered_180 : decode cX8_registered 180 = .ok (.ifCond .ne 8, 3) := by decide +kernel
theorem dX8_registered_183 : decode cX8_registered 183 = .ok (.iload 5, 2) := by decide +kernel
theorem dX8_registered_185 : decode cX8_registered 185 = .ok (.goto 4, 3) := by decide +kernel
theorem dX8_registered_188 : decode cX8_registered 188 = .ok (.iload_n 3, 1) := by decide +kernel
theorem dX8_registered_189 : decode cX8_registered 189 = .ok (.istore_n 3, 1) := by decide +kernel
theorem dX8_registered_190 : decode cX8_registered 190 = .ok (.aload_n 0, 1) := by decide +kernel
theorem dX8_registered_191 : decode cX8_registered 191 = .ok (.getfield 51, 3) := by decide +kernel
theorem dX8_registered_194 : decode cX8_registered 194 = .ok (.iload 5, 2) := by decide +kernel
theorem dX8_registered_196 : decode cX8_registered 196 = .ok (.iaload, 1) := by decide +kernel
theorem dX8_registered_197 : decode cX8_registered 197 = .ok (.iconst 1, 1) := by decide +kernel
theorem dX8_registered_198 : decode cX8_registered 198 = .ok (.if_icmp .ne 8, 3) := by decide +kernel
theorem dX8_registered_201 : decode cX8_registered 201 = .ok (.iload 5, 2) := by decide +kernel
theorem dX8_registered_203 : decode cX8_registered 203 = .ok (.goto 5, 3) := by decide +kernel
theorem dX8_registered_206 : decode cX8_registered 206 = .ok (.iload 4, 2) := by decide +kernel
theorem dX8_registered_208 : decode cX8_registered 208 = .ok (.istore 4, 2) := by decide +kernel
theorem dX8_registered_210 : decode cX8_registered 210 = .ok (.iinc 5 1, 3) := by decide +kernel
theorem dX8_registered_213 : decode cX8_registered 213 = .ok (.goto (-185), 3) := by decide +kernel
theorem dX8_registered_216 : decode cX8_registered 216 = .ok (.iload_n 1, 1) := by decide +kernel
theorem dX8_registered_217 : decode cX8_registered 217 = .ok (.ifCond .ne 7, 3) := by decide +kernel
theorem dX8_registered_220 : decode cX8_registered 220 = .ok (.iload_n 3, 1) := by decide +kernel
theorem dX8_registered_221 : decode cX8_registered 221 = .ok (.goto 5, 3) := by decide +kernel
theorem dX8_registered_224 : decode cX8_registered 224 = .ok (.iload 4, 2) := by decide +kernel
theorem dX8_registered_226 : decode cX8_registered 226 = .ok (.ireturn, 1) := by decide +kernel
theorem dX8_rights_0 : decode cX8_rights 0 = .ok (.aload_n 0, 1) := by decide +kernel
theorem dX8_rights_1 : decode cX8_rights 1 = .ok (.iconst (-1), 1) := by decide +kernel
theorem dX8_rights_2 : decode cX8_rights 2 = .ok (.putfield 132, 3) := by decide +kernel
theorem dX8_rights_5 : decode cX8_rights 5 = .ok (.iconst (-1), 1) := by decide +kernel
theorem dX8_rights_6 : decode cX8_rights 6 = .ok (.istore_n 2, 1) := by decide +kernel
theorem dX8_rights_7 : decode cX8_rights 7 = .ok (.iconst 0, 1) := by decide +kernel
theorem dX8_rights_8 : decode cX8_rights 8 = .ok (.istore_n 3, 1) := by decide +kernel
theorem dX8_rights_9 : decode cX8_rights 9 = .ok (.iconst (-1), 1) := by decide +kernel
theorem dX8_rights_10 : decode cX8_rights 10 = .ok (.istore 4, 2) := by decide +kernel
theorem dX8_rights_12 : decode cX8_rights 12 = .ok (.iconst 0, 1) := by decide +kernel
theorem dX8_rights_13 : decode cX8_rights 13 = .ok (.istore 5, 2) := by decide +kernel
theorem dX8_rights_15 : decode cX8_rights 15 = .ok (.iconst 0, 1) := by decide +kernel
theorem dX8_rights_16 : decode cX8_rights 16 = .ok (.istore 6, 2) := by decide +kernel
theorem dX8_rights_18 : decode cX8_rights 18 = .ok (.iload 6, 2) := by decide +kernel
theorem dX8_rights_20 : decode cX8_rights 20 = .ok (.iload_n 1, 1) := by decide +kernel
theorem dX8_rights_21 : decode cX8_rights 21 = .ok (.if_icmp .ge 330, 3) := by decide +kernel
theorem dX8_rights_24 : decode cX8_rights 24 = .ok (.aload_n 0, 1) := by decide +kernel
theorem dX8_rights_25 : decode cX8_rights 25 = .ok (.getfield 51, 3) := by decide +kernel
theorem dX8_rights_28 : decode cX8_rights 28 = .ok (.iload 6, 2) := by decide +kernel
theorem dX8_rights_30 : decode cX8_rights 30 = .ok (.iaload, 1) := by decide +kernel
theorem dX8_rights_31 : decode cX8_rights 31 = .ok (.istore 7, 2) := by decide +kernel
theorem dX8_rights_33 : decode cX8_rights 33 = .ok (.aload_n 0, 1) := by decide +kernel
theorem dX8_rights_34 : decode cX8_rights 34 = .ok (.getfield 132, 3) := by decide +kernel
theorem dX8_rights_37 : decode cX8_rights 37 = .ok (.iconst 1, 1) := by decide +kernel
theorem dX8_rights_38 : decode cX8_rights 38 = .ok (.iload 7, 2) := by decide +kernel
theorem dX8_rights_40 : decode cX8_rights 40 = .ok (.isub, 1) := by decide +kernel
theorem dX8_rights_41 : decode cX8_rights 41 = .ok (.if_icmp .ne 7, 3) := by decide +kernel
theorem dX8_rights_44 : decode cX8_rights 44 = .ok (.iconst 1, 1) := by decide +kernel
theorem dX8_rights_45 : decode cX8_rights 45 = .ok (.goto 4, 3) := by decide +kernel
theorem dX8_rights_48 : decode cX8_rights 48 = .ok (.iconst 0, 1) := by decide +kernel
theorem dX8_rights_49 : decode cX8_rights 49 = .ok (.istore 8, 2) := by decide +kernel
theorem dX8_rights_51 : decode cX8_rights 51 = .ok (.aload_n 0, 1) := by decide +kernel
theorem dX8_rights_52 : decode cX8_rights 52 = .ok (.getfield 132, 3) := by decide +kernel
theorem dX8_rights_55 : decode cX8_rights 55 = .ok (.iconst (-1), 1) := by decide +kernel
theorem dX8_rights_56 : decode cX8_rights 56 = .ok (.if_icmp .ne 7, 3) := by decide +kernel
theorem dX8_rights_59 : decode cX8_rights 59 = .ok (.iconst 1, 1) := by decide +kernel
theorem dX8_rights_60 : decode cX8_rights 60 = .ok (.goto 4, 3) := by decide +kernel
theorem dX8_rights_63 : decode cX8_rights 63 = .ok (.iconst 0, 1) := by decide +kernel
theorem dX8_rights_64 : decode cX8_rights 64 = .ok (.istore 9, 2) := by decide +kernel
theorem dX8_rights_66 : decode cX8_rights 66 = .ok (.aload_n 0, 1) := by decide +kernel
theorem dX8_rights_67 : decode cX8_rights 67 = .ok (.getfield 57, 3) := by decide +kernel
theorem dX8_rights_70 : decode cX8_rights 70 = .ok (.iload 6, 2) := by decide +kernel
theorem dX8_rights_72 : decode cX8_rights 72 = .ok (.iaload, 1) := by decide +kernel
theorem dX8_rights_73 : decode cX8_rights 73 = .ok (.istore 10, 2) := by decide +kernel
theorem dX8_rights_75 : decode cX8_rights 75 = .ok (.aload_n 0, 1) := by decide +kernel
theorem dX8_rights_76 : decode cX8_rights 76 = .ok (.getfield 54, 3) := by decide +kernel
theorem dX8_rights_79 : decode cX8_rights 79 = .ok (.iload 6, 2) := by decide +kernel
theorem dX8_rights_81 : decode cX8_rights 81 = .ok (.iaload, 1) := by decide +kernel
theorem dX8_rights_82 : decode cX8_rights 82 = .ok (.tableswitch 263 0 6 #[42, 87, 119, 143, 169, 203, 239], 42) := by decide +kernel
theorem dX8_rights_124 : decode cX8_rights 124 = .ok (.iload 8, 2) := by decide +kernel
theorem dX8_rights_126 : decode cX8_rights 126 = .ok (.ifCond .eq 24, 3) := by decide +kernel
theorem dX8_rights_129 : decode cX8_rights 129 = .ok (.iload_n 2, 1) := by decide +kernel
theorem dX8_rights_130 : decode cX8_rights 130 = .ok (.ifCond .ne 20, 3) := by decide +kernel
theorem dX8_rights_133 : decode cX8_rights 133 = .ok (.iload 10, 2) := by decide +kernel
theorem dX8_rights_135 : decode cX8_rights 135 = .ok (.iload_n 3, 1) := by decide +kernel
theorem dX8_rights_136 : decode cX8_rights 136 = .ok (.isub, 1) := by decide +kernel
theorem dX8_rights_137 : decode cX8_rights 137 = .ok (.bipush 40, 2) := by decide +kernel
theorem dX8_rights_139 : decode cX8_rights 139 = .ok (.if_icmp .gt 11, 3) := by decide +kernel
theorem dX8_rights_142 : decode cX8_rights 142 = .ok (.aload_n 0, 1) := by decide +kernel
theorem dX8_rights_143 : decode cX8_rights 143 = .ok (.iconst (-1), 1) := by decide +kernel
theorem dX8_rights_144 : decode cX8_rights 144 = .ok (.putfield 132, 3) := by decide +kernel
theorem dX8_rights_147 : decode cX8_rights 147 = .ok (.goto 198, 3) := by decide +kernel
theorem dX8_rights_150 : decode cX8_rights 150 = .ok (.iload 8, 2) := by decide +kernel
theorem dX8_rights_152 : decode cX8_rights 152 = .ok (.ifCond .ne 193, 3) := by decide +kernel
theorem dX8_rights_155 : decode cX8_rights 155 = .ok (.aload_n 0, 1) := by decide +kernel
theorem dX8_rights_156 : decode cX8_rights 156 = .ok (.iload 7, 2) := by decide +kernel
theorem dX8_rights_158 : decode cX8_rights 158 = .ok (.putfield 132, 3) := by decide +kernel
theorem dX8_rights_161 : decode cX8_rights 161 = .ok (.iconst 0, 1) := by decide +kernel
theorem dX8_rights_162 : decode cX8_rights 162 = .ok (.istore_n 2, 1) := by decide +kernel
theorem dX8_rights_163 : decode cX8_rights 163 = .ok (.iload 10, 2) := by decide +kernel
theorem dX8_rights_165 : decode cX8_rights 165 = .ok (.istore_n 3, 1) := by decide +kernel
theorem dX8_rights_166 : decode cX8_rights 166 = .ok (.goto 179, 3) := by decide +kernel
theorem dX8_rights_169 : decode cX8_rights 169 = .ok (.iload 9, 2) := by decide +kernel
theorem dX8_rights_171 : decode cX8_rights 171 = .ok (.ifCond .eq 7, 3) := by decide +kernel
theorem dX8_rights_174 : decode cX8_rights 174 = .ok (.iconst 1, 1) := by decide +kernel
theorem dX8_rights_175 : decode cX8_rights 175 = .ok (.goto 4, 3) := by decide +kernel
theorem dX8_rights_178 : decode cX8_rights 178 = .ok (.iload_n 2, 1) := by decide +kernel
theorem dX8_rights_179 : decode cX8_rights 179 = .ok (.istore_n 2, 1) := by decide +kernel
theorem dX8_rights_180 : decode cX8_rights 180 = .ok (.aload_n 0, 1) := by decide +kernel
theorem dX8_rights_181 : decode cX8_rights 181 = .ok (.iload 9, 2) := by decide +kernel
theorem dX8_rights_183 : decode cX8_rights 183 = .ok (.ifCond .eq 8, 3) := by decide +kernel
theorem dX8_rights_186 : decode cX8_rights 186 = .ok (.iload 7, 2) := by decide +kernel
theorem dX8_rights_188 : decode cX8_rights 188 = .ok (.goto 7, 3) := by decide +kernel
theorem dX8_rights_191 : decode cX8_rights 191 = .ok (.aload_n 0, 1) := by decide +kernel
theorem dX8_rights_192 : decode cX8_rights 192 = .ok (.getfield 132, 3) := by decide +kernel
theorem dX8_rights_195 : decode cX8_rights 195 = .ok (.putfield 132, 3) := by decide +kernel
theorem dX8_rights_198 : decode cX8_rights 198 = .ok (.goto 147, 3) := by decide +kernel
theorem dX8_rights_201 : decode cX8_rights 201 = .ok (.iload 8, 2) := by decide +kernel
theorem dX8_rights_203 : decode cX8_rights 203 = .ok (.ifCond .eq 142, 3) := by decide +kernel
theorem dX8_rights_206 : decode cX8_rights 206 = .ok (.iload_n 2, 1) := by decide +kernel
theorem dX8_rights_207 : decode cX8_rights 207 = .ok (.iconst 1, 1) := by decide +kernel
theorem dX8_rights_208 : decode cX8_rights 208 = .ok (.if_icmp .ne 137, 3) := by decide +kernel
theorem dX8_rights_211 : decode cX8_rights 211 = .ok (.aload_n 0, 1) := by decide +kernel
theorem dX8_rights_212 : decode cX8_rights 212 = .ok (.iload 7, 2) := by decide +kernel
theorem dX8_rights_214 : decode cX8_rights 214 = .ok (.putfield 132, 3) := by decide +kernel
theorem dX8_rights_217 : decode cX8_rights 217 = .ok (.iconst 0, 1) := by decide +kernel
theorem dX8_rights_218 : decode cX8_rights 218 = .ok (.istore_n 2, 1) := by decide +kernel
theorem dX8_rights_219 : decode cX8_rights 219 = .ok (.iload 10, 2) := by decide +kernel
theorem dX8_rights_221 : decode cX8_rights 221 = .ok (.istore_n 3, 1) := by decide +kernel
theorem dX8_rights_222 : decode cX8_rights 222 = .ok (.goto 123, 3) := by decide +kernel
theorem dX8_rights_225 : decode cX8_rights 225 = .ok (.iload 8, 2) := by decide +kernel
theorem dX8_rights_227 : decode cX8_rights 227 = .ok (.ifCond .eq 118, 3) := by decide +kernel
theorem dX8_rights_230 : decode cX8_rights 230 = .ok (.iload_n 2, 1) := by decide +kernel
theorem dX8_rights_231 : decode cX8_rights 231 = .ok (.iconst 1, 1) := by decide +kernel
theorem dX8_rights_232 : decode cX8_rights 232 = .ok (.if_icmp .eq 113, 3) := by decide +kernel
theorem dX8_rights_235 : decode cX8_rights 235 = .ok (.aload_n 0, 1) := by decide +kernel
theorem dX8_rights_236 : decode cX8_rights 236 = .ok (.iconst (-1), 1) := by decide +kernel
theorem dX8_rights_237 : decode cX8_rights 237 = .ok (.putfield 132, 3) := by decide +kernel
theorem dX8_rights_240 : decode cX8_rights 240 = .ok (.iload 7, 2) := by decide +kernel
theorem dX8_rights_242 : decode cX8_rights 242 = .ok (.istore 4, 2) := by decide +kernel
theorem dX8_rights_244 : decode cX8_rights 244 = .ok (.iload 10, 2) := by decide +kernel
theorem dX8_rights_246 : decode cX8_rights 246 = .ok (.istore 5, 2) := by decide +kernel
theorem dX8_rights_248 : decode cX8_rights 248 = .ok (.goto 97, 3) := by decide +kernel
theorem dX8_rights_251 : decode cX8_rights 251 = .ok (.iload 9, 2) := by decide +kernel
theorem dX8_rights_253 : decode cX8_rights 253 = .ok (.ifCond .eq 92, 3) := by decide +kernel
theorem dX8_rights_256 : decode cX8_rights 256 = .ok (.iload 4, 2) := by decide +kernel
theorem dX8_rights_258 : decode cX8_rights 258 = .ok (.iload 7, 2) := by decide +kernel
theorem dX8_rights_260 : decode cX8_rights 260 = .ok (.if_icmp .ne 85, 3) := by decide +kernel
theorem dX8_rights_263 : decode cX8_rights 263 = .ok (.iload 10, 2) := by decide +kernel
theorem dX8_rights_265 : decode cX8_rights 265 = .ok (.iload 5, 2) := by decide +kernel
theorem dX8_rights_267 : decode cX8_rights 267 = .ok (.isub, 1) := by decide +kernel
theorem dX8_rights_268 : decode cX8_rights 268 = .ok (.sipush 300, 3) := by decide +kernel
theorem dX8_rights_271 : decode cX8_rights 271 = .ok (.if_icmp .gt 74, 3) := by decide +kernel
theorem dX8_rights_274 : decode cX8_rights 274 = .ok (.aload_n 0, 1) := by decide +kernel
theorem dX8_rights_275 : decode cX8_rights 275 = .ok (.iload 7, 2) := by decide +kernel
theorem dX8_rights_277 : decode cX8_rights 277 = .ok (.putfield 132, 3) := by decide +kernel
theorem dX8_rights_280 : decode cX8_rights 280 = .ok (.iconst 4, 1) := by decide +kernel
theorem dX8_rights_281 : decode cX8_rights 281 = .ok (.istore_n 2, 1) := by decide +kernel
theorem dX8_rights_282 : decode cX8_rights 282 = .ok (.goto 63, 3) := by decide +kernel
theorem dX8_rights_285 : decode cX8_rights 285 = .ok (.iload 9, 2) := by decide +kernel
theorem dX8_rights_287 : decode cX8_rights 287 = .ok (.ifCond .eq 58, 3) := by decide +kernel
theorem dX8_rights_290 : decode cX8_rights 290 = .ok (.iload 4, 2) := by decide +kernel
theorem dX8_rights_292 : decode cX8_rights 292 = .ok (.iconst 1, 1) := by decide +kernel
theorem dX8_rights_293 : decode cX8_rights 293 = .ok (.iload 7, 2) := by decide +kernel
theorem dX8_rights_295 : decode cX8_rights 295 = .ok (.isub, 1) := by decide +kernel
theorem dX8_rights_296 : decode cX8_rights 296 = .ok (.if_icmp .ne 49, 3) := by decide +kernel
theorem dX8_rights_299 : decode cX8_rights 299 = .ok (.iload 10, 2) := by decide +kernel
theorem dX8_rights_301 : decode cX8_rights 301 = .ok (.iload 5, 2) := by decide +kernel
theorem dX8_rights_303 : decode cX8_rights 303 = .ok (.isub, 1) := by decide +kernel
theorem dX8_rights_304 : decode cX8_rights 304 = .ok (.sipush 300, 3) := by decide +kernel
theorem dX8_rights_307 : decode cX8_rights 307 = .ok (.if_icmp .le 38, 3) := by decide +kernel
theorem dX8_rights_310 : decode cX8_rights 310 = .ok (.aload_n 0, 1) := by decide +kernel
theorem dX8_rights_311 : decode cX8_rights 311 = .ok (.iload 7, 2) := by decide +kernel
theorem dX8_rights_313 : decode cX8_rights 313 = .ok (.putfield 132, 3) := by decide +kernel
theorem dX8_rights_316 : decode cX8_rights 316 = .ok (.iconst 5, 1) := by decide +kernel
theorem dX8_rights_317 : decode cX8_rights 317 = .ok (.istore_n 2, 1) := by decide +kernel
theorem dX8_rights_318 : decode cX8_rights 318 = .ok (.goto 27, 3) := by decide +kernel
theorem dX8_rights_321 : decode cX8_rights 321 = .ok (.aload_n 0, 1) := by decide +kernel
theorem dX8_rights_322 : decode cX8_rights 322 = .ok (.aload_n 0, 1) := by decide +kernel
theorem dX8_rights_323 : decode cX8_rights 323 = .ok (.getfield 132, 3) := by decide +kernel
theorem dX8_rights_326 : decode cX8_rights 326 = .ok (.iload 7, 2) := by decide +kernel
theorem dX8_rights_328 : decode cX8_rights 328 = .ok (.if_icmp .ne 7, 3) := by decide +kernel
theorem dX8_rights_331 : decode cX8_rights 331 = .ok (.iconst (-1), 1) := by decide +kernel
theorem dX8_rights_332 : decode cX8_rights 332 = .ok (.goto 7, 3) := by decide +kernel
theorem dX8_rights_335 : decode cX8_rights 335 = .ok (.aload_n 0, 1) := by decide +kernel
theorem dX8_rights_336 : decode cX8_rights 336 = .ok (.getfield 132, 3) := by decide +kernel
theorem dX8_rights_339 : decode cX8_rights 339 = .ok (.putfield 132, 3) := by decide +kernel
theorem dX8_rights_342 : decode cX8_rights 342 = .ok (.goto 3, 3) := by decide +kernel
theorem dX8_rights_345 : decode cX8_rights 345 = .ok (.iinc 6 1, 3) := by decide +kernel
theorem dX8_rights_348 : decode cX8_rights 348 = .ok (.goto (-330), 3) := by decide +kernel
theorem dX8_rights_351 : decode cX8_rights 351 = .ok (.aload_n 0, 1) := by decide +kernel
theorem dX8_rights_352 : decode cX8_rights 352 = .ok (.getfield 132, 3) := by decide +kernel
theorem dX8_rights_355 : decode cX8_rights 355 = .ok (.ireturn, 1) := by decide +kernel
theorem dX8_ends_0 : decode cX8_ends 0 = .ok (.aload_n 0, 1) := by decide +kernel
theorem dX8_ends_1 : decode cX8_ends 1 = .ok (.getfield 32, 3) := by decide +kernel
theorem dX8_ends_4 : decode cX8_ends 4 = .ok (.aload_n 0, 1) := by decide +kernel
theorem dX8_ends_5 : decode cX8_ends 5 = .ok (.getfield 13, 3) := by decide +kernel
theorem dX8_ends_8 : decode cX8_ends 8 = .ok (.iload_n 1, 1) := by decide +kernel
theorem dX8_ends_9 : decode cX8_ends 9 = .ok (.iastore, 1) := by decide +kernel
theorem dX8_ends_10 : decode cX8_ends 10 = .ok (.aload_n 0, 1) := by decide +kernel
theorem dX8_ends_11 : decode cX8_ends 11 = .ok (.iconst (-1), 1) := by decide +kernel
theorem dX8_ends_12 : decode cX8_ends 12 = .ok (.putfield 13, 3) := by decide +kernel
theorem dX8_ends_15 : decode cX8_ends 15 = .ok (.aload_n 0, 1) := by decide +kernel
theorem dX8_ends_16 : decode cX8_ends 16 = .ok (.iconst 0, 1) := by decide +kernel
theorem dX8_ends_17 : decode cX8_ends 17 = .ok (.putfield 111, 3) := by decide +kernel
theorem dX8_ends_20 : decode cX8_ends 20 = .ok (.return_, 1) := by decide +kernel
theorem dX8_ahead_0 : decode cX8_ahead 0 = .ok (.aload_n 0, 1) := by decide +kernel
theorem dX8_ahead_1 : decode cX8_ahead 1 = .ok (.getfield 13, 3) := by decide +kernel
theorem dX8_ahead_4 : decode cX8_ahead 4 = .ok (.istore_n 1, 1) := by decide +kernel
theorem dX8_ahead_5 : decode cX8_ahead 5 = .ok (.aload_n 0, 1) := by decide +kernel
theorem dX8_ahead_6 : decode cX8_ahead 6 = .ok (.getfield 20, 3) := by decide +kernel
theorem dX8_ahead_9 : decode cX8_ahead 9 = .ok (.iconst 2, 1) := by decide +kernel
theorem dX8_ahead_10 : decode cX8_ahead 10 = .ok (.iload_n 1, 1) := by decide +kernel
theorem dX8_ahead_11 : decode cX8_ahead 11 = .ok (.imul, 1) := by decide +kernel
theorem dX8_ahead_12 : decode cX8_ahead 12 = .ok (.iaload, 1) := by decide +kernel
theorem dX8_ahead_13 : decode cX8_ahead 13 = .ok (.aload_n 0, 1) := by decide +kernel
theorem dX8_ahead_14 : decode cX8_ahead 14 = .ok (.getfield 20, 3) := by decide +kernel
theorem dX8_ahead_17 : decode cX8_ahead 17 = .ok (.iconst 2, 1) := by decide +kernel
theorem dX8_ahead_18 : decode cX8_ahead 18 = .ok (.iload_n 1, 1) := by decide +kernel
theorem dX8_ahead_19 : decode cX8_ahead 19 = .ok (.imul, 1) := by decide +kernel
theorem dX8_ahead_20 : decode cX8_ahead 20 = .ok (.iconst 1, 1) := by decide +kernel
theorem dX8_ahead_21 : decode cX8_ahead 21 = .ok (.iadd, 1) := by decide +kernel
theorem dX8_ahead_22 : decode cX8_ahead 22 = .ok (.iaload, 1) := by decide +kernel
theorem dX8_ahead_23 : decode cX8_ahead 23 = .ok (.isub, 1) := by decide +kernel
theorem dX8_ahead_24 : decode cX8_ahead 24 = .ok (.istore_n 2, 1) := by decide +kernel
theorem dX8_ahead_25 : decode cX8_ahead 25 = .ok (.iload_n 2, 1) := by decide +kernel
theorem dX8_ahead_26 : decode cX8_ahead 26 = .ok (.ifCond .le 7, 3) := by decide +kernel
theorem dX8_ahead_29 : decode cX8_ahead 29 = .ok (.iconst 0, 1) := by decide +kernel
theorem dX8_ahead_30 : decode cX8_ahead 30 = .ok (.goto 37, 3) := by decide +kernel
theorem dX8_ahead_33 : decode cX8_ahead 33 = .ok (.iload_n 2, 1) := by decide +kernel
theorem dX8_ahead_34 : decode cX8_ahead 34 = .ok (.ifCond .ge 7, 3) := by decide +kernel
theorem dX8_ahead_37 : decode cX8_ahead 37 = .ok (.iconst 1, 1) := by decide +kernel
theorem dX8_ahead_38 : decode cX8_ahead 38 = .ok (.goto 29, 3) := by decide +kernel
theorem dX8_ahead_41 : decode cX8_ahead 41 = .ok (.aload_n 0, 1) := by decide +kernel
theorem dX8_ahead_42 : decode cX8_ahead 42 = .ok (.getfield 16, 3) := by decide +kernel
theorem dX8_ahead_45 : decode cX8_ahead 45 = .ok (.iconst 2, 1) := by decide +kernel
theorem dX8_ahead_46 : decode cX8_ahead 46 = .ok (.iload_n 1, 1) := by decide +kernel
theorem dX8_ahead_47 : decode cX8_ahead 47 = .ok (.imul, 1) := by decide +kernel
theorem dX8_ahead_48 : decode cX8_ahead 48 = .ok (.iaload, 1) := by decide +kernel
theorem dX8_ahead_49 : decode cX8_ahead 49 = .ok (.aload_n 0, 1) := by decide +kernel
theorem dX8_ahead_50 : decode cX8_ahead 50 = .ok (.getfield 16, 3) := by decide +kernel
theorem dX8_ahead_53 : decode cX8_ahead 53 = .ok (.iconst 2, 1) := by decide +kernel
theorem dX8_ahead_54 : decode cX8_ahead 54 = .ok (.iload_n 1, 1) := by decide +kernel
theorem dX8_ahead_55 : decode cX8_ahead 55 = .ok (.imul, 1) := by decide +kernel
theorem dX8_ahead_56 : decode cX8_ahead 56 = .ok (.iconst 1, 1) := by decide +kernel
theorem dX8_ahead_57 : decode cX8_ahead 57 = .ok (.iadd, 1) := by decide +kernel
theorem dX8_ahead_58 : decode cX8_ahead 58 = .ok (.iaload, 1) := by decide +kernel
theorem dX8_ahead_59 : decode cX8_ahead 59 = .ok (.if_icmp .ge 7, 3) := by decide +kernel
theorem dX8_ahead_62 : decode cX8_ahead 62 = .ok (.iconst 0, 1) := by decide +kernel
theorem dX8_ahead_63 : decode cX8_ahead 63 = .ok (.goto 4, 3) := by decide +kernel
theorem dX8_ahead_66 : decode cX8_ahead 66 = .ok (.iconst 1, 1) := by decide +kernel
theorem dX8_ahead_67 : decode cX8_ahead 67 = .ok (.ireturn, 1) := by decide +kernel
theorem dX8_gives_0 : decode cX8_gives 0 = .ok (.aload_n 0, 1) := by decide +kernel
theorem dX8_gives_1 : decode cX8_gives 1 = .ok (.getfield 13, 3) := by decide +kernel
theorem dX8_gives_4 : decode cX8_gives 4 = .ok (.istore_n 2, 1) := by decide +kernel
theorem dX8_gives_5 : decode cX8_gives 5 = .ok (.aload_n 0, 1) := by decide +kernel
theorem dX8_gives_6 : decode cX8_gives 6 = .ok (.getfield 20, 3) := by decide +kernel
theorem dX8_gives_9 : decode cX8_gives 9 = .ok (.iconst 2, 1) := by decide +kernel
theorem dX8_gives_10 : decode cX8_gives 10 = .ok (.iload_n 2, 1) := by decide +kernel
theorem dX8_gives_11 : decode cX8_gives 11 = .ok (.imul, 1) := by decide +kernel
theorem dX8_gives_12 : decode cX8_gives 12 = .ok (.dup2, 1) := by decide +kernel
theorem dX8_gives_13 : decode cX8_gives 13 = .ok (.iaload, 1) := by decide +kernel
theorem dX8_gives_14 : decode cX8_gives 14 = .ok (.iload_n 1, 1) := by decide +kernel
theorem dX8_gives_15 : decode cX8_gives 15 = .ok (.iconst 1, 1) := by decide +kernel
theorem dX8_gives_16 : decode cX8_gives 16 = .ok (.iand, 1) := by decide +kernel
theorem dX8_gives_17 : decode cX8_gives 17 = .ok (.iadd, 1) := by decide +kernel
theorem dX8_gives_18 : decode cX8_gives 18 = .ok (.iastore, 1) := by decide +kernel
theorem dX8_gives_19 : decode cX8_gives 19 = .ok (.aload_n 0, 1) := by decide +kernel
theorem dX8_gives_20 : decode cX8_gives 20 = .ok (.getfield 20, 3) := by decide +kernel
theorem dX8_gives_23 : decode cX8_gives 23 = .ok (.iconst 2, 1) := by decide +kernel
theorem dX8_gives_24 : decode cX8_gives 24 = .ok (.iload_n 2, 1) := by decide +kernel
theorem dX8_gives_25 : decode cX8_gives 25 = .ok (.imul, 1) := by decide +kernel
theorem dX8_gives_26 : decode cX8_gives 26 = .ok (.iconst 1, 1) := by decide +kernel
theorem dX8_gives_27 : decode cX8_gives 27 = .ok (.iadd, 1) := by decide +kernel
theorem dX8_gives_28 : decode cX8_gives 28 = .ok (.dup2, 1) := by decide +kernel
theorem dX8_gives_29 : decode cX8_gives 29 = .ok (.iaload, 1) := by decide +kernel
theorem dX8_gives_30 : decode cX8_gives 30 = .ok (.iload_n 1, 1) := by decide +kernel
theorem dX8_gives_31 : decode cX8_gives 31 = .ok (.iconst 1, 1) := by decide +kernel
theorem dX8_gives_32 : decode cX8_gives 32 = .ok (.ishr, 1) := by decide +kernel
theorem dX8_gives_33 : decode cX8_gives 33 = .ok (.iadd, 1) := by decide +kernel
theorem dX8_gives_34 : decode cX8_gives 34 = .ok (.iastore, 1) := by decide +kernel
theorem dX8_gives_35 : decode cX8_gives 35 = .ok (.aload_n 0, 1) := by decide +kernel
theorem dX8_gives_36 : decode cX8_gives 36 = .ok (.getfield 20, 3) := by decide +kernel
theorem dX8_gives_39 : decode cX8_gives 39 = .ok (.iconst 2, 1) := by decide +kernel
theorem dX8_gives_40 : decode cX8_gives 40 = .ok (.iload_n 2, 1) := by decide +kernel
theorem dX8_gives_41 : decode cX8_gives 41 = .ok (.imul, 1) := by decide +kernel
theorem dX8_gives_42 : decode cX8_gives 42 = .ok (.iaload, 1) := by decide +kernel
theorem dX8_gives_43 : decode cX8_gives 43 = .ok (.aload_n 0, 1) := by decide +kernel
theorem dX8_gives_44 : decode cX8_gives 44 = .ok (.getfield 26, 3) := by decide +kernel
theorem dX8_gives_47 : decode cX8_gives 47 = .ok (.iload_n 2, 1) := by decide +kernel
theorem dX8_gives_48 : decode cX8_gives 48 = .ok (.iaload, 1) := by decide +kernel
theorem dX8_gives_49 : decode cX8_gives 49 = .ok (.if_icmp .ge 22, 3) := by decide +kernel
theorem dX8_gives_52 : decode cX8_gives 52 = .ok (.aload_n 0, 1) := by decide +kernel
theorem dX8_gives_53 : decode cX8_gives 53 = .ok (.getfield 20, 3) := by decide +kernel
theorem dX8_gives_56 : decode cX8_gives 56 = .ok (.iconst 2, 1) := by decide +kernel
theorem dX8_gives_57 : decode cX8_gives 57 = .ok (.iload_n 2, 1) := by decide +kernel
theorem dX8_gives_58 : decode cX8_gives 58 = .ok (.imul, 1) := by decide +kernel
theorem dX8_gives_59 : decode cX8_gives 59 = .ok (.iconst 1, 1) := by decide +kernel
theorem dX8_gives_60 : decode cX8_gives 60 = .ok (.iadd, 1) := by decide +kernel
theorem dX8_gives_61 : decode cX8_gives 61 = .ok (.iaload, 1) := by decide +kernel
theorem dX8_gives_62 : decode cX8_gives 62 = .ok (.aload_n 0, 1) := by decide +kernel
theorem dX8_gives_63 : decode cX8_gives 63 = .ok (.getfield 26, 3) := by decide +kernel
theorem dX8_gives_66 : decode cX8_gives 66 = .ok (.iload_n 2, 1) := by decide +kernel
theorem dX8_gives_67 : decode cX8_gives 67 = .ok (.iaload, 1) := by decide +kernel
theorem dX8_gives_68 : decode cX8_gives 68 = .ok (.if_icmp .lt 7, 3) := by decide +kernel
theorem dX8_gives_71 : decode cX8_gives 71 = .ok (.iconst 1, 1) := by decide +kernel
theorem dX8_gives_72 : decode cX8_gives 72 = .ok (.goto 4, 3) := by decide +kernel
theorem dX8_gives_75 : decode cX8_gives 75 = .ok (.iconst 0, 1) := by decide +kernel
theorem dX8_gives_76 : decode cX8_gives 76 = .ok (.istore_n 3, 1) := by decide +kernel
theorem dX8_gives_77 : decode cX8_gives 77 = .ok (.aload_n 0, 1) := by decide +kernel
theorem dX8_gives_78 : decode cX8_gives 78 = .ok (.getfield 20, 3) := by decide +kernel
theorem dX8_gives_81 : decode cX8_gives 81 = .ok (.iconst 2, 1) := by decide +kernel
theorem dX8_gives_82 : decode cX8_gives 82 = .ok (.iload_n 2, 1) := by decide +kernel
theorem dX8_gives_83 : decode cX8_gives 83 = .ok (.imul, 1) := by decide +kernel
theorem dX8_gives_84 : decode cX8_gives 84 = .ok (.iaload, 1) := by decide +kernel
theorem dX8_gives_85 : decode cX8_gives 85 = .ok (.aload_n 0, 1) := by decide +kernel
theorem dX8_gives_86 : decode cX8_gives 86 = .ok (.getfield 20, 3) := by decide +kernel
theorem dX8_gives_89 : decode cX8_gives 89 = .ok (.iconst 2, 1) := by decide +kernel
theorem dX8_gives_90 : decode cX8_gives 90 = .ok (.iload_n 2, 1) := by decide +kernel
theorem dX8_gives_91 : decode cX8_gives 91 = .ok (.imul, 1) := by decide +kernel
theorem dX8_gives_92 : decode cX8_gives 92 = .ok (.iconst 1, 1) := by decide +kernel
theorem dX8_gives_93 : decode cX8_gives 93 = .ok (.iadd, 1) := by decide +kernel
theorem dX8_gives_94 : decode cX8_gives 94 = .ok (.iaload, 1) := by decide +kernel
theorem dX8_gives_95 : decode cX8_gives 95 = .ok (.if_icmp .eq 7, 3) := by decide +kernel
theorem dX8_gives_98 : decode cX8_gives 98 = .ok (.iconst 1, 1) := by decide +kernel
theorem dX8_gives_99 : decode cX8_gives 99 = .ok (.goto 4, 3) := by decide +kernel
theorem dX8_gives_102 : decode cX8_gives 102 = .ok (.iconst 0, 1) := by decide +kernel
theorem dX8_gives_103 : decode cX8_gives 103 = .ok (.istore 4, 2) := by decide +kernel
theorem dX8_gives_105 : decode cX8_gives 105 = .ok (.iload_n 1, 1) := by decide +kernel
theorem dX8_gives_106 : decode cX8_gives 106 = .ok (.ifCond .le 30, 3) := by decide +kernel
theorem dX8_gives_109 : decode cX8_gives 109 = .ok (.iload_n 3, 1) := by decide +kernel
theorem dX8_gives_110 : decode cX8_gives 110 = .ok (.ifCond .ne 18, 3) := by decide +kernel
theorem dX8_gives_113 : decode cX8_gives 113 = .ok (.aload_n 0, 1) := by decide +kernel
theorem dX8_gives_114 : decode cX8_gives 114 = .ok (.getfield 41, 3) := by decide +kernel
theorem dX8_gives_117 : decode cX8_gives 117 = .ok (.iload_n 2, 1) := by decide +kernel
theorem dX8_gives_118 : decode cX8_gives 118 = .ok (.iaload, 1) := by decide +kernel
theorem dX8_gives_119 : decode cX8_gives 119 = .ok (.iconst (-1), 1) := by decide +kernel
theorem dX8_gives_120 : decode cX8_gives 120 = .ok (.if_icmp .eq 16, 3) := by decide +kernel
theorem dX8_gives_123 : decode cX8_gives 123 = .ok (.iload 4, 2) := by decide +kernel
theorem dX8_gives_125 : decode cX8_gives 125 = .ok (.ifCond .eq 11, 3) := by decide +kernel
theorem dX8_gives_128 : decode cX8_gives 128 = .ok (.aload_n 0, 1) := by decide +kernel
theorem dX8_gives_129 : decode cX8_gives 129 = .ok (.aload_n 0, 1) := by decide +kernel
theorem dX8_gives_130 : decode cX8_gives 130 = .ok (.invokevirtual 135, 3) := by decide +kernel
theorem dX8_gives_133 : decode cX8_gives 133 = .ok (.invokevirtual 139, 3) := by decide +kernel
theorem dX8_gives_136 : decode cX8_gives 136 = .ok (.return_, 1) := by decide +kernel
theorem dX8_given_0 : decode cX8_given 0 = .ok (.aload_n 0, 1) := by decide +kernel
theorem dX8_given_1 : decode cX8_given 1 = .ok (.iconst 0, 1) := by decide +kernel
theorem dX8_given_2 : decode cX8_given 2 = .ok (.invokevirtual 143, 3) := by decide +kernel
theorem dX8_given_5 : decode cX8_given 5 = .ok (.istore_n 1, 1) := by decide +kernel
theorem dX8_given_6 : decode cX8_given 6 = .ok (.aload_n 0, 1) := by decide +kernel
theorem dX8_given_7 : decode cX8_given 7 = .ok (.iconst 1, 1) := by decide +kernel
theorem dX8_given_8 : decode cX8_given 8 = .ok (.invokevirtual 143, 3) := by decide +kernel
theorem dX8_given_11 : decode cX8_given 11 = .ok (.istore_n 2, 1) := by decide +kernel
theorem dX8_given_12 : decode cX8_given 12 = .ok (.iload_n 1, 1) := by decide +kernel
theorem dX8_given_13 : decode cX8_given 13 = .ok (.iconst (-1), 1) := by decide +kernel
theorem dX8_given_14 : decode cX8_given 14 = .ok (.if_icmp .ne 15, 3) := by decide +kernel
theorem dX8_given_17 : decode cX8_given 17 = .ok (.iload_n 2, 1) := by decide +kernel
theorem dX8_given_18 : decode cX8_given 18 = .ok (.iconst (-1), 1) := by decide +kernel
theorem dX8_given_19 : decode cX8_given 19 = .ok (.if_icmp .ne 10, 3) := by decide +kernel
theorem dX8_given_22 : decode cX8_given 22 = .ok (.aload_n 0, 1) := by decide +kernel
theorem dX8_given_23 : decode cX8_given 23 = .ok (.iconst 0, 1) := by decide +kernel
theorem dX8_given_24 : decode cX8_given 24 = .ok (.putfield 9, 3) := by decide +kernel
theorem dX8_given_27 : decode cX8_given 27 = .ok (.iconst 0, 1) := by decide +kernel
theorem dX8_given_28 : decode cX8_given 28 = .ok (.ireturn, 1) := by decide +kernel
theorem dX8_given_29 : decode cX8_given 29 = .ok (.iload_n 1, 1) := by decide +kernel
theorem dX8_given_30 : decode cX8_given 30 = .ok (.iconst (-1), 1) := by decide +kernel
theorem dX8_given_31 : decode cX8_given 31 = .ok (.if_icmp .eq 8, 3) := by decide +kernel
theorem dX8_given_34 : decode cX8_given 34 = .ok (.iload_n 2, 1) := by decide +kernel
theorem dX8_given_35 : decode cX8_given 35 = .ok (.iconst (-1), 1) := by decide +kernel
theorem dX8_given_36 : decode cX8_given 36 = .ok (.if_icmp .ne 54, 3) := by decide +kernel
theorem dX8_given_39 : decode cX8_given 39 = .ok (.iload_n 1, 1) := by decide +kernel
theorem dX8_given_40 : decode cX8_given 40 = .ok (.iconst (-1), 1) := by decide +kernel
theorem dX8_given_41 : decode cX8_given 41 = .ok (.if_icmp .ne 7, 3) := by decide +kernel
theorem dX8_given_44 : decode cX8_given 44 = .ok (.iload_n 2, 1) := by decide +kernel
theorem dX8_given_45 : decode cX8_given 45 = .ok (.goto 4, 3) := by decide +kernel
theorem dX8_given_48 : decode cX8_given 48 = .ok (.iload_n 1, 1) := by decide +kernel
theorem dX8_given_49 : decode cX8_given 49 = .ok (.istore_n 3, 1) := by decide +kernel
theorem dX8_given_50 : decode cX8_given 50 = .ok (.aload_n 0, 1) := by decide +kernel
theorem dX8_given_51 : decode cX8_given 51 = .ok (.aload_n 0, 1) := by decide +kernel
theorem dX8_given_52 : decode cX8_given 52 = .ok (.getfield 63, 3) := by decide +kernel
theorem dX8_given_55 : decode cX8_given 55 = .ok (.iload_n 3, 1) := by decide +kernel
theorem dX8_given_56 : decode cX8_given 56 = .ok (.iaload, 1) := by decide +kernel
theorem dX8_given_57 : decode cX8_given 57 = .ok (.ifCond .ne 7, 3) := by decide +kernel
theorem dX8_given_60 : decode cX8_given 60 = .ok (.iconst 1, 1) := by decide +kernel
theorem dX8_given_61 : decode cX8_given 61 = .ok (.goto 4, 3) := by decide +kernel
theorem dX8_given_64 : decode cX8_given 64 = .ok (.iconst 2, 1) := by decide +kernel
theorem dX8_given_65 : decode cX8_given 65 = .ok (.putfield 9, 3) := by decide +kernel
theorem dX8_given_68 : decode cX8_given 68 = .ok (.aload_n 0, 1) := by decide +kernel
theorem dX8_given_69 : decode cX8_given 69 = .ok (.getfield 63, 3) := by decide +kernel
theorem dX8_given_72 : decode cX8_given 72 = .ok (.iload_n 3, 1) := by decide +kernel
theorem dX8_given_73 : decode cX8_given 73 = .ok (.iaload, 1) := by decide +kernel
theorem dX8_given_74 : decode cX8_given 74 = .ok (.ifCond .ne 14, 3) := by decide +kernel
theorem dX8_given_77 : decode cX8_given 77 = .ok (.iconst 1, 1) := by decide +kernel
theorem dX8_given_78 : decode cX8_given 78 = .ok (.aload_n 0, 1) := by decide +kernel
theorem dX8_given_79 : decode cX8_given 79 = .ok (.getfield 51, 3) := by decide +kernel
theorem dX8_given_82 : decode cX8_given 82 = .ok (.iload_n 3, 1) := by decide +kernel
theorem dX8_given_83 : decode cX8_given 83 = .ok (.iaload, 1) := by decide +kernel
theorem dX8_given_84 : decode cX8_given 84 = .ok (.ishl, 1) := by decide +kernel
theorem dX8_given_85 : decode cX8_given 85 = .ok (.goto 4, 3) := by decide +kernel
theorem dX8_given_88 : decode cX8_given 88 = .ok (.iconst 0, 1) := by decide +kernel
theorem dX8_given_89 : decode cX8_given 89 = .ok (.ireturn, 1) := by decide +kernel
theorem dX8_given_90 : decode cX8_given 90 = .ok (.aload_n 0, 1) := by decide +kernel
theorem dX8_given_91 : decode cX8_given 91 = .ok (.getfield 13, 3) := by decide +kernel
theorem dX8_given_94 : decode cX8_given 94 = .ok (.istore_n 3, 1) := by decide +kernel
theorem dX8_given_95 : decode cX8_given 95 = .ok (.aload_n 0, 1) := by decide +kernel
theorem dX8_given_96 : decode cX8_given 96 = .ok (.getfield 23, 3) := by decide +kernel
theorem dX8_given_99 : decode cX8_given 99 = .ok (.iload_n 3, 1) := by decide +kernel
theorem dX8_given_100 : decode cX8_given 100 = .ok (.iaload, 1) := by decide +kernel
theorem dX8_given_101 : decode cX8_given 101 = .ok (.iconst 1, 1) := by decide +kernel
theorem dX8_given_102 : decode cX8_given 102 = .ok (.if_icmp .ne 54, 3) := by decide +kernel
theorem dX8_given_105 : decode cX8_given 105 = .ok (.aload_n 0, 1) := by decide +kernel
theorem dX8_given_106 : decode cX8_given 106 = .ok (.iconst 3, 1) := by decide +kernel
theorem dX8_given_107 : decode cX8_given 107 = .ok (.putfield 9, 3) := by decide +kernel
theorem dX8_given_110 : decode cX8_given 110 = .ok (.aload_n 0, 1) := by decide +kernel
theorem dX8_given_111 : decode cX8_given 111 = .ok (.getfield 20, 3) := by decide +kernel
theorem dX8_given_114 : decode cX8_given 114 = .ok (.iconst 2, 1) := by decide +kernel
theorem dX8_given_115 : decode cX8_given 115 = .ok (.iload_n 3, 1) := by decide +kernel
theorem dX8_given_116 : decode cX8_given 116 = .ok (.imul, 1) := by decide +kernel
theorem dX8_given_117 : decode cX8_given 117 = .ok (.iaload, 1) := by decide +kernel
theorem dX8_given_118 : decode cX8_given 118 = .ok (.iconst 1, 1) := by decide +kernel
theorem dX8_given_119 : decode cX8_given 119 = .ok (.iadd, 1) := by decide +kernel
theorem dX8_given_120 : decode cX8_given 120 = .ok (.aload_n 0, 1) := by decide +kernel
theorem dX8_given_121 : decode cX8_given 121 = .ok (.getfield 26, 3) := by decide +kernel
theorem dX8_given_124 : decode cX8_given 124 = .ok (.iload_n 3, 1) := by decide +kernel
theorem dX8_given_125 : decode cX8_given 125 = .ok (.iaload, 1) := by decide +kernel
theorem dX8_given_126 : decode cX8_given 126 = .ok (.if_icmp .lt 28, 3) := by decide +kernel
theorem dX8_given_129 : decode cX8_given 129 = .ok (.aload_n 0, 1) := by decide +kernel
theorem dX8_given_130 : decode cX8_given 130 = .ok (.getfield 20, 3) := by decide +kernel
theorem dX8_given_133 : decode cX8_given 133 = .ok (.iconst 2, 1) := by decide +kernel
theorem dX8_given_134 : decode cX8_given 134 = .ok (.iload_n 3, 1) := by decide +kernel
theorem dX8_given_135 : decode cX8_given 135 = .ok (.imul, 1) := by decide +kernel
theorem dX8_given_136 : decode cX8_given 136 = .ok (.iconst 1, 1) := by decide +kernel
theorem dX8_given_137 : decode cX8_given 137 = .ok (.iadd, 1) := by decide +kernel
theorem dX8_given_138 : decode cX8_given 138 = .ok (.iaload, 1) := by decide +kernel
theorem dX8_given_139 : decode cX8_given 139 = .ok (.iconst 1, 1) := by decide +kernel
theorem dX8_given_140 : decode cX8_given 140 = .ok (.iadd, 1) := by decide +kernel
theorem dX8_given_141 : decode cX8_given 141 = .ok (.aload_n 0, 1) := by decide +kernel
theorem dX8_given_142 : decode cX8_given 142 = .ok (.getfield 26, 3) := by decide +kernel
theorem dX8_given_145 : decode cX8_given 145 = .ok (.iload_n 3, 1) := by decide +kernel
theorem dX8_given_146 : decode cX8_given 146 = .ok (.iaload, 1) := by decide +kernel
theorem dX8_given_147 : decode cX8_given 147 = .ok (.if_icmp .lt 7, 3) := by decide +kernel
theorem dX8_given_150 : decode cX8_given 150 = .ok (.iconst 0, 1) := by decide +kernel
theorem dX8_given_151 : decode cX8_given 151 = .ok (.goto 4, 3) := by decide +kernel
theorem dX8_given_154 : decode cX8_given 154 = .ok (.iconst 3, 1) := by decide +kernel
theorem dX8_given_155 : decode cX8_given 155 = .ok (.ireturn, 1) := by decide +kernel
theorem dX8_given_156 : decode cX8_given 156 = .ok (.aload_n 0, 1) := by decide +kernel
theorem dX8_given_157 : decode cX8_given 157 = .ok (.iload_n 1, 1) := by decide +kernel
theorem dX8_given_158 : decode cX8_given 158 = .ok (.iload_n 2, 1) := by decide +kernel
theorem dX8_given_159 : decode cX8_given 159 = .ok (.if_icmp .le 7, 3) := by decide +kernel
theorem dX8_given_162 : decode cX8_given 162 = .ok (.iload_n 1, 1) := by decide +kernel
theorem dX8_given_163 : decode cX8_given 163 = .ok (.goto 4, 3) := by decide +kernel
theorem dX8_given_166 : decode cX8_given 166 = .ok (.iload_n 2, 1) := by decide +kernel
theorem dX8_given_167 : decode cX8_given 167 = .ok (.invokevirtual 146, 3) := by decide +kernel
theorem dX8_given_170 : decode cX8_given 170 = .ok (.istore 4, 2) := by decide +kernel
theorem dX8_given_172 : decode cX8_given 172 = .ok (.iload 4, 2) := by decide +kernel
theorem dX8_given_174 : decode cX8_given 174 = .ok (.iconst (-1), 1) := by decide +kernel
theorem dX8_given_175 : decode cX8_given 175 = .ok (.if_icmp .ne 10, 3) := by decide +kernel
theorem dX8_given_178 : decode cX8_given 178 = .ok (.aload_n 0, 1) := by decide +kernel
theorem dX8_given_179 : decode cX8_given 179 = .ok (.iconst 4, 1) := by decide +kernel
theorem dX8_given_180 : decode cX8_given 180 = .ok (.putfield 9, 3) := by decide +kernel
theorem dX8_given_183 : decode cX8_given 183 = .ok (.iconst 0, 1) := by decide +kernel
theorem dX8_given_184 : decode cX8_given 184 = .ok (.ireturn, 1) := by decide +kernel
theorem dX8_given_185 : decode cX8_given 185 = .ok (.iload 4, 2) := by decide +kernel
theorem dX8_given_187 : decode cX8_given 187 = .ok (.ifCond .ne 7, 3) := by decide +kernel
theorem dX8_given_190 : decode cX8_given 190 = .ok (.iload_n 1, 1) := by decide +kernel
theorem dX8_given_191 : decode cX8_given 191 = .ok (.goto 4, 3) := by decide +kernel
theorem dX8_given_194 : decode cX8_given 194 = .ok (.iload_n 2, 1) := by decide +kernel
theorem dX8_given_195 : decode cX8_given 195 = .ok (.istore 5, 2) := by decide +kernel
theorem dX8_given_197 : decode cX8_given 197 = .ok (.iload 4, 2) := by decide +kernel
theorem dX8_given_199 : decode cX8_given 199 = .ok (.ifCond .ne 7, 3) := by decide +kernel
theorem dX8_given_202 : decode cX8_given 202 = .ok (.iload_n 2, 1) := by decide +kernel
theorem dX8_given_203 : decode cX8_given 203 = .ok (.goto 4, 3) := by decide +kernel
theorem dX8_given_206 : decode cX8_given 206 = .ok (.iload_n 1, 1) := by decide +kernel
theorem dX8_given_207 : decode cX8_given 207 = .ok (.istore 6, 2) := by decide +kernel
theorem dX8_given_209 : decode cX8_given 209 = .ok (.aload_n 0, 1) := by decide +kernel
theorem dX8_given_210 : decode cX8_given 210 = .ok (.getfield 63, 3) := by decide +kernel
theorem dX8_given_213 : decode cX8_given 213 = .ok (.iload 6, 2) := by decide +kernel
theorem dX8_given_215 : decode cX8_given 215 = .ok (.iaload, 1) := by decide +kernel
theorem dX8_given_216 : decode cX8_given 216 = .ok (.ifCond .ne 36, 3) := by decide +kernel
theorem dX8_given_219 : decode cX8_given 219 = .ok (.aload_n 0, 1) := by decide +kernel
theorem dX8_given_220 : decode cX8_given 220 = .ok (.getfield 57, 3) := by decide +kernel
theorem dX8_given_223 : decode cX8_given 223 = .ok (.iload 5, 2) := by decide +kernel
theorem dX8_given_225 : decode cX8_given 225 = .ok (.iaload, 1) := by decide +kernel
theorem dX8_given_226 : decode cX8_given 226 = .ok (.aload_n 0, 1) := by decide +kernel
theorem dX8_given_227 : decode cX8_given 227 = .ok (.getfield 57, 3) := by decide +kernel
theorem dX8_given_230 : decode cX8_given 230 = .ok (.iload 6, 2) := by decide +kernel
theorem dX8_given_232 : decode cX8_given 232 = .ok (.iaload, 1) := by decide +kernel
theorem dX8_given_233 : decode cX8_given 233 = .ok (.isub, 1) := by decide +kernel
theorem dX8_given_234 : decode cX8_given 234 = .ok (.sipush 150, 3) := by decide +kernel
theorem dX8_given_237 : decode cX8_given 237 = .ok (.if_icmp .lt 15, 3) := by decide +kernel
theorem dX8_given_240 : decode cX8_given 240 = .ok (.aload_n 0, 1) := by decide +kernel
theorem dX8_given_241 : decode cX8_given 241 = .ok (.iconst 5, 1) := by decide +kernel
theorem dX8_given_242 : decode cX8_given 242 = .ok (.putfield 9, 3) := by decide +kernel
theorem dX8_given_245 : decode cX8_given 245 = .ok (.iconst 1, 1) := by decide +kernel
theorem dX8_given_246 : decode cX8_given 246 = .ok (.iconst 1, 1) := by decide +kernel
theorem dX8_given_247 : decode cX8_given 247 = .ok (.iload 4, 2) := by decide +kernel
theorem dX8_given_249 : decode cX8_given 249 = .ok (.isub, 1) := by decide +kernel
theorem dX8_given_250 : decode cX8_given 250 = .ok (.ishl, 1) := by decide +kernel
theorem dX8_given_251 : decode cX8_given 251 = .ok (.ireturn, 1) := by decide +kernel
theorem dX8_given_252 : decode cX8_given 252 = .ok (.aload_n 0, 1) := by decide +kernel
theorem dX8_given_253 : decode cX8_given 253 = .ok (.aload_n 0, 1) := by decide +kernel
theorem dX8_given_254 : decode cX8_given 254 = .ok (.getfield 63, 3) := by decide +kernel
theorem dX8_given_257 : decode cX8_given 257 = .ok (.iload 5, 2) := by decide +kernel
theorem dX8_given_259 : decode cX8_given 259 = .ok (.iaload, 1) := by decide +kernel
theorem dX8_given_260 : decode cX8_given 260 = .ok (.ifCond .ne 8, 3) := by decide +kernel
theorem dX8_given_263 : decode cX8_given 263 = .ok (.bipush 6, 2) := by decide +kernel
theorem dX8_given_265 : decode cX8_given 265 = .ok (.goto 4, 3) := by decide +kernel
theorem dX8_given_268 : decode cX8_given 268 = .ok (.iconst 2, 1) := by decide +kernel
theorem dX8_given_269 : decode cX8_given 269 = .ok (.putfield 9, 3) := by decide +kernel
theorem dX8_given_272 : decode cX8_given 272 = .ok (.aload_n 0, 1) := by decide +kernel
theorem dX8_given_273 : decode cX8_given 273 = .ok (.getfield 63, 3) := by decide +kernel
theorem dX8_given_276 : decode cX8_given 276 = .ok (.iload 5, 2) := by decide +kernel
theorem dX8_given_278 : decode cX8_given 278 = .ok (.iaload, 1) := by decide +kernel
theorem dX8_given_279 : decode cX8_given 279 = .ok (.ifCond .ne 10, 3) := by decide +kernel
theorem dX8_given_282 : decode cX8_given 282 = .ok (.iconst 1, 1) := by decide +kernel
theorem dX8_given_283 : decode cX8_given 283 = .ok (.iload 4, 2) := by decide +kernel
theorem dX8_given_285 : decode cX8_given 285 = .ok (.ishl, 1) := by decide +kernel
theorem dX8_given_286 : decode cX8_given 286 = .ok (.goto 4, 3) := by decide +kernel
theorem dX8_given_289 : decode cX8_given 289 = .ok (.iconst 0, 1) := by decide +kernel
theorem dX8_given_290 : decode cX8_given 290 = .ok (.ireturn, 1) := by decide +kernel
theorem dX8_judge_0 : decode cX8_judge 0 = .ok (.aload_n 0, 1) := by decide +kernel
theorem dX8_judge_1 : decode cX8_judge 1 = .ok (.aload_n 0, 1) := by decide +kernel
theorem dX8_judge_2 : decode cX8_judge 2 = .ok (.getfield 13, 3) := by decide +kernel
theorem dX8_judge_5 : decode cX8_judge 5 = .ok (.iconst (-1), 1) := by decide +kernel
theorem dX8_judge_6 : decode cX8_judge 6 = .ok (.if_icmp .ne 7, 3) := by decide +kernel
theorem dX8_judge_9 : decode cX8_judge 9 = .ok (.iconst 1, 1) := by decide +kernel
theorem dX8_judge_10 : decode cX8_judge 10 = .ok (.goto 4, 3) := by decide +kernel
theorem dX8_judge_13 : decode cX8_judge 13 = .ok (.iconst 0, 1) := by decide +kernel
theorem dX8_judge_14 : decode cX8_judge 14 = .ok (.putfield 81, 3) := by decide +kernel
theorem dX8_judge_17 : decode cX8_judge 17 = .ok (.aload_n 0, 1) := by decide +kernel
theorem dX8_judge_18 : decode cX8_judge 18 = .ok (.getfield 81, 3) := by decide +kernel
theorem dX8_judge_21 : decode cX8_judge 21 = .ok (.ifCond .le 5, 3) := by decide +kernel
theorem dX8_judge_24 : decode cX8_judge 24 = .ok (.iconst 0, 1) := by decide +kernel
theorem dX8_judge_25 : decode cX8_judge 25 = .ok (.ireturn, 1) := by decide +kernel
theorem dX8_judge_26 : decode cX8_judge 26 = .ok (.aload_n 0, 1) := by decide +kernel
theorem dX8_judge_27 : decode cX8_judge 27 = .ok (.invokevirtual 149, 3) := by decide +kernel
theorem dX8_judge_30 : decode cX8_judge 30 = .ok (.istore_n 1, 1) := by decide +kernel
theorem dX8_judge_31 : decode cX8_judge 31 = .ok (.aload_n 0, 1) := by decide +kernel
theorem dX8_judge_32 : decode cX8_judge 32 = .ok (.iconst 0, 1) := by decide +kernel
theorem dX8_judge_33 : decode cX8_judge 33 = .ok (.putfield 111, 3) := by decide +kernel
theorem dX8_judge_36 : decode cX8_judge 36 = .ok (.aload_n 0, 1) := by decide +kernel
theorem dX8_judge_37 : decode cX8_judge 37 = .ok (.iload_n 1, 1) := by decide +kernel
theorem dX8_judge_38 : decode cX8_judge 38 = .ok (.ifCond .le 7, 3) := by decide +kernel
theorem dX8_judge_41 : decode cX8_judge 41 = .ok (.iconst 0, 1) := by decide +kernel
theorem dX8_judge_42 : decode cX8_judge 42 = .ok (.goto 7, 3) := by decide +kernel
theorem dX8_judge_45 : decode cX8_judge 45 = .ok (.aload_n 0, 1) := by decide +kernel
theorem dX8_judge_46 : decode cX8_judge 46 = .ok (.getfield 108, 3) := by decide +kernel
theorem dX8_judge_49 : decode cX8_judge 49 = .ok (.putfield 108, 3) := by decide +kernel
theorem dX8_judge_52 : decode cX8_judge 52 = .ok (.aload_n 0, 1) := by decide +kernel
theorem dX8_judge_53 : decode cX8_judge 53 = .ok (.iload_n 1, 1) := by decide +kernel
theorem dX8_judge_54 : decode cX8_judge 54 = .ok (.invokevirtual 152, 3) := by decide +kernel
theorem dX8_judge_57 : decode cX8_judge 57 = .ok (.iload_n 1, 1) := by decide +kernel
theorem dX8_judge_58 : decode cX8_judge 58 = .ok (.ireturn, 1) := by decide +kernel
theorem dX8_card_0 : decode cX8_card 0 = .ok (.aload_n 0, 1) := by decide +kernel
theorem dX8_card_1 : decode cX8_card 1 = .ok (.iload_n 1, 1) := by decide +kernel
theorem dX8_card_2 : decode cX8_card 2 = .ok (.invokestatic 114, 3) := by decide +kernel
theorem dX8_card_5 : decode cX8_card 5 = .ok (.ifCond .eq 12, 3) := by decide +kernel
theorem dX8_card_8 : decode cX8_card 8 = .ok (.iload_n 2, 1) := by decide +kernel
theorem dX8_card_9 : decode cX8_card 9 = .ok (.iconst 1, 1) := by decide +kernel
theorem dX8_card_10 : decode cX8_card 10 = .ok (.iconst 3, 1) := by decide +kernel
theorem dX8_card_11 : decode cX8_card 11 = .ok (.invokestatic 87, 3) := by decide +kernel
theorem dX8_card_14 : decode cX8_card 14 = .ok (.ifCond .ne 7, 3) := by decide +kernel
theorem dX8_card_17 : decode cX8_card 17 = .ok (.iconst 1, 1) := by decide +kernel
theorem dX8_card_18 : decode cX8_card 18 = .ok (.goto 16, 3) := by decide +kernel
theorem dX8_card_21 : decode cX8_card 21 = .ok (.aload_n 0, 1) := by decide +kernel
theorem dX8_card_22 : decode cX8_card 22 = .ok (.getfield 13, 3) := by decide +kernel
theorem dX8_card_25 : decode cX8_card 25 = .ok (.iconst (-1), 1) := by decide +kernel
theorem dX8_card_26 : decode cX8_card 26 = .ok (.if_icmp .ne 7, 3) := by decide +kernel
theorem dX8_card_29 : decode cX8_card 29 = .ok (.iconst 2, 1) := by decide +kernel
theorem dX8_card_30 : decode cX8_card 30 = .ok (.goto 4, 3) := by decide +kernel
theorem dX8_card_33 : decode cX8_card 33 = .ok (.iconst 0, 1) := by decide +kernel
theorem dX8_card_34 : decode cX8_card 34 = .ok (.putfield 81, 3) := by decide +kernel
theorem dX8_card_37 : decode cX8_card 37 = .ok (.aload_n 0, 1) := by decide +kernel
theorem dX8_card_38 : decode cX8_card 38 = .ok (.getfield 81, 3) := by decide +kernel
theorem dX8_card_41 : decode cX8_card 41 = .ok (.ifCond .le 5, 3) := by decide +kernel
theorem dX8_card_44 : decode cX8_card 44 = .ok (.iconst 0, 1) := by decide +kernel
theorem dX8_card_45 : decode cX8_card 45 = .ok (.ireturn, 1) := by decide +kernel
theorem dX8_card_46 : decode cX8_card 46 = .ok (.iload_n 2, 1) := by decide +kernel
theorem dX8_card_47 : decode cX8_card 47 = .ok (.iconst 1, 1) := by decide +kernel
theorem dX8_card_48 : decode cX8_card 48 = .ok (.if_icmp .ne 16, 3) := by decide +kernel
theorem dX8_card_51 : decode cX8_card 51 = .ok (.aload_n 0, 1) := by decide +kernel
theorem dX8_card_52 : decode cX8_card 52 = .ok (.getfield 44, 3) := by decide +kernel
theorem dX8_card_55 : decode cX8_card 55 = .ok (.iload_n 1, 1) := by decide +kernel
theorem dX8_card_56 : decode cX8_card 56 = .ok (.iaload, 1) := by decide +kernel
theorem dX8_card_57 : decode cX8_card 57 = .ok (.ifCond .ne 7, 3) := by decide +kernel
theorem dX8_card_60 : decode cX8_card 60 = .ok (.iconst 1, 1) := by decide +kernel
theorem dX8_card_61 : decode cX8_card 61 = .ok (.goto 22, 3) := by decide +kernel
theorem dX8_card_64 : decode cX8_card 64 = .ok (.iload_n 2, 1) := by decide +kernel
theorem dX8_card_65 : decode cX8_card 65 = .ok (.iconst 3, 1) := by decide +kernel
theorem dX8_card_66 : decode cX8_card 66 = .ok (.if_icmp .ne 16, 3) := by decide +kernel
theorem dX8_card_69 : decode cX8_card 69 = .ok (.aload_n 0, 1) := by decide +kernel
theorem dX8_card_70 : decode cX8_card 70 = .ok (.getfield 47, 3) := by decide +kernel
theorem dX8_card_73 : decode cX8_card 73 = .ok (.iload_n 1, 1) := by decide +kernel
theorem dX8_card_74 : decode cX8_card 74 = .ok (.baload, 1) := by decide +kernel
theorem dX8_card_75 : decode cX8_card 75 = .ok (.ifCond .eq 7, 3) := by decide +kernel
theorem dX8_card_78 : decode cX8_card 78 = .ok (.iconst 3, 1) := by decide +kernel
theorem dX8_card_79 : decode cX8_card 79 = .ok (.goto 4, 3) := by decide +kernel
theorem dX8_card_82 : decode cX8_card 82 = .ok (.iconst 2, 1) := by decide +kernel
theorem dX8_card_83 : decode cX8_card 83 = .ok (.istore_n 3, 1) := by decide +kernel
theorem dX8_card_84 : decode cX8_card 84 = .ok (.aload_n 0, 1) := by decide +kernel
theorem dX8_card_85 : decode cX8_card 85 = .ok (.getfield 44, 3) := by decide +kernel
theorem dX8_card_88 : decode cX8_card 88 = .ok (.iload_n 1, 1) := by decide +kernel
theorem dX8_card_89 : decode cX8_card 89 = .ok (.dup2, 1) := by decide +kernel
theorem dX8_card_90 : decode cX8_card 90 = .ok (.iaload, 1) := by decide +kernel
theorem dX8_card_91 : decode cX8_card 91 = .ok (.iconst 1, 1) := by decide +kernel
theorem dX8_card_92 : decode cX8_card 92 = .ok (.iadd, 1) := by decide +kernel
theorem dX8_card_93 : decode cX8_card 93 = .ok (.iastore, 1) := by decide +kernel
theorem dX8_card_94 : decode cX8_card 94 = .ok (.aload_n 0, 1) := by decide +kernel
theorem dX8_card_95 : decode cX8_card 95 = .ok (.getfield 47, 3) := by decide +kernel
theorem dX8_card_98 : decode cX8_card 98 = .ok (.iload_n 1, 1) := by decide +kernel
theorem dX8_card_99 : decode cX8_card 99 = .ok (.dup2, 1) := by decide +kernel
theorem dX8_card_100 : decode cX8_card 100 = .ok (.baload, 1) := by decide +kernel
theorem dX8_card_101 : decode cX8_card 101 = .ok (.iload_n 2, 1) := by decide +kernel
theorem dX8_card_102 : decode cX8_card 102 = .ok (.iconst 3, 1) := by decide +kernel
theorem dX8_card_103 : decode cX8_card 103 = .ok (.if_icmp .ne 7, 3) := by decide +kernel
theorem dX8_card_106 : decode cX8_card 106 = .ok (.iconst 1, 1) := by decide +kernel
theorem dX8_card_107 : decode cX8_card 107 = .ok (.goto 4, 3) := by decide +kernel
theorem dX8_card_110 : decode cX8_card 110 = .ok (.iconst 0, 1) := by decide +kernel
theorem dX8_card_111 : decode cX8_card 111 = .ok (.ior, 1) := by decide +kernel
theorem dX8_card_112 : decode cX8_card 112 = .ok (.bastore, 1) := by decide +kernel
theorem dX8_card_113 : decode cX8_card 113 = .ok (.iload_n 3, 1) := by decide +kernel
theorem dX8_card_114 : decode cX8_card 114 = .ok (.iconst 2, 1) := by decide +kernel
theorem dX8_card_115 : decode cX8_card 115 = .ok (.if_icmp .ne 20, 3) := by decide +kernel
theorem dX8_card_118 : decode cX8_card 118 = .ok (.aload_n 0, 1) := by decide +kernel
theorem dX8_card_119 : decode cX8_card 119 = .ok (.iconst 0, 1) := by decide +kernel
theorem dX8_card_120 : decode cX8_card 120 = .ok (.putfield 108, 3) := by decide +kernel
theorem dX8_card_123 : decode cX8_card 123 = .ok (.aload_n 0, 1) := by decide +kernel
theorem dX8_card_124 : decode cX8_card 124 = .ok (.iconst 1, 1) := by decide +kernel
theorem dX8_card_125 : decode cX8_card 125 = .ok (.iconst 1, 1) := by decide +kernel
theorem dX8_card_126 : decode cX8_card 126 = .ok (.iload_n 1, 1) := by decide +kernel
theorem dX8_card_127 : decode cX8_card 127 = .ok (.isub, 1) := by decide +kernel
theorem dX8_card_128 : decode cX8_card 128 = .ok (.ishl, 1) := by decide +kernel
theorem dX8_card_129 : decode cX8_card 129 = .ok (.invokevirtual 152, 3) := by decide +kernel
theorem dX8_card_132 : decode cX8_card 132 = .ok (.goto 15, 3) := by decide +kernel
theorem dX8_card_135 : decode cX8_card 135 = .ok (.iload_n 3, 1) := by decide +kernel
theorem dX8_card_136 : decode cX8_card 136 = .ok (.iconst 3, 1) := by decide +kernel
theorem dX8_card_137 : decode cX8_card 137 = .ok (.if_icmp .ne 10, 3) := by decide +kernel
theorem dX8_card_140 : decode cX8_card 140 = .ok (.aload_n 0, 1) := by decide +kernel
theorem dX8_card_141 : decode cX8_card 141 = .ok (.iconst 1, 1) := by decide +kernel
theorem dX8_card_142 : decode cX8_card 142 = .ok (.iload_n 1, 1) := by decide +kernel
theorem dX8_card_143 : decode cX8_card 143 = .ok (.isub, 1) := by decide +kernel
theorem dX8_card_144 : decode cX8_card 144 = .ok (.invokevirtual 139, 3) := by decide +kernel
theorem dX8_card_147 : decode cX8_card 147 = .ok (.iload_n 3, 1) := by decide +kernel
theorem dX8_card_148 : decode cX8_card 148 = .ok (.ireturn, 1) := by decide +kernel
theorem dX8_next_0 : decode cX8_next 0 = .ok (.ldc2_w 155, 3) := by decide +kernel
theorem dX8_next_3 : decode cX8_next 3 = .ok (.lload_n 0, 1) := by decide +kernel
theorem dX8_next_4 : decode cX8_next 4 = .ok (.lmul, 1) := by decide +kernel
theorem dX8_next_5 : decode cX8_next 5 = .ok (.ldc2_w 157, 3) := by decide +kernel
theorem dX8_next_8 : decode cX8_next 8 = .ok (.ladd, 1) := by decide +kernel
theorem dX8_next_9 : decode cX8_next 9 = .ok (.ldc2_w 159, 3) := by decide +kernel
theorem dX8_next_12 : decode cX8_next 12 = .ok (.lrem, 1) := by decide +kernel
theorem dX8_next_13 : decode cX8_next 13 = .ok (.lreturn, 1) := by decide +kernel
theorem dX8_second_0 : decode cX8_second 0 = .ok (.aload_n 0, 1) := by decide +kernel
theorem dX8_second_1 : decode cX8_second 1 = .ok (.getfield 13, 3) := by decide +kernel
theorem dX8_second_4 : decode cX8_second 4 = .ok (.istore_n 1, 1) := by decide +kernel
theorem dX8_second_5 : decode cX8_second 5 = .ok (.aload_n 0, 1) := by decide +kernel
theorem dX8_second_6 : decode cX8_second 6 = .ok (.getfield 35, 3) := by decide +kernel
theorem dX8_second_9 : decode cX8_second 9 = .ok (.iload_n 1, 1) := by decide +kernel
theorem dX8_second_10 : decode cX8_second 10 = .ok (.dup2, 1) := by decide +kernel
theorem dX8_second_11 : decode cX8_second 11 = .ok (.iaload, 1) := by decide +kernel
theorem dX8_second_12 : decode cX8_second 12 = .ok (.iconst 1, 1) := by decide +kernel
theorem dX8_second_13 : decode cX8_second 13 = .ok (.iadd, 1) := by decide +kernel
theorem dX8_second_14 : decode cX8_second 14 = .ok (.iastore, 1) := by decide +kernel
theorem dX8_second_15 : decode cX8_second 15 = .ok (.aload_n 0, 1) := by decide +kernel
theorem dX8_second_16 : decode cX8_second 16 = .ok (.dup, 1) := by decide +kernel
theorem dX8_second_17 : decode cX8_second 17 = .ok (.getfield 108, 3) := by decide +kernel
theorem dX8_second_20 : decode cX8_second 20 = .ok (.iconst 1, 1) := by decide +kernel
theorem dX8_second_21 : decode cX8_second 21 = .ok (.iadd, 1) := by decide +kernel
theorem dX8_second_22 : decode cX8_second 22 = .ok (.putfield 108, 3) := by decide +kernel
theorem dX8_second_25 : decode cX8_second 25 = .ok (.aload_n 0, 1) := by decide +kernel
theorem dX8_second_26 : decode cX8_second 26 = .ok (.getfield 108, 3) := by decide +kernel
theorem dX8_second_29 : decode cX8_second 29 = .ok (.bipush 60, 2) := by decide +kernel
theorem dX8_second_31 : decode cX8_second 31 = .ok (.if_icmp .ne 54, 3) := by decide +kernel
theorem dX8_second_34 : decode cX8_second 34 = .ok (.aload_n 0, 1) := by decide +kernel
theorem dX8_second_35 : decode cX8_second 35 = .ok (.iconst 0, 1) := by decide +kernel
theorem dX8_second_36 : decode cX8_second 36 = .ok (.putfield 108, 3) := by decide +kernel
theorem dX8_second_39 : decode cX8_second 39 = .ok (.aload_n 0, 1) := by decide +kernel
theorem dX8_second_40 : decode cX8_second 40 = .ok (.getfield 38, 3) := by decide +kernel
theorem dX8_second_43 : decode cX8_second 43 = .ok (.iload_n 1, 1) := by decide +kernel
theorem dX8_second_44 : decode cX8_second 44 = .ok (.dup2, 1) := by decide +kernel
theorem dX8_second_45 : decode cX8_second 45 = .ok (.iaload, 1) := by decide +kernel
theorem dX8_second_46 : decode cX8_second 46 = .ok (.iconst 1, 1) := by decide +kernel
theorem dX8_second_47 : decode cX8_second 47 = .ok (.iadd, 1) := by decide +kernel
theorem dX8_second_48 : decode cX8_second 48 = .ok (.iastore, 1) := by decide +kernel
theorem dX8_second_49 : decode cX8_second 49 = .ok (.aload_n 0, 1) := by decide +kernel
theorem dX8_second_50 : decode cX8_second 50 = .ok (.getfield 38, 3) := by decide +kernel
theorem dX8_second_53 : decode cX8_second 53 = .ok (.iload_n 1, 1) := by decide +kernel
theorem dX8_second_54 : decode cX8_second 54 = .ok (.iaload, 1) := by decide +kernel
theorem dX8_second_55 : decode cX8_second 55 = .ok (.iconst 2, 1) := by decide +kernel
theorem dX8_second_56 : decode cX8_second 56 = .ok (.if_icmp .ne 11, 3) := by decide +kernel
theorem dX8_second_59 : decode cX8_second 59 = .ok (.aload_n 0, 1) := by decide +kernel
theorem dX8_second_60 : decode cX8_second 60 = .ok (.iconst 3, 1) := by decide +kernel
theorem dX8_second_61 : decode cX8_second 61 = .ok (.invokevirtual 152, 3) := by decide +kernel
theorem dX8_second_64 : decode cX8_second 64 = .ok (.goto 21, 3) := by decide +kernel
theorem dX8_second_67 : decode cX8_second 67 = .ok (.aload_n 0, 1) := by decide +kernel
theorem dX8_second_68 : decode cX8_second 68 = .ok (.getfield 38, 3) := by decide +kernel
theorem dX8_second_71 : decode cX8_second 71 = .ok (.iload_n 1, 1) := by decide +kernel
theorem dX8_second_72 : decode cX8_second 72 = .ok (.iaload, 1) := by decide +kernel
theorem dX8_second_73 : decode cX8_second 73 = .ok (.iconst 3, 1) := by decide +kernel
theorem dX8_second_74 : decode cX8_second 74 = .ok (.if_icmp .ne 11, 3) := by decide +kernel
theorem dX8_second_77 : decode cX8_second 77 = .ok (.aload_n 0, 1) := by decide +kernel
theorem dX8_second_78 : decode cX8_second 78 = .ok (.aload_n 0, 1) := by decide +kernel
theorem dX8_second_79 : decode cX8_second 79 = .ok (.invokevirtual 135, 3) := by decide +kernel
theorem dX8_second_82 : decode cX8_second 82 = .ok (.invokevirtual 139, 3) := by decide +kernel
theorem dX8_second_85 : decode cX8_second 85 = .ok (.aload_n 0, 1) := by decide +kernel
theorem dX8_second_86 : decode cX8_second 86 = .ok (.getfield 13, 3) := by decide +kernel
theorem dX8_second_89 : decode cX8_second 89 = .ok (.iconst (-1), 1) := by decide +kernel
theorem dX8_second_90 : decode cX8_second 90 = .ok (.if_icmp .ne 4, 3) := by decide +kernel
theorem dX8_second_93 : decode cX8_second 93 = .ok (.return_, 1) := by decide +kernel
theorem dX8_second_94 : decode cX8_second 94 = .ok (.aload_n 0, 1) := by decide +kernel
theorem dX8_second_95 : decode cX8_second 95 = .ok (.getfield 35, 3) := by decide +kernel
theorem dX8_second_98 : decode cX8_second 98 = .ok (.iload_n 1, 1) := by decide +kernel
theorem dX8_second_99 : decode cX8_second 99 = .ok (.iaload, 1) := by decide +kernel
theorem dX8_second_100 : decode cX8_second 100 = .ok (.sipush 180, 3) := by decide +kernel
theorem dX8_second_103 : decode cX8_second 103 = .ok (.if_icmp .ne 68, 3) := by decide +kernel
theorem dX8_second_106 : decode cX8_second 106 = .ok (.aload_n 0, 1) := by decide +kernel
theorem dX8_second_107 : decode cX8_second 107 = .ok (.getfield 20, 3) := by decide +kernel
theorem dX8_second_110 : decode cX8_second 110 = .ok (.iconst 2, 1) := by decide +kernel
theorem dX8_second_111 : decode cX8_second 111 = .ok (.iload_n 1, 1) := by decide +kernel
theorem dX8_second_112 : decode cX8_second 112 = .ok (.imul, 1) := by decide +kernel
theorem dX8_second_113 : decode cX8_second 113 = .ok (.iaload, 1) := by decide +kernel
theorem dX8_second_114 : decode cX8_second 114 = .ok (.aload_n 0, 1) := by decide +kernel
theorem dX8_second_115 : decode cX8_second 115 = .ok (.getfield 20, 3) := by decide +kernel
theorem dX8_second_118 : decode cX8_second 118 = .ok (.iconst 2, 1) := by decide +kernel
theorem dX8_second_119 : decode cX8_second 119 = .ok (.iload_n 1, 1) := by decide +kernel
theorem dX8_second_120 : decode cX8_second 120 = .ok (.imul, 1) := by decide +kernel
theorem dX8_second_121 : decode cX8_second 121 = .ok (.iconst 1, 1) := by decide +kernel
theorem dX8_second_122 : decode cX8_second 122 = .ok (.iadd, 1) := by decide +kernel
theorem dX8_second_123 : decode cX8_second 123 = .ok (.iaload, 1) := by decide +kernel
theorem dX8_second_124 : decode cX8_second 124 = .ok (.if_icmp .eq 14, 3) := by decide +kernel
theorem dX8_second_127 : decode cX8_second 127 = .ok (.aload_n 0, 1) := by decide +kernel
theorem dX8_second_128 : decode cX8_second 128 = .ok (.aload_n 0, 1) := by decide +kernel
theorem dX8_second_129 : decode cX8_second 129 = .ok (.invokevirtual 135, 3) := by decide +kernel
theorem dX8_second_132 : decode cX8_second 132 = .ok (.invokevirtual 139, 3) := by decide +kernel
theorem dX8_second_135 : decode cX8_second 135 = .ok (.goto 58, 3) := by decide +kernel
theorem dX8_second_138 : decode cX8_second 138 = .ok (.aload_n 0, 1) := by decide +kernel
theorem dX8_second_139 : decode cX8_second 139 = .ok (.aload_n 0, 1) := by decide +kernel
theorem dX8_second_140 : decode cX8_second 140 = .ok (.getfield 161, 3) := by decide +kernel
theorem dX8_second_143 : decode cX8_second 143 = .ok (.invokestatic 165, 3) := by decide +kernel
theorem dX8_second_146 : decode cX8_second 146 = .ok (.putfield 161, 3) := by decide +kernel
theorem dX8_second_149 : decode cX8_second 149 = .ok (.aload_n 0, 1) := by decide +kernel
theorem dX8_second_150 : decode cX8_second 150 = .ok (.getfield 41, 3) := by decide +kernel
theorem dX8_second_153 : decode cX8_second 153 = .ok (.iload_n 1, 1) := by decide +kernel
theorem dX8_second_154 : decode cX8_second 154 = .ok (.aload_n 0, 1) := by decide +kernel
theorem dX8_second_155 : decode cX8_second 155 = .ok (.getfield 161, 3) := by decide +kernel
theorem dX8_second_158 : decode cX8_second 158 = .ok (.ldc2_w 169, 3) := by decide +kernel
theorem dX8_second_161 : decode cX8_second 161 = .ok (.ldiv, 1) := by decide +kernel
theorem dX8_second_162 : decode cX8_second 162 = .ok (.ldc2_w 171, 3) := by decide +kernel
theorem dX8_second_165 : decode cX8_second 165 = .ok (.lrem, 1) := by decide +kernel
theorem dX8_second_166 : decode cX8_second 166 = .ok (.l2i, 1) := by decide +kernel
theorem dX8_second_167 : decode cX8_second 167 = .ok (.iastore, 1) := by decide +kernel
theorem dX8_second_168 : decode cX8_second 168 = .ok (.goto 25, 3) := by decide +kernel
theorem dX8_second_171 : decode cX8_second 171 = .ok (.aload_n 0, 1) := by decide +kernel
theorem dX8_second_172 : decode cX8_second 172 = .ok (.getfield 35, 3) := by decide +kernel
theorem dX8_second_175 : decode cX8_second 175 = .ok (.iload_n 1, 1) := by decide +kernel
theorem dX8_second_176 : decode cX8_second 176 = .ok (.iaload, 1) := by decide +kernel
theorem dX8_second_177 : decode cX8_second 177 = .ok (.sipush 240, 3) := by decide +kernel
theorem dX8_second_180 : decode cX8_second 180 = .ok (.if_icmp .ne 13, 3) := by decide +kernel
theorem dX8_second_183 : decode cX8_second 183 = .ok (.aload_n 0, 1) := by decide +kernel
theorem dX8_second_184 : decode cX8_second 184 = .ok (.aload_n 0, 1) := by decide +kernel
theorem dX8_second_185 : decode cX8_second 185 = .ok (.getfield 41, 3) := by decide +kernel
theorem dX8_second_188 : decode cX8_second 188 = .ok (.iload_n 1, 1) := by decide +kernel
theorem dX8_second_189 : decode cX8_second 189 = .ok (.iaload, 1) := by decide +kernel
theorem dX8_second_190 : decode cX8_second 190 = .ok (.invokevirtual 139, 3) := by decide +kernel
theorem dX8_second_193 : decode cX8_second 193 = .ok (.return_, 1) := by decide +kernel
theorem dX8_clock_0 : decode cX8_clock 0 = .ok (.aload_n 0, 1) := by decide +kernel
theorem dX8_clock_1 : decode cX8_clock 1 = .ok (.iload_n 1, 1) := by decide +kernel
theorem dX8_clock_2 : decode cX8_clock 2 = .ok (.iconst 1, 1) := by decide +kernel
theorem dX8_clock_3 : decode cX8_clock 3 = .ok (.sipush 240, 3) := by decide +kernel
theorem dX8_clock_6 : decode cX8_clock 6 = .ok (.invokestatic 87, 3) := by decide +kernel
theorem dX8_clock_9 : decode cX8_clock 9 = .ok (.ifCond .ne 7, 3) := by decide +kernel
theorem dX8_clock_12 : decode cX8_clock 12 = .ok (.iconst 1, 1) := by decide +kernel
theorem dX8_clock_13 : decode cX8_clock 13 = .ok (.goto 16, 3) := by decide +kernel
theorem dX8_clock_16 : decode cX8_clock 16 = .ok (.aload_n 0, 1) := by decide +kernel
theorem dX8_clock_17 : decode cX8_clock 17 = .ok (.getfield 13, 3) := by decide +kernel
theorem dX8_clock_20 : decode cX8_clock 20 = .ok (.iconst (-1), 1) := by decide +kernel
theorem dX8_clock_21 : decode cX8_clock 21 = .ok (.if_icmp .ne 7, 3) := by decide +kernel
theorem dX8_clock_24 : decode cX8_clock 24 = .ok (.iconst 2, 1) := by decide +kernel
theorem dX8_clock_25 : decode cX8_clock 25 = .ok (.goto 4, 3) := by decide +kernel
theorem dX8_clock_28 : decode cX8_clock 28 = .ok (.iconst 0, 1) := by decide +kernel
theorem dX8_clock_29 : decode cX8_clock 29 = .ok (.putfield 81, 3) := by decide +kernel
theorem dX8_clock_32 : decode cX8_clock 32 = .ok (.aload_n 0, 1) := by decide +kernel
theorem dX8_clock_33 : decode cX8_clock 33 = .ok (.getfield 81, 3) := by decide +kernel
theorem dX8_clock_36 : decode cX8_clock 36 = .ok (.ifCond .le 5, 3) := by decide +kernel
theorem dX8_clock_39 : decode cX8_clock 39 = .ok (.iconst 0, 1) := by decide +kernel
theorem dX8_clock_40 : decode cX8_clock 40 = .ok (.ireturn, 1) := by decide +kernel
theorem dX8_clock_41 : decode cX8_clock 41 = .ok (.iconst 0, 1) := by decide +kernel
theorem dX8_clock_42 : decode cX8_clock 42 = .ok (.istore_n 2, 1) := by decide +kernel
theorem dX8_clock_43 : decode cX8_clock 43 = .ok (.iload_n 2, 1) := by decide +kernel
theorem dX8_clock_44 : decode cX8_clock 44 = .ok (.iload_n 1, 1) := by decide +kernel
theorem dX8_clock_45 : decode cX8_clock 45 = .ok (.if_icmp .ge 21, 3) := by decide +kernel
theorem dX8_clock_48 : decode cX8_clock 48 = .ok (.aload_n 0, 1) := by decide +kernel
theorem dX8_clock_49 : decode cX8_clock 49 = .ok (.getfield 13, 3) := by decide +kernel
theorem dX8_clock_52 : decode cX8_clock 52 = .ok (.iconst (-1), 1) := by decide +kernel
theorem dX8_clock_53 : decode cX8_clock 53 = .ok (.if_icmp .eq 13, 3) := by decide +kernel
theorem dX8_clock_56 : decode cX8_clock 56 = .ok (.aload_n 0, 1) := by decide +kernel
theorem dX8_clock_57 : decode cX8_clock 57 = .ok (.invokevirtual 173, 3) := by decide +kernel
theorem dX8_clock_60 : decode cX8_clock 60 = .ok (.iinc 2 1, 3) := by decide +kernel
theorem dX8_clock_63 : decode cX8_clock 63 = .ok (.goto (-20), 3) := by decide +kernel
theorem dX8_clock_66 : decode cX8_clock 66 = .ok (.aload_n 0, 1) := by decide +kernel
theorem dX8_clock_67 : decode cX8_clock 67 = .ok (.getfield 13, 3) := by decide +kernel
theorem dX8_clock_70 : decode cX8_clock 70 = .ok (.iconst (-1), 1) := by decide +kernel
theorem dX8_clock_71 : decode cX8_clock 71 = .ok (.if_icmp .ne 7, 3) := by decide +kernel
theorem dX8_clock_74 : decode cX8_clock 74 = .ok (.iconst 0, 1) := by decide +kernel
theorem dX8_clock_75 : decode cX8_clock 75 = .ok (.goto 35, 3) := by decide +kernel
theorem dX8_clock_78 : decode cX8_clock 78 = .ok (.aload_n 0, 1) := by decide +kernel
theorem dX8_clock_79 : decode cX8_clock 79 = .ok (.getfield 41, 3) := by decide +kernel
theorem dX8_clock_82 : decode cX8_clock 82 = .ok (.aload_n 0, 1) := by decide +kernel
theorem dX8_clock_83 : decode cX8_clock 83 = .ok (.getfield 13, 3) := by decide +kernel
theorem dX8_clock_86 : decode cX8_clock 86 = .ok (.iaload, 1) := by decide +kernel
theorem dX8_clock_87 : decode cX8_clock 87 = .ok (.iconst (-1), 1) := by decide +kernel
theorem dX8_clock_88 : decode cX8_clock 88 = .ok (.if_icmp .ne 9, 3) := by decide +kernel
theorem dX8_clock_91 : decode cX8_clock 91 = .ok (.sipush 180, 3) := by decide +kernel
theorem dX8_clock_94 : decode cX8_clock 94 = .ok (.goto 6, 3) := by decide +kernel
theorem dX8_clock_97 : decode cX8_clock 97 = .ok (.sipush 240, 3) := by decide +kernel
theorem dX8_clock_100 : decode cX8_clock 100 = .ok (.aload_n 0, 1) := by decide +kernel
theorem dX8_clock_101 : decode cX8_clock 101 = .ok (.getfield 35, 3) := by decide +kernel
theorem dX8_clock_104 : decode cX8_clock 104 = .ok (.aload_n 0, 1) := by decide +kernel
theorem dX8_clock_105 : decode cX8_clock 105 = .ok (.getfield 13, 3) := by decide +kernel
theorem dX8_clock_108 : decode cX8_clock 108 = .ok (.iaload, 1) := by decide +kernel
theorem dX8_clock_109 : decode cX8_clock 109 = .ok (.isub, 1) := by decide +kernel
theorem dX8_clock_110 : decode cX8_clock 110 = .ok (.ireturn, 1) := by decide +kernel
theorem dX8_end_0 : decode cX8_end 0 = .ok (.aload_n 0, 1) := by decide +kernel
theorem dX8_end_1 : decode cX8_end 1 = .ok (.aload_n 0, 1) := by decide +kernel
theorem dX8_end_2 : decode cX8_end 2 = .ok (.getfield 13, 3) := by decide +kernel
theorem dX8_end_5 : decode cX8_end 5 = .ok (.iconst (-1), 1) := by decide +kernel
theorem dX8_end_6 : decode cX8_end 6 = .ok (.if_icmp .ne 7, 3) := by decide +kernel
theorem dX8_end_9 : decode cX8_end 9 = .ok (.iconst 1, 1) := by decide +kernel
theorem dX8_end_10 : decode cX8_end 10 = .ok (.goto 4, 3) := by decide +kernel
theorem dX8_end_13 : decode cX8_end 13 = .ok (.iconst 0, 1) := by decide +kernel
theorem dX8_end_14 : decode cX8_end 14 = .ok (.putfield 81, 3) := by decide +kernel
theorem dX8_end_17 : decode cX8_end 17 = .ok (.aload_n 0, 1) := by decide +kernel
theorem dX8_end_18 : decode cX8_end 18 = .ok (.getfield 81, 3) := by decide +kernel
theorem dX8_end_21 : decode cX8_end 21 = .ok (.ifCond .le 5, 3) := by decide +kernel
theorem dX8_end_24 : decode cX8_end 24 = .ok (.iconst 0, 1) := by decide +kernel
theorem dX8_end_25 : decode cX8_end 25 = .ok (.ireturn, 1) := by decide +kernel
theorem dX8_end_26 : decode cX8_end 26 = .ok (.aload_n 0, 1) := by decide +kernel
theorem dX8_end_27 : decode cX8_end 27 = .ok (.invokevirtual 135, 3) := by decide +kernel
theorem dX8_end_30 : decode cX8_end 30 = .ok (.istore_n 1, 1) := by decide +kernel
theorem dX8_end_31 : decode cX8_end 31 = .ok (.aload_n 0, 1) := by decide +kernel
theorem dX8_end_32 : decode cX8_end 32 = .ok (.iload_n 1, 1) := by decide +kernel
theorem dX8_end_33 : decode cX8_end 33 = .ok (.invokevirtual 139, 3) := by decide +kernel
theorem dX8_end_36 : decode cX8_end 36 = .ok (.iload_n 1, 1) := by decide +kernel
theorem dX8_end_37 : decode cX8_end 37 = .ok (.ireturn, 1) := by decide +kernel
theorem dX8_seed_0 : decode cX8_seed 0 = .ok (.aload_n 0, 1) := by decide +kernel
theorem dX8_seed_1 : decode cX8_seed 1 = .ok (.iload_n 1, 1) := by decide +kernel
theorem dX8_seed_2 : decode cX8_seed 2 = .ok (.ifCond .ge 7, 3) := by decide +kernel
theorem dX8_seed_5 : decode cX8_seed 5 = .ok (.iconst 1, 1) := by decide +kernel
theorem dX8_seed_6 : decode cX8_seed 6 = .ok (.goto 4, 3) := by decide +kernel
theorem dX8_seed_9 : decode cX8_seed 9 = .ok (.iconst 0, 1) := by decide +kernel
theorem dX8_seed_10 : decode cX8_seed 10 = .ok (.putfield 81, 3) := by decide +kernel
theorem dX8_seed_13 : decode cX8_seed 13 = .ok (.aload_n 0, 1) := by decide +kernel
theorem dX8_seed_14 : decode cX8_seed 14 = .ok (.iload_n 1, 1) := by decide +kernel
theorem dX8_seed_15 : decode cX8_seed 15 = .ok (.ifCond .ge 10, 3) := by decide +kernel
theorem dX8_seed_18 : decode cX8_seed 18 = .ok (.aload_n 0, 1) := by decide +kernel
theorem dX8_seed_19 : decode cX8_seed 19 = .ok (.getfield 161, 3) := by decide +kernel
theorem dX8_seed_22 : decode cX8_seed 22 = .ok (.goto 5, 3) := by decide +kernel
theorem dX8_seed_25 : decode cX8_seed 25 = .ok (.iload_n 1, 1) := by decide +kernel
theorem dX8_seed_26 : decode cX8_seed 26 = .ok (.i2l, 1) := by decide +kernel
theorem dX8_seed_27 : decode cX8_seed 27 = .ok (.putfield 161, 3) := by decide +kernel
theorem dX8_seed_30 : decode cX8_seed 30 = .ok (.return_, 1) := by decide +kernel
theorem dX8_many_0 : decode cX8_many 0 = .ok (.iconst 0, 1) := by decide +kernel
theorem dX8_many_1 : decode cX8_many 1 = .ok (.istore_n 1, 1) := by decide +kernel
theorem dX8_many_2 : decode cX8_many 2 = .ok (.iconst 0, 1) := by decide +kernel
theorem dX8_many_3 : decode cX8_many 3 = .ok (.istore_n 2, 1) := by decide +kernel
theorem dX8_many_4 : decode cX8_many 4 = .ok (.iload_n 2, 1) := by decide +kernel
theorem dX8_many_5 : decode cX8_many 5 = .ok (.bipush 32, 2) := by decide +kernel
theorem dX8_many_7 : decode cX8_many 7 = .ok (.if_icmp .ge 17, 3) := by decide +kernel
theorem dX8_many_10 : decode cX8_many 10 = .ok (.iload_n 1, 1) := by decide +kernel
theorem dX8_many_11 : decode cX8_many 11 = .ok (.iload_n 0, 1) := by decide +kernel
theorem dX8_many_12 : decode cX8_many 12 = .ok (.iload_n 2, 1) := by decide +kernel
theorem dX8_many_13 : decode cX8_many 13 = .ok (.ishr, 1) := by decide +kernel
theorem dX8_many_14 : decode cX8_many 14 = .ok (.iconst 1, 1) := by decide +kernel
theorem dX8_many_15 : decode cX8_many 15 = .ok (.iand, 1) := by decide +kernel
theorem dX8_many_16 : decode cX8_many 16 = .ok (.iadd, 1) := by decide +kernel
theorem dX8_many_17 : decode cX8_many 17 = .ok (.istore_n 1, 1) := by decide +kernel
theorem dX8_many_18 : decode cX8_many 18 = .ok (.iinc 2 1, 3) := by decide +kernel
theorem dX8_many_21 : decode cX8_many 21 = .ok (.goto (-17), 3) := by decide +kernel
theorem dX8_many_24 : decode cX8_many 24 = .ok (.iload_n 1, 1) := by decide +kernel
theorem dX8_many_25 : decode cX8_many 25 = .ok (.ireturn, 1) := by decide +kernel
theorem dX8_pool_0 : decode cX8_pool 0 = .ok (.aload_n 0, 1) := by decide +kernel
theorem dX8_pool_1 : decode cX8_pool 1 = .ok (.iload_n 1, 1) := by decide +kernel
theorem dX8_pool_2 : decode cX8_pool 2 = .ok (.ifCond .lt 21, 3) := by decide +kernel
theorem dX8_pool_5 : decode cX8_pool 5 = .ok (.iload_n 1, 1) := by decide +kernel
theorem dX8_pool_6 : decode cX8_pool 6 = .ok (.iconst 1, 1) := by decide +kernel
theorem dX8_pool_7 : decode cX8_pool 7 = .ok (.aload_n 0, 1) := by decide +kernel
theorem dX8_pool_8 : decode cX8_pool 8 = .ok (.getfield 84, 3) := by decide +kernel
theorem dX8_pool_11 : decode cX8_pool 11 = .ok (.ishl, 1) := by decide +kernel
theorem dX8_pool_12 : decode cX8_pool 12 = .ok (.if_icmp .ge 11, 3) := by decide +kernel
theorem dX8_pool_15 : decode cX8_pool 15 = .ok (.iload_n 1, 1) := by decide +kernel
theorem dX8_pool_16 : decode cX8_pool 16 = .ok (.invokestatic 176, 3) := by decide +kernel
theorem dX8_pool_19 : decode cX8_pool 19 = .ok (.iconst 2, 1) := by decide +kernel
theorem dX8_pool_20 : decode cX8_pool 20 = .ok (.if_icmp .ge 7, 3) := by decide +kernel
theorem dX8_pool_23 : decode cX8_pool 23 = .ok (.iconst 1, 1) := by decide +kernel
theorem dX8_pool_24 : decode cX8_pool 24 = .ok (.goto 17, 3) := by decide +kernel
theorem dX8_pool_27 : decode cX8_pool 27 = .ok (.aload_n 0, 1) := by decide +kernel
theorem dX8_pool_28 : decode cX8_pool 28 = .ok (.getfield 91, 3) := by decide +kernel
theorem dX8_pool_31 : decode cX8_pool 31 = .ok (.bipush 6, 2) := by decide +kernel
theorem dX8_pool_33 : decode cX8_pool 33 = .ok (.if_icmp .ne 7, 3) := by decide +kernel
theorem dX8_pool_36 : decode cX8_pool 36 = .ok (.iconst 2, 1) := by decide +kernel
theorem dX8_pool_37 : decode cX8_pool 37 = .ok (.goto 4, 3) := by decide +kernel
theorem dX8_pool_40 : decode cX8_pool 40 = .ok (.iconst 0, 1) := by decide +kernel
theorem dX8_pool_41 : decode cX8_pool 41 = .ok (.putfield 81, 3) := by decide +kernel
theorem dX8_pool_44 : decode cX8_pool 44 = .ok (.aload_n 0, 1) := by decide +kernel
theorem dX8_pool_45 : decode cX8_pool 45 = .ok (.getfield 81, 3) := by decide +kernel
theorem dX8_pool_48 : decode cX8_pool 48 = .ok (.ifCond .le 5, 3) := by decide +kernel
theorem dX8_pool_51 : decode cX8_pool 51 = .ok (.iconst 0, 1) := by decide +kernel
theorem dX8_pool_52 : decode cX8_pool 52 = .ok (.ireturn, 1) := by decide +kernel
theorem dX8_pool_53 : decode cX8_pool 53 = .ok (.aload_n 0, 1) := by decide +kernel
theorem dX8_pool_54 : decode cX8_pool 54 = .ok (.getfield 66, 3) := by decide +kernel
theorem dX8_pool_57 : decode cX8_pool 57 = .ok (.aload_n 0, 1) := by decide +kernel
theorem dX8_pool_58 : decode cX8_pool 58 = .ok (.getfield 91, 3) := by decide +kernel
theorem dX8_pool_61 : decode cX8_pool 61 = .ok (.iload_n 1, 1) := by decide +kernel
theorem dX8_pool_62 : decode cX8_pool 62 = .ok (.iastore, 1) := by decide +kernel
theorem dX8_pool_63 : decode cX8_pool 63 = .ok (.aload_n 0, 1) := by decide +kernel
theorem dX8_pool_64 : decode cX8_pool 64 = .ok (.dup, 1) := by decide +kernel
theorem dX8_pool_65 : decode cX8_pool 65 = .ok (.getfield 91, 3) := by decide +kernel
theorem dX8_pool_68 : decode cX8_pool 68 = .ok (.iconst 1, 1) := by decide +kernel
theorem dX8_pool_69 : decode cX8_pool 69 = .ok (.iadd, 1) := by decide +kernel
theorem dX8_pool_70 : decode cX8_pool 70 = .ok (.putfield 91, 3) := by decide +kernel
theorem dX8_pool_73 : decode cX8_pool 73 = .ok (.aload_n 0, 1) := by decide +kernel
theorem dX8_pool_74 : decode cX8_pool 74 = .ok (.getfield 91, 3) := by decide +kernel
theorem dX8_pool_77 : decode cX8_pool 77 = .ok (.iconst 1, 1) := by decide +kernel
theorem dX8_pool_78 : decode cX8_pool 78 = .ok (.isub, 1) := by decide +kernel
theorem dX8_pool_79 : decode cX8_pool 79 = .ok (.ireturn, 1) := by decide +kernel
theorem dX8_isMember_0 : decode cX8_isMember 0 = .ok (.aload_n 0, 1) := by decide +kernel
theorem dX8_isMember_1 : decode cX8_isMember 1 = .ok (.iload_n 1, 1) := by decide +kernel
theorem dX8_isMember_2 : decode cX8_isMember 2 = .ok (.invokevirtual 98, 3) := by decide +kernel
theorem dX8_isMember_5 : decode cX8_isMember 5 = .ok (.ifCond .eq 28, 3) := by decide +kernel
theorem dX8_isMember_8 : decode cX8_isMember 8 = .ok (.aload_n 0, 1) := by decide +kernel
theorem dX8_isMember_9 : decode cX8_isMember 9 = .ok (.iload_n 2, 1) := by decide +kernel
theorem dX8_isMember_10 : decode cX8_isMember 10 = .ok (.invokevirtual 94, 3) := by decide +kernel
theorem dX8_isMember_13 : decode cX8_isMember 13 = .ok (.ifCond .eq 20, 3) := by decide +kernel
theorem dX8_isMember_16 : decode cX8_isMember 16 = .ok (.aload_n 0, 1) := by decide +kernel
theorem dX8_isMember_17 : decode cX8_isMember 17 = .ok (.getfield 66, 3) := by decide +kernel
theorem dX8_isMember_20 : decode cX8_isMember 20 = .ok (.iload_n 1, 1) := by decide +kernel
theorem dX8_isMember_21 : decode cX8_isMember 21 = .ok (.iaload, 1) := by decide +kernel
theorem dX8_isMember_22 : decode cX8_isMember 22 = .ok (.iload_n 2, 1) := by decide +kernel
theorem dX8_isMember_23 : decode cX8_isMember 23 = .ok (.invokestatic 101, 3) := by decide +kernel
theorem dX8_isMember_26 : decode cX8_isMember 26 = .ok (.ifCond .eq 7, 3) := by decide +kernel
theorem dX8_isMember_29 : decode cX8_isMember 29 = .ok (.iconst 1, 1) := by decide +kernel
theorem dX8_isMember_30 : decode cX8_isMember 30 = .ok (.goto 4, 3) := by decide +kernel
theorem dX8_isMember_33 : decode cX8_isMember 33 = .ok (.iconst 0, 1) := by decide +kernel
theorem dX8_isMember_34 : decode cX8_isMember 34 = .ok (.ireturn, 1) := by decide +kernel
theorem dX8_sideIn_0 : decode cX8_sideIn 0 = .ok (.aload_n 0, 1) := by decide +kernel
theorem dX8_sideIn_1 : decode cX8_sideIn 1 = .ok (.getfield 16, 3) := by decide +kernel
theorem dX8_sideIn_4 : decode cX8_sideIn 4 = .ok (.iconst 2, 1) := by decide +kernel
theorem dX8_sideIn_5 : decode cX8_sideIn 5 = .ok (.iload_n 1, 1) := by decide +kernel
theorem dX8_sideIn_6 : decode cX8_sideIn 6 = .ok (.imul, 1) := by decide +kernel
theorem dX8_sideIn_7 : decode cX8_sideIn 7 = .ok (.iaload, 1) := by decide +kernel
theorem dX8_sideIn_8 : decode cX8_sideIn 8 = .ok (.istore 4, 2) := by decide +kernel
theorem dX8_sideIn_10 : decode cX8_sideIn 10 = .ok (.aload_n 0, 1) := by decide +kernel
theorem dX8_sideIn_11 : decode cX8_sideIn 11 = .ok (.getfield 16, 3) := by decide +kernel
theorem dX8_sideIn_14 : decode cX8_sideIn 14 = .ok (.iconst 2, 1) := by decide +kernel
theorem dX8_sideIn_15 : decode cX8_sideIn 15 = .ok (.iload_n 1, 1) := by decide +kernel
theorem dX8_sideIn_16 : decode cX8_sideIn 16 = .ok (.imul, 1) := by decide +kernel
theorem dX8_sideIn_17 : decode cX8_sideIn 17 = .ok (.iconst 1, 1) := by decide +kernel
theorem dX8_sideIn_18 : decode cX8_sideIn 18 = .ok (.iadd, 1) := by decide +kernel
theorem dX8_sideIn_19 : decode cX8_sideIn 19 = .ok (.iaload, 1) := by decide +kernel
theorem dX8_sideIn_20 : decode cX8_sideIn 20 = .ok (.istore 5, 2) := by decide +kernel
theorem dX8_sideIn_22 : decode cX8_sideIn 22 = .ok (.aload_n 0, 1) := by decide +kernel
theorem dX8_sideIn_23 : decode cX8_sideIn 23 = .ok (.getfield 29, 3) := by decide +kernel
theorem dX8_sideIn_26 : decode cX8_sideIn 26 = .ok (.iload_n 1, 1) := by decide +kernel
theorem dX8_sideIn_27 : decode cX8_sideIn 27 = .ok (.iaload, 1) := by decide +kernel
theorem dX8_sideIn_28 : decode cX8_sideIn 28 = .ok (.iload_n 2, 1) := by decide +kernel
theorem dX8_sideIn_29 : decode cX8_sideIn 29 = .ok (.if_icmp .ne 45, 3) := by decide +kernel
theorem dX8_sideIn_32 : decode cX8_sideIn 32 = .ok (.aload_n 0, 1) := by decide +kernel
theorem dX8_sideIn_33 : decode cX8_sideIn 33 = .ok (.getfield 32, 3) := by decide +kernel
theorem dX8_sideIn_36 : decode cX8_sideIn 36 = .ok (.iload_n 1, 1) := by decide +kernel
theorem dX8_sideIn_37 : decode cX8_sideIn 37 = .ok (.iaload, 1) := by decide +kernel
theorem dX8_sideIn_38 : decode cX8_sideIn 38 = .ok (.iconst (-1), 1) := by decide +kernel
theorem dX8_sideIn_39 : decode cX8_sideIn 39 = .ok (.if_icmp .eq 35, 3) := by decide +kernel
theorem dX8_sideIn_42 : decode cX8_sideIn 42 = .ok (.aload_n 0, 1) := by decide +kernel
theorem dX8_sideIn_43 : decode cX8_sideIn 43 = .ok (.getfield 69, 3) := by decide +kernel
theorem dX8_sideIn_46 : decode cX8_sideIn 46 = .ok (.iload_n 2, 1) := by decide +kernel
theorem dX8_sideIn_47 : decode cX8_sideIn 47 = .ok (.iaload, 1) := by decide +kernel
theorem dX8_sideIn_48 : decode cX8_sideIn 48 = .ok (.iload 4, 2) := by decide +kernel
theorem dX8_sideIn_50 : decode cX8_sideIn 50 = .ok (.invokestatic 101, 3) := by decide +kernel
theorem dX8_sideIn_53 : decode cX8_sideIn 53 = .ok (.ifCond .ne 21, 3) := by decide +kernel
theorem dX8_sideIn_56 : decode cX8_sideIn 56 = .ok (.aload_n 0, 1) := by decide +kernel
theorem dX8_sideIn_57 : decode cX8_sideIn 57 = .ok (.getfield 69, 3) := by decide +kernel
theorem dX8_sideIn_60 : decode cX8_sideIn 60 = .ok (.iload_n 2, 1) := by decide +kernel
theorem dX8_sideIn_61 : decode cX8_sideIn 61 = .ok (.iaload, 1) := by decide +kernel
theorem dX8_sideIn_62 : decode cX8_sideIn 62 = .ok (.iload 5, 2) := by decide +kernel
theorem dX8_sideIn_64 : decode cX8_sideIn 64 = .ok (.invokestatic 101, 3) := by decide +kernel
theorem dX8_sideIn_67 : decode cX8_sideIn 67 = .ok (.ifCond .ne 7, 3) := by decide +kernel
theorem dX8_sideIn_70 : decode cX8_sideIn 70 = .ok (.iconst 1, 1) := by decide +kernel
theorem dX8_sideIn_71 : decode cX8_sideIn 71 = .ok (.goto 4, 3) := by decide +kernel
theorem dX8_sideIn_74 : decode cX8_sideIn 74 = .ok (.iconst 0, 1) := by decide +kernel
theorem dX8_sideIn_75 : decode cX8_sideIn 75 = .ok (.istore 6, 2) := by decide +kernel
theorem dX8_sideIn_77 : decode cX8_sideIn 77 = .ok (.iload 6, 2) := by decide +kernel
theorem dX8_sideIn_79 : decode cX8_sideIn 79 = .ok (.ifCond .ne 7, 3) := by decide +kernel
theorem dX8_sideIn_82 : decode cX8_sideIn 82 = .ok (.iconst (-1), 1) := by decide +kernel
theorem dX8_sideIn_83 : decode cX8_sideIn 83 = .ok (.goto 24, 3) := by decide +kernel
theorem dX8_sideIn_86 : decode cX8_sideIn 86 = .ok (.iload 4, 2) := by decide +kernel
theorem dX8_sideIn_88 : decode cX8_sideIn 88 = .ok (.iload_n 3, 1) := by decide +kernel
theorem dX8_sideIn_89 : decode cX8_sideIn 89 = .ok (.if_icmp .ne 7, 3) := by decide +kernel
theorem dX8_sideIn_92 : decode cX8_sideIn 92 = .ok (.iconst 0, 1) := by decide +kernel
theorem dX8_sideIn_93 : decode cX8_sideIn 93 = .ok (.goto 14, 3) := by decide +kernel
theorem dX8_sideIn_96 : decode cX8_sideIn 96 = .ok (.iload 5, 2) := by decide +kernel
theorem dX8_sideIn_98 : decode cX8_sideIn 98 = .ok (.iload_n 3, 1) := by decide +kernel
theorem dX8_sideIn_99 : decode cX8_sideIn 99 = .ok (.if_icmp .ne 7, 3) := by decide +kernel
theorem dX8_sideIn_102 : decode cX8_sideIn 102 = .ok (.iconst 1, 1) := by decide +kernel
theorem dX8_sideIn_103 : decode cX8_sideIn 103 = .ok (.goto 4, 3) := by decide +kernel
theorem dX8_sideIn_106 : decode cX8_sideIn 106 = .ok (.iconst (-1), 1) := by decide +kernel
theorem dX8_sideIn_107 : decode cX8_sideIn 107 = .ok (.ireturn, 1) := by decide +kernel
theorem dX8_tells_0 : decode cX8_tells 0 = .ok (.iconst 0, 1) := by decide +kernel
theorem dX8_tells_1 : decode cX8_tells 1 = .ok (.istore 4, 2) := by decide +kernel
theorem dX8_tells_3 : decode cX8_tells 3 = .ok (.iconst 0, 1) := by decide +kernel
theorem dX8_tells_4 : decode cX8_tells 4 = .ok (.istore 5, 2) := by decide +kernel
theorem dX8_tells_6 : decode cX8_tells 6 = .ok (.iload 5, 2) := by decide +kernel
theorem dX8_tells_8 : decode cX8_tells 8 = .ok (.aload_n 0, 1) := by decide +kernel
theorem dX8_tells_9 : decode cX8_tells 9 = .ok (.getfield 105, 3) := by decide +kernel
theorem dX8_tells_12 : decode cX8_tells 12 = .ok (.if_icmp .ge 87, 3) := by decide +kernel
theorem dX8_tells_15 : decode cX8_tells 15 = .ok (.aload_n 0, 1) := by decide +kernel
theorem dX8_tells_16 : decode cX8_tells 16 = .ok (.iload 5, 2) := by decide +kernel
theorem dX8_tells_18 : decode cX8_tells 18 = .ok (.iload_n 1, 1) := by decide +kernel
theorem dX8_tells_19 : decode cX8_tells 19 = .ok (.iload_n 2, 1) := by decide +kernel
theorem dX8_tells_20 : decode cX8_tells 20 = .ok (.invokevirtual 179, 3) := by decide +kernel
theorem dX8_tells_23 : decode cX8_tells 23 = .ok (.istore 6, 2) := by decide +kernel
theorem dX8_tells_25 : decode cX8_tells 25 = .ok (.iload 6, 2) := by decide +kernel
theorem dX8_tells_27 : decode cX8_tells 27 = .ok (.iconst (-1), 1) := by decide +kernel
theorem dX8_tells_28 : decode cX8_tells 28 = .ok (.if_icmp .eq 65, 3) := by decide +kernel
theorem dX8_tells_31 : decode cX8_tells 31 = .ok (.iload 4, 2) := by decide +kernel
theorem dX8_tells_33 : decode cX8_tells 33 = .ok (.iload_n 3, 1) := by decide +kernel
theorem dX8_tells_34 : decode cX8_tells 34 = .ok (.ifCond .ne 7, 3) := by decide +kernel
theorem dX8_tells_37 : decode cX8_tells 37 = .ok (.iconst 1, 1) := by decide +kernel
theorem dX8_tells_38 : decode cX8_tells 38 = .ok (.goto 52, 3) := by decide +kernel
theorem dX8_tells_41 : decode cX8_tells 41 = .ok (.iload_n 3, 1) := by decide +kernel
theorem dX8_tells_42 : decode cX8_tells 42 = .ok (.iconst 1, 1) := by decide +kernel
theorem dX8_tells_43 : decode cX8_tells 43 = .ok (.if_icmp .ne 23, 3) := by decide +kernel
theorem dX8_tells_46 : decode cX8_tells 46 = .ok (.aload_n 0, 1) := by decide +kernel
theorem dX8_tells_47 : decode cX8_tells 47 = .ok (.getfield 32, 3) := by decide +kernel
theorem dX8_tells_50 : decode cX8_tells 50 = .ok (.iload 5, 2) := by decide +kernel
theorem dX8_tells_52 : decode cX8_tells 52 = .ok (.iaload, 1) := by decide +kernel
theorem dX8_tells_53 : decode cX8_tells 53 = .ok (.iload 6, 2) := by decide +kernel
theorem dX8_tells_55 : decode cX8_tells 55 = .ok (.if_icmp .ne 7, 3) := by decide +kernel
theorem dX8_tells_58 : decode cX8_tells 58 = .ok (.iconst 1, 1) := by decide +kernel
theorem dX8_tells_59 : decode cX8_tells 59 = .ok (.goto 31, 3) := by decide +kernel
theorem dX8_tells_62 : decode cX8_tells 62 = .ok (.iconst 0, 1) := by decide +kernel
theorem dX8_tells_63 : decode cX8_tells 63 = .ok (.goto 27, 3) := by decide +kernel
theorem dX8_tells_66 : decode cX8_tells 66 = .ok (.aload_n 0, 1) := by decide +kernel
theorem dX8_tells_67 : decode cX8_tells 67 = .ok (.getfield 20, 3) := by decide +kernel
theorem dX8_tells_70 : decode cX8_tells 70 = .ok (.iconst 2, 1) := by decide +kernel
theorem dX8_tells_71 : decode cX8_tells 71 = .ok (.iload 5, 2) := by decide +kernel
theorem dX8_tells_73 : decode cX8_tells 73 = .ok (.imul, 1) := by decide +kernel
theorem dX8_tells_74 : decode cX8_tells 74 = .ok (.iload_n 3, 1) := by decide +kernel
theorem dX8_tells_75 : decode cX8_tells 75 = .ok (.iconst 2, 1) := by decide +kernel
theorem dX8_tells_76 : decode cX8_tells 76 = .ok (.if_icmp .ne 8, 3) := by decide +kernel
theorem dX8_tells_79 : decode cX8_tells 79 = .ok (.iload 6, 2) := by decide +kernel
theorem dX8_tells_81 : decode cX8_tells 81 = .ok (.goto 7, 3) := by decide +kernel
theorem dX8_tells_84 : decode cX8_tells 84 = .ok (.iconst 1, 1) := by decide +kernel
theorem dX8_tells_85 : decode cX8_tells 85 = .ok (.iload 6, 2) := by decide +kernel
theorem dX8_tells_87 : decode cX8_tells 87 = .ok (.isub, 1) := by decide +kernel
theorem dX8_tells_88 : decode cX8_tells 88 = .ok (.iadd, 1) := by decide +kernel
theorem dX8_tells_89 : decode cX8_tells 89 = .ok (.iaload, 1) := by decide +kernel
theorem dX8_tells_90 : decode cX8_tells 90 = .ok (.iadd, 1) := by decide +kernel
theorem dX8_tells_91 : decode cX8_tells 91 = .ok (.istore 4, 2) := by decide +kernel
theorem dX8_tells_93 : decode cX8_tells 93 = .ok (.iinc 5 1, 3) := by decide +kernel
theorem dX8_tells_96 : decode cX8_tells 96 = .ok (.goto (-90), 3) := by decide +kernel
theorem dX8_tells_99 : decode cX8_tells 99 = .ok (.iload 4, 2) := by decide +kernel
theorem dX8_tells_101 : decode cX8_tells 101 = .ok (.ireturn, 1) := by decide +kernel
theorem dX8_withdraw_0 : decode cX8_withdraw 0 = .ok (.aload_n 0, 1) := by decide +kernel
theorem dX8_withdraw_1 : decode cX8_withdraw 1 = .ok (.aload_n 0, 1) := by decide +kernel
theorem dX8_withdraw_2 : decode cX8_withdraw 2 = .ok (.iload_n 1, 1) := by decide +kernel
theorem dX8_withdraw_3 : decode cX8_withdraw 3 = .ok (.iload_n 2, 1) := by decide +kernel
theorem dX8_withdraw_4 : decode cX8_withdraw 4 = .ok (.invokevirtual 182, 3) := by decide +kernel
theorem dX8_withdraw_7 : decode cX8_withdraw 7 = .ok (.ifCond .ne 7, 3) := by decide +kernel
theorem dX8_withdraw_10 : decode cX8_withdraw 10 = .ok (.iconst 1, 1) := by decide +kernel
theorem dX8_withdraw_11 : decode cX8_withdraw 11 = .ok (.goto 4, 3) := by decide +kernel
theorem dX8_withdraw_14 : decode cX8_withdraw 14 = .ok (.iconst 0, 1) := by decide +kernel
theorem dX8_withdraw_15 : decode cX8_withdraw 15 = .ok (.putfield 81, 3) := by decide +kernel
theorem dX8_withdraw_18 : decode cX8_withdraw 18 = .ok (.aload_n 0, 1) := by decide +kernel
theorem dX8_withdraw_19 : decode cX8_withdraw 19 = .ok (.getfield 81, 3) := by decide +kernel
theorem dX8_withdraw_22 : decode cX8_withdraw 22 = .ok (.ifCond .le 5, 3) := by decide +kernel
theorem dX8_withdraw_25 : decode cX8_withdraw 25 = .ok (.iconst 0, 1) := by decide +kernel
theorem dX8_withdraw_26 : decode cX8_withdraw 26 = .ok (.ireturn, 1) := by decide +kernel
theorem dX8_withdraw_27 : decode cX8_withdraw 27 = .ok (.aload_n 0, 1) := by decide +kernel
theorem dX8_withdraw_28 : decode cX8_withdraw 28 = .ok (.getfield 13, 3) := by decide +kernel
theorem dX8_withdraw_31 : decode cX8_withdraw 31 = .ok (.iconst (-1), 1) := by decide +kernel
theorem dX8_withdraw_32 : decode cX8_withdraw 32 = .ok (.if_icmp .eq 52, 3) := by decide +kernel
theorem dX8_withdraw_35 : decode cX8_withdraw 35 = .ok (.aload_n 0, 1) := by decide +kernel
theorem dX8_withdraw_36 : decode cX8_withdraw 36 = .ok (.getfield 29, 3) := by decide +kernel
theorem dX8_withdraw_39 : decode cX8_withdraw 39 = .ok (.aload_n 0, 1) := by decide +kernel
theorem dX8_withdraw_40 : decode cX8_withdraw 40 = .ok (.getfield 13, 3) := by decide +kernel
theorem dX8_withdraw_43 : decode cX8_withdraw 43 = .ok (.iaload, 1) := by decide +kernel
theorem dX8_withdraw_44 : decode cX8_withdraw 44 = .ok (.iload_n 1, 1) := by decide +kernel
theorem dX8_withdraw_45 : decode cX8_withdraw 45 = .ok (.if_icmp .ne 39, 3) := by decide +kernel
theorem dX8_withdraw_48 : decode cX8_withdraw 48 = .ok (.aload_n 0, 1) := by decide +kernel
theorem dX8_withdraw_49 : decode cX8_withdraw 49 = .ok (.getfield 16, 3) := by decide +kernel
theorem dX8_withdraw_52 : decode cX8_withdraw 52 = .ok (.iconst 2, 1) := by decide +kernel
theorem dX8_withdraw_53 : decode cX8_withdraw 53 = .ok (.aload_n 0, 1) := by decide +kernel
theorem dX8_withdraw_54 : decode cX8_withdraw 54 = .ok (.getfield 13, 3) := by decide +kernel
theorem dX8_withdraw_57 : decode cX8_withdraw 57 = .ok (.imul, 1) := by decide +kernel
theorem dX8_withdraw_58 : decode cX8_withdraw 58 = .ok (.iaload, 1) := by decide +kernel
theorem dX8_withdraw_59 : decode cX8_withdraw 59 = .ok (.iload_n 2, 1) := by decide +kernel
theorem dX8_withdraw_60 : decode cX8_withdraw 60 = .ok (.if_icmp .eq 20, 3) := by decide +kernel
theorem dX8_withdraw_63 : decode cX8_withdraw 63 = .ok (.aload_n 0, 1) := by decide +kernel
theorem dX8_withdraw_64 : decode cX8_withdraw 64 = .ok (.getfield 16, 3) := by decide +kernel
theorem dX8_withdraw_67 : decode cX8_withdraw 67 = .ok (.iconst 2, 1) := by decide +kernel
theorem dX8_withdraw_68 : decode cX8_withdraw 68 = .ok (.aload_n 0, 1) := by decide +kernel
theorem dX8_withdraw_69 : decode cX8_withdraw 69 = .ok (.getfield 13, 3) := by decide +kernel
theorem dX8_withdraw_72 : decode cX8_withdraw 72 = .ok (.imul, 1) := by decide +kernel
theorem dX8_withdraw_73 : decode cX8_withdraw 73 = .ok (.iconst 1, 1) := by decide +kernel
theorem dX8_withdraw_74 : decode cX8_withdraw 74 = .ok (.iadd, 1) := by decide +kernel
theorem dX8_withdraw_75 : decode cX8_withdraw 75 = .ok (.iaload, 1) := by decide +kernel
theorem dX8_withdraw_76 : decode cX8_withdraw 76 = .ok (.iload_n 2, 1) := by decide +kernel
theorem dX8_withdraw_77 : decode cX8_withdraw 77 = .ok (.if_icmp .ne 7, 3) := by decide +kernel
theorem dX8_withdraw_80 : decode cX8_withdraw 80 = .ok (.iconst 1, 1) := by decide +kernel
theorem dX8_withdraw_81 : decode cX8_withdraw 81 = .ok (.goto 4, 3) := by decide +kernel
theorem dX8_withdraw_84 : decode cX8_withdraw 84 = .ok (.iconst 0, 1) := by decide +kernel
theorem dX8_withdraw_85 : decode cX8_withdraw 85 = .ok (.istore_n 3, 1) := by decide +kernel
theorem dX8_withdraw_86 : decode cX8_withdraw 86 = .ok (.aload_n 0, 1) := by decide +kernel
theorem dX8_withdraw_87 : decode cX8_withdraw 87 = .ok (.iload_n 3, 1) := by decide +kernel
theorem dX8_withdraw_88 : decode cX8_withdraw 88 = .ok (.ifCond .ne 16, 3) := by decide +kernel
theorem dX8_withdraw_91 : decode cX8_withdraw 91 = .ok (.aload_n 0, 1) := by decide +kernel
theorem dX8_withdraw_92 : decode cX8_withdraw 92 = .ok (.getfield 69, 3) := by decide +kernel
theorem dX8_withdraw_95 : decode cX8_withdraw 95 = .ok (.iload_n 1, 1) := by decide +kernel
theorem dX8_withdraw_96 : decode cX8_withdraw 96 = .ok (.iaload, 1) := by decide +kernel
theorem dX8_withdraw_97 : decode cX8_withdraw 97 = .ok (.iload_n 2, 1) := by decide +kernel
theorem dX8_withdraw_98 : decode cX8_withdraw 98 = .ok (.invokestatic 101, 3) := by decide +kernel
theorem dX8_withdraw_101 : decode cX8_withdraw 101 = .ok (.ifCond .eq 7, 3) := by decide +kernel
theorem dX8_withdraw_104 : decode cX8_withdraw 104 = .ok (.iconst 2, 1) := by decide +kernel
theorem dX8_withdraw_105 : decode cX8_withdraw 105 = .ok (.goto 4, 3) := by decide +kernel
theorem dX8_withdraw_108 : decode cX8_withdraw 108 = .ok (.iconst 0, 1) := by decide +kernel
theorem dX8_withdraw_109 : decode cX8_withdraw 109 = .ok (.putfield 81, 3) := by decide +kernel
theorem dX8_withdraw_112 : decode cX8_withdraw 112 = .ok (.aload_n 0, 1) := by decide +kernel
theorem dX8_withdraw_113 : decode cX8_withdraw 113 = .ok (.getfield 81, 3) := by decide +kernel
theorem dX8_withdraw_116 : decode cX8_withdraw 116 = .ok (.ifCond .le 5, 3) := by decide +kernel
theorem dX8_withdraw_119 : decode cX8_withdraw 119 = .ok (.iconst 0, 1) := by decide +kernel
theorem dX8_withdraw_120 : decode cX8_withdraw 120 = .ok (.ireturn, 1) := by decide +kernel
theorem dX8_withdraw_121 : decode cX8_withdraw 121 = .ok (.aload_n 0, 1) := by decide +kernel
theorem dX8_withdraw_122 : decode cX8_withdraw 122 = .ok (.iload_n 1, 1) := by decide +kernel
theorem dX8_withdraw_123 : decode cX8_withdraw 123 = .ok (.iload_n 2, 1) := by decide +kernel
theorem dX8_withdraw_124 : decode cX8_withdraw 124 = .ok (.iconst 0, 1) := by decide +kernel
theorem dX8_withdraw_125 : decode cX8_withdraw 125 = .ok (.invokevirtual 185, 3) := by decide +kernel
theorem dX8_withdraw_128 : decode cX8_withdraw 128 = .ok (.istore 4, 2) := by decide +kernel
theorem dX8_withdraw_130 : decode cX8_withdraw 130 = .ok (.aload_n 0, 1) := by decide +kernel
theorem dX8_withdraw_131 : decode cX8_withdraw 131 = .ok (.getfield 69, 3) := by decide +kernel
theorem dX8_withdraw_134 : decode cX8_withdraw 134 = .ok (.iload_n 1, 1) := by decide +kernel
theorem dX8_withdraw_135 : decode cX8_withdraw 135 = .ok (.dup2, 1) := by decide +kernel
theorem dX8_withdraw_136 : decode cX8_withdraw 136 = .ok (.iaload, 1) := by decide +kernel
theorem dX8_withdraw_137 : decode cX8_withdraw 137 = .ok (.iconst 1, 1) := by decide +kernel
theorem dX8_withdraw_138 : decode cX8_withdraw 138 = .ok (.iload_n 2, 1) := by decide +kernel
theorem dX8_withdraw_139 : decode cX8_withdraw 139 = .ok (.ishl, 1) := by decide +kernel
theorem dX8_withdraw_140 : decode cX8_withdraw 140 = .ok (.ior, 1) := by decide +kernel
theorem dX8_withdraw_141 : decode cX8_withdraw 141 = .ok (.iastore, 1) := by decide +kernel
theorem dX8_withdraw_142 : decode cX8_withdraw 142 = .ok (.iload 4, 2) := by decide +kernel
theorem dX8_withdraw_144 : decode cX8_withdraw 144 = .ok (.ireturn, 1) := by decide +kernel
theorem dX8_isBetter_0 : decode cX8_isBetter 0 = .ok (.aload_n 0, 1) := by decide +kernel
theorem dX8_isBetter_1 : decode cX8_isBetter 1 = .ok (.iload_n 1, 1) := by decide +kernel
theorem dX8_isBetter_2 : decode cX8_isBetter 2 = .ok (.iload_n 2, 1) := by decide +kernel
theorem dX8_isBetter_3 : decode cX8_isBetter 3 = .ok (.iconst 0, 1) := by decide +kernel
theorem dX8_isBetter_4 : decode cX8_isBetter 4 = .ok (.invokevirtual 185, 3) := by decide +kernel
theorem dX8_isBetter_7 : decode cX8_isBetter 7 = .ok (.istore 4, 2) := by decide +kernel
theorem dX8_isBetter_9 : decode cX8_isBetter 9 = .ok (.aload_n 0, 1) := by decide +kernel
theorem dX8_isBetter_10 : decode cX8_isBetter 10 = .ok (.iload_n 1, 1) := by decide +kernel
theorem dX8_isBetter_11 : decode cX8_isBetter 11 = .ok (.iload_n 3, 1) := by decide +kernel
theorem dX8_isBetter_12 : decode cX8_isBetter 12 = .ok (.iconst 0, 1) := by decide +kernel
theorem dX8_isBetter_13 : decode cX8_isBetter 13 = .ok (.invokevirtual 185, 3) := by decide +kernel
theorem dX8_isBetter_16 : decode cX8_isBetter 16 = .ok (.istore 5, 2) := by decide +kernel
theorem dX8_isBetter_18 : decode cX8_isBetter 18 = .ok (.aload_n 0, 1) := by decide +kernel
theorem dX8_isBetter_19 : decode cX8_isBetter 19 = .ok (.iload_n 1, 1) := by decide +kernel
theorem dX8_isBetter_20 : decode cX8_isBetter 20 = .ok (.iload_n 2, 1) := by decide +kernel
theorem dX8_isBetter_21 : decode cX8_isBetter 21 = .ok (.iconst 1, 1) := by decide +kernel
theorem dX8_isBetter_22 : decode cX8_isBetter 22 = .ok (.invokevirtual 185, 3) := by decide +kernel
theorem dX8_isBetter_25 : decode cX8_isBetter 25 = .ok (.iload 5, 2) := by decide +kernel
theorem dX8_isBetter_27 : decode cX8_isBetter 27 = .ok (.ifCond .ne 7, 3) := by decide +kernel
theorem dX8_isBetter_30 : decode cX8_isBetter 30 = .ok (.iconst 1, 1) := by decide +kernel
theorem dX8_isBetter_31 : decode cX8_isBetter 31 = .ok (.goto 5, 3) := by decide +kernel
theorem dX8_isBetter_34 : decode cX8_isBetter 34 = .ok (.iload 5, 2) := by decide +kernel
theorem dX8_isBetter_36 : decode cX8_isBetter 36 = .ok (.imul, 1) := by decide +kernel
theorem dX8_isBetter_37 : decode cX8_isBetter 37 = .ok (.aload_n 0, 1) := by decide +kernel
theorem dX8_isBetter_38 : decode cX8_isBetter 38 = .ok (.iload_n 1, 1) := by decide +kernel
theorem dX8_isBetter_39 : decode cX8_isBetter 39 = .ok (.iload_n 3, 1) := by decide +kernel
theorem dX8_isBetter_40 : decode cX8_isBetter 40 = .ok (.iconst 1, 1) := by decide +kernel
theorem dX8_isBetter_41 : decode cX8_isBetter 41 = .ok (.invokevirtual 185, 3) := by decide +kernel
theorem dX8_isBetter_44 : decode cX8_isBetter 44 = .ok (.iload 4, 2) := by decide +kernel
theorem dX8_isBetter_46 : decode cX8_isBetter 46 = .ok (.ifCond .ne 7, 3) := by decide +kernel
theorem dX8_isBetter_49 : decode cX8_isBetter 49 = .ok (.iconst 1, 1) := by decide +kernel
theorem dX8_isBetter_50 : decode cX8_isBetter 50 = .ok (.goto 5, 3) := by decide +kernel
theorem dX8_isBetter_53 : decode cX8_isBetter 53 = .ok (.iload 4, 2) := by decide +kernel
theorem dX8_isBetter_55 : decode cX8_isBetter 55 = .ok (.imul, 1) := by decide +kernel
theorem dX8_isBetter_56 : decode cX8_isBetter 56 = .ok (.isub, 1) := by decide +kernel
theorem dX8_isBetter_57 : decode cX8_isBetter 57 = .ok (.istore 6, 2) := by decide +kernel
theorem dX8_isBetter_59 : decode cX8_isBetter 59 = .ok (.iload 6, 2) := by decide +kernel
theorem dX8_isBetter_61 : decode cX8_isBetter 61 = .ok (.ifCond .eq 14, 3) := by decide +kernel
theorem dX8_isBetter_64 : decode cX8_isBetter 64 = .ok (.iload 6, 2) := by decide +kernel
theorem dX8_isBetter_66 : decode cX8_isBetter 66 = .ok (.ifCond .le 7, 3) := by decide +kernel
theorem dX8_isBetter_69 : decode cX8_isBetter 69 = .ok (.iconst 1, 1) := by decide +kernel
theorem dX8_isBetter_70 : decode cX8_isBetter 70 = .ok (.goto 4, 3) := by decide +kernel
theorem dX8_isBetter_73 : decode cX8_isBetter 73 = .ok (.iconst 0, 1) := by decide +kernel
theorem dX8_isBetter_74 : decode cX8_isBetter 74 = .ok (.ireturn, 1) := by decide +kernel
theorem dX8_isBetter_75 : decode cX8_isBetter 75 = .ok (.aload_n 0, 1) := by decide +kernel
theorem dX8_isBetter_76 : decode cX8_isBetter 76 = .ok (.iload_n 1, 1) := by decide +kernel
theorem dX8_isBetter_77 : decode cX8_isBetter 77 = .ok (.iload_n 2, 1) := by decide +kernel
theorem dX8_isBetter_78 : decode cX8_isBetter 78 = .ok (.iconst 2, 1) := by decide +kernel
theorem dX8_isBetter_79 : decode cX8_isBetter 79 = .ok (.invokevirtual 185, 3) := by decide +kernel
theorem dX8_isBetter_82 : decode cX8_isBetter 82 = .ok (.istore 7, 2) := by decide +kernel
theorem dX8_isBetter_84 : decode cX8_isBetter 84 = .ok (.aload_n 0, 1) := by decide +kernel
theorem dX8_isBetter_85 : decode cX8_isBetter 85 = .ok (.iload_n 1, 1) := by decide +kernel
theorem dX8_isBetter_86 : decode cX8_isBetter 86 = .ok (.iload_n 3, 1) := by decide +kernel
theorem dX8_isBetter_87 : decode cX8_isBetter 87 = .ok (.iconst 2, 1) := by decide +kernel
theorem dX8_isBetter_88 : decode cX8_isBetter 88 = .ok (.invokevirtual 185, 3) := by decide +kernel
theorem dX8_isBetter_91 : decode cX8_isBetter 91 = .ok (.istore 8, 2) := by decide +kernel
theorem dX8_isBetter_93 : decode cX8_isBetter 93 = .ok (.iload 7, 2) := by decide +kernel
theorem dX8_isBetter_95 : decode cX8_isBetter 95 = .ok (.aload_n 0, 1) := by decide +kernel
theorem dX8_isBetter_96 : decode cX8_isBetter 96 = .ok (.iload_n 1, 1) := by decide +kernel
theorem dX8_isBetter_97 : decode cX8_isBetter 97 = .ok (.iload_n 2, 1) := by decide +kernel
theorem dX8_isBetter_98 : decode cX8_isBetter 98 = .ok (.iconst 3, 1) := by decide +kernel
theorem dX8_isBetter_99 : decode cX8_isBetter 99 = .ok (.invokevirtual 185, 3) := by decide +kernel
theorem dX8_isBetter_102 : decode cX8_isBetter 102 = .ok (.isub, 1) := by decide +kernel
theorem dX8_isBetter_103 : decode cX8_isBetter 103 = .ok (.iload 8, 2) := by decide +kernel
theorem dX8_isBetter_105 : decode cX8_isBetter 105 = .ok (.isub, 1) := by decide +kernel
theorem dX8_isBetter_106 : decode cX8_isBetter 106 = .ok (.aload_n 0, 1) := by decide +kernel
theorem dX8_isBetter_107 : decode cX8_isBetter 107 = .ok (.iload_n 1, 1) := by decide +kernel
theorem dX8_isBetter_108 : decode cX8_isBetter 108 = .ok (.iload_n 3, 1) := by decide +kernel
theorem dX8_isBetter_109 : decode cX8_isBetter 109 = .ok (.iconst 3, 1) := by decide +kernel
theorem dX8_isBetter_110 : decode cX8_isBetter 110 = .ok (.invokevirtual 185, 3) := by decide +kernel
theorem dX8_isBetter_113 : decode cX8_isBetter 113 = .ok (.iadd, 1) := by decide +kernel
theorem dX8_isBetter_114 : decode cX8_isBetter 114 = .ok (.istore 9, 2) := by decide +kernel
theorem dX8_isBetter_116 : decode cX8_isBetter 116 = .ok (.iload 9, 2) := by decide +kernel
theorem dX8_isBetter_118 : decode cX8_isBetter 118 = .ok (.ifCond .eq 16, 3) := by decide +kernel
theorem dX8_isBetter_121 : decode cX8_isBetter 121 = .ok (.iload 9, 2) := by decide +kernel
theorem dX8_isBetter_123 : decode cX8_isBetter 123 = .ok (.ifCond .le 7, 3) := by decide +kernel
theorem dX8_isBetter_126 : decode cX8_isBetter 126 = .ok (.iconst 1, 1) := by decide +kernel
theorem dX8_isBetter_127 : decode cX8_isBetter 127 = .ok (.goto 39, 3) := by decide +kernel
theorem dX8_isBetter_130 : decode cX8_isBetter 130 = .ok (.iconst 0, 1) := by decide +kernel
theorem dX8_isBetter_131 : decode cX8_isBetter 131 = .ok (.goto 35, 3) := by decide +kernel
theorem dX8_isBetter_134 : decode cX8_isBetter 134 = .ok (.iload 7, 2) := by decide +kernel
theorem dX8_isBetter_136 : decode cX8_isBetter 136 = .ok (.iload 8, 2) := by decide +kernel
theorem dX8_isBetter_138 : decode cX8_isBetter 138 = .ok (.if_icmp .eq 18, 3) := by decide +kernel
theorem dX8_isBetter_141 : decode cX8_isBetter 141 = .ok (.iload 7, 2) := by decide +kernel
theorem dX8_isBetter_143 : decode cX8_isBetter 143 = .ok (.iload 8, 2) := by decide +kernel
theorem dX8_isBetter_145 : decode cX8_isBetter 145 = .ok (.if_icmp .le 7, 3) := by decide +kernel
theorem dX8_isBetter_148 : decode cX8_isBetter 148 = .ok (.iconst 1, 1) := by decide +kernel
theorem dX8_isBetter_149 : decode cX8_isBetter 149 = .ok (.goto 17, 3) := by decide +kernel
theorem dX8_isBetter_152 : decode cX8_isBetter 152 = .ok (.iconst 0, 1) := by decide +kernel
theorem dX8_isBetter_153 : decode cX8_isBetter 153 = .ok (.goto 13, 3) := by decide +kernel
theorem dX8_isBetter_156 : decode cX8_isBetter 156 = .ok (.iload_n 2, 1) := by decide +kernel
theorem dX8_isBetter_157 : decode cX8_isBetter 157 = .ok (.iload_n 3, 1) := by decide +kernel
theorem dX8_isBetter_158 : decode cX8_isBetter 158 = .ok (.if_icmp .ge 7, 3) := by decide +kernel
theorem dX8_isBetter_161 : decode cX8_isBetter 161 = .ok (.iconst 1, 1) := by decide +kernel
theorem dX8_isBetter_162 : decode cX8_isBetter 162 = .ok (.goto 4, 3) := by decide +kernel
theorem dX8_isBetter_165 : decode cX8_isBetter 165 = .ok (.iconst 0, 1) := by decide +kernel
theorem dX8_isBetter_166 : decode cX8_isBetter 166 = .ok (.ireturn, 1) := by decide +kernel
theorem dX8_ranks_0 : decode cX8_ranks 0 = .ok (.iconst 0, 1) := by decide +kernel
theorem dX8_ranks_1 : decode cX8_ranks 1 = .ok (.istore_n 2, 1) := by decide +kernel
theorem dX8_ranks_2 : decode cX8_ranks 2 = .ok (.iconst 0, 1) := by decide +kernel
theorem dX8_ranks_3 : decode cX8_ranks 3 = .ok (.istore_n 3, 1) := by decide +kernel
theorem dX8_ranks_4 : decode cX8_ranks 4 = .ok (.iload_n 3, 1) := by decide +kernel
theorem dX8_ranks_5 : decode cX8_ranks 5 = .ok (.aload_n 0, 1) := by decide +kernel
theorem dX8_ranks_6 : decode cX8_ranks 6 = .ok (.getfield 84, 3) := by decide +kernel
theorem dX8_ranks_9 : decode cX8_ranks 9 = .ok (.if_icmp .ge 90, 3) := by decide +kernel
theorem dX8_ranks_12 : decode cX8_ranks 12 = .ok (.aload_n 0, 1) := by decide +kernel
theorem dX8_ranks_13 : decode cX8_ranks 13 = .ok (.getfield 66, 3) := by decide +kernel
theorem dX8_ranks_16 : decode cX8_ranks 16 = .ok (.iload_n 1, 1) := by decide +kernel
theorem dX8_ranks_17 : decode cX8_ranks 17 = .ok (.iaload, 1) := by decide +kernel
theorem dX8_ranks_18 : decode cX8_ranks 18 = .ok (.aload_n 0, 1) := by decide +kernel
theorem dX8_ranks_19 : decode cX8_ranks 19 = .ok (.getfield 69, 3) := by decide +kernel
theorem dX8_ranks_22 : decode cX8_ranks 22 = .ok (.iload_n 1, 1) := by decide +kernel
theorem dX8_ranks_23 : decode cX8_ranks 23 = .ok (.iaload, 1) := by decide +kernel
theorem dX8_ranks_24 : decode cX8_ranks 24 = .ok (.iconst (-1), 1) := by decide +kernel
theorem dX8_ranks_25 : decode cX8_ranks 25 = .ok (.ixor, 1) := by decide +kernel
theorem dX8_ranks_26 : decode cX8_ranks 26 = .ok (.iand, 1) := by decide +kernel
theorem dX8_ranks_27 : decode cX8_ranks 27 = .ok (.iload_n 3, 1) := by decide +kernel
theorem dX8_ranks_28 : decode cX8_ranks 28 = .ok (.invokestatic 101, 3) := by decide +kernel
theorem dX8_ranks_31 : decode cX8_ranks 31 = .ok (.ifCond .eq 62, 3) := by decide +kernel
theorem dX8_ranks_34 : decode cX8_ranks 34 = .ok (.iload_n 2, 1) := by decide +kernel
theorem dX8_ranks_35 : decode cX8_ranks 35 = .ok (.istore 4, 2) := by decide +kernel
theorem dX8_ranks_37 : decode cX8_ranks 37 = .ok (.iload 4, 2) := by decide +kernel
theorem dX8_ranks_39 : decode cX8_ranks 39 = .ok (.ifCond .le 43, 3) := by decide +kernel
theorem dX8_ranks_42 : decode cX8_ranks 42 = .ok (.aload_n 0, 1) := by decide +kernel
theorem dX8_ranks_43 : decode cX8_ranks 43 = .ok (.iload_n 1, 1) := by decide +kernel
theorem dX8_ranks_44 : decode cX8_ranks 44 = .ok (.iload_n 3, 1) := by decide +kernel
theorem dX8_ranks_45 : decode cX8_ranks 45 = .ok (.aload_n 0, 1) := by decide +kernel
theorem dX8_ranks_46 : decode cX8_ranks 46 = .ok (.getfield 72, 3) := by decide +kernel
theorem dX8_ranks_49 : decode cX8_ranks 49 = .ok (.iload 4, 2) := by decide +kernel
theorem dX8_ranks_51 : decode cX8_ranks 51 = .ok (.iconst 1, 1) := by decide +kernel
theorem dX8_ranks_52 : decode cX8_ranks 52 = .ok (.isub, 1) := by decide +kernel
theorem dX8_ranks_53 : decode cX8_ranks 53 = .ok (.iaload, 1) := by decide +kernel
theorem dX8_ranks_54 : decode cX8_ranks 54 = .ok (.invokevirtual 188, 3) := by decide +kernel
theorem dX8_ranks_57 : decode cX8_ranks 57 = .ok (.ifCond .eq 25, 3) := by decide +kernel
theorem dX8_ranks_60 : decode cX8_ranks 60 = .ok (.aload_n 0, 1) := by decide +kernel
theorem dX8_ranks_61 : decode cX8_ranks 61 = .ok (.getfield 72, 3) := by decide +kernel
theorem dX8_ranks_64 : decode cX8_ranks 64 = .ok (.iload 4, 2) := by decide +kernel
theorem dX8_ranks_66 : decode cX8_ranks 66 = .ok (.aload_n 0, 1) := by decide +kernel
theorem dX8_ranks_67 : decode cX8_ranks 67 = .ok (.getfield 72, 3) := by decide +kernel
theorem dX8_ranks_70 : decode cX8_ranks 70 = .ok (.iload 4, 2) := by decide +kernel
theorem dX8_ranks_72 : decode cX8_ranks 72 = .ok (.iconst 1, 1) := by decide +kernel
theorem dX8_ranks_73 : decode cX8_ranks 73 = .ok (.isub, 1) := by decide +kernel
theorem dX8_ranks_74 : decode cX8_ranks 74 = .ok (.iaload, 1) := by decide +kernel
theorem dX8_ranks_75 : decode cX8_ranks 75 = .ok (.iastore, 1) := by decide +kernel
theorem dX8_ranks_76 : decode cX8_ranks 76 = .ok (.iinc 4 (-1), 3) := by decide +kernel
theorem dX8_ranks_79 : decode cX8_ranks 79 = .ok (.goto (-42), 3) := by decide +kernel
theorem dX8_ranks_82 : decode cX8_ranks 82 = .ok (.aload_n 0, 1) := by decide +kernel
theorem dX8_ranks_83 : decode cX8_ranks 83 = .ok (.getfield 72, 3) := by decide +kernel
theorem dX8_ranks_86 : decode cX8_ranks 86 = .ok (.iload 4, 2) := by decide +kernel
theorem dX8_ranks_88 : decode cX8_ranks 88 = .ok (.iload_n 3, 1) := by decide +kernel
theorem dX8_ranks_89 : decode cX8_ranks 89 = .ok (.iastore, 1) := by decide +kernel
theorem dX8_ranks_90 : decode cX8_ranks 90 = .ok (.iinc 2 1, 3) := by decide +kernel
theorem dX8_ranks_93 : decode cX8_ranks 93 = .ok (.iinc 3 1, 3) := by decide +kernel
theorem dX8_ranks_96 : decode cX8_ranks 96 = .ok (.goto (-92), 3) := by decide +kernel
theorem dX8_ranks_99 : decode cX8_ranks 99 = .ok (.iload_n 2, 1) := by decide +kernel
theorem dX8_ranks_100 : decode cX8_ranks 100 = .ok (.ireturn, 1) := by decide +kernel
theorem dX8_orderAt_0 : decode cX8_orderAt 0 = .ok (.iconst 0, 1) := by decide +kernel
theorem dX8_orderAt_1 : decode cX8_orderAt 1 = .ok (.istore_n 2, 1) := by decide +kernel
theorem dX8_orderAt_2 : decode cX8_orderAt 2 = .ok (.iconst 1, 1) := by decide +kernel
theorem dX8_orderAt_3 : decode cX8_orderAt 3 = .ok (.istore_n 3, 1) := by decide +kernel
theorem dX8_orderAt_4 : decode cX8_orderAt 4 = .ok (.iload_n 0, 1) := by decide +kernel
theorem dX8_orderAt_5 : decode cX8_orderAt 5 = .ok (.istore 4, 2) := by decide +kernel
theorem dX8_orderAt_7 : decode cX8_orderAt 7 = .ok (.iload_n 3, 1) := by decide +kernel
theorem dX8_orderAt_8 : decode cX8_orderAt 8 = .ok (.iload_n 0, 1) := by decide +kernel
theorem dX8_orderAt_9 : decode cX8_orderAt 9 = .ok (.if_icmp .ge 35, 3) := by decide +kernel
theorem dX8_orderAt_12 : decode cX8_orderAt 12 = .ok (.iload_n 3, 1) := by decide +kernel
theorem dX8_orderAt_13 : decode cX8_orderAt 13 = .ok (.iconst 2, 1) := by decide +kernel
theorem dX8_orderAt_14 : decode cX8_orderAt 14 = .ok (.imul, 1) := by decide +kernel
theorem dX8_orderAt_15 : decode cX8_orderAt 15 = .ok (.istore_n 3, 1) := by decide +kernel
theorem dX8_orderAt_16 : decode cX8_orderAt 16 = .ok (.iload 4, 2) := by decide +kernel
theorem dX8_orderAt_18 : decode cX8_orderAt 18 = .ok (.iconst 2, 1) := by decide +kernel
theorem dX8_orderAt_19 : decode cX8_orderAt 19 = .ok (.idiv, 1) := by decide +kernel
theorem dX8_orderAt_20 : decode cX8_orderAt 20 = .ok (.istore 4, 2) := by decide +kernel
theorem dX8_orderAt_22 : decode cX8_orderAt 22 = .ok (.iload_n 1, 1) := by decide +kernel
theorem dX8_orderAt_23 : decode cX8_orderAt 23 = .ok (.iload 4, 2) := by decide +kernel
theorem dX8_orderAt_25 : decode cX8_orderAt 25 = .ok (.idiv, 1) := by decide +kernel
theorem dX8_orderAt_26 : decode cX8_orderAt 26 = .ok (.iconst 2, 1) := by decide +kernel
theorem dX8_orderAt_27 : decode cX8_orderAt 27 = .ok (.irem, 1) := by decide +kernel
theorem dX8_orderAt_28 : decode cX8_orderAt 28 = .ok (.ifCond .ne 7, 3) := by decide +kernel
theorem dX8_orderAt_31 : decode cX8_orderAt 31 = .ok (.iload_n 2, 1) := by decide +kernel
theorem dX8_orderAt_32 : decode cX8_orderAt 32 = .ok (.goto 8, 3) := by decide +kernel
theorem dX8_orderAt_35 : decode cX8_orderAt 35 = .ok (.iload_n 3, 1) := by decide +kernel
theorem dX8_orderAt_36 : decode cX8_orderAt 36 = .ok (.iconst 1, 1) := by decide +kernel
theorem dX8_orderAt_37 : decode cX8_orderAt 37 = .ok (.isub, 1) := by decide +kernel
theorem dX8_orderAt_38 : decode cX8_orderAt 38 = .ok (.iload_n 2, 1) := by decide +kernel
theorem dX8_orderAt_39 : decode cX8_orderAt 39 = .ok (.isub, 1) := by decide +kernel
theorem dX8_orderAt_40 : decode cX8_orderAt 40 = .ok (.istore_n 2, 1) := by decide +kernel
theorem dX8_orderAt_41 : decode cX8_orderAt 41 = .ok (.goto (-34), 3) := by decide +kernel
theorem dX8_orderAt_44 : decode cX8_orderAt 44 = .ok (.iload_n 2, 1) := by decide +kernel
theorem dX8_orderAt_45 : decode cX8_orderAt 45 = .ok (.ireturn, 1) := by decide +kernel
theorem dX8_tableau_0 : decode cX8_tableau 0 = .ok (.aload_n 0, 1) := by decide +kernel
theorem dX8_tableau_1 : decode cX8_tableau 1 = .ok (.aload_n 0, 1) := by decide +kernel
theorem dX8_tableau_2 : decode cX8_tableau 2 = .ok (.iload_n 1, 1) := by decide +kernel
theorem dX8_tableau_3 : decode cX8_tableau 3 = .ok (.invokevirtual 98, 3) := by decide +kernel
theorem dX8_tableau_6 : decode cX8_tableau 6 = .ok (.ifCond .eq 7, 3) := by decide +kernel
theorem dX8_tableau_9 : decode cX8_tableau 9 = .ok (.iconst 0, 1) := by decide +kernel
theorem dX8_tableau_10 : decode cX8_tableau 10 = .ok (.goto 4, 3) := by decide +kernel
theorem dX8_tableau_13 : decode cX8_tableau 13 = .ok (.iconst 1, 1) := by decide +kernel
theorem dX8_tableau_14 : decode cX8_tableau 14 = .ok (.putfield 81, 3) := by decide +kernel
theorem dX8_tableau_17 : decode cX8_tableau 17 = .ok (.aload_n 0, 1) := by decide +kernel
theorem dX8_tableau_18 : decode cX8_tableau 18 = .ok (.getfield 81, 3) := by decide +kernel
theorem dX8_tableau_21 : decode cX8_tableau 21 = .ok (.ifCond .le 5, 3) := by decide +kernel
theorem dX8_tableau_24 : decode cX8_tableau 24 = .ok (.iconst 0, 1) := by decide +kernel
theorem dX8_tableau_25 : decode cX8_tableau 25 = .ok (.ireturn, 1) := by decide +kernel
theorem dX8_tableau_26 : decode cX8_tableau 26 = .ok (.aload_n 0, 1) := by decide +kernel
theorem dX8_tableau_27 : decode cX8_tableau 27 = .ok (.iload_n 1, 1) := by decide +kernel
theorem dX8_tableau_28 : decode cX8_tableau 28 = .ok (.invokevirtual 191, 3) := by decide +kernel
theorem dX8_tableau_31 : decode cX8_tableau 31 = .ok (.istore_n 2, 1) := by decide +kernel
theorem dX8_tableau_32 : decode cX8_tableau 32 = .ok (.aload_n 0, 1) := by decide +kernel
theorem dX8_tableau_33 : decode cX8_tableau 33 = .ok (.iload_n 2, 1) := by decide +kernel
theorem dX8_tableau_34 : decode cX8_tableau 34 = .ok (.iconst 2, 1) := by decide +kernel
theorem dX8_tableau_35 : decode cX8_tableau 35 = .ok (.if_icmp .ge 7, 3) := by decide +kernel
theorem dX8_tableau_38 : decode cX8_tableau 38 = .ok (.iconst 2, 1) := by decide +kernel
theorem dX8_tableau_39 : decode cX8_tableau 39 = .ok (.goto 4, 3) := by decide +kernel
theorem dX8_tableau_42 : decode cX8_tableau 42 = .ok (.iconst 0, 1) := by decide +kernel
theorem dX8_tableau_43 : decode cX8_tableau 43 = .ok (.putfield 81, 3) := by decide +kernel
theorem dX8_tableau_46 : decode cX8_tableau 46 = .ok (.aload_n 0, 1) := by decide +kernel
theorem dX8_tableau_47 : decode cX8_tableau 47 = .ok (.getfield 81, 3) := by decide +kernel
theorem dX8_tableau_50 : decode cX8_tableau 50 = .ok (.ifCond .le 5, 3) := by decide +kernel
theorem dX8_tableau_53 : decode cX8_tableau 53 = .ok (.iconst 0, 1) := by decide +kernel
theorem dX8_tableau_54 : decode cX8_tableau 54 = .ok (.ireturn, 1) := by decide +kernel
theorem dX8_tableau_55 : decode cX8_tableau 55 = .ok (.aload_n 0, 1) := by decide +kernel
theorem dX8_tableau_56 : decode cX8_tableau 56 = .ok (.iconst 2, 1) := by decide +kernel
theorem dX8_tableau_57 : decode cX8_tableau 57 = .ok (.putfield 194, 3) := by decide +kernel
theorem dX8_tableau_60 : decode cX8_tableau 60 = .ok (.aload_n 0, 1) := by decide +kernel
theorem dX8_tableau_61 : decode cX8_tableau 61 = .ok (.getfield 194, 3) := by decide +kernel
theorem dX8_tableau_64 : decode cX8_tableau 64 = .ok (.iload_n 2, 1) := by decide +kernel
theorem dX8_tableau_65 : decode cX8_tableau 65 = .ok (.if_icmp .ge 16, 3) := by decide +kernel
theorem dX8_tableau_68 : decode cX8_tableau 68 = .ok (.aload_n 0, 1) := by decide +kernel
theorem dX8_tableau_69 : decode cX8_tableau 69 = .ok (.dup, 1) := by decide +kernel
theorem dX8_tableau_70 : decode cX8_tableau 70 = .ok (.getfield 194, 3) := by decide +kernel
theorem dX8_tableau_73 : decode cX8_tableau 73 = .ok (.iconst 2, 1) := by decide +kernel
theorem dX8_tableau_74 : decode cX8_tableau 74 = .ok (.imul, 1) := by decide +kernel
theorem dX8_tableau_75 : decode cX8_tableau 75 = .ok (.putfield 194, 3) := by decide +kernel
theorem dX8_tableau_78 : decode cX8_tableau 78 = .ok (.goto (-18), 3) := by decide +kernel
theorem dX8_tableau_81 : decode cX8_tableau 81 = .ok (.iconst 0, 1) := by decide +kernel
theorem dX8_tableau_82 : decode cX8_tableau 82 = .ok (.istore_n 3, 1) := by decide +kernel
theorem dX8_tableau_83 : decode cX8_tableau 83 = .ok (.iload_n 3, 1) := by decide +kernel
theorem dX8_tableau_84 : decode cX8_tableau 84 = .ok (.sipush 128, 3) := by decide +kernel
theorem dX8_tableau_87 : decode cX8_tableau 87 = .ok (.if_icmp .ge 16, 3) := by decide +kernel
theorem dX8_tableau_90 : decode cX8_tableau 90 = .ok (.aload_n 0, 1) := by decide +kernel
theorem dX8_tableau_91 : decode cX8_tableau 91 = .ok (.getfield 75, 3) := by decide +kernel
theorem dX8_tableau_94 : decode cX8_tableau 94 = .ok (.iload_n 3, 1) := by decide +kernel
theorem dX8_tableau_95 : decode cX8_tableau 95 = .ok (.iconst (-1), 1) := by decide +kernel
theorem dX8_tableau_96 : decode cX8_tableau 96 = .ok (.iastore, 1) := by decide +kernel
theorem dX8_tableau_97 : decode cX8_tableau 97 = .ok (.iinc 3 1, 3) := by decide +kernel
theorem dX8_tableau_100 : decode cX8_tableau 100 = .ok (.goto (-17), 3) := by decide +kernel
theorem dX8_tableau_103 : decode cX8_tableau 103 = .ok (.iconst 0, 1) := by decide +kernel
theorem dX8_tableau_104 : decode cX8_tableau 104 = .ok (.istore_n 3, 1) := by decide +kernel
theorem dX8_tableau_105 : decode cX8_tableau 105 = .ok (.iload_n 3, 1) := by decide +kernel
theorem dX8_tableau_106 : decode cX8_tableau 106 = .ok (.bipush 64, 2) := by decide +kernel
theorem dX8_tableau_108 : decode cX8_tableau 108 = .ok (.if_icmp .ge 16, 3) := by decide +kernel
theorem dX8_tableau_111 : decode cX8_tableau 111 = .ok (.aload_n 0, 1) := by decide +kernel
theorem dX8_tableau_112 : decode cX8_tableau 112 = .ok (.getfield 78, 3) := by decide +kernel
theorem dX8_tableau_115 : decode cX8_tableau 115 = .ok (.iload_n 3, 1) := by decide +kernel
theorem dX8_tableau_116 : decode cX8_tableau 116 = .ok (.iconst (-1), 1) := by decide +kernel
theorem dX8_tableau_117 : decode cX8_tableau 117 = .ok (.iastore, 1) := by decide +kernel
theorem dX8_tableau_118 : decode cX8_tableau 118 = .ok (.iinc 3 1, 3) := by decide +kernel
theorem dX8_tableau_121 : decode cX8_tableau 121 = .ok (.goto (-16), 3) := by decide +kernel
theorem dX8_tableau_124 : decode cX8_tableau 124 = .ok (.iconst 0, 1) := by decide +kernel
theorem dX8_tableau_125 : decode cX8_tableau 125 = .ok (.istore_n 3, 1) := by decide +kernel
theorem dX8_tableau_126 : decode cX8_tableau 126 = .ok (.iload_n 3, 1) := by decide +kernel
theorem dX8_tableau_127 : decode cX8_tableau 127 = .ok (.aload_n 0, 1) := by decide +kernel
theorem dX8_tableau_128 : decode cX8_tableau 128 = .ok (.getfield 194, 3) := by decide +kernel
theorem dX8_tableau_131 : decode cX8_tableau 131 = .ok (.if_icmp .ge 42, 3) := by decide +kernel
theorem dX8_tableau_134 : decode cX8_tableau 134 = .ok (.aload_n 0, 1) := by decide +kernel
theorem dX8_tableau_135 : decode cX8_tableau 135 = .ok (.getfield 194, 3) := by decide +kernel
theorem dX8_tableau_138 : decode cX8_tableau 138 = .ok (.iload_n 3, 1) := by decide +kernel
theorem dX8_tableau_139 : decode cX8_tableau 139 = .ok (.invokestatic 197, 3) := by decide +kernel
theorem dX8_tableau_142 : decode cX8_tableau 142 = .ok (.istore 4, 2) := by decide +kernel
theorem dX8_tableau_144 : decode cX8_tableau 144 = .ok (.aload_n 0, 1) := by decide +kernel
theorem dX8_tableau_145 : decode cX8_tableau 145 = .ok (.getfield 75, 3) := by decide +kernel
theorem dX8_tableau_148 : decode cX8_tableau 148 = .ok (.iload_n 3, 1) := by decide +kernel
theorem dX8_tableau_149 : decode cX8_tableau 149 = .ok (.iload 4, 2) := by decide +kernel
theorem dX8_tableau_151 : decode cX8_tableau 151 = .ok (.iload_n 2, 1) := by decide +kernel
theorem dX8_tableau_152 : decode cX8_tableau 152 = .ok (.if_icmp .ge 13, 3) := by decide +kernel
theorem dX8_tableau_155 : decode cX8_tableau 155 = .ok (.aload_n 0, 1) := by decide +kernel
theorem dX8_tableau_156 : decode cX8_tableau 156 = .ok (.getfield 72, 3) := by decide +kernel
theorem dX8_tableau_159 : decode cX8_tableau 159 = .ok (.iload 4, 2) := by decide +kernel
theorem dX8_tableau_161 : decode cX8_tableau 161 = .ok (.iaload, 1) := by decide +kernel
theorem dX8_tableau_162 : decode cX8_tableau 162 = .ok (.goto 4, 3) := by decide +kernel
theorem dX8_tableau_165 : decode cX8_tableau 165 = .ok (.iconst (-1), 1) := by decide +kernel
theorem dX8_tableau_166 : decode cX8_tableau 166 = .ok (.iastore, 1) := by decide +kernel
theorem dX8_tableau_167 : decode cX8_tableau 167 = .ok (.iinc 3 1, 3) := by decide +kernel
theorem dX8_tableau_170 : decode cX8_tableau 170 = .ok (.goto (-44), 3) := by decide +kernel
theorem dX8_tableau_173 : decode cX8_tableau 173 = .ok (.iconst 0, 1) := by decide +kernel
theorem dX8_tableau_174 : decode cX8_tableau 174 = .ok (.istore_n 3, 1) := by decide +kernel
theorem dX8_tableau_175 : decode cX8_tableau 175 = .ok (.iload_n 3, 1) := by decide +kernel
theorem dX8_tableau_176 : decode cX8_tableau 176 = .ok (.aload_n 0, 1) := by decide +kernel
theorem dX8_tableau_177 : decode cX8_tableau 177 = .ok (.getfield 194, 3) := by decide +kernel
theorem dX8_tableau_180 : decode cX8_tableau 180 = .ok (.iconst 2, 1) := by decide +kernel
theorem dX8_tableau_181 : decode cX8_tableau 181 = .ok (.idiv, 1) := by decide +kernel
theorem dX8_tableau_182 : decode cX8_tableau 182 = .ok (.if_icmp .ge 74, 3) := by decide +kernel
theorem dX8_tableau_185 : decode cX8_tableau 185 = .ok (.aload_n 0, 1) := by decide +kernel
theorem dX8_tableau_186 : decode cX8_tableau 186 = .ok (.getfield 75, 3) := by decide +kernel
theorem dX8_tableau_189 : decode cX8_tableau 189 = .ok (.iconst 2, 1) := by decide +kernel
theorem dX8_tableau_190 : decode cX8_tableau 190 = .ok (.iload_n 3, 1) := by decide +kernel
theorem dX8_tableau_191 : decode cX8_tableau 191 = .ok (.imul, 1) := by decide +kernel
theorem dX8_tableau_192 : decode cX8_tableau 192 = .ok (.iaload, 1) := by decide +kernel
theorem dX8_tableau_193 : decode cX8_tableau 193 = .ok (.iconst (-1), 1) := by decide +kernel
theorem dX8_tableau_194 : decode cX8_tableau 194 = .ok (.if_icmp .eq 17, 3) := by decide +kernel
theorem dX8_tableau_197 : decode cX8_tableau 197 = .ok (.aload_n 0, 1) := by decide +kernel
theorem dX8_tableau_198 : decode cX8_tableau 198 = .ok (.getfield 75, 3) := by decide +kernel
theorem dX8_tableau_201 : decode cX8_tableau 201 = .ok (.iconst 2, 1) := by decide +kernel
theorem dX8_tableau_202 : decode cX8_tableau 202 = .ok (.iload_n 3, 1) := by decide +kernel
theorem dX8_tableau_203 : decode cX8_tableau 203 = .ok (.imul, 1) := by decide +kernel
theorem dX8_tableau_204 : decode cX8_tableau 204 = .ok (.iconst 1, 1) := by decide +kernel
theorem dX8_tableau_205 : decode cX8_tableau 205 = .ok (.iadd, 1) := by decide +kernel
theorem dX8_tableau_206 : decode cX8_tableau 206 = .ok (.iaload, 1) := by decide +kernel
theorem dX8_tableau_207 : decode cX8_tableau 207 = .ok (.iconst (-1), 1) := by decide +kernel
theorem dX8_tableau_208 : decode cX8_tableau 208 = .ok (.if_icmp .ne 42, 3) := by decide +kernel
theorem dX8_tableau_211 : decode cX8_tableau 211 = .ok (.aload_n 0, 1) := by decide +kernel
theorem dX8_tableau_212 : decode cX8_tableau 212 = .ok (.iconst 0, 1) := by decide +kernel
theorem dX8_tableau_213 : decode cX8_tableau 213 = .ok (.iload_n 3, 1) := by decide +kernel
theorem dX8_tableau_214 : decode cX8_tableau 214 = .ok (.aload_n 0, 1) := by decide +kernel
theorem dX8_tableau_215 : decode cX8_tableau 215 = .ok (.getfield 75, 3) := by decide +kernel
theorem dX8_tableau_218 : decode cX8_tableau 218 = .ok (.iconst 2, 1) := by decide +kernel
theorem dX8_tableau_219 : decode cX8_tableau 219 = .ok (.iload_n 3, 1) := by decide +kernel
theorem dX8_tableau_220 : decode cX8_tableau 220 = .ok (.imul, 1) := by decide +kernel
theorem dX8_tableau_221 : decode cX8_tableau 221 = .ok (.iaload, 1) := by decide +kernel
theorem dX8_tableau_222 : decode cX8_tableau 222 = .ok (.iconst (-1), 1) := by decide +kernel
theorem dX8_tableau_223 : decode cX8_tableau 223 = .ok (.if_icmp .ne 16, 3) := by decide +kernel
theorem dX8_tableau_226 : decode cX8_tableau 226 = .ok (.aload_n 0, 1) := by decide +kernel
theorem dX8_tableau_227 : decode cX8_tableau 227 = .ok (.getfield 75, 3) := by decide +kernel
theorem dX8_tableau_230 : decode cX8_tableau 230 = .ok (.iconst 2, 1) := by decide +kernel
theorem dX8_tableau_231 : decode cX8_tableau 231 = .ok (.iload_n 3, 1) := by decide +kernel
theorem dX8_tableau_232 : decode cX8_tableau 232 = .ok (.imul, 1) := by decide +kernel
theorem dX8_tableau_233 : decode cX8_tableau 233 = .ok (.iconst 1, 1) := by decide +kernel
theorem dX8_tableau_234 : decode cX8_tableau 234 = .ok (.iadd, 1) := by decide +kernel
theorem dX8_tableau_235 : decode cX8_tableau 235 = .ok (.iaload, 1) := by decide +kernel
theorem dX8_tableau_236 : decode cX8_tableau 236 = .ok (.goto 11, 3) := by decide +kernel
theorem dX8_tableau_239 : decode cX8_tableau 239 = .ok (.aload_n 0, 1) := by decide +kernel
theorem dX8_tableau_240 : decode cX8_tableau 240 = .ok (.getfield 75, 3) := by decide +kernel
theorem dX8_tableau_243 : decode cX8_tableau 243 = .ok (.iconst 2, 1) := by decide +kernel
theorem dX8_tableau_244 : decode cX8_tableau 244 = .ok (.iload_n 3, 1) := by decide +kernel
theorem dX8_tableau_245 : decode cX8_tableau 245 = .ok (.imul, 1) := by decide +kernel
theorem dX8_tableau_246 : decode cX8_tableau 246 = .ok (.iaload, 1) := by decide +kernel
theorem dX8_tableau_247 : decode cX8_tableau 247 = .ok (.invokevirtual 201, 3) := by decide +kernel
theorem dX8_tableau_250 : decode cX8_tableau 250 = .ok (.iinc 3 1, 3) := by decide +kernel
theorem dX8_tableau_253 : decode cX8_tableau 253 = .ok (.goto (-78), 3) := by decide +kernel
theorem dX8_tableau_256 : decode cX8_tableau 256 = .ok (.aload_n 0, 1) := by decide +kernel
theorem dX8_tableau_257 : decode cX8_tableau 257 = .ok (.getfield 194, 3) := by decide +kernel
theorem dX8_tableau_260 : decode cX8_tableau 260 = .ok (.ireturn, 1) := by decide +kernel
theorem dX8_rounds_0 : decode cX8_rounds 0 = .ok (.iload_n 0, 1) := by decide +kernel
theorem dX8_rounds_1 : decode cX8_rounds 1 = .ok (.bipush 16, 2) := by decide +kernel
theorem dX8_rounds_3 : decode cX8_rounds 3 = .ok (.if_icmp .ne 7, 3) := by decide +kernel
theorem dX8_rounds_6 : decode cX8_rounds 6 = .ok (.iconst 4, 1) := by decide +kernel
theorem dX8_rounds_7 : decode cX8_rounds 7 = .ok (.goto 32, 3) := by decide +kernel
theorem dX8_rounds_10 : decode cX8_rounds 10 = .ok (.iload_n 0, 1) := by decide +kernel
theorem dX8_rounds_11 : decode cX8_rounds 11 = .ok (.bipush 8, 2) := by decide +kernel
theorem dX8_rounds_13 : decode cX8_rounds 13 = .ok (.if_icmp .ne 7, 3) := by decide +kernel
theorem dX8_rounds_16 : decode cX8_rounds 16 = .ok (.iconst 3, 1) := by decide +kernel
theorem dX8_rounds_17 : decode cX8_rounds 17 = .ok (.goto 22, 3) := by decide +kernel
theorem dX8_rounds_20 : decode cX8_rounds 20 = .ok (.iload_n 0, 1) := by decide +kernel
theorem dX8_rounds_21 : decode cX8_rounds 21 = .ok (.iconst 4, 1) := by decide +kernel
theorem dX8_rounds_22 : decode cX8_rounds 22 = .ok (.if_icmp .ne 7, 3) := by decide +kernel
theorem dX8_rounds_25 : decode cX8_rounds 25 = .ok (.iconst 2, 1) := by decide +kernel
theorem dX8_rounds_26 : decode cX8_rounds 26 = .ok (.goto 13, 3) := by decide +kernel
theorem dX8_rounds_29 : decode cX8_rounds 29 = .ok (.iload_n 0, 1) := by decide +kernel
theorem dX8_rounds_30 : decode cX8_rounds 30 = .ok (.iconst 2, 1) := by decide +kernel
theorem dX8_rounds_31 : decode cX8_rounds 31 = .ok (.if_icmp .ne 7, 3) := by decide +kernel
theorem dX8_rounds_34 : decode cX8_rounds 34 = .ok (.iconst 1, 1) := by decide +kernel
theorem dX8_rounds_35 : decode cX8_rounds 35 = .ok (.goto 4, 3) := by decide +kernel
theorem dX8_rounds_38 : decode cX8_rounds 38 = .ok (.iconst 0, 1) := by decide +kernel
theorem dX8_rounds_39 : decode cX8_rounds 39 = .ok (.ireturn, 1) := by decide +kernel
theorem dX8_isWon_0 : decode cX8_isWon 0 = .ok (.aload_n 0, 1) := by decide +kernel
theorem dX8_isWon_1 : decode cX8_isWon 1 = .ok (.getfield 78, 3) := by decide +kernel
theorem dX8_isWon_4 : decode cX8_isWon 4 = .ok (.bipush 16, 2) := by decide +kernel
theorem dX8_isWon_6 : decode cX8_isWon 6 = .ok (.iload_n 1, 1) := by decide +kernel
theorem dX8_isWon_7 : decode cX8_isWon 7 = .ok (.imul, 1) := by decide +kernel
theorem dX8_isWon_8 : decode cX8_isWon 8 = .ok (.iload_n 2, 1) := by decide +kernel
theorem dX8_isWon_9 : decode cX8_isWon 9 = .ok (.iadd, 1) := by decide +kernel
theorem dX8_isWon_10 : decode cX8_isWon 10 = .ok (.iload_n 3, 1) := by decide +kernel
theorem dX8_isWon_11 : decode cX8_isWon 11 = .ok (.iastore, 1) := by decide +kernel
theorem dX8_isWon_12 : decode cX8_isWon 12 = .ok (.iload_n 1, 1) := by decide +kernel
theorem dX8_isWon_13 : decode cX8_isWon 13 = .ok (.iconst 1, 1) := by decide +kernel
theorem dX8_isWon_14 : decode cX8_isWon 14 = .ok (.iadd, 1) := by decide +kernel
theorem dX8_isWon_15 : decode cX8_isWon 15 = .ok (.aload_n 0, 1) := by decide +kernel
theorem dX8_isWon_16 : decode cX8_isWon 16 = .ok (.getfield 194, 3) := by decide +kernel
theorem dX8_isWon_19 : decode cX8_isWon 19 = .ok (.invokestatic 205, 3) := by decide +kernel
theorem dX8_isWon_22 : decode cX8_isWon 22 = .ok (.if_icmp .ge 17, 3) := by decide +kernel
theorem dX8_isWon_25 : decode cX8_isWon 25 = .ok (.aload_n 0, 1) := by decide +kernel
theorem dX8_isWon_26 : decode cX8_isWon 26 = .ok (.getfield 75, 3) := by decide +kernel
theorem dX8_isWon_29 : decode cX8_isWon 29 = .ok (.bipush 32, 2) := by decide +kernel
theorem dX8_isWon_31 : decode cX8_isWon 31 = .ok (.iload_n 1, 1) := by decide +kernel
theorem dX8_isWon_32 : decode cX8_isWon 32 = .ok (.iconst 1, 1) := by decide +kernel
theorem dX8_isWon_33 : decode cX8_isWon 33 = .ok (.iadd, 1) := by decide +kernel
theorem dX8_isWon_34 : decode cX8_isWon 34 = .ok (.imul, 1) := by decide +kernel
theorem dX8_isWon_35 : decode cX8_isWon 35 = .ok (.iload_n 2, 1) := by decide +kernel
theorem dX8_isWon_36 : decode cX8_isWon 36 = .ok (.iadd, 1) := by decide +kernel
theorem dX8_isWon_37 : decode cX8_isWon 37 = .ok (.iload_n 3, 1) := by decide +kernel
theorem dX8_isWon_38 : decode cX8_isWon 38 = .ok (.iastore, 1) := by decide +kernel
theorem dX8_isWon_39 : decode cX8_isWon 39 = .ok (.return_, 1) := by decide +kernel
theorem dX8_isMatch_0 : decode cX8_isMatch 0 = .ok (.iload_n 1, 1) := by decide +kernel
theorem dX8_isMatch_1 : decode cX8_isMatch 1 = .ok (.iconst 0, 1) := by decide +kernel
theorem dX8_isMatch_2 : decode cX8_isMatch 2 = .ok (.aload_n 0, 1) := by decide +kernel
theorem dX8_isMatch_3 : decode cX8_isMatch 3 = .ok (.getfield 194, 3) := by decide +kernel
theorem dX8_isMatch_6 : decode cX8_isMatch 6 = .ok (.invokestatic 205, 3) := by decide +kernel
theorem dX8_isMatch_9 : decode cX8_isMatch 9 = .ok (.iconst 1, 1) := by decide +kernel
theorem dX8_isMatch_10 : decode cX8_isMatch 10 = .ok (.isub, 1) := by decide +kernel
theorem dX8_isMatch_11 : decode cX8_isMatch 11 = .ok (.invokestatic 87, 3) := by decide +kernel
theorem dX8_isMatch_14 : decode cX8_isMatch 14 = .ok (.ifCond .eq 25, 3) := by decide +kernel
theorem dX8_isMatch_17 : decode cX8_isMatch 17 = .ok (.iload_n 2, 1) := by decide +kernel
theorem dX8_isMatch_18 : decode cX8_isMatch 18 = .ok (.iconst 0, 1) := by decide +kernel
theorem dX8_isMatch_19 : decode cX8_isMatch 19 = .ok (.aload_n 0, 1) := by decide +kernel
theorem dX8_isMatch_20 : decode cX8_isMatch 20 = .ok (.getfield 194, 3) := by decide +kernel
theorem dX8_isMatch_23 : decode cX8_isMatch 23 = .ok (.iload_n 1, 1) := by decide +kernel
theorem dX8_isMatch_24 : decode cX8_isMatch 24 = .ok (.iconst 1, 1) := by decide +kernel
theorem dX8_isMatch_25 : decode cX8_isMatch 25 = .ok (.iadd, 1) := by decide +kernel
theorem dX8_isMatch_26 : decode cX8_isMatch 26 = .ok (.ishr, 1) := by decide +kernel
theorem dX8_isMatch_27 : decode cX8_isMatch 27 = .ok (.iconst 1, 1) := by decide +kernel
theorem dX8_isMatch_28 : decode cX8_isMatch 28 = .ok (.isub, 1) := by decide +kernel
theorem dX8_isMatch_29 : decode cX8_isMatch 29 = .ok (.invokestatic 87, 3) := by decide +kernel
theorem dX8_isMatch_32 : decode cX8_isMatch 32 = .ok (.ifCond .eq 7, 3) := by decide +kernel
theorem dX8_isMatch_35 : decode cX8_isMatch 35 = .ok (.iconst 1, 1) := by decide +kernel
theorem dX8_isMatch_36 : decode cX8_isMatch 36 = .ok (.goto 4, 3) := by decide +kernel
theorem dX8_isMatch_39 : decode cX8_isMatch 39 = .ok (.iconst 0, 1) := by decide +kernel
theorem dX8_isMatch_40 : decode cX8_isMatch 40 = .ok (.ireturn, 1) := by decide +kernel
theorem dX8_wins_0 : decode cX8_wins 0 = .ok (.aload_n 0, 1) := by decide +kernel
theorem dX8_wins_1 : decode cX8_wins 1 = .ok (.aload_n 0, 1) := by decide +kernel
theorem dX8_wins_2 : decode cX8_wins 2 = .ok (.iload_n 1, 1) := by decide +kernel
theorem dX8_wins_3 : decode cX8_wins 3 = .ok (.iload_n 2, 1) := by decide +kernel
theorem dX8_wins_4 : decode cX8_wins 4 = .ok (.invokevirtual 208, 3) := by decide +kernel
theorem dX8_wins_7 : decode cX8_wins 7 = .ok (.ifCond .ne 7, 3) := by decide +kernel
theorem dX8_wins_10 : decode cX8_wins 10 = .ok (.iconst 1, 1) := by decide +kernel
theorem dX8_wins_11 : decode cX8_wins 11 = .ok (.goto 15, 3) := by decide +kernel
theorem dX8_wins_14 : decode cX8_wins 14 = .ok (.iload_n 3, 1) := by decide +kernel
theorem dX8_wins_15 : decode cX8_wins 15 = .ok (.invokestatic 114, 3) := by decide +kernel
theorem dX8_wins_18 : decode cX8_wins 18 = .ok (.ifCond .ne 7, 3) := by decide +kernel
theorem dX8_wins_21 : decode cX8_wins 21 = .ok (.iconst 2, 1) := by decide +kernel
theorem dX8_wins_22 : decode cX8_wins 22 = .ok (.goto 4, 3) := by decide +kernel
theorem dX8_wins_25 : decode cX8_wins 25 = .ok (.iconst 0, 1) := by decide +kernel
theorem dX8_wins_26 : decode cX8_wins 26 = .ok (.putfield 81, 3) := by decide +kernel
theorem dX8_wins_29 : decode cX8_wins 29 = .ok (.aload_n 0, 1) := by decide +kernel
theorem dX8_wins_30 : decode cX8_wins 30 = .ok (.getfield 81, 3) := by decide +kernel
theorem dX8_wins_33 : decode cX8_wins 33 = .ok (.ifCond .le 5, 3) := by decide +kernel
theorem dX8_wins_36 : decode cX8_wins 36 = .ok (.iconst 0, 1) := by decide +kernel
theorem dX8_wins_37 : decode cX8_wins 37 = .ok (.ireturn, 1) := by decide +kernel
theorem dX8_wins_38 : decode cX8_wins 38 = .ok (.bipush 32, 2) := by decide +kernel
theorem dX8_wins_40 : decode cX8_wins 40 = .ok (.iload_n 1, 1) := by decide +kernel
theorem dX8_wins_41 : decode cX8_wins 41 = .ok (.imul, 1) := by decide +kernel
theorem dX8_wins_42 : decode cX8_wins 42 = .ok (.iconst 2, 1) := by decide +kernel
theorem dX8_wins_43 : decode cX8_wins 43 = .ok (.iload_n 2, 1) := by decide +kernel
theorem dX8_wins_44 : decode cX8_wins 44 = .ok (.imul, 1) := by decide +kernel
theorem dX8_wins_45 : decode cX8_wins 45 = .ok (.iadd, 1) := by decide +kernel
theorem dX8_wins_46 : decode cX8_wins 46 = .ok (.istore 4, 2) := by decide +kernel
theorem dX8_wins_48 : decode cX8_wins 48 = .ok (.aload_n 0, 1) := by decide +kernel
theorem dX8_wins_49 : decode cX8_wins 49 = .ok (.aload_n 0, 1) := by decide +kernel
theorem dX8_wins_50 : decode cX8_wins 50 = .ok (.getfield 75, 3) := by decide +kernel
theorem dX8_wins_53 : decode cX8_wins 53 = .ok (.iload 4, 2) := by decide +kernel
theorem dX8_wins_55 : decode cX8_wins 55 = .ok (.iaload, 1) := by decide +kernel
theorem dX8_wins_56 : decode cX8_wins 56 = .ok (.iconst (-1), 1) := by decide +kernel
theorem dX8_wins_57 : decode cX8_wins 57 = .ok (.if_icmp .eq 31, 3) := by decide +kernel
theorem dX8_wins_60 : decode cX8_wins 60 = .ok (.aload_n 0, 1) := by decide +kernel
theorem dX8_wins_61 : decode cX8_wins 61 = .ok (.getfield 75, 3) := by decide +kernel
theorem dX8_wins_64 : decode cX8_wins 64 = .ok (.iload 4, 2) := by decide +kernel
theorem dX8_wins_66 : decode cX8_wins 66 = .ok (.iconst 1, 1) := by decide +kernel
theorem dX8_wins_67 : decode cX8_wins 67 = .ok (.iadd, 1) := by decide +kernel
theorem dX8_wins_68 : decode cX8_wins 68 = .ok (.iaload, 1) := by decide +kernel
theorem dX8_wins_69 : decode cX8_wins 69 = .ok (.iconst (-1), 1) := by decide +kernel
theorem dX8_wins_70 : decode cX8_wins 70 = .ok (.if_icmp .eq 18, 3) := by decide +kernel
theorem dX8_wins_73 : decode cX8_wins 73 = .ok (.aload_n 0, 1) := by decide +kernel
theorem dX8_wins_74 : decode cX8_wins 74 = .ok (.getfield 78, 3) := by decide +kernel
theorem dX8_wins_77 : decode cX8_wins 77 = .ok (.bipush 16, 2) := by decide +kernel
theorem dX8_wins_79 : decode cX8_wins 79 = .ok (.iload_n 1, 1) := by decide +kernel
theorem dX8_wins_80 : decode cX8_wins 80 = .ok (.imul, 1) := by decide +kernel
theorem dX8_wins_81 : decode cX8_wins 81 = .ok (.iload_n 2, 1) := by decide +kernel
theorem dX8_wins_82 : decode cX8_wins 82 = .ok (.iadd, 1) := by decide +kernel
theorem dX8_wins_83 : decode cX8_wins 83 = .ok (.iaload, 1) := by decide +kernel
theorem dX8_wins_84 : decode cX8_wins 84 = .ok (.iconst (-1), 1) := by decide +kernel
theorem dX8_wins_85 : decode cX8_wins 85 = .ok (.if_icmp .eq 7, 3) := by decide +kernel
theorem dX8_wins_88 : decode cX8_wins 88 = .ok (.iconst 3, 1) := by decide +kernel
theorem dX8_wins_89 : decode cX8_wins 89 = .ok (.goto 4, 3) := by decide +kernel
theorem dX8_wins_92 : decode cX8_wins 92 = .ok (.iconst 0, 1) := by decide +kernel
theorem dX8_wins_93 : decode cX8_wins 93 = .ok (.putfield 81, 3) := by decide +kernel
theorem dX8_wins_96 : decode cX8_wins 96 = .ok (.aload_n 0, 1) := by decide +kernel
theorem dX8_wins_97 : decode cX8_wins 97 = .ok (.getfield 81, 3) := by decide +kernel
theorem dX8_wins_100 : decode cX8_wins 100 = .ok (.ifCond .le 5, 3) := by decide +kernel
theorem dX8_wins_103 : decode cX8_wins 103 = .ok (.iconst 0, 1) := by decide +kernel
theorem dX8_wins_104 : decode cX8_wins 104 = .ok (.ireturn, 1) := by decide +kernel
theorem dX8_wins_105 : decode cX8_wins 105 = .ok (.aload_n 0, 1) := by decide +kernel
theorem dX8_wins_106 : decode cX8_wins 106 = .ok (.getfield 75, 3) := by decide +kernel
theorem dX8_wins_109 : decode cX8_wins 109 = .ok (.iload 4, 2) := by decide +kernel
theorem dX8_wins_111 : decode cX8_wins 111 = .ok (.iload_n 3, 1) := by decide +kernel
theorem dX8_wins_112 : decode cX8_wins 112 = .ok (.iadd, 1) := by decide +kernel
theorem dX8_wins_113 : decode cX8_wins 113 = .ok (.iaload, 1) := by decide +kernel
theorem dX8_wins_114 : decode cX8_wins 114 = .ok (.istore 5, 2) := by decide +kernel
theorem dX8_wins_116 : decode cX8_wins 116 = .ok (.aload_n 0, 1) := by decide +kernel
theorem dX8_wins_117 : decode cX8_wins 117 = .ok (.iload_n 1, 1) := by decide +kernel
theorem dX8_wins_118 : decode cX8_wins 118 = .ok (.iload_n 2, 1) := by decide +kernel
theorem dX8_wins_119 : decode cX8_wins 119 = .ok (.iload 5, 2) := by decide +kernel
theorem dX8_wins_121 : decode cX8_wins 121 = .ok (.invokevirtual 201, 3) := by decide +kernel
theorem dX8_wins_124 : decode cX8_wins 124 = .ok (.iload 5, 2) := by decide +kernel
theorem dX8_wins_126 : decode cX8_wins 126 = .ok (.ireturn, 1) := by decide +kernel
theorem dX8_lamp_0 : decode cX8_lamp 0 = .ok (.aload_n 0, 1) := by decide +kernel
theorem dX8_lamp_1 : decode cX8_lamp 1 = .ok (.iload_n 1, 1) := by decide +kernel
theorem dX8_lamp_2 : decode cX8_lamp 2 = .ok (.invokestatic 114, 3) := by decide +kernel
theorem dX8_lamp_5 : decode cX8_lamp 5 = .ok (.ifCond .eq 7, 3) := by decide +kernel
theorem dX8_lamp_8 : decode cX8_lamp 8 = .ok (.iconst 0, 1) := by decide +kernel
theorem dX8_lamp_9 : decode cX8_lamp 9 = .ok (.goto 4, 3) := by decide +kernel
theorem dX8_lamp_12 : decode cX8_lamp 12 = .ok (.iconst 1, 1) := by decide +kernel
theorem dX8_lamp_13 : decode cX8_lamp 13 = .ok (.putfield 81, 3) := by decide +kernel
theorem dX8_lamp_16 : decode cX8_lamp 16 = .ok (.aload_n 0, 1) := by decide +kernel
theorem dX8_lamp_17 : decode cX8_lamp 17 = .ok (.getfield 81, 3) := by decide +kernel
theorem dX8_lamp_20 : decode cX8_lamp 20 = .ok (.ifCond .le 5, 3) := by decide +kernel
theorem dX8_lamp_23 : decode cX8_lamp 23 = .ok (.iconst 0, 1) := by decide +kernel
theorem dX8_lamp_24 : decode cX8_lamp 24 = .ok (.ireturn, 1) := by decide +kernel
theorem dX8_lamp_25 : decode cX8_lamp 25 = .ok (.aload_n 0, 1) := by decide +kernel
theorem dX8_lamp_26 : decode cX8_lamp 26 = .ok (.iload_n 1, 1) := by decide +kernel
theorem dX8_lamp_27 : decode cX8_lamp 27 = .ok (.invokevirtual 143, 3) := by decide +kernel
theorem dX8_lamp_30 : decode cX8_lamp 30 = .ok (.istore_n 2, 1) := by decide +kernel
theorem dX8_lamp_31 : decode cX8_lamp 31 = .ok (.iload_n 2, 1) := by decide +kernel
theorem dX8_lamp_32 : decode cX8_lamp 32 = .ok (.iconst (-1), 1) := by decide +kernel
theorem dX8_lamp_33 : decode cX8_lamp 33 = .ok (.if_icmp .ne 7, 3) := by decide +kernel
theorem dX8_lamp_36 : decode cX8_lamp 36 = .ok (.iconst (-1), 1) := by decide +kernel
theorem dX8_lamp_37 : decode cX8_lamp 37 = .ok (.goto 9, 3) := by decide +kernel
theorem dX8_lamp_40 : decode cX8_lamp 40 = .ok (.aload_n 0, 1) := by decide +kernel
theorem dX8_lamp_41 : decode cX8_lamp 41 = .ok (.getfield 63, 3) := by decide +kernel
theorem dX8_lamp_44 : decode cX8_lamp 44 = .ok (.iload_n 2, 1) := by decide +kernel
theorem dX8_lamp_45 : decode cX8_lamp 45 = .ok (.iaload, 1) := by decide +kernel
theorem dX8_lamp_46 : decode cX8_lamp 46 = .ok (.ireturn, 1) := by decide +kernel
theorem dX8_holder_0 : decode cX8_holder 0 = .ok (.aload_n 0, 1) := by decide +kernel
theorem dX8_holder_1 : decode cX8_holder 1 = .ok (.iconst 0, 1) := by decide +kernel
theorem dX8_holder_2 : decode cX8_holder 2 = .ok (.putfield 81, 3) := by decide +kernel
theorem dX8_holder_5 : decode cX8_holder 5 = .ok (.aload_n 0, 1) := by decide +kernel
theorem dX8_holder_6 : decode cX8_holder 6 = .ok (.aload_n 0, 1) := by decide +kernel
theorem dX8_holder_7 : decode cX8_holder 7 = .ok (.getfield 111, 3) := by decide +kernel
theorem dX8_holder_10 : decode cX8_holder 10 = .ok (.invokevirtual 146, 3) := by decide +kernel
theorem dX8_holder_13 : decode cX8_holder 13 = .ok (.ireturn, 1) := by decide +kernel
theorem dX8_reason_0 : decode cX8_reason 0 = .ok (.aload_n 0, 1) := by decide +kernel
theorem dX8_reason_1 : decode cX8_reason 1 = .ok (.iconst 0, 1) := by decide +kernel
theorem dX8_reason_2 : decode cX8_reason 2 = .ok (.putfield 81, 3) := by decide +kernel
theorem dX8_reason_5 : decode cX8_reason 5 = .ok (.aload_n 0, 1) := by decide +kernel
theorem dX8_reason_6 : decode cX8_reason 6 = .ok (.getfield 9, 3) := by decide +kernel
theorem dX8_reason_9 : decode cX8_reason 9 = .ok (.ireturn, 1) := by decide +kernel
theorem dX8_ofBout_0 : decode cX8_ofBout 0 = .ok (.aload_n 0, 1) := by decide +kernel
theorem dX8_ofBout_1 : decode cX8_ofBout 1 = .ok (.iload_n 1, 1) := by decide +kernel
theorem dX8_ofBout_2 : decode cX8_ofBout 2 = .ok (.iconst 0, 1) := by decide +kernel
theorem dX8_ofBout_3 : decode cX8_ofBout 3 = .ok (.aload_n 0, 1) := by decide +kernel
theorem dX8_ofBout_4 : decode cX8_ofBout 4 = .ok (.getfield 105, 3) := by decide +kernel
theorem dX8_ofBout_7 : decode cX8_ofBout 7 = .ok (.iconst 1, 1) := by decide +kernel
theorem dX8_ofBout_8 : decode cX8_ofBout 8 = .ok (.isub, 1) := by decide +kernel
theorem dX8_ofBout_9 : decode cX8_ofBout 9 = .ok (.invokestatic 87, 3) := by decide +kernel
theorem dX8_ofBout_12 : decode cX8_ofBout 12 = .ok (.ifCond .ne 7, 3) := by decide +kernel
theorem dX8_ofBout_15 : decode cX8_ofBout 15 = .ok (.iconst 1, 1) := by decide +kernel
theorem dX8_ofBout_16 : decode cX8_ofBout 16 = .ok (.goto 17, 3) := by decide +kernel
theorem dX8_ofBout_19 : decode cX8_ofBout 19 = .ok (.iload_n 2, 1) := by decide +kernel
theorem dX8_ofBout_20 : decode cX8_ofBout 20 = .ok (.iconst 0, 1) := by decide +kernel
theorem dX8_ofBout_21 : decode cX8_ofBout 21 = .ok (.iconst 5, 1) := by decide +kernel
theorem dX8_ofBout_22 : decode cX8_ofBout 22 = .ok (.invokestatic 87, 3) := by decide +kernel
theorem dX8_ofBout_25 : decode cX8_ofBout 25 = .ok (.ifCond .ne 7, 3) := by decide +kernel
theorem dX8_ofBout_28 : decode cX8_ofBout 28 = .ok (.iconst 2, 1) := by decide +kernel
theorem dX8_ofBout_29 : decode cX8_ofBout 29 = .ok (.goto 4, 3) := by decide +kernel
theorem dX8_ofBout_32 : decode cX8_ofBout 32 = .ok (.iconst 0, 1) := by decide +kernel
theorem dX8_ofBout_33 : decode cX8_ofBout 33 = .ok (.putfield 81, 3) := by decide +kernel
theorem dX8_ofBout_36 : decode cX8_ofBout 36 = .ok (.aload_n 0, 1) := by decide +kernel
theorem dX8_ofBout_37 : decode cX8_ofBout 37 = .ok (.getfield 81, 3) := by decide +kernel
theorem dX8_ofBout_40 : decode cX8_ofBout 40 = .ok (.ifCond .le 5, 3) := by decide +kernel
theorem dX8_ofBout_43 : decode cX8_ofBout 43 = .ok (.iconst 0, 1) := by decide +kernel
theorem dX8_ofBout_44 : decode cX8_ofBout 44 = .ok (.ireturn, 1) := by decide +kernel
theorem dX8_ofBout_45 : decode cX8_ofBout 45 = .ok (.iload_n 2, 1) := by decide +kernel
theorem dX8_ofBout_46 : decode cX8_ofBout 46 = .ok (.iconst 2, 1) := by decide +kernel
theorem dX8_ofBout_47 : decode cX8_ofBout 47 = .ok (.if_icmp .ge 16, 3) := by decide +kernel
theorem dX8_ofBout_50 : decode cX8_ofBout 50 = .ok (.aload_n 0, 1) := by decide +kernel
theorem dX8_ofBout_51 : decode cX8_ofBout 51 = .ok (.getfield 20, 3) := by decide +kernel
theorem dX8_ofBout_54 : decode cX8_ofBout 54 = .ok (.iconst 2, 1) := by decide +kernel
theorem dX8_ofBout_55 : decode cX8_ofBout 55 = .ok (.iload_n 1, 1) := by decide +kernel
theorem dX8_ofBout_56 : decode cX8_ofBout 56 = .ok (.imul, 1) := by decide +kernel
theorem dX8_ofBout_57 : decode cX8_ofBout 57 = .ok (.iload_n 2, 1) := by decide +kernel
theorem dX8_ofBout_58 : decode cX8_ofBout 58 = .ok (.iadd, 1) := by decide +kernel
theorem dX8_ofBout_59 : decode cX8_ofBout 59 = .ok (.iaload, 1) := by decide +kernel
theorem dX8_ofBout_60 : decode cX8_ofBout 60 = .ok (.goto 51, 3) := by decide +kernel
theorem dX8_ofBout_63 : decode cX8_ofBout 63 = .ok (.iload_n 2, 1) := by decide +kernel
theorem dX8_ofBout_64 : decode cX8_ofBout 64 = .ok (.iconst 2, 1) := by decide +kernel
theorem dX8_ofBout_65 : decode cX8_ofBout 65 = .ok (.if_icmp .ne 12, 3) := by decide +kernel
theorem dX8_ofBout_68 : decode cX8_ofBout 68 = .ok (.aload_n 0, 1) := by decide +kernel
theorem dX8_ofBout_69 : decode cX8_ofBout 69 = .ok (.getfield 32, 3) := by decide +kernel
theorem dX8_ofBout_72 : decode cX8_ofBout 72 = .ok (.iload_n 1, 1) := by decide +kernel
theorem dX8_ofBout_73 : decode cX8_ofBout 73 = .ok (.iaload, 1) := by decide +kernel
theorem dX8_ofBout_74 : decode cX8_ofBout 74 = .ok (.goto 37, 3) := by decide +kernel
theorem dX8_ofBout_77 : decode cX8_ofBout 77 = .ok (.iload_n 2, 1) := by decide +kernel
theorem dX8_ofBout_78 : decode cX8_ofBout 78 = .ok (.iconst 3, 1) := by decide +kernel
theorem dX8_ofBout_79 : decode cX8_ofBout 79 = .ok (.if_icmp .ne 12, 3) := by decide +kernel
theorem dX8_ofBout_82 : decode cX8_ofBout 82 = .ok (.aload_n 0, 1) := by decide +kernel
theorem dX8_ofBout_83 : decode cX8_ofBout 83 = .ok (.getfield 35, 3) := by decide +kernel
theorem dX8_ofBout_86 : decode cX8_ofBout 86 = .ok (.iload_n 1, 1) := by decide +kernel
theorem dX8_ofBout_87 : decode cX8_ofBout 87 = .ok (.iaload, 1) := by decide +kernel
theorem dX8_ofBout_88 : decode cX8_ofBout 88 = .ok (.goto 23, 3) := by decide +kernel
theorem dX8_ofBout_91 : decode cX8_ofBout 91 = .ok (.iload_n 2, 1) := by decide +kernel
theorem dX8_ofBout_92 : decode cX8_ofBout 92 = .ok (.iconst 4, 1) := by decide +kernel
theorem dX8_ofBout_93 : decode cX8_ofBout 93 = .ok (.if_icmp .ne 12, 3) := by decide +kernel
theorem dX8_ofBout_96 : decode cX8_ofBout 96 = .ok (.aload_n 0, 1) := by decide +kernel
theorem dX8_ofBout_97 : decode cX8_ofBout 97 = .ok (.getfield 38, 3) := by decide +kernel
theorem dX8_ofBout_100 : decode cX8_ofBout 100 = .ok (.iload_n 1, 1) := by decide +kernel
theorem dX8_ofBout_101 : decode cX8_ofBout 101 = .ok (.iaload, 1) := by decide +kernel
theorem dX8_ofBout_102 : decode cX8_ofBout 102 = .ok (.goto 9, 3) := by decide +kernel
theorem dX8_ofBout_105 : decode cX8_ofBout 105 = .ok (.aload_n 0, 1) := by decide +kernel
theorem dX8_ofBout_106 : decode cX8_ofBout 106 = .ok (.getfield 41, 3) := by decide +kernel
theorem dX8_ofBout_109 : decode cX8_ofBout 109 = .ok (.iload_n 1, 1) := by decide +kernel
theorem dX8_ofBout_110 : decode cX8_ofBout 110 = .ok (.iaload, 1) := by decide +kernel
theorem dX8_ofBout_111 : decode cX8_ofBout 111 = .ok (.ireturn, 1) := by decide +kernel
theorem dX8_ofPools_0 : decode cX8_ofPools 0 = .ok (.aload_n 0, 1) := by decide +kernel
theorem dX8_ofPools_1 : decode cX8_ofPools 1 = .ok (.aload_n 0, 1) := by decide +kernel
theorem dX8_ofPools_2 : decode cX8_ofPools 2 = .ok (.iload_n 1, 1) := by decide +kernel
theorem dX8_ofPools_3 : decode cX8_ofPools 3 = .ok (.iload_n 2, 1) := by decide +kernel
theorem dX8_ofPools_4 : decode cX8_ofPools 4 = .ok (.invokevirtual 182, 3) := by decide +kernel
theorem dX8_ofPools_7 : decode cX8_ofPools 7 = .ok (.ifCond .ne 7, 3) := by decide +kernel
theorem dX8_ofPools_10 : decode cX8_ofPools 10 = .ok (.iconst 1, 1) := by decide +kernel
theorem dX8_ofPools_11 : decode cX8_ofPools 11 = .ok (.goto 17, 3) := by decide +kernel
theorem dX8_ofPools_14 : decode cX8_ofPools 14 = .ok (.iload_n 3, 1) := by decide +kernel
theorem dX8_ofPools_15 : decode cX8_ofPools 15 = .ok (.iconst 0, 1) := by decide +kernel
theorem dX8_ofPools_16 : decode cX8_ofPools 16 = .ok (.iconst 3, 1) := by decide +kernel
theorem dX8_ofPools_17 : decode cX8_ofPools 17 = .ok (.invokestatic 87, 3) := by decide +kernel
theorem dX8_ofPools_20 : decode cX8_ofPools 20 = .ok (.ifCond .ne 7, 3) := by decide +kernel
theorem dX8_ofPools_23 : decode cX8_ofPools 23 = .ok (.iconst 2, 1) := by decide +kernel
theorem dX8_ofPools_24 : decode cX8_ofPools 24 = .ok (.goto 4, 3) := by decide +kernel
theorem dX8_ofPools_27 : decode cX8_ofPools 27 = .ok (.iconst 0, 1) := by decide +kernel
theorem dX8_ofPools_28 : decode cX8_ofPools 28 = .ok (.putfield 81, 3) := by decide +kernel
theorem dX8_ofPools_31 : decode cX8_ofPools 31 = .ok (.aload_n 0, 1) := by decide +kernel
theorem dX8_ofPools_32 : decode cX8_ofPools 32 = .ok (.getfield 81, 3) := by decide +kernel
theorem dX8_ofPools_35 : decode cX8_ofPools 35 = .ok (.ifCond .le 7, 3) := by decide +kernel
theorem dX8_ofPools_38 : decode cX8_ofPools 38 = .ok (.iconst 0, 1) := by decide +kernel
theorem dX8_ofPools_39 : decode cX8_ofPools 39 = .ok (.goto 10, 3) := by decide +kernel
theorem dX8_ofPools_42 : decode cX8_ofPools 42 = .ok (.aload_n 0, 1) := by decide +kernel
theorem dX8_ofPools_43 : decode cX8_ofPools 43 = .ok (.iload_n 1, 1) := by decide +kernel
theorem dX8_ofPools_44 : decode cX8_ofPools 44 = .ok (.iload_n 2, 1) := by decide +kernel
theorem dX8_ofPools_45 : decode cX8_ofPools 45 = .ok (.iload_n 3, 1) := by decide +kernel
theorem dX8_ofPools_46 : decode cX8_ofPools 46 = .ok (.invokevirtual 185, 3) := by decide +kernel
theorem dX8_ofPools_49 : decode cX8_ofPools 49 = .ok (.ireturn, 1) := by decide +kernel
theorem dX8_ofPool_0 : decode cX8_ofPool 0 = .ok (.aload_n 0, 1) := by decide +kernel
theorem dX8_ofPool_1 : decode cX8_ofPool 1 = .ok (.iload_n 1, 1) := by decide +kernel
theorem dX8_ofPool_2 : decode cX8_ofPool 2 = .ok (.iload_n 2, 1) := by decide +kernel
theorem dX8_ofPool_3 : decode cX8_ofPool 3 = .ok (.iload_n 3, 1) := by decide +kernel
theorem dX8_ofPool_4 : decode cX8_ofPool 4 = .ok (.invokevirtual 211, 3) := by decide +kernel
theorem dX8_ofPool_7 : decode cX8_ofPool 7 = .ok (.ireturn, 1) := by decide +kernel
theorem dX8_ofPoolAnew_0 : decode cX8_ofPoolAnew 0 = .ok (.aload_n 0, 1) := by decide +kernel
theorem dX8_ofPoolAnew_1 : decode cX8_ofPoolAnew 1 = .ok (.iload_n 1, 1) := by decide +kernel
theorem dX8_ofPoolAnew_2 : decode cX8_ofPoolAnew 2 = .ok (.iload_n 2, 1) := by decide +kernel
theorem dX8_ofPoolAnew_3 : decode cX8_ofPoolAnew 3 = .ok (.iload_n 3, 1) := by decide +kernel
theorem dX8_ofPoolAnew_4 : decode cX8_ofPoolAnew 4 = .ok (.invokevirtual 211, 3) := by decide +kernel
theorem dX8_ofPoolAnew_7 : decode cX8_ofPoolAnew 7 = .ok (.ireturn, 1) := by decide +kernel
theorem dX8_rank_0 : decode cX8_rank 0 = .ok (.aload_n 0, 1) := by decide +kernel
theorem dX8_rank_1 : decode cX8_rank 1 = .ok (.aload_n 0, 1) := by decide +kernel
theorem dX8_rank_2 : decode cX8_rank 2 = .ok (.iload_n 1, 1) := by decide +kernel
theorem dX8_rank_3 : decode cX8_rank 3 = .ok (.invokevirtual 98, 3) := by decide +kernel
theorem dX8_rank_6 : decode cX8_rank 6 = .ok (.ifCond .eq 11, 3) := by decide +kernel
theorem dX8_rank_9 : decode cX8_rank 9 = .ok (.iload_n 2, 1) := by decide +kernel
theorem dX8_rank_10 : decode cX8_rank 10 = .ok (.ifCond .lt 7, 3) := by decide +kernel
theorem dX8_rank_13 : decode cX8_rank 13 = .ok (.iconst 0, 1) := by decide +kernel
theorem dX8_rank_14 : decode cX8_rank 14 = .ok (.goto 4, 3) := by decide +kernel
theorem dX8_rank_17 : decode cX8_rank 17 = .ok (.iconst 1, 1) := by decide +kernel
theorem dX8_rank_18 : decode cX8_rank 18 = .ok (.putfield 81, 3) := by decide +kernel
theorem dX8_rank_21 : decode cX8_rank 21 = .ok (.aload_n 0, 1) := by decide +kernel
theorem dX8_rank_22 : decode cX8_rank 22 = .ok (.getfield 81, 3) := by decide +kernel
theorem dX8_rank_25 : decode cX8_rank 25 = .ok (.ifCond .le 5, 3) := by decide +kernel
theorem dX8_rank_28 : decode cX8_rank 28 = .ok (.iconst 0, 1) := by decide +kernel
theorem dX8_rank_29 : decode cX8_rank 29 = .ok (.ireturn, 1) := by decide +kernel
theorem dX8_rank_30 : decode cX8_rank 30 = .ok (.aload_n 0, 1) := by decide +kernel
theorem dX8_rank_31 : decode cX8_rank 31 = .ok (.iload_n 1, 1) := by decide +kernel
theorem dX8_rank_32 : decode cX8_rank 32 = .ok (.invokevirtual 191, 3) := by decide +kernel
theorem dX8_rank_35 : decode cX8_rank 35 = .ok (.istore_n 3, 1) := by decide +kernel
theorem dX8_rank_36 : decode cX8_rank 36 = .ok (.iload_n 2, 1) := by decide +kernel
theorem dX8_rank_37 : decode cX8_rank 37 = .ok (.iload_n 3, 1) := by decide +kernel
theorem dX8_rank_38 : decode cX8_rank 38 = .ok (.if_icmp .ge 12, 3) := by decide +kernel
theorem dX8_rank_41 : decode cX8_rank 41 = .ok (.aload_n 0, 1) := by decide +kernel
theorem dX8_rank_42 : decode cX8_rank 42 = .ok (.getfield 72, 3) := by decide +kernel
theorem dX8_rank_45 : decode cX8_rank 45 = .ok (.iload_n 2, 1) := by decide +kernel
theorem dX8_rank_46 : decode cX8_rank 46 = .ok (.iaload, 1) := by decide +kernel
theorem dX8_rank_47 : decode cX8_rank 47 = .ok (.goto 4, 3) := by decide +kernel
theorem dX8_rank_50 : decode cX8_rank 50 = .ok (.iconst (-1), 1) := by decide +kernel
theorem dX8_rank_51 : decode cX8_rank 51 = .ok (.ireturn, 1) := by decide +kernel
theorem dX8_meets_0 : decode cX8_meets 0 = .ok (.aload_n 0, 1) := by decide +kernel
theorem dX8_meets_1 : decode cX8_meets 1 = .ok (.aload_n 0, 1) := by decide +kernel
theorem dX8_meets_2 : decode cX8_meets 2 = .ok (.iload_n 1, 1) := by decide +kernel
theorem dX8_meets_3 : decode cX8_meets 3 = .ok (.iload_n 2, 1) := by decide +kernel
theorem dX8_meets_4 : decode cX8_meets 4 = .ok (.invokevirtual 208, 3) := by decide +kernel
theorem dX8_meets_7 : decode cX8_meets 7 = .ok (.ifCond .ne 7, 3) := by decide +kernel
theorem dX8_meets_10 : decode cX8_meets 10 = .ok (.iconst 1, 1) := by decide +kernel
theorem dX8_meets_11 : decode cX8_meets 11 = .ok (.goto 17, 3) := by decide +kernel
theorem dX8_meets_14 : decode cX8_meets 14 = .ok (.iload_n 3, 1) := by decide +kernel
theorem dX8_meets_15 : decode cX8_meets 15 = .ok (.iconst 0, 1) := by decide +kernel
theorem dX8_meets_16 : decode cX8_meets 16 = .ok (.iconst 2, 1) := by decide +kernel
theorem dX8_meets_17 : decode cX8_meets 17 = .ok (.invokestatic 87, 3) := by decide +kernel
theorem dX8_meets_20 : decode cX8_meets 20 = .ok (.ifCond .ne 7, 3) := by decide +kernel
theorem dX8_meets_23 : decode cX8_meets 23 = .ok (.iconst 2, 1) := by decide +kernel
theorem dX8_meets_24 : decode cX8_meets 24 = .ok (.goto 4, 3) := by decide +kernel
theorem dX8_meets_27 : decode cX8_meets 27 = .ok (.iconst 0, 1) := by decide +kernel
theorem dX8_meets_28 : decode cX8_meets 28 = .ok (.putfield 81, 3) := by decide +kernel
theorem dX8_meets_31 : decode cX8_meets 31 = .ok (.aload_n 0, 1) := by decide +kernel
theorem dX8_meets_32 : decode cX8_meets 32 = .ok (.getfield 81, 3) := by decide +kernel
theorem dX8_meets_35 : decode cX8_meets 35 = .ok (.ifCond .le 5, 3) := by decide +kernel
theorem dX8_meets_38 : decode cX8_meets 38 = .ok (.iconst 0, 1) := by decide +kernel
theorem dX8_meets_39 : decode cX8_meets 39 = .ok (.ireturn, 1) := by decide +kernel
theorem dX8_meets_40 : decode cX8_meets 40 = .ok (.iload_n 3, 1) := by decide +kernel
theorem dX8_meets_41 : decode cX8_meets 41 = .ok (.iconst 2, 1) := by decide +kernel
theorem dX8_meets_42 : decode cX8_meets 42 = .ok (.if_icmp .ne 17, 3) := by decide +kernel
theorem dX8_meets_45 : decode cX8_meets 45 = .ok (.aload_n 0, 1) := by decide +kernel
theorem dX8_meets_46 : decode cX8_meets 46 = .ok (.getfield 78, 3) := by decide +kernel
theorem dX8_meets_49 : decode cX8_meets 49 = .ok (.bipush 16, 2) := by decide +kernel
theorem dX8_meets_51 : decode cX8_meets 51 = .ok (.iload_n 1, 1) := by decide +kernel
theorem dX8_meets_52 : decode cX8_meets 52 = .ok (.imul, 1) := by decide +kernel
theorem dX8_meets_53 : decode cX8_meets 53 = .ok (.iload_n 2, 1) := by decide +kernel
theorem dX8_meets_54 : decode cX8_meets 54 = .ok (.iadd, 1) := by decide +kernel
theorem dX8_meets_55 : decode cX8_meets 55 = .ok (.iaload, 1) := by decide +kernel
theorem dX8_meets_56 : decode cX8_meets 56 = .ok (.goto 18, 3) := by decide +kernel
theorem dX8_meets_59 : decode cX8_meets 59 = .ok (.aload_n 0, 1) := by decide +kernel
theorem dX8_meets_60 : decode cX8_meets 60 = .ok (.getfield 75, 3) := by decide +kernel
theorem dX8_meets_63 : decode cX8_meets 63 = .ok (.bipush 32, 2) := by decide +kernel
theorem dX8_meets_65 : decode cX8_meets 65 = .ok (.iload_n 1, 1) := by decide +kernel
theorem dX8_meets_66 : decode cX8_meets 66 = .ok (.imul, 1) := by decide +kernel
theorem dX8_meets_67 : decode cX8_meets 67 = .ok (.iconst 2, 1) := by decide +kernel
theorem dX8_meets_68 : decode cX8_meets 68 = .ok (.iload_n 2, 1) := by decide +kernel
theorem dX8_meets_69 : decode cX8_meets 69 = .ok (.imul, 1) := by decide +kernel
theorem dX8_meets_70 : decode cX8_meets 70 = .ok (.iadd, 1) := by decide +kernel
theorem dX8_meets_71 : decode cX8_meets 71 = .ok (.iload_n 3, 1) := by decide +kernel
theorem dX8_meets_72 : decode cX8_meets 72 = .ok (.iadd, 1) := by decide +kernel
theorem dX8_meets_73 : decode cX8_meets 73 = .ok (.iaload, 1) := by decide +kernel
theorem dX8_meets_74 : decode cX8_meets 74 = .ok (.ireturn, 1) := by decide +kernel
end
section
theorem dL_fencer_0 : decode cL_fencer 0 = .ok (.aload_n 1, 1) := by decide +kernel
theorem dL_fencer_1 : decode cL_fencer 1 = .ok (.iconst 0, 1) := by decide +kernel
theorem dL_fencer_2 : decode cL_fencer 2 = .ok (.aload_n 0, 1) := by decide +kernel
theorem dL_fencer_3 : decode cL_fencer 3 = .ok (.invokevirtual 7, 3) := by decide +kernel
theorem dL_fencer_6 : decode cL_fencer 6 = .ok (.i2l, 1) := by decide +kernel
theorem dL_fencer_7 : decode cL_fencer 7 = .ok (.lastore, 1) := by decide +kernel
theorem dL_fencer_8 : decode cL_fencer 8 = .ok (.goto 6, 3) := by decide +kernel
theorem dL_fencer_11 : decode cL_fencer 11 = .ok (.astore_n 2, 1) := by decide +kernel
theorem dL_fencer_12 : decode cL_fencer 12 = .ok (.iconst 1, 1) := by decide +kernel
theorem dL_fencer_13 : decode cL_fencer 13 = .ok (.ireturn, 1) := by decide +kernel
theorem dL_fencer_14 : decode cL_fencer 14 = .ok (.iconst 0, 1) := by decide +kernel
theorem dL_fencer_15 : decode cL_fencer 15 = .ok (.ireturn, 1) := by decide +kernel
theorem dL_begin_0 : decode cL_begin 0 = .ok (.aload 6, 2) := by decide +kernel
theorem dL_begin_2 : decode cL_begin 2 = .ok (.iconst 0, 1) := by decide +kernel
theorem dL_begin_3 : decode cL_begin 3 = .ok (.aload_n 0, 1) := by decide +kernel
theorem dL_begin_4 : decode cL_begin 4 = .ok (.iload_n 1, 1) := by decide +kernel
theorem dL_begin_5 : decode cL_begin 5 = .ok (.iload_n 2, 1) := by decide +kernel
theorem dL_begin_6 : decode cL_begin 6 = .ok (.iload_n 3, 1) := by decide +kernel
theorem dL_begin_7 : decode cL_begin 7 = .ok (.iload 4, 2) := by decide +kernel
theorem dL_begin_9 : decode cL_begin 9 = .ok (.iload 5, 2) := by decide +kernel
theorem dL_begin_11 : decode cL_begin 11 = .ok (.invokevirtual 15, 3) := by decide +kernel
theorem dL_begin_14 : decode cL_begin 14 = .ok (.i2l, 1) := by decide +kernel
theorem dL_begin_15 : decode cL_begin 15 = .ok (.lastore, 1) := by decide +kernel
theorem dL_begin_16 : decode cL_begin 16 = .ok (.goto 15, 3) := by decide +kernel
theorem dL_begin_19 : decode cL_begin 19 = .ok (.astore 7, 2) := by decide +kernel
theorem dL_begin_21 : decode cL_begin 21 = .ok (.iconst 1, 1) := by decide +kernel
theorem dL_begin_22 : decode cL_begin 22 = .ok (.ireturn, 1) := by decide +kernel
theorem dL_begin_23 : decode cL_begin 23 = .ok (.astore 7, 2) := by decide +kernel
theorem dL_begin_25 : decode cL_begin 25 = .ok (.iconst 2, 1) := by decide +kernel
theorem dL_begin_26 : decode cL_begin 26 = .ok (.ireturn, 1) := by decide +kernel
theorem dL_begin_27 : decode cL_begin 27 = .ok (.astore 7, 2) := by decide +kernel
theorem dL_begin_29 : decode cL_begin 29 = .ok (.iconst 3, 1) := by decide +kernel
theorem dL_begin_30 : decode cL_begin 30 = .ok (.ireturn, 1) := by decide +kernel
theorem dL_begin_31 : decode cL_begin 31 = .ok (.iconst 0, 1) := by decide +kernel
theorem dL_begin_32 : decode cL_begin 32 = .ok (.ireturn, 1) := by decide +kernel
theorem dL_act_0 : decode cL_act 0 = .ok (.aload 4, 2) := by decide +kernel
theorem dL_act_2 : decode cL_act 2 = .ok (.iconst 0, 1) := by decide +kernel
theorem dL_act_3 : decode cL_act 3 = .ok (.aload_n 0, 1) := by decide +kernel
theorem dL_act_4 : decode cL_act 4 = .ok (.iload_n 1, 1) := by decide +kernel
theorem dL_act_5 : decode cL_act 5 = .ok (.iload_n 2, 1) := by decide +kernel
theorem dL_act_6 : decode cL_act 6 = .ok (.iload_n 3, 1) := by decide +kernel
theorem dL_act_7 : decode cL_act 7 = .ok (.invokevirtual 23, 3) := by decide +kernel
theorem dL_act_10 : decode cL_act 10 = .ok (.i2l, 1) := by decide +kernel
theorem dL_act_11 : decode cL_act 11 = .ok (.lastore, 1) := by decide +kernel
theorem dL_act_12 : decode cL_act 12 = .ok (.goto 11, 3) := by decide +kernel
theorem dL_act_15 : decode cL_act 15 = .ok (.astore 5, 2) := by decide +kernel
theorem dL_act_17 : decode cL_act 17 = .ok (.iconst 1, 1) := by decide +kernel
theorem dL_act_18 : decode cL_act 18 = .ok (.ireturn, 1) := by decide +kernel
theorem dL_act_19 : decode cL_act 19 = .ok (.astore 5, 2) := by decide +kernel
theorem dL_act_21 : decode cL_act 21 = .ok (.iconst 2, 1) := by decide +kernel
theorem dL_act_22 : decode cL_act 22 = .ok (.ireturn, 1) := by decide +kernel
theorem dL_act_23 : decode cL_act 23 = .ok (.iconst 0, 1) := by decide +kernel
theorem dL_act_24 : decode cL_act 24 = .ok (.ireturn, 1) := by decide +kernel
theorem dL_hit_0 : decode cL_hit 0 = .ok (.aload 5, 2) := by decide +kernel
theorem dL_hit_2 : decode cL_hit 2 = .ok (.iconst 0, 1) := by decide +kernel
theorem dL_hit_3 : decode cL_hit 3 = .ok (.aload_n 0, 1) := by decide +kernel
theorem dL_hit_4 : decode cL_hit 4 = .ok (.iload_n 1, 1) := by decide +kernel
theorem dL_hit_5 : decode cL_hit 5 = .ok (.iload_n 2, 1) := by decide +kernel
theorem dL_hit_6 : decode cL_hit 6 = .ok (.iload_n 3, 1) := by decide +kernel
theorem dL_hit_7 : decode cL_hit 7 = .ok (.iload 4, 2) := by decide +kernel
theorem dL_hit_9 : decode cL_hit 9 = .ok (.invokevirtual 27, 3) := by decide +kernel
theorem dL_hit_12 : decode cL_hit 12 = .ok (.i2l, 1) := by decide +kernel
theorem dL_hit_13 : decode cL_hit 13 = .ok (.lastore, 1) := by decide +kernel
theorem dL_hit_14 : decode cL_hit 14 = .ok (.goto 11, 3) := by decide +kernel
theorem dL_hit_17 : decode cL_hit 17 = .ok (.astore 6, 2) := by decide +kernel
theorem dL_hit_19 : decode cL_hit 19 = .ok (.iconst 1, 1) := by decide +kernel
theorem dL_hit_20 : decode cL_hit 20 = .ok (.ireturn, 1) := by decide +kernel
theorem dL_hit_21 : decode cL_hit 21 = .ok (.astore 6, 2) := by decide +kernel
theorem dL_hit_23 : decode cL_hit 23 = .ok (.iconst 2, 1) := by decide +kernel
theorem dL_hit_24 : decode cL_hit 24 = .ok (.ireturn, 1) := by decide +kernel
theorem dL_hit_25 : decode cL_hit 25 = .ok (.iconst 0, 1) := by decide +kernel
theorem dL_hit_26 : decode cL_hit 26 = .ok (.ireturn, 1) := by decide +kernel
theorem dL_judge_0 : decode cL_judge 0 = .ok (.aload_n 1, 1) := by decide +kernel
theorem dL_judge_1 : decode cL_judge 1 = .ok (.iconst 0, 1) := by decide +kernel
theorem dL_judge_2 : decode cL_judge 2 = .ok (.aload_n 0, 1) := by decide +kernel
theorem dL_judge_3 : decode cL_judge 3 = .ok (.invokevirtual 31, 3) := by decide +kernel
theorem dL_judge_6 : decode cL_judge 6 = .ok (.i2l, 1) := by decide +kernel
theorem dL_judge_7 : decode cL_judge 7 = .ok (.lastore, 1) := by decide +kernel
theorem dL_judge_8 : decode cL_judge 8 = .ok (.goto 6, 3) := by decide +kernel
theorem dL_judge_11 : decode cL_judge 11 = .ok (.astore_n 2, 1) := by decide +kernel
theorem dL_judge_12 : decode cL_judge 12 = .ok (.iconst 1, 1) := by decide +kernel
theorem dL_judge_13 : decode cL_judge 13 = .ok (.ireturn, 1) := by decide +kernel
theorem dL_judge_14 : decode cL_judge 14 = .ok (.iconst 0, 1) := by decide +kernel
theorem dL_judge_15 : decode cL_judge 15 = .ok (.ireturn, 1) := by decide +kernel
theorem dL_card_0 : decode cL_card 0 = .ok (.aload_n 3, 1) := by decide +kernel
theorem dL_card_1 : decode cL_card 1 = .ok (.iconst 0, 1) := by decide +kernel
theorem dL_card_2 : decode cL_card 2 = .ok (.aload_n 0, 1) := by decide +kernel
theorem dL_card_3 : decode cL_card 3 = .ok (.iload_n 1, 1) := by decide +kernel
theorem dL_card_4 : decode cL_card 4 = .ok (.iload_n 2, 1) := by decide +kernel
theorem dL_card_5 : decode cL_card 5 = .ok (.invokevirtual 34, 3) := by decide +kernel
theorem dL_card_8 : decode cL_card 8 = .ok (.i2l, 1) := by decide +kernel
theorem dL_card_9 : decode cL_card 9 = .ok (.lastore, 1) := by decide +kernel
theorem dL_card_10 : decode cL_card 10 = .ok (.goto 11, 3) := by decide +kernel
theorem dL_card_13 : decode cL_card 13 = .ok (.astore 4, 2) := by decide +kernel
theorem dL_card_15 : decode cL_card 15 = .ok (.iconst 1, 1) := by decide +kernel
theorem dL_card_16 : decode cL_card 16 = .ok (.ireturn, 1) := by decide +kernel
theorem dL_card_17 : decode cL_card 17 = .ok (.astore 4, 2) := by decide +kernel
theorem dL_card_19 : decode cL_card 19 = .ok (.iconst 2, 1) := by decide +kernel
theorem dL_card_20 : decode cL_card 20 = .ok (.ireturn, 1) := by decide +kernel
theorem dL_card_21 : decode cL_card 21 = .ok (.iconst 0, 1) := by decide +kernel
theorem dL_card_22 : decode cL_card 22 = .ok (.ireturn, 1) := by decide +kernel
theorem dL_clock_0 : decode cL_clock 0 = .ok (.aload_n 2, 1) := by decide +kernel
theorem dL_clock_1 : decode cL_clock 1 = .ok (.iconst 0, 1) := by decide +kernel
theorem dL_clock_2 : decode cL_clock 2 = .ok (.aload_n 0, 1) := by decide +kernel
theorem dL_clock_3 : decode cL_clock 3 = .ok (.iload_n 1, 1) := by decide +kernel
theorem dL_clock_4 : decode cL_clock 4 = .ok (.invokevirtual 38, 3) := by decide +kernel
theorem dL_clock_7 : decode cL_clock 7 = .ok (.i2l, 1) := by decide +kernel
theorem dL_clock_8 : decode cL_clock 8 = .ok (.lastore, 1) := by decide +kernel
theorem dL_clock_9 : decode cL_clock 9 = .ok (.goto 9, 3) := by decide +kernel
theorem dL_clock_12 : decode cL_clock 12 = .ok (.astore_n 3, 1) := by decide +kernel
theorem dL_clock_13 : decode cL_clock 13 = .ok (.iconst 1, 1) := by decide +kernel
theorem dL_clock_14 : decode cL_clock 14 = .ok (.ireturn, 1) := by decide +kernel
theorem dL_clock_15 : decode cL_clock 15 = .ok (.astore_n 3, 1) := by decide +kernel
theorem dL_clock_16 : decode cL_clock 16 = .ok (.iconst 2, 1) := by decide +kernel
theorem dL_clock_17 : decode cL_clock 17 = .ok (.ireturn, 1) := by decide +kernel
theorem dL_clock_18 : decode cL_clock 18 = .ok (.iconst 0, 1) := by decide +kernel
theorem dL_clock_19 : decode cL_clock 19 = .ok (.ireturn, 1) := by decide +kernel
theorem dL_end_0 : decode cL_end 0 = .ok (.aload_n 1, 1) := by decide +kernel
theorem dL_end_1 : decode cL_end 1 = .ok (.iconst 0, 1) := by decide +kernel
theorem dL_end_2 : decode cL_end 2 = .ok (.aload_n 0, 1) := by decide +kernel
theorem dL_end_3 : decode cL_end 3 = .ok (.invokevirtual 42, 3) := by decide +kernel
theorem dL_end_6 : decode cL_end 6 = .ok (.i2l, 1) := by decide +kernel
theorem dL_end_7 : decode cL_end 7 = .ok (.lastore, 1) := by decide +kernel
theorem dL_end_8 : decode cL_end 8 = .ok (.goto 6, 3) := by decide +kernel
theorem dL_end_11 : decode cL_end 11 = .ok (.astore_n 2, 1) := by decide +kernel
theorem dL_end_12 : decode cL_end 12 = .ok (.iconst 1, 1) := by decide +kernel
theorem dL_end_13 : decode cL_end 13 = .ok (.ireturn, 1) := by decide +kernel
theorem dL_end_14 : decode cL_end 14 = .ok (.iconst 0, 1) := by decide +kernel
theorem dL_end_15 : decode cL_end 15 = .ok (.ireturn, 1) := by decide +kernel
theorem dL_seed_0 : decode cL_seed 0 = .ok (.aload_n 0, 1) := by decide +kernel
theorem dL_seed_1 : decode cL_seed 1 = .ok (.iload_n 1, 1) := by decide +kernel
theorem dL_seed_2 : decode cL_seed 2 = .ok (.invokevirtual 45, 3) := by decide +kernel
theorem dL_seed_5 : decode cL_seed 5 = .ok (.goto 6, 3) := by decide +kernel
theorem dL_seed_8 : decode cL_seed 8 = .ok (.astore_n 2, 1) := by decide +kernel
theorem dL_seed_9 : decode cL_seed 9 = .ok (.iconst 1, 1) := by decide +kernel
theorem dL_seed_10 : decode cL_seed 10 = .ok (.ireturn, 1) := by decide +kernel
theorem dL_seed_11 : decode cL_seed 11 = .ok (.iconst 0, 1) := by decide +kernel
theorem dL_seed_12 : decode cL_seed 12 = .ok (.ireturn, 1) := by decide +kernel
theorem dL_pool_0 : decode cL_pool 0 = .ok (.aload_n 2, 1) := by decide +kernel
theorem dL_pool_1 : decode cL_pool 1 = .ok (.iconst 0, 1) := by decide +kernel
theorem dL_pool_2 : decode cL_pool 2 = .ok (.aload_n 0, 1) := by decide +kernel
theorem dL_pool_3 : decode cL_pool 3 = .ok (.iload_n 1, 1) := by decide +kernel
theorem dL_pool_4 : decode cL_pool 4 = .ok (.invokevirtual 49, 3) := by decide +kernel
theorem dL_pool_7 : decode cL_pool 7 = .ok (.i2l, 1) := by decide +kernel
theorem dL_pool_8 : decode cL_pool 8 = .ok (.lastore, 1) := by decide +kernel
theorem dL_pool_9 : decode cL_pool 9 = .ok (.goto 9, 3) := by decide +kernel
theorem dL_pool_12 : decode cL_pool 12 = .ok (.astore_n 3, 1) := by decide +kernel
theorem dL_pool_13 : decode cL_pool 13 = .ok (.iconst 1, 1) := by decide +kernel
theorem dL_pool_14 : decode cL_pool 14 = .ok (.ireturn, 1) := by decide +kernel
theorem dL_pool_15 : decode cL_pool 15 = .ok (.astore_n 3, 1) := by decide +kernel
theorem dL_pool_16 : decode cL_pool 16 = .ok (.iconst 2, 1) := by decide +kernel
theorem dL_pool_17 : decode cL_pool 17 = .ok (.ireturn, 1) := by decide +kernel
theorem dL_pool_18 : decode cL_pool 18 = .ok (.iconst 0, 1) := by decide +kernel
theorem dL_pool_19 : decode cL_pool 19 = .ok (.ireturn, 1) := by decide +kernel
theorem dL_withdraw_0 : decode cL_withdraw 0 = .ok (.aload_n 3, 1) := by decide +kernel
theorem dL_withdraw_1 : decode cL_withdraw 1 = .ok (.iconst 0, 1) := by decide +kernel
theorem dL_withdraw_2 : decode cL_withdraw 2 = .ok (.aload_n 0, 1) := by decide +kernel
theorem dL_withdraw_3 : decode cL_withdraw 3 = .ok (.iload_n 1, 1) := by decide +kernel
theorem dL_withdraw_4 : decode cL_withdraw 4 = .ok (.iload_n 2, 1) := by decide +kernel
theorem dL_withdraw_5 : decode cL_withdraw 5 = .ok (.invokevirtual 52, 3) := by decide +kernel
theorem dL_withdraw_8 : decode cL_withdraw 8 = .ok (.i2l, 1) := by decide +kernel
theorem dL_withdraw_9 : decode cL_withdraw 9 = .ok (.lastore, 1) := by decide +kernel
theorem dL_withdraw_10 : decode cL_withdraw 10 = .ok (.goto 11, 3) := by decide +kernel
theorem dL_withdraw_13 : decode cL_withdraw 13 = .ok (.astore 4, 2) := by decide +kernel
theorem dL_withdraw_15 : decode cL_withdraw 15 = .ok (.iconst 1, 1) := by decide +kernel
theorem dL_withdraw_16 : decode cL_withdraw 16 = .ok (.ireturn, 1) := by decide +kernel
theorem dL_withdraw_17 : decode cL_withdraw 17 = .ok (.astore 4, 2) := by decide +kernel
theorem dL_withdraw_19 : decode cL_withdraw 19 = .ok (.iconst 2, 1) := by decide +kernel
theorem dL_withdraw_20 : decode cL_withdraw 20 = .ok (.ireturn, 1) := by decide +kernel
theorem dL_withdraw_21 : decode cL_withdraw 21 = .ok (.iconst 0, 1) := by decide +kernel
theorem dL_withdraw_22 : decode cL_withdraw 22 = .ok (.ireturn, 1) := by decide +kernel
theorem dL_tableau_0 : decode cL_tableau 0 = .ok (.aload_n 2, 1) := by decide +kernel
theorem dL_tableau_1 : decode cL_tableau 1 = .ok (.iconst 0, 1) := by decide +kernel
theorem dL_tableau_2 : decode cL_tableau 2 = .ok (.aload_n 0, 1) := by decide +kernel
theorem dL_tableau_3 : decode cL_tableau 3 = .ok (.iload_n 1, 1) := by decide +kernel
theorem dL_tableau_4 : decode cL_tableau 4 = .ok (.invokevirtual 55, 3) := by decide +kernel
theorem dL_tableau_7 : decode cL_tableau 7 = .ok (.i2l, 1) := by decide +kernel
theorem dL_tableau_8 : decode cL_tableau 8 = .ok (.lastore, 1) := by decide +kernel
theorem dL_tableau_9 : decode cL_tableau 9 = .ok (.goto 9, 3) := by decide +kernel
theorem dL_tableau_12 : decode cL_tableau 12 = .ok (.astore_n 3, 1) := by decide +kernel
theorem dL_tableau_13 : decode cL_tableau 13 = .ok (.iconst 1, 1) := by decide +kernel
theorem dL_tableau_14 : decode cL_tableau 14 = .ok (.ireturn, 1) := by decide +kernel
theorem dL_tableau_15 : decode cL_tableau 15 = .ok (.astore_n 3, 1) := by decide +kernel
theorem dL_tableau_16 : decode cL_tableau 16 = .ok (.iconst 2, 1) := by decide +kernel
theorem dL_tableau_17 : decode cL_tableau 17 = .ok (.ireturn, 1) := by decide +kernel
theorem dL_tableau_18 : decode cL_tableau 18 = .ok (.iconst 0, 1) := by decide +kernel
theorem dL_tableau_19 : decode cL_tableau 19 = .ok (.ireturn, 1) := by decide +kernel
theorem dL_wins_0 : decode cL_wins 0 = .ok (.aload 4, 2) := by decide +kernel
theorem dL_wins_2 : decode cL_wins 2 = .ok (.iconst 0, 1) := by decide +kernel
theorem dL_wins_3 : decode cL_wins 3 = .ok (.aload_n 0, 1) := by decide +kernel
theorem dL_wins_4 : decode cL_wins 4 = .ok (.iload_n 1, 1) := by decide +kernel
theorem dL_wins_5 : decode cL_wins 5 = .ok (.iload_n 2, 1) := by decide +kernel
theorem dL_wins_6 : decode cL_wins 6 = .ok (.iload_n 3, 1) := by decide +kernel
theorem dL_wins_7 : decode cL_wins 7 = .ok (.invokevirtual 58, 3) := by decide +kernel
theorem dL_wins_10 : decode cL_wins 10 = .ok (.i2l, 1) := by decide +kernel
theorem dL_wins_11 : decode cL_wins 11 = .ok (.lastore, 1) := by decide +kernel
theorem dL_wins_12 : decode cL_wins 12 = .ok (.goto 15, 3) := by decide +kernel
theorem dL_wins_15 : decode cL_wins 15 = .ok (.astore 5, 2) := by decide +kernel
theorem dL_wins_17 : decode cL_wins 17 = .ok (.iconst 1, 1) := by decide +kernel
theorem dL_wins_18 : decode cL_wins 18 = .ok (.ireturn, 1) := by decide +kernel
theorem dL_wins_19 : decode cL_wins 19 = .ok (.astore 5, 2) := by decide +kernel
theorem dL_wins_21 : decode cL_wins 21 = .ok (.iconst 2, 1) := by decide +kernel
theorem dL_wins_22 : decode cL_wins 22 = .ok (.ireturn, 1) := by decide +kernel
theorem dL_wins_23 : decode cL_wins 23 = .ok (.astore 5, 2) := by decide +kernel
theorem dL_wins_25 : decode cL_wins 25 = .ok (.iconst 3, 1) := by decide +kernel
theorem dL_wins_26 : decode cL_wins 26 = .ok (.ireturn, 1) := by decide +kernel
theorem dL_wins_27 : decode cL_wins 27 = .ok (.iconst 0, 1) := by decide +kernel
theorem dL_wins_28 : decode cL_wins 28 = .ok (.ireturn, 1) := by decide +kernel
theorem dL_lamp_0 : decode cL_lamp 0 = .ok (.aload_n 2, 1) := by decide +kernel
theorem dL_lamp_1 : decode cL_lamp 1 = .ok (.iconst 0, 1) := by decide +kernel
theorem dL_lamp_2 : decode cL_lamp 2 = .ok (.aload_n 0, 1) := by decide +kernel
theorem dL_lamp_3 : decode cL_lamp 3 = .ok (.iload_n 1, 1) := by decide +kernel
theorem dL_lamp_4 : decode cL_lamp 4 = .ok (.invokevirtual 61, 3) := by decide +kernel
theorem dL_lamp_7 : decode cL_lamp 7 = .ok (.i2l, 1) := by decide +kernel
theorem dL_lamp_8 : decode cL_lamp 8 = .ok (.lastore, 1) := by decide +kernel
theorem dL_lamp_9 : decode cL_lamp 9 = .ok (.goto 6, 3) := by decide +kernel
theorem dL_lamp_12 : decode cL_lamp 12 = .ok (.astore_n 3, 1) := by decide +kernel
theorem dL_lamp_13 : decode cL_lamp 13 = .ok (.iconst 1, 1) := by decide +kernel
theorem dL_lamp_14 : decode cL_lamp 14 = .ok (.ireturn, 1) := by decide +kernel
theorem dL_lamp_15 : decode cL_lamp 15 = .ok (.iconst 0, 1) := by decide +kernel
theorem dL_lamp_16 : decode cL_lamp 16 = .ok (.ireturn, 1) := by decide +kernel
theorem dL_ofBout_0 : decode cL_ofBout 0 = .ok (.aload_n 3, 1) := by decide +kernel
theorem dL_ofBout_1 : decode cL_ofBout 1 = .ok (.iconst 0, 1) := by decide +kernel
theorem dL_ofBout_2 : decode cL_ofBout 2 = .ok (.aload_n 0, 1) := by decide +kernel
theorem dL_ofBout_3 : decode cL_ofBout 3 = .ok (.iload_n 1, 1) := by decide +kernel
theorem dL_ofBout_4 : decode cL_ofBout 4 = .ok (.iload_n 2, 1) := by decide +kernel
theorem dL_ofBout_5 : decode cL_ofBout 5 = .ok (.invokevirtual 64, 3) := by decide +kernel
theorem dL_ofBout_8 : decode cL_ofBout 8 = .ok (.i2l, 1) := by decide +kernel
theorem dL_ofBout_9 : decode cL_ofBout 9 = .ok (.lastore, 1) := by decide +kernel
theorem dL_ofBout_10 : decode cL_ofBout 10 = .ok (.goto 11, 3) := by decide +kernel
theorem dL_ofBout_13 : decode cL_ofBout 13 = .ok (.astore 4, 2) := by decide +kernel
theorem dL_ofBout_15 : decode cL_ofBout 15 = .ok (.iconst 1, 1) := by decide +kernel
theorem dL_ofBout_16 : decode cL_ofBout 16 = .ok (.ireturn, 1) := by decide +kernel
theorem dL_ofBout_17 : decode cL_ofBout 17 = .ok (.astore 4, 2) := by decide +kernel
theorem dL_ofBout_19 : decode cL_ofBout 19 = .ok (.iconst 2, 1) := by decide +kernel
theorem dL_ofBout_20 : decode cL_ofBout 20 = .ok (.ireturn, 1) := by decide +kernel
theorem dL_ofBout_21 : decode cL_ofBout 21 = .ok (.iconst 0, 1) := by decide +kernel
theorem dL_ofBout_22 : decode cL_ofBout 22 = .ok (.ireturn, 1) := by decide +kernel
theorem dL_ofPool_0 : decode cL_ofPool 0 = .ok (.aload 4, 2) := by decide +kernel
theorem dL_ofPool_2 : decode cL_ofPool 2 = .ok (.iconst 0, 1) := by decide +kernel
theorem dL_ofPool_3 : decode cL_ofPool 3 = .ok (.aload_n 0, 1) := by decide +kernel
theorem dL_ofPool_4 : decode cL_ofPool 4 = .ok (.iload_n 1, 1) := by decide +kernel
theorem dL_ofPool_5 : decode cL_ofPool 5 = .ok (.iload_n 2, 1) := by decide +kernel
theorem dL_ofPool_6 : decode cL_ofPool 6 = .ok (.iload_n 3, 1) := by decide +kernel
theorem dL_ofPool_7 : decode cL_ofPool 7 = .ok (.invokevirtual 67, 3) := by decide +kernel
theorem dL_ofPool_10 : decode cL_ofPool 10 = .ok (.i2l, 1) := by decide +kernel
theorem dL_ofPool_11 : decode cL_ofPool 11 = .ok (.lastore, 1) := by decide +kernel
theorem dL_ofPool_12 : decode cL_ofPool 12 = .ok (.goto 11, 3) := by decide +kernel
theorem dL_ofPool_15 : decode cL_ofPool 15 = .ok (.astore 5, 2) := by decide +kernel
theorem dL_ofPool_17 : decode cL_ofPool 17 = .ok (.iconst 1, 1) := by decide +kernel
theorem dL_ofPool_18 : decode cL_ofPool 18 = .ok (.ireturn, 1) := by decide +kernel
theorem dL_ofPool_19 : decode cL_ofPool 19 = .ok (.astore 5, 2) := by decide +kernel
theorem dL_ofPool_21 : decode cL_ofPool 21 = .ok (.iconst 2, 1) := by decide +kernel
theorem dL_ofPool_22 : decode cL_ofPool 22 = .ok (.ireturn, 1) := by decide +kernel
theorem dL_ofPool_23 : decode cL_ofPool 23 = .ok (.iconst 0, 1) := by decide +kernel
theorem dL_ofPool_24 : decode cL_ofPool 24 = .ok (.ireturn, 1) := by decide +kernel
theorem dL_ofPoolAnew_0 : decode cL_ofPoolAnew 0 = .ok (.aload 4, 2) := by decide +kernel
theorem dL_ofPoolAnew_2 : decode cL_ofPoolAnew 2 = .ok (.iconst 0, 1) := by decide +kernel
theorem dL_ofPoolAnew_3 : decode cL_ofPoolAnew 3 = .ok (.aload_n 0, 1) := by decide +kernel
theorem dL_ofPoolAnew_4 : decode cL_ofPoolAnew 4 = .ok (.iload_n 1, 1) := by decide +kernel
theorem dL_ofPoolAnew_5 : decode cL_ofPoolAnew 5 = .ok (.iload_n 2, 1) := by decide +kernel
theorem dL_ofPoolAnew_6 : decode cL_ofPoolAnew 6 = .ok (.iload_n 3, 1) := by decide +kernel
theorem dL_ofPoolAnew_7 : decode cL_ofPoolAnew 7 = .ok (.invokevirtual 70, 3) := by decide +kernel
theorem dL_ofPoolAnew_10 : decode cL_ofPoolAnew 10 = .ok (.i2l, 1) := by decide +kernel
theorem dL_ofPoolAnew_11 : decode cL_ofPoolAnew 11 = .ok (.lastore, 1) := by decide +kernel
theorem dL_ofPoolAnew_12 : decode cL_ofPoolAnew 12 = .ok (.goto 11, 3) := by decide +kernel
theorem dL_ofPoolAnew_15 : decode cL_ofPoolAnew 15 = .ok (.astore 5, 2) := by decide +kernel
theorem dL_ofPoolAnew_17 : decode cL_ofPoolAnew 17 = .ok (.iconst 1, 1) := by decide +kernel
theorem dL_ofPoolAnew_18 : decode cL_ofPoolAnew 18 = .ok (.ireturn, 1) := by decide +kernel
theorem dL_ofPoolAnew_19 : decode cL_ofPoolAnew 19 = .ok (.astore 5, 2) := by decide +kernel
theorem dL_ofPoolAnew_21 : decode cL_ofPoolAnew 21 = .ok (.iconst 2, 1) := by decide +kernel
theorem dL_ofPoolAnew_22 : decode cL_ofPoolAnew 22 = .ok (.ireturn, 1) := by decide +kernel
theorem dL_ofPoolAnew_23 : decode cL_ofPoolAnew 23 = .ok (.iconst 0, 1) := by decide +kernel
theorem dL_ofPoolAnew_24 : decode cL_ofPoolAnew 24 = .ok (.ireturn, 1) := by decide +kernel
theorem dL_rank_0 : decode cL_rank 0 = .ok (.aload_n 3, 1) := by decide +kernel
theorem dL_rank_1 : decode cL_rank 1 = .ok (.iconst 0, 1) := by decide +kernel
theorem dL_rank_2 : decode cL_rank 2 = .ok (.aload_n 0, 1) := by decide +kernel
theorem dL_rank_3 : decode cL_rank 3 = .ok (.iload_n 1, 1) := by decide +kernel
theorem dL_rank_4 : decode cL_rank 4 = .ok (.iload_n 2, 1) := by decide +kernel
theorem dL_rank_5 : decode cL_rank 5 = .ok (.invokevirtual 73, 3) := by decide +kernel
theorem dL_rank_8 : decode cL_rank 8 = .ok (.i2l, 1) := by decide +kernel
theorem dL_rank_9 : decode cL_rank 9 = .ok (.lastore, 1) := by decide +kernel
theorem dL_rank_10 : decode cL_rank 10 = .ok (.goto 7, 3) := by decide +kernel
theorem dL_rank_13 : decode cL_rank 13 = .ok (.astore 4, 2) := by decide +kernel
theorem dL_rank_15 : decode cL_rank 15 = .ok (.iconst 1, 1) := by decide +kernel
theorem dL_rank_16 : decode cL_rank 16 = .ok (.ireturn, 1) := by decide +kernel
theorem dL_rank_17 : decode cL_rank 17 = .ok (.iconst 0, 1) := by decide +kernel
theorem dL_rank_18 : decode cL_rank 18 = .ok (.ireturn, 1) := by decide +kernel
theorem dL_meets_0 : decode cL_meets 0 = .ok (.aload 4, 2) := by decide +kernel
theorem dL_meets_2 : decode cL_meets 2 = .ok (.iconst 0, 1) := by decide +kernel
theorem dL_meets_3 : decode cL_meets 3 = .ok (.aload_n 0, 1) := by decide +kernel
theorem dL_meets_4 : decode cL_meets 4 = .ok (.iload_n 1, 1) := by decide +kernel
theorem dL_meets_5 : decode cL_meets 5 = .ok (.iload_n 2, 1) := by decide +kernel
theorem dL_meets_6 : decode cL_meets 6 = .ok (.iload_n 3, 1) := by decide +kernel
theorem dL_meets_7 : decode cL_meets 7 = .ok (.invokevirtual 76, 3) := by decide +kernel
theorem dL_meets_10 : decode cL_meets 10 = .ok (.i2l, 1) := by decide +kernel
theorem dL_meets_11 : decode cL_meets 11 = .ok (.lastore, 1) := by decide +kernel
theorem dL_meets_12 : decode cL_meets 12 = .ok (.goto 11, 3) := by decide +kernel
theorem dL_meets_15 : decode cL_meets 15 = .ok (.astore 5, 2) := by decide +kernel
theorem dL_meets_17 : decode cL_meets 17 = .ok (.iconst 1, 1) := by decide +kernel
theorem dL_meets_18 : decode cL_meets 18 = .ok (.ireturn, 1) := by decide +kernel
theorem dL_meets_19 : decode cL_meets 19 = .ok (.astore 5, 2) := by decide +kernel
theorem dL_meets_21 : decode cL_meets 21 = .ok (.iconst 2, 1) := by decide +kernel
theorem dL_meets_22 : decode cL_meets 22 = .ok (.ireturn, 1) := by decide +kernel
theorem dL_meets_23 : decode cL_meets 23 = .ok (.iconst 0, 1) := by decide +kernel
theorem dL_meets_24 : decode cL_meets 24 = .ok (.ireturn, 1) := by decide +kernel
theorem dL_law_0 : decode cL_law 0 = .ok (.new 8, 3) := by decide +kernel
theorem dL_law_3 : decode cL_law 3 = .ok (.dup, 1) := by decide +kernel
theorem dL_law_4 : decode cL_law 4 = .ok (.invokespecial 79, 3) := by decide +kernel
theorem dL_law_7 : decode cL_law 7 = .ok (.astore_n 1, 1) := by decide +kernel
theorem dL_law_8 : decode cL_law 8 = .ok (.new 80, 3) := by decide +kernel
theorem dL_law_11 : decode cL_law 11 = .ok (.dup, 1) := by decide +kernel
theorem dL_law_12 : decode cL_law 12 = .ok (.invokespecial 82, 3) := by decide +kernel
theorem dL_law_15 : decode cL_law 15 = .ok (.astore_n 2, 1) := by decide +kernel
theorem dL_law_16 : decode cL_law 16 = .ok (.iconst 1, 1) := by decide +kernel
theorem dL_law_17 : decode cL_law 17 = .ok (.newarray .long, 2) := by decide +kernel
theorem dL_law_19 : decode cL_law 19 = .ok (.astore_n 3, 1) := by decide +kernel
theorem dL_law_20 : decode cL_law 20 = .ok (.iconst 0, 1) := by decide +kernel
theorem dL_law_21 : decode cL_law 21 = .ok (.istore 4, 2) := by decide +kernel
theorem dL_law_23 : decode cL_law 23 = .ok (.iload 4, 2) := by decide +kernel
theorem dL_law_25 : decode cL_law 25 = .ok (.aload_n 0, 1) := by decide +kernel
theorem dL_law_26 : decode cL_law 26 = .ok (.arraylength, 1) := by decide +kernel
theorem dL_law_27 : decode cL_law 27 = .ok (.bipush 6, 2) := by decide +kernel
theorem dL_law_29 : decode cL_law 29 = .ok (.isub, 1) := by decide +kernel
theorem dL_law_30 : decode cL_law 30 = .ok (.if_icmp .gt 1402, 3) := by decide +kernel
theorem dL_law_33 : decode cL_law 33 = .ok (.aload_n 0, 1) := by decide +kernel
theorem dL_law_34 : decode cL_law 34 = .ok (.iload 4, 2) := by decide +kernel
theorem dL_law_36 : decode cL_law 36 = .ok (.iaload, 1) := by decide +kernel
theorem dL_law_37 : decode cL_law 37 = .ok (.bipush 31, 2) := by decide +kernel
theorem dL_law_39 : decode cL_law 39 = .ok (.iand, 1) := by decide +kernel
theorem dL_law_40 : decode cL_law 40 = .ok (.tableswitch 1386 0 20 #[100, 144, 248, 328, 420, 464, 532, 588, 632, 668, 724, 792, 848, 928, 984, 997, 1010, 1078, 1158, 1238, 1306], 100) := by decide +kernel
theorem dL_law_140 : decode cL_law 140 = .ok (.aload_n 1, 1) := by decide +kernel
theorem dL_law_141 : decode cL_law 141 = .ok (.aload_n 3, 1) := by decide +kernel
theorem dL_law_142 : decode cL_law 142 = .ok (.invokestatic 83, 3) := by decide +kernel
theorem dL_law_145 : decode cL_law 145 = .ok (.istore 5, 2) := by decide +kernel
theorem dL_law_147 : decode cL_law 147 = .ok (.aload_n 2, 1) := by decide +kernel
theorem dL_law_148 : decode cL_law 148 = .ok (.invokevirtual 88, 3) := by decide +kernel
theorem dL_law_151 : decode cL_law 151 = .ok (.istore 6, 2) := by decide +kernel
theorem dL_law_153 : decode cL_law 153 = .ok (.aload_n 2, 1) := by decide +kernel
theorem dL_law_154 : decode cL_law 154 = .ok (.invokevirtual 89, 3) := by decide +kernel
theorem dL_law_157 : decode cL_law 157 = .ok (.iload 5, 2) := by decide +kernel
theorem dL_law_159 : decode cL_law 159 = .ok (.if_icmp .eq 5, 3) := by decide +kernel
theorem dL_law_162 : decode cL_law 162 = .ok (.iconst 0, 1) := by decide +kernel
theorem dL_law_163 : decode cL_law 163 = .ok (.ireturn, 1) := by decide +kernel
theorem dL_law_164 : decode cL_law 164 = .ok (.iload 5, 2) := by decide +kernel
theorem dL_law_166 : decode cL_law 166 = .ok (.ifCond .ne 15, 3) := by decide +kernel
theorem dL_law_169 : decode cL_law 169 = .ok (.aload_n 3, 1) := by decide +kernel
theorem dL_law_170 : decode cL_law 170 = .ok (.iconst 0, 1) := by decide +kernel
theorem dL_law_171 : decode cL_law 171 = .ok (.laload, 1) := by decide +kernel
theorem dL_law_172 : decode cL_law 172 = .ok (.iload 6, 2) := by decide +kernel
theorem dL_law_174 : decode cL_law 174 = .ok (.i2l, 1) := by decide +kernel
theorem dL_law_175 : decode cL_law 175 = .ok (.lcmp, 1) := by decide +kernel
theorem dL_law_176 : decode cL_law 176 = .ok (.ifCond .eq 5, 3) := by decide +kernel
theorem dL_law_179 : decode cL_law 179 = .ok (.iconst 0, 1) := by decide +kernel
theorem dL_law_180 : decode cL_law 180 = .ok (.ireturn, 1) := by decide +kernel
theorem dL_law_181 : decode cL_law 181 = .ok (.goto 1245, 3) := by decide +kernel
theorem dL_law_184 : decode cL_law 184 = .ok (.aload_n 1, 1) := by decide +kernel
theorem dL_law_185 : decode cL_law 185 = .ok (.aload_n 0, 1) := by decide +kernel
theorem dL_law_186 : decode cL_law 186 = .ok (.iload 4, 2) := by decide +kernel
theorem dL_law_188 : decode cL_law 188 = .ok (.iconst 1, 1) := by decide +kernel
theorem dL_law_189 : decode cL_law 189 = .ok (.iadd, 1) := by decide +kernel
theorem dL_law_190 : decode cL_law 190 = .ok (.iaload, 1) := by decide +kernel
theorem dL_law_191 : decode cL_law 191 = .ok (.aload_n 0, 1) := by decide +kernel
theorem dL_law_192 : decode cL_law 192 = .ok (.iload 4, 2) := by decide +kernel
theorem dL_law_194 : decode cL_law 194 = .ok (.iconst 2, 1) := by decide +kernel
theorem dL_law_195 : decode cL_law 195 = .ok (.iadd, 1) := by decide +kernel
theorem dL_law_196 : decode cL_law 196 = .ok (.iaload, 1) := by decide +kernel
theorem dL_law_197 : decode cL_law 197 = .ok (.aload_n 0, 1) := by decide +kernel
theorem dL_law_198 : decode cL_law 198 = .ok (.iload 4, 2) := by decide +kernel
theorem dL_law_200 : decode cL_law 200 = .ok (.iconst 3, 1) := by decide +kernel
theorem dL_law_201 : decode cL_law 201 = .ok (.iadd, 1) := by decide +kernel
theorem dL_law_202 : decode cL_law 202 = .ok (.iaload, 1) := by decide +kernel
theorem dL_law_203 : decode cL_law 203 = .ok (.aload_n 0, 1) := by decide +kernel
theorem dL_law_204 : decode cL_law 204 = .ok (.iload 4, 2) := by decide +kernel
theorem dL_law_206 : decode cL_law 206 = .ok (.iconst 4, 1) := by decide +kernel
theorem dL_law_207 : decode cL_law 207 = .ok (.iadd, 1) := by decide +kernel
theorem dL_law_208 : decode cL_law 208 = .ok (.iaload, 1) := by decide +kernel
theorem dL_law_209 : decode cL_law 209 = .ok (.aload_n 0, 1) := by decide +kernel
theorem dL_law_210 : decode cL_law 210 = .ok (.iload 4, 2) := by decide +kernel
theorem dL_law_212 : decode cL_law 212 = .ok (.iconst 5, 1) := by decide +kernel
theorem dL_law_213 : decode cL_law 213 = .ok (.iadd, 1) := by decide +kernel
theorem dL_law_214 : decode cL_law 214 = .ok (.iaload, 1) := by decide +kernel
theorem dL_law_215 : decode cL_law 215 = .ok (.aload_n 3, 1) := by decide +kernel
theorem dL_law_216 : decode cL_law 216 = .ok (.invokestatic 92, 3) := by decide +kernel
theorem dL_law_219 : decode cL_law 219 = .ok (.istore 5, 2) := by decide +kernel
theorem dL_law_221 : decode cL_law 221 = .ok (.aload_n 2, 1) := by decide +kernel
theorem dL_law_222 : decode cL_law 222 = .ok (.aload_n 0, 1) := by decide +kernel
theorem dL_law_223 : decode cL_law 223 = .ok (.iload 4, 2) := by decide +kernel
theorem dL_law_225 : decode cL_law 225 = .ok (.iconst 1, 1) := by decide +kernel
theorem dL_law_226 : decode cL_law 226 = .ok (.iadd, 1) := by decide +kernel
theorem dL_law_227 : decode cL_law 227 = .ok (.iaload, 1) := by decide +kernel
theorem dL_law_228 : decode cL_law 228 = .ok (.aload_n 0, 1) := by decide +kernel
theorem dL_law_229 : decode cL_law 229 = .ok (.iload 4, 2) := by decide +kernel
theorem dL_law_231 : decode cL_law 231 = .ok (.iconst 2, 1) := by decide +kernel
theorem dL_law_232 : decode cL_law 232 = .ok (.iadd, 1) := by decide +kernel
theorem dL_law_233 : decode cL_law 233 = .ok (.iaload, 1) := by decide +kernel
theorem dL_law_234 : decode cL_law 234 = .ok (.aload_n 0, 1) := by decide +kernel
theorem dL_law_235 : decode cL_law 235 = .ok (.iload 4, 2) := by decide +kernel
theorem dL_law_237 : decode cL_law 237 = .ok (.iconst 3, 1) := by decide +kernel
theorem dL_law_238 : decode cL_law 238 = .ok (.iadd, 1) := by decide +kernel
theorem dL_law_239 : decode cL_law 239 = .ok (.iaload, 1) := by decide +kernel
theorem dL_law_240 : decode cL_law 240 = .ok (.aload_n 0, 1) := by decide +kernel
theorem dL_law_241 : decode cL_law 241 = .ok (.iload 4, 2) := by decide +kernel
theorem dL_law_243 : decode cL_law 243 = .ok (.iconst 4, 1) := by decide +kernel
theorem dL_law_244 : decode cL_law 244 = .ok (.iadd, 1) := by decide +kernel
theorem dL_law_245 : decode cL_law 245 = .ok (.iaload, 1) := by decide +kernel
theorem dL_law_246 : decode cL_law 246 = .ok (.aload_n 0, 1) := by decide +kernel
theorem dL_law_247 : decode cL_law 247 = .ok (.iload 4, 2) := by decide +kernel
theorem dL_law_249 : decode cL_law 249 = .ok (.iconst 5, 1) := by decide +kernel
theorem dL_law_250 : decode cL_law 250 = .ok (.iadd, 1) := by decide +kernel
theorem dL_law_251 : decode cL_law 251 = .ok (.iaload, 1) := by decide +kernel
theorem dL_law_252 : decode cL_law 252 = .ok (.invokevirtual 95, 3) := by decide +kernel
theorem dL_law_255 : decode cL_law 255 = .ok (.istore 6, 2) := by decide +kernel
theorem dL_law_257 : decode cL_law 257 = .ok (.aload_n 2, 1) := by decide +kernel
theorem dL_law_258 : decode cL_law 258 = .ok (.invokevirtual 89, 3) := by decide +kernel
theorem dL_law_261 : decode cL_law 261 = .ok (.iload 5, 2) := by decide +kernel
theorem dL_law_263 : decode cL_law 263 = .ok (.if_icmp .eq 5, 3) := by decide +kernel
theorem dL_law_266 : decode cL_law 266 = .ok (.iconst 0, 1) := by decide +kernel
theorem dL_law_267 : decode cL_law 267 = .ok (.ireturn, 1) := by decide +kernel
theorem dL_law_268 : decode cL_law 268 = .ok (.iload 5, 2) := by decide +kernel
theorem dL_law_270 : decode cL_law 270 = .ok (.ifCond .ne 15, 3) := by decide +kernel
theorem dL_law_273 : decode cL_law 273 = .ok (.aload_n 3, 1) := by decide +kernel
theorem dL_law_274 : decode cL_law 274 = .ok (.iconst 0, 1) := by decide +kernel
theorem dL_law_275 : decode cL_law 275 = .ok (.laload, 1) := by decide +kernel
theorem dL_law_276 : decode cL_law 276 = .ok (.iload 6, 2) := by decide +kernel
theorem dL_law_278 : decode cL_law 278 = .ok (.i2l, 1) := by decide +kernel
theorem dL_law_279 : decode cL_law 279 = .ok (.lcmp, 1) := by decide +kernel
theorem dL_law_280 : decode cL_law 280 = .ok (.ifCond .eq 5, 3) := by decide +kernel
theorem dL_law_283 : decode cL_law 283 = .ok (.iconst 0, 1) := by decide +kernel
theorem dL_law_284 : decode cL_law 284 = .ok (.ireturn, 1) := by decide +kernel
theorem dL_law_285 : decode cL_law 285 = .ok (.goto 1141, 3) := by decide +kernel
theorem dL_law_288 : decode cL_law 288 = .ok (.aload_n 1, 1) := by decide +kernel
theorem dL_law_289 : decode cL_law 289 = .ok (.aload_n 0, 1) := by decide +kernel
theorem dL_law_290 : decode cL_law 290 = .ok (.iload 4, 2) := by decide +kernel
theorem dL_law_292 : decode cL_law 292 = .ok (.iconst 1, 1) := by decide +kernel
theorem dL_law_293 : decode cL_law 293 = .ok (.iadd, 1) := by decide +kernel
theorem dL_law_294 : decode cL_law 294 = .ok (.iaload, 1) := by decide +kernel
theorem dL_law_295 : decode cL_law 295 = .ok (.aload_n 0, 1) := by decide +kernel
theorem dL_law_296 : decode cL_law 296 = .ok (.iload 4, 2) := by decide +kernel
theorem dL_law_298 : decode cL_law 298 = .ok (.iconst 2, 1) := by decide +kernel
theorem dL_law_299 : decode cL_law 299 = .ok (.iadd, 1) := by decide +kernel
theorem dL_law_300 : decode cL_law 300 = .ok (.iaload, 1) := by decide +kernel
theorem dL_law_301 : decode cL_law 301 = .ok (.aload_n 0, 1) := by decide +kernel
theorem dL_law_302 : decode cL_law 302 = .ok (.iload 4, 2) := by decide +kernel
theorem dL_law_304 : decode cL_law 304 = .ok (.iconst 3, 1) := by decide +kernel
theorem dL_law_305 : decode cL_law 305 = .ok (.iadd, 1) := by decide +kernel
theorem dL_law_306 : decode cL_law 306 = .ok (.iaload, 1) := by decide +kernel
theorem dL_law_307 : decode cL_law 307 = .ok (.aload_n 3, 1) := by decide +kernel
theorem dL_law_308 : decode cL_law 308 = .ok (.invokestatic 96, 3) := by decide +kernel
theorem dL_law_311 : decode cL_law 311 = .ok (.istore 5, 2) := by decide +kernel
theorem dL_law_313 : decode cL_law 313 = .ok (.aload_n 2, 1) := by decide +kernel
theorem dL_law_314 : decode cL_law 314 = .ok (.aload_n 0, 1) := by decide +kernel
theorem dL_law_315 : decode cL_law 315 = .ok (.iload 4, 2) := by decide +kernel
theorem dL_law_317 : decode cL_law 317 = .ok (.iconst 1, 1) := by decide +kernel
theorem dL_law_318 : decode cL_law 318 = .ok (.iadd, 1) := by decide +kernel
theorem dL_law_319 : decode cL_law 319 = .ok (.iaload, 1) := by decide +kernel
theorem dL_law_320 : decode cL_law 320 = .ok (.aload_n 0, 1) := by decide +kernel
theorem dL_law_321 : decode cL_law 321 = .ok (.iload 4, 2) := by decide +kernel
theorem dL_law_323 : decode cL_law 323 = .ok (.iconst 2, 1) := by decide +kernel
theorem dL_law_324 : decode cL_law 324 = .ok (.iadd, 1) := by decide +kernel
theorem dL_law_325 : decode cL_law 325 = .ok (.iaload, 1) := by decide +kernel
theorem dL_law_326 : decode cL_law 326 = .ok (.aload_n 0, 1) := by decide +kernel
theorem dL_law_327 : decode cL_law 327 = .ok (.iload 4, 2) := by decide +kernel
theorem dL_law_329 : decode cL_law 329 = .ok (.iconst 3, 1) := by decide +kernel
theorem dL_law_330 : decode cL_law 330 = .ok (.iadd, 1) := by decide +kernel
theorem dL_law_331 : decode cL_law 331 = .ok (.iaload, 1) := by decide +kernel
theorem dL_law_332 : decode cL_law 332 = .ok (.invokevirtual 99, 3) := by decide +kernel
theorem dL_law_335 : decode cL_law 335 = .ok (.istore 6, 2) := by decide +kernel
theorem dL_law_337 : decode cL_law 337 = .ok (.aload_n 2, 1) := by decide +kernel
theorem dL_law_338 : decode cL_law 338 = .ok (.invokevirtual 89, 3) := by decide +kernel
theorem dL_law_341 : decode cL_law 341 = .ok (.iload 5, 2) := by decide +kernel
theorem dL_law_343 : decode cL_law 343 = .ok (.if_icmp .eq 5, 3) := by decide +kernel
theorem dL_law_346 : decode cL_law 346 = .ok (.iconst 0, 1) := by decide +kernel
theorem dL_law_347 : decode cL_law 347 = .ok (.ireturn, 1) := by decide +kernel
theorem dL_law_348 : decode cL_law 348 = .ok (.iload 5, 2) := by decide +kernel
theorem dL_law_350 : decode cL_law 350 = .ok (.ifCond .ne 15, 3) := by decide +kernel
theorem dL_law_353 : decode cL_law 353 = .ok (.aload_n 3, 1) := by decide +kernel
theorem dL_law_354 : decode cL_law 354 = .ok (.iconst 0, 1) := by decide +kernel
theorem dL_law_355 : decode cL_law 355 = .ok (.laload, 1) := by decide +kernel
theorem dL_law_356 : decode cL_law 356 = .ok (.iload 6, 2) := by decide +kernel
theorem dL_law_358 : decode cL_law 358 = .ok (.i2l, 1) := by decide +kernel
theorem dL_law_359 : decode cL_law 359 = .ok (.lcmp, 1) := by decide +kernel
theorem dL_law_360 : decode cL_law 360 = .ok (.ifCond .eq 5, 3) := by decide +kernel
theorem dL_law_363 : decode cL_law 363 = .ok (.iconst 0, 1) := by decide +kernel
theorem dL_law_364 : decode cL_law 364 = .ok (.ireturn, 1) := by decide +kernel
theorem dL_law_365 : decode cL_law 365 = .ok (.goto 1061, 3) := by decide +kernel
theorem dL_law_368 : decode cL_law 368 = .ok (.aload_n 1, 1) := by decide +kernel
theorem dL_law_369 : decode cL_law 369 = .ok (.aload_n 0, 1) := by decide +kernel
theorem dL_law_370 : decode cL_law 370 = .ok (.iload 4, 2) := by decide +kernel
theorem dL_law_372 : decode cL_law 372 = .ok (.iconst 1, 1) := by decide +kernel
theorem dL_law_373 : decode cL_law 373 = .ok (.iadd, 1) := by decide +kernel
theorem dL_law_374 : decode cL_law 374 = .ok (.iaload, 1) := by decide +kernel
theorem dL_law_375 : decode cL_law 375 = .ok (.aload_n 0, 1) := by decide +kernel
theorem dL_law_376 : decode cL_law 376 = .ok (.iload 4, 2) := by decide +kernel
theorem dL_law_378 : decode cL_law 378 = .ok (.iconst 2, 1) := by decide +kernel
theorem dL_law_379 : decode cL_law 379 = .ok (.iadd, 1) := by decide +kernel
theorem dL_law_380 : decode cL_law 380 = .ok (.iaload, 1) := by decide +kernel
theorem dL_law_381 : decode cL_law 381 = .ok (.aload_n 0, 1) := by decide +kernel
theorem dL_law_382 : decode cL_law 382 = .ok (.iload 4, 2) := by decide +kernel
theorem dL_law_384 : decode cL_law 384 = .ok (.iconst 3, 1) := by decide +kernel
theorem dL_law_385 : decode cL_law 385 = .ok (.iadd, 1) := by decide +kernel
theorem dL_law_386 : decode cL_law 386 = .ok (.iaload, 1) := by decide +kernel
theorem dL_law_387 : decode cL_law 387 = .ok (.aload_n 0, 1) := by decide +kernel
theorem dL_law_388 : decode cL_law 388 = .ok (.iload 4, 2) := by decide +kernel
theorem dL_law_390 : decode cL_law 390 = .ok (.iconst 4, 1) := by decide +kernel
theorem dL_law_391 : decode cL_law 391 = .ok (.iadd, 1) := by decide +kernel
theorem dL_law_392 : decode cL_law 392 = .ok (.iaload, 1) := by decide +kernel
theorem dL_law_393 : decode cL_law 393 = .ok (.aload_n 3, 1) := by decide +kernel
theorem dL_law_394 : decode cL_law 394 = .ok (.invokestatic 100, 3) := by decide +kernel
theorem dL_law_397 : decode cL_law 397 = .ok (.istore 5, 2) := by decide +kernel
theorem dL_law_399 : decode cL_law 399 = .ok (.aload_n 2, 1) := by decide +kernel
theorem dL_law_400 : decode cL_law 400 = .ok (.aload_n 0, 1) := by decide +kernel
theorem dL_law_401 : decode cL_law 401 = .ok (.iload 4, 2) := by decide +kernel
theorem dL_law_403 : decode cL_law 403 = .ok (.iconst 1, 1) := by decide +kernel
theorem dL_law_404 : decode cL_law 404 = .ok (.iadd, 1) := by decide +kernel
theorem dL_law_405 : decode cL_law 405 = .ok (.iaload, 1) := by decide +kernel
theorem dL_law_406 : decode cL_law 406 = .ok (.aload_n 0, 1) := by decide +kernel
theorem dL_law_407 : decode cL_law 407 = .ok (.iload 4, 2) := by decide +kernel
theorem dL_law_409 : decode cL_law 409 = .ok (.iconst 2, 1) := by decide +kernel
theorem dL_law_410 : decode cL_law 410 = .ok (.iadd, 1) := by decide +kernel
theorem dL_law_411 : decode cL_law 411 = .ok (.iaload, 1) := by decide +kernel
theorem dL_law_412 : decode cL_law 412 = .ok (.aload_n 0, 1) := by decide +kernel
theorem dL_law_413 : decode cL_law 413 = .ok (.iload 4, 2) := by decide +kernel
theorem dL_law_415 : decode cL_law 415 = .ok (.iconst 3, 1) := by decide +kernel
theorem dL_law_416 : decode cL_law 416 = .ok (.iadd, 1) := by decide +kernel
theorem dL_law_417 : decode cL_law 417 = .ok (.iaload, 1) := by decide +kernel
theorem dL_law_418 : decode cL_law 418 = .ok (.aload_n 0, 1) := by decide +kernel
theorem dL_law_419 : decode cL_law 419 = .ok (.iload 4, 2) := by decide +kernel
theorem dL_law_421 : decode cL_law 421 = .ok (.iconst 4, 1) := by decide +kernel
theorem dL_law_422 : decode cL_law 422 = .ok (.iadd, 1) := by decide +kernel
theorem dL_law_423 : decode cL_law 423 = .ok (.iaload, 1) := by decide +kernel
theorem dL_law_424 : decode cL_law 424 = .ok (.invokevirtual 103, 3) := by decide +kernel
theorem dL_law_427 : decode cL_law 427 = .ok (.istore 6, 2) := by decide +kernel
theorem dL_law_429 : decode cL_law 429 = .ok (.aload_n 2, 1) := by decide +kernel
theorem dL_law_430 : decode cL_law 430 = .ok (.invokevirtual 89, 3) := by decide +kernel
theorem dL_law_433 : decode cL_law 433 = .ok (.iload 5, 2) := by decide +kernel
theorem dL_law_435 : decode cL_law 435 = .ok (.if_icmp .eq 5, 3) := by decide +kernel
theorem dL_law_438 : decode cL_law 438 = .ok (.iconst 0, 1) := by decide +kernel
theorem dL_law_439 : decode cL_law 439 = .ok (.ireturn, 1) := by decide +kernel
theorem dL_law_440 : decode cL_law 440 = .ok (.iload 5, 2) := by decide +kernel
theorem dL_law_442 : decode cL_law 442 = .ok (.ifCond .ne 15, 3) := by decide +kernel
theorem dL_law_445 : decode cL_law 445 = .ok (.aload_n 3, 1) := by decide +kernel
theorem dL_law_446 : decode cL_law 446 = .ok (.iconst 0, 1) := by decide +kernel
theorem dL_law_447 : decode cL_law 447 = .ok (.laload, 1) := by decide +kernel
theorem dL_law_448 : decode cL_law 448 = .ok (.iload 6, 2) := by decide +kernel
theorem dL_law_450 : decode cL_law 450 = .ok (.i2l, 1) := by decide +kernel
theorem dL_law_451 : decode cL_law 451 = .ok (.lcmp, 1) := by decide +kernel
theorem dL_law_452 : decode cL_law 452 = .ok (.ifCond .eq 5, 3) := by decide +kernel
theorem dL_law_455 : decode cL_law 455 = .ok (.iconst 0, 1) := by decide +kernel
theorem dL_law_456 : decode cL_law 456 = .ok (.ireturn, 1) := by decide +kernel
theorem dL_law_457 : decode cL_law 457 = .ok (.goto 969, 3) := by decide +kernel
theorem dL_law_460 : decode cL_law 460 = .ok (.aload_n 1, 1) := by decide +kernel
theorem dL_law_461 : decode cL_law 461 = .ok (.aload_n 3, 1) := by decide +kernel
theorem dL_law_462 : decode cL_law 462 = .ok (.invokestatic 104, 3) := by decide +kernel
theorem dL_law_465 : decode cL_law 465 = .ok (.istore 5, 2) := by decide +kernel
theorem dL_law_467 : decode cL_law 467 = .ok (.aload_n 2, 1) := by decide +kernel
theorem dL_law_468 : decode cL_law 468 = .ok (.invokevirtual 106, 3) := by decide +kernel
theorem dL_law_471 : decode cL_law 471 = .ok (.istore 6, 2) := by decide +kernel
theorem dL_law_473 : decode cL_law 473 = .ok (.aload_n 2, 1) := by decide +kernel
theorem dL_law_474 : decode cL_law 474 = .ok (.invokevirtual 89, 3) := by decide +kernel
theorem dL_law_477 : decode cL_law 477 = .ok (.iload 5, 2) := by decide +kernel
theorem dL_law_479 : decode cL_law 479 = .ok (.if_icmp .eq 5, 3) := by decide +kernel
theorem dL_law_482 : decode cL_law 482 = .ok (.iconst 0, 1) := by decide +kernel
theorem dL_law_483 : decode cL_law 483 = .ok (.ireturn, 1) := by decide +kernel
theorem dL_law_484 : decode cL_law 484 = .ok (.iload 5, 2) := by decide +kernel
theorem dL_law_486 : decode cL_law 486 = .ok (.ifCond .ne 15, 3) := by decide +kernel
theorem dL_law_489 : decode cL_law 489 = .ok (.aload_n 3, 1) := by decide +kernel
theorem dL_law_490 : decode cL_law 490 = .ok (.iconst 0, 1) := by decide +kernel
theorem dL_law_491 : decode cL_law 491 = .ok (.laload, 1) := by decide +kernel
theorem dL_law_492 : decode cL_law 492 = .ok (.iload 6, 2) := by decide +kernel
theorem dL_law_494 : decode cL_law 494 = .ok (.i2l, 1) := by decide +kernel
theorem dL_law_495 : decode cL_law 495 = .ok (.lcmp, 1) := by decide +kernel
theorem dL_law_496 : decode cL_law 496 = .ok (.ifCond .eq 5, 3) := by decide +kernel
theorem dL_law_499 : decode cL_law 499 = .ok (.iconst 0, 1) := by decide +kernel
theorem dL_law_500 : decode cL_law 500 = .ok (.ireturn, 1) := by decide +kernel
theorem dL_law_501 : decode cL_law 501 = .ok (.goto 925, 3) := by decide +kernel
theorem dL_law_504 : decode cL_law 504 = .ok (.aload_n 1, 1) := by decide +kernel
theorem dL_law_505 : decode cL_law 505 = .ok (.aload_n 0, 1) := by decide +kernel
theorem dL_law_506 : decode cL_law 506 = .ok (.iload 4, 2) := by decide +kernel
theorem dL_law_508 : decode cL_law 508 = .ok (.iconst 1, 1) := by decide +kernel
theorem dL_law_509 : decode cL_law 509 = .ok (.iadd, 1) := by decide +kernel
theorem dL_law_510 : decode cL_law 510 = .ok (.iaload, 1) := by decide +kernel
theorem dL_law_511 : decode cL_law 511 = .ok (.aload_n 0, 1) := by decide +kernel
theorem dL_law_512 : decode cL_law 512 = .ok (.iload 4, 2) := by decide +kernel
theorem dL_law_514 : decode cL_law 514 = .ok (.iconst 2, 1) := by decide +kernel
theorem dL_law_515 : decode cL_law 515 = .ok (.iadd, 1) := by decide +kernel
theorem dL_law_516 : decode cL_law 516 = .ok (.iaload, 1) := by decide +kernel
theorem dL_law_517 : decode cL_law 517 = .ok (.aload_n 3, 1) := by decide +kernel
theorem dL_law_518 : decode cL_law 518 = .ok (.invokestatic 107, 3) := by decide +kernel
theorem dL_law_521 : decode cL_law 521 = .ok (.istore 5, 2) := by decide +kernel
theorem dL_law_523 : decode cL_law 523 = .ok (.aload_n 2, 1) := by decide +kernel
theorem dL_law_524 : decode cL_law 524 = .ok (.aload_n 0, 1) := by decide +kernel
theorem dL_law_525 : decode cL_law 525 = .ok (.iload 4, 2) := by decide +kernel
theorem dL_law_527 : decode cL_law 527 = .ok (.iconst 1, 1) := by decide +kernel
theorem dL_law_528 : decode cL_law 528 = .ok (.iadd, 1) := by decide +kernel
theorem dL_law_529 : decode cL_law 529 = .ok (.iaload, 1) := by decide +kernel
theorem dL_law_530 : decode cL_law 530 = .ok (.aload_n 0, 1) := by decide +kernel
theorem dL_law_531 : decode cL_law 531 = .ok (.iload 4, 2) := by decide +kernel
theorem dL_law_533 : decode cL_law 533 = .ok (.iconst 2, 1) := by decide +kernel
theorem dL_law_534 : decode cL_law 534 = .ok (.iadd, 1) := by decide +kernel
theorem dL_law_535 : decode cL_law 535 = .ok (.iaload, 1) := by decide +kernel
theorem dL_law_536 : decode cL_law 536 = .ok (.invokevirtual 110, 3) := by decide +kernel
theorem dL_law_539 : decode cL_law 539 = .ok (.istore 6, 2) := by decide +kernel
theorem dL_law_541 : decode cL_law 541 = .ok (.aload_n 2, 1) := by decide +kernel
theorem dL_law_542 : decode cL_law 542 = .ok (.invokevirtual 89, 3) := by decide +kernel
theorem dL_law_545 : decode cL_law 545 = .ok (.iload 5, 2) := by decide +kernel
theorem dL_law_547 : decode cL_law 547 = .ok (.if_icmp .eq 5, 3) := by decide +kernel
theorem dL_law_550 : decode cL_law 550 = .ok (.iconst 0, 1) := by decide +kernel
theorem dL_law_551 : decode cL_law 551 = .ok (.ireturn, 1) := by decide +kernel
theorem dL_law_552 : decode cL_law 552 = .ok (.iload 5, 2) := by decide +kernel
theorem dL_law_554 : decode cL_law 554 = .ok (.ifCond .ne 15, 3) := by decide +kernel
theorem dL_law_557 : decode cL_law 557 = .ok (.aload_n 3, 1) := by decide +kernel
theorem dL_law_558 : decode cL_law 558 = .ok (.iconst 0, 1) := by decide +kernel
theorem dL_law_559 : decode cL_law 559 = .ok (.laload, 1) := by decide +kernel
theorem dL_law_560 : decode cL_law 560 = .ok (.iload 6, 2) := by decide +kernel
theorem dL_law_562 : decode cL_law 562 = .ok (.i2l, 1) := by decide +kernel
theorem dL_law_563 : decode cL_law 563 = .ok (.lcmp, 1) := by decide +kernel
theorem dL_law_564 : decode cL_law 564 = .ok (.ifCond .eq 5, 3) := by decide +kernel
theorem dL_law_567 : decode cL_law 567 = .ok (.iconst 0, 1) := by decide +kernel
theorem dL_law_568 : decode cL_law 568 = .ok (.ireturn, 1) := by decide +kernel
theorem dL_law_569 : decode cL_law 569 = .ok (.goto 857, 3) := by decide +kernel
theorem dL_law_572 : decode cL_law 572 = .ok (.aload_n 1, 1) := by decide +kernel
theorem dL_law_573 : decode cL_law 573 = .ok (.aload_n 0, 1) := by decide +kernel
theorem dL_law_574 : decode cL_law 574 = .ok (.iload 4, 2) := by decide +kernel
theorem dL_law_576 : decode cL_law 576 = .ok (.iconst 1, 1) := by decide +kernel
theorem dL_law_577 : decode cL_law 577 = .ok (.iadd, 1) := by decide +kernel
theorem dL_law_578 : decode cL_law 578 = .ok (.iaload, 1) := by decide +kernel
theorem dL_law_579 : decode cL_law 579 = .ok (.aload_n 3, 1) := by decide +kernel
theorem dL_law_580 : decode cL_law 580 = .ok (.invokestatic 111, 3) := by decide +kernel
theorem dL_law_583 : decode cL_law 583 = .ok (.istore 5, 2) := by decide +kernel
theorem dL_law_585 : decode cL_law 585 = .ok (.aload_n 2, 1) := by decide +kernel
theorem dL_law_586 : decode cL_law 586 = .ok (.aload_n 0, 1) := by decide +kernel
theorem dL_law_587 : decode cL_law 587 = .ok (.iload 4, 2) := by decide +kernel
theorem dL_law_589 : decode cL_law 589 = .ok (.iconst 1, 1) := by decide +kernel
theorem dL_law_590 : decode cL_law 590 = .ok (.iadd, 1) := by decide +kernel
theorem dL_law_591 : decode cL_law 591 = .ok (.iaload, 1) := by decide +kernel
theorem dL_law_592 : decode cL_law 592 = .ok (.invokevirtual 114, 3) := by decide +kernel
theorem dL_law_595 : decode cL_law 595 = .ok (.istore 6, 2) := by decide +kernel
theorem dL_law_597 : decode cL_law 597 = .ok (.aload_n 2, 1) := by decide +kernel
theorem dL_law_598 : decode cL_law 598 = .ok (.invokevirtual 89, 3) := by decide +kernel
theorem dL_law_601 : decode cL_law 601 = .ok (.iload 5, 2) := by decide +kernel
theorem dL_law_603 : decode cL_law 603 = .ok (.if_icmp .eq 5, 3) := by decide +kernel
theorem dL_law_606 : decode cL_law 606 = .ok (.iconst 0, 1) := by decide +kernel
theorem dL_law_607 : decode cL_law 607 = .ok (.ireturn, 1) := by decide +kernel
theorem dL_law_608 : decode cL_law 608 = .ok (.iload 5, 2) := by decide +kernel
theorem dL_law_610 : decode cL_law 610 = .ok (.ifCond .ne 15, 3) := by decide +kernel
theorem dL_law_613 : decode cL_law 613 = .ok (.aload_n 3, 1) := by decide +kernel
theorem dL_law_614 : decode cL_law 614 = .ok (.iconst 0, 1) := by decide +kernel
theorem dL_law_615 : decode cL_law 615 = .ok (.laload, 1) := by decide +kernel
theorem dL_law_616 : decode cL_law 616 = .ok (.iload 6, 2) := by decide +kernel
theorem dL_law_618 : decode cL_law 618 = .ok (.i2l, 1) := by decide +kernel
theorem dL_law_619 : decode cL_law 619 = .ok (.lcmp, 1) := by decide +kernel
theorem dL_law_620 : decode cL_law 620 = .ok (.ifCond .eq 5, 3) := by decide +kernel
theorem dL_law_623 : decode cL_law 623 = .ok (.iconst 0, 1) := by decide +kernel
theorem dL_law_624 : decode cL_law 624 = .ok (.ireturn, 1) := by decide +kernel
theorem dL_law_625 : decode cL_law 625 = .ok (.goto 801, 3) := by decide +kernel
theorem dL_law_628 : decode cL_law 628 = .ok (.aload_n 1, 1) := by decide +kernel
theorem dL_law_629 : decode cL_law 629 = .ok (.aload_n 3, 1) := by decide +kernel
theorem dL_law_630 : decode cL_law 630 = .ok (.invokestatic 115, 3) := by decide +kernel
theorem dL_law_633 : decode cL_law 633 = .ok (.istore 5, 2) := by decide +kernel
theorem dL_law_635 : decode cL_law 635 = .ok (.aload_n 2, 1) := by decide +kernel
theorem dL_law_636 : decode cL_law 636 = .ok (.invokevirtual 117, 3) := by decide +kernel
theorem dL_law_639 : decode cL_law 639 = .ok (.istore 6, 2) := by decide +kernel
theorem dL_law_641 : decode cL_law 641 = .ok (.aload_n 2, 1) := by decide +kernel
theorem dL_law_642 : decode cL_law 642 = .ok (.invokevirtual 89, 3) := by decide +kernel
theorem dL_law_645 : decode cL_law 645 = .ok (.iload 5, 2) := by decide +kernel
theorem dL_law_647 : decode cL_law 647 = .ok (.if_icmp .eq 5, 3) := by decide +kernel
theorem dL_law_650 : decode cL_law 650 = .ok (.iconst 0, 1) := by decide +kernel
theorem dL_law_651 : decode cL_law 651 = .ok (.ireturn, 1) := by decide +kernel
theorem dL_law_652 : decode cL_law 652 = .ok (.iload 5, 2) := by decide +kernel
theorem dL_law_654 : decode cL_law 654 = .ok (.ifCond .ne 15, 3) := by decide +kernel
theorem dL_law_657 : decode cL_law 657 = .ok (.aload_n 3, 1) := by decide +kernel
theorem dL_law_658 : decode cL_law 658 = .ok (.iconst 0, 1) := by decide +kernel
theorem dL_law_659 : decode cL_law 659 = .ok (.laload, 1) := by decide +kernel
theorem dL_law_660 : decode cL_law 660 = .ok (.iload 6, 2) := by decide +kernel
theorem dL_law_662 : decode cL_law 662 = .ok (.i2l, 1) := by decide +kernel
theorem dL_law_663 : decode cL_law 663 = .ok (.lcmp, 1) := by decide +kernel
theorem dL_law_664 : decode cL_law 664 = .ok (.ifCond .eq 5, 3) := by decide +kernel
theorem dL_law_667 : decode cL_law 667 = .ok (.iconst 0, 1) := by decide +kernel
theorem dL_law_668 : decode cL_law 668 = .ok (.ireturn, 1) := by decide +kernel
theorem dL_law_669 : decode cL_law 669 = .ok (.goto 757, 3) := by decide +kernel
theorem dL_law_672 : decode cL_law 672 = .ok (.aload_n 1, 1) := by decide +kernel
theorem dL_law_673 : decode cL_law 673 = .ok (.aload_n 0, 1) := by decide +kernel
theorem dL_law_674 : decode cL_law 674 = .ok (.iload 4, 2) := by decide +kernel
theorem dL_law_676 : decode cL_law 676 = .ok (.iconst 1, 1) := by decide +kernel
theorem dL_law_677 : decode cL_law 677 = .ok (.iadd, 1) := by decide +kernel
theorem dL_law_678 : decode cL_law 678 = .ok (.iaload, 1) := by decide +kernel
theorem dL_law_679 : decode cL_law 679 = .ok (.invokestatic 118, 3) := by decide +kernel
theorem dL_law_682 : decode cL_law 682 = .ok (.istore 5, 2) := by decide +kernel
theorem dL_law_684 : decode cL_law 684 = .ok (.aload_n 2, 1) := by decide +kernel
theorem dL_law_685 : decode cL_law 685 = .ok (.aload_n 0, 1) := by decide +kernel
theorem dL_law_686 : decode cL_law 686 = .ok (.iload 4, 2) := by decide +kernel
theorem dL_law_688 : decode cL_law 688 = .ok (.iconst 1, 1) := by decide +kernel
theorem dL_law_689 : decode cL_law 689 = .ok (.iadd, 1) := by decide +kernel
theorem dL_law_690 : decode cL_law 690 = .ok (.iaload, 1) := by decide +kernel
theorem dL_law_691 : decode cL_law 691 = .ok (.invokevirtual 121, 3) := by decide +kernel
theorem dL_law_694 : decode cL_law 694 = .ok (.aload_n 2, 1) := by decide +kernel
theorem dL_law_695 : decode cL_law 695 = .ok (.invokevirtual 89, 3) := by decide +kernel
theorem dL_law_698 : decode cL_law 698 = .ok (.iload 5, 2) := by decide +kernel
theorem dL_law_700 : decode cL_law 700 = .ok (.if_icmp .eq 5, 3) := by decide +kernel
theorem dL_law_703 : decode cL_law 703 = .ok (.iconst 0, 1) := by decide +kernel
theorem dL_law_704 : decode cL_law 704 = .ok (.ireturn, 1) := by decide +kernel
theorem dL_law_705 : decode cL_law 705 = .ok (.goto 721, 3) := by decide +kernel
theorem dL_law_708 : decode cL_law 708 = .ok (.aload_n 1, 1) := by decide +kernel
theorem dL_law_709 : decode cL_law 709 = .ok (.aload_n 0, 1) := by decide +kernel
theorem dL_law_710 : decode cL_law 710 = .ok (.iload 4, 2) := by decide +kernel
theorem dL_law_712 : decode cL_law 712 = .ok (.iconst 1, 1) := by decide +kernel
theorem dL_law_713 : decode cL_law 713 = .ok (.iadd, 1) := by decide +kernel
theorem dL_law_714 : decode cL_law 714 = .ok (.iaload, 1) := by decide +kernel
theorem dL_law_715 : decode cL_law 715 = .ok (.aload_n 3, 1) := by decide +kernel
theorem dL_law_716 : decode cL_law 716 = .ok (.invokestatic 122, 3) := by decide +kernel
theorem dL_law_719 : decode cL_law 719 = .ok (.istore 5, 2) := by decide +kernel
theorem dL_law_721 : decode cL_law 721 = .ok (.aload_n 2, 1) := by decide +kernel
theorem dL_law_722 : decode cL_law 722 = .ok (.aload_n 0, 1) := by decide +kernel
theorem dL_law_723 : decode cL_law 723 = .ok (.iload 4, 2) := by decide +kernel
theorem dL_law_725 : decode cL_law 725 = .ok (.iconst 1, 1) := by decide +kernel
theorem dL_law_726 : decode cL_law 726 = .ok (.iadd, 1) := by decide +kernel
theorem dL_law_727 : decode cL_law 727 = .ok (.iaload, 1) := by decide +kernel
theorem dL_law_728 : decode cL_law 728 = .ok (.invokevirtual 124, 3) := by decide +kernel
theorem dL_law_731 : decode cL_law 731 = .ok (.istore 6, 2) := by decide +kernel
theorem dL_law_733 : decode cL_law 733 = .ok (.aload_n 2, 1) := by decide +kernel
theorem dL_law_734 : decode cL_law 734 = .ok (.invokevirtual 89, 3) := by decide +kernel
theorem dL_law_737 : decode cL_law 737 = .ok (.iload 5, 2) := by decide +kernel
theorem dL_law_739 : decode cL_law 739 = .ok (.if_icmp .eq 5, 3) := by decide +kernel
theorem dL_law_742 : decode cL_law 742 = .ok (.iconst 0, 1) := by decide +kernel
theorem dL_law_743 : decode cL_law 743 = .ok (.ireturn, 1) := by decide +kernel
theorem dL_law_744 : decode cL_law 744 = .ok (.iload 5, 2) := by decide +kernel
theorem dL_law_746 : decode cL_law 746 = .ok (.ifCond .ne 15, 3) := by decide +kernel
theorem dL_law_749 : decode cL_law 749 = .ok (.aload_n 3, 1) := by decide +kernel
theorem dL_law_750 : decode cL_law 750 = .ok (.iconst 0, 1) := by decide +kernel
theorem dL_law_751 : decode cL_law 751 = .ok (.laload, 1) := by decide +kernel
theorem dL_law_752 : decode cL_law 752 = .ok (.iload 6, 2) := by decide +kernel
theorem dL_law_754 : decode cL_law 754 = .ok (.i2l, 1) := by decide +kernel
theorem dL_law_755 : decode cL_law 755 = .ok (.lcmp, 1) := by decide +kernel
theorem dL_law_756 : decode cL_law 756 = .ok (.ifCond .eq 5, 3) := by decide +kernel
theorem dL_law_759 : decode cL_law 759 = .ok (.iconst 0, 1) := by decide +kernel
theorem dL_law_760 : decode cL_law 760 = .ok (.ireturn, 1) := by decide +kernel
theorem dL_law_761 : decode cL_law 761 = .ok (.goto 665, 3) := by decide +kernel
theorem dL_law_764 : decode cL_law 764 = .ok (.aload_n 1, 1) := by decide +kernel
theorem dL_law_765 : decode cL_law 765 = .ok (.aload_n 0, 1) := by decide +kernel
theorem dL_law_766 : decode cL_law 766 = .ok (.iload 4, 2) := by decide +kernel
theorem dL_law_768 : decode cL_law 768 = .ok (.iconst 1, 1) := by decide +kernel
theorem dL_law_769 : decode cL_law 769 = .ok (.iadd, 1) := by decide +kernel
theorem dL_law_770 : decode cL_law 770 = .ok (.iaload, 1) := by decide +kernel
theorem dL_law_771 : decode cL_law 771 = .ok (.aload_n 0, 1) := by decide +kernel
theorem dL_law_772 : decode cL_law 772 = .ok (.iload 4, 2) := by decide +kernel
theorem dL_law_774 : decode cL_law 774 = .ok (.iconst 2, 1) := by decide +kernel
theorem dL_law_775 : decode cL_law 775 = .ok (.iadd, 1) := by decide +kernel
theorem dL_law_776 : decode cL_law 776 = .ok (.iaload, 1) := by decide +kernel
theorem dL_law_777 : decode cL_law 777 = .ok (.aload_n 3, 1) := by decide +kernel
theorem dL_law_778 : decode cL_law 778 = .ok (.invokestatic 125, 3) := by decide +kernel
theorem dL_law_781 : decode cL_law 781 = .ok (.istore 5, 2) := by decide +kernel
theorem dL_law_783 : decode cL_law 783 = .ok (.aload_n 2, 1) := by decide +kernel
theorem dL_law_784 : decode cL_law 784 = .ok (.aload_n 0, 1) := by decide +kernel
theorem dL_law_785 : decode cL_law 785 = .ok (.iload 4, 2) := by decide +kernel
theorem dL_law_787 : decode cL_law 787 = .ok (.iconst 1, 1) := by decide +kernel
theorem dL_law_788 : decode cL_law 788 = .ok (.iadd, 1) := by decide +kernel
theorem dL_law_789 : decode cL_law 789 = .ok (.iaload, 1) := by decide +kernel
theorem dL_law_790 : decode cL_law 790 = .ok (.aload_n 0, 1) := by decide +kernel
theorem dL_law_791 : decode cL_law 791 = .ok (.iload 4, 2) := by decide +kernel
theorem dL_law_793 : decode cL_law 793 = .ok (.iconst 2, 1) := by decide +kernel
theorem dL_law_794 : decode cL_law 794 = .ok (.iadd, 1) := by decide +kernel
theorem dL_law_795 : decode cL_law 795 = .ok (.iaload, 1) := by decide +kernel
theorem dL_law_796 : decode cL_law 796 = .ok (.invokevirtual 127, 3) := by decide +kernel
theorem dL_law_799 : decode cL_law 799 = .ok (.istore 6, 2) := by decide +kernel
theorem dL_law_801 : decode cL_law 801 = .ok (.aload_n 2, 1) := by decide +kernel
theorem dL_law_802 : decode cL_law 802 = .ok (.invokevirtual 89, 3) := by decide +kernel
theorem dL_law_805 : decode cL_law 805 = .ok (.iload 5, 2) := by decide +kernel
theorem dL_law_807 : decode cL_law 807 = .ok (.if_icmp .eq 5, 3) := by decide +kernel
theorem dL_law_810 : decode cL_law 810 = .ok (.iconst 0, 1) := by decide +kernel
theorem dL_law_811 : decode cL_law 811 = .ok (.ireturn, 1) := by decide +kernel
theorem dL_law_812 : decode cL_law 812 = .ok (.iload 5, 2) := by decide +kernel
theorem dL_law_814 : decode cL_law 814 = .ok (.ifCond .ne 15, 3) := by decide +kernel
theorem dL_law_817 : decode cL_law 817 = .ok (.aload_n 3, 1) := by decide +kernel
theorem dL_law_818 : decode cL_law 818 = .ok (.iconst 0, 1) := by decide +kernel
theorem dL_law_819 : decode cL_law 819 = .ok (.laload, 1) := by decide +kernel
theorem dL_law_820 : decode cL_law 820 = .ok (.iload 6, 2) := by decide +kernel
theorem dL_law_822 : decode cL_law 822 = .ok (.i2l, 1) := by decide +kernel
theorem dL_law_823 : decode cL_law 823 = .ok (.lcmp, 1) := by decide +kernel
theorem dL_law_824 : decode cL_law 824 = .ok (.ifCond .eq 5, 3) := by decide +kernel
theorem dL_law_827 : decode cL_law 827 = .ok (.iconst 0, 1) := by decide +kernel
theorem dL_law_828 : decode cL_law 828 = .ok (.ireturn, 1) := by decide +kernel
theorem dL_law_829 : decode cL_law 829 = .ok (.goto 597, 3) := by decide +kernel
theorem dL_law_832 : decode cL_law 832 = .ok (.aload_n 1, 1) := by decide +kernel
theorem dL_law_833 : decode cL_law 833 = .ok (.aload_n 0, 1) := by decide +kernel
theorem dL_law_834 : decode cL_law 834 = .ok (.iload 4, 2) := by decide +kernel
theorem dL_law_836 : decode cL_law 836 = .ok (.iconst 1, 1) := by decide +kernel
theorem dL_law_837 : decode cL_law 837 = .ok (.iadd, 1) := by decide +kernel
theorem dL_law_838 : decode cL_law 838 = .ok (.iaload, 1) := by decide +kernel
theorem dL_law_839 : decode cL_law 839 = .ok (.aload_n 3, 1) := by decide +kernel
theorem dL_law_840 : decode cL_law 840 = .ok (.invokestatic 128, 3) := by decide +kernel
theorem dL_law_843 : decode cL_law 843 = .ok (.istore 5, 2) := by decide +kernel
theorem dL_law_845 : decode cL_law 845 = .ok (.aload_n 2, 1) := by decide +kernel
theorem dL_law_846 : decode cL_law 846 = .ok (.aload_n 0, 1) := by decide +kernel
theorem dL_law_847 : decode cL_law 847 = .ok (.iload 4, 2) := by decide +kernel
theorem dL_law_849 : decode cL_law 849 = .ok (.iconst 1, 1) := by decide +kernel
theorem dL_law_850 : decode cL_law 850 = .ok (.iadd, 1) := by decide +kernel
theorem dL_law_851 : decode cL_law 851 = .ok (.iaload, 1) := by decide +kernel
theorem dL_law_852 : decode cL_law 852 = .ok (.invokevirtual 130, 3) := by decide +kernel
theorem dL_law_855 : decode cL_law 855 = .ok (.istore 6, 2) := by decide +kernel
theorem dL_law_857 : decode cL_law 857 = .ok (.aload_n 2, 1) := by decide +kernel
theorem dL_law_858 : decode cL_law 858 = .ok (.invokevirtual 89, 3) := by decide +kernel
theorem dL_law_861 : decode cL_law 861 = .ok (.iload 5, 2) := by decide +kernel
theorem dL_law_863 : decode cL_law 863 = .ok (.if_icmp .eq 5, 3) := by decide +kernel
theorem dL_law_866 : decode cL_law 866 = .ok (.iconst 0, 1) := by decide +kernel
theorem dL_law_867 : decode cL_law 867 = .ok (.ireturn, 1) := by decide +kernel
theorem dL_law_868 : decode cL_law 868 = .ok (.iload 5, 2) := by decide +kernel
theorem dL_law_870 : decode cL_law 870 = .ok (.ifCond .ne 15, 3) := by decide +kernel
theorem dL_law_873 : decode cL_law 873 = .ok (.aload_n 3, 1) := by decide +kernel
theorem dL_law_874 : decode cL_law 874 = .ok (.iconst 0, 1) := by decide +kernel
theorem dL_law_875 : decode cL_law 875 = .ok (.laload, 1) := by decide +kernel
theorem dL_law_876 : decode cL_law 876 = .ok (.iload 6, 2) := by decide +kernel
theorem dL_law_878 : decode cL_law 878 = .ok (.i2l, 1) := by decide +kernel
theorem dL_law_879 : decode cL_law 879 = .ok (.lcmp, 1) := by decide +kernel
theorem dL_law_880 : decode cL_law 880 = .ok (.ifCond .eq 5, 3) := by decide +kernel
theorem dL_law_883 : decode cL_law 883 = .ok (.iconst 0, 1) := by decide +kernel
theorem dL_law_884 : decode cL_law 884 = .ok (.ireturn, 1) := by decide +kernel
theorem dL_law_885 : decode cL_law 885 = .ok (.goto 541, 3) := by decide +kernel
theorem dL_law_888 : decode cL_law 888 = .ok (.aload_n 1, 1) := by decide +kernel
theorem dL_law_889 : decode cL_law 889 = .ok (.aload_n 0, 1) := by decide +kernel
theorem dL_law_890 : decode cL_law 890 = .ok (.iload 4, 2) := by decide +kernel
theorem dL_law_892 : decode cL_law 892 = .ok (.iconst 1, 1) := by decide +kernel
theorem dL_law_893 : decode cL_law 893 = .ok (.iadd, 1) := by decide +kernel
theorem dL_law_894 : decode cL_law 894 = .ok (.iaload, 1) := by decide +kernel
theorem dL_law_895 : decode cL_law 895 = .ok (.aload_n 0, 1) := by decide +kernel
theorem dL_law_896 : decode cL_law 896 = .ok (.iload 4, 2) := by decide +kernel
theorem dL_law_898 : decode cL_law 898 = .ok (.iconst 2, 1) := by decide +kernel
theorem dL_law_899 : decode cL_law 899 = .ok (.iadd, 1) := by decide +kernel
theorem dL_law_900 : decode cL_law 900 = .ok (.iaload, 1) := by decide +kernel
theorem dL_law_901 : decode cL_law 901 = .ok (.aload_n 0, 1) := by decide +kernel
theorem dL_law_902 : decode cL_law 902 = .ok (.iload 4, 2) := by decide +kernel
theorem dL_law_904 : decode cL_law 904 = .ok (.iconst 3, 1) := by decide +kernel
theorem dL_law_905 : decode cL_law 905 = .ok (.iadd, 1) := by decide +kernel
theorem dL_law_906 : decode cL_law 906 = .ok (.iaload, 1) := by decide +kernel
theorem dL_law_907 : decode cL_law 907 = .ok (.aload_n 3, 1) := by decide +kernel
theorem dL_law_908 : decode cL_law 908 = .ok (.invokestatic 131, 3) := by decide +kernel
theorem dL_law_911 : decode cL_law 911 = .ok (.istore 5, 2) := by decide +kernel
theorem dL_law_913 : decode cL_law 913 = .ok (.aload_n 2, 1) := by decide +kernel
theorem dL_law_914 : decode cL_law 914 = .ok (.aload_n 0, 1) := by decide +kernel
theorem dL_law_915 : decode cL_law 915 = .ok (.iload 4, 2) := by decide +kernel
theorem dL_law_917 : decode cL_law 917 = .ok (.iconst 1, 1) := by decide +kernel
theorem dL_law_918 : decode cL_law 918 = .ok (.iadd, 1) := by decide +kernel
theorem dL_law_919 : decode cL_law 919 = .ok (.iaload, 1) := by decide +kernel
theorem dL_law_920 : decode cL_law 920 = .ok (.aload_n 0, 1) := by decide +kernel
theorem dL_law_921 : decode cL_law 921 = .ok (.iload 4, 2) := by decide +kernel
theorem dL_law_923 : decode cL_law 923 = .ok (.iconst 2, 1) := by decide +kernel
theorem dL_law_924 : decode cL_law 924 = .ok (.iadd, 1) := by decide +kernel
theorem dL_law_925 : decode cL_law 925 = .ok (.iaload, 1) := by decide +kernel
theorem dL_law_926 : decode cL_law 926 = .ok (.aload_n 0, 1) := by decide +kernel
theorem dL_law_927 : decode cL_law 927 = .ok (.iload 4, 2) := by decide +kernel
theorem dL_law_929 : decode cL_law 929 = .ok (.iconst 3, 1) := by decide +kernel
theorem dL_law_930 : decode cL_law 930 = .ok (.iadd, 1) := by decide +kernel
theorem dL_law_931 : decode cL_law 931 = .ok (.iaload, 1) := by decide +kernel
theorem dL_law_932 : decode cL_law 932 = .ok (.invokevirtual 133, 3) := by decide +kernel
theorem dL_law_935 : decode cL_law 935 = .ok (.istore 6, 2) := by decide +kernel
theorem dL_law_937 : decode cL_law 937 = .ok (.aload_n 2, 1) := by decide +kernel
theorem dL_law_938 : decode cL_law 938 = .ok (.invokevirtual 89, 3) := by decide +kernel
theorem dL_law_941 : decode cL_law 941 = .ok (.iload 5, 2) := by decide +kernel
theorem dL_law_943 : decode cL_law 943 = .ok (.if_icmp .eq 5, 3) := by decide +kernel
theorem dL_law_946 : decode cL_law 946 = .ok (.iconst 0, 1) := by decide +kernel
theorem dL_law_947 : decode cL_law 947 = .ok (.ireturn, 1) := by decide +kernel
theorem dL_law_948 : decode cL_law 948 = .ok (.iload 5, 2) := by decide +kernel
theorem dL_law_950 : decode cL_law 950 = .ok (.ifCond .ne 15, 3) := by decide +kernel
theorem dL_law_953 : decode cL_law 953 = .ok (.aload_n 3, 1) := by decide +kernel
theorem dL_law_954 : decode cL_law 954 = .ok (.iconst 0, 1) := by decide +kernel
theorem dL_law_955 : decode cL_law 955 = .ok (.laload, 1) := by decide +kernel
theorem dL_law_956 : decode cL_law 956 = .ok (.iload 6, 2) := by decide +kernel
theorem dL_law_958 : decode cL_law 958 = .ok (.i2l, 1) := by decide +kernel
theorem dL_law_959 : decode cL_law 959 = .ok (.lcmp, 1) := by decide +kernel
theorem dL_law_960 : decode cL_law 960 = .ok (.ifCond .eq 5, 3) := by decide +kernel
theorem dL_law_963 : decode cL_law 963 = .ok (.iconst 0, 1) := by decide +kernel
theorem dL_law_964 : decode cL_law 964 = .ok (.ireturn, 1) := by decide +kernel
theorem dL_law_965 : decode cL_law 965 = .ok (.goto 461, 3) := by decide +kernel
theorem dL_law_968 : decode cL_law 968 = .ok (.aload_n 1, 1) := by decide +kernel
theorem dL_law_969 : decode cL_law 969 = .ok (.aload_n 0, 1) := by decide +kernel
theorem dL_law_970 : decode cL_law 970 = .ok (.iload 4, 2) := by decide +kernel
theorem dL_law_972 : decode cL_law 972 = .ok (.iconst 1, 1) := by decide +kernel
theorem dL_law_973 : decode cL_law 973 = .ok (.iadd, 1) := by decide +kernel
theorem dL_law_974 : decode cL_law 974 = .ok (.iaload, 1) := by decide +kernel
theorem dL_law_975 : decode cL_law 975 = .ok (.aload_n 3, 1) := by decide +kernel
theorem dL_law_976 : decode cL_law 976 = .ok (.invokestatic 134, 3) := by decide +kernel
theorem dL_law_979 : decode cL_law 979 = .ok (.istore 5, 2) := by decide +kernel
theorem dL_law_981 : decode cL_law 981 = .ok (.aload_n 2, 1) := by decide +kernel
theorem dL_law_982 : decode cL_law 982 = .ok (.aload_n 0, 1) := by decide +kernel
theorem dL_law_983 : decode cL_law 983 = .ok (.iload 4, 2) := by decide +kernel
theorem dL_law_985 : decode cL_law 985 = .ok (.iconst 1, 1) := by decide +kernel
theorem dL_law_986 : decode cL_law 986 = .ok (.iadd, 1) := by decide +kernel
theorem dL_law_987 : decode cL_law 987 = .ok (.iaload, 1) := by decide +kernel
theorem dL_law_988 : decode cL_law 988 = .ok (.invokevirtual 136, 3) := by decide +kernel
theorem dL_law_991 : decode cL_law 991 = .ok (.istore 6, 2) := by decide +kernel
theorem dL_law_993 : decode cL_law 993 = .ok (.aload_n 2, 1) := by decide +kernel
theorem dL_law_994 : decode cL_law 994 = .ok (.invokevirtual 89, 3) := by decide +kernel
theorem dL_law_997 : decode cL_law 997 = .ok (.iload 5, 2) := by decide +kernel
theorem dL_law_999 : decode cL_law 999 = .ok (.if_icmp .eq 5, 3) := by decide +kernel
theorem dL_law_1002 : decode cL_law 1002 = .ok (.iconst 0, 1) := by decide +kernel
theorem dL_law_1003 : decode cL_law 1003 = .ok (.ireturn, 1) := by decide +kernel
theorem dL_law_1004 : decode cL_law 1004 = .ok (.iload 5, 2) := by decide +kernel
theorem dL_law_1006 : decode cL_law 1006 = .ok (.ifCond .ne 15, 3) := by decide +kernel
theorem dL_law_1009 : decode cL_law 1009 = .ok (.aload_n 3, 1) := by decide +kernel
theorem dL_law_1010 : decode cL_law 1010 = .ok (.iconst 0, 1) := by decide +kernel
theorem dL_law_1011 : decode cL_law 1011 = .ok (.laload, 1) := by decide +kernel
theorem dL_law_1012 : decode cL_law 1012 = .ok (.iload 6, 2) := by decide +kernel
theorem dL_law_1014 : decode cL_law 1014 = .ok (.i2l, 1) := by decide +kernel
theorem dL_law_1015 : decode cL_law 1015 = .ok (.lcmp, 1) := by decide +kernel
theorem dL_law_1016 : decode cL_law 1016 = .ok (.ifCond .eq 5, 3) := by decide +kernel
theorem dL_law_1019 : decode cL_law 1019 = .ok (.iconst 0, 1) := by decide +kernel
theorem dL_law_1020 : decode cL_law 1020 = .ok (.ireturn, 1) := by decide +kernel
theorem dL_law_1021 : decode cL_law 1021 = .ok (.goto 405, 3) := by decide +kernel
theorem dL_law_1024 : decode cL_law 1024 = .ok (.aload_n 1, 1) := by decide +kernel
theorem dL_law_1025 : decode cL_law 1025 = .ok (.invokevirtual 137, 3) := by decide +kernel
theorem dL_law_1028 : decode cL_law 1028 = .ok (.aload_n 2, 1) := by decide +kernel
theorem dL_law_1029 : decode cL_law 1029 = .ok (.invokevirtual 140, 3) := by decide +kernel
theorem dL_law_1032 : decode cL_law 1032 = .ok (.if_icmp .eq 394, 3) := by decide +kernel
theorem dL_law_1035 : decode cL_law 1035 = .ok (.iconst 0, 1) := by decide +kernel
theorem dL_law_1036 : decode cL_law 1036 = .ok (.ireturn, 1) := by decide +kernel
theorem dL_law_1037 : decode cL_law 1037 = .ok (.aload_n 1, 1) := by decide +kernel
theorem dL_law_1038 : decode cL_law 1038 = .ok (.invokevirtual 141, 3) := by decide +kernel
theorem dL_law_1041 : decode cL_law 1041 = .ok (.aload_n 2, 1) := by decide +kernel
theorem dL_law_1042 : decode cL_law 1042 = .ok (.invokevirtual 144, 3) := by decide +kernel
theorem dL_law_1045 : decode cL_law 1045 = .ok (.if_icmp .eq 381, 3) := by decide +kernel
theorem dL_law_1048 : decode cL_law 1048 = .ok (.iconst 0, 1) := by decide +kernel
theorem dL_law_1049 : decode cL_law 1049 = .ok (.ireturn, 1) := by decide +kernel
theorem dL_law_1050 : decode cL_law 1050 = .ok (.aload_n 1, 1) := by decide +kernel
theorem dL_law_1051 : decode cL_law 1051 = .ok (.aload_n 0, 1) := by decide +kernel
theorem dL_law_1052 : decode cL_law 1052 = .ok (.iload 4, 2) := by decide +kernel
theorem dL_law_1054 : decode cL_law 1054 = .ok (.iconst 1, 1) := by decide +kernel
theorem dL_law_1055 : decode cL_law 1055 = .ok (.iadd, 1) := by decide +kernel
theorem dL_law_1056 : decode cL_law 1056 = .ok (.iaload, 1) := by decide +kernel
theorem dL_law_1057 : decode cL_law 1057 = .ok (.aload_n 0, 1) := by decide +kernel
theorem dL_law_1058 : decode cL_law 1058 = .ok (.iload 4, 2) := by decide +kernel
theorem dL_law_1060 : decode cL_law 1060 = .ok (.iconst 2, 1) := by decide +kernel
theorem dL_law_1061 : decode cL_law 1061 = .ok (.iadd, 1) := by decide +kernel
theorem dL_law_1062 : decode cL_law 1062 = .ok (.iaload, 1) := by decide +kernel
theorem dL_law_1063 : decode cL_law 1063 = .ok (.aload_n 3, 1) := by decide +kernel
theorem dL_law_1064 : decode cL_law 1064 = .ok (.invokestatic 145, 3) := by decide +kernel
theorem dL_law_1067 : decode cL_law 1067 = .ok (.istore 5, 2) := by decide +kernel
theorem dL_law_1069 : decode cL_law 1069 = .ok (.aload_n 2, 1) := by decide +kernel
theorem dL_law_1070 : decode cL_law 1070 = .ok (.aload_n 0, 1) := by decide +kernel
theorem dL_law_1071 : decode cL_law 1071 = .ok (.iload 4, 2) := by decide +kernel
theorem dL_law_1073 : decode cL_law 1073 = .ok (.iconst 1, 1) := by decide +kernel
theorem dL_law_1074 : decode cL_law 1074 = .ok (.iadd, 1) := by decide +kernel
theorem dL_law_1075 : decode cL_law 1075 = .ok (.iaload, 1) := by decide +kernel
theorem dL_law_1076 : decode cL_law 1076 = .ok (.aload_n 0, 1) := by decide +kernel
theorem dL_law_1077 : decode cL_law 1077 = .ok (.iload 4, 2) := by decide +kernel
theorem dL_law_1079 : decode cL_law 1079 = .ok (.iconst 2, 1) := by decide +kernel
theorem dL_law_1080 : decode cL_law 1080 = .ok (.iadd, 1) := by decide +kernel
theorem dL_law_1081 : decode cL_law 1081 = .ok (.iaload, 1) := by decide +kernel
theorem dL_law_1082 : decode cL_law 1082 = .ok (.invokevirtual 147, 3) := by decide +kernel
theorem dL_law_1085 : decode cL_law 1085 = .ok (.istore 6, 2) := by decide +kernel
theorem dL_law_1087 : decode cL_law 1087 = .ok (.aload_n 2, 1) := by decide +kernel
theorem dL_law_1088 : decode cL_law 1088 = .ok (.invokevirtual 89, 3) := by decide +kernel
theorem dL_law_1091 : decode cL_law 1091 = .ok (.iload 5, 2) := by decide +kernel
theorem dL_law_1093 : decode cL_law 1093 = .ok (.if_icmp .eq 5, 3) := by decide +kernel
theorem dL_law_1096 : decode cL_law 1096 = .ok (.iconst 0, 1) := by decide +kernel
theorem dL_law_1097 : decode cL_law 1097 = .ok (.ireturn, 1) := by decide +kernel
theorem dL_law_1098 : decode cL_law 1098 = .ok (.iload 5, 2) := by decide +kernel
theorem dL_law_1100 : decode cL_law 1100 = .ok (.ifCond .ne 15, 3) := by decide +kernel
theorem dL_law_1103 : decode cL_law 1103 = .ok (.aload_n 3, 1) := by decide +kernel
theorem dL_law_1104 : decode cL_law 1104 = .ok (.iconst 0, 1) := by decide +kernel
theorem dL_law_1105 : decode cL_law 1105 = .ok (.laload, 1) := by decide +kernel
theorem dL_law_1106 : decode cL_law 1106 = .ok (.iload 6, 2) := by decide +kernel
theorem dL_law_1108 : decode cL_law 1108 = .ok (.i2l, 1) := by decide +kernel
theorem dL_law_1109 : decode cL_law 1109 = .ok (.lcmp, 1) := by decide +kernel
theorem dL_law_1110 : decode cL_law 1110 = .ok (.ifCond .eq 5, 3) := by decide +kernel
theorem dL_law_1113 : decode cL_law 1113 = .ok (.iconst 0, 1) := by decide +kernel
theorem dL_law_1114 : decode cL_law 1114 = .ok (.ireturn, 1) := by decide +kernel
theorem dL_law_1115 : decode cL_law 1115 = .ok (.goto 311, 3) := by decide +kernel
theorem dL_law_1118 : decode cL_law 1118 = .ok (.aload_n 1, 1) := by decide +kernel
theorem dL_law_1119 : decode cL_law 1119 = .ok (.aload_n 0, 1) := by decide +kernel
theorem dL_law_1120 : decode cL_law 1120 = .ok (.iload 4, 2) := by decide +kernel
theorem dL_law_1122 : decode cL_law 1122 = .ok (.iconst 1, 1) := by decide +kernel
theorem dL_law_1123 : decode cL_law 1123 = .ok (.iadd, 1) := by decide +kernel
theorem dL_law_1124 : decode cL_law 1124 = .ok (.iaload, 1) := by decide +kernel
theorem dL_law_1125 : decode cL_law 1125 = .ok (.aload_n 0, 1) := by decide +kernel
theorem dL_law_1126 : decode cL_law 1126 = .ok (.iload 4, 2) := by decide +kernel
theorem dL_law_1128 : decode cL_law 1128 = .ok (.iconst 2, 1) := by decide +kernel
theorem dL_law_1129 : decode cL_law 1129 = .ok (.iadd, 1) := by decide +kernel
theorem dL_law_1130 : decode cL_law 1130 = .ok (.iaload, 1) := by decide +kernel
theorem dL_law_1131 : decode cL_law 1131 = .ok (.aload_n 0, 1) := by decide +kernel
theorem dL_law_1132 : decode cL_law 1132 = .ok (.iload 4, 2) := by decide +kernel
theorem dL_law_1134 : decode cL_law 1134 = .ok (.iconst 3, 1) := by decide +kernel
theorem dL_law_1135 : decode cL_law 1135 = .ok (.iadd, 1) := by decide +kernel
theorem dL_law_1136 : decode cL_law 1136 = .ok (.iaload, 1) := by decide +kernel
theorem dL_law_1137 : decode cL_law 1137 = .ok (.aload_n 3, 1) := by decide +kernel
theorem dL_law_1138 : decode cL_law 1138 = .ok (.invokestatic 148, 3) := by decide +kernel
theorem dL_law_1141 : decode cL_law 1141 = .ok (.istore 5, 2) := by decide +kernel
theorem dL_law_1143 : decode cL_law 1143 = .ok (.aload_n 2, 1) := by decide +kernel
theorem dL_law_1144 : decode cL_law 1144 = .ok (.aload_n 0, 1) := by decide +kernel
theorem dL_law_1145 : decode cL_law 1145 = .ok (.iload 4, 2) := by decide +kernel
theorem dL_law_1147 : decode cL_law 1147 = .ok (.iconst 1, 1) := by decide +kernel
theorem dL_law_1148 : decode cL_law 1148 = .ok (.iadd, 1) := by decide +kernel
theorem dL_law_1149 : decode cL_law 1149 = .ok (.iaload, 1) := by decide +kernel
theorem dL_law_1150 : decode cL_law 1150 = .ok (.aload_n 0, 1) := by decide +kernel
theorem dL_law_1151 : decode cL_law 1151 = .ok (.iload 4, 2) := by decide +kernel
theorem dL_law_1153 : decode cL_law 1153 = .ok (.iconst 2, 1) := by decide +kernel
theorem dL_law_1154 : decode cL_law 1154 = .ok (.iadd, 1) := by decide +kernel
theorem dL_law_1155 : decode cL_law 1155 = .ok (.iaload, 1) := by decide +kernel
theorem dL_law_1156 : decode cL_law 1156 = .ok (.aload_n 0, 1) := by decide +kernel
theorem dL_law_1157 : decode cL_law 1157 = .ok (.iload 4, 2) := by decide +kernel
theorem dL_law_1159 : decode cL_law 1159 = .ok (.iconst 3, 1) := by decide +kernel
theorem dL_law_1160 : decode cL_law 1160 = .ok (.iadd, 1) := by decide +kernel
theorem dL_law_1161 : decode cL_law 1161 = .ok (.iaload, 1) := by decide +kernel
theorem dL_law_1162 : decode cL_law 1162 = .ok (.invokevirtual 150, 3) := by decide +kernel
theorem dL_law_1165 : decode cL_law 1165 = .ok (.istore 6, 2) := by decide +kernel
theorem dL_law_1167 : decode cL_law 1167 = .ok (.aload_n 2, 1) := by decide +kernel
theorem dL_law_1168 : decode cL_law 1168 = .ok (.invokevirtual 89, 3) := by decide +kernel
theorem dL_law_1171 : decode cL_law 1171 = .ok (.iload 5, 2) := by decide +kernel
theorem dL_law_1173 : decode cL_law 1173 = .ok (.if_icmp .eq 5, 3) := by decide +kernel
theorem dL_law_1176 : decode cL_law 1176 = .ok (.iconst 0, 1) := by decide +kernel
theorem dL_law_1177 : decode cL_law 1177 = .ok (.ireturn, 1) := by decide +kernel
theorem dL_law_1178 : decode cL_law 1178 = .ok (.iload 5, 2) := by decide +kernel
theorem dL_law_1180 : decode cL_law 1180 = .ok (.ifCond .ne 15, 3) := by decide +kernel
theorem dL_law_1183 : decode cL_law 1183 = .ok (.aload_n 3, 1) := by decide +kernel
theorem dL_law_1184 : decode cL_law 1184 = .ok (.iconst 0, 1) := by decide +kernel
theorem dL_law_1185 : decode cL_law 1185 = .ok (.laload, 1) := by decide +kernel
theorem dL_law_1186 : decode cL_law 1186 = .ok (.iload 6, 2) := by decide +kernel
theorem dL_law_1188 : decode cL_law 1188 = .ok (.i2l, 1) := by decide +kernel
theorem dL_law_1189 : decode cL_law 1189 = .ok (.lcmp, 1) := by decide +kernel
theorem dL_law_1190 : decode cL_law 1190 = .ok (.ifCond .eq 5, 3) := by decide +kernel
theorem dL_law_1193 : decode cL_law 1193 = .ok (.iconst 0, 1) := by decide +kernel
theorem dL_law_1194 : decode cL_law 1194 = .ok (.ireturn, 1) := by decide +kernel
theorem dL_law_1195 : decode cL_law 1195 = .ok (.goto 231, 3) := by decide +kernel
theorem dL_law_1198 : decode cL_law 1198 = .ok (.aload_n 1, 1) := by decide +kernel
theorem dL_law_1199 : decode cL_law 1199 = .ok (.aload_n 0, 1) := by decide +kernel
theorem dL_law_1200 : decode cL_law 1200 = .ok (.iload 4, 2) := by decide +kernel
theorem dL_law_1202 : decode cL_law 1202 = .ok (.iconst 1, 1) := by decide +kernel
theorem dL_law_1203 : decode cL_law 1203 = .ok (.iadd, 1) := by decide +kernel
theorem dL_law_1204 : decode cL_law 1204 = .ok (.iaload, 1) := by decide +kernel
theorem dL_law_1205 : decode cL_law 1205 = .ok (.aload_n 0, 1) := by decide +kernel
theorem dL_law_1206 : decode cL_law 1206 = .ok (.iload 4, 2) := by decide +kernel
theorem dL_law_1208 : decode cL_law 1208 = .ok (.iconst 2, 1) := by decide +kernel
theorem dL_law_1209 : decode cL_law 1209 = .ok (.iadd, 1) := by decide +kernel
theorem dL_law_1210 : decode cL_law 1210 = .ok (.iaload, 1) := by decide +kernel
theorem dL_law_1211 : decode cL_law 1211 = .ok (.aload_n 0, 1) := by decide +kernel
theorem dL_law_1212 : decode cL_law 1212 = .ok (.iload 4, 2) := by decide +kernel
theorem dL_law_1214 : decode cL_law 1214 = .ok (.iconst 3, 1) := by decide +kernel
theorem dL_law_1215 : decode cL_law 1215 = .ok (.iadd, 1) := by decide +kernel
theorem dL_law_1216 : decode cL_law 1216 = .ok (.iaload, 1) := by decide +kernel
theorem dL_law_1217 : decode cL_law 1217 = .ok (.aload_n 3, 1) := by decide +kernel
theorem dL_law_1218 : decode cL_law 1218 = .ok (.invokestatic 151, 3) := by decide +kernel
theorem dL_law_1221 : decode cL_law 1221 = .ok (.istore 5, 2) := by decide +kernel
theorem dL_law_1223 : decode cL_law 1223 = .ok (.aload_n 2, 1) := by decide +kernel
theorem dL_law_1224 : decode cL_law 1224 = .ok (.aload_n 0, 1) := by decide +kernel
theorem dL_law_1225 : decode cL_law 1225 = .ok (.iload 4, 2) := by decide +kernel
theorem dL_law_1227 : decode cL_law 1227 = .ok (.iconst 1, 1) := by decide +kernel
theorem dL_law_1228 : decode cL_law 1228 = .ok (.iadd, 1) := by decide +kernel
theorem dL_law_1229 : decode cL_law 1229 = .ok (.iaload, 1) := by decide +kernel
theorem dL_law_1230 : decode cL_law 1230 = .ok (.aload_n 0, 1) := by decide +kernel
theorem dL_law_1231 : decode cL_law 1231 = .ok (.iload 4, 2) := by decide +kernel
theorem dL_law_1233 : decode cL_law 1233 = .ok (.iconst 2, 1) := by decide +kernel
theorem dL_law_1234 : decode cL_law 1234 = .ok (.iadd, 1) := by decide +kernel
theorem dL_law_1235 : decode cL_law 1235 = .ok (.iaload, 1) := by decide +kernel
theorem dL_law_1236 : decode cL_law 1236 = .ok (.aload_n 0, 1) := by decide +kernel
theorem dL_law_1237 : decode cL_law 1237 = .ok (.iload 4, 2) := by decide +kernel
theorem dL_law_1239 : decode cL_law 1239 = .ok (.iconst 3, 1) := by decide +kernel
theorem dL_law_1240 : decode cL_law 1240 = .ok (.iadd, 1) := by decide +kernel
theorem dL_law_1241 : decode cL_law 1241 = .ok (.iaload, 1) := by decide +kernel
theorem dL_law_1242 : decode cL_law 1242 = .ok (.invokevirtual 153, 3) := by decide +kernel
theorem dL_law_1245 : decode cL_law 1245 = .ok (.istore 6, 2) := by decide +kernel
theorem dL_law_1247 : decode cL_law 1247 = .ok (.aload_n 2, 1) := by decide +kernel
theorem dL_law_1248 : decode cL_law 1248 = .ok (.invokevirtual 89, 3) := by decide +kernel
theorem dL_law_1251 : decode cL_law 1251 = .ok (.iload 5, 2) := by decide +kernel
theorem dL_law_1253 : decode cL_law 1253 = .ok (.if_icmp .eq 5, 3) := by decide +kernel
theorem dL_law_1256 : decode cL_law 1256 = .ok (.iconst 0, 1) := by decide +kernel
theorem dL_law_1257 : decode cL_law 1257 = .ok (.ireturn, 1) := by decide +kernel
theorem dL_law_1258 : decode cL_law 1258 = .ok (.iload 5, 2) := by decide +kernel
theorem dL_law_1260 : decode cL_law 1260 = .ok (.ifCond .ne 15, 3) := by decide +kernel
theorem dL_law_1263 : decode cL_law 1263 = .ok (.aload_n 3, 1) := by decide +kernel
theorem dL_law_1264 : decode cL_law 1264 = .ok (.iconst 0, 1) := by decide +kernel
theorem dL_law_1265 : decode cL_law 1265 = .ok (.laload, 1) := by decide +kernel
theorem dL_law_1266 : decode cL_law 1266 = .ok (.iload 6, 2) := by decide +kernel
theorem dL_law_1268 : decode cL_law 1268 = .ok (.i2l, 1) := by decide +kernel
theorem dL_law_1269 : decode cL_law 1269 = .ok (.lcmp, 1) := by decide +kernel
theorem dL_law_1270 : decode cL_law 1270 = .ok (.ifCond .eq 5, 3) := by decide +kernel
theorem dL_law_1273 : decode cL_law 1273 = .ok (.iconst 0, 1) := by decide +kernel
theorem dL_law_1274 : decode cL_law 1274 = .ok (.ireturn, 1) := by decide +kernel
theorem dL_law_1275 : decode cL_law 1275 = .ok (.goto 151, 3) := by decide +kernel
theorem dL_law_1278 : decode cL_law 1278 = .ok (.aload_n 1, 1) := by decide +kernel
theorem dL_law_1279 : decode cL_law 1279 = .ok (.aload_n 0, 1) := by decide +kernel
theorem dL_law_1280 : decode cL_law 1280 = .ok (.iload 4, 2) := by decide +kernel
theorem dL_law_1282 : decode cL_law 1282 = .ok (.iconst 1, 1) := by decide +kernel
theorem dL_law_1283 : decode cL_law 1283 = .ok (.iadd, 1) := by decide +kernel
theorem dL_law_1284 : decode cL_law 1284 = .ok (.iaload, 1) := by decide +kernel
theorem dL_law_1285 : decode cL_law 1285 = .ok (.aload_n 0, 1) := by decide +kernel
theorem dL_law_1286 : decode cL_law 1286 = .ok (.iload 4, 2) := by decide +kernel
theorem dL_law_1288 : decode cL_law 1288 = .ok (.iconst 2, 1) := by decide +kernel
theorem dL_law_1289 : decode cL_law 1289 = .ok (.iadd, 1) := by decide +kernel
theorem dL_law_1290 : decode cL_law 1290 = .ok (.iaload, 1) := by decide +kernel
theorem dL_law_1291 : decode cL_law 1291 = .ok (.aload_n 3, 1) := by decide +kernel
theorem dL_law_1292 : decode cL_law 1292 = .ok (.invokestatic 154, 3) := by decide +kernel
theorem dL_law_1295 : decode cL_law 1295 = .ok (.istore 5, 2) := by decide +kernel
theorem dL_law_1297 : decode cL_law 1297 = .ok (.aload_n 2, 1) := by decide +kernel
theorem dL_law_1298 : decode cL_law 1298 = .ok (.aload_n 0, 1) := by decide +kernel
theorem dL_law_1299 : decode cL_law 1299 = .ok (.iload 4, 2) := by decide +kernel
theorem dL_law_1301 : decode cL_law 1301 = .ok (.iconst 1, 1) := by decide +kernel
theorem dL_law_1302 : decode cL_law 1302 = .ok (.iadd, 1) := by decide +kernel
theorem dL_law_1303 : decode cL_law 1303 = .ok (.iaload, 1) := by decide +kernel
theorem dL_law_1304 : decode cL_law 1304 = .ok (.aload_n 0, 1) := by decide +kernel
theorem dL_law_1305 : decode cL_law 1305 = .ok (.iload 4, 2) := by decide +kernel
theorem dL_law_1307 : decode cL_law 1307 = .ok (.iconst 2, 1) := by decide +kernel
theorem dL_law_1308 : decode cL_law 1308 = .ok (.iadd, 1) := by decide +kernel
theorem dL_law_1309 : decode cL_law 1309 = .ok (.iaload, 1) := by decide +kernel
theorem dL_law_1310 : decode cL_law 1310 = .ok (.invokevirtual 156, 3) := by decide +kernel
theorem dL_law_1313 : decode cL_law 1313 = .ok (.istore 6, 2) := by decide +kernel
theorem dL_law_1315 : decode cL_law 1315 = .ok (.aload_n 2, 1) := by decide +kernel
theorem dL_law_1316 : decode cL_law 1316 = .ok (.invokevirtual 89, 3) := by decide +kernel
theorem dL_law_1319 : decode cL_law 1319 = .ok (.iload 5, 2) := by decide +kernel
theorem dL_law_1321 : decode cL_law 1321 = .ok (.if_icmp .eq 5, 3) := by decide +kernel
theorem dL_law_1324 : decode cL_law 1324 = .ok (.iconst 0, 1) := by decide +kernel
theorem dL_law_1325 : decode cL_law 1325 = .ok (.ireturn, 1) := by decide +kernel
theorem dL_law_1326 : decode cL_law 1326 = .ok (.iload 5, 2) := by decide +kernel
theorem dL_law_1328 : decode cL_law 1328 = .ok (.ifCond .ne 15, 3) := by decide +kernel
theorem dL_law_1331 : decode cL_law 1331 = .ok (.aload_n 3, 1) := by decide +kernel
theorem dL_law_1332 : decode cL_law 1332 = .ok (.iconst 0, 1) := by decide +kernel
theorem dL_law_1333 : decode cL_law 1333 = .ok (.laload, 1) := by decide +kernel
theorem dL_law_1334 : decode cL_law 1334 = .ok (.iload 6, 2) := by decide +kernel
theorem dL_law_1336 : decode cL_law 1336 = .ok (.i2l, 1) := by decide +kernel
theorem dL_law_1337 : decode cL_law 1337 = .ok (.lcmp, 1) := by decide +kernel
theorem dL_law_1338 : decode cL_law 1338 = .ok (.ifCond .eq 5, 3) := by decide +kernel
theorem dL_law_1341 : decode cL_law 1341 = .ok (.iconst 0, 1) := by decide +kernel
theorem dL_law_1342 : decode cL_law 1342 = .ok (.ireturn, 1) := by decide +kernel
theorem dL_law_1343 : decode cL_law 1343 = .ok (.goto 83, 3) := by decide +kernel
theorem dL_law_1346 : decode cL_law 1346 = .ok (.aload_n 1, 1) := by decide +kernel
theorem dL_law_1347 : decode cL_law 1347 = .ok (.aload_n 0, 1) := by decide +kernel
theorem dL_law_1348 : decode cL_law 1348 = .ok (.iload 4, 2) := by decide +kernel
theorem dL_law_1350 : decode cL_law 1350 = .ok (.iconst 1, 1) := by decide +kernel
theorem dL_law_1351 : decode cL_law 1351 = .ok (.iadd, 1) := by decide +kernel
theorem dL_law_1352 : decode cL_law 1352 = .ok (.iaload, 1) := by decide +kernel
theorem dL_law_1353 : decode cL_law 1353 = .ok (.aload_n 0, 1) := by decide +kernel
theorem dL_law_1354 : decode cL_law 1354 = .ok (.iload 4, 2) := by decide +kernel
theorem dL_law_1356 : decode cL_law 1356 = .ok (.iconst 2, 1) := by decide +kernel
theorem dL_law_1357 : decode cL_law 1357 = .ok (.iadd, 1) := by decide +kernel
theorem dL_law_1358 : decode cL_law 1358 = .ok (.iaload, 1) := by decide +kernel
theorem dL_law_1359 : decode cL_law 1359 = .ok (.aload_n 0, 1) := by decide +kernel
theorem dL_law_1360 : decode cL_law 1360 = .ok (.iload 4, 2) := by decide +kernel
theorem dL_law_1362 : decode cL_law 1362 = .ok (.iconst 3, 1) := by decide +kernel
theorem dL_law_1363 : decode cL_law 1363 = .ok (.iadd, 1) := by decide +kernel
theorem dL_law_1364 : decode cL_law 1364 = .ok (.iaload, 1) := by decide +kernel
theorem dL_law_1365 : decode cL_law 1365 = .ok (.aload_n 3, 1) := by decide +kernel
theorem dL_law_1366 : decode cL_law 1366 = .ok (.invokestatic 157, 3) := by decide +kernel
theorem dL_law_1369 : decode cL_law 1369 = .ok (.istore 5, 2) := by decide +kernel
theorem dL_law_1371 : decode cL_law 1371 = .ok (.aload_n 2, 1) := by decide +kernel
theorem dL_law_1372 : decode cL_law 1372 = .ok (.aload_n 0, 1) := by decide +kernel
theorem dL_law_1373 : decode cL_law 1373 = .ok (.iload 4, 2) := by decide +kernel
theorem dL_law_1375 : decode cL_law 1375 = .ok (.iconst 1, 1) := by decide +kernel
theorem dL_law_1376 : decode cL_law 1376 = .ok (.iadd, 1) := by decide +kernel
theorem dL_law_1377 : decode cL_law 1377 = .ok (.iaload, 1) := by decide +kernel
theorem dL_law_1378 : decode cL_law 1378 = .ok (.aload_n 0, 1) := by decide +kernel
theorem dL_law_1379 : decode cL_law 1379 = .ok (.iload 4, 2) := by decide +kernel
theorem dL_law_1381 : decode cL_law 1381 = .ok (.iconst 2, 1) := by decide +kernel
theorem dL_law_1382 : decode cL_law 1382 = .ok (.iadd, 1) := by decide +kernel
theorem dL_law_1383 : decode cL_law 1383 = .ok (.iaload, 1) := by decide +kernel
theorem dL_law_1384 : decode cL_law 1384 = .ok (.aload_n 0, 1) := by decide +kernel
theorem dL_law_1385 : decode cL_law 1385 = .ok (.iload 4, 2) := by decide +kernel
theorem dL_law_1387 : decode cL_law 1387 = .ok (.iconst 3, 1) := by decide +kernel
theorem dL_law_1388 : decode cL_law 1388 = .ok (.iadd, 1) := by decide +kernel
theorem dL_law_1389 : decode cL_law 1389 = .ok (.iaload, 1) := by decide +kernel
theorem dL_law_1390 : decode cL_law 1390 = .ok (.invokevirtual 159, 3) := by decide +kernel
theorem dL_law_1393 : decode cL_law 1393 = .ok (.istore 6, 2) := by decide +kernel
theorem dL_law_1395 : decode cL_law 1395 = .ok (.aload_n 2, 1) := by decide +kernel
theorem dL_law_1396 : decode cL_law 1396 = .ok (.invokevirtual 89, 3) := by decide +kernel
theorem dL_law_1399 : decode cL_law 1399 = .ok (.iload 5, 2) := by decide +kernel
theorem dL_law_1401 : decode cL_law 1401 = .ok (.if_icmp .eq 5, 3) := by decide +kernel
theorem dL_law_1404 : decode cL_law 1404 = .ok (.iconst 0, 1) := by decide +kernel
theorem dL_law_1405 : decode cL_law 1405 = .ok (.ireturn, 1) := by decide +kernel
theorem dL_law_1406 : decode cL_law 1406 = .ok (.iload 5, 2) := by decide +kernel
theorem dL_law_1408 : decode cL_law 1408 = .ok (.ifCond .ne 15, 3) := by decide +kernel
theorem dL_law_1411 : decode cL_law 1411 = .ok (.aload_n 3, 1) := by decide +kernel
theorem dL_law_1412 : decode cL_law 1412 = .ok (.iconst 0, 1) := by decide +kernel
theorem dL_law_1413 : decode cL_law 1413 = .ok (.laload, 1) := by decide +kernel
theorem dL_law_1414 : decode cL_law 1414 = .ok (.iload 6, 2) := by decide +kernel
theorem dL_law_1416 : decode cL_law 1416 = .ok (.i2l, 1) := by decide +kernel
theorem dL_law_1417 : decode cL_law 1417 = .ok (.lcmp, 1) := by decide +kernel
theorem dL_law_1418 : decode cL_law 1418 = .ok (.ifCond .eq 5, 3) := by decide +kernel
theorem dL_law_1421 : decode cL_law 1421 = .ok (.iconst 0, 1) := by decide +kernel
theorem dL_law_1422 : decode cL_law 1422 = .ok (.ireturn, 1) := by decide +kernel
theorem dL_law_1423 : decode cL_law 1423 = .ok (.goto 3, 3) := by decide +kernel
theorem dL_law_1426 : decode cL_law 1426 = .ok (.iinc 4 6, 3) := by decide +kernel
theorem dL_law_1429 : decode cL_law 1429 = .ok (.goto (-1406), 3) := by decide +kernel
theorem dL_law_1432 : decode cL_law 1432 = .ok (.iconst 1, 1) := by decide +kernel
theorem dL_law_1433 : decode cL_law 1433 = .ok (.ireturn, 1) := by decide +kernel
end
section
/-! ===== the state of both systems, and where it lies ===== -/
abbrev KP : Type := va_G × (Nat → ClassId) × Nat × (Nat → Nat → Nat) × Nat × Nat
abbrev kD (κ : KP) : va_G := κ.1
abbrev kC (κ : KP) : Nat → ClassId := κ.2.1
abbrev kB (κ : KP) : Nat := κ.2.2.1
abbrev kA (κ : KP) : Nat → Nat → Nat := κ.2.2.2.1
abbrev kN (κ : KP) : Nat := κ.2.2.2.2.1
abbrev kO (κ : KP) : Nat := κ.2.2.2.2.2
abbrev AA (κ : KP) : Nat → Prop := fun q => kB κ ≤ q
abbrev St : Type := (Nat → Nat → Nat → Int32) × (Nat → Nat → Int64) × (Nat → Nat → Option Nat)
def gV (γ : St) (c n k : Nat) : Int32 := γ.1 c n k
def gL (γ : St) (c k : Nat) : Int64 := γ.2.1 c k
def gR (γ : St) (c k : Nat) : Option Nat := γ.2.2 c k
def sV (γ : St) (c n k : Nat) (v : Int32) : St := (fun a b j => if a = c ∧ b = n ∧ j = k then v else γ.1 a b j, γ.2.1, γ.2.2)
def sL (γ : St) (c k : Nat) (v : Int64) : St := (γ.1, fun a j => if a = c ∧ j = k then v else γ.2.1 a j, γ.2.2)
def sR (γ : St) (c k : Nat) (v : Option Nat) : St := (γ.1, γ.2.1, fun a j => if a = c ∧ j = k then v else γ.2.2 a j)
theorem gV_sV (γ : St) (c n k : Nat) (v : Int32) (a b j : Nat) : gV (sV γ c n k v) a b j = if a = c ∧ b = n ∧ j = k then v else gV γ a b j := rfl
theorem gV_sL (γ : St) (c k : Nat) (v : Int64) (a b j : Nat) : gV (sL γ c k v) a b j = gV γ a b j := rfl
theorem gV_sR (γ : St) (c k : Nat) (v : Option Nat) (a b j : Nat) : gV (sR γ c k v) a b j = gV γ a b j := rfl
theorem gL_sV (γ : St) (c n k : Nat) (v : Int32) (a j : Nat) : gL (sV γ c n k v) a j = gL γ a j := rfl
theorem gL_sL (γ : St) (c k : Nat) (v : Int64) (a j : Nat) : gL (sL γ c k v) a j = if a = c ∧ j = k then v else gL γ a j := rfl
theorem gL_sR (γ : St) (c k : Nat) (v : Option Nat) (a j : Nat) : gL (sR γ c k v) a j = gL γ a j := rfl
theorem gR_sV (γ : St) (c n k : Nat) (v : Int32) (a j : Nat) : gR (sV γ c n k v) a j = gR γ a j := rfl
theorem gR_sL (γ : St) (c k : Nat) (v : Int64) (a j : Nat) : gR (sL γ c k v) a j = gR γ a j := rfl
theorem gR_sR (γ : St) (c k : Nat) (v : Option Nat) (a j : Nat) : gR (sR γ c k v) a j = if a = c ∧ j = k then v else gR γ a j := rfl
def cel0 (kc : Nat → ClassId) (ad : Nat → Nat → Nat) (v : Nat → Int32) (x : Nat → Int64) (r : Nat → Option Nat) (c n : Nat) : va_E := match c with
  | 0 => .inr (0, [.ref (ad 2 (2 * n)), .ref (ad 2 (2 * n + 1)), .int (v 2), .int (v 3), .int (v 4), .int (v 5), .int (v 6), .int (v 7), .int (v 8), .int (v 9)])
  | 1 => .inr (1, [.ref (ad 16 n), .ref (ad 17 n), .int (v 2)])
  | 2 => .inr (2, [.int (v 0), .int (v 1), .int (v 2), .int (v 3)])
  | 3 => .inr (3, [.long (x 0)])
  | 4 => .inr (4, [.ref (ad 11 n), .ref (ad 12 n), .ref (ad 13 n), .ref (ad 14 n), .ref (ad 15 n), .ref (ad 6 (n)), .int (v 6)])
  | 5 => .inr (5, [.int (v 0), .int (v 1), .ref (ad 18 n), .ref (ad 19 n), .int (v 4)])
  | 6 => .inr (6, [.int (v 0), .int (v 1), .int (v 2), .int (v 3), .int (v 4)])
  | 7 => .inr (7, [.ref (ad 9 0), .ref (ad 10 0), .ref (ad 4 (0)), .ref (ad 1 (0)), .ref (ad 3 (0)), .int (v 5), .int (v 6), .int (v 7), va_rf ((r 8).map (ad 0)), .int (v 9)])
  | 8 => .inr (8, [.int (v 0), .long (x 1), .int (v 2), .int (v 3), .int (v 4), .ref (ad 20 0), .ref (ad 21 0), .ref (ad 22 0), .ref (ad 23 0), .ref (ad 24 0), .ref (ad 25 0), .ref (ad 26 0), .ref (ad 27 0), .ref (ad 28 0), .int (v 14), .ref (ad 29 0), .ref (ad 30 0), .int (v 17), .ref (ad 31 0), .ref (ad 32 0), .ref (ad 33 0), .ref (ad 34 0), .ref (ad 35 0), .int (v 23), .ref (ad 36 0), .ref (ad 37 0), .ref (ad 38 0), .int (v 27), .ref (ad 39 0), .ref (ad 40 0), .int (v 30), .int (v 31)])
  | 9 => .inl (kc 2, (80, .inr (.inr (.inr (.inr (fun j => (r j).map (ad 0)))))))
  | 10 => .inl (kc 3, (6, .inr (.inr (.inr (.inr (fun j => (r j).map (ad 5)))))))
  | 11 => .inl (kc 0, (24, .inl v))
  | 12 => .inl (kc 0, (24, .inl v))
  | 13 => .inl (kc 0, (24, .inl v))
  | 14 => .inl (kc 0, (24, .inl v))
  | 15 => .inl (kc 0, (24, .inl v))
  | 16 => .inl (kc 0, (32, .inl v))
  | 17 => .inl (kc 0, (16, .inl v))
  | 18 => .inl (kc 0, (48, .inl v))
  | 19 => .inl (kc 0, (12, .inl v))
  | 20 => .inl (kc 0, (160, .inl v))
  | 21 => .inl (kc 0, (160, .inl v))
  | 22 => .inl (kc 0, (80, .inl v))
  | 23 => .inl (kc 0, (80, .inl v))
  | 24 => .inl (kc 0, (80, .inl v))
  | 25 => .inl (kc 0, (80, .inl v))
  | 26 => .inl (kc 0, (80, .inl v))
  | 27 => .inl (kc 0, (80, .inl v))
  | 28 => .inl (kc 0, (80, .inl v))
  | 29 => .inl (kc 0, (2, .inl v))
  | 30 => .inl (kc 1, (2, .inl v))
  | 31 => .inl (kc 0, (24, .inl v))
  | 32 => .inl (kc 0, (24, .inl v))
  | 33 => .inl (kc 0, (24, .inl v))
  | 34 => .inl (kc 0, (24, .inl v))
  | 35 => .inl (kc 0, (24, .inl v))
  | 36 => .inl (kc 0, (6, .inl v))
  | 37 => .inl (kc 0, (6, .inl v))
  | 38 => .inl (kc 0, (12, .inl v))
  | 39 => .inl (kc 0, (128, .inl v))
  | 40 => .inl (kc 0, (64, .inl v))
  | _ => .inl (kc 4, (1, .inr (.inl x)))
def cel (κ : KP) (γ : St) (c n : Nat) : va_E := cel0 (kC κ) (kA κ) (gV γ c n) (gL γ c) (gR γ c) c n
/-- which things there are: class (or array) c, number n -/
def lv (κ : KP) (c n : Nat) : Prop := if c = 0 then n < kN κ else if c = 2 then n < 2 * kN κ else if c = 5 ∨ c = 18 ∨ c = 19 then n < kO κ else c < 42 ∧ n = 0
def WT (κ : KP) (γ : St) : Prop := ∀ c k b, gR γ c k = some b → b < (if c = 10 then kO κ else kN κ)
def HR (κ : KP) (γ : St) (H : Heap) : Prop :=
  (∀ c n, lv κ c n → va_at (kD κ) vwCl (kA κ c n, cel κ γ c n) H ∧ kB κ ≤ kA κ c n) ∧
  (∀ c n c' n', lv κ c n → lv κ c' n' → kA κ c n = kA κ c' n' → c = c' ∧ n = n') ∧ WT κ γ
abbrev tysK (κ : KP) : List (ClassId × FieldType) := [(kC κ 0, .int), (kC κ 1, .boolean), (kC κ 2, .object "Phrasehall$Bout"), (kC κ 3, .object "Phrasehall$Pool"), (kC κ 4, .long)]
theorem va_one {D : va_G} {cl : List vw_C} {q : Nat × va_E} {H : Heap} (h : va_at D cl q H) : va_P D cl [q] H := fun k x hk => by
  cases k with
  | zero => cases hk; exact h
  | succ k => simp at hk
theorem HR.at {κ : KP} {γ : St} {H : Heap} (h : HR κ γ H) {c n : Nat} (hv : lv κ c n) : va_P (kD κ) vwCl [(kA κ c n, cel κ γ c n)] H := va_one (h.1 c n hv).1
theorem HR.lt {κ : KP} {γ : St} {H : Heap} (h : HR κ γ H) {c n : Nat} (hv : lv κ c n) : kA κ c n < H.size := (h.1 c n hv).1.lt
theorem HR.wt {κ : KP} {γ : St} {H : Heap} (h : HR κ γ H) : WT κ γ := h.2.2
theorem cel_sV {κ : KP} {γ : St} {c n k : Nat} {v : Int32} {c' n' : Nat} (h : ¬ (c' = c ∧ n' = n)) : cel κ (sV γ c n k v) c' n' = cel κ γ c' n' := by
  have e : gV (sV γ c n k v) c' n' = gV γ c' n' := by
    funext j
    rw [gV_sV, if_neg (fun q => h ⟨q.1, q.2.1⟩)]
  unfold cel
  rw [e]
  rfl
theorem cel_sL {κ : KP} {γ : St} {c k : Nat} {v : Int64} {c' n' : Nat} (h : ¬ c' = c) : cel κ (sL γ c k v) c' n' = cel κ γ c' n' := by
  have e : gL (sL γ c k v) c' = gL γ c' := by
    funext j
    rw [gL_sL, if_neg (fun q => h q.1)]
  unfold cel
  rw [e]
  rfl
theorem cel_sR {κ : KP} {γ : St} {c k : Nat} {v : Option Nat} {c' n' : Nat} (h : ¬ c' = c) : cel κ (sR γ c k v) c' n' = cel κ γ c' n' := by
  have e : gR (sR γ c k v) c' = gR γ c' := by
    funext j
    rw [gR_sR, if_neg (fun q => h q.1)]
  unfold cel
  rw [e]
  rfl
theorem HR.put {κ : KP} {γ γ' : St} {H H1 : Heap} (h : HR κ γ H) {c n : Nat} (hv : lv κ c n) (he : va_at (kD κ) vwCl (kA κ c n, cel κ γ' c n) H1) (oq : ∀ q : Nat, q ≠ kA κ c n → H1[q]? = H[q]?)
    (hc : ∀ c' n', lv κ c' n' → ¬ (c' = c ∧ n' = n) → cel κ γ' c' n' = cel κ γ c' n') (hw : WT κ γ') : HR κ γ' H1 := by
  refine ⟨fun c' n' hl => ?_, h.2.1, hw⟩
  by_cases e : c' = c ∧ n' = n
  · obtain ⟨rfl, rfl⟩ := e
    exact ⟨he, (h.1 _ _ hv).2⟩
  · rw [hc c' n' hl e]
    have h1 := h.1 c' n' hl
    exact ⟨h1.1.kept (oq _ (fun z => e (h.2.1 c' n' c n hl hv z))), h1.2⟩
theorem WT_sV {κ : KP} {γ : St} {c n k : Nat} {v : Int32} (h : WT κ γ) : WT κ (sV γ c n k v) := h
theorem WT_sL {κ : KP} {γ : St} {c k : Nat} {v : Int64} (h : WT κ γ) : WT κ (sL γ c k v) := h
theorem WT_sR {κ : KP} {γ : St} {c k : Nat} {v : Option Nat} (h : WT κ γ) (hv : ∀ b, v = some b → b < (if c = 10 then kO κ else kN κ)) : WT κ (sR γ c k v) := by
  intro c' k' b hb
  rw [gR_sR] at hb
  by_cases e : c' = c ∧ k' = k
  · rw [if_pos e] at hb
    rw [e.1]
    exact hv b hb
  · rw [if_neg e] at hb
    exact h c' k' b hb
theorem upd_sV {γ : St} {c n k : Nat} {v : Int32} : gV (sV γ c n k v) c n = upd (gV γ c n) k v := by
  funext j
  rw [gV_sV]
  by_cases e : j = k
  · simp [upd, e]
  · simp [upd, e]
theorem updL_sL {γ : St} {c k : Nat} {v : Int64} : gL (sL γ c k v) c = vp_updL (gL γ c) k v := by
  funext j
  rw [gL_sL]
  by_cases e : j = k
  · simp [vp_updL, e]
  · simp [vp_updL, e]
/-! ===== what stays true of the tables and of Throwable's statics ===== -/
def kwd : Cond → Bool
  | .fieldLinkNest .. | .methodLinkNest .. | .castable .. | .declares .. => true
  | _ => false
def TW : List Cond := lw_tbl.filter goodWord
def NW : List Cond := lw_tbl.filter kwd
theorem tw_in {w : Cond} (i : Nat) (h : lw_tbl[i]? = some w) (hg : goodWord w = true) : w ∈ TW := List.mem_filter.mpr ⟨List.mem_of_getElem? h, hg⟩
theorem nw_in {w : Cond} (i : Nat) (h : lw_tbl[i]? = some w) (hg : kwd w = true) : w ∈ NW := List.mem_filter.mpr ⟨List.mem_of_getElem? h, hg⟩
theorem nw_warm {w : Cond} (hk : kwd w = true) {s U : State} (hW : s.WarmedH U.vm) (h : w.before #[] s = true) : w.before #[] U = true := by
  cases w <;> first
    | (exact absurd hk (by decide))
    | (exact va_Nw.warmF hW h)
    | (exact va_Nw.warmM hW h)
    | (exact va_Nw.warmC hW h)
    | (exact va_tabs rfl (rfl : (s.setVm U.vm).vm = U.vm) (by rw [Cond.declares_setVm hW.alike]; exact h))
    | (simp [kwd] at hk)
theorem nw_use {w : Cond} (hk : kwd w = true) {A : Array Value} {U : State} (h : w.before #[] U = true) : w.before A U = true := by
  have ho : w.onTables = true := by cases w <;> first | rfl | (simp [kwd] at hk)
  exact va_tabs ho rfl h
def nISE : String := "java/lang/IllegalStateException"
def nIAE : String := "java/lang/IllegalArgumentException"
def nIOB : String := "java/lang/IndexOutOfBoundsException"
def eNm : Nat → String
  | 1 => "java/lang/IllegalStateException"
  | 2 => "java/lang/IllegalArgumentException"
  | _ => "java/lang/IndexOutOfBoundsException"
def exNames : List String := ["java/lang/RuntimeException", "java/lang/Exception"]
def NC : List (String × String) := [("java/lang/IllegalStateException", "java/lang/IllegalArgumentException"), ("java/lang/IllegalStateException", "java/lang/IndexOutOfBoundsException"), ("java/lang/IllegalArgumentException", "java/lang/IndexOutOfBoundsException"), ("java/lang/IllegalArgumentException", "java/lang/IllegalStateException"), ("java/lang/IndexOutOfBoundsException", "java/lang/IllegalArgumentException"), ("java/lang/IndexOutOfBoundsException", "java/lang/IllegalStateException")]
def SR : List (Nat × String) := [(61, "there are 12 fencers"), (76, "no such fencer or pool"), (85, "fencers, weapon or touches do not make a bout"), (91, "the pool does not have both"), (96, "one of them withdrew from the pool"), (98, "a bout is on the piste, or there were 80"), (111, "side, kind or time is out of range"), (310, "no bout, time runs back, or the phrase is full"), (121, "side or time is out of range"), (123, "span or target is out of range"), (302, "no bout is on the piste"), (154, "side or group is out of range"), (160, "seconds is out of range"), (182, "seed is out of range"), (194, "fencers are not there, or fewer than 2"), (196, "there are 6 pools"), (300, "no such pool, or it does not have that fencer"), (209, "the fencer withdrew, or is on the piste"), (227, "no such pool"), (232, "fewer than 2 have a rank"), (315, "no such match"), (244, "side is out of range"), (250, "the match does not have both yet, or is won"), (267, "no such bout"), (269, "what is out of range"), (286, "no such pool or place")]
def XZ (B0 : Nat) (U : State) (H : Heap) : Prop := vx_Zq Bundle.tN "UNASSIGNED_STACK" Bundle.steD (fun q => B0 ≤ q) U H ∧ vx_Zq Bundle.tN "SUPPRESSED_SENTINEL" Bundle.listD (fun q => B0 ≤ q) U H
def XT (U : State) : Prop := (∀ w ∈ TW, w.before #[] U = true) ∧ (∀ w ∈ NW, w.before #[] U = true) ∧ (∀ q ∈ SR, ∃ sa, vk_R "Phrasehall" q.1 q.2 sa U) ∧ (∀ q ∈ NC, va_Nc q.1 q.2 U)
theorem XZ.moved {B0 : Nat} {u U : State} {H : Heap} (hvm : u.vm.Alike U.vm) (h : XZ B0 u H) : XZ B0 U H := ⟨h.1.moved hvm, h.2.moved hvm⟩
theorem XZ.kept {B0 : Nat} {U : State} {H H1 : Heap} (h : XZ B0 U H) (hq : ∀ a : Nat, a < H.size → ¬ B0 ≤ a → H1[a]? = H[a]?) : XZ B0 U H1 := ⟨h.1.kept hq, h.2.kept hq⟩
theorem tw_use {w : Cond} (h : goodWord w = true) {A A' : Array Value} {s U : State} (hW : s.WarmedH U.vm) (hb : w.before A s = true) : w.before A' U = true := word_at hW (good_of_word h) hb
theorem va_Nc_moved {a b : String} {s U : State} (hvm : s.vm.Alike U.vm) (h : va_Nc a b s) : va_Nc a b U := by
  obtain ⟨c, t, h1, h2, h3⟩ := h
  exact ⟨c, t, by rw [hvm.findClass]; exact h1, by rw [hvm.findClass]; exact h2, by rw [hvm.assignable]; exact h3⟩
theorem XT.warm {s U : State} (hW : s.WarmedH U.vm) (h : XT s) : XT U := by
  obtain ⟨h1, h2, h3, h4⟩ := h
  refine ⟨fun w hw => tw_use (List.mem_filter.mp hw).2 hW (h1 w hw), fun w hw => nw_warm (List.mem_filter.mp hw).2 hW (h2 w hw), fun q hq => ?_, fun q hq => va_Nc_moved hW.alike (h4 q hq)⟩
  obtain ⟨sa, hs⟩ := h3 q hq
  exact ⟨sa, vk_R.warm hW hs⟩
/-- what every method of both systems stands on -/
def GG (κ : KP) (γ : St) (U : State) : Prop := HR κ γ U.heap ∧ va_K (kD κ) vwCl (tysK κ) U ∧ kB κ ≤ U.heap.size ∧ XT U ∧ XZ (kB κ) U U.heap
theorem GG.blind {κ : KP} {γ : St} {av : List Value} : FrameBlind (va_Pc av (GG κ γ)) := fun a U g mk q => by
  obtain ⟨h0, h1, h2, h3, h4, h5⟩ := q
  exact ⟨h0, h1, va_K.moved (u := U) (U := U.calling g mk a) (Vm.Alike.refl U.vm) h2, h3, h4.warm (State.WarmedH.refl U), XZ.moved (u := U) (U := U.calling g mk a) (Vm.Alike.refl U.vm) h5⟩
/-- what a method hands back -/
def QQ (κ : KP) (γ : St) (v : Option Value) : Array Value → State → Outcome → State → Prop := fun _ st o t => o = .returned v ∧ HR κ γ t.heap ∧ va_F (AA κ) st t
/-- .. that may throw: its number (0: none), its answer, the state behind it -/
def QX (κ : KP) (γ : St) (n : Nat) (v : Option Value) : Array Value → State → Outcome → State → Prop := fun _ st o t => n = 0 ∧ o = .returned v ∧ HR κ γ t.heap ∧ va_F (AA κ) st t
def XX (κ : KP) (γ : St) (n : Nat) : String → State → State → Prop := fun E st t => n ≠ 0 ∧ E = eNm n ∧ HR κ γ t.heap ∧ va_F (AA κ) st t
/-- a method's context -/
def CX (κ : KP) (cc : ByteArray) (own : String) (nL : Nat) (p : Program) (l : Launch) (s : State) (m : MethodId) (args : Array Value) (meth : Method) (c : Code) : Prop :=
  p.tables.exec = Jvm.exec ∧ c.code = cc ∧ s.vm.findClass own = some m.cls ∧ (∀ w ∈ TW, w.before args s = true) ∧ va_K (kD κ) vwCl (tysK κ) s ∧ XT s ∧ XZ (kB κ) s s.heap ∧ kB κ ≤ s.heap.size ∧ c.maxLocals = nL ∧ meth.locks = false
end
section
/-! ===== rows over that state (hr_put and hp_ast, hp_zst, hp_lst, hp_qst follow va_put, va_iast, va_zast, va_last, va_astq of the kit, with the heap's other cells told) ===== -/
section HRW
variable {p : Program} {l : Launch} {e : Env} {R : Room} {s : State} {m : MethodId} {args : Array Value} {below : List Frame} {meth : Method} {c : Code} {H : Heap} {locs : List Loc} {cells slots : Nat} {Q : State → Prop}
variable {cc : ByteArray} {pc : Nat} {ls : Array Slot} {rest : List Value} {κ : KP} {γ : St}
theorem hr_put {D : va_G} {cl : List vw_C} {tys : List (ClassId × FieldType)} (hexec : p.tables.exec = Jvm.exec) (hb : c.code = cc) {own ref C : String} {T : u_T} {N ci index : Nat} {Ts : List Cond} (hts : ∀ w ∈ Ts, w.before args s = true) (hin : ∀ w ∈ u_ws C T N, w ∈ Ts) (ty0 : Nat → FieldType) (hty : ∀ k, k < N → parseFieldDescriptor (T k).2.2.1 = some (ty0 k)) (hnm : ∀ a, a < N → ∀ b, b < N → a ≠ b → (T a).2.1 ≠ (T b).2.1) (hown : s.vm.findClass own = some m.cls) (hK : va_K D cl tys s) {a : Nat} {fs : List Value} (hat : va_at D cl (a, .inr (ci, fs)) H) {A : Nat → Prop} {H0 : Heap} (hS0 : va_S A H0 H locs) (hAa : A a) (hc : cl[ci]? = some (C, T, N)) (k : Nat) (hk : k < N) (hlink : (Cond.fieldLink own index ref (T k).2.1 (T k).2.2.1).before args s = true) (hsame : ∀ x, s.fieldFound? (T k).1 (T k).2.1 (T k).2.2.1 = some x → s.fieldFound? ref (T k).2.1 (T k).2.2.1 = some x) (hfin : (T k).2.2.2 = false) {ty : FieldType} {v : Value} (hd : parseFieldDescriptor (T k).2.2.1 = some ty) (hn : narrow ty v = v) (hfit : fits ty v = true) (hl : k < fs.length)
    (hdg : decode cc pc = .ok (.putfield index, 3)) (kk : ∀ (H1 : Heap) (locs1 : List Loc), va_at D cl (a, .inr (ci, fs.set k v)) H1 → H1.size = H.size → (∀ q : Nat, q ≠ a → H1[q]? = H[q]?) → va_S A H0 H1 locs1 → W p l e R s m args below meth c H1 locs1 cells slots Q (F0 m (pc + 3) ls rest)) : W p l e R s m args below meth c H locs cells slots Q (F0 m pc ls (v :: .ref a :: rest)) := by
  have hap := va_apart (own := own) hts hin ty0 hty hnm hK hc
  obtain ⟨r, h1, cell, q1, q2, q3, q4⟩ := hat
  have hr : r = (C, T, N) := Option.some.inj (h1.symm.trans hc)
  subst hr
  obtain ⟨hS, hfc, kC, hkC, hkind⟩ := hK.1 ci _ hc
  obtain ⟨cf, kf, fi, f, hi, hsl⟩ := hS k hk
  have hlay := hts _ (hin _ (u_in_lay hk))
  unfold u_lay at hlay
  rw [if_neg (by rw [hfin]; decide)] at hlay
  have hst := (u_facts hfc hkC (u_lays hts hin hk) hi).1
  have h6 := u_store hfc hkC hkind hlay hi hd hn hfit
  refine W.putK hexec hb (f := f) ⟨hown, hlink, ⟨_, _, _, hsame _ hi⟩, hst⟩ (by rw [q2]; exact h6) q1 q3 (by rw [hsl]; exact k2_hasslot (q4 k hk)) rfl rfl hdg fun H' e1 e2 e3 => ?_
  rw [hsl] at e1 ⊢
  exact kk H' _ ⟨_, hc, t_OB.to (V := updV (vp_V fs) k v) ⟨_, e1, q2, q3, t_set q4 hap hk v⟩ (fun j _ => vp_updV_set hl v j)⟩ e2 e3 (hS0.put e2 e3 hAa)
theorem hr_putN {D : va_G} {cl : List vw_C} {tys : List (ClassId × FieldType)} (hexec : p.tables.exec = Jvm.exec) (hb : c.code = cc) {own ref C host : String} {T : u_T} {N ci index : Nat} {Ts : List Cond} (hts : ∀ w ∈ Ts, w.before args s = true) (hin : ∀ w ∈ u_ws C T N, w ∈ Ts) (ty0 : Nat → FieldType) (hty : ∀ k, k < N → parseFieldDescriptor (T k).2.2.1 = some (ty0 k)) (hnm : ∀ a, a < N → ∀ b, b < N → a ≠ b → (T a).2.1 ≠ (T b).2.1) (hown : s.vm.findClass own = some m.cls) (hK : va_K D cl tys s) {a : Nat} {fs : List Value} (hat : va_at D cl (a, .inr (ci, fs)) H) {A : Nat → Prop} {H0 : Heap} (hS0 : va_S A H0 H locs) (hAa : A a) (hc : cl[ci]? = some (C, T, N)) (k : Nat) (hk : k < N) (hlink : (Cond.fieldLinkNest own index ref (T k).2.1 (T k).2.2.1 host).before args s = true) (hsame : ∀ x, s.fieldFound? (T k).1 (T k).2.1 (T k).2.2.1 = some x → s.fieldFound? ref (T k).2.1 (T k).2.2.1 = some x) (hfin : (T k).2.2.2 = false) {ty : FieldType} {v : Value} (hd : parseFieldDescriptor (T k).2.2.1 = some ty) (hn : narrow ty v = v) (hfit : fits ty v = true) (hl : k < fs.length)
    (hdg : decode cc pc = .ok (.putfield index, 3)) (kk : ∀ (H1 : Heap) (locs1 : List Loc), va_at D cl (a, .inr (ci, fs.set k v)) H1 → H1.size = H.size → (∀ q : Nat, q ≠ a → H1[q]? = H[q]?) → va_S A H0 H1 locs1 → W p l e R s m args below meth c H1 locs1 cells slots Q (F0 m (pc + 3) ls rest)) : W p l e R s m args below meth c H locs cells slots Q (F0 m pc ls (v :: .ref a :: rest)) := by
  have hap := va_apart (own := own) hts hin ty0 hty hnm hK hc
  obtain ⟨r, h1, cell, q1, q2, q3, q4⟩ := hat
  have hr : r = (C, T, N) := Option.some.inj (h1.symm.trans hc)
  subst hr
  obtain ⟨hS, hfc, kC, hkC, hkind⟩ := hK.1 ci _ hc
  obtain ⟨cf, kf, fi, f, hi, hsl⟩ := hS k hk
  have hlay := hts _ (hin _ (u_in_lay hk))
  unfold u_lay at hlay
  rw [if_neg (by rw [hfin]; decide)] at hlay
  have hst := (u_facts hfc hkC (u_lays hts hin hk) hi).1
  have h6 := u_store hfc hkC hkind hlay hi hd hn hfit
  refine va_WputK hexec hb (f := f) hown hlink (hsame _ hi) hst (by rw [q2]; exact h6) q1 q3 (by rw [hsl]; exact k2_hasslot (q4 k hk)) rfl rfl hdg fun H' e1 e2 e3 => ?_
  rw [hsl] at e1 ⊢
  exact kk H' _ ⟨_, hc, t_OB.to (V := updV (vp_V fs) k v) ⟨_, e1, q2, q3, t_set q4 hap hk v⟩ (fun j _ => vp_updV_set hl v j)⟩ e2 e3 (hS0.put e2 e3 hAa)
/-- getfield -/
theorem hp_get {own : String} {nL : Nat} (C0 : CX κ cc own nL p l s m args meth c) {ref C : String} {T : u_T} {N ci index n : Nat} (hin : ∀ w ∈ u_ws C T N, w ∈ TW) (hH : HR κ γ H) (hv : lv κ ci n) {fs : List Value} (he : cel κ γ ci n = .inr (ci, fs)) (hc : vwCl[ci]? = some (C, T, N)) (k : Nat) (hk : k < N) (hlink : Cond.fieldLink own index ref (T k).2.1 (T k).2.2.1 ∈ TW) (hrf : (T k).1 = ref) {v : Value} (hvv : fs[k]? = some v) (hdg : decode cc pc = .ok (.getfield index, 3))
    (kk : W p l e R s m args below meth c H locs cells slots Q (F0 m (pc + 3) ls (v :: rest))) : W p l e R s m args below meth c H locs cells slots Q (F0 m pc ls (.ref (kA κ ci n) :: rest)) := by
  obtain ⟨hx, hb, hown, hT, hK, -⟩ := C0
  have hP := hH.at hv
  rw [he] at hP
  exact va_get hx hb hT hin hown hK hP 0 rfl hc k hk (hT _ hlink) (fun x h => by rw [← hrf]; exact h) hvv hdg kk
theorem hp_getN {own : String} {nL : Nat} (C0 : CX κ cc own nL p l s m args meth c) {ref C host : String} {T : u_T} {N ci index n : Nat} (hin : ∀ w ∈ u_ws C T N, w ∈ TW) (hH : HR κ γ H) (hv : lv κ ci n) {fs : List Value} (he : cel κ γ ci n = .inr (ci, fs)) (hc : vwCl[ci]? = some (C, T, N)) (k : Nat) (hk : k < N) (hlink : Cond.fieldLinkNest own index ref (T k).2.1 (T k).2.2.1 host ∈ NW) (hrf : (T k).1 = ref) {v : Value} (hvv : fs[k]? = some v) (hdg : decode cc pc = .ok (.getfield index, 3))
    (kk : W p l e R s m args below meth c H locs cells slots Q (F0 m (pc + 3) ls (v :: rest))) : W p l e R s m args below meth c H locs cells slots Q (F0 m pc ls (.ref (kA κ ci n) :: rest)) := by
  obtain ⟨hx, hb, hown, hT, hK, hX, -⟩ := C0
  have hP := hH.at hv
  rw [he] at hP
  exact va_getN hx hb hT hin hown hK hP 0 rfl hc k hk (nw_use rfl (hX.2.1 _ hlink)) (fun x h => by rw [← hrf]; exact h) hvv hdg kk
/-- putfield -/
theorem hp_put {own : String} {nL : Nat} (C0 : CX κ cc own nL p l s m args meth c) {ref C : String} {T : u_T} {N ci index n : Nat} (hin : ∀ w ∈ u_ws C T N, w ∈ TW) {ty0 : Nat → FieldType} (hty : ∀ k, k < N → parseFieldDescriptor (T k).2.2.1 = some (ty0 k)) (hnm : ∀ a, a < N → ∀ b, b < N → a ≠ b → (T a).2.1 ≠ (T b).2.1) (hH : HR κ γ H) (hv : lv κ ci n) {fs : List Value} (he : cel κ γ ci n = .inr (ci, fs)) (hS : va_S (AA κ) s.heap H locs) (hc : vwCl[ci]? = some (C, T, N)) (k : Nat) (hk : k < N) (hlink : Cond.fieldLink own index ref (T k).2.1 (T k).2.2.1 ∈ TW) (hrf : (T k).1 = ref) (hfin : (T k).2.2.2 = false) {v : Value} (hn : narrow (ty0 k) v = v) (hfit : fits (ty0 k) v = true) (hl : k < fs.length)
    (γ' : St) (he' : cel κ γ' ci n = .inr (ci, fs.set k v)) (ho : ∀ c' n', lv κ c' n' → ¬ (c' = ci ∧ n' = n) → cel κ γ' c' n' = cel κ γ c' n') (hw : WT κ γ') (hdg : decode cc pc = .ok (.putfield index, 3))
    (kk : ∀ (H : Heap) (locs : List Loc), HR κ γ' H → va_S (AA κ) s.heap H locs → W p l e R s m args below meth c H locs cells slots Q (F0 m (pc + 3) ls rest)) : W p l e R s m args below meth c H locs cells slots Q (F0 m pc ls (v :: .ref (kA κ ci n) :: rest)) := by
  obtain ⟨hx, hb, hown, hT, hK, -⟩ := C0
  have hat := (hH.1 ci n hv).1
  rw [he] at hat
  exact hr_put hx hb hT hin ty0 hty hnm hown hK hat hS (hH.1 ci n hv).2 hc k hk (hT _ hlink) (fun x h => by rw [← hrf]; exact h) hfin (hty k hk) hn hfit hl hdg (fun H1 locs1 h1 _ h3 h4 => kk H1 locs1 (hH.put hv (by rw [he']; exact h1) h3 ho hw) h4)
theorem hp_putN {own : String} {nL : Nat} (C0 : CX κ cc own nL p l s m args meth c) {ref C host : String} {T : u_T} {N ci index n : Nat} (hin : ∀ w ∈ u_ws C T N, w ∈ TW) {ty0 : Nat → FieldType} (hty : ∀ k, k < N → parseFieldDescriptor (T k).2.2.1 = some (ty0 k)) (hnm : ∀ a, a < N → ∀ b, b < N → a ≠ b → (T a).2.1 ≠ (T b).2.1) (hH : HR κ γ H) (hv : lv κ ci n) {fs : List Value} (he : cel κ γ ci n = .inr (ci, fs)) (hS : va_S (AA κ) s.heap H locs) (hc : vwCl[ci]? = some (C, T, N)) (k : Nat) (hk : k < N) (hlink : Cond.fieldLinkNest own index ref (T k).2.1 (T k).2.2.1 host ∈ NW) (hrf : (T k).1 = ref) (hfin : (T k).2.2.2 = false) {v : Value} (hn : narrow (ty0 k) v = v) (hfit : fits (ty0 k) v = true) (hl : k < fs.length)
    (γ' : St) (he' : cel κ γ' ci n = .inr (ci, fs.set k v)) (ho : ∀ c' n', lv κ c' n' → ¬ (c' = ci ∧ n' = n) → cel κ γ' c' n' = cel κ γ c' n') (hw : WT κ γ') (hdg : decode cc pc = .ok (.putfield index, 3))
    (kk : ∀ (H : Heap) (locs : List Loc), HR κ γ' H → va_S (AA κ) s.heap H locs → W p l e R s m args below meth c H locs cells slots Q (F0 m (pc + 3) ls rest)) : W p l e R s m args below meth c H locs cells slots Q (F0 m pc ls (v :: .ref (kA κ ci n) :: rest)) := by
  obtain ⟨hx, hb, hown, hT, hK, hX, -⟩ := C0
  have hat := (hH.1 ci n hv).1
  rw [he] at hat
  exact hr_putN hx hb hT hin ty0 hty hnm hown hK hat hS (hH.1 ci n hv).2 hc k hk (nw_use rfl (hX.2.1 _ hlink)) (fun x h => by rw [← hrf]; exact h) hfin (hty k hk) hn hfit hl hdg (fun H1 locs1 h1 _ h3 h4 => kk H1 locs1 (hH.put hv (by rw [he']; exact h1) h3 ho hw) h4)
/-- reads of arrays -/
theorem hp_ald {own : String} {nL : Nat} (C0 : CX κ cc own nL p l s m args meth c) {ca n len : Nat} (hH : HR κ γ H) (hv : lv κ ca n) (he : cel κ γ ca n = .inl (kC κ 0, (len, .inl (gV γ ca n)))) {i : Int32} (hin : vp_in i len) (hdg : decode cc pc = .ok (.iaload, 1))
    (kk : W p l e R s m args below meth c H locs cells slots Q (F0 m (pc + 1) ls (.int (gV γ ca n i.toNatClampNeg) :: rest))) : W p l e R s m args below meth c H locs cells slots Q (F0 m pc ls (.int i :: .ref (kA κ ca n) :: rest)) := by
  obtain ⟨hx, hb, hown, hT, hK, -⟩ := C0
  have hP := hH.at hv
  rw [he] at hP
  exact va_iald hx hb hK hP 0 0 rfl rfl hin hdg kk
theorem hp_zld {own : String} {nL : Nat} (C0 : CX κ cc own nL p l s m args meth c) {ca n len : Nat} (hH : HR κ γ H) (hv : lv κ ca n) (he : cel κ γ ca n = .inl (kC κ 1, (len, .inl (gV γ ca n)))) {i : Int32} (hin : vp_in i len) (hdg : decode cc pc = .ok (.baload, 1))
    (kk : W p l e R s m args below meth c H locs cells slots Q (F0 m (pc + 1) ls (.int (gV γ ca n i.toNatClampNeg) :: rest))) : W p l e R s m args below meth c H locs cells slots Q (F0 m pc ls (.int i :: .ref (kA κ ca n) :: rest)) := by
  obtain ⟨hx, hb, hown, hT, hK, -⟩ := C0
  have hP := hH.at hv
  rw [he] at hP
  exact va_zald hx hb hK hP 0 1 rfl rfl hin hdg kk
theorem hp_lld {own : String} {nL : Nat} (C0 : CX κ cc own nL p l s m args meth c) {ca n len : Nat} (hH : HR κ γ H) (hv : lv κ ca n) (he : cel κ γ ca n = .inl (kC κ 4, (len, .inr (.inl (gL γ ca))))) {i : Int32} (hin : vp_in i len) (hdg : decode cc pc = .ok (.laload, 1))
    (kk : W p l e R s m args below meth c H locs cells slots Q (F0 m (pc + 1) ls (.long (gL γ ca i.toNatClampNeg) :: rest))) : W p l e R s m args below meth c H locs cells slots Q (F0 m pc ls (.int i :: .ref (kA κ ca n) :: rest)) := by
  obtain ⟨hx, hb, hown, hT, hK, -⟩ := C0
  have hP := hH.at hv
  rw [he] at hP
  exact va_lald hx hb hK hP 0 4 rfl rfl hin hdg kk
theorem hp_qld {own : String} {nL : Nat} (C0 : CX κ cc own nL p l s m args meth c) {ca n len t0 cb : Nat} {C : String} {kk0 : Nat} (ht : (tysK κ)[t0]? = some (kC κ kk0, .object C)) (hH : HR κ γ H) (hv : lv κ ca n) (he : cel κ γ ca n = .inl (kC κ kk0, (len, .inr (.inr (.inr (.inr (fun j => (gR γ ca j).map (kA κ cb)))))))) {i : Int32} (hin : vp_in i len) (hdg : decode cc pc = .ok (.aaload, 1))
    (kk : W p l e R s m args below meth c H locs cells slots Q (F0 m (pc + 1) ls (va_rf ((gR γ ca i.toNatClampNeg).map (kA κ cb)) :: rest))) : W p l e R s m args below meth c H locs cells slots Q (F0 m pc ls (.int i :: .ref (kA κ ca n) :: rest)) := by
  obtain ⟨hx, hb, hown, hT, hK, -⟩ := C0
  have hP := hH.at hv
  rw [he] at hP
  exact va_aldq hx hb hK hP 0 t0 rfl ht hin hdg kk
theorem hp_alen {own : String} {nL : Nat} (C0 : CX κ cc own nL p l s m args meth c) {ca n t0 kk0 : Nat} {x : vp_A} {ty : FieldType} (ht : (tysK κ)[t0]? = some (kC κ kk0, ty)) (hH : HR κ γ H) (hv : lv κ ca n) (he : cel κ γ ca n = .inl (kC κ kk0, x)) {v : Int32} (hvv : Int32.ofNat x.1 = v) (hdg : decode cc pc = .ok (.arraylength, 1))
    (kk : W p l e R s m args below meth c H locs cells slots Q (F0 m (pc + 1) ls (.int v :: rest))) : W p l e R s m args below meth c H locs cells slots Q (F0 m pc ls (.ref (kA κ ca n) :: rest)) := by
  obtain ⟨hx, hb, hown, hT, hK, -⟩ := C0
  have hP := hH.at hv
  rw [he] at hP
  exact va_alen hx hb hK hP 0 t0 rfl ht hvv hdg kk
/-- writes to arrays -/
theorem hp_ast {own : String} {nL : Nat} (C0 : CX κ cc own nL p l s m args meth c) {ca n len : Nat} (hH : HR κ γ H) (hv : lv κ ca n) (he : ∀ γ : St, cel κ γ ca n = .inl (kC κ 0, (len, .inl (gV γ ca n)))) (hS : va_S (AA κ) s.heap H locs) {i x : Int32} (hin : vp_in i len) (hdg : decode cc pc = .ok (.iastore, 1))
    (kk : ∀ (H : Heap) (locs : List Loc), HR κ (sV γ ca n i.toNatClampNeg x) H → va_S (AA κ) s.heap H locs → W p l e R s m args below meth c H locs cells slots Q (F0 m (pc + 1) ls rest)) : W p l e R s m args below meth c H locs cells slots Q (F0 m pc ls (.int x :: .int i :: .ref (kA κ ca n) :: rest)) := by
  obtain ⟨hx, hb, hown, hT, hK, -⟩ := C0
  have hat := (hH.1 ca n hv).1
  rw [he γ] at hat
  have ht : (tysK κ)[0]? = some (kC κ 0, .int) := rfl
  refine W.iast (cell := vp_cell (kC κ 0) (len, .inl (gV γ ca n))) hx hb hat ((hK.2 0 _ ht).1 len (fun j => .int (gV γ ca n j))) (fun q => by cases q) (by show ¬ (i < 0 ∨ (arrV _ _ _).slots.size ≤ _); rw [arrV_size]; exact hin) rfl rfl hdg fun H1 e z oq => ?_
  refine kk H1 _ (hH.put hv ?_ oq (fun _ _ _ h => cel_sV h) (WT_sV hH.wt)) (hS.put z oq (hH.1 _ _ hv).2)
  rw [he, upd_sV]
  show H1[kA κ ca n]? = some (vp_cell _ _)
  rw [e]
  rw [vp_cell_i, vp_cell_i, arrV_store]
  congr 2
  funext q
  by_cases hq : q = i.toNatClampNeg
  · subst hq
    simp [updV, upd]
  · simp [updV, upd, hq]
theorem hp_zst {own : String} {nL : Nat} (C0 : CX κ cc own nL p l s m args meth c) {ca n len : Nat} (hH : HR κ γ H) (hv : lv κ ca n) (he : ∀ γ : St, cel κ γ ca n = .inl (kC κ 1, (len, .inl (gV γ ca n)))) (hS : va_S (AA κ) s.heap H locs) {i x : Int32} (hin : vp_in i len) (hdg : decode cc pc = .ok (.bastore, 1))
    (kk : ∀ (H : Heap) (locs : List Loc), HR κ (sV γ ca n i.toNatClampNeg (vp_nar .boolean x)) H → va_S (AA κ) s.heap H locs → W p l e R s m args below meth c H locs cells slots Q (F0 m (pc + 1) ls rest)) : W p l e R s m args below meth c H locs cells slots Q (F0 m pc ls (.int x :: .int i :: .ref (kA κ ca n) :: rest)) := by
  obtain ⟨hx, hb, hown, hT, hK, -⟩ := C0
  have hat := (hH.1 ca n hv).1
  rw [he γ] at hat
  have ht : (tysK κ)[1]? = some (kC κ 1, .boolean) := rfl
  refine W.zast (cell := vp_cell (kC κ 1) (len, .inl (gV γ ca n))) hx hb hat ((hK.2 1 _ ht).1 len (fun j => .int (gV γ ca n j))) (fun q => by cases q) (by show ¬ (i < 0 ∨ (arrV _ _ _).slots.size ≤ _); rw [arrV_size]; exact hin) rfl rfl hdg fun H1 e z oq => ?_
  refine kk H1 _ (hH.put hv ?_ oq (fun _ _ _ h => cel_sV h) (WT_sV hH.wt)) (hS.put z oq (hH.1 _ _ hv).2)
  rw [he, upd_sV]
  show H1[kA κ ca n]? = some (vp_cell _ _)
  rw [e]
  rw [vp_cell_i, vp_cell_i, arrV_store]
  congr 2
  funext q
  by_cases hq : q = i.toNatClampNeg
  · subst hq
    simp [updV, upd, vp_nar]
    try rfl
  · simp [updV, upd, hq]
theorem hp_lst {own : String} {nL : Nat} (C0 : CX κ cc own nL p l s m args meth c) {ca n len : Nat} (hH : HR κ γ H) (hv : lv κ ca n) (hn1 : ∀ n' : Nat, lv κ ca n' → n' = n) (he : ∀ γ : St, cel κ γ ca n = .inl (kC κ 4, (len, .inr (.inl (gL γ ca))))) (hS : va_S (AA κ) s.heap H locs) {i : Int32} {x : Int64} (hin : vp_in i len) (hdg : decode cc pc = .ok (.lastore, 1))
    (kk : ∀ (H : Heap) (locs : List Loc), HR κ (sL γ ca i.toNatClampNeg x) H → va_S (AA κ) s.heap H locs → W p l e R s m args below meth c H locs cells slots Q (F0 m (pc + 1) ls rest)) : W p l e R s m args below meth c H locs cells slots Q (F0 m pc ls (.long x :: .int i :: .ref (kA κ ca n) :: rest)) := by
  obtain ⟨hx, hb, hown, hT, hK, -⟩ := C0
  have hat := (hH.1 ca n hv).1
  rw [he γ] at hat
  have ht : (tysK κ)[4]? = some (kC κ 4, .long) := rfl
  refine W.last (cell := vp_cell (kC κ 4) (len, .inr (.inl (gL γ ca)))) hx hb hat ((hK.2 4 _ ht).1 len (fun j => .long (gL γ ca j))) (fun q => by cases q) (by show ¬ (i < 0 ∨ (arrV _ _ _).slots.size ≤ _); rw [arrV_size]; exact hin) rfl rfl hdg fun H1 e z oq => ?_
  refine kk H1 _ (hH.put hv ?_ oq (fun c' n' hl h => cel_sL (fun q => h ⟨q, hn1 n' (by rw [← q]; exact hl)⟩)) (WT_sL hH.wt)) (hS.put z oq (hH.1 _ _ hv).2)
  rw [he, updL_sL]
  show H1[kA κ ca n]? = some (vp_cell _ _)
  rw [e]
  rw [vp_cell_l, vp_cell_l, arrV_store]
  congr 2
  funext q
  by_cases hq : q = i.toNatClampNeg
  · subst hq
    simp [updV, vp_updL]
  · simp [updV, vp_updL, hq]
theorem hp_qst {own : String} {nL : Nat} (C0 : CX κ cc own nL p l s m args meth c) {ca n len t0 cb nv kk0 : Nat} {r : vw_C} (ht : (tysK κ)[t0]? = some (kC κ kk0, .object r.1)) (hcb : vwCl[cb]? = some r) {vs : List Value} (hH : HR κ γ H) (hv : lv κ ca n) (hn1 : ∀ n' : Nat, lv κ ca n' → n' = n) (hvb : lv κ cb nv) (hcv : cel κ γ cb nv = .inr (cb, vs)) (hwt : nv < (if ca = 10 then kO κ else kN κ)) (he : ∀ γ : St, cel κ γ ca n = .inl (kC κ kk0, (len, .inr (.inr (.inr (.inr (fun j => (gR γ ca j).map (kA κ cb)))))))) (hS : va_S (AA κ) s.heap H locs) {i : Int32} (hin : vp_in i len) (hdg : decode cc pc = .ok (.aastore, 1))
    (kk : ∀ (H : Heap) (locs : List Loc), HR κ (sR γ ca i.toNatClampNeg (some nv)) H → va_S (AA κ) s.heap H locs → W p l e R s m args below meth c H locs cells slots Q (F0 m (pc + 1) ls rest)) : W p l e R s m args below meth c H locs cells slots Q (F0 m pc ls (.ref (kA κ cb nv) :: .int i :: .ref (kA κ ca n) :: rest)) := by
  obtain ⟨hx, hb, hown, hT, hK, -⟩ := C0
  have hat := (hH.1 ca n hv).1
  rw [he γ] at hat
  have hlt : i.toNatClampNeg < len := Nat.not_le.mp fun q => hin (Or.inr q)
  have h0 : ¬ i < 0 := fun q => hin (Or.inl q)
  have hbt := (hH.1 cb nv hvb).1
  rw [hcv] at hbt
  obtain ⟨r', hr', cellV, g1, g2, g3, -⟩ := hbt
  have hcls := (hK.1 cb r hcb).2
  obtain ⟨kA0, comp, k1, k2, k3, -⟩ := (hK.2 t0 _ ht).2
  have hcomp : comp = (kD κ).1 cb := Option.some.inj (k3.symm.trans hcls.1)
  subst hcomp
  obtain ⟨kC0, hkC, -⟩ := hcls.2
  refine W.aast (cell := vp_cell (kC κ kk0) (len, .inr (.inr (.inr (.inr (fun j => (gR γ ca j).map (kA κ cb))))))) hx hb hat (fun q h => by cases h) (fun h => by cases h) k1 k2 rfl hkC ⟨h0, by show _ < (arrV _ _ _).slots.size; rw [arrV_size]; exact hlt⟩ g1 (fun q h => by rw [g3] at h; cases h) (by rw [g2]; exact hkC) (by rw [g2]; exact va_assign hcls) rfl rfl hdg fun H1 e z oq => ?_
  refine kk H1 _ (hH.put hv ?_ oq (fun c' n' hl h => cel_sR (fun q => h ⟨q, hn1 n' (by rw [← q]; exact hl)⟩)) (WT_sR hH.wt (fun b hb9 => by cases hb9; exact hwt))) (hS.put z oq (hH.1 _ _ hv).2)
  rw [he]
  show H1[kA κ ca n]? = some (vp_cell _ _)
  rw [e]
  rw [vp_cell_q, vp_cell_q, arrV_store]
  congr 2
  funext q
  by_cases hq : q = i.toNatClampNeg
  · subst hq
    simp [updV, va_rf, gR_sR]
  · simp [updV, gR_sR, hq]
/-- what a callee must have of the words -/
theorem gi5 {a b c d e : Cond} (ha : a ∈ TW) (hb : b ∈ TW) (hc : c ∈ TW) (hd : d ∈ TW) (he : e ∈ TW) : GoodIn TW ([a, b, c, d] ++ [e]) := by
  have h : ∀ w ∈ [a, b, c, d] ++ [e], w ∈ TW := by
    intro w hw
    simp only [List.cons_append, List.nil_append, List.mem_cons, List.not_mem_nil, or_false] at hw
    rcases hw with rfl | rfl | rfl | rfl | rfl <;> assumption
  exact fun w hw => ⟨h w hw, good_of_word (List.mem_filter.mp (h w hw)).2⟩
theorem gi4 {a b c e : Cond} (ha : a ∈ TW) (hb : b ∈ TW) (hc : c ∈ TW) (he : e ∈ TW) : GoodIn TW ([a, b, c] ++ [e]) := by
  have h : ∀ w ∈ [a, b, c] ++ [e], w ∈ TW := by
    intro w hw
    simp only [List.cons_append, List.nil_append, List.mem_cons, List.not_mem_nil, or_false] at hw
    rcases hw with rfl | rfl | rfl | rfl <;> assumption
  exact fun w hw => ⟨h w hw, good_of_word (List.mem_filter.mp (h w hw)).2⟩
theorem gi1 {e : Cond} (he : e ∈ TW) : GoodIn TW [e] := by
  intro w hw
  rw [List.mem_singleton.mp hw]
  exact ⟨he, good_of_word (List.mem_filter.mp he).2⟩
/-- a callee's start, seen from here -/
theorem gg_of {own : String} {nL : Nat} (C0 : CX κ cc own nL p l s m args meth c) (hH : HR κ γ H) (hS : va_S (AA κ) s.heap H locs) {U : State} (hU : U.heap = H) (hW : s.WarmedH U.vm) : GG κ γ U := by
  obtain ⟨-, -, -, -, hK, hX, hZ, hB, -⟩ := C0
  refine ⟨by rw [hU]; exact hH, va_K.moved hW.alike hK, by rw [hU]; exact Nat.le_trans hB hS.1, hX.warm hW, ?_⟩
  rw [hU]
  exact XZ.moved hW.alike (hZ.kept (fun a ha hn => hS.2.1 a ha hn))
theorem kcall {mc ms : Nat} {st0 st' : List Value} {v : Option Value} {γ' : St} {a : Array Value} (hr : va_Run p l e R s m args below meth c H locs cells slots mc ms (F0 m pc ls st0) rest (QQ κ γ' v a) (AA κ)) (hS : va_S (AA κ) s.heap H locs) (hst : v.toList ++ rest = st')
    (kk : ∀ (H : Heap) (locs : List Loc), HR κ γ' H → va_S (AA κ) s.heap H locs → W p l e R s m args below meth c H locs (cells + mc) (slots + ms) Q (F0 m (pc + 3) ls st')) : W p l e R s m args below meth c H locs cells slots Q (F0 m pc ls st0) := by
  subst hst
  intro T hT X
  obtain ⟨v', st₀, t, T', L, h0, X', hL, e1, e2, ⟨hv, hh, hF⟩, st⟩ := hr T hT X
  cases hv
  obtain ⟨k1, k2, k3⟩ := vx_keep h0 e1 hS (fun q _ h => h) (fun q h => h) hL hF
  obtain ⟨t2, a1, b1⟩ := kk T'.heap (locs ++ L) (by rw [e1]; exact hh) k3 T' rfl X'
  exact ⟨t2, st t2 a1, b1⟩
theorem kxcall {mc ms n : Nat} {st0 st' : List Value} {v : Option Value} {γ' : St} {a : Array Value} (hr : vx_Run p l e R s m args below meth c H locs cells slots mc ms (F0 m pc ls st0) rest (QX κ γ' n v a) (XX κ γ' n) (AA κ)) (hS : va_S (AA κ) s.heap H locs) (hst : v.toList ++ rest = st')
    (kx : n ≠ 0 → ∀ (ce : Cell) (q9 : Addr) (H : Heap) (locs : List Loc), HR κ γ' H → va_S (AA κ) s.heap H locs → H[q9]? = some ce → ce.vm = .none → s.vm.findClass (eNm n) = some ce.cls → vx_W p l e R s m args below meth c H locs (cells + mc) (slots + ms) Q (F0 m pc ls rest) q9)
    (kk : n = 0 → ∀ (H : Heap) (locs : List Loc), HR κ γ' H → va_S (AA κ) s.heap H locs → W p l e R s m args below meth c H locs (cells + mc) (slots + ms) Q (F0 m (pc + 3) ls st')) : W p l e R s m args below meth c H locs cells slots Q (F0 m pc ls st0) := by
  subst hst
  intro T hT X
  rcases hr T hT X with ⟨v', st₀, t, T', L, h0, X', hL, e1, e2, ⟨hn, hv, hh, hF⟩, st⟩ | ⟨q, st₀, t, T', L, E, ce, h0, X', hL, e1, e2, ⟨hn, rfl, hh, hF⟩, hce, hcv, hcl, st⟩
  · cases hv
    obtain ⟨k1, k2, k3⟩ := vx_keep h0 e1 hS (fun q _ h => h) (fun q h => h) hL hF
    obtain ⟨t2, a1, b1⟩ := kk hn T'.heap (locs ++ L) (by rw [e1]; exact hh) k3 T' rfl X'
    exact ⟨t2, st t2 a1, b1⟩
  · obtain ⟨k1, k2, k3⟩ := vx_keep h0 e1 hS (fun q _ h => h) (fun q h => h) hL hF
    obtain ⟨t2, a1, b1⟩ := kx hn ce q T'.heap (locs ++ L) (by rw [e1]; exact hh) k3 (by rw [e1]; exact hce) hcv hcl T' rfl X'
    exact ⟨t2, st.trans a1, b1⟩
end HRW
end
section
/-! ===== calls, ends, throws ===== -/
section HRC
variable {p : Program} {l : Launch} {e : Env} {R : Room} {s : State} {m : MethodId} {args : Array Value} {below : List Frame} {meth : Method} {c : Code} {H : Heap} {locs : List Loc} {cells slots : Nat} {Q : State → Prop}
variable {cc : ByteArray} {pc : Nat} {ls : Array Slot} {rest : List Value} {κ : KP} {γ : St} {own : String} {nL : Nat}
theorem hp_recv (C0 : CX κ cc own nL p l s m args meth c) (hH : HR κ γ H) {ci n : Nat} (hv : lv κ ci n) {fs : List Value} (he : cel κ γ ci n = .inr (ci, fs)) {C : String} {T : u_T} {N : Nat} (hc : vwCl[ci]? = some (C, T, N)) : ∃ cell : Cell, H[kA κ ci n]? = some cell ∧ cell.vm.isStatics = false ∧ s.vm.findClass C = some cell.cls := by
  obtain ⟨-, -, -, -, hK, -⟩ := C0
  have hP := hH.at hv
  rw [he] at hP
  exact va_recv hK hP hc (q0 := 0) rfl
theorem k_callV (C0 : CX κ cc own nL p l s m args meth c) {lvs : List (Nat × Value)} (hl : lv_has ls nL lvs) (hH : HR κ γ H) (hS : va_S (AA κ) s.heap H locs) {y : MethodName} {bytes : ByteArray} {maxL : Nat} {ret : Option FieldType} {rm : Room} {index : Nat} {C : String} {T : u_T} {N ci n k : Nat} {fs As st0 st' : List Value} {γ' : St} {v : Option Value}
    (hM : Met l y [.code y bytes maxL ret] rm (va_Pc (.ref (kA κ ci n) :: As) (GG κ γ)) (QQ κ γ' v) 0 0 (AA κ)) (hv : lv κ ci n) (he : cel κ γ ci n = .inr (ci, fs)) (hc : vwCl[ci]? = some (C, T, N))
    (w1 : Cond.methodLink own index y ∈ TW) (w2 : Cond.instanceMethod y ∈ TW) (w3 : Cond.selects C y y ∈ TW) (w4 : Cond.initialized C ∈ TW) (w5 : Cond.code y bytes maxL ret ∈ TW)
    (hd : y.cls = C ∧ y.cls ≠ "java/lang/invoke/MethodHandle" ∧ y.cls ≠ "java/lang/invoke/VarHandle" ∧ (parseMethodDescriptor y.desc).map (fun d => d.parameters.length) = some k) (hR : rm.frames + 1 ≤ R.frames ∧ 8 + (maxL + 11) + rm.locals ≤ R.locals) (hrc : rm.cells = 0) (hrs : rm.slots = 0) (hn : As.length = k)
    (hst0 : st0 = As.reverse ++ .ref (kA κ ci n) :: rest) (hcat : (rest.map fun v => v.category).sum ≤ 8) (hdg : decode cc pc = .ok (.invokevirtual index, 3)) (hf : cells ≤ R.cells ∧ slots ≤ R.slots) (hst : v.toList ++ rest = st')
    (kk : ∀ (H : Heap) (locs : List Loc), HR κ γ' H → va_S (AA κ) s.heap H locs → W p l e R s m args below meth c H locs cells slots Q (F0 m (pc + 3) ls st')) : W p l e R s m args below meth c H locs cells slots Q (F0 m pc ls st0) := by
  obtain ⟨hx, hb, hown, hT, hK, hX, hZ, hB, hml, hlk⟩ := id C0
  exact kcall (va_runV (As := As) (rest := rest) ⟨hx, hb, hml, hown, hT⟩ hM (cwV k hT (gi5 w1 w2 w3 w4 w5) rfl hrc hrs hd hR) ⟨GG.blind, hp_recv C0 hH hv he hc, fun U hU hW => ⟨rfl, gg_of C0 hH hS hU hW⟩⟩ rfl hn hl.1 hst0 (lv_room hcat) hdg hf) hS hst kk
theorem k_callS (C0 : CX κ cc own nL p l s m args meth c) {lvs : List (Nat × Value)} (hl : lv_has ls nL lvs) (hH : HR κ γ H) (hS : va_S (AA κ) s.heap H locs) {y : MethodName} {bytes : ByteArray} {maxL : Nat} {ret : Option FieldType} {rm : Room} {index k : Nat} {As st0 st' : List Value} {γ' : St} {v : Option Value}
    (hM : Met l y [.code y bytes maxL ret] rm (va_Pc As (GG κ γ)) (QQ κ γ' v) 0 0 (AA κ))
    (w1 : Cond.methodLink own index y ∈ TW) (w2 : Cond.static y ∈ TW) (w4 : Cond.initialized y.cls ∈ TW) (w5 : Cond.code y bytes maxL ret ∈ TW)
    (hd : y.cls ≠ "java/lang/invoke/MethodHandle" ∧ y.cls ≠ "java/lang/invoke/VarHandle" ∧ (parseMethodDescriptor y.desc).map (fun d => d.parameters.length) = some k) (hR : rm.frames + 1 ≤ R.frames ∧ 8 + (maxL + 11) + rm.locals ≤ R.locals) (hrc : rm.cells = 0) (hrs : rm.slots = 0) (hn : As.length = k)
    (hst0 : st0 = As.reverse ++ rest) (hcat : (rest.map fun v => v.category).sum ≤ 8) (hdg : decode cc pc = .ok (.invokestatic index, 3)) (hf : cells ≤ R.cells ∧ slots ≤ R.slots) (hst : v.toList ++ rest = st')
    (kk : ∀ (H : Heap) (locs : List Loc), HR κ γ' H → va_S (AA κ) s.heap H locs → W p l e R s m args below meth c H locs cells slots Q (F0 m (pc + 3) ls st')) : W p l e R s m args below meth c H locs cells slots Q (F0 m pc ls st0) := by
  obtain ⟨hx, hb, hown, hT, hK, hX, hZ, hB, hml, hlk⟩ := id C0
  exact kcall (va_runS (As := As) (rest := rest) ⟨hx, hb, hml, hown, hT⟩ hM ⟨callB_of k hT (gi1 w5) rfl hrc hrs (hT _ w4) (hT _ w1) hd hR, hT _ w2⟩ ⟨GG.blind, fun U hU hW => ⟨rfl, gg_of C0 hH hS hU hW⟩⟩ rfl hn hl.1 hst0 (lv_room hcat) hdg hf) hS hst kk
theorem k_callSN (C0 : CX κ cc own nL p l s m args meth c) {lvs : List (Nat × Value)} (hl : lv_has ls nL lvs) (hH : HR κ γ H) (hS : va_S (AA κ) s.heap H locs) {y : MethodName} {host : String} {bytes : ByteArray} {maxL : Nat} {ret : Option FieldType} {rm : Room} {index k : Nat} {As st0 st' : List Value} {γ' : St} {v : Option Value}
    (hM : Met l y [.code y bytes maxL ret] rm (va_Pc As (GG κ γ)) (QQ κ γ' v) 0 0 (AA κ))
    (w1 : Cond.methodLinkNest own index y host ∈ NW) (w2 : Cond.static y ∈ TW) (w4 : Cond.initialized y.cls ∈ TW) (w5 : Cond.code y bytes maxL ret ∈ TW)
    (hd : y.cls ≠ "java/lang/invoke/MethodHandle" ∧ y.cls ≠ "java/lang/invoke/VarHandle" ∧ (parseMethodDescriptor y.desc).map (fun d => d.parameters.length) = some k) (hR : rm.frames + 1 ≤ R.frames ∧ 8 + (maxL + 11) + rm.locals ≤ R.locals) (hrc : rm.cells = 0) (hrs : rm.slots = 0) (hn : As.length = k)
    (hst0 : st0 = As.reverse ++ rest) (hcat : (rest.map fun v => v.category).sum ≤ 8) (hdg : decode cc pc = .ok (.invokestatic index, 3)) (hf : cells ≤ R.cells ∧ slots ≤ R.slots) (hst : v.toList ++ rest = st')
    (kk : ∀ (H : Heap) (locs : List Loc), HR κ γ' H → va_S (AA κ) s.heap H locs → W p l e R s m args below meth c H locs cells slots Q (F0 m (pc + 3) ls st')) : W p l e R s m args below meth c H locs cells slots Q (F0 m pc ls st0) := by
  obtain ⟨hx, hb, hown, hT, hK, hX, hZ, hB, hml, hlk⟩ := id C0
  exact kcall (va_runSN (As := As) (rest := rest) ⟨hx, hb, hml, hown, hT⟩ hM ⟨va_cnB k hT (gi1 w5) rfl hrc hrs (hX.2.1 _ w1) (hT _ w4) hd hR, hT _ w2, trivial⟩ ⟨GG.blind, fun U hU hW => ⟨rfl, gg_of C0 hH hS hU hW⟩⟩ rfl hn hl.1 hst0 (lv_room hcat) hdg hf) hS hst kk
theorem k_xcallV (C0 : CX κ cc own nL p l s m args meth c) {lvs : List (Nat × Value)} (hl : lv_has ls nL lvs) (hH : HR κ γ H) (hS : va_S (AA κ) s.heap H locs) {y : MethodName} {bytes : ByteArray} {maxL : Nat} {ret : Option FieldType} {rm : Room} {index : Nat} {C : String} {T : u_T} {N ci n k mc ms en : Nat} {fs As st0 st' : List Value} {γ' : St} {v : Option Value}
    (hM : vx_Met l y [.code y bytes maxL ret] rm (va_Pc (.ref (kA κ ci n) :: As) (GG κ γ)) (QX κ γ' en v) (XX κ γ' en) mc ms (AA κ)) (hv : lv κ ci n) (he : cel κ γ ci n = .inr (ci, fs)) (hc : vwCl[ci]? = some (C, T, N))
    (w1 : Cond.methodLink own index y ∈ TW) (w2 : Cond.instanceMethod y ∈ TW) (w3 : Cond.selects C y y ∈ TW) (w4 : Cond.initialized C ∈ TW) (w5 : Cond.code y bytes maxL ret ∈ TW)
    (hd : y.cls = C ∧ y.cls ≠ "java/lang/invoke/MethodHandle" ∧ y.cls ≠ "java/lang/invoke/VarHandle" ∧ (parseMethodDescriptor y.desc).map (fun d => d.parameters.length) = some k) (hR : rm.frames + 1 ≤ R.frames ∧ 8 + (maxL + 11) + rm.locals ≤ R.locals) (hrc : rm.cells = mc) (hrs : rm.slots = ms) (hn : As.length = k)
    (hst0 : st0 = As.reverse ++ .ref (kA κ ci n) :: rest) (hcat : (rest.map fun v => v.category).sum ≤ 8) (hdg : decode cc pc = .ok (.invokevirtual index, 3)) (hf : cells + mc ≤ R.cells ∧ slots + ms ≤ R.slots) (hst : v.toList ++ rest = st')
    (kx : en ≠ 0 → ∀ (ce : Cell) (q9 : Addr) (H : Heap) (locs : List Loc), HR κ γ' H → va_S (AA κ) s.heap H locs → H[q9]? = some ce → ce.vm = .none → s.vm.findClass (eNm en) = some ce.cls → vx_W p l e R s m args below meth c H locs (cells + mc) (slots + ms) Q (F0 m pc ls rest) q9)
    (kk : en = 0 → ∀ (H : Heap) (locs : List Loc), HR κ γ' H → va_S (AA κ) s.heap H locs → W p l e R s m args below meth c H locs (cells + mc) (slots + ms) Q (F0 m (pc + 3) ls st')) : W p l e R s m args below meth c H locs cells slots Q (F0 m pc ls st0) := by
  obtain ⟨hx, hb, hown, hT, hK, hX, hZ, hB, hml, hlk⟩ := id C0
  exact kxcall (vx_runV (As := As) (rest := rest) ⟨hx, hb, hml, hown, hT⟩ hM (cwV k hT (gi5 w1 w2 w3 w4 w5) rfl hrc hrs hd hR) ⟨GG.blind, hp_recv C0 hH hv he hc, fun U hU hW => ⟨rfl, gg_of C0 hH hS hU hW⟩⟩ rfl hn hl.1 hst0 (lv_room hcat) hdg hf) hS hst kx kk
theorem k_xcallS (C0 : CX κ cc own nL p l s m args meth c) {lvs : List (Nat × Value)} (hl : lv_has ls nL lvs) (hH : HR κ γ H) (hS : va_S (AA κ) s.heap H locs) {y : MethodName} {bytes : ByteArray} {maxL : Nat} {ret : Option FieldType} {rm : Room} {index k mc ms en : Nat} {As st0 st' : List Value} {γ' : St} {v : Option Value}
    (hM : vx_Met l y [.code y bytes maxL ret] rm (va_Pc As (GG κ γ)) (QX κ γ' en v) (XX κ γ' en) mc ms (AA κ))
    (w1 : Cond.methodLink own index y ∈ TW) (w2 : Cond.static y ∈ TW) (w4 : Cond.initialized y.cls ∈ TW) (w5 : Cond.code y bytes maxL ret ∈ TW)
    (hd : y.cls ≠ "java/lang/invoke/MethodHandle" ∧ y.cls ≠ "java/lang/invoke/VarHandle" ∧ (parseMethodDescriptor y.desc).map (fun d => d.parameters.length) = some k) (hR : rm.frames + 1 ≤ R.frames ∧ 8 + (maxL + 11) + rm.locals ≤ R.locals) (hrc : rm.cells = mc) (hrs : rm.slots = ms) (hn : As.length = k)
    (hst0 : st0 = As.reverse ++ rest) (hcat : (rest.map fun v => v.category).sum ≤ 8) (hdg : decode cc pc = .ok (.invokestatic index, 3)) (hf : cells + mc ≤ R.cells ∧ slots + ms ≤ R.slots) (hst : v.toList ++ rest = st')
    (kx : en ≠ 0 → ∀ (ce : Cell) (q9 : Addr) (H : Heap) (locs : List Loc), HR κ γ' H → va_S (AA κ) s.heap H locs → H[q9]? = some ce → ce.vm = .none → s.vm.findClass (eNm en) = some ce.cls → vx_W p l e R s m args below meth c H locs (cells + mc) (slots + ms) Q (F0 m pc ls rest) q9)
    (kk : en = 0 → ∀ (H : Heap) (locs : List Loc), HR κ γ' H → va_S (AA κ) s.heap H locs → W p l e R s m args below meth c H locs (cells + mc) (slots + ms) Q (F0 m (pc + 3) ls st')) : W p l e R s m args below meth c H locs cells slots Q (F0 m pc ls st0) := by
  obtain ⟨hx, hb, hown, hT, hK, hX, hZ, hB, hml, hlk⟩ := id C0
  exact kxcall (vx_runS (As := As) (rest := rest) ⟨hx, hb, hml, hown, hT⟩ hM ⟨callB_of k hT (gi1 w5) rfl hrc hrs (hT _ w4) (hT _ w1) hd hR, hT _ w2⟩ ⟨GG.blind, fun U hU hW => ⟨rfl, gg_of C0 hH hS hU hW⟩⟩ rfl hn hl.1 hst0 (lv_room hcat) hdg hf) hS hst kx kk
/-- the thrown goes on to the caller -/
theorem k_out {mc ms en : Nat} {γ' : St} {v : Option Value} {ce : Cell} {q9 : Addr} (C0 : CX κ cc own nL p l s m args meth c) (ht : ∀ x ∈ c.exceptionTable.toList, False) (hn : en ≠ 0) (hH : HR κ γ' H) (hS : va_S (AA κ) s.heap H locs) (hce : H[q9]? = some ce) (hcv : ce.vm = .none) (hcl : s.vm.findClass (eNm en) = some ce.cls) (hc : cells ≤ mc) (hs : slots ≤ ms) :
    vx_W p l e R s m args below meth c H locs cells slots (vx_MQ below (QX κ γ' en v) (XX κ γ' en) args s mc ms (AA κ)) (F0 m pc ls rest) q9 := by
  obtain ⟨-, -, -, -, -, -, -, -, -, hlk⟩ := C0
  exact vx_out (fun x hx => (ht x hx).elim) hlk hce hcv hcl (fun t ht0 _ => ⟨hn, rfl, by rw [ht0]; exact hH, hS.F ht0⟩) hS.2.2 hc hs
/-- ends -/
theorem kr_i {v x : Int32} {γ' : St} (C0 : CX κ cc own nL p l s m args meth c) (hr : meth.sig.returnType = some .int) (hH : HR κ γ H) (hS : va_S (AA κ) s.heap H locs) (hg : γ = γ') (hv : x = v) (hdg : decode cc pc = .ok (.ireturn, 1)) : W p l e R s m args below meth c H locs cells slots (MQ below (QQ κ γ' (some (.int v))) args s cells slots (AA κ)) (F0 m pc ls [.int x]) := by
  obtain ⟨hx, hb, -, -, -, -, -, -, -, hlk⟩ := C0
  subst hg; subst hv
  exact W.iret hx hb hr (fun t ht _ => ⟨rfl, by rw [ht]; exact hH, hS.F ht⟩) hS.2.2 hdg hlk
theorem kr_z {v x x' : Int32} {γ' : St} (C0 : CX κ cc own nL p l s m args meth c) (hr : meth.sig.returnType = some .boolean) (hn : narrow .boolean (.int x) = .int x') (hH : HR κ γ H) (hS : va_S (AA κ) s.heap H locs) (hg : γ = γ') (hv : x' = v) (hdg : decode cc pc = .ok (.ireturn, 1)) : W p l e R s m args below meth c H locs cells slots (MQ below (QQ κ γ' (some (.int v))) args s cells slots (AA κ)) (F0 m pc ls [.int x]) := by
  obtain ⟨hexec, hb, -, -, -, -, -, -, -, hlk⟩ := C0
  subst hg; subst hv
  intro T hT X
  have hlocks : meth.locks = false := hlk
  obtain ⟨fs, hret, hrun, hended, hW, hframe⟩ := X.leave (v := some (.int x')) (fun h => by rw [hr] at h; cases h)
  have hmeth' : T.vm.method? m = some meth := X.method'
  refine ⟨T.setFrames fs, ?_, .returned (some (.int x')), hrun, hended, ⟨rfl, by show HR κ γ T.heap; rw [hT]; exact hH, va_S.F (t := T.setFrames fs) hS hT⟩, locs, ⟨⟨_, rfl⟩, hW, hframe⟩, hS.2.2⟩
  jvm_step X.here [X.here.top, hexec, hb, hdg, hmeth', hr, hn]
  (try refine ⟨rfl, ?_⟩); (try refine ⟨rfl, ?_⟩)
  first | (intro acts; rw [hret _ acts rfl rfl rfl]) | rw [hret _ _ rfl rfl rfl]
  exact Steps.refl _
theorem kr_v {γ' : St} (C0 : CX κ cc own nL p l s m args meth c) (hr : meth.sig.returnType = none) (hH : HR κ γ H) (hS : va_S (AA κ) s.heap H locs) (hg : γ = γ') (hdg : decode cc pc = .ok (.return_, 1)) : W p l e R s m args below meth c H locs cells slots (MQ below (QQ κ γ' none) args s cells slots (AA κ)) (F0 m pc ls []) := by
  obtain ⟨hx, hb, -, -, -, -, -, -, -, hlk⟩ := C0
  subst hg
  exact W.vret hx hb hr (fun t ht _ => ⟨rfl, by rw [ht]; exact hH, hS.F ht⟩) hS.2.2 hdg hlk
theorem kr_l {v x : Int64} {γ' : St} (C0 : CX κ cc own nL p l s m args meth c) (hr : meth.sig.returnType = some .long) (hH : HR κ γ H) (hS : va_S (AA κ) s.heap H locs) (hg : γ = γ') (hv : x = v) (hdg : decode cc pc = .ok (.lreturn, 1)) : W p l e R s m args below meth c H locs cells slots (MQ below (QQ κ γ' (some (.long v))) args s cells slots (AA κ)) (F0 m pc ls [.long x]) := by
  obtain ⟨hx, hb, -, -, -, -, -, -, -, hlk⟩ := C0
  subst hg; subst hv
  exact W.lret hx hb hr (fun t ht _ => ⟨rfl, by rw [ht]; exact hH, hS.F ht⟩) hS.2.2 hdg hlk
theorem kr_a {v x : Value} {γ' : St} {C : String} (C0 : CX κ cc own nL p l s m args meth c) (hr : meth.sig.returnType = some (.object C)) (hxv : x = .null ∨ ∃ a, x = .ref a) (hH : HR κ γ H) (hS : va_S (AA κ) s.heap H locs) (hg : γ = γ') (hv : x = v) (hdg : decode cc pc = .ok (.areturn, 1)) : W p l e R s m args below meth c H locs cells slots (MQ below (QQ κ γ' (some v)) args s cells slots (AA κ)) (F0 m pc ls [x]) := by
  obtain ⟨hx, hb, -, -, -, -, -, -, -, hlk⟩ := C0
  subst hg; subst hv
  exact W.aret hx hb hr (Or.inl ⟨_, rfl⟩) hxv (fun t ht _ => ⟨rfl, by rw [ht]; exact hH, hS.F ht⟩) hS.2.2 hdg hlk
/-- from a body's end that cannot throw to one that can -/
theorem kx_of {γ' : St} {n : Nat} {v : Option Value} {g : JFrame} {mc ms : Nat} (hn : n = 0) (h1 : cells ≤ mc) (h2 : slots ≤ ms) (k : W p l e R s m args below meth c H locs mc ms (MQ below (QQ κ γ' v) args s mc ms (AA κ)) g) : W p l e R s m args below meth c H locs cells slots (vx_MQ below (QX κ γ' n v) (XX κ γ' n) args s mc ms (AA κ)) g := by
  refine W.widen h1 h2 (vx_ret ?_)
  intro T hT X
  obtain ⟨t, a1, o, b1, b2, b3, b4⟩ := k T hT X
  exact ⟨t, a1, o, b1, b2, ⟨hn, b3⟩, b4⟩
/-- the words of a throw in Phrasehall -/
theorem hat_of {A : Array Value} {U : State} (hX : XT U) {L : List Cond} (h : ∀ w ∈ L, w ∈ lw_tbl ∧ (goodWord w || kwd w) = true) : ∀ w ∈ L, w.before A U = true := by
  intro w hw
  obtain ⟨h1, h2⟩ := h w hw
  cases hg : goodWord w with
  | true => exact tw_use hg (State.WarmedH.refl U) (hX.1 w (List.mem_filter.mpr ⟨h1, hg⟩))
  | false =>
    rw [hg] at h2
    have hk : kwd w = true := by simpa using h2
    exact nw_use hk (hX.2.1 w (List.mem_filter.mpr ⟨h1, hk⟩))
/-- 'throw new E("text")' -/
theorem k_throw {lvs : List (Nat × Value)} (C0 : CX κ cc "Phrasehall" nL p l s m args meth c) (hfl : l.stackTraces = false) (ht : ∀ x ∈ c.exceptionTable.toList, False) (hl : lv_has ls nL lvs) (hH : HR κ γ H) (hS : va_S (AA κ) s.heap H locs) {ik is ic mc ms en : Nat} {text : String} {γ' : St} {v : Option Value} (hg : γ = γ') (hen : en ≠ 0)
    (hk : Cond.classLink "Phrasehall" ik (eNm en) ∈ TW) (hini : Cond.initialized (eNm en) ∈ TW) (hsr : (is, text) ∈ SR) (hat : ∀ w ∈ vx_atS "Phrasehall" ic (eNm en) exNames, w ∈ lw_tbl ∧ (goodWord w || kwd w) = true)
    (hgood : ∀ w ∈ Cond.classLink "Phrasehall" ik (eNm en) :: Cond.initialized (eNm en) :: vx_atS "Phrasehall" ic (eNm en) exNames, vx_ot w = true) (hfit : Bundle.fit (eNm en) = true)
    (d0 : decode cc pc = .ok (.new ik, 3)) (d3 : decode cc (pc + 3) = .ok (.dup, 1)) (d4 : decode cc (pc + 4) = .ok (.ldc is, 2)) (d6 : decode cc (pc + 6) = .ok (.invokespecial ic, 3)) (d9 : decode cc (pc + 9) = .ok (.athrow, 1))
    (hRf : 5 < R.frames) (hRl : (rest.map fun v => v.category).sum + 82 ≤ R.locals) (hRc : cells + 1 ≤ R.cells) (hRs : slots + 6 ≤ R.slots) (hc : cells + 1 ≤ mc) (hs : slots + 6 ≤ ms) :
    W p l e R s m args below meth c H locs cells slots (vx_MQ below (QX κ γ' en v) (XX κ γ' en) args s mc ms (AA κ)) (F0 m pc ls rest) := by
  obtain ⟨hx, hb, hown, hT, hK, hX, hZ, hB, hml, hlk⟩ := id C0
  obtain ⟨sa, hsa⟩ := hX.2.2.1 _ hsr
  subst hg
  refine vx_throwS (names := exNames) (A := AA κ) hx hb hfl hown hfit (by decide +kernel) (hT _ hk) (hT _ hini) hsa (hat_of hX hat) hgood hZ.1 hZ.2 hS (by rw [hml]; exact hl.1) d0 d3 d4 d6 d9 (fun x hx => (ht x hx).elim) hRf hRl hRc hRs hlk (fun t hal h1 h2 => ⟨hen, rfl, ?_, ?_⟩) hS.2.2 hc hs
  · exact ⟨fun c' n' hv' => ⟨(hH.1 c' n' hv').1.kept (h2 _ (hH.lt hv')), (hH.1 c' n' hv').2⟩, hH.2⟩
  · exact ⟨Nat.le_trans hS.1 h1, fun q hq hn => by rw [h2 q (Nat.lt_of_lt_of_le hq hS.1)]; exact hS.2.1 q hq hn⟩
theorem k_throwW {lvs : List (Nat × Value)} (C0 : CX κ cc "Phrasehall" nL p l s m args meth c) (hfl : l.stackTraces = false) (ht : ∀ x ∈ c.exceptionTable.toList, False) (hl : lv_has ls nL lvs) (hH : HR κ γ H) (hS : va_S (AA κ) s.heap H locs) {ik is ic mc ms en : Nat} {text : String} {γ' : St} {v : Option Value} (hg : γ = γ') (hen : en ≠ 0)
    (hk : Cond.classLink "Phrasehall" ik (eNm en) ∈ TW) (hini : Cond.initialized (eNm en) ∈ TW) (hsr : (is, text) ∈ SR) (hat : ∀ w ∈ vx_atS "Phrasehall" ic (eNm en) exNames, w ∈ lw_tbl ∧ (goodWord w || kwd w) = true)
    (hgood : ∀ w ∈ Cond.classLink "Phrasehall" ik (eNm en) :: Cond.initialized (eNm en) :: vx_atS "Phrasehall" ic (eNm en) exNames, vx_ot w = true) (hfit : Bundle.fit (eNm en) = true)
    (d0 : decode cc pc = .ok (.new ik, 3)) (d3 : decode cc (pc + 3) = .ok (.dup, 1)) (d4 : decode cc (pc + 4) = .ok (.ldc_w is, 3)) (d6 : decode cc (pc + 7) = .ok (.invokespecial ic, 3)) (d9 : decode cc (pc + 10) = .ok (.athrow, 1))
    (hRf : 5 < R.frames) (hRl : (rest.map fun v => v.category).sum + 82 ≤ R.locals) (hRc : cells + 1 ≤ R.cells) (hRs : slots + 6 ≤ R.slots) (hc : cells + 1 ≤ mc) (hs : slots + 6 ≤ ms) :
    W p l e R s m args below meth c H locs cells slots (vx_MQ below (QX κ γ' en v) (XX κ γ' en) args s mc ms (AA κ)) (F0 m pc ls rest) := by
  obtain ⟨hx, hb, hown, hT, hK, hX, hZ, hB, hml, hlk⟩ := id C0
  obtain ⟨sa, hsa⟩ := hX.2.2.1 _ hsr
  subst hg
  refine vx_throwSW (names := exNames) (A := AA κ) hx hb hfl hown hfit (by decide +kernel) (hT _ hk) (hT _ hini) hsa (hat_of hX hat) hgood hZ.1 hZ.2 hS (by rw [hml]; exact hl.1) d0 d3 d4 d6 d9 (fun x hx => (ht x hx).elim) hRf hRl hRc hRs hlk (fun t hal h1 h2 => ⟨hen, rfl, ?_, ?_⟩) hS.2.2 hc hs
  · exact ⟨fun c' n' hv' => ⟨(hH.1 c' n' hv').1.kept (h2 _ (hH.lt hv')), (hH.1 c' n' hv').2⟩, hH.2⟩
  · exact ⟨Nat.le_trans hS.1 h1, fun q hq hn => by rw [h2 q (Nat.lt_of_lt_of_le hq hS.1)]; exact hS.2.1 q hq hn⟩
end HRC
set_option maxRecDepth 100000 in
theorem at_ISE : ∀ w ∈ vx_atS "Phrasehall" 63 (eNm 1) exNames, w ∈ lw_tbl ∧ (goodWord w || kwd w) = true := by decide +kernel
set_option maxRecDepth 100000 in
theorem at_IAE : ∀ w ∈ vx_atS "Phrasehall" 87 (eNm 2) exNames, w ∈ lw_tbl ∧ (goodWord w || kwd w) = true := by decide +kernel
set_option maxRecDepth 100000 in
theorem at_IOB : ∀ w ∈ vx_atS "Phrasehall" 78 (eNm 3) exNames, w ∈ lw_tbl ∧ (goodWord w || kwd w) = true := by decide +kernel
theorem ot_ISE : ∀ w ∈ Cond.classLink "Phrasehall" 59 (eNm 1) :: Cond.initialized (eNm 1) :: vx_atS "Phrasehall" 63 (eNm 1) exNames, vx_ot w = true := by decide +kernel
theorem ot_IAE : ∀ w ∈ Cond.classLink "Phrasehall" 83 (eNm 2) :: Cond.initialized (eNm 2) :: vx_atS "Phrasehall" 87 (eNm 2) exNames, vx_ot w = true := by decide +kernel
theorem ot_IOB : ∀ w ∈ Cond.classLink "Phrasehall" 74 (eNm 3) :: Cond.initialized (eNm 3) :: vx_atS "Phrasehall" 78 (eNm 3) exNames, vx_ot w = true := by decide +kernel
theorem fit_1 : Bundle.fit (eNm 1) = true := by decide +kernel
theorem fit_2 : Bundle.fit (eNm 2) = true := by decide +kernel
theorem fit_3 : Bundle.fit (eNm 3) = true := by decide +kernel
end
