theorem nw_693 : (Jvm.Cond.fieldLinkNest "Phrasehall" (320 : Nat) "Phrasehall$Pool" "number" "I" "Phrasehall") ∈ NW := nw_in 693 (by decide +kernel) (by decide +kernel)
theorem nw_616 : (Jvm.Cond.methodLinkNest "Phrasehall$Bout" (79 : Nat) ({ cls := "Phrasehall", name := "bitOf", desc := "(I)I" } : Jvm.MethodName) "Phrasehall") ∈ NW := nw_in 616 (by decide +kernel) (by decide +kernel)
theorem nw_414 : (Jvm.Cond.fieldLinkNest "Phrasehall" (179 : Nat) "Phrasehall$Bout" "winner" "I" "Phrasehall") ∈ NW := nw_in 414 (by decide +kernel) (by decide +kernel)
theorem nw_412 : (Jvm.Cond.fieldLinkNest "Phrasehall" (317 : Nat) "Phrasehall$Bout" "pool" "I" "Phrasehall") ∈ NW := nw_in 412 (by decide +kernel) (by decide +kernel)
theorem nw_411 : (Jvm.Cond.fieldLinkNest "Phrasehall$Pool" (36 : Nat) "Phrasehall$Bout" "pool" "I" "Phrasehall") ∈ NW := nw_in 411 (by decide +kernel) (by decide +kernel)
theorem nw_408 : (Jvm.Cond.fieldLinkNest "Phrasehall" (133 : Nat) "Phrasehall$Bout" "weapon" "I" "Phrasehall") ∈ NW := nw_in 408 (by decide +kernel) (by decide +kernel)
theorem nw_406 : (Jvm.Cond.fieldLinkNest "Phrasehall$Pool" (57 : Nat) "Phrasehall$Bout" "second" "LPhrasehall$Corner;" "Phrasehall") ∈ NW := nw_in 406 (by decide +kernel) (by decide +kernel)
theorem nw_404 : (Jvm.Cond.fieldLinkNest "Phrasehall$Pool" (45 : Nat) "Phrasehall$Bout" "first" "LPhrasehall$Corner;" "Phrasehall") ∈ NW := nw_in 404 (by decide +kernel) (by decide +kernel)
theorem nw_391 : (Jvm.Cond.fieldLinkNest "Phrasehall$Bout" (51 : Nat) "Phrasehall$Corner" "touches" "I" "Phrasehall") ∈ NW := nw_in 391 (by decide +kernel) (by decide +kernel)
theorem nw_389 : (Jvm.Cond.fieldLinkNest "Phrasehall$Pool" (49 : Nat) "Phrasehall$Corner" "fencer" "I" "Phrasehall") ∈ NW := nw_in 389 (by decide +kernel) (by decide +kernel)
theorem nw_388 : (Jvm.Cond.fieldLinkNest "Phrasehall$Bout" (48 : Nat) "Phrasehall$Corner" "fencer" "I" "Phrasehall") ∈ NW := nw_in 388 (by decide +kernel) (by decide +kernel)
theorem nw_163 : (Jvm.Cond.fieldLinkNest "Phrasehall" (184 : Nat) "Phrasehall$Lot" "seed" "J" "Phrasehall") ∈ NW := nw_in 163 (by decide +kernel) (by decide +kernel)
theorem nw_148 : (Jvm.Cond.fieldLinkNest "Phrasehall" (238 : Nat) "Phrasehall$Bracket" "places" "I" "Phrasehall") ∈ NW := nw_in 148 (by decide +kernel) (by decide +kernel)
theorem nw_123 : (Jvm.Cond.fieldLinkNest "Phrasehall" (261 : Nat) "Phrasehall$Phrase" "count" "I" "Phrasehall") ∈ NW := nw_in 123 (by decide +kernel) (by decide +kernel)
theorem nw_99 : (Jvm.Cond.fieldLinkNest "Phrasehall$Phrase" (67 : Nat) "Phrasehall$RightOfWay" "side" "I" "Phrasehall") ∈ NW := nw_in 99 (by decide +kernel) (by decide +kernel)
theorem tw_0 : (Jvm.Cond.selects "Phrasehall$Phrase" ({ cls := "Phrasehall$Phrase", name := "isEntry", desc := "(I)Z" } : Jvm.MethodName) ({ cls := "Phrasehall$Phrase", name := "isEntry", desc := "(I)Z" } : Jvm.MethodName)) ∈ TW := tw_in 0 (by decide +kernel) (by decide +kernel)
theorem tw_1 : (Jvm.Cond.selects "Phrasehall$RightOfWay" ({ cls := "Phrasehall$RightOfWay", name := "attack", desc := "(II)V" } : Jvm.MethodName) ({ cls := "Phrasehall$RightOfWay", name := "attack", desc := "(II)V" } : Jvm.MethodName)) ∈ TW := tw_in 1 (by decide +kernel) (by decide +kernel)
theorem tw_2 : (Jvm.Cond.selects "Phrasehall$RightOfWay" ({ cls := "Phrasehall$RightOfWay", name := "give", desc := "(III)V" } : Jvm.MethodName) ({ cls := "Phrasehall$RightOfWay", name := "give", desc := "(III)V" } : Jvm.MethodName)) ∈ TW := tw_in 2 (by decide +kernel) (by decide +kernel)
theorem tw_3 : (Jvm.Cond.selects "Phrasehall$RightOfWay" ({ cls := "Phrasehall$RightOfWay", name := "parry", desc := "(II)V" } : Jvm.MethodName) ({ cls := "Phrasehall$RightOfWay", name := "parry", desc := "(II)V" } : Jvm.MethodName)) ∈ TW := tw_in 3 (by decide +kernel) (by decide +kernel)
theorem tw_5 : (Jvm.Cond.selects "Phrasehall" ({ cls := "Phrasehall", name := "poolOf", desc := "(I)LPhrasehall$Pool;" } : Jvm.MethodName) ({ cls := "Phrasehall", name := "poolOf", desc := "(I)LPhrasehall$Pool;" } : Jvm.MethodName)) ∈ TW := tw_in 5 (by decide +kernel) (by decide +kernel)
theorem tw_6 : (Jvm.Cond.selects "Phrasehall" ({ cls := "Phrasehall", name := "isFencer", desc := "(I)Z" } : Jvm.MethodName) ({ cls := "Phrasehall", name := "isFencer", desc := "(I)Z" } : Jvm.MethodName)) ∈ TW := tw_in 6 (by decide +kernel) (by decide +kernel)
theorem tw_8 : (Jvm.Cond.selects "Phrasehall" ({ cls := "Phrasehall", name := "checkRoomInPhrase", desc := "(I)V" } : Jvm.MethodName) ({ cls := "Phrasehall", name := "checkRoomInPhrase", desc := "(I)V" } : Jvm.MethodName)) ∈ TW := tw_in 8 (by decide +kernel) (by decide +kernel)
theorem tw_9 : (Jvm.Cond.selects "Phrasehall$Phrase" ({ cls := "Phrasehall$Phrase", name := "append", desc := "(IIIII)I" } : Jvm.MethodName) ({ cls := "Phrasehall$Phrase", name := "append", desc := "(IIIII)I" } : Jvm.MethodName)) ∈ TW := tw_in 9 (by decide +kernel) (by decide +kernel)
theorem tw_10 : (Jvm.Cond.selects "Phrasehall" ({ cls := "Phrasehall", name := "boutOnPiste", desc := "()LPhrasehall$Bout;" } : Jvm.MethodName) ({ cls := "Phrasehall", name := "boutOnPiste", desc := "()LPhrasehall$Bout;" } : Jvm.MethodName)) ∈ TW := tw_in 10 (by decide +kernel) (by decide +kernel)
theorem tw_11 : (Jvm.Cond.selects "Phrasehall" ({ cls := "Phrasehall", name := "judgeFor", desc := "(IZ)I" } : Jvm.MethodName) ({ cls := "Phrasehall", name := "judgeFor", desc := "(IZ)I" } : Jvm.MethodName)) ∈ TW := tw_in 11 (by decide +kernel) (by decide +kernel)
theorem tw_12 : (Jvm.Cond.selects "Phrasehall$Phrase" ({ cls := "Phrasehall$Phrase", name := "couldRegister", desc := "(II)Z" } : Jvm.MethodName) ({ cls := "Phrasehall$Phrase", name := "couldRegister", desc := "(II)Z" } : Jvm.MethodName)) ∈ TW := tw_in 12 (by decide +kernel) (by decide +kernel)
theorem tw_13 : (Jvm.Cond.selects "Phrasehall" ({ cls := "Phrasehall", name := "because", desc := "(II)I" } : Jvm.MethodName) ({ cls := "Phrasehall", name := "because", desc := "(II)I" } : Jvm.MethodName)) ∈ TW := tw_in 13 (by decide +kernel) (by decide +kernel)
theorem tw_14 : (Jvm.Cond.selects "Phrasehall" ({ cls := "Phrasehall", name := "judgeByRight", desc := "(II)I" } : Jvm.MethodName) ({ cls := "Phrasehall", name := "judgeByRight", desc := "(II)I" } : Jvm.MethodName)) ∈ TW := tw_in 14 (by decide +kernel) (by decide +kernel)
theorem tw_15 : (Jvm.Cond.selects "Phrasehall$Bout" ({ cls := "Phrasehall$Bout", name := "addTouches", desc := "(I)V" } : Jvm.MethodName) ({ cls := "Phrasehall$Bout", name := "addTouches", desc := "(I)V" } : Jvm.MethodName)) ∈ TW := tw_in 15 (by decide +kernel) (by decide +kernel)
theorem tw_16 : (Jvm.Cond.selects "Phrasehall$Bout" ({ cls := "Phrasehall$Bout", name := "isLike", desc := "()Z" } : Jvm.MethodName) ({ cls := "Phrasehall$Bout", name := "isLike", desc := "()Z" } : Jvm.MethodName)) ∈ TW := tw_in 16 (by decide +kernel) (by decide +kernel)
theorem tw_17 : (Jvm.Cond.selects "Phrasehall" ({ cls := "Phrasehall", name := "clearPisteIfOver", desc := "(LPhrasehall$Bout;)V" } : Jvm.MethodName) ({ cls := "Phrasehall", name := "clearPisteIfOver", desc := "(LPhrasehall$Bout;)V" } : Jvm.MethodName)) ∈ TW := tw_in 17 (by decide +kernel) (by decide +kernel)
theorem tw_18 : (Jvm.Cond.selects "Phrasehall$Bout" ({ cls := "Phrasehall$Bout", name := "corner", desc := "(I)LPhrasehall$Corner;" } : Jvm.MethodName) ({ cls := "Phrasehall$Bout", name := "corner", desc := "(I)LPhrasehall$Corner;" } : Jvm.MethodName)) ∈ TW := tw_in 18 (by decide +kernel) (by decide +kernel)
theorem tw_19 : (Jvm.Cond.selects "Phrasehall$Pool" ({ cls := "Phrasehall$Pool", name := "addTo", desc := "(III)V" } : Jvm.MethodName) ({ cls := "Phrasehall$Pool", name := "addTo", desc := "(III)V" } : Jvm.MethodName)) ∈ TW := tw_in 19 (by decide +kernel) (by decide +kernel)
theorem tw_20 : (Jvm.Cond.selects "Phrasehall$Bout" ({ cls := "Phrasehall$Bout", name := "becomePassive", desc := "()V" } : Jvm.MethodName) ({ cls := "Phrasehall$Bout", name := "becomePassive", desc := "()V" } : Jvm.MethodName)) ∈ TW := tw_in 20 (by decide +kernel) (by decide +kernel)
theorem tw_21 : (Jvm.Cond.selects "Phrasehall$Bout" ({ cls := "Phrasehall$Bout", name := "lookAtTime", desc := "(LPhrasehall$Lot;)V" } : Jvm.MethodName) ({ cls := "Phrasehall$Bout", name := "lookAtTime", desc := "(LPhrasehall$Lot;)V" } : Jvm.MethodName)) ∈ TW := tw_in 21 (by decide +kernel) (by decide +kernel)
theorem tw_22 : (Jvm.Cond.selects "Phrasehall$Bout" ({ cls := "Phrasehall$Bout", name := "timeLimit", desc := "()I" } : Jvm.MethodName) ({ cls := "Phrasehall$Bout", name := "timeLimit", desc := "()I" } : Jvm.MethodName)) ∈ TW := tw_in 22 (by decide +kernel) (by decide +kernel)
theorem tw_23 : (Jvm.Cond.selects "Phrasehall" ({ cls := "Phrasehall", name := "poolWith", desc := "(II)LPhrasehall$Pool;" } : Jvm.MethodName) ({ cls := "Phrasehall", name := "poolWith", desc := "(II)LPhrasehall$Pool;" } : Jvm.MethodName)) ∈ TW := tw_in 23 (by decide +kernel) (by decide +kernel)
theorem tw_24 : (Jvm.Cond.selects "Phrasehall" ({ cls := "Phrasehall", name := "isBusyFor", desc := "(LPhrasehall$Pool;I)Z" } : Jvm.MethodName) ({ cls := "Phrasehall", name := "isBusyFor", desc := "(LPhrasehall$Pool;I)Z" } : Jvm.MethodName)) ∈ TW := tw_in 24 (by decide +kernel) (by decide +kernel)
theorem tw_25 : (Jvm.Cond.selects "Phrasehall" ({ cls := "Phrasehall", name := "boutAt", desc := "(I)LPhrasehall$Bout;" } : Jvm.MethodName) ({ cls := "Phrasehall", name := "boutAt", desc := "(I)LPhrasehall$Bout;" } : Jvm.MethodName)) ∈ TW := tw_in 25 (by decide +kernel) (by decide +kernel)
theorem tw_26 : (Jvm.Cond.selects "Phrasehall$Pool" ({ cls := "Phrasehall$Pool", name := "isRanked", desc := "(I)Z" } : Jvm.MethodName) ({ cls := "Phrasehall$Pool", name := "isRanked", desc := "(I)Z" } : Jvm.MethodName)) ∈ TW := tw_in 26 (by decide +kernel) (by decide +kernel)
theorem tw_27 : (Jvm.Cond.selects "Phrasehall$Pool" ({ cls := "Phrasehall$Pool", name := "insert", desc := "(II)V" } : Jvm.MethodName) ({ cls := "Phrasehall$Pool", name := "insert", desc := "(II)V" } : Jvm.MethodName)) ∈ TW := tw_in 27 (by decide +kernel) (by decide +kernel)
theorem tw_28 : (Jvm.Cond.selects "Phrasehall$Pool" ({ cls := "Phrasehall$Pool", name := "isAhead", desc := "(II)Z" } : Jvm.MethodName) ({ cls := "Phrasehall$Pool", name := "isAhead", desc := "(II)Z" } : Jvm.MethodName)) ∈ TW := tw_in 28 (by decide +kernel) (by decide +kernel)
theorem tw_29 : (Jvm.Cond.selects "Phrasehall$Pool" ({ cls := "Phrasehall$Pool", name := "balance", desc := "(I)I" } : Jvm.MethodName) ({ cls := "Phrasehall$Pool", name := "balance", desc := "(I)I" } : Jvm.MethodName)) ∈ TW := tw_in 29 (by decide +kernel) (by decide +kernel)
theorem tw_30 : (Jvm.Cond.selects "Phrasehall$Bracket" ({ cls := "Phrasehall$Bracket", name := "orderPlaces", desc := "(I)V" } : Jvm.MethodName) ({ cls := "Phrasehall$Bracket", name := "orderPlaces", desc := "(I)V" } : Jvm.MethodName)) ∈ TW := tw_in 30 (by decide +kernel) (by decide +kernel)
theorem tw_31 : (Jvm.Cond.selects "Phrasehall$Bracket" ({ cls := "Phrasehall$Bracket", name := "put", desc := "(II)V" } : Jvm.MethodName) ({ cls := "Phrasehall$Bracket", name := "put", desc := "(II)V" } : Jvm.MethodName)) ∈ TW := tw_in 31 (by decide +kernel) (by decide +kernel)
theorem tw_32 : (Jvm.Cond.selects "Phrasehall$Bracket" ({ cls := "Phrasehall$Bracket", name := "passBye", desc := "(I)V" } : Jvm.MethodName) ({ cls := "Phrasehall$Bracket", name := "passBye", desc := "(I)V" } : Jvm.MethodName)) ∈ TW := tw_in 32 (by decide +kernel) (by decide +kernel)
theorem tw_33 : (Jvm.Cond.selects "Phrasehall$Bracket" ({ cls := "Phrasehall$Bracket", name := "at", desc := "(I)I" } : Jvm.MethodName) ({ cls := "Phrasehall$Bracket", name := "at", desc := "(I)I" } : Jvm.MethodName)) ∈ TW := tw_in 33 (by decide +kernel) (by decide +kernel)
theorem tw_34 : (Jvm.Cond.selects "Phrasehall" ({ cls := "Phrasehall", name := "checkMatch", desc := "(II)V" } : Jvm.MethodName) ({ cls := "Phrasehall", name := "checkMatch", desc := "(II)V" } : Jvm.MethodName)) ∈ TW := tw_in 34 (by decide +kernel) (by decide +kernel)
theorem tw_35 : (Jvm.Cond.selects "Phrasehall$Bracket" ({ cls := "Phrasehall$Bracket", name := "matchesIn", desc := "(I)I" } : Jvm.MethodName) ({ cls := "Phrasehall$Bracket", name := "matchesIn", desc := "(I)I" } : Jvm.MethodName)) ∈ TW := tw_in 35 (by decide +kernel) (by decide +kernel)
theorem tw_36 : (Jvm.Cond.selects "Phrasehall$Bracket" ({ cls := "Phrasehall$Bracket", name := "nodeOf", desc := "(II)I" } : Jvm.MethodName) ({ cls := "Phrasehall$Bracket", name := "nodeOf", desc := "(II)I" } : Jvm.MethodName)) ∈ TW := tw_in 36 (by decide +kernel) (by decide +kernel)
theorem tw_37 : (Jvm.Cond.selects "PhrasehallModel" ({ cls := "PhrasehallModel", name := "isFencer", desc := "(I)Z" } : Jvm.MethodName) ({ cls := "PhrasehallModel", name := "isFencer", desc := "(I)Z" } : Jvm.MethodName)) ∈ TW := tw_in 37 (by decide +kernel) (by decide +kernel)
theorem tw_38 : (Jvm.Cond.selects "PhrasehallModel" ({ cls := "PhrasehallModel", name := "isPool", desc := "(I)Z" } : Jvm.MethodName) ({ cls := "PhrasehallModel", name := "isPool", desc := "(I)Z" } : Jvm.MethodName)) ∈ TW := tw_in 38 (by decide +kernel) (by decide +kernel)
theorem tw_39 : (Jvm.Cond.selects "PhrasehallModel" ({ cls := "PhrasehallModel", name := "may", desc := "(I)Z" } : Jvm.MethodName) ({ cls := "PhrasehallModel", name := "may", desc := "(I)Z" } : Jvm.MethodName)) ∈ TW := tw_in 39 (by decide +kernel) (by decide +kernel)
theorem tw_40 : (Jvm.Cond.selects "PhrasehallModel" ({ cls := "PhrasehallModel", name := "puts", desc := "(III)I" } : Jvm.MethodName) ({ cls := "PhrasehallModel", name := "puts", desc := "(III)I" } : Jvm.MethodName)) ∈ TW := tw_in 40 (by decide +kernel) (by decide +kernel)
theorem tw_41 : (Jvm.Cond.selects "PhrasehallModel" ({ cls := "PhrasehallModel", name := "given", desc := "()I" } : Jvm.MethodName) ({ cls := "PhrasehallModel", name := "given", desc := "()I" } : Jvm.MethodName)) ∈ TW := tw_in 41 (by decide +kernel) (by decide +kernel)
theorem tw_42 : (Jvm.Cond.selects "PhrasehallModel" ({ cls := "PhrasehallModel", name := "registered", desc := "(I)I" } : Jvm.MethodName) ({ cls := "PhrasehallModel", name := "registered", desc := "(I)I" } : Jvm.MethodName)) ∈ TW := tw_in 42 (by decide +kernel) (by decide +kernel)
theorem tw_43 : (Jvm.Cond.selects "PhrasehallModel" ({ cls := "PhrasehallModel", name := "rights", desc := "(I)I" } : Jvm.MethodName) ({ cls := "PhrasehallModel", name := "rights", desc := "(I)I" } : Jvm.MethodName)) ∈ TW := tw_in 43 (by decide +kernel) (by decide +kernel)
theorem tw_44 : (Jvm.Cond.selects "PhrasehallModel" ({ cls := "PhrasehallModel", name := "gives", desc := "(I)V" } : Jvm.MethodName) ({ cls := "PhrasehallModel", name := "gives", desc := "(I)V" } : Jvm.MethodName)) ∈ TW := tw_in 44 (by decide +kernel) (by decide +kernel)
theorem tw_45 : (Jvm.Cond.selects "PhrasehallModel" ({ cls := "PhrasehallModel", name := "ahead", desc := "()I" } : Jvm.MethodName) ({ cls := "PhrasehallModel", name := "ahead", desc := "()I" } : Jvm.MethodName)) ∈ TW := tw_in 45 (by decide +kernel) (by decide +kernel)
theorem tw_46 : (Jvm.Cond.selects "PhrasehallModel" ({ cls := "PhrasehallModel", name := "ends", desc := "(I)V" } : Jvm.MethodName) ({ cls := "PhrasehallModel", name := "ends", desc := "(I)V" } : Jvm.MethodName)) ∈ TW := tw_in 46 (by decide +kernel) (by decide +kernel)
theorem tw_47 : (Jvm.Cond.selects "PhrasehallModel" ({ cls := "PhrasehallModel", name := "second", desc := "()V" } : Jvm.MethodName) ({ cls := "PhrasehallModel", name := "second", desc := "()V" } : Jvm.MethodName)) ∈ TW := tw_in 47 (by decide +kernel) (by decide +kernel)
theorem tw_48 : (Jvm.Cond.selects "PhrasehallModel" ({ cls := "PhrasehallModel", name := "isMember", desc := "(II)Z" } : Jvm.MethodName) ({ cls := "PhrasehallModel", name := "isMember", desc := "(II)Z" } : Jvm.MethodName)) ∈ TW := tw_in 48 (by decide +kernel) (by decide +kernel)
theorem tw_49 : (Jvm.Cond.selects "PhrasehallModel" ({ cls := "PhrasehallModel", name := "tells", desc := "(III)I" } : Jvm.MethodName) ({ cls := "PhrasehallModel", name := "tells", desc := "(III)I" } : Jvm.MethodName)) ∈ TW := tw_in 49 (by decide +kernel) (by decide +kernel)
theorem tw_50 : (Jvm.Cond.selects "PhrasehallModel" ({ cls := "PhrasehallModel", name := "sideIn", desc := "(III)I" } : Jvm.MethodName) ({ cls := "PhrasehallModel", name := "sideIn", desc := "(III)I" } : Jvm.MethodName)) ∈ TW := tw_in 50 (by decide +kernel) (by decide +kernel)
theorem tw_51 : (Jvm.Cond.selects "PhrasehallModel" ({ cls := "PhrasehallModel", name := "ranks", desc := "(I)I" } : Jvm.MethodName) ({ cls := "PhrasehallModel", name := "ranks", desc := "(I)I" } : Jvm.MethodName)) ∈ TW := tw_in 51 (by decide +kernel) (by decide +kernel)
theorem tw_52 : (Jvm.Cond.selects "PhrasehallModel" ({ cls := "PhrasehallModel", name := "isBetter", desc := "(III)Z" } : Jvm.MethodName) ({ cls := "PhrasehallModel", name := "isBetter", desc := "(III)Z" } : Jvm.MethodName)) ∈ TW := tw_in 52 (by decide +kernel) (by decide +kernel)
theorem tw_53 : (Jvm.Cond.selects "PhrasehallModel" ({ cls := "PhrasehallModel", name := "isWon", desc := "(III)V" } : Jvm.MethodName) ({ cls := "PhrasehallModel", name := "isWon", desc := "(III)V" } : Jvm.MethodName)) ∈ TW := tw_in 53 (by decide +kernel) (by decide +kernel)
theorem tw_54 : (Jvm.Cond.selects "PhrasehallModel" ({ cls := "PhrasehallModel", name := "isMatch", desc := "(II)Z" } : Jvm.MethodName) ({ cls := "PhrasehallModel", name := "isMatch", desc := "(II)Z" } : Jvm.MethodName)) ∈ TW := tw_in 54 (by decide +kernel) (by decide +kernel)
theorem tw_55 : (Jvm.Cond.selects "PhrasehallModel" ({ cls := "PhrasehallModel", name := "ofPools", desc := "(III)I" } : Jvm.MethodName) ({ cls := "PhrasehallModel", name := "ofPools", desc := "(III)I" } : Jvm.MethodName)) ∈ TW := tw_in 55 (by decide +kernel) (by decide +kernel)
theorem tw_57 : (Jvm.Cond.initialized "Phrasehall") ∈ TW := tw_in 57 (by decide +kernel) (by decide +kernel)
theorem tw_58 : (Jvm.Cond.initialized "Phrasehall$Phrase") ∈ TW := tw_in 58 (by decide +kernel) (by decide +kernel)
theorem tw_59 : (Jvm.Cond.initialized "Phrasehall$RightOfWay") ∈ TW := tw_in 59 (by decide +kernel) (by decide +kernel)
theorem tw_60 : (Jvm.Cond.initialized "Phrasehall$Bracket") ∈ TW := tw_in 60 (by decide +kernel) (by decide +kernel)
theorem tw_61 : (Jvm.Cond.initialized "Phrasehall$Lot") ∈ TW := tw_in 61 (by decide +kernel) (by decide +kernel)
theorem tw_62 : (Jvm.Cond.initialized "PhrasehallModel") ∈ TW := tw_in 62 (by decide +kernel) (by decide +kernel)
theorem tw_66 : (Jvm.Cond.initialized "java/lang/IllegalStateException") ∈ TW := tw_in 66 (by decide +kernel) (by decide +kernel)
theorem tw_67 : (Jvm.Cond.initialized "java/lang/IndexOutOfBoundsException") ∈ TW := tw_in 67 (by decide +kernel) (by decide +kernel)
theorem tw_68 : (Jvm.Cond.initialized "java/lang/IllegalArgumentException") ∈ TW := tw_in 68 (by decide +kernel) (by decide +kernel)
theorem tw_69 : (Jvm.Cond.initialized "Phrasehall$Pool") ∈ TW := tw_in 69 (by decide +kernel) (by decide +kernel)
theorem tw_70 : (Jvm.Cond.initialized "Phrasehall$Bout") ∈ TW := tw_in 70 (by decide +kernel) (by decide +kernel)
theorem tw_71 : (Jvm.Cond.initialized "Phrasehall$Corner") ∈ TW := tw_in 71 (by decide +kernel) (by decide +kernel)
theorem tw_72 : (Jvm.Cond.initialized "java/lang/Math") ∈ TW := tw_in 72 (by decide +kernel) (by decide +kernel)
theorem tw_73 : (Jvm.Cond.initialized "java/lang/Integer") ∈ TW := tw_in 73 (by decide +kernel) (by decide +kernel)
theorem tw_98 : (Jvm.Cond.fieldLink "Phrasehall$RightOfWay" (9 : Nat) "Phrasehall$RightOfWay" "side" "I") ∈ TW := tw_in 98 (by decide +kernel) (by decide +kernel)
theorem tw_100 : (Jvm.Cond.fieldLink "Phrasehall$RightOfWay" (15 : Nat) "Phrasehall$RightOfWay" "by" "I") ∈ TW := tw_in 100 (by decide +kernel) (by decide +kernel)
theorem tw_101 : (Jvm.Cond.fieldLink "Phrasehall$RightOfWay" (18 : Nat) "Phrasehall$RightOfWay" "since" "I") ∈ TW := tw_in 101 (by decide +kernel) (by decide +kernel)
theorem tw_102 : (Jvm.Cond.fieldLink "Phrasehall$RightOfWay" (21 : Nat) "Phrasehall$RightOfWay" "parrier" "I") ∈ TW := tw_in 102 (by decide +kernel) (by decide +kernel)
theorem tw_103 : (Jvm.Cond.fieldLink "Phrasehall$RightOfWay" (24 : Nat) "Phrasehall$RightOfWay" "parriedAt" "I") ∈ TW := tw_in 103 (by decide +kernel) (by decide +kernel)
theorem tw_104 : (Jvm.Cond.lays "Phrasehall$RightOfWay" "Phrasehall$RightOfWay" "side" "I") ∈ TW := tw_in 104 (by decide +kernel) (by decide +kernel)
theorem tw_106 : (Jvm.Cond.lays "Phrasehall$RightOfWay" "Phrasehall$RightOfWay" "by" "I") ∈ TW := tw_in 106 (by decide +kernel) (by decide +kernel)
theorem tw_108 : (Jvm.Cond.lays "Phrasehall$RightOfWay" "Phrasehall$RightOfWay" "since" "I") ∈ TW := tw_in 108 (by decide +kernel) (by decide +kernel)
theorem tw_110 : (Jvm.Cond.lays "Phrasehall$RightOfWay" "Phrasehall$RightOfWay" "parrier" "I") ∈ TW := tw_in 110 (by decide +kernel) (by decide +kernel)
theorem tw_112 : (Jvm.Cond.lays "Phrasehall$RightOfWay" "Phrasehall$RightOfWay" "parriedAt" "I") ∈ TW := tw_in 112 (by decide +kernel) (by decide +kernel)
theorem tw_116 : (Jvm.Cond.fieldLink "Phrasehall$Phrase" (11 : Nat) "Phrasehall$Phrase" "sides" "[I") ∈ TW := tw_in 116 (by decide +kernel) (by decide +kernel)
theorem tw_117 : (Jvm.Cond.fieldLink "Phrasehall$Phrase" (15 : Nat) "Phrasehall$Phrase" "kinds" "[I") ∈ TW := tw_in 117 (by decide +kernel) (by decide +kernel)
theorem tw_118 : (Jvm.Cond.fieldLink "Phrasehall$Phrase" (18 : Nat) "Phrasehall$Phrase" "times" "[I") ∈ TW := tw_in 118 (by decide +kernel) (by decide +kernel)
theorem tw_119 : (Jvm.Cond.fieldLink "Phrasehall$Phrase" (21 : Nat) "Phrasehall$Phrase" "spans" "[I") ∈ TW := tw_in 119 (by decide +kernel) (by decide +kernel)
theorem tw_120 : (Jvm.Cond.fieldLink "Phrasehall$Phrase" (24 : Nat) "Phrasehall$Phrase" "targets" "[I") ∈ TW := tw_in 120 (by decide +kernel) (by decide +kernel)
theorem tw_121 : (Jvm.Cond.fieldLink "Phrasehall$Phrase" (30 : Nat) "Phrasehall$Phrase" "rightOfWay" "LPhrasehall$RightOfWay;") ∈ TW := tw_in 121 (by decide +kernel) (by decide +kernel)
theorem tw_122 : (Jvm.Cond.fieldLink "Phrasehall$Phrase" (34 : Nat) "Phrasehall$Phrase" "count" "I") ∈ TW := tw_in 122 (by decide +kernel) (by decide +kernel)
theorem tw_124 : (Jvm.Cond.laysFinal "Phrasehall$Phrase" "Phrasehall$Phrase" "sides" "[I") ∈ TW := tw_in 124 (by decide +kernel) (by decide +kernel)
theorem tw_126 : (Jvm.Cond.laysFinal "Phrasehall$Phrase" "Phrasehall$Phrase" "kinds" "[I") ∈ TW := tw_in 126 (by decide +kernel) (by decide +kernel)
theorem tw_128 : (Jvm.Cond.laysFinal "Phrasehall$Phrase" "Phrasehall$Phrase" "times" "[I") ∈ TW := tw_in 128 (by decide +kernel) (by decide +kernel)
theorem tw_130 : (Jvm.Cond.laysFinal "Phrasehall$Phrase" "Phrasehall$Phrase" "spans" "[I") ∈ TW := tw_in 130 (by decide +kernel) (by decide +kernel)
theorem tw_132 : (Jvm.Cond.laysFinal "Phrasehall$Phrase" "Phrasehall$Phrase" "targets" "[I") ∈ TW := tw_in 132 (by decide +kernel) (by decide +kernel)
theorem tw_134 : (Jvm.Cond.laysFinal "Phrasehall$Phrase" "Phrasehall$Phrase" "rightOfWay" "LPhrasehall$RightOfWay;") ∈ TW := tw_in 134 (by decide +kernel) (by decide +kernel)
theorem tw_136 : (Jvm.Cond.lays "Phrasehall$Phrase" "Phrasehall$Phrase" "count" "I") ∈ TW := tw_in 136 (by decide +kernel) (by decide +kernel)
theorem tw_145 : (Jvm.Cond.fieldLink "Phrasehall$Bracket" (11 : Nat) "Phrasehall$Bracket" "nodes" "[I") ∈ TW := tw_in 145 (by decide +kernel) (by decide +kernel)
theorem tw_146 : (Jvm.Cond.fieldLink "Phrasehall$Bracket" (15 : Nat) "Phrasehall$Bracket" "order" "[I") ∈ TW := tw_in 146 (by decide +kernel) (by decide +kernel)
theorem tw_147 : (Jvm.Cond.fieldLink "Phrasehall$Bracket" (18 : Nat) "Phrasehall$Bracket" "places" "I") ∈ TW := tw_in 147 (by decide +kernel) (by decide +kernel)
theorem tw_149 : (Jvm.Cond.laysFinal "Phrasehall$Bracket" "Phrasehall$Bracket" "nodes" "[I") ∈ TW := tw_in 149 (by decide +kernel) (by decide +kernel)
theorem tw_151 : (Jvm.Cond.laysFinal "Phrasehall$Bracket" "Phrasehall$Bracket" "order" "[I") ∈ TW := tw_in 151 (by decide +kernel) (by decide +kernel)
theorem tw_153 : (Jvm.Cond.lays "Phrasehall$Bracket" "Phrasehall$Bracket" "places" "I") ∈ TW := tw_in 153 (by decide +kernel) (by decide +kernel)
theorem tw_162 : (Jvm.Cond.fieldLink "Phrasehall$Lot" (7 : Nat) "Phrasehall$Lot" "seed" "J") ∈ TW := tw_in 162 (by decide +kernel) (by decide +kernel)
theorem tw_164 : (Jvm.Cond.lays "Phrasehall$Lot" "Phrasehall$Lot" "seed" "J") ∈ TW := tw_in 164 (by decide +kernel) (by decide +kernel)
theorem tw_167 : (Jvm.Cond.fieldLink "Phrasehall" (11 : Nat) "Phrasehall" "bouts" "[LPhrasehall$Bout;") ∈ TW := tw_in 167 (by decide +kernel) (by decide +kernel)
theorem tw_168 : (Jvm.Cond.fieldLink "Phrasehall" (17 : Nat) "Phrasehall" "pools" "[LPhrasehall$Pool;") ∈ TW := tw_in 168 (by decide +kernel) (by decide +kernel)
theorem tw_169 : (Jvm.Cond.fieldLink "Phrasehall" (24 : Nat) "Phrasehall" "phrase" "LPhrasehall$Phrase;") ∈ TW := tw_in 169 (by decide +kernel) (by decide +kernel)
theorem tw_170 : (Jvm.Cond.fieldLink "Phrasehall" (31 : Nat) "Phrasehall" "bracket" "LPhrasehall$Bracket;") ∈ TW := tw_in 170 (by decide +kernel) (by decide +kernel)
theorem tw_171 : (Jvm.Cond.fieldLink "Phrasehall" (38 : Nat) "Phrasehall" "lot" "LPhrasehall$Lot;") ∈ TW := tw_in 171 (by decide +kernel) (by decide +kernel)
theorem tw_172 : (Jvm.Cond.fieldLink "Phrasehall" (42 : Nat) "Phrasehall" "fencerCount" "I") ∈ TW := tw_in 172 (by decide +kernel) (by decide +kernel)
theorem tw_173 : (Jvm.Cond.fieldLink "Phrasehall" (46 : Nat) "Phrasehall" "boutCount" "I") ∈ TW := tw_in 173 (by decide +kernel) (by decide +kernel)
theorem tw_174 : (Jvm.Cond.fieldLink "Phrasehall" (49 : Nat) "Phrasehall" "poolCount" "I") ∈ TW := tw_in 174 (by decide +kernel) (by decide +kernel)
theorem tw_175 : (Jvm.Cond.fieldLink "Phrasehall" (52 : Nat) "Phrasehall" "piste" "LPhrasehall$Bout;") ∈ TW := tw_in 175 (by decide +kernel) (by decide +kernel)
theorem tw_176 : (Jvm.Cond.fieldLink "Phrasehall" (56 : Nat) "Phrasehall" "lastReason" "I") ∈ TW := tw_in 176 (by decide +kernel) (by decide +kernel)
theorem tw_177 : (Jvm.Cond.laysFinal "Phrasehall" "Phrasehall" "bouts" "[LPhrasehall$Bout;") ∈ TW := tw_in 177 (by decide +kernel) (by decide +kernel)
theorem tw_179 : (Jvm.Cond.laysFinal "Phrasehall" "Phrasehall" "pools" "[LPhrasehall$Pool;") ∈ TW := tw_in 179 (by decide +kernel) (by decide +kernel)
theorem tw_181 : (Jvm.Cond.laysFinal "Phrasehall" "Phrasehall" "phrase" "LPhrasehall$Phrase;") ∈ TW := tw_in 181 (by decide +kernel) (by decide +kernel)
theorem tw_183 : (Jvm.Cond.laysFinal "Phrasehall" "Phrasehall" "bracket" "LPhrasehall$Bracket;") ∈ TW := tw_in 183 (by decide +kernel) (by decide +kernel)
theorem tw_185 : (Jvm.Cond.laysFinal "Phrasehall" "Phrasehall" "lot" "LPhrasehall$Lot;") ∈ TW := tw_in 185 (by decide +kernel) (by decide +kernel)
theorem tw_187 : (Jvm.Cond.lays "Phrasehall" "Phrasehall" "fencerCount" "I") ∈ TW := tw_in 187 (by decide +kernel) (by decide +kernel)
theorem tw_189 : (Jvm.Cond.lays "Phrasehall" "Phrasehall" "boutCount" "I") ∈ TW := tw_in 189 (by decide +kernel) (by decide +kernel)
theorem tw_191 : (Jvm.Cond.lays "Phrasehall" "Phrasehall" "poolCount" "I") ∈ TW := tw_in 191 (by decide +kernel) (by decide +kernel)
theorem tw_193 : (Jvm.Cond.lays "Phrasehall" "Phrasehall" "piste" "LPhrasehall$Bout;") ∈ TW := tw_in 193 (by decide +kernel) (by decide +kernel)
theorem tw_195 : (Jvm.Cond.lays "Phrasehall" "Phrasehall" "lastReason" "I") ∈ TW := tw_in 195 (by decide +kernel) (by decide +kernel)
theorem tw_202 : (Jvm.Cond.methodLink "Phrasehall" (264 : Nat) ({ cls := "Phrasehall$Phrase", name := "holderAhead", desc := "(I)I" } : Jvm.MethodName)) ∈ TW := tw_in 202 (by decide +kernel) (by decide +kernel)
theorem tw_203 : (Jvm.Cond.instanceMethod ({ cls := "Phrasehall$Phrase", name := "holderAhead", desc := "(I)I" } : Jvm.MethodName)) ∈ TW := tw_in 203 (by decide +kernel) (by decide +kernel)
theorem tw_204 : (Jvm.Cond.selects "Phrasehall$Phrase" ({ cls := "Phrasehall$Phrase", name := "holderAhead", desc := "(I)I" } : Jvm.MethodName) ({ cls := "Phrasehall$Phrase", name := "holderAhead", desc := "(I)I" } : Jvm.MethodName)) ∈ TW := tw_in 204 (by decide +kernel) (by decide +kernel)
theorem tw_205 : (Jvm.Cond.code ({ cls := "Phrasehall$Phrase", name := "holderAhead", desc := "(I)I" } : Jvm.MethodName) prog_6_method_15_code (3 : Nat) (Option.some Jvm.ClassFile.FieldType.int)) ∈ TW := tw_in 205 (by decide +kernel) (by decide +kernel)
theorem tw_206 : (Jvm.Cond.methodLink "Phrasehall$Phrase" (60 : Nat) ({ cls := "Phrasehall$RightOfWay", name := "forget", desc := "()V" } : Jvm.MethodName)) ∈ TW := tw_in 206 (by decide +kernel) (by decide +kernel)
theorem tw_207 : (Jvm.Cond.instanceMethod ({ cls := "Phrasehall$RightOfWay", name := "forget", desc := "()V" } : Jvm.MethodName)) ∈ TW := tw_in 207 (by decide +kernel) (by decide +kernel)
theorem tw_208 : (Jvm.Cond.selects "Phrasehall$RightOfWay" ({ cls := "Phrasehall$RightOfWay", name := "forget", desc := "()V" } : Jvm.MethodName) ({ cls := "Phrasehall$RightOfWay", name := "forget", desc := "()V" } : Jvm.MethodName)) ∈ TW := tw_in 208 (by decide +kernel) (by decide +kernel)
theorem tw_209 : (Jvm.Cond.code ({ cls := "Phrasehall$RightOfWay", name := "forget", desc := "()V" } : Jvm.MethodName) prog_8_method_2_code (1 : Nat) (Option.none : Option Jvm.ClassFile.FieldType)) ∈ TW := tw_in 209 (by decide +kernel) (by decide +kernel)
theorem tw_210 : (Jvm.Cond.methodLink "Phrasehall$Phrase" (46 : Nat) ({ cls := "Phrasehall$Phrase", name := "isEntry", desc := "(I)Z" } : Jvm.MethodName)) ∈ TW := tw_in 210 (by decide +kernel) (by decide +kernel)
theorem tw_212 : (Jvm.Cond.instanceMethod ({ cls := "Phrasehall$Phrase", name := "isEntry", desc := "(I)Z" } : Jvm.MethodName)) ∈ TW := tw_in 212 (by decide +kernel) (by decide +kernel)
theorem tw_213 : (Jvm.Cond.code ({ cls := "Phrasehall$Phrase", name := "isEntry", desc := "(I)Z" } : Jvm.MethodName) prog_6_method_8_code (2 : Nat) (Option.some Jvm.ClassFile.FieldType.boolean)) ∈ TW := tw_in 213 (by decide +kernel) (by decide +kernel)
theorem tw_214 : (Jvm.Cond.methodLink "Phrasehall$Phrase" (63 : Nat) ({ cls := "Phrasehall$RightOfWay", name := "take", desc := "(III)V" } : Jvm.MethodName)) ∈ TW := tw_in 214 (by decide +kernel) (by decide +kernel)
theorem tw_215 : (Jvm.Cond.instanceMethod ({ cls := "Phrasehall$RightOfWay", name := "take", desc := "(III)V" } : Jvm.MethodName)) ∈ TW := tw_in 215 (by decide +kernel) (by decide +kernel)
theorem tw_216 : (Jvm.Cond.selects "Phrasehall$RightOfWay" ({ cls := "Phrasehall$RightOfWay", name := "take", desc := "(III)V" } : Jvm.MethodName) ({ cls := "Phrasehall$RightOfWay", name := "take", desc := "(III)V" } : Jvm.MethodName)) ∈ TW := tw_in 216 (by decide +kernel) (by decide +kernel)
theorem tw_217 : (Jvm.Cond.code ({ cls := "Phrasehall$RightOfWay", name := "take", desc := "(III)V" } : Jvm.MethodName) prog_8_method_3_code (5 : Nat) (Option.none : Option Jvm.ClassFile.FieldType)) ∈ TW := tw_in 217 (by decide +kernel) (by decide +kernel)
theorem tw_218 : (Jvm.Cond.methodLink "Phrasehall$RightOfWay" (27 : Nat) ({ cls := "Phrasehall$RightOfWay", name := "attack", desc := "(II)V" } : Jvm.MethodName)) ∈ TW := tw_in 218 (by decide +kernel) (by decide +kernel)
theorem tw_220 : (Jvm.Cond.instanceMethod ({ cls := "Phrasehall$RightOfWay", name := "attack", desc := "(II)V" } : Jvm.MethodName)) ∈ TW := tw_in 220 (by decide +kernel) (by decide +kernel)
theorem tw_221 : (Jvm.Cond.code ({ cls := "Phrasehall$RightOfWay", name := "attack", desc := "(II)V" } : Jvm.MethodName) prog_8_method_5_code (3 : Nat) (Option.none : Option Jvm.ClassFile.FieldType)) ∈ TW := tw_in 221 (by decide +kernel) (by decide +kernel)
theorem tw_222 : (Jvm.Cond.methodLink "Phrasehall$RightOfWay" (31 : Nat) ({ cls := "Phrasehall$RightOfWay", name := "give", desc := "(III)V" } : Jvm.MethodName)) ∈ TW := tw_in 222 (by decide +kernel) (by decide +kernel)
theorem tw_224 : (Jvm.Cond.instanceMethod ({ cls := "Phrasehall$RightOfWay", name := "give", desc := "(III)V" } : Jvm.MethodName)) ∈ TW := tw_in 224 (by decide +kernel) (by decide +kernel)
theorem tw_225 : (Jvm.Cond.code ({ cls := "Phrasehall$RightOfWay", name := "give", desc := "(III)V" } : Jvm.MethodName) prog_8_method_4_code (4 : Nat) (Option.none : Option Jvm.ClassFile.FieldType)) ∈ TW := tw_in 225 (by decide +kernel) (by decide +kernel)
theorem tw_226 : (Jvm.Cond.methodLink "Phrasehall$RightOfWay" (35 : Nat) ({ cls := "Phrasehall$RightOfWay", name := "parry", desc := "(II)V" } : Jvm.MethodName)) ∈ TW := tw_in 226 (by decide +kernel) (by decide +kernel)
theorem tw_228 : (Jvm.Cond.instanceMethod ({ cls := "Phrasehall$RightOfWay", name := "parry", desc := "(II)V" } : Jvm.MethodName)) ∈ TW := tw_in 228 (by decide +kernel) (by decide +kernel)
theorem tw_229 : (Jvm.Cond.code ({ cls := "Phrasehall$RightOfWay", name := "parry", desc := "(II)V" } : Jvm.MethodName) prog_8_method_6_code (3 : Nat) (Option.none : Option Jvm.ClassFile.FieldType)) ∈ TW := tw_in 229 (by decide +kernel) (by decide +kernel)
theorem tw_242 : (Jvm.Cond.classLink "Phrasehall" (59 : Nat) "java/lang/IllegalStateException") ∈ TW := tw_in 242 (by decide +kernel) (by decide +kernel)
theorem tw_319 : (Jvm.Cond.methodLink "Phrasehall" (66 : Nat) ({ cls := "Phrasehall", name := "poolOf", desc := "(I)LPhrasehall$Pool;" } : Jvm.MethodName)) ∈ TW := tw_in 319 (by decide +kernel) (by decide +kernel)
theorem tw_321 : (Jvm.Cond.instanceMethod ({ cls := "Phrasehall", name := "poolOf", desc := "(I)LPhrasehall$Pool;" } : Jvm.MethodName)) ∈ TW := tw_in 321 (by decide +kernel) (by decide +kernel)
theorem tw_322 : (Jvm.Cond.code ({ cls := "Phrasehall", name := "poolOf", desc := "(I)LPhrasehall$Pool;" } : Jvm.MethodName) prog_1_method_27_code (2 : Nat) (Option.some (Jvm.ClassFile.FieldType.object "Phrasehall$Pool"))) ∈ TW := tw_in 322 (by decide +kernel) (by decide +kernel)
theorem tw_323 : (Jvm.Cond.methodLink "Phrasehall" (70 : Nat) ({ cls := "Phrasehall", name := "isFencer", desc := "(I)Z" } : Jvm.MethodName)) ∈ TW := tw_in 323 (by decide +kernel) (by decide +kernel)
theorem tw_325 : (Jvm.Cond.instanceMethod ({ cls := "Phrasehall", name := "isFencer", desc := "(I)Z" } : Jvm.MethodName)) ∈ TW := tw_in 325 (by decide +kernel) (by decide +kernel)
theorem tw_326 : (Jvm.Cond.code ({ cls := "Phrasehall", name := "isFencer", desc := "(I)Z" } : Jvm.MethodName) prog_1_method_25_code (2 : Nat) (Option.some Jvm.ClassFile.FieldType.boolean)) ∈ TW := tw_in 326 (by decide +kernel) (by decide +kernel)
theorem tw_327 : (Jvm.Cond.classLink "Phrasehall" (74 : Nat) "java/lang/IndexOutOfBoundsException") ∈ TW := tw_in 327 (by decide +kernel) (by decide +kernel)
theorem tw_343 : (Jvm.Cond.methodLink "Phrasehall" (79 : Nat) ({ cls := "Phrasehall", name := "isWithin", desc := "(III)Z" } : Jvm.MethodName)) ∈ TW := tw_in 343 (by decide +kernel) (by decide +kernel)
theorem tw_344 : (Jvm.Cond.static ({ cls := "Phrasehall", name := "isWithin", desc := "(III)Z" } : Jvm.MethodName)) ∈ TW := tw_in 344 (by decide +kernel) (by decide +kernel)
theorem tw_345 : (Jvm.Cond.code ({ cls := "Phrasehall", name := "isWithin", desc := "(III)Z" } : Jvm.MethodName) prog_1_method_23_code (3 : Nat) (Option.some Jvm.ClassFile.FieldType.boolean)) ∈ TW := tw_in 345 (by decide +kernel) (by decide +kernel)
theorem tw_346 : (Jvm.Cond.classLink "Phrasehall" (83 : Nat) "java/lang/IllegalArgumentException") ∈ TW := tw_in 346 (by decide +kernel) (by decide +kernel)
theorem tw_362 : (Jvm.Cond.methodLink "Phrasehall" (88 : Nat) ({ cls := "Phrasehall$Pool", name := "has", desc := "(I)Z" } : Jvm.MethodName)) ∈ TW := tw_in 362 (by decide +kernel) (by decide +kernel)
theorem tw_363 : (Jvm.Cond.instanceMethod ({ cls := "Phrasehall$Pool", name := "has", desc := "(I)Z" } : Jvm.MethodName)) ∈ TW := tw_in 363 (by decide +kernel) (by decide +kernel)
theorem tw_364 : (Jvm.Cond.selects "Phrasehall$Pool" ({ cls := "Phrasehall$Pool", name := "has", desc := "(I)Z" } : Jvm.MethodName) ({ cls := "Phrasehall$Pool", name := "has", desc := "(I)Z" } : Jvm.MethodName)) ∈ TW := tw_in 364 (by decide +kernel) (by decide +kernel)
theorem tw_365 : (Jvm.Cond.code ({ cls := "Phrasehall$Pool", name := "has", desc := "(I)Z" } : Jvm.MethodName) prog_7_method_3_code (2 : Nat) (Option.some Jvm.ClassFile.FieldType.boolean)) ∈ TW := tw_in 365 (by decide +kernel) (by decide +kernel)
theorem tw_366 : (Jvm.Cond.methodLink "Phrasehall$Pool" (28 : Nat) ({ cls := "Phrasehall$Pool", name := "isIn", desc := "(II)Z" } : Jvm.MethodName)) ∈ TW := tw_in 366 (by decide +kernel) (by decide +kernel)
theorem tw_367 : (Jvm.Cond.static ({ cls := "Phrasehall$Pool", name := "isIn", desc := "(II)Z" } : Jvm.MethodName)) ∈ TW := tw_in 367 (by decide +kernel) (by decide +kernel)
theorem tw_368 : (Jvm.Cond.code ({ cls := "Phrasehall$Pool", name := "isIn", desc := "(II)Z" } : Jvm.MethodName) prog_7_method_2_code (2 : Nat) (Option.some Jvm.ClassFile.FieldType.boolean)) ∈ TW := tw_in 368 (by decide +kernel) (by decide +kernel)
theorem tw_370 : (Jvm.Cond.methodLink "Phrasehall" (93 : Nat) ({ cls := "Phrasehall$Pool", name := "isWithdrawn", desc := "(I)Z" } : Jvm.MethodName)) ∈ TW := tw_in 370 (by decide +kernel) (by decide +kernel)
theorem tw_371 : (Jvm.Cond.instanceMethod ({ cls := "Phrasehall$Pool", name := "isWithdrawn", desc := "(I)Z" } : Jvm.MethodName)) ∈ TW := tw_in 371 (by decide +kernel) (by decide +kernel)
theorem tw_372 : (Jvm.Cond.selects "Phrasehall$Pool" ({ cls := "Phrasehall$Pool", name := "isWithdrawn", desc := "(I)Z" } : Jvm.MethodName) ({ cls := "Phrasehall$Pool", name := "isWithdrawn", desc := "(I)Z" } : Jvm.MethodName)) ∈ TW := tw_in 372 (by decide +kernel) (by decide +kernel)
theorem tw_373 : (Jvm.Cond.code ({ cls := "Phrasehall$Pool", name := "isWithdrawn", desc := "(I)Z" } : Jvm.MethodName) prog_7_method_4_code (2 : Nat) (Option.some Jvm.ClassFile.FieldType.boolean)) ∈ TW := tw_in 373 (by decide +kernel) (by decide +kernel)
theorem tw_392 : (Jvm.Cond.fieldLink "Phrasehall$Corner" (15 : Nat) "Phrasehall$Corner" "carded" "Z") ∈ TW := tw_in 392 (by decide +kernel) (by decide +kernel)
theorem tw_393 : (Jvm.Cond.fieldLink "Phrasehall$Corner" (19 : Nat) "Phrasehall$Corner" "cardedInThird" "Z") ∈ TW := tw_in 393 (by decide +kernel) (by decide +kernel)
theorem tw_394 : (Jvm.Cond.laysFinal "Phrasehall$Corner" "Phrasehall$Corner" "fencer" "I") ∈ TW := tw_in 394 (by decide +kernel) (by decide +kernel)
theorem tw_396 : (Jvm.Cond.lays "Phrasehall$Corner" "Phrasehall$Corner" "touches" "I") ∈ TW := tw_in 396 (by decide +kernel) (by decide +kernel)
theorem tw_398 : (Jvm.Cond.lays "Phrasehall$Corner" "Phrasehall$Corner" "carded" "Z") ∈ TW := tw_in 398 (by decide +kernel) (by decide +kernel)
theorem tw_400 : (Jvm.Cond.lays "Phrasehall$Corner" "Phrasehall$Corner" "cardedInThird" "Z") ∈ TW := tw_in 400 (by decide +kernel) (by decide +kernel)
theorem tw_403 : (Jvm.Cond.fieldLink "Phrasehall$Bout" (32 : Nat) "Phrasehall$Bout" "first" "LPhrasehall$Corner;") ∈ TW := tw_in 403 (by decide +kernel) (by decide +kernel)
theorem tw_405 : (Jvm.Cond.fieldLink "Phrasehall$Bout" (36 : Nat) "Phrasehall$Bout" "second" "LPhrasehall$Corner;") ∈ TW := tw_in 405 (by decide +kernel) (by decide +kernel)
theorem tw_409 : (Jvm.Cond.fieldLink "Phrasehall$Bout" (42 : Nat) "Phrasehall$Bout" "to" "I") ∈ TW := tw_in 409 (by decide +kernel) (by decide +kernel)
theorem tw_413 : (Jvm.Cond.fieldLink "Phrasehall$Bout" (9 : Nat) "Phrasehall$Bout" "winner" "I") ∈ TW := tw_in 413 (by decide +kernel) (by decide +kernel)
theorem tw_415 : (Jvm.Cond.fieldLink "Phrasehall$Bout" (15 : Nat) "Phrasehall$Bout" "drawn" "I") ∈ TW := tw_in 415 (by decide +kernel) (by decide +kernel)
theorem tw_416 : (Jvm.Cond.fieldLink "Phrasehall$Bout" (18 : Nat) "Phrasehall$Bout" "seconds" "I") ∈ TW := tw_in 416 (by decide +kernel) (by decide +kernel)
theorem tw_417 : (Jvm.Cond.fieldLink "Phrasehall$Bout" (21 : Nat) "Phrasehall$Bout" "quietSeconds" "I") ∈ TW := tw_in 417 (by decide +kernel) (by decide +kernel)
theorem tw_418 : (Jvm.Cond.fieldLink "Phrasehall$Bout" (24 : Nat) "Phrasehall$Bout" "passivities" "I") ∈ TW := tw_in 418 (by decide +kernel) (by decide +kernel)
theorem tw_419 : (Jvm.Cond.laysFinal "Phrasehall$Bout" "Phrasehall$Bout" "first" "LPhrasehall$Corner;") ∈ TW := tw_in 419 (by decide +kernel) (by decide +kernel)
theorem tw_421 : (Jvm.Cond.laysFinal "Phrasehall$Bout" "Phrasehall$Bout" "second" "LPhrasehall$Corner;") ∈ TW := tw_in 421 (by decide +kernel) (by decide +kernel)
theorem tw_423 : (Jvm.Cond.laysFinal "Phrasehall$Bout" "Phrasehall$Bout" "weapon" "I") ∈ TW := tw_in 423 (by decide +kernel) (by decide +kernel)
theorem tw_425 : (Jvm.Cond.laysFinal "Phrasehall$Bout" "Phrasehall$Bout" "to" "I") ∈ TW := tw_in 425 (by decide +kernel) (by decide +kernel)
theorem tw_427 : (Jvm.Cond.laysFinal "Phrasehall$Bout" "Phrasehall$Bout" "pool" "I") ∈ TW := tw_in 427 (by decide +kernel) (by decide +kernel)
theorem tw_429 : (Jvm.Cond.lays "Phrasehall$Bout" "Phrasehall$Bout" "winner" "I") ∈ TW := tw_in 429 (by decide +kernel) (by decide +kernel)
theorem tw_431 : (Jvm.Cond.lays "Phrasehall$Bout" "Phrasehall$Bout" "drawn" "I") ∈ TW := tw_in 431 (by decide +kernel) (by decide +kernel)
theorem tw_433 : (Jvm.Cond.lays "Phrasehall$Bout" "Phrasehall$Bout" "seconds" "I") ∈ TW := tw_in 433 (by decide +kernel) (by decide +kernel)
theorem tw_435 : (Jvm.Cond.lays "Phrasehall$Bout" "Phrasehall$Bout" "quietSeconds" "I") ∈ TW := tw_in 435 (by decide +kernel) (by decide +kernel)
theorem tw_437 : (Jvm.Cond.lays "Phrasehall$Bout" "Phrasehall$Bout" "passivities" "I") ∈ TW := tw_in 437 (by decide +kernel) (by decide +kernel)
theorem tw_451 : (Jvm.Cond.methodLink "Phrasehall" (107 : Nat) ({ cls := "Phrasehall", name := "isSide", desc := "(I)Z" } : Jvm.MethodName)) ∈ TW := tw_in 451 (by decide +kernel) (by decide +kernel)
theorem tw_452 : (Jvm.Cond.static ({ cls := "Phrasehall", name := "isSide", desc := "(I)Z" } : Jvm.MethodName)) ∈ TW := tw_in 452 (by decide +kernel) (by decide +kernel)
theorem tw_453 : (Jvm.Cond.code ({ cls := "Phrasehall", name := "isSide", desc := "(I)Z" } : Jvm.MethodName) prog_1_method_24_code (1 : Nat) (Option.some Jvm.ClassFile.FieldType.boolean)) ∈ TW := tw_in 453 (by decide +kernel) (by decide +kernel)
theorem tw_454 : (Jvm.Cond.constant "Phrasehall" (110 : Nat) (1000000 : Int32)) ∈ TW := tw_in 454 (by decide +kernel) (by decide +kernel)
theorem tw_456 : (Jvm.Cond.methodLink "Phrasehall" (113 : Nat) ({ cls := "Phrasehall", name := "checkRoomInPhrase", desc := "(I)V" } : Jvm.MethodName)) ∈ TW := tw_in 456 (by decide +kernel) (by decide +kernel)
theorem tw_458 : (Jvm.Cond.instanceMethod ({ cls := "Phrasehall", name := "checkRoomInPhrase", desc := "(I)V" } : Jvm.MethodName)) ∈ TW := tw_in 458 (by decide +kernel) (by decide +kernel)
theorem tw_459 : (Jvm.Cond.code ({ cls := "Phrasehall", name := "checkRoomInPhrase", desc := "(I)V" } : Jvm.MethodName) prog_1_method_30_code (2 : Nat) (Option.none : Option Jvm.ClassFile.FieldType)) ∈ TW := tw_in 459 (by decide +kernel) (by decide +kernel)
theorem tw_460 : (Jvm.Cond.methodLink "Phrasehall" (304 : Nat) ({ cls := "Phrasehall$Phrase", name := "lastTime", desc := "()I" } : Jvm.MethodName)) ∈ TW := tw_in 460 (by decide +kernel) (by decide +kernel)
theorem tw_461 : (Jvm.Cond.instanceMethod ({ cls := "Phrasehall$Phrase", name := "lastTime", desc := "()I" } : Jvm.MethodName)) ∈ TW := tw_in 461 (by decide +kernel) (by decide +kernel)
theorem tw_462 : (Jvm.Cond.selects "Phrasehall$Phrase" ({ cls := "Phrasehall$Phrase", name := "lastTime", desc := "()I" } : Jvm.MethodName) ({ cls := "Phrasehall$Phrase", name := "lastTime", desc := "()I" } : Jvm.MethodName)) ∈ TW := tw_in 462 (by decide +kernel) (by decide +kernel)
theorem tw_463 : (Jvm.Cond.code ({ cls := "Phrasehall$Phrase", name := "lastTime", desc := "()I" } : Jvm.MethodName) prog_6_method_4_code (1 : Nat) (Option.some Jvm.ClassFile.FieldType.int)) ∈ TW := tw_in 463 (by decide +kernel) (by decide +kernel)
theorem tw_464 : (Jvm.Cond.methodLink "Phrasehall$Phrase" (38 : Nat) ({ cls := "Phrasehall$Phrase", name := "timeAt", desc := "(I)I" } : Jvm.MethodName)) ∈ TW := tw_in 464 (by decide +kernel) (by decide +kernel)
theorem tw_465 : (Jvm.Cond.instanceMethod ({ cls := "Phrasehall$Phrase", name := "timeAt", desc := "(I)I" } : Jvm.MethodName)) ∈ TW := tw_in 465 (by decide +kernel) (by decide +kernel)
theorem tw_466 : (Jvm.Cond.selects "Phrasehall$Phrase" ({ cls := "Phrasehall$Phrase", name := "timeAt", desc := "(I)I" } : Jvm.MethodName) ({ cls := "Phrasehall$Phrase", name := "timeAt", desc := "(I)I" } : Jvm.MethodName)) ∈ TW := tw_in 466 (by decide +kernel) (by decide +kernel)
theorem tw_467 : (Jvm.Cond.code ({ cls := "Phrasehall$Phrase", name := "timeAt", desc := "(I)I" } : Jvm.MethodName) prog_6_method_9_code (2 : Nat) (Option.some Jvm.ClassFile.FieldType.int)) ∈ TW := tw_in 467 (by decide +kernel) (by decide +kernel)
theorem tw_468 : (Jvm.Cond.methodLink "Phrasehall" (307 : Nat) ({ cls := "Phrasehall$Phrase", name := "isFull", desc := "()Z" } : Jvm.MethodName)) ∈ TW := tw_in 468 (by decide +kernel) (by decide +kernel)
theorem tw_469 : (Jvm.Cond.instanceMethod ({ cls := "Phrasehall$Phrase", name := "isFull", desc := "()Z" } : Jvm.MethodName)) ∈ TW := tw_in 469 (by decide +kernel) (by decide +kernel)
theorem tw_470 : (Jvm.Cond.selects "Phrasehall$Phrase" ({ cls := "Phrasehall$Phrase", name := "isFull", desc := "()Z" } : Jvm.MethodName) ({ cls := "Phrasehall$Phrase", name := "isFull", desc := "()Z" } : Jvm.MethodName)) ∈ TW := tw_in 470 (by decide +kernel) (by decide +kernel)
theorem tw_471 : (Jvm.Cond.code ({ cls := "Phrasehall$Phrase", name := "isFull", desc := "()Z" } : Jvm.MethodName) prog_6_method_3_code (1 : Nat) (Option.some Jvm.ClassFile.FieldType.boolean)) ∈ TW := tw_in 471 (by decide +kernel) (by decide +kernel)
theorem tw_473 : (Jvm.Cond.methodLink "Phrasehall" (117 : Nat) ({ cls := "Phrasehall$Phrase", name := "addAction", desc := "(III)I" } : Jvm.MethodName)) ∈ TW := tw_in 473 (by decide +kernel) (by decide +kernel)
theorem tw_474 : (Jvm.Cond.instanceMethod ({ cls := "Phrasehall$Phrase", name := "addAction", desc := "(III)I" } : Jvm.MethodName)) ∈ TW := tw_in 474 (by decide +kernel) (by decide +kernel)
theorem tw_475 : (Jvm.Cond.selects "Phrasehall$Phrase" ({ cls := "Phrasehall$Phrase", name := "addAction", desc := "(III)I" } : Jvm.MethodName) ({ cls := "Phrasehall$Phrase", name := "addAction", desc := "(III)I" } : Jvm.MethodName)) ∈ TW := tw_in 475 (by decide +kernel) (by decide +kernel)
theorem tw_476 : (Jvm.Cond.code ({ cls := "Phrasehall$Phrase", name := "addAction", desc := "(III)I" } : Jvm.MethodName) prog_6_method_5_code (4 : Nat) (Option.some Jvm.ClassFile.FieldType.int)) ∈ TW := tw_in 476 (by decide +kernel) (by decide +kernel)
theorem tw_477 : (Jvm.Cond.methodLink "Phrasehall$Phrase" (42 : Nat) ({ cls := "Phrasehall$Phrase", name := "append", desc := "(IIIII)I" } : Jvm.MethodName)) ∈ TW := tw_in 477 (by decide +kernel) (by decide +kernel)
theorem tw_479 : (Jvm.Cond.instanceMethod ({ cls := "Phrasehall$Phrase", name := "append", desc := "(IIIII)I" } : Jvm.MethodName)) ∈ TW := tw_in 479 (by decide +kernel) (by decide +kernel)
theorem tw_480 : (Jvm.Cond.code ({ cls := "Phrasehall$Phrase", name := "append", desc := "(IIIII)I" } : Jvm.MethodName) prog_6_method_7_code (6 : Nat) (Option.some Jvm.ClassFile.FieldType.int)) ∈ TW := tw_in 480 (by decide +kernel) (by decide +kernel)
theorem tw_490 : (Jvm.Cond.methodLink "Phrasehall" (125 : Nat) ({ cls := "Phrasehall$Phrase", name := "addContact", desc := "(IIII)I" } : Jvm.MethodName)) ∈ TW := tw_in 490 (by decide +kernel) (by decide +kernel)
theorem tw_491 : (Jvm.Cond.instanceMethod ({ cls := "Phrasehall$Phrase", name := "addContact", desc := "(IIII)I" } : Jvm.MethodName)) ∈ TW := tw_in 491 (by decide +kernel) (by decide +kernel)
theorem tw_492 : (Jvm.Cond.selects "Phrasehall$Phrase" ({ cls := "Phrasehall$Phrase", name := "addContact", desc := "(IIII)I" } : Jvm.MethodName) ({ cls := "Phrasehall$Phrase", name := "addContact", desc := "(IIII)I" } : Jvm.MethodName)) ∈ TW := tw_in 492 (by decide +kernel) (by decide +kernel)
theorem tw_493 : (Jvm.Cond.code ({ cls := "Phrasehall$Phrase", name := "addContact", desc := "(IIII)I" } : Jvm.MethodName) prog_6_method_6_code (5 : Nat) (Option.some Jvm.ClassFile.FieldType.int)) ∈ TW := tw_in 493 (by decide +kernel) (by decide +kernel)
theorem tw_501 : (Jvm.Cond.methodLink "Phrasehall" (129 : Nat) ({ cls := "Phrasehall", name := "boutOnPiste", desc := "()LPhrasehall$Bout;" } : Jvm.MethodName)) ∈ TW := tw_in 501 (by decide +kernel) (by decide +kernel)
theorem tw_503 : (Jvm.Cond.instanceMethod ({ cls := "Phrasehall", name := "boutOnPiste", desc := "()LPhrasehall$Bout;" } : Jvm.MethodName)) ∈ TW := tw_in 503 (by decide +kernel) (by decide +kernel)
theorem tw_504 : (Jvm.Cond.code ({ cls := "Phrasehall", name := "boutOnPiste", desc := "()LPhrasehall$Bout;" } : Jvm.MethodName) prog_1_method_29_code (1 : Nat) (Option.some (Jvm.ClassFile.FieldType.object "Phrasehall$Bout"))) ∈ TW := tw_in 504 (by decide +kernel) (by decide +kernel)
theorem tw_506 : (Jvm.Cond.methodLink "Phrasehall" (136 : Nat) ({ cls := "Phrasehall$Bout", name := "isDoubleTooFar", desc := "()Z" } : Jvm.MethodName)) ∈ TW := tw_in 506 (by decide +kernel) (by decide +kernel)
theorem tw_507 : (Jvm.Cond.instanceMethod ({ cls := "Phrasehall$Bout", name := "isDoubleTooFar", desc := "()Z" } : Jvm.MethodName)) ∈ TW := tw_in 507 (by decide +kernel) (by decide +kernel)
theorem tw_508 : (Jvm.Cond.selects "Phrasehall$Bout" ({ cls := "Phrasehall$Bout", name := "isDoubleTooFar", desc := "()Z" } : Jvm.MethodName) ({ cls := "Phrasehall$Bout", name := "isDoubleTooFar", desc := "()Z" } : Jvm.MethodName)) ∈ TW := tw_in 508 (by decide +kernel) (by decide +kernel)
theorem tw_509 : (Jvm.Cond.code ({ cls := "Phrasehall$Bout", name := "isDoubleTooFar", desc := "()Z" } : Jvm.MethodName) prog_2_method_9_code (1 : Nat) (Option.some Jvm.ClassFile.FieldType.boolean)) ∈ TW := tw_in 509 (by decide +kernel) (by decide +kernel)
theorem tw_510 : (Jvm.Cond.methodLink "Phrasehall" (140 : Nat) ({ cls := "Phrasehall", name := "judgeFor", desc := "(IZ)I" } : Jvm.MethodName)) ∈ TW := tw_in 510 (by decide +kernel) (by decide +kernel)
theorem tw_512 : (Jvm.Cond.instanceMethod ({ cls := "Phrasehall", name := "judgeFor", desc := "(IZ)I" } : Jvm.MethodName)) ∈ TW := tw_in 512 (by decide +kernel) (by decide +kernel)
theorem tw_513 : (Jvm.Cond.code ({ cls := "Phrasehall", name := "judgeFor", desc := "(IZ)I" } : Jvm.MethodName) prog_1_method_37_code (6 : Nat) (Option.some Jvm.ClassFile.FieldType.int)) ∈ TW := tw_in 513 (by decide +kernel) (by decide +kernel)
theorem tw_514 : (Jvm.Cond.methodLink "Phrasehall" (255 : Nat) ({ cls := "Phrasehall$Phrase", name := "registered", desc := "(II)I" } : Jvm.MethodName)) ∈ TW := tw_in 514 (by decide +kernel) (by decide +kernel)
theorem tw_515 : (Jvm.Cond.instanceMethod ({ cls := "Phrasehall$Phrase", name := "registered", desc := "(II)I" } : Jvm.MethodName)) ∈ TW := tw_in 515 (by decide +kernel) (by decide +kernel)
theorem tw_516 : (Jvm.Cond.selects "Phrasehall$Phrase" ({ cls := "Phrasehall$Phrase", name := "registered", desc := "(II)I" } : Jvm.MethodName) ({ cls := "Phrasehall$Phrase", name := "registered", desc := "(II)I" } : Jvm.MethodName)) ∈ TW := tw_in 516 (by decide +kernel) (by decide +kernel)
theorem tw_517 : (Jvm.Cond.code ({ cls := "Phrasehall$Phrase", name := "registered", desc := "(II)I" } : Jvm.MethodName) prog_6_method_11_code (5 : Nat) (Option.some Jvm.ClassFile.FieldType.int)) ∈ TW := tw_in 517 (by decide +kernel) (by decide +kernel)
theorem tw_518 : (Jvm.Cond.methodLink "Phrasehall$Phrase" (50 : Nat) ({ cls := "Phrasehall$Phrase", name := "couldRegister", desc := "(II)Z" } : Jvm.MethodName)) ∈ TW := tw_in 518 (by decide +kernel) (by decide +kernel)
theorem tw_520 : (Jvm.Cond.instanceMethod ({ cls := "Phrasehall$Phrase", name := "couldRegister", desc := "(II)Z" } : Jvm.MethodName)) ∈ TW := tw_in 520 (by decide +kernel) (by decide +kernel)
theorem tw_521 : (Jvm.Cond.code ({ cls := "Phrasehall$Phrase", name := "couldRegister", desc := "(II)Z" } : Jvm.MethodName) prog_6_method_12_code (3 : Nat) (Option.some Jvm.ClassFile.FieldType.boolean)) ∈ TW := tw_in 521 (by decide +kernel) (by decide +kernel)
theorem tw_522 : (Jvm.Cond.methodLink "Phrasehall$Phrase" (57 : Nat) ({ cls := "Phrasehall$Phrase", name := "leastSpan", desc := "(I)I" } : Jvm.MethodName)) ∈ TW := tw_in 522 (by decide +kernel) (by decide +kernel)
theorem tw_523 : (Jvm.Cond.static ({ cls := "Phrasehall$Phrase", name := "leastSpan", desc := "(I)I" } : Jvm.MethodName)) ∈ TW := tw_in 523 (by decide +kernel) (by decide +kernel)
theorem tw_524 : (Jvm.Cond.code ({ cls := "Phrasehall$Phrase", name := "leastSpan", desc := "(I)I" } : Jvm.MethodName) prog_6_method_13_code (1 : Nat) (Option.some Jvm.ClassFile.FieldType.int)) ∈ TW := tw_in 524 (by decide +kernel) (by decide +kernel)
theorem tw_525 : (Jvm.Cond.methodLink "Phrasehall$Phrase" (54 : Nat) ({ cls := "Phrasehall$Phrase", name := "lockout", desc := "(I)I" } : Jvm.MethodName)) ∈ TW := tw_in 525 (by decide +kernel) (by decide +kernel)
theorem tw_526 : (Jvm.Cond.static ({ cls := "Phrasehall$Phrase", name := "lockout", desc := "(I)I" } : Jvm.MethodName)) ∈ TW := tw_in 526 (by decide +kernel) (by decide +kernel)
theorem tw_527 : (Jvm.Cond.code ({ cls := "Phrasehall$Phrase", name := "lockout", desc := "(I)I" } : Jvm.MethodName) prog_6_method_14_code (1 : Nat) (Option.some Jvm.ClassFile.FieldType.int)) ∈ TW := tw_in 527 (by decide +kernel) (by decide +kernel)
theorem tw_528 : (Jvm.Cond.methodLink "Phrasehall" (323 : Nat) ({ cls := "Phrasehall", name := "because", desc := "(II)I" } : Jvm.MethodName)) ∈ TW := tw_in 528 (by decide +kernel) (by decide +kernel)
theorem tw_530 : (Jvm.Cond.instanceMethod ({ cls := "Phrasehall", name := "because", desc := "(II)I" } : Jvm.MethodName)) ∈ TW := tw_in 530 (by decide +kernel) (by decide +kernel)
theorem tw_531 : (Jvm.Cond.code ({ cls := "Phrasehall", name := "because", desc := "(II)I" } : Jvm.MethodName) prog_1_method_36_code (3 : Nat) (Option.some Jvm.ClassFile.FieldType.int)) ∈ TW := tw_in 531 (by decide +kernel) (by decide +kernel)
theorem tw_532 : (Jvm.Cond.methodLink "Phrasehall" (258 : Nat) ({ cls := "Phrasehall$Phrase", name := "targetAt", desc := "(I)I" } : Jvm.MethodName)) ∈ TW := tw_in 532 (by decide +kernel) (by decide +kernel)
theorem tw_533 : (Jvm.Cond.instanceMethod ({ cls := "Phrasehall$Phrase", name := "targetAt", desc := "(I)I" } : Jvm.MethodName)) ∈ TW := tw_in 533 (by decide +kernel) (by decide +kernel)
theorem tw_534 : (Jvm.Cond.selects "Phrasehall$Phrase" ({ cls := "Phrasehall$Phrase", name := "targetAt", desc := "(I)I" } : Jvm.MethodName) ({ cls := "Phrasehall$Phrase", name := "targetAt", desc := "(I)I" } : Jvm.MethodName)) ∈ TW := tw_in 534 (by decide +kernel) (by decide +kernel)
theorem tw_535 : (Jvm.Cond.code ({ cls := "Phrasehall$Phrase", name := "targetAt", desc := "(I)I" } : Jvm.MethodName) prog_6_method_10_code (2 : Nat) (Option.some Jvm.ClassFile.FieldType.int)) ∈ TW := tw_in 535 (by decide +kernel) (by decide +kernel)
theorem tw_536 : (Jvm.Cond.methodLink "Phrasehall" (326 : Nat) ({ cls := "Phrasehall", name := "bitOf", desc := "(I)I" } : Jvm.MethodName)) ∈ TW := tw_in 536 (by decide +kernel) (by decide +kernel)
theorem tw_537 : (Jvm.Cond.static ({ cls := "Phrasehall", name := "bitOf", desc := "(I)I" } : Jvm.MethodName)) ∈ TW := tw_in 537 (by decide +kernel) (by decide +kernel)
theorem tw_538 : (Jvm.Cond.code ({ cls := "Phrasehall", name := "bitOf", desc := "(I)I" } : Jvm.MethodName) prog_1_method_39_code (1 : Nat) (Option.some Jvm.ClassFile.FieldType.int)) ∈ TW := tw_in 538 (by decide +kernel) (by decide +kernel)
theorem tw_539 : (Jvm.Cond.methodLink "Phrasehall" (329 : Nat) ({ cls := "Phrasehall", name := "judgeByRight", desc := "(II)I" } : Jvm.MethodName)) ∈ TW := tw_in 539 (by decide +kernel) (by decide +kernel)
theorem tw_541 : (Jvm.Cond.instanceMethod ({ cls := "Phrasehall", name := "judgeByRight", desc := "(II)I" } : Jvm.MethodName)) ∈ TW := tw_in 541 (by decide +kernel) (by decide +kernel)
theorem tw_542 : (Jvm.Cond.code ({ cls := "Phrasehall", name := "judgeByRight", desc := "(II)I" } : Jvm.MethodName) prog_1_method_38_code (7 : Nat) (Option.some Jvm.ClassFile.FieldType.int)) ∈ TW := tw_in 542 (by decide +kernel) (by decide +kernel)
theorem tw_543 : (Jvm.Cond.methodLink "Phrasehall" (332 : Nat) ({ cls := "java/lang/Math", name := "max", desc := "(II)I" } : Jvm.MethodName)) ∈ TW := tw_in 543 (by decide +kernel) (by decide +kernel)
theorem tw_544 : (Jvm.Cond.static ({ cls := "java/lang/Math", name := "max", desc := "(II)I" } : Jvm.MethodName)) ∈ TW := tw_in 544 (by decide +kernel) (by decide +kernel)
theorem tw_545 : (Jvm.Cond.code ({ cls := "java/lang/Math", name := "max", desc := "(II)I" } : Jvm.MethodName) prog_16_method_65_code (2 : Nat) (Option.some Jvm.ClassFile.FieldType.int)) ∈ TW := tw_in 545 (by decide +kernel) (by decide +kernel)
theorem tw_546 : (Jvm.Cond.methodLink "Phrasehall" (337 : Nat) ({ cls := "Phrasehall$Phrase", name := "timeAt", desc := "(I)I" } : Jvm.MethodName)) ∈ TW := tw_in 546 (by decide +kernel) (by decide +kernel)
theorem tw_547 : (Jvm.Cond.methodLink "Phrasehall" (144 : Nat) ({ cls := "Phrasehall$Bout", name := "giveTouches", desc := "(I)V" } : Jvm.MethodName)) ∈ TW := tw_in 547 (by decide +kernel) (by decide +kernel)
theorem tw_548 : (Jvm.Cond.instanceMethod ({ cls := "Phrasehall$Bout", name := "giveTouches", desc := "(I)V" } : Jvm.MethodName)) ∈ TW := tw_in 548 (by decide +kernel) (by decide +kernel)
theorem tw_549 : (Jvm.Cond.selects "Phrasehall$Bout" ({ cls := "Phrasehall$Bout", name := "giveTouches", desc := "(I)V" } : Jvm.MethodName) ({ cls := "Phrasehall$Bout", name := "giveTouches", desc := "(I)V" } : Jvm.MethodName)) ∈ TW := tw_in 549 (by decide +kernel) (by decide +kernel)
theorem tw_550 : (Jvm.Cond.code ({ cls := "Phrasehall$Bout", name := "giveTouches", desc := "(I)V" } : Jvm.MethodName) prog_2_method_10_code (2 : Nat) (Option.none : Option Jvm.ClassFile.FieldType)) ∈ TW := tw_in 550 (by decide +kernel) (by decide +kernel)
theorem tw_551 : (Jvm.Cond.methodLink "Phrasehall$Bout" (58 : Nat) ({ cls := "Phrasehall$Bout", name := "addTouches", desc := "(I)V" } : Jvm.MethodName)) ∈ TW := tw_in 551 (by decide +kernel) (by decide +kernel)
theorem tw_553 : (Jvm.Cond.instanceMethod ({ cls := "Phrasehall$Bout", name := "addTouches", desc := "(I)V" } : Jvm.MethodName)) ∈ TW := tw_in 553 (by decide +kernel) (by decide +kernel)
theorem tw_554 : (Jvm.Cond.code ({ cls := "Phrasehall$Bout", name := "addTouches", desc := "(I)V" } : Jvm.MethodName) prog_2_method_11_code (3 : Nat) (Option.none : Option Jvm.ClassFile.FieldType)) ∈ TW := tw_in 554 (by decide +kernel) (by decide +kernel)
theorem tw_555 : (Jvm.Cond.methodLink "Phrasehall$Bout" (54 : Nat) ({ cls := "Phrasehall$Bout", name := "isLike", desc := "()Z" } : Jvm.MethodName)) ∈ TW := tw_in 555 (by decide +kernel) (by decide +kernel)
theorem tw_557 : (Jvm.Cond.instanceMethod ({ cls := "Phrasehall$Bout", name := "isLike", desc := "()Z" } : Jvm.MethodName)) ∈ TW := tw_in 557 (by decide +kernel) (by decide +kernel)
theorem tw_558 : (Jvm.Cond.code ({ cls := "Phrasehall$Bout", name := "isLike", desc := "()Z" } : Jvm.MethodName) prog_2_method_6_code (1 : Nat) (Option.some Jvm.ClassFile.FieldType.boolean)) ∈ TW := tw_in 558 (by decide +kernel) (by decide +kernel)
theorem tw_559 : (Jvm.Cond.methodLink "Phrasehall$Bout" (61 : Nat) ({ cls := "Phrasehall$Bout", name := "leader", desc := "()I" } : Jvm.MethodName)) ∈ TW := tw_in 559 (by decide +kernel) (by decide +kernel)
theorem tw_560 : (Jvm.Cond.instanceMethod ({ cls := "Phrasehall$Bout", name := "leader", desc := "()I" } : Jvm.MethodName)) ∈ TW := tw_in 560 (by decide +kernel) (by decide +kernel)
theorem tw_561 : (Jvm.Cond.selects "Phrasehall$Bout" ({ cls := "Phrasehall$Bout", name := "leader", desc := "()I" } : Jvm.MethodName) ({ cls := "Phrasehall$Bout", name := "leader", desc := "()I" } : Jvm.MethodName)) ∈ TW := tw_in 561 (by decide +kernel) (by decide +kernel)
theorem tw_562 : (Jvm.Cond.code ({ cls := "Phrasehall$Bout", name := "leader", desc := "()I" } : Jvm.MethodName) prog_2_method_7_code (1 : Nat) (Option.some Jvm.ClassFile.FieldType.int)) ∈ TW := tw_in 562 (by decide +kernel) (by decide +kernel)
theorem tw_563 : (Jvm.Cond.methodLink "Phrasehall$Bout" (65 : Nat) ({ cls := "Phrasehall$Bout", name := "finish", desc := "(I)V" } : Jvm.MethodName)) ∈ TW := tw_in 563 (by decide +kernel) (by decide +kernel)
theorem tw_564 : (Jvm.Cond.instanceMethod ({ cls := "Phrasehall$Bout", name := "finish", desc := "(I)V" } : Jvm.MethodName)) ∈ TW := tw_in 564 (by decide +kernel) (by decide +kernel)
theorem tw_565 : (Jvm.Cond.selects "Phrasehall$Bout" ({ cls := "Phrasehall$Bout", name := "finish", desc := "(I)V" } : Jvm.MethodName) ({ cls := "Phrasehall$Bout", name := "finish", desc := "(I)V" } : Jvm.MethodName)) ∈ TW := tw_in 565 (by decide +kernel) (by decide +kernel)
theorem tw_566 : (Jvm.Cond.code ({ cls := "Phrasehall$Bout", name := "finish", desc := "(I)V" } : Jvm.MethodName) prog_2_method_8_code (2 : Nat) (Option.none : Option Jvm.ClassFile.FieldType)) ∈ TW := tw_in 566 (by decide +kernel) (by decide +kernel)
theorem tw_567 : (Jvm.Cond.methodLink "Phrasehall" (147 : Nat) ({ cls := "Phrasehall$Phrase", name := "empty", desc := "()V" } : Jvm.MethodName)) ∈ TW := tw_in 567 (by decide +kernel) (by decide +kernel)
theorem tw_568 : (Jvm.Cond.instanceMethod ({ cls := "Phrasehall$Phrase", name := "empty", desc := "()V" } : Jvm.MethodName)) ∈ TW := tw_in 568 (by decide +kernel) (by decide +kernel)
theorem tw_569 : (Jvm.Cond.selects "Phrasehall$Phrase" ({ cls := "Phrasehall$Phrase", name := "empty", desc := "()V" } : Jvm.MethodName) ({ cls := "Phrasehall$Phrase", name := "empty", desc := "()V" } : Jvm.MethodName)) ∈ TW := tw_in 569 (by decide +kernel) (by decide +kernel)
theorem tw_570 : (Jvm.Cond.code ({ cls := "Phrasehall$Phrase", name := "empty", desc := "()V" } : Jvm.MethodName) prog_6_method_2_code (1 : Nat) (Option.none : Option Jvm.ClassFile.FieldType)) ∈ TW := tw_in 570 (by decide +kernel) (by decide +kernel)
theorem tw_571 : (Jvm.Cond.methodLink "Phrasehall" (150 : Nat) ({ cls := "Phrasehall", name := "clearPisteIfOver", desc := "(LPhrasehall$Bout;)V" } : Jvm.MethodName)) ∈ TW := tw_in 571 (by decide +kernel) (by decide +kernel)
theorem tw_573 : (Jvm.Cond.instanceMethod ({ cls := "Phrasehall", name := "clearPisteIfOver", desc := "(LPhrasehall$Bout;)V" } : Jvm.MethodName)) ∈ TW := tw_in 573 (by decide +kernel) (by decide +kernel)
theorem tw_574 : (Jvm.Cond.code ({ cls := "Phrasehall", name := "clearPisteIfOver", desc := "(LPhrasehall$Bout;)V" } : Jvm.MethodName) prog_1_method_35_code (3 : Nat) (Option.none : Option Jvm.ClassFile.FieldType)) ∈ TW := tw_in 574 (by decide +kernel) (by decide +kernel)
theorem tw_575 : (Jvm.Cond.methodLink "Phrasehall" (162 : Nat) ({ cls := "Phrasehall$Bout", name := "isOver", desc := "()Z" } : Jvm.MethodName)) ∈ TW := tw_in 575 (by decide +kernel) (by decide +kernel)
theorem tw_576 : (Jvm.Cond.instanceMethod ({ cls := "Phrasehall$Bout", name := "isOver", desc := "()Z" } : Jvm.MethodName)) ∈ TW := tw_in 576 (by decide +kernel) (by decide +kernel)
theorem tw_577 : (Jvm.Cond.selects "Phrasehall$Bout" ({ cls := "Phrasehall$Bout", name := "isOver", desc := "()Z" } : Jvm.MethodName) ({ cls := "Phrasehall$Bout", name := "isOver", desc := "()Z" } : Jvm.MethodName)) ∈ TW := tw_in 577 (by decide +kernel) (by decide +kernel)
theorem tw_578 : (Jvm.Cond.code ({ cls := "Phrasehall$Bout", name := "isOver", desc := "()Z" } : Jvm.MethodName) prog_2_method_5_code (1 : Nat) (Option.some Jvm.ClassFile.FieldType.boolean)) ∈ TW := tw_in 578 (by decide +kernel) (by decide +kernel)
theorem tw_579 : (Jvm.Cond.methodLink "Phrasehall" (220 : Nat) ({ cls := "Phrasehall$Pool", name := "enter", desc := "(LPhrasehall$Bout;I)V" } : Jvm.MethodName)) ∈ TW := tw_in 579 (by decide +kernel) (by decide +kernel)
theorem tw_580 : (Jvm.Cond.instanceMethod ({ cls := "Phrasehall$Pool", name := "enter", desc := "(LPhrasehall$Bout;I)V" } : Jvm.MethodName)) ∈ TW := tw_in 580 (by decide +kernel) (by decide +kernel)
theorem tw_581 : (Jvm.Cond.selects "Phrasehall$Pool" ({ cls := "Phrasehall$Pool", name := "enter", desc := "(LPhrasehall$Bout;I)V" } : Jvm.MethodName) ({ cls := "Phrasehall$Pool", name := "enter", desc := "(LPhrasehall$Bout;I)V" } : Jvm.MethodName)) ∈ TW := tw_in 581 (by decide +kernel) (by decide +kernel)
theorem tw_582 : (Jvm.Cond.code ({ cls := "Phrasehall$Pool", name := "enter", desc := "(LPhrasehall$Bout;I)V" } : Jvm.MethodName) prog_7_method_7_code (4 : Nat) (Option.none : Option Jvm.ClassFile.FieldType)) ∈ TW := tw_in 582 (by decide +kernel) (by decide +kernel)
theorem tw_583 : (Jvm.Cond.methodLink "Phrasehall$Pool" (60 : Nat) ({ cls := "Phrasehall$Bout", name := "share", desc := "(II)I" } : Jvm.MethodName)) ∈ TW := tw_in 583 (by decide +kernel) (by decide +kernel)
theorem tw_584 : (Jvm.Cond.instanceMethod ({ cls := "Phrasehall$Bout", name := "share", desc := "(II)I" } : Jvm.MethodName)) ∈ TW := tw_in 584 (by decide +kernel) (by decide +kernel)
theorem tw_585 : (Jvm.Cond.selects "Phrasehall$Bout" ({ cls := "Phrasehall$Bout", name := "share", desc := "(II)I" } : Jvm.MethodName) ({ cls := "Phrasehall$Bout", name := "share", desc := "(II)I" } : Jvm.MethodName)) ∈ TW := tw_in 585 (by decide +kernel) (by decide +kernel)
theorem tw_586 : (Jvm.Cond.code ({ cls := "Phrasehall$Bout", name := "share", desc := "(II)I" } : Jvm.MethodName) prog_2_method_19_code (3 : Nat) (Option.some Jvm.ClassFile.FieldType.int)) ∈ TW := tw_in 586 (by decide +kernel) (by decide +kernel)
theorem tw_587 : (Jvm.Cond.methodLink "Phrasehall$Bout" (68 : Nat) ({ cls := "Phrasehall$Bout", name := "corner", desc := "(I)LPhrasehall$Corner;" } : Jvm.MethodName)) ∈ TW := tw_in 587 (by decide +kernel) (by decide +kernel)
theorem tw_589 : (Jvm.Cond.instanceMethod ({ cls := "Phrasehall$Bout", name := "corner", desc := "(I)LPhrasehall$Corner;" } : Jvm.MethodName)) ∈ TW := tw_in 589 (by decide +kernel) (by decide +kernel)
theorem tw_590 : (Jvm.Cond.code ({ cls := "Phrasehall$Bout", name := "corner", desc := "(I)LPhrasehall$Corner;" } : Jvm.MethodName) prog_2_method_2_code (2 : Nat) (Option.some (Jvm.ClassFile.FieldType.object "Phrasehall$Corner"))) ∈ TW := tw_in 590 (by decide +kernel) (by decide +kernel)
theorem tw_591 : (Jvm.Cond.methodLink "Phrasehall$Pool" (64 : Nat) ({ cls := "Phrasehall$Pool", name := "addTo", desc := "(III)V" } : Jvm.MethodName)) ∈ TW := tw_in 591 (by decide +kernel) (by decide +kernel)
theorem tw_593 : (Jvm.Cond.instanceMethod ({ cls := "Phrasehall$Pool", name := "addTo", desc := "(III)V" } : Jvm.MethodName)) ∈ TW := tw_in 593 (by decide +kernel) (by decide +kernel)
theorem tw_595 : (Jvm.Cond.code ({ cls := "Phrasehall$Pool", name := "addTo", desc := "(III)V" } : Jvm.MethodName) prog_7_method_8_code (5 : Nat) (Option.none : Option Jvm.ClassFile.FieldType)) ∈ TW := tw_in 595 (by decide +kernel) (by decide +kernel)
theorem tw_604 : (Jvm.Cond.methodLink "Phrasehall" (156 : Nat) ({ cls := "Phrasehall$Bout", name := "giveCard", desc := "(II)I" } : Jvm.MethodName)) ∈ TW := tw_in 604 (by decide +kernel) (by decide +kernel)
theorem tw_605 : (Jvm.Cond.instanceMethod ({ cls := "Phrasehall$Bout", name := "giveCard", desc := "(II)I" } : Jvm.MethodName)) ∈ TW := tw_in 605 (by decide +kernel) (by decide +kernel)
theorem tw_606 : (Jvm.Cond.selects "Phrasehall$Bout" ({ cls := "Phrasehall$Bout", name := "giveCard", desc := "(II)I" } : Jvm.MethodName) ({ cls := "Phrasehall$Bout", name := "giveCard", desc := "(II)I" } : Jvm.MethodName)) ∈ TW := tw_in 606 (by decide +kernel) (by decide +kernel)
theorem tw_607 : (Jvm.Cond.code ({ cls := "Phrasehall$Bout", name := "giveCard", desc := "(II)I" } : Jvm.MethodName) prog_2_method_12_code (4 : Nat) (Option.some Jvm.ClassFile.FieldType.int)) ∈ TW := tw_in 607 (by decide +kernel) (by decide +kernel)
theorem tw_608 : (Jvm.Cond.methodLink "Phrasehall$Bout" (72 : Nat) ({ cls := "Phrasehall$Corner", name := "colourFor", desc := "(I)I" } : Jvm.MethodName)) ∈ TW := tw_in 608 (by decide +kernel) (by decide +kernel)
theorem tw_609 : (Jvm.Cond.instanceMethod ({ cls := "Phrasehall$Corner", name := "colourFor", desc := "(I)I" } : Jvm.MethodName)) ∈ TW := tw_in 609 (by decide +kernel) (by decide +kernel)
theorem tw_610 : (Jvm.Cond.selects "Phrasehall$Corner" ({ cls := "Phrasehall$Corner", name := "colourFor", desc := "(I)I" } : Jvm.MethodName) ({ cls := "Phrasehall$Corner", name := "colourFor", desc := "(I)I" } : Jvm.MethodName)) ∈ TW := tw_in 610 (by decide +kernel) (by decide +kernel)
theorem tw_611 : (Jvm.Cond.code ({ cls := "Phrasehall$Corner", name := "colourFor", desc := "(I)I" } : Jvm.MethodName) prog_4_method_2_code (2 : Nat) (Option.some Jvm.ClassFile.FieldType.int)) ∈ TW := tw_in 611 (by decide +kernel) (by decide +kernel)
theorem tw_612 : (Jvm.Cond.methodLink "Phrasehall$Bout" (76 : Nat) ({ cls := "Phrasehall$Corner", name := "note", desc := "(I)V" } : Jvm.MethodName)) ∈ TW := tw_in 612 (by decide +kernel) (by decide +kernel)
theorem tw_613 : (Jvm.Cond.instanceMethod ({ cls := "Phrasehall$Corner", name := "note", desc := "(I)V" } : Jvm.MethodName)) ∈ TW := tw_in 613 (by decide +kernel) (by decide +kernel)
theorem tw_614 : (Jvm.Cond.selects "Phrasehall$Corner" ({ cls := "Phrasehall$Corner", name := "note", desc := "(I)V" } : Jvm.MethodName) ({ cls := "Phrasehall$Corner", name := "note", desc := "(I)V" } : Jvm.MethodName)) ∈ TW := tw_in 614 (by decide +kernel) (by decide +kernel)
theorem tw_615 : (Jvm.Cond.code ({ cls := "Phrasehall$Corner", name := "note", desc := "(I)V" } : Jvm.MethodName) prog_4_method_3_code (2 : Nat) (Option.none : Option Jvm.ClassFile.FieldType)) ∈ TW := tw_in 615 (by decide +kernel) (by decide +kernel)
theorem tw_617 : (Jvm.Cond.methodLink "Phrasehall$Bout" (82 : Nat) ({ cls := "Phrasehall$Bout", name := "giveTouches", desc := "(I)V" } : Jvm.MethodName)) ∈ TW := tw_in 617 (by decide +kernel) (by decide +kernel)
theorem tw_626 : (Jvm.Cond.methodLink "Phrasehall" (165 : Nat) ({ cls := "Phrasehall$Bout", name := "passSecond", desc := "(LPhrasehall$Lot;)V" } : Jvm.MethodName)) ∈ TW := tw_in 626 (by decide +kernel) (by decide +kernel)
theorem tw_627 : (Jvm.Cond.instanceMethod ({ cls := "Phrasehall$Bout", name := "passSecond", desc := "(LPhrasehall$Lot;)V" } : Jvm.MethodName)) ∈ TW := tw_in 627 (by decide +kernel) (by decide +kernel)
theorem tw_628 : (Jvm.Cond.selects "Phrasehall$Bout" ({ cls := "Phrasehall$Bout", name := "passSecond", desc := "(LPhrasehall$Lot;)V" } : Jvm.MethodName) ({ cls := "Phrasehall$Bout", name := "passSecond", desc := "(LPhrasehall$Lot;)V" } : Jvm.MethodName)) ∈ TW := tw_in 628 (by decide +kernel) (by decide +kernel)
theorem tw_629 : (Jvm.Cond.code ({ cls := "Phrasehall$Bout", name := "passSecond", desc := "(LPhrasehall$Lot;)V" } : Jvm.MethodName) prog_2_method_13_code (2 : Nat) (Option.none : Option Jvm.ClassFile.FieldType)) ∈ TW := tw_in 629 (by decide +kernel) (by decide +kernel)
theorem tw_630 : (Jvm.Cond.methodLink "Phrasehall$Bout" (85 : Nat) ({ cls := "Phrasehall$Bout", name := "becomePassive", desc := "()V" } : Jvm.MethodName)) ∈ TW := tw_in 630 (by decide +kernel) (by decide +kernel)
theorem tw_632 : (Jvm.Cond.instanceMethod ({ cls := "Phrasehall$Bout", name := "becomePassive", desc := "()V" } : Jvm.MethodName)) ∈ TW := tw_in 632 (by decide +kernel) (by decide +kernel)
theorem tw_633 : (Jvm.Cond.code ({ cls := "Phrasehall$Bout", name := "becomePassive", desc := "()V" } : Jvm.MethodName) prog_2_method_14_code (1 : Nat) (Option.none : Option Jvm.ClassFile.FieldType)) ∈ TW := tw_in 633 (by decide +kernel) (by decide +kernel)
theorem tw_634 : (Jvm.Cond.methodLink "Phrasehall$Bout" (88 : Nat) ({ cls := "Phrasehall$Bout", name := "isOver", desc := "()Z" } : Jvm.MethodName)) ∈ TW := tw_in 634 (by decide +kernel) (by decide +kernel)
theorem tw_635 : (Jvm.Cond.methodLink "Phrasehall$Bout" (91 : Nat) ({ cls := "Phrasehall$Bout", name := "lookAtTime", desc := "(LPhrasehall$Lot;)V" } : Jvm.MethodName)) ∈ TW := tw_in 635 (by decide +kernel) (by decide +kernel)
theorem tw_637 : (Jvm.Cond.instanceMethod ({ cls := "Phrasehall$Bout", name := "lookAtTime", desc := "(LPhrasehall$Lot;)V" } : Jvm.MethodName)) ∈ TW := tw_in 637 (by decide +kernel) (by decide +kernel)
theorem tw_638 : (Jvm.Cond.code ({ cls := "Phrasehall$Bout", name := "lookAtTime", desc := "(LPhrasehall$Lot;)V" } : Jvm.MethodName) prog_2_method_15_code (2 : Nat) (Option.none : Option Jvm.ClassFile.FieldType)) ∈ TW := tw_in 638 (by decide +kernel) (by decide +kernel)
theorem tw_639 : (Jvm.Cond.methodLink "Phrasehall$Bout" (95 : Nat) ({ cls := "Phrasehall$Bout", name := "timeLimit", desc := "()I" } : Jvm.MethodName)) ∈ TW := tw_in 639 (by decide +kernel) (by decide +kernel)
theorem tw_641 : (Jvm.Cond.instanceMethod ({ cls := "Phrasehall$Bout", name := "timeLimit", desc := "()I" } : Jvm.MethodName)) ∈ TW := tw_in 641 (by decide +kernel) (by decide +kernel)
theorem tw_642 : (Jvm.Cond.code ({ cls := "Phrasehall$Bout", name := "timeLimit", desc := "()I" } : Jvm.MethodName) prog_2_method_16_code (1 : Nat) (Option.some Jvm.ClassFile.FieldType.int)) ∈ TW := tw_in 642 (by decide +kernel) (by decide +kernel)
theorem tw_643 : (Jvm.Cond.methodLink "Phrasehall$Bout" (98 : Nat) ({ cls := "Phrasehall$Lot", name := "draw", desc := "()I" } : Jvm.MethodName)) ∈ TW := tw_in 643 (by decide +kernel) (by decide +kernel)
theorem tw_644 : (Jvm.Cond.instanceMethod ({ cls := "Phrasehall$Lot", name := "draw", desc := "()I" } : Jvm.MethodName)) ∈ TW := tw_in 644 (by decide +kernel) (by decide +kernel)
theorem tw_645 : (Jvm.Cond.selects "Phrasehall$Lot" ({ cls := "Phrasehall$Lot", name := "draw", desc := "()I" } : Jvm.MethodName) ({ cls := "Phrasehall$Lot", name := "draw", desc := "()I" } : Jvm.MethodName)) ∈ TW := tw_in 645 (by decide +kernel) (by decide +kernel)
theorem tw_646 : (Jvm.Cond.code ({ cls := "Phrasehall$Lot", name := "draw", desc := "()I" } : Jvm.MethodName) prog_5_method_2_code (1 : Nat) (Option.some Jvm.ClassFile.FieldType.int)) ∈ TW := tw_in 646 (by decide +kernel) (by decide +kernel)
theorem tw_647 : (Jvm.Cond.constantLong "Phrasehall$Lot" (13 : Nat) (1103515245 : Int64)) ∈ TW := tw_in 647 (by decide +kernel) (by decide +kernel)
theorem tw_648 : (Jvm.Cond.constantLong "Phrasehall$Lot" (15 : Nat) (12345 : Int64)) ∈ TW := tw_in 648 (by decide +kernel) (by decide +kernel)
theorem tw_649 : (Jvm.Cond.constantLong "Phrasehall$Lot" (17 : Nat) (2147483648 : Int64)) ∈ TW := tw_in 649 (by decide +kernel) (by decide +kernel)
theorem tw_650 : (Jvm.Cond.constantLong "Phrasehall$Lot" (19 : Nat) (65536 : Int64)) ∈ TW := tw_in 650 (by decide +kernel) (by decide +kernel)
theorem tw_651 : (Jvm.Cond.constantLong "Phrasehall$Lot" (21 : Nat) (2 : Int64)) ∈ TW := tw_in 651 (by decide +kernel) (by decide +kernel)
theorem tw_652 : (Jvm.Cond.methodLink "Phrasehall" (169 : Nat) ({ cls := "Phrasehall$Bout", name := "secondsLeft", desc := "()I" } : Jvm.MethodName)) ∈ TW := tw_in 652 (by decide +kernel) (by decide +kernel)
theorem tw_653 : (Jvm.Cond.instanceMethod ({ cls := "Phrasehall$Bout", name := "secondsLeft", desc := "()I" } : Jvm.MethodName)) ∈ TW := tw_in 653 (by decide +kernel) (by decide +kernel)
theorem tw_654 : (Jvm.Cond.selects "Phrasehall$Bout" ({ cls := "Phrasehall$Bout", name := "secondsLeft", desc := "()I" } : Jvm.MethodName) ({ cls := "Phrasehall$Bout", name := "secondsLeft", desc := "()I" } : Jvm.MethodName)) ∈ TW := tw_in 654 (by decide +kernel) (by decide +kernel)
theorem tw_655 : (Jvm.Cond.code ({ cls := "Phrasehall$Bout", name := "secondsLeft", desc := "()I" } : Jvm.MethodName) prog_2_method_17_code (1 : Nat) (Option.some Jvm.ClassFile.FieldType.int)) ∈ TW := tw_in 655 (by decide +kernel) (by decide +kernel)
theorem tw_663 : (Jvm.Cond.methodLink "Phrasehall" (173 : Nat) ({ cls := "Phrasehall$Bout", name := "leader", desc := "()I" } : Jvm.MethodName)) ∈ TW := tw_in 663 (by decide +kernel) (by decide +kernel)
theorem tw_664 : (Jvm.Cond.methodLink "Phrasehall" (176 : Nat) ({ cls := "Phrasehall$Bout", name := "finish", desc := "(I)V" } : Jvm.MethodName)) ∈ TW := tw_in 664 (by decide +kernel) (by decide +kernel)
theorem tw_680 : (Jvm.Cond.methodLink "Phrasehall" (188 : Nat) ({ cls := "java/lang/Integer", name := "bitCount", desc := "(I)I" } : Jvm.MethodName)) ∈ TW := tw_in 680 (by decide +kernel) (by decide +kernel)
theorem tw_681 : (Jvm.Cond.static ({ cls := "java/lang/Integer", name := "bitCount", desc := "(I)I" } : Jvm.MethodName)) ∈ TW := tw_in 681 (by decide +kernel) (by decide +kernel)
theorem tw_682 : (Jvm.Cond.code ({ cls := "java/lang/Integer", name := "bitCount", desc := "(I)I" } : Jvm.MethodName) prog_15_method_49_code (1 : Nat) (Option.some Jvm.ClassFile.FieldType.int)) ∈ TW := tw_in 682 (by decide +kernel) (by decide +kernel)
theorem tw_683 : (Jvm.Cond.constant "java/lang/Integer" (265 : Nat) (1431655765 : Int32)) ∈ TW := tw_in 683 (by decide +kernel) (by decide +kernel)
theorem tw_684 : (Jvm.Cond.constant "java/lang/Integer" (266 : Nat) (858993459 : Int32)) ∈ TW := tw_in 684 (by decide +kernel) (by decide +kernel)
theorem tw_685 : (Jvm.Cond.constant "java/lang/Integer" (267 : Nat) (252645135 : Int32)) ∈ TW := tw_in 685 (by decide +kernel) (by decide +kernel)
theorem tw_692 : (Jvm.Cond.fieldLink "Phrasehall$Pool" (22 : Nat) "Phrasehall$Pool" "number" "I") ∈ TW := tw_in 692 (by decide +kernel) (by decide +kernel)
theorem tw_694 : (Jvm.Cond.fieldLink "Phrasehall$Pool" (25 : Nat) "Phrasehall$Pool" "members" "I") ∈ TW := tw_in 694 (by decide +kernel) (by decide +kernel)
theorem tw_695 : (Jvm.Cond.fieldLink "Phrasehall$Pool" (11 : Nat) "Phrasehall$Pool" "table" "[I") ∈ TW := tw_in 695 (by decide +kernel) (by decide +kernel)
theorem tw_696 : (Jvm.Cond.fieldLink "Phrasehall$Pool" (15 : Nat) "Phrasehall$Pool" "ranking" "[I") ∈ TW := tw_in 696 (by decide +kernel) (by decide +kernel)
theorem tw_697 : (Jvm.Cond.fieldLink "Phrasehall$Pool" (18 : Nat) "Phrasehall$Pool" "withdrawn" "I") ∈ TW := tw_in 697 (by decide +kernel) (by decide +kernel)
theorem tw_698 : (Jvm.Cond.laysFinal "Phrasehall$Pool" "Phrasehall$Pool" "number" "I") ∈ TW := tw_in 698 (by decide +kernel) (by decide +kernel)
theorem tw_700 : (Jvm.Cond.laysFinal "Phrasehall$Pool" "Phrasehall$Pool" "members" "I") ∈ TW := tw_in 700 (by decide +kernel) (by decide +kernel)
theorem tw_702 : (Jvm.Cond.laysFinal "Phrasehall$Pool" "Phrasehall$Pool" "table" "[I") ∈ TW := tw_in 702 (by decide +kernel) (by decide +kernel)
theorem tw_704 : (Jvm.Cond.laysFinal "Phrasehall$Pool" "Phrasehall$Pool" "ranking" "[I") ∈ TW := tw_in 704 (by decide +kernel) (by decide +kernel)
theorem tw_706 : (Jvm.Cond.lays "Phrasehall$Pool" "Phrasehall$Pool" "withdrawn" "I") ∈ TW := tw_in 706 (by decide +kernel) (by decide +kernel)
theorem tw_716 : (Jvm.Cond.methodLink "Phrasehall" (201 : Nat) ({ cls := "Phrasehall", name := "poolWith", desc := "(II)LPhrasehall$Pool;" } : Jvm.MethodName)) ∈ TW := tw_in 716 (by decide +kernel) (by decide +kernel)
theorem tw_718 : (Jvm.Cond.instanceMethod ({ cls := "Phrasehall", name := "poolWith", desc := "(II)LPhrasehall$Pool;" } : Jvm.MethodName)) ∈ TW := tw_in 718 (by decide +kernel) (by decide +kernel)
theorem tw_719 : (Jvm.Cond.code ({ cls := "Phrasehall", name := "poolWith", desc := "(II)LPhrasehall$Pool;" } : Jvm.MethodName) prog_1_method_28_code (4 : Nat) (Option.some (Jvm.ClassFile.FieldType.object "Phrasehall$Pool"))) ∈ TW := tw_in 719 (by decide +kernel) (by decide +kernel)
theorem tw_721 : (Jvm.Cond.methodLink "Phrasehall" (205 : Nat) ({ cls := "Phrasehall", name := "isBusyFor", desc := "(LPhrasehall$Pool;I)Z" } : Jvm.MethodName)) ∈ TW := tw_in 721 (by decide +kernel) (by decide +kernel)
theorem tw_723 : (Jvm.Cond.instanceMethod ({ cls := "Phrasehall", name := "isBusyFor", desc := "(LPhrasehall$Pool;I)Z" } : Jvm.MethodName)) ∈ TW := tw_in 723 (by decide +kernel) (by decide +kernel)
theorem tw_724 : (Jvm.Cond.code ({ cls := "Phrasehall", name := "isBusyFor", desc := "(LPhrasehall$Pool;I)Z" } : Jvm.MethodName) prog_1_method_33_code (3 : Nat) (Option.some Jvm.ClassFile.FieldType.boolean)) ∈ TW := tw_in 724 (by decide +kernel) (by decide +kernel)
theorem tw_725 : (Jvm.Cond.methodLink "Phrasehall" (215 : Nat) ({ cls := "Phrasehall$Bout", name := "has", desc := "(I)Z" } : Jvm.MethodName)) ∈ TW := tw_in 725 (by decide +kernel) (by decide +kernel)
theorem tw_726 : (Jvm.Cond.instanceMethod ({ cls := "Phrasehall$Bout", name := "has", desc := "(I)Z" } : Jvm.MethodName)) ∈ TW := tw_in 726 (by decide +kernel) (by decide +kernel)
theorem tw_727 : (Jvm.Cond.selects "Phrasehall$Bout" ({ cls := "Phrasehall$Bout", name := "has", desc := "(I)Z" } : Jvm.MethodName) ({ cls := "Phrasehall$Bout", name := "has", desc := "(I)Z" } : Jvm.MethodName)) ∈ TW := tw_in 727 (by decide +kernel) (by decide +kernel)
theorem tw_728 : (Jvm.Cond.code ({ cls := "Phrasehall$Bout", name := "has", desc := "(I)Z" } : Jvm.MethodName) prog_2_method_3_code (2 : Nat) (Option.some Jvm.ClassFile.FieldType.boolean)) ∈ TW := tw_in 728 (by decide +kernel) (by decide +kernel)
theorem tw_730 : (Jvm.Cond.methodLink "Phrasehall" (211 : Nat) ({ cls := "Phrasehall", name := "boutAt", desc := "(I)LPhrasehall$Bout;" } : Jvm.MethodName)) ∈ TW := tw_in 730 (by decide +kernel) (by decide +kernel)
theorem tw_732 : (Jvm.Cond.instanceMethod ({ cls := "Phrasehall", name := "boutAt", desc := "(I)LPhrasehall$Bout;" } : Jvm.MethodName)) ∈ TW := tw_in 732 (by decide +kernel) (by decide +kernel)
theorem tw_733 : (Jvm.Cond.code ({ cls := "Phrasehall", name := "boutAt", desc := "(I)LPhrasehall$Bout;" } : Jvm.MethodName) prog_1_method_26_code (2 : Nat) (Option.some (Jvm.ClassFile.FieldType.object "Phrasehall$Bout"))) ∈ TW := tw_in 733 (by decide +kernel) (by decide +kernel)
theorem tw_734 : (Jvm.Cond.methodLink "Phrasehall" (216 : Nat) ({ cls := "Phrasehall$Pool", name := "counts", desc := "(LPhrasehall$Bout;)Z" } : Jvm.MethodName)) ∈ TW := tw_in 734 (by decide +kernel) (by decide +kernel)
theorem tw_735 : (Jvm.Cond.instanceMethod ({ cls := "Phrasehall$Pool", name := "counts", desc := "(LPhrasehall$Bout;)Z" } : Jvm.MethodName)) ∈ TW := tw_in 735 (by decide +kernel) (by decide +kernel)
theorem tw_736 : (Jvm.Cond.selects "Phrasehall$Pool" ({ cls := "Phrasehall$Pool", name := "counts", desc := "(LPhrasehall$Bout;)Z" } : Jvm.MethodName) ({ cls := "Phrasehall$Pool", name := "counts", desc := "(LPhrasehall$Bout;)Z" } : Jvm.MethodName)) ∈ TW := tw_in 736 (by decide +kernel) (by decide +kernel)
theorem tw_737 : (Jvm.Cond.code ({ cls := "Phrasehall$Pool", name := "counts", desc := "(LPhrasehall$Bout;)Z" } : Jvm.MethodName) prog_7_method_6_code (2 : Nat) (Option.some Jvm.ClassFile.FieldType.boolean)) ∈ TW := tw_in 737 (by decide +kernel) (by decide +kernel)
theorem tw_738 : (Jvm.Cond.methodLink "Phrasehall$Pool" (41 : Nat) ({ cls := "Phrasehall$Bout", name := "isOver", desc := "()Z" } : Jvm.MethodName)) ∈ TW := tw_in 738 (by decide +kernel) (by decide +kernel)
theorem tw_739 : (Jvm.Cond.methodLink "Phrasehall$Pool" (54 : Nat) ({ cls := "Phrasehall$Pool", name := "isWithdrawn", desc := "(I)Z" } : Jvm.MethodName)) ∈ TW := tw_in 739 (by decide +kernel) (by decide +kernel)
theorem tw_740 : (Jvm.Cond.methodLink "Phrasehall" (224 : Nat) ({ cls := "Phrasehall$Pool", name := "markWithdrawn", desc := "(I)V" } : Jvm.MethodName)) ∈ TW := tw_in 740 (by decide +kernel) (by decide +kernel)
theorem tw_741 : (Jvm.Cond.instanceMethod ({ cls := "Phrasehall$Pool", name := "markWithdrawn", desc := "(I)V" } : Jvm.MethodName)) ∈ TW := tw_in 741 (by decide +kernel) (by decide +kernel)
theorem tw_742 : (Jvm.Cond.selects "Phrasehall$Pool" ({ cls := "Phrasehall$Pool", name := "markWithdrawn", desc := "(I)V" } : Jvm.MethodName) ({ cls := "Phrasehall$Pool", name := "markWithdrawn", desc := "(I)V" } : Jvm.MethodName)) ∈ TW := tw_in 742 (by decide +kernel) (by decide +kernel)
theorem tw_743 : (Jvm.Cond.code ({ cls := "Phrasehall$Pool", name := "markWithdrawn", desc := "(I)V" } : Jvm.MethodName) prog_7_method_5_code (2 : Nat) (Option.none : Option Jvm.ClassFile.FieldType)) ∈ TW := tw_in 743 (by decide +kernel) (by decide +kernel)
theorem tw_744 : (Jvm.Cond.methodLink "Phrasehall$Pool" (32 : Nat) ({ cls := "Phrasehall$Pool", name := "has", desc := "(I)Z" } : Jvm.MethodName)) ∈ TW := tw_in 744 (by decide +kernel) (by decide +kernel)
theorem tw_753 : (Jvm.Cond.methodLink "Phrasehall" (229 : Nat) ({ cls := "Phrasehall$Pool", name := "rankedCount", desc := "()I" } : Jvm.MethodName)) ∈ TW := tw_in 753 (by decide +kernel) (by decide +kernel)
theorem tw_754 : (Jvm.Cond.instanceMethod ({ cls := "Phrasehall$Pool", name := "rankedCount", desc := "()I" } : Jvm.MethodName)) ∈ TW := tw_in 754 (by decide +kernel) (by decide +kernel)
theorem tw_755 : (Jvm.Cond.selects "Phrasehall$Pool" ({ cls := "Phrasehall$Pool", name := "rankedCount", desc := "()I" } : Jvm.MethodName) ({ cls := "Phrasehall$Pool", name := "rankedCount", desc := "()I" } : Jvm.MethodName)) ∈ TW := tw_in 755 (by decide +kernel) (by decide +kernel)
theorem tw_756 : (Jvm.Cond.code ({ cls := "Phrasehall$Pool", name := "rankedCount", desc := "()I" } : Jvm.MethodName) prog_7_method_11_code (1 : Nat) (Option.some Jvm.ClassFile.FieldType.int)) ∈ TW := tw_in 756 (by decide +kernel) (by decide +kernel)
theorem tw_757 : (Jvm.Cond.methodLink "Phrasehall$Pool" (68 : Nat) ({ cls := "java/lang/Integer", name := "bitCount", desc := "(I)I" } : Jvm.MethodName)) ∈ TW := tw_in 757 (by decide +kernel) (by decide +kernel)
theorem tw_759 : (Jvm.Cond.methodLink "Phrasehall" (234 : Nat) ({ cls := "Phrasehall$Bracket", name := "makeFrom", desc := "(LPhrasehall$Pool;)V" } : Jvm.MethodName)) ∈ TW := tw_in 759 (by decide +kernel) (by decide +kernel)
theorem tw_760 : (Jvm.Cond.instanceMethod ({ cls := "Phrasehall$Bracket", name := "makeFrom", desc := "(LPhrasehall$Pool;)V" } : Jvm.MethodName)) ∈ TW := tw_in 760 (by decide +kernel) (by decide +kernel)
theorem tw_761 : (Jvm.Cond.selects "Phrasehall$Bracket" ({ cls := "Phrasehall$Bracket", name := "makeFrom", desc := "(LPhrasehall$Pool;)V" } : Jvm.MethodName) ({ cls := "Phrasehall$Bracket", name := "makeFrom", desc := "(LPhrasehall$Pool;)V" } : Jvm.MethodName)) ∈ TW := tw_in 761 (by decide +kernel) (by decide +kernel)
theorem tw_762 : (Jvm.Cond.code ({ cls := "Phrasehall$Bracket", name := "makeFrom", desc := "(LPhrasehall$Pool;)V" } : Jvm.MethodName) prog_3_method_2_code (3 : Nat) (Option.none : Option Jvm.ClassFile.FieldType)) ∈ TW := tw_in 762 (by decide +kernel) (by decide +kernel)
theorem tw_763 : (Jvm.Cond.methodLink "Phrasehall$Bracket" (22 : Nat) ({ cls := "Phrasehall$Pool", name := "orderRanked", desc := "()V" } : Jvm.MethodName)) ∈ TW := tw_in 763 (by decide +kernel) (by decide +kernel)
theorem tw_764 : (Jvm.Cond.instanceMethod ({ cls := "Phrasehall$Pool", name := "orderRanked", desc := "()V" } : Jvm.MethodName)) ∈ TW := tw_in 764 (by decide +kernel) (by decide +kernel)
theorem tw_765 : (Jvm.Cond.selects "Phrasehall$Pool" ({ cls := "Phrasehall$Pool", name := "orderRanked", desc := "()V" } : Jvm.MethodName) ({ cls := "Phrasehall$Pool", name := "orderRanked", desc := "()V" } : Jvm.MethodName)) ∈ TW := tw_in 765 (by decide +kernel) (by decide +kernel)
theorem tw_766 : (Jvm.Cond.code ({ cls := "Phrasehall$Pool", name := "orderRanked", desc := "()V" } : Jvm.MethodName) prog_7_method_12_code (3 : Nat) (Option.none : Option Jvm.ClassFile.FieldType)) ∈ TW := tw_in 766 (by decide +kernel) (by decide +kernel)
theorem tw_767 : (Jvm.Cond.methodLink "Phrasehall$Pool" (74 : Nat) ({ cls := "Phrasehall$Pool", name := "isRanked", desc := "(I)Z" } : Jvm.MethodName)) ∈ TW := tw_in 767 (by decide +kernel) (by decide +kernel)
theorem tw_769 : (Jvm.Cond.instanceMethod ({ cls := "Phrasehall$Pool", name := "isRanked", desc := "(I)Z" } : Jvm.MethodName)) ∈ TW := tw_in 769 (by decide +kernel) (by decide +kernel)
theorem tw_770 : (Jvm.Cond.code ({ cls := "Phrasehall$Pool", name := "isRanked", desc := "(I)Z" } : Jvm.MethodName) prog_7_method_10_code (2 : Nat) (Option.some Jvm.ClassFile.FieldType.boolean)) ∈ TW := tw_in 770 (by decide +kernel) (by decide +kernel)
theorem tw_771 : (Jvm.Cond.methodLink "Phrasehall$Pool" (77 : Nat) ({ cls := "Phrasehall$Pool", name := "insert", desc := "(II)V" } : Jvm.MethodName)) ∈ TW := tw_in 771 (by decide +kernel) (by decide +kernel)
theorem tw_773 : (Jvm.Cond.instanceMethod ({ cls := "Phrasehall$Pool", name := "insert", desc := "(II)V" } : Jvm.MethodName)) ∈ TW := tw_in 773 (by decide +kernel) (by decide +kernel)
theorem tw_774 : (Jvm.Cond.code ({ cls := "Phrasehall$Pool", name := "insert", desc := "(II)V" } : Jvm.MethodName) prog_7_method_13_code (4 : Nat) (Option.none : Option Jvm.ClassFile.FieldType)) ∈ TW := tw_in 774 (by decide +kernel) (by decide +kernel)
theorem tw_775 : (Jvm.Cond.methodLink "Phrasehall$Pool" (81 : Nat) ({ cls := "Phrasehall$Pool", name := "isAhead", desc := "(II)Z" } : Jvm.MethodName)) ∈ TW := tw_in 775 (by decide +kernel) (by decide +kernel)
theorem tw_777 : (Jvm.Cond.instanceMethod ({ cls := "Phrasehall$Pool", name := "isAhead", desc := "(II)Z" } : Jvm.MethodName)) ∈ TW := tw_in 777 (by decide +kernel) (by decide +kernel)
theorem tw_778 : (Jvm.Cond.code ({ cls := "Phrasehall$Pool", name := "isAhead", desc := "(II)Z" } : Jvm.MethodName) prog_7_method_15_code (5 : Nat) (Option.some Jvm.ClassFile.FieldType.boolean)) ∈ TW := tw_in 778 (by decide +kernel) (by decide +kernel)
theorem tw_779 : (Jvm.Cond.methodLink "Phrasehall$Pool" (84 : Nat) ({ cls := "Phrasehall$Pool", name := "kept", desc := "(II)I" } : Jvm.MethodName)) ∈ TW := tw_in 779 (by decide +kernel) (by decide +kernel)
theorem tw_780 : (Jvm.Cond.instanceMethod ({ cls := "Phrasehall$Pool", name := "kept", desc := "(II)I" } : Jvm.MethodName)) ∈ TW := tw_in 780 (by decide +kernel) (by decide +kernel)
theorem tw_781 : (Jvm.Cond.selects "Phrasehall$Pool" ({ cls := "Phrasehall$Pool", name := "kept", desc := "(II)I" } : Jvm.MethodName) ({ cls := "Phrasehall$Pool", name := "kept", desc := "(II)I" } : Jvm.MethodName)) ∈ TW := tw_in 781 (by decide +kernel) (by decide +kernel)
theorem tw_782 : (Jvm.Cond.code ({ cls := "Phrasehall$Pool", name := "kept", desc := "(II)I" } : Jvm.MethodName) prog_7_method_9_code (4 : Nat) (Option.some Jvm.ClassFile.FieldType.int)) ∈ TW := tw_in 782 (by decide +kernel) (by decide +kernel)
theorem tw_783 : (Jvm.Cond.methodLink "Phrasehall$Pool" (87 : Nat) ({ cls := "java/lang/Math", name := "max", desc := "(II)I" } : Jvm.MethodName)) ∈ TW := tw_in 783 (by decide +kernel) (by decide +kernel)
theorem tw_784 : (Jvm.Cond.methodLink "Phrasehall$Pool" (92 : Nat) ({ cls := "Phrasehall$Pool", name := "balance", desc := "(I)I" } : Jvm.MethodName)) ∈ TW := tw_in 784 (by decide +kernel) (by decide +kernel)
theorem tw_786 : (Jvm.Cond.instanceMethod ({ cls := "Phrasehall$Pool", name := "balance", desc := "(I)I" } : Jvm.MethodName)) ∈ TW := tw_in 786 (by decide +kernel) (by decide +kernel)
theorem tw_787 : (Jvm.Cond.code ({ cls := "Phrasehall$Pool", name := "balance", desc := "(I)I" } : Jvm.MethodName) prog_7_method_16_code (2 : Nat) (Option.some Jvm.ClassFile.FieldType.int)) ∈ TW := tw_in 787 (by decide +kernel) (by decide +kernel)
theorem tw_788 : (Jvm.Cond.methodLink "Phrasehall$Bracket" (27 : Nat) ({ cls := "Phrasehall$Pool", name := "rankedCount", desc := "()I" } : Jvm.MethodName)) ∈ TW := tw_in 788 (by decide +kernel) (by decide +kernel)
theorem tw_789 : (Jvm.Cond.methodLink "Phrasehall$Bracket" (31 : Nat) ({ cls := "Phrasehall$Bracket", name := "leastPlaces", desc := "(I)I" } : Jvm.MethodName)) ∈ TW := tw_in 789 (by decide +kernel) (by decide +kernel)
theorem tw_790 : (Jvm.Cond.static ({ cls := "Phrasehall$Bracket", name := "leastPlaces", desc := "(I)I" } : Jvm.MethodName)) ∈ TW := tw_in 790 (by decide +kernel) (by decide +kernel)
theorem tw_791 : (Jvm.Cond.code ({ cls := "Phrasehall$Bracket", name := "leastPlaces", desc := "(I)I" } : Jvm.MethodName) prog_3_method_3_code (2 : Nat) (Option.some Jvm.ClassFile.FieldType.int)) ∈ TW := tw_in 791 (by decide +kernel) (by decide +kernel)
theorem tw_792 : (Jvm.Cond.methodLink "Phrasehall$Bracket" (35 : Nat) ({ cls := "Phrasehall$Bracket", name := "orderPlaces", desc := "(I)V" } : Jvm.MethodName)) ∈ TW := tw_in 792 (by decide +kernel) (by decide +kernel)
theorem tw_794 : (Jvm.Cond.instanceMethod ({ cls := "Phrasehall$Bracket", name := "orderPlaces", desc := "(I)V" } : Jvm.MethodName)) ∈ TW := tw_in 794 (by decide +kernel) (by decide +kernel)
theorem tw_795 : (Jvm.Cond.code ({ cls := "Phrasehall$Bracket", name := "orderPlaces", desc := "(I)V" } : Jvm.MethodName) prog_3_method_4_code (4 : Nat) (Option.none : Option Jvm.ClassFile.FieldType)) ∈ TW := tw_in 795 (by decide +kernel) (by decide +kernel)
theorem tw_796 : (Jvm.Cond.methodLink "Phrasehall$Bracket" (39 : Nat) ({ cls := "Phrasehall$Bracket", name := "put", desc := "(II)V" } : Jvm.MethodName)) ∈ TW := tw_in 796 (by decide +kernel) (by decide +kernel)
theorem tw_798 : (Jvm.Cond.instanceMethod ({ cls := "Phrasehall$Bracket", name := "put", desc := "(II)V" } : Jvm.MethodName)) ∈ TW := tw_in 798 (by decide +kernel) (by decide +kernel)
theorem tw_799 : (Jvm.Cond.code ({ cls := "Phrasehall$Bracket", name := "put", desc := "(II)V" } : Jvm.MethodName) prog_3_method_7_code (3 : Nat) (Option.none : Option Jvm.ClassFile.FieldType)) ∈ TW := tw_in 799 (by decide +kernel) (by decide +kernel)
theorem tw_800 : (Jvm.Cond.methodLink "Phrasehall$Bracket" (43 : Nat) ({ cls := "Phrasehall$Pool", name := "rankedAt", desc := "(I)I" } : Jvm.MethodName)) ∈ TW := tw_in 800 (by decide +kernel) (by decide +kernel)
theorem tw_801 : (Jvm.Cond.instanceMethod ({ cls := "Phrasehall$Pool", name := "rankedAt", desc := "(I)I" } : Jvm.MethodName)) ∈ TW := tw_in 801 (by decide +kernel) (by decide +kernel)
theorem tw_802 : (Jvm.Cond.selects "Phrasehall$Pool" ({ cls := "Phrasehall$Pool", name := "rankedAt", desc := "(I)I" } : Jvm.MethodName) ({ cls := "Phrasehall$Pool", name := "rankedAt", desc := "(I)I" } : Jvm.MethodName)) ∈ TW := tw_in 802 (by decide +kernel) (by decide +kernel)
theorem tw_803 : (Jvm.Cond.code ({ cls := "Phrasehall$Pool", name := "rankedAt", desc := "(I)I" } : Jvm.MethodName) prog_7_method_14_code (2 : Nat) (Option.some Jvm.ClassFile.FieldType.int)) ∈ TW := tw_in 803 (by decide +kernel) (by decide +kernel)
theorem tw_804 : (Jvm.Cond.methodLink "Phrasehall$Bracket" (46 : Nat) ({ cls := "Phrasehall$Bracket", name := "passBye", desc := "(I)V" } : Jvm.MethodName)) ∈ TW := tw_in 804 (by decide +kernel) (by decide +kernel)
theorem tw_806 : (Jvm.Cond.instanceMethod ({ cls := "Phrasehall$Bracket", name := "passBye", desc := "(I)V" } : Jvm.MethodName)) ∈ TW := tw_in 806 (by decide +kernel) (by decide +kernel)
theorem tw_807 : (Jvm.Cond.code ({ cls := "Phrasehall$Bracket", name := "passBye", desc := "(I)V" } : Jvm.MethodName) prog_3_method_5_code (4 : Nat) (Option.none : Option Jvm.ClassFile.FieldType)) ∈ TW := tw_in 807 (by decide +kernel) (by decide +kernel)
theorem tw_808 : (Jvm.Cond.methodLink "Phrasehall$Bracket" (49 : Nat) ({ cls := "Phrasehall$Bracket", name := "at", desc := "(I)I" } : Jvm.MethodName)) ∈ TW := tw_in 808 (by decide +kernel) (by decide +kernel)
theorem tw_810 : (Jvm.Cond.instanceMethod ({ cls := "Phrasehall$Bracket", name := "at", desc := "(I)I" } : Jvm.MethodName)) ∈ TW := tw_in 810 (by decide +kernel) (by decide +kernel)
theorem tw_811 : (Jvm.Cond.code ({ cls := "Phrasehall$Bracket", name := "at", desc := "(I)I" } : Jvm.MethodName) prog_3_method_6_code (2 : Nat) (Option.some Jvm.ClassFile.FieldType.int)) ∈ TW := tw_in 811 (by decide +kernel) (by decide +kernel)
theorem tw_819 : (Jvm.Cond.methodLink "Phrasehall" (241 : Nat) ({ cls := "Phrasehall", name := "checkMatch", desc := "(II)V" } : Jvm.MethodName)) ∈ TW := tw_in 819 (by decide +kernel) (by decide +kernel)
theorem tw_821 : (Jvm.Cond.instanceMethod ({ cls := "Phrasehall", name := "checkMatch", desc := "(II)V" } : Jvm.MethodName)) ∈ TW := tw_in 821 (by decide +kernel) (by decide +kernel)
theorem tw_822 : (Jvm.Cond.code ({ cls := "Phrasehall", name := "checkMatch", desc := "(II)V" } : Jvm.MethodName) prog_1_method_31_code (3 : Nat) (Option.none : Option Jvm.ClassFile.FieldType)) ∈ TW := tw_in 822 (by decide +kernel) (by decide +kernel)
theorem tw_823 : (Jvm.Cond.methodLink "Phrasehall" (312 : Nat) ({ cls := "Phrasehall$Bracket", name := "hasMatch", desc := "(II)Z" } : Jvm.MethodName)) ∈ TW := tw_in 823 (by decide +kernel) (by decide +kernel)
theorem tw_824 : (Jvm.Cond.instanceMethod ({ cls := "Phrasehall$Bracket", name := "hasMatch", desc := "(II)Z" } : Jvm.MethodName)) ∈ TW := tw_in 824 (by decide +kernel) (by decide +kernel)
theorem tw_825 : (Jvm.Cond.selects "Phrasehall$Bracket" ({ cls := "Phrasehall$Bracket", name := "hasMatch", desc := "(II)Z" } : Jvm.MethodName) ({ cls := "Phrasehall$Bracket", name := "hasMatch", desc := "(II)Z" } : Jvm.MethodName)) ∈ TW := tw_in 825 (by decide +kernel) (by decide +kernel)
theorem tw_826 : (Jvm.Cond.code ({ cls := "Phrasehall$Bracket", name := "hasMatch", desc := "(II)Z" } : Jvm.MethodName) prog_3_method_9_code (3 : Nat) (Option.some Jvm.ClassFile.FieldType.boolean)) ∈ TW := tw_in 826 (by decide +kernel) (by decide +kernel)
theorem tw_827 : (Jvm.Cond.methodLink "Phrasehall$Bracket" (52 : Nat) ({ cls := "Phrasehall$Bracket", name := "matchesIn", desc := "(I)I" } : Jvm.MethodName)) ∈ TW := tw_in 827 (by decide +kernel) (by decide +kernel)
theorem tw_829 : (Jvm.Cond.instanceMethod ({ cls := "Phrasehall$Bracket", name := "matchesIn", desc := "(I)I" } : Jvm.MethodName)) ∈ TW := tw_in 829 (by decide +kernel) (by decide +kernel)
theorem tw_830 : (Jvm.Cond.code ({ cls := "Phrasehall$Bracket", name := "matchesIn", desc := "(I)I" } : Jvm.MethodName) prog_3_method_8_code (2 : Nat) (Option.some Jvm.ClassFile.FieldType.int)) ∈ TW := tw_in 830 (by decide +kernel) (by decide +kernel)
theorem tw_833 : (Jvm.Cond.methodLink "Phrasehall" (246 : Nat) ({ cls := "Phrasehall$Bracket", name := "isOpen", desc := "(II)Z" } : Jvm.MethodName)) ∈ TW := tw_in 833 (by decide +kernel) (by decide +kernel)
theorem tw_834 : (Jvm.Cond.instanceMethod ({ cls := "Phrasehall$Bracket", name := "isOpen", desc := "(II)Z" } : Jvm.MethodName)) ∈ TW := tw_in 834 (by decide +kernel) (by decide +kernel)
theorem tw_835 : (Jvm.Cond.selects "Phrasehall$Bracket" ({ cls := "Phrasehall$Bracket", name := "isOpen", desc := "(II)Z" } : Jvm.MethodName) ({ cls := "Phrasehall$Bracket", name := "isOpen", desc := "(II)Z" } : Jvm.MethodName)) ∈ TW := tw_in 835 (by decide +kernel) (by decide +kernel)
theorem tw_836 : (Jvm.Cond.code ({ cls := "Phrasehall$Bracket", name := "isOpen", desc := "(II)Z" } : Jvm.MethodName) prog_3_method_13_code (4 : Nat) (Option.some Jvm.ClassFile.FieldType.boolean)) ∈ TW := tw_in 836 (by decide +kernel) (by decide +kernel)
theorem tw_837 : (Jvm.Cond.methodLink "Phrasehall$Bracket" (59 : Nat) ({ cls := "Phrasehall$Bracket", name := "fencerIn", desc := "(III)I" } : Jvm.MethodName)) ∈ TW := tw_in 837 (by decide +kernel) (by decide +kernel)
theorem tw_838 : (Jvm.Cond.instanceMethod ({ cls := "Phrasehall$Bracket", name := "fencerIn", desc := "(III)I" } : Jvm.MethodName)) ∈ TW := tw_in 838 (by decide +kernel) (by decide +kernel)
theorem tw_839 : (Jvm.Cond.selects "Phrasehall$Bracket" ({ cls := "Phrasehall$Bracket", name := "fencerIn", desc := "(III)I" } : Jvm.MethodName) ({ cls := "Phrasehall$Bracket", name := "fencerIn", desc := "(III)I" } : Jvm.MethodName)) ∈ TW := tw_in 839 (by decide +kernel) (by decide +kernel)
theorem tw_840 : (Jvm.Cond.code ({ cls := "Phrasehall$Bracket", name := "fencerIn", desc := "(III)I" } : Jvm.MethodName) prog_3_method_12_code (4 : Nat) (Option.some Jvm.ClassFile.FieldType.int)) ∈ TW := tw_in 840 (by decide +kernel) (by decide +kernel)
theorem tw_841 : (Jvm.Cond.methodLink "Phrasehall$Bracket" (55 : Nat) ({ cls := "Phrasehall$Bracket", name := "nodeOf", desc := "(II)I" } : Jvm.MethodName)) ∈ TW := tw_in 841 (by decide +kernel) (by decide +kernel)
theorem tw_843 : (Jvm.Cond.instanceMethod ({ cls := "Phrasehall$Bracket", name := "nodeOf", desc := "(II)I" } : Jvm.MethodName)) ∈ TW := tw_in 843 (by decide +kernel) (by decide +kernel)
theorem tw_844 : (Jvm.Cond.code ({ cls := "Phrasehall$Bracket", name := "nodeOf", desc := "(II)I" } : Jvm.MethodName) prog_3_method_10_code (3 : Nat) (Option.some Jvm.ClassFile.FieldType.int)) ∈ TW := tw_in 844 (by decide +kernel) (by decide +kernel)
theorem tw_845 : (Jvm.Cond.methodLink "Phrasehall$Bracket" (63 : Nat) ({ cls := "Phrasehall$Bracket", name := "winnerOf", desc := "(II)I" } : Jvm.MethodName)) ∈ TW := tw_in 845 (by decide +kernel) (by decide +kernel)
theorem tw_846 : (Jvm.Cond.instanceMethod ({ cls := "Phrasehall$Bracket", name := "winnerOf", desc := "(II)I" } : Jvm.MethodName)) ∈ TW := tw_in 846 (by decide +kernel) (by decide +kernel)
theorem tw_847 : (Jvm.Cond.selects "Phrasehall$Bracket" ({ cls := "Phrasehall$Bracket", name := "winnerOf", desc := "(II)I" } : Jvm.MethodName) ({ cls := "Phrasehall$Bracket", name := "winnerOf", desc := "(II)I" } : Jvm.MethodName)) ∈ TW := tw_in 847 (by decide +kernel) (by decide +kernel)
theorem tw_848 : (Jvm.Cond.code ({ cls := "Phrasehall$Bracket", name := "winnerOf", desc := "(II)I" } : Jvm.MethodName) prog_3_method_11_code (3 : Nat) (Option.some Jvm.ClassFile.FieldType.int)) ∈ TW := tw_in 848 (by decide +kernel) (by decide +kernel)
theorem tw_850 : (Jvm.Cond.methodLink "Phrasehall" (252 : Nat) ({ cls := "Phrasehall$Bracket", name := "settle", desc := "(III)I" } : Jvm.MethodName)) ∈ TW := tw_in 850 (by decide +kernel) (by decide +kernel)
theorem tw_851 : (Jvm.Cond.instanceMethod ({ cls := "Phrasehall$Bracket", name := "settle", desc := "(III)I" } : Jvm.MethodName)) ∈ TW := tw_in 851 (by decide +kernel) (by decide +kernel)
theorem tw_852 : (Jvm.Cond.selects "Phrasehall$Bracket" ({ cls := "Phrasehall$Bracket", name := "settle", desc := "(III)I" } : Jvm.MethodName) ({ cls := "Phrasehall$Bracket", name := "settle", desc := "(III)I" } : Jvm.MethodName)) ∈ TW := tw_in 852 (by decide +kernel) (by decide +kernel)
theorem tw_853 : (Jvm.Cond.code ({ cls := "Phrasehall$Bracket", name := "settle", desc := "(III)I" } : Jvm.MethodName) prog_3_method_14_code (5 : Nat) (Option.some Jvm.ClassFile.FieldType.int)) ∈ TW := tw_in 853 (by decide +kernel) (by decide +kernel)
theorem tw_870 : (Jvm.Cond.methodLink "Phrasehall" (271 : Nat) ({ cls := "Phrasehall$Bout", name := "told", desc := "(I)I" } : Jvm.MethodName)) ∈ TW := tw_in 870 (by decide +kernel) (by decide +kernel)
theorem tw_871 : (Jvm.Cond.instanceMethod ({ cls := "Phrasehall$Bout", name := "told", desc := "(I)I" } : Jvm.MethodName)) ∈ TW := tw_in 871 (by decide +kernel) (by decide +kernel)
theorem tw_872 : (Jvm.Cond.selects "Phrasehall$Bout" ({ cls := "Phrasehall$Bout", name := "told", desc := "(I)I" } : Jvm.MethodName) ({ cls := "Phrasehall$Bout", name := "told", desc := "(I)I" } : Jvm.MethodName)) ∈ TW := tw_in 872 (by decide +kernel) (by decide +kernel)
theorem tw_873 : (Jvm.Cond.code ({ cls := "Phrasehall$Bout", name := "told", desc := "(I)I" } : Jvm.MethodName) prog_2_method_18_code (2 : Nat) (Option.some Jvm.ClassFile.FieldType.int)) ∈ TW := tw_in 873 (by decide +kernel) (by decide +kernel)
theorem tw_881 : (Jvm.Cond.methodLink "Phrasehall" (274 : Nat) ({ cls := "Phrasehall", name := "checkOfPool", desc := "(I)V" } : Jvm.MethodName)) ∈ TW := tw_in 881 (by decide +kernel) (by decide +kernel)
theorem tw_882 : (Jvm.Cond.static ({ cls := "Phrasehall", name := "checkOfPool", desc := "(I)V" } : Jvm.MethodName)) ∈ TW := tw_in 882 (by decide +kernel) (by decide +kernel)
theorem tw_883 : (Jvm.Cond.code ({ cls := "Phrasehall", name := "checkOfPool", desc := "(I)V" } : Jvm.MethodName) prog_1_method_32_code (1 : Nat) (Option.none : Option Jvm.ClassFile.FieldType)) ∈ TW := tw_in 883 (by decide +kernel) (by decide +kernel)
theorem tw_884 : (Jvm.Cond.methodLink "Phrasehall" (277 : Nat) ({ cls := "Phrasehall$Pool", name := "kept", desc := "(II)I" } : Jvm.MethodName)) ∈ TW := tw_in 884 (by decide +kernel) (by decide +kernel)
theorem tw_892 : (Jvm.Cond.methodLink "Phrasehall" (280 : Nat) ({ cls := "Phrasehall$Bout", name := "sideOf", desc := "(I)I" } : Jvm.MethodName)) ∈ TW := tw_in 892 (by decide +kernel) (by decide +kernel)
theorem tw_893 : (Jvm.Cond.instanceMethod ({ cls := "Phrasehall$Bout", name := "sideOf", desc := "(I)I" } : Jvm.MethodName)) ∈ TW := tw_in 893 (by decide +kernel) (by decide +kernel)
theorem tw_894 : (Jvm.Cond.selects "Phrasehall$Bout" ({ cls := "Phrasehall$Bout", name := "sideOf", desc := "(I)I" } : Jvm.MethodName) ({ cls := "Phrasehall$Bout", name := "sideOf", desc := "(I)I" } : Jvm.MethodName)) ∈ TW := tw_in 894 (by decide +kernel) (by decide +kernel)
theorem tw_895 : (Jvm.Cond.code ({ cls := "Phrasehall$Bout", name := "sideOf", desc := "(I)I" } : Jvm.MethodName) prog_2_method_4_code (2 : Nat) (Option.some Jvm.ClassFile.FieldType.int)) ∈ TW := tw_in 895 (by decide +kernel) (by decide +kernel)
theorem tw_896 : (Jvm.Cond.methodLink "Phrasehall" (283 : Nat) ({ cls := "Phrasehall$Bout", name := "share", desc := "(II)I" } : Jvm.MethodName)) ∈ TW := tw_in 896 (by decide +kernel) (by decide +kernel)
theorem tw_905 : (Jvm.Cond.methodLink "Phrasehall" (288 : Nat) ({ cls := "Phrasehall$Pool", name := "orderRanked", desc := "()V" } : Jvm.MethodName)) ∈ TW := tw_in 905 (by decide +kernel) (by decide +kernel)
theorem tw_906 : (Jvm.Cond.methodLink "Phrasehall" (291 : Nat) ({ cls := "Phrasehall$Pool", name := "rankedAt", desc := "(I)I" } : Jvm.MethodName)) ∈ TW := tw_in 906 (by decide +kernel) (by decide +kernel)
theorem tw_914 : (Jvm.Cond.methodLink "Phrasehall" (294 : Nat) ({ cls := "Phrasehall$Bracket", name := "winnerOf", desc := "(II)I" } : Jvm.MethodName)) ∈ TW := tw_in 914 (by decide +kernel) (by decide +kernel)
theorem tw_915 : (Jvm.Cond.methodLink "Phrasehall" (297 : Nat) ({ cls := "Phrasehall$Bracket", name := "fencerIn", desc := "(III)I" } : Jvm.MethodName)) ∈ TW := tw_in 915 (by decide +kernel) (by decide +kernel)
theorem tw_922 : (Jvm.Cond.fieldLink "PhrasehallModel" (84 : Nat) "PhrasehallModel" "fencers" "I") ∈ TW := tw_in 922 (by decide +kernel) (by decide +kernel)
theorem tw_923 : (Jvm.Cond.fieldLink "PhrasehallModel" (161 : Nat) "PhrasehallModel" "seed" "J") ∈ TW := tw_in 923 (by decide +kernel) (by decide +kernel)
theorem tw_924 : (Jvm.Cond.fieldLink "PhrasehallModel" (9 : Nat) "PhrasehallModel" "reason" "I") ∈ TW := tw_in 924 (by decide +kernel) (by decide +kernel)
theorem tw_925 : (Jvm.Cond.fieldLink "PhrasehallModel" (105 : Nat) "PhrasehallModel" "bouts" "I") ∈ TW := tw_in 925 (by decide +kernel) (by decide +kernel)
theorem tw_926 : (Jvm.Cond.fieldLink "PhrasehallModel" (13 : Nat) "PhrasehallModel" "onPiste" "I") ∈ TW := tw_in 926 (by decide +kernel) (by decide +kernel)
theorem tw_927 : (Jvm.Cond.fieldLink "PhrasehallModel" (16 : Nat) "PhrasehallModel" "who" "[I") ∈ TW := tw_in 927 (by decide +kernel) (by decide +kernel)
theorem tw_928 : (Jvm.Cond.fieldLink "PhrasehallModel" (20 : Nat) "PhrasehallModel" "touches" "[I") ∈ TW := tw_in 928 (by decide +kernel) (by decide +kernel)
theorem tw_929 : (Jvm.Cond.fieldLink "PhrasehallModel" (23 : Nat) "PhrasehallModel" "weapon" "[I") ∈ TW := tw_in 929 (by decide +kernel) (by decide +kernel)
theorem tw_930 : (Jvm.Cond.fieldLink "PhrasehallModel" (26 : Nat) "PhrasehallModel" "goes" "[I") ∈ TW := tw_in 930 (by decide +kernel) (by decide +kernel)
theorem tw_931 : (Jvm.Cond.fieldLink "PhrasehallModel" (29 : Nat) "PhrasehallModel" "poolOf" "[I") ∈ TW := tw_in 931 (by decide +kernel) (by decide +kernel)
theorem tw_932 : (Jvm.Cond.fieldLink "PhrasehallModel" (32 : Nat) "PhrasehallModel" "winner" "[I") ∈ TW := tw_in 932 (by decide +kernel) (by decide +kernel)
theorem tw_933 : (Jvm.Cond.fieldLink "PhrasehallModel" (35 : Nat) "PhrasehallModel" "seconds" "[I") ∈ TW := tw_in 933 (by decide +kernel) (by decide +kernel)
theorem tw_934 : (Jvm.Cond.fieldLink "PhrasehallModel" (38 : Nat) "PhrasehallModel" "passive" "[I") ∈ TW := tw_in 934 (by decide +kernel) (by decide +kernel)
theorem tw_935 : (Jvm.Cond.fieldLink "PhrasehallModel" (41 : Nat) "PhrasehallModel" "drawn" "[I") ∈ TW := tw_in 935 (by decide +kernel) (by decide +kernel)
theorem tw_936 : (Jvm.Cond.fieldLink "PhrasehallModel" (108 : Nat) "PhrasehallModel" "quiet" "I") ∈ TW := tw_in 936 (by decide +kernel) (by decide +kernel)
theorem tw_937 : (Jvm.Cond.fieldLink "PhrasehallModel" (44 : Nat) "PhrasehallModel" "cards" "[I") ∈ TW := tw_in 937 (by decide +kernel) (by decide +kernel)
theorem tw_938 : (Jvm.Cond.fieldLink "PhrasehallModel" (47 : Nat) "PhrasehallModel" "hadThird" "[Z") ∈ TW := tw_in 938 (by decide +kernel) (by decide +kernel)
theorem tw_939 : (Jvm.Cond.fieldLink "PhrasehallModel" (111 : Nat) "PhrasehallModel" "items" "I") ∈ TW := tw_in 939 (by decide +kernel) (by decide +kernel)
theorem tw_940 : (Jvm.Cond.fieldLink "PhrasehallModel" (51 : Nat) "PhrasehallModel" "side" "[I") ∈ TW := tw_in 940 (by decide +kernel) (by decide +kernel)
theorem tw_941 : (Jvm.Cond.fieldLink "PhrasehallModel" (54 : Nat) "PhrasehallModel" "kind" "[I") ∈ TW := tw_in 941 (by decide +kernel) (by decide +kernel)
theorem tw_942 : (Jvm.Cond.fieldLink "PhrasehallModel" (57 : Nat) "PhrasehallModel" "time" "[I") ∈ TW := tw_in 942 (by decide +kernel) (by decide +kernel)
theorem tw_943 : (Jvm.Cond.fieldLink "PhrasehallModel" (60 : Nat) "PhrasehallModel" "span" "[I") ∈ TW := tw_in 943 (by decide +kernel) (by decide +kernel)
theorem tw_944 : (Jvm.Cond.fieldLink "PhrasehallModel" (63 : Nat) "PhrasehallModel" "target" "[I") ∈ TW := tw_in 944 (by decide +kernel) (by decide +kernel)
theorem tw_945 : (Jvm.Cond.fieldLink "PhrasehallModel" (91 : Nat) "PhrasehallModel" "pools" "I") ∈ TW := tw_in 945 (by decide +kernel) (by decide +kernel)
theorem tw_946 : (Jvm.Cond.fieldLink "PhrasehallModel" (66 : Nat) "PhrasehallModel" "members" "[I") ∈ TW := tw_in 946 (by decide +kernel) (by decide +kernel)
theorem tw_947 : (Jvm.Cond.fieldLink "PhrasehallModel" (69 : Nat) "PhrasehallModel" "gone" "[I") ∈ TW := tw_in 947 (by decide +kernel) (by decide +kernel)
theorem tw_948 : (Jvm.Cond.fieldLink "PhrasehallModel" (72 : Nat) "PhrasehallModel" "ranked" "[I") ∈ TW := tw_in 948 (by decide +kernel) (by decide +kernel)
theorem tw_949 : (Jvm.Cond.fieldLink "PhrasehallModel" (194 : Nat) "PhrasehallModel" "places" "I") ∈ TW := tw_in 949 (by decide +kernel) (by decide +kernel)
theorem tw_950 : (Jvm.Cond.fieldLink "PhrasehallModel" (75 : Nat) "PhrasehallModel" "meets" "[I") ∈ TW := tw_in 950 (by decide +kernel) (by decide +kernel)
theorem tw_951 : (Jvm.Cond.fieldLink "PhrasehallModel" (78 : Nat) "PhrasehallModel" "won" "[I") ∈ TW := tw_in 951 (by decide +kernel) (by decide +kernel)
theorem tw_952 : (Jvm.Cond.fieldLink "PhrasehallModel" (132 : Nat) "PhrasehallModel" "holder" "I") ∈ TW := tw_in 952 (by decide +kernel) (by decide +kernel)
theorem tw_953 : (Jvm.Cond.fieldLink "PhrasehallModel" (81 : Nat) "PhrasehallModel" "thrown" "I") ∈ TW := tw_in 953 (by decide +kernel) (by decide +kernel)
theorem tw_954 : (Jvm.Cond.lays "PhrasehallModel" "PhrasehallModel" "fencers" "I") ∈ TW := tw_in 954 (by decide +kernel) (by decide +kernel)
theorem tw_956 : (Jvm.Cond.lays "PhrasehallModel" "PhrasehallModel" "seed" "J") ∈ TW := tw_in 956 (by decide +kernel) (by decide +kernel)
theorem tw_958 : (Jvm.Cond.lays "PhrasehallModel" "PhrasehallModel" "reason" "I") ∈ TW := tw_in 958 (by decide +kernel) (by decide +kernel)
theorem tw_960 : (Jvm.Cond.lays "PhrasehallModel" "PhrasehallModel" "bouts" "I") ∈ TW := tw_in 960 (by decide +kernel) (by decide +kernel)
theorem tw_962 : (Jvm.Cond.lays "PhrasehallModel" "PhrasehallModel" "onPiste" "I") ∈ TW := tw_in 962 (by decide +kernel) (by decide +kernel)
theorem tw_964 : (Jvm.Cond.laysFinal "PhrasehallModel" "PhrasehallModel" "who" "[I") ∈ TW := tw_in 964 (by decide +kernel) (by decide +kernel)
theorem tw_966 : (Jvm.Cond.laysFinal "PhrasehallModel" "PhrasehallModel" "touches" "[I") ∈ TW := tw_in 966 (by decide +kernel) (by decide +kernel)
theorem tw_968 : (Jvm.Cond.laysFinal "PhrasehallModel" "PhrasehallModel" "weapon" "[I") ∈ TW := tw_in 968 (by decide +kernel) (by decide +kernel)
theorem tw_970 : (Jvm.Cond.laysFinal "PhrasehallModel" "PhrasehallModel" "goes" "[I") ∈ TW := tw_in 970 (by decide +kernel) (by decide +kernel)
theorem tw_972 : (Jvm.Cond.laysFinal "PhrasehallModel" "PhrasehallModel" "poolOf" "[I") ∈ TW := tw_in 972 (by decide +kernel) (by decide +kernel)
theorem tw_974 : (Jvm.Cond.laysFinal "PhrasehallModel" "PhrasehallModel" "winner" "[I") ∈ TW := tw_in 974 (by decide +kernel) (by decide +kernel)
theorem tw_976 : (Jvm.Cond.laysFinal "PhrasehallModel" "PhrasehallModel" "seconds" "[I") ∈ TW := tw_in 976 (by decide +kernel) (by decide +kernel)
theorem tw_978 : (Jvm.Cond.laysFinal "PhrasehallModel" "PhrasehallModel" "passive" "[I") ∈ TW := tw_in 978 (by decide +kernel) (by decide +kernel)
theorem tw_980 : (Jvm.Cond.laysFinal "PhrasehallModel" "PhrasehallModel" "drawn" "[I") ∈ TW := tw_in 980 (by decide +kernel) (by decide +kernel)
theorem tw_982 : (Jvm.Cond.lays "PhrasehallModel" "PhrasehallModel" "quiet" "I") ∈ TW := tw_in 982 (by decide +kernel) (by decide +kernel)
theorem tw_984 : (Jvm.Cond.laysFinal "PhrasehallModel" "PhrasehallModel" "cards" "[I") ∈ TW := tw_in 984 (by decide +kernel) (by decide +kernel)
theorem tw_986 : (Jvm.Cond.laysFinal "PhrasehallModel" "PhrasehallModel" "hadThird" "[Z") ∈ TW := tw_in 986 (by decide +kernel) (by decide +kernel)
theorem tw_988 : (Jvm.Cond.lays "PhrasehallModel" "PhrasehallModel" "items" "I") ∈ TW := tw_in 988 (by decide +kernel) (by decide +kernel)
theorem tw_990 : (Jvm.Cond.laysFinal "PhrasehallModel" "PhrasehallModel" "side" "[I") ∈ TW := tw_in 990 (by decide +kernel) (by decide +kernel)
theorem tw_992 : (Jvm.Cond.laysFinal "PhrasehallModel" "PhrasehallModel" "kind" "[I") ∈ TW := tw_in 992 (by decide +kernel) (by decide +kernel)
theorem tw_994 : (Jvm.Cond.laysFinal "PhrasehallModel" "PhrasehallModel" "time" "[I") ∈ TW := tw_in 994 (by decide +kernel) (by decide +kernel)
theorem tw_996 : (Jvm.Cond.laysFinal "PhrasehallModel" "PhrasehallModel" "span" "[I") ∈ TW := tw_in 996 (by decide +kernel) (by decide +kernel)
theorem tw_998 : (Jvm.Cond.laysFinal "PhrasehallModel" "PhrasehallModel" "target" "[I") ∈ TW := tw_in 998 (by decide +kernel) (by decide +kernel)
theorem tw_1000 : (Jvm.Cond.lays "PhrasehallModel" "PhrasehallModel" "pools" "I") ∈ TW := tw_in 1000 (by decide +kernel) (by decide +kernel)
theorem tw_1002 : (Jvm.Cond.laysFinal "PhrasehallModel" "PhrasehallModel" "members" "[I") ∈ TW := tw_in 1002 (by decide +kernel) (by decide +kernel)
theorem tw_1004 : (Jvm.Cond.laysFinal "PhrasehallModel" "PhrasehallModel" "gone" "[I") ∈ TW := tw_in 1004 (by decide +kernel) (by decide +kernel)
theorem tw_1006 : (Jvm.Cond.laysFinal "PhrasehallModel" "PhrasehallModel" "ranked" "[I") ∈ TW := tw_in 1006 (by decide +kernel) (by decide +kernel)
theorem tw_1008 : (Jvm.Cond.lays "PhrasehallModel" "PhrasehallModel" "places" "I") ∈ TW := tw_in 1008 (by decide +kernel) (by decide +kernel)
theorem tw_1010 : (Jvm.Cond.laysFinal "PhrasehallModel" "PhrasehallModel" "meets" "[I") ∈ TW := tw_in 1010 (by decide +kernel) (by decide +kernel)
theorem tw_1012 : (Jvm.Cond.laysFinal "PhrasehallModel" "PhrasehallModel" "won" "[I") ∈ TW := tw_in 1012 (by decide +kernel) (by decide +kernel)
theorem tw_1014 : (Jvm.Cond.lays "PhrasehallModel" "PhrasehallModel" "holder" "I") ∈ TW := tw_in 1014 (by decide +kernel) (by decide +kernel)
theorem tw_1016 : (Jvm.Cond.lays "PhrasehallModel" "PhrasehallModel" "thrown" "I") ∈ TW := tw_in 1016 (by decide +kernel) (by decide +kernel)
theorem tw_1032 : (Jvm.Cond.methodLink "PhrasehallModel" (94 : Nat) ({ cls := "PhrasehallModel", name := "isFencer", desc := "(I)Z" } : Jvm.MethodName)) ∈ TW := tw_in 1032 (by decide +kernel) (by decide +kernel)
theorem tw_1034 : (Jvm.Cond.instanceMethod ({ cls := "PhrasehallModel", name := "isFencer", desc := "(I)Z" } : Jvm.MethodName)) ∈ TW := tw_in 1034 (by decide +kernel) (by decide +kernel)
theorem tw_1035 : (Jvm.Cond.code ({ cls := "PhrasehallModel", name := "isFencer", desc := "(I)Z" } : Jvm.MethodName) prog_10_method_4_code (2 : Nat) (Option.some Jvm.ClassFile.FieldType.boolean)) ∈ TW := tw_in 1035 (by decide +kernel) (by decide +kernel)
theorem tw_1036 : (Jvm.Cond.methodLink "PhrasehallModel" (87 : Nat) ({ cls := "PhrasehallModel", name := "isIn", desc := "(III)Z" } : Jvm.MethodName)) ∈ TW := tw_in 1036 (by decide +kernel) (by decide +kernel)
theorem tw_1037 : (Jvm.Cond.static ({ cls := "PhrasehallModel", name := "isIn", desc := "(III)Z" } : Jvm.MethodName)) ∈ TW := tw_in 1037 (by decide +kernel) (by decide +kernel)
theorem tw_1038 : (Jvm.Cond.code ({ cls := "PhrasehallModel", name := "isIn", desc := "(III)Z" } : Jvm.MethodName) prog_10_method_3_code (3 : Nat) (Option.some Jvm.ClassFile.FieldType.boolean)) ∈ TW := tw_in 1038 (by decide +kernel) (by decide +kernel)
theorem tw_1039 : (Jvm.Cond.methodLink "PhrasehallModel" (98 : Nat) ({ cls := "PhrasehallModel", name := "isPool", desc := "(I)Z" } : Jvm.MethodName)) ∈ TW := tw_in 1039 (by decide +kernel) (by decide +kernel)
theorem tw_1041 : (Jvm.Cond.instanceMethod ({ cls := "PhrasehallModel", name := "isPool", desc := "(I)Z" } : Jvm.MethodName)) ∈ TW := tw_in 1041 (by decide +kernel) (by decide +kernel)
theorem tw_1042 : (Jvm.Cond.code ({ cls := "PhrasehallModel", name := "isPool", desc := "(I)Z" } : Jvm.MethodName) prog_10_method_5_code (2 : Nat) (Option.some Jvm.ClassFile.FieldType.boolean)) ∈ TW := tw_in 1042 (by decide +kernel) (by decide +kernel)
theorem tw_1043 : (Jvm.Cond.methodLink "PhrasehallModel" (101 : Nat) ({ cls := "PhrasehallModel", name := "has", desc := "(II)Z" } : Jvm.MethodName)) ∈ TW := tw_in 1043 (by decide +kernel) (by decide +kernel)
theorem tw_1044 : (Jvm.Cond.static ({ cls := "PhrasehallModel", name := "has", desc := "(II)Z" } : Jvm.MethodName)) ∈ TW := tw_in 1044 (by decide +kernel) (by decide +kernel)
theorem tw_1045 : (Jvm.Cond.code ({ cls := "PhrasehallModel", name := "has", desc := "(II)Z" } : Jvm.MethodName) prog_10_method_6_code (2 : Nat) (Option.some Jvm.ClassFile.FieldType.boolean)) ∈ TW := tw_in 1045 (by decide +kernel) (by decide +kernel)
theorem tw_1050 : (Jvm.Cond.methodLink "PhrasehallModel" (114 : Nat) ({ cls := "PhrasehallModel", name := "isSide", desc := "(I)Z" } : Jvm.MethodName)) ∈ TW := tw_in 1050 (by decide +kernel) (by decide +kernel)
theorem tw_1051 : (Jvm.Cond.static ({ cls := "PhrasehallModel", name := "isSide", desc := "(I)Z" } : Jvm.MethodName)) ∈ TW := tw_in 1051 (by decide +kernel) (by decide +kernel)
theorem tw_1052 : (Jvm.Cond.code ({ cls := "PhrasehallModel", name := "isSide", desc := "(I)Z" } : Jvm.MethodName) prog_10_method_11_code (1 : Nat) (Option.some Jvm.ClassFile.FieldType.boolean)) ∈ TW := tw_in 1052 (by decide +kernel) (by decide +kernel)
theorem tw_1053 : (Jvm.Cond.constant "PhrasehallModel" (117 : Nat) (1000000 : Int32)) ∈ TW := tw_in 1053 (by decide +kernel) (by decide +kernel)
theorem tw_1054 : (Jvm.Cond.methodLink "PhrasehallModel" (118 : Nat) ({ cls := "PhrasehallModel", name := "may", desc := "(I)Z" } : Jvm.MethodName)) ∈ TW := tw_in 1054 (by decide +kernel) (by decide +kernel)
theorem tw_1056 : (Jvm.Cond.instanceMethod ({ cls := "PhrasehallModel", name := "may", desc := "(I)Z" } : Jvm.MethodName)) ∈ TW := tw_in 1056 (by decide +kernel) (by decide +kernel)
theorem tw_1057 : (Jvm.Cond.code ({ cls := "PhrasehallModel", name := "may", desc := "(I)Z" } : Jvm.MethodName) prog_10_method_10_code (2 : Nat) (Option.some Jvm.ClassFile.FieldType.boolean)) ∈ TW := tw_in 1057 (by decide +kernel) (by decide +kernel)
theorem tw_1058 : (Jvm.Cond.methodLink "PhrasehallModel" (121 : Nat) ({ cls := "PhrasehallModel", name := "puts", desc := "(III)I" } : Jvm.MethodName)) ∈ TW := tw_in 1058 (by decide +kernel) (by decide +kernel)
theorem tw_1060 : (Jvm.Cond.instanceMethod ({ cls := "PhrasehallModel", name := "puts", desc := "(III)I" } : Jvm.MethodName)) ∈ TW := tw_in 1060 (by decide +kernel) (by decide +kernel)
theorem tw_1061 : (Jvm.Cond.code ({ cls := "PhrasehallModel", name := "puts", desc := "(III)I" } : Jvm.MethodName) prog_10_method_9_code (4 : Nat) (Option.some Jvm.ClassFile.FieldType.int)) ∈ TW := tw_in 1061 (by decide +kernel) (by decide +kernel)
theorem tw_1070 : (Jvm.Cond.methodLink "PhrasehallModel" (149 : Nat) ({ cls := "PhrasehallModel", name := "given", desc := "()I" } : Jvm.MethodName)) ∈ TW := tw_in 1070 (by decide +kernel) (by decide +kernel)
theorem tw_1072 : (Jvm.Cond.instanceMethod ({ cls := "PhrasehallModel", name := "given", desc := "()I" } : Jvm.MethodName)) ∈ TW := tw_in 1072 (by decide +kernel) (by decide +kernel)
theorem tw_1073 : (Jvm.Cond.code ({ cls := "PhrasehallModel", name := "given", desc := "()I" } : Jvm.MethodName) prog_10_method_21_code (7 : Nat) (Option.some Jvm.ClassFile.FieldType.int)) ∈ TW := tw_in 1073 (by decide +kernel) (by decide +kernel)
theorem tw_1074 : (Jvm.Cond.methodLink "PhrasehallModel" (143 : Nat) ({ cls := "PhrasehallModel", name := "registered", desc := "(I)I" } : Jvm.MethodName)) ∈ TW := tw_in 1074 (by decide +kernel) (by decide +kernel)
theorem tw_1076 : (Jvm.Cond.instanceMethod ({ cls := "PhrasehallModel", name := "registered", desc := "(I)I" } : Jvm.MethodName)) ∈ TW := tw_in 1076 (by decide +kernel) (by decide +kernel)
theorem tw_1077 : (Jvm.Cond.code ({ cls := "PhrasehallModel", name := "registered", desc := "(I)I" } : Jvm.MethodName) prog_10_method_16_code (9 : Nat) (Option.some Jvm.ClassFile.FieldType.int)) ∈ TW := tw_in 1077 (by decide +kernel) (by decide +kernel)
theorem tw_1078 : (Jvm.Cond.methodLink "PhrasehallModel" (125 : Nat) ({ cls := "PhrasehallModel", name := "least", desc := "(I)I" } : Jvm.MethodName)) ∈ TW := tw_in 1078 (by decide +kernel) (by decide +kernel)
theorem tw_1079 : (Jvm.Cond.static ({ cls := "PhrasehallModel", name := "least", desc := "(I)I" } : Jvm.MethodName)) ∈ TW := tw_in 1079 (by decide +kernel) (by decide +kernel)
theorem tw_1080 : (Jvm.Cond.code ({ cls := "PhrasehallModel", name := "least", desc := "(I)I" } : Jvm.MethodName) prog_10_method_14_code (1 : Nat) (Option.some Jvm.ClassFile.FieldType.int)) ∈ TW := tw_in 1080 (by decide +kernel) (by decide +kernel)
theorem tw_1081 : (Jvm.Cond.methodLink "PhrasehallModel" (129 : Nat) ({ cls := "PhrasehallModel", name := "locks", desc := "(I)I" } : Jvm.MethodName)) ∈ TW := tw_in 1081 (by decide +kernel) (by decide +kernel)
theorem tw_1082 : (Jvm.Cond.static ({ cls := "PhrasehallModel", name := "locks", desc := "(I)I" } : Jvm.MethodName)) ∈ TW := tw_in 1082 (by decide +kernel) (by decide +kernel)
theorem tw_1083 : (Jvm.Cond.code ({ cls := "PhrasehallModel", name := "locks", desc := "(I)I" } : Jvm.MethodName) prog_10_method_15_code (1 : Nat) (Option.some Jvm.ClassFile.FieldType.int)) ∈ TW := tw_in 1083 (by decide +kernel) (by decide +kernel)
theorem tw_1084 : (Jvm.Cond.methodLink "PhrasehallModel" (146 : Nat) ({ cls := "PhrasehallModel", name := "rights", desc := "(I)I" } : Jvm.MethodName)) ∈ TW := tw_in 1084 (by decide +kernel) (by decide +kernel)
theorem tw_1086 : (Jvm.Cond.instanceMethod ({ cls := "PhrasehallModel", name := "rights", desc := "(I)I" } : Jvm.MethodName)) ∈ TW := tw_in 1086 (by decide +kernel) (by decide +kernel)
theorem tw_1087 : (Jvm.Cond.code ({ cls := "PhrasehallModel", name := "rights", desc := "(I)I" } : Jvm.MethodName) prog_10_method_17_code (11 : Nat) (Option.some Jvm.ClassFile.FieldType.int)) ∈ TW := tw_in 1087 (by decide +kernel) (by decide +kernel)
theorem tw_1088 : (Jvm.Cond.methodLink "PhrasehallModel" (152 : Nat) ({ cls := "PhrasehallModel", name := "gives", desc := "(I)V" } : Jvm.MethodName)) ∈ TW := tw_in 1088 (by decide +kernel) (by decide +kernel)
theorem tw_1090 : (Jvm.Cond.instanceMethod ({ cls := "PhrasehallModel", name := "gives", desc := "(I)V" } : Jvm.MethodName)) ∈ TW := tw_in 1090 (by decide +kernel) (by decide +kernel)
theorem tw_1091 : (Jvm.Cond.code ({ cls := "PhrasehallModel", name := "gives", desc := "(I)V" } : Jvm.MethodName) prog_10_method_20_code (5 : Nat) (Option.none : Option Jvm.ClassFile.FieldType)) ∈ TW := tw_in 1091 (by decide +kernel) (by decide +kernel)
theorem tw_1092 : (Jvm.Cond.methodLink "PhrasehallModel" (135 : Nat) ({ cls := "PhrasehallModel", name := "ahead", desc := "()I" } : Jvm.MethodName)) ∈ TW := tw_in 1092 (by decide +kernel) (by decide +kernel)
theorem tw_1094 : (Jvm.Cond.instanceMethod ({ cls := "PhrasehallModel", name := "ahead", desc := "()I" } : Jvm.MethodName)) ∈ TW := tw_in 1094 (by decide +kernel) (by decide +kernel)
theorem tw_1095 : (Jvm.Cond.code ({ cls := "PhrasehallModel", name := "ahead", desc := "()I" } : Jvm.MethodName) prog_10_method_19_code (3 : Nat) (Option.some Jvm.ClassFile.FieldType.int)) ∈ TW := tw_in 1095 (by decide +kernel) (by decide +kernel)
theorem tw_1096 : (Jvm.Cond.methodLink "PhrasehallModel" (139 : Nat) ({ cls := "PhrasehallModel", name := "ends", desc := "(I)V" } : Jvm.MethodName)) ∈ TW := tw_in 1096 (by decide +kernel) (by decide +kernel)
theorem tw_1098 : (Jvm.Cond.instanceMethod ({ cls := "PhrasehallModel", name := "ends", desc := "(I)V" } : Jvm.MethodName)) ∈ TW := tw_in 1098 (by decide +kernel) (by decide +kernel)
theorem tw_1099 : (Jvm.Cond.code ({ cls := "PhrasehallModel", name := "ends", desc := "(I)V" } : Jvm.MethodName) prog_10_method_18_code (2 : Nat) (Option.none : Option Jvm.ClassFile.FieldType)) ∈ TW := tw_in 1099 (by decide +kernel) (by decide +kernel)
theorem tw_1108 : (Jvm.Cond.methodLink "PhrasehallModel" (173 : Nat) ({ cls := "PhrasehallModel", name := "second", desc := "()V" } : Jvm.MethodName)) ∈ TW := tw_in 1108 (by decide +kernel) (by decide +kernel)
theorem tw_1110 : (Jvm.Cond.instanceMethod ({ cls := "PhrasehallModel", name := "second", desc := "()V" } : Jvm.MethodName)) ∈ TW := tw_in 1110 (by decide +kernel) (by decide +kernel)
theorem tw_1111 : (Jvm.Cond.code ({ cls := "PhrasehallModel", name := "second", desc := "()V" } : Jvm.MethodName) prog_10_method_25_code (2 : Nat) (Option.none : Option Jvm.ClassFile.FieldType)) ∈ TW := tw_in 1111 (by decide +kernel) (by decide +kernel)
theorem tw_1112 : (Jvm.Cond.methodLink "PhrasehallModel" (165 : Nat) ({ cls := "PhrasehallModel", name := "next", desc := "(J)J" } : Jvm.MethodName)) ∈ TW := tw_in 1112 (by decide +kernel) (by decide +kernel)
theorem tw_1113 : (Jvm.Cond.static ({ cls := "PhrasehallModel", name := "next", desc := "(J)J" } : Jvm.MethodName)) ∈ TW := tw_in 1113 (by decide +kernel) (by decide +kernel)
theorem tw_1114 : (Jvm.Cond.code ({ cls := "PhrasehallModel", name := "next", desc := "(J)J" } : Jvm.MethodName) prog_10_method_24_code (2 : Nat) (Option.some Jvm.ClassFile.FieldType.long)) ∈ TW := tw_in 1114 (by decide +kernel) (by decide +kernel)
theorem tw_1115 : (Jvm.Cond.constantLong "PhrasehallModel" (155 : Nat) (1103515245 : Int64)) ∈ TW := tw_in 1115 (by decide +kernel) (by decide +kernel)
theorem tw_1116 : (Jvm.Cond.constantLong "PhrasehallModel" (157 : Nat) (12345 : Int64)) ∈ TW := tw_in 1116 (by decide +kernel) (by decide +kernel)
theorem tw_1117 : (Jvm.Cond.constantLong "PhrasehallModel" (159 : Nat) (2147483648 : Int64)) ∈ TW := tw_in 1117 (by decide +kernel) (by decide +kernel)
theorem tw_1118 : (Jvm.Cond.constantLong "PhrasehallModel" (169 : Nat) (65536 : Int64)) ∈ TW := tw_in 1118 (by decide +kernel) (by decide +kernel)
theorem tw_1119 : (Jvm.Cond.constantLong "PhrasehallModel" (171 : Nat) (2 : Int64)) ∈ TW := tw_in 1119 (by decide +kernel) (by decide +kernel)
theorem tw_1132 : (Jvm.Cond.methodLink "PhrasehallModel" (176 : Nat) ({ cls := "PhrasehallModel", name := "many", desc := "(I)I" } : Jvm.MethodName)) ∈ TW := tw_in 1132 (by decide +kernel) (by decide +kernel)
theorem tw_1133 : (Jvm.Cond.static ({ cls := "PhrasehallModel", name := "many", desc := "(I)I" } : Jvm.MethodName)) ∈ TW := tw_in 1133 (by decide +kernel) (by decide +kernel)
theorem tw_1134 : (Jvm.Cond.code ({ cls := "PhrasehallModel", name := "many", desc := "(I)I" } : Jvm.MethodName) prog_10_method_29_code (3 : Nat) (Option.some Jvm.ClassFile.FieldType.int)) ∈ TW := tw_in 1134 (by decide +kernel) (by decide +kernel)
theorem tw_1139 : (Jvm.Cond.methodLink "PhrasehallModel" (182 : Nat) ({ cls := "PhrasehallModel", name := "isMember", desc := "(II)Z" } : Jvm.MethodName)) ∈ TW := tw_in 1139 (by decide +kernel) (by decide +kernel)
theorem tw_1141 : (Jvm.Cond.instanceMethod ({ cls := "PhrasehallModel", name := "isMember", desc := "(II)Z" } : Jvm.MethodName)) ∈ TW := tw_in 1141 (by decide +kernel) (by decide +kernel)
theorem tw_1142 : (Jvm.Cond.code ({ cls := "PhrasehallModel", name := "isMember", desc := "(II)Z" } : Jvm.MethodName) prog_10_method_31_code (3 : Nat) (Option.some Jvm.ClassFile.FieldType.boolean)) ∈ TW := tw_in 1142 (by decide +kernel) (by decide +kernel)
theorem tw_1143 : (Jvm.Cond.methodLink "PhrasehallModel" (185 : Nat) ({ cls := "PhrasehallModel", name := "tells", desc := "(III)I" } : Jvm.MethodName)) ∈ TW := tw_in 1143 (by decide +kernel) (by decide +kernel)
theorem tw_1145 : (Jvm.Cond.instanceMethod ({ cls := "PhrasehallModel", name := "tells", desc := "(III)I" } : Jvm.MethodName)) ∈ TW := tw_in 1145 (by decide +kernel) (by decide +kernel)
theorem tw_1146 : (Jvm.Cond.code ({ cls := "PhrasehallModel", name := "tells", desc := "(III)I" } : Jvm.MethodName) prog_10_method_33_code (7 : Nat) (Option.some Jvm.ClassFile.FieldType.int)) ∈ TW := tw_in 1146 (by decide +kernel) (by decide +kernel)
theorem tw_1147 : (Jvm.Cond.methodLink "PhrasehallModel" (179 : Nat) ({ cls := "PhrasehallModel", name := "sideIn", desc := "(III)I" } : Jvm.MethodName)) ∈ TW := tw_in 1147 (by decide +kernel) (by decide +kernel)
theorem tw_1149 : (Jvm.Cond.instanceMethod ({ cls := "PhrasehallModel", name := "sideIn", desc := "(III)I" } : Jvm.MethodName)) ∈ TW := tw_in 1149 (by decide +kernel) (by decide +kernel)
theorem tw_1150 : (Jvm.Cond.code ({ cls := "PhrasehallModel", name := "sideIn", desc := "(III)I" } : Jvm.MethodName) prog_10_method_32_code (7 : Nat) (Option.some Jvm.ClassFile.FieldType.int)) ∈ TW := tw_in 1150 (by decide +kernel) (by decide +kernel)
theorem tw_1155 : (Jvm.Cond.methodLink "PhrasehallModel" (191 : Nat) ({ cls := "PhrasehallModel", name := "ranks", desc := "(I)I" } : Jvm.MethodName)) ∈ TW := tw_in 1155 (by decide +kernel) (by decide +kernel)
theorem tw_1157 : (Jvm.Cond.instanceMethod ({ cls := "PhrasehallModel", name := "ranks", desc := "(I)I" } : Jvm.MethodName)) ∈ TW := tw_in 1157 (by decide +kernel) (by decide +kernel)
theorem tw_1158 : (Jvm.Cond.code ({ cls := "PhrasehallModel", name := "ranks", desc := "(I)I" } : Jvm.MethodName) prog_10_method_36_code (5 : Nat) (Option.some Jvm.ClassFile.FieldType.int)) ∈ TW := tw_in 1158 (by decide +kernel) (by decide +kernel)
theorem tw_1159 : (Jvm.Cond.methodLink "PhrasehallModel" (188 : Nat) ({ cls := "PhrasehallModel", name := "isBetter", desc := "(III)Z" } : Jvm.MethodName)) ∈ TW := tw_in 1159 (by decide +kernel) (by decide +kernel)
theorem tw_1161 : (Jvm.Cond.instanceMethod ({ cls := "PhrasehallModel", name := "isBetter", desc := "(III)Z" } : Jvm.MethodName)) ∈ TW := tw_in 1161 (by decide +kernel) (by decide +kernel)
theorem tw_1162 : (Jvm.Cond.code ({ cls := "PhrasehallModel", name := "isBetter", desc := "(III)Z" } : Jvm.MethodName) prog_10_method_35_code (10 : Nat) (Option.some Jvm.ClassFile.FieldType.boolean)) ∈ TW := tw_in 1162 (by decide +kernel) (by decide +kernel)
theorem tw_1163 : (Jvm.Cond.methodLink "PhrasehallModel" (197 : Nat) ({ cls := "PhrasehallModel", name := "orderAt", desc := "(II)I" } : Jvm.MethodName)) ∈ TW := tw_in 1163 (by decide +kernel) (by decide +kernel)
theorem tw_1164 : (Jvm.Cond.static ({ cls := "PhrasehallModel", name := "orderAt", desc := "(II)I" } : Jvm.MethodName)) ∈ TW := tw_in 1164 (by decide +kernel) (by decide +kernel)
theorem tw_1165 : (Jvm.Cond.code ({ cls := "PhrasehallModel", name := "orderAt", desc := "(II)I" } : Jvm.MethodName) prog_10_method_37_code (5 : Nat) (Option.some Jvm.ClassFile.FieldType.int)) ∈ TW := tw_in 1165 (by decide +kernel) (by decide +kernel)
theorem tw_1166 : (Jvm.Cond.methodLink "PhrasehallModel" (201 : Nat) ({ cls := "PhrasehallModel", name := "isWon", desc := "(III)V" } : Jvm.MethodName)) ∈ TW := tw_in 1166 (by decide +kernel) (by decide +kernel)
theorem tw_1168 : (Jvm.Cond.instanceMethod ({ cls := "PhrasehallModel", name := "isWon", desc := "(III)V" } : Jvm.MethodName)) ∈ TW := tw_in 1168 (by decide +kernel) (by decide +kernel)
theorem tw_1169 : (Jvm.Cond.code ({ cls := "PhrasehallModel", name := "isWon", desc := "(III)V" } : Jvm.MethodName) prog_10_method_40_code (4 : Nat) (Option.none : Option Jvm.ClassFile.FieldType)) ∈ TW := tw_in 1169 (by decide +kernel) (by decide +kernel)
theorem tw_1170 : (Jvm.Cond.methodLink "PhrasehallModel" (205 : Nat) ({ cls := "PhrasehallModel", name := "rounds", desc := "(I)I" } : Jvm.MethodName)) ∈ TW := tw_in 1170 (by decide +kernel) (by decide +kernel)
theorem tw_1171 : (Jvm.Cond.static ({ cls := "PhrasehallModel", name := "rounds", desc := "(I)I" } : Jvm.MethodName)) ∈ TW := tw_in 1171 (by decide +kernel) (by decide +kernel)
theorem tw_1172 : (Jvm.Cond.code ({ cls := "PhrasehallModel", name := "rounds", desc := "(I)I" } : Jvm.MethodName) prog_10_method_39_code (1 : Nat) (Option.some Jvm.ClassFile.FieldType.int)) ∈ TW := tw_in 1172 (by decide +kernel) (by decide +kernel)
theorem tw_1177 : (Jvm.Cond.methodLink "PhrasehallModel" (208 : Nat) ({ cls := "PhrasehallModel", name := "isMatch", desc := "(II)Z" } : Jvm.MethodName)) ∈ TW := tw_in 1177 (by decide +kernel) (by decide +kernel)
theorem tw_1179 : (Jvm.Cond.instanceMethod ({ cls := "PhrasehallModel", name := "isMatch", desc := "(II)Z" } : Jvm.MethodName)) ∈ TW := tw_in 1179 (by decide +kernel) (by decide +kernel)
theorem tw_1180 : (Jvm.Cond.code ({ cls := "PhrasehallModel", name := "isMatch", desc := "(II)Z" } : Jvm.MethodName) prog_10_method_41_code (3 : Nat) (Option.some Jvm.ClassFile.FieldType.boolean)) ∈ TW := tw_in 1180 (by decide +kernel) (by decide +kernel)
theorem tw_1201 : (Jvm.Cond.methodLink "PhrasehallModel" (211 : Nat) ({ cls := "PhrasehallModel", name := "ofPools", desc := "(III)I" } : Jvm.MethodName)) ∈ TW := tw_in 1201 (by decide +kernel) (by decide +kernel)
theorem tw_1203 : (Jvm.Cond.instanceMethod ({ cls := "PhrasehallModel", name := "ofPools", desc := "(III)I" } : Jvm.MethodName)) ∈ TW := tw_in 1203 (by decide +kernel) (by decide +kernel)
theorem tw_1204 : (Jvm.Cond.code ({ cls := "PhrasehallModel", name := "ofPools", desc := "(III)I" } : Jvm.MethodName) prog_10_method_47_code (4 : Nat) (Option.some Jvm.ClassFile.FieldType.int)) ∈ TW := tw_in 1204 (by decide +kernel) (by decide +kernel)
theorem lv_1 {κ : KP} : lv κ 1 0 := lv_s (by decide) (by decide) (by decide) (by decide)
theorem lv_u1 {κ : KP} (n : Nat) (h : lv κ 1 n) : n = 0 := lv_u (by decide) (by decide) (by decide) n h
theorem lv_3 {κ : KP} : lv κ 3 0 := lv_s (by decide) (by decide) (by decide) (by decide)
theorem lv_u3 {κ : KP} (n : Nat) (h : lv κ 3 n) : n = 0 := lv_u (by decide) (by decide) (by decide) n h
theorem lv_4 {κ : KP} : lv κ 4 0 := lv_s (by decide) (by decide) (by decide) (by decide)
theorem lv_u4 {κ : KP} (n : Nat) (h : lv κ 4 n) : n = 0 := lv_u (by decide) (by decide) (by decide) n h
theorem lv_6 {κ : KP} : lv κ 6 0 := lv_s (by decide) (by decide) (by decide) (by decide)
theorem lv_u6 {κ : KP} (n : Nat) (h : lv κ 6 n) : n = 0 := lv_u (by decide) (by decide) (by decide) n h
theorem lv_7 {κ : KP} : lv κ 7 0 := lv_s (by decide) (by decide) (by decide) (by decide)
theorem lv_u7 {κ : KP} (n : Nat) (h : lv κ 7 n) : n = 0 := lv_u (by decide) (by decide) (by decide) n h
theorem lv_8 {κ : KP} : lv κ 8 0 := lv_s (by decide) (by decide) (by decide) (by decide)
theorem lv_u8 {κ : KP} (n : Nat) (h : lv κ 8 n) : n = 0 := lv_u (by decide) (by decide) (by decide) n h
theorem lv_9 {κ : KP} : lv κ 9 0 := lv_s (by decide) (by decide) (by decide) (by decide)
theorem lv_u9 {κ : KP} (n : Nat) (h : lv κ 9 n) : n = 0 := lv_u (by decide) (by decide) (by decide) n h
theorem lv_10 {κ : KP} : lv κ 10 0 := lv_s (by decide) (by decide) (by decide) (by decide)
theorem lv_u10 {κ : KP} (n : Nat) (h : lv κ 10 n) : n = 0 := lv_u (by decide) (by decide) (by decide) n h
theorem lv_11 {κ : KP} : lv κ 11 0 := lv_s (by decide) (by decide) (by decide) (by decide)
theorem lv_u11 {κ : KP} (n : Nat) (h : lv κ 11 n) : n = 0 := lv_u (by decide) (by decide) (by decide) n h
theorem lv_12 {κ : KP} : lv κ 12 0 := lv_s (by decide) (by decide) (by decide) (by decide)
theorem lv_u12 {κ : KP} (n : Nat) (h : lv κ 12 n) : n = 0 := lv_u (by decide) (by decide) (by decide) n h
theorem lv_13 {κ : KP} : lv κ 13 0 := lv_s (by decide) (by decide) (by decide) (by decide)
theorem lv_u13 {κ : KP} (n : Nat) (h : lv κ 13 n) : n = 0 := lv_u (by decide) (by decide) (by decide) n h
theorem lv_14 {κ : KP} : lv κ 14 0 := lv_s (by decide) (by decide) (by decide) (by decide)
theorem lv_u14 {κ : KP} (n : Nat) (h : lv κ 14 n) : n = 0 := lv_u (by decide) (by decide) (by decide) n h
theorem lv_15 {κ : KP} : lv κ 15 0 := lv_s (by decide) (by decide) (by decide) (by decide)
theorem lv_u15 {κ : KP} (n : Nat) (h : lv κ 15 n) : n = 0 := lv_u (by decide) (by decide) (by decide) n h
theorem lv_16 {κ : KP} : lv κ 16 0 := lv_s (by decide) (by decide) (by decide) (by decide)
theorem lv_u16 {κ : KP} (n : Nat) (h : lv κ 16 n) : n = 0 := lv_u (by decide) (by decide) (by decide) n h
theorem lv_17 {κ : KP} : lv κ 17 0 := lv_s (by decide) (by decide) (by decide) (by decide)
theorem lv_u17 {κ : KP} (n : Nat) (h : lv κ 17 n) : n = 0 := lv_u (by decide) (by decide) (by decide) n h
theorem lv_20 {κ : KP} : lv κ 20 0 := lv_s (by decide) (by decide) (by decide) (by decide)
theorem lv_u20 {κ : KP} (n : Nat) (h : lv κ 20 n) : n = 0 := lv_u (by decide) (by decide) (by decide) n h
theorem lv_21 {κ : KP} : lv κ 21 0 := lv_s (by decide) (by decide) (by decide) (by decide)
theorem lv_u21 {κ : KP} (n : Nat) (h : lv κ 21 n) : n = 0 := lv_u (by decide) (by decide) (by decide) n h
theorem lv_22 {κ : KP} : lv κ 22 0 := lv_s (by decide) (by decide) (by decide) (by decide)
theorem lv_u22 {κ : KP} (n : Nat) (h : lv κ 22 n) : n = 0 := lv_u (by decide) (by decide) (by decide) n h
theorem lv_23 {κ : KP} : lv κ 23 0 := lv_s (by decide) (by decide) (by decide) (by decide)
theorem lv_u23 {κ : KP} (n : Nat) (h : lv κ 23 n) : n = 0 := lv_u (by decide) (by decide) (by decide) n h
theorem lv_24 {κ : KP} : lv κ 24 0 := lv_s (by decide) (by decide) (by decide) (by decide)
theorem lv_u24 {κ : KP} (n : Nat) (h : lv κ 24 n) : n = 0 := lv_u (by decide) (by decide) (by decide) n h
theorem lv_25 {κ : KP} : lv κ 25 0 := lv_s (by decide) (by decide) (by decide) (by decide)
theorem lv_u25 {κ : KP} (n : Nat) (h : lv κ 25 n) : n = 0 := lv_u (by decide) (by decide) (by decide) n h
theorem lv_26 {κ : KP} : lv κ 26 0 := lv_s (by decide) (by decide) (by decide) (by decide)
theorem lv_u26 {κ : KP} (n : Nat) (h : lv κ 26 n) : n = 0 := lv_u (by decide) (by decide) (by decide) n h
theorem lv_27 {κ : KP} : lv κ 27 0 := lv_s (by decide) (by decide) (by decide) (by decide)
theorem lv_u27 {κ : KP} (n : Nat) (h : lv κ 27 n) : n = 0 := lv_u (by decide) (by decide) (by decide) n h
theorem lv_28 {κ : KP} : lv κ 28 0 := lv_s (by decide) (by decide) (by decide) (by decide)
theorem lv_u28 {κ : KP} (n : Nat) (h : lv κ 28 n) : n = 0 := lv_u (by decide) (by decide) (by decide) n h
theorem lv_29 {κ : KP} : lv κ 29 0 := lv_s (by decide) (by decide) (by decide) (by decide)
theorem lv_u29 {κ : KP} (n : Nat) (h : lv κ 29 n) : n = 0 := lv_u (by decide) (by decide) (by decide) n h
theorem lv_30 {κ : KP} : lv κ 30 0 := lv_s (by decide) (by decide) (by decide) (by decide)
theorem lv_u30 {κ : KP} (n : Nat) (h : lv κ 30 n) : n = 0 := lv_u (by decide) (by decide) (by decide) n h
theorem lv_31 {κ : KP} : lv κ 31 0 := lv_s (by decide) (by decide) (by decide) (by decide)
theorem lv_u31 {κ : KP} (n : Nat) (h : lv κ 31 n) : n = 0 := lv_u (by decide) (by decide) (by decide) n h
theorem lv_32 {κ : KP} : lv κ 32 0 := lv_s (by decide) (by decide) (by decide) (by decide)
theorem lv_u32 {κ : KP} (n : Nat) (h : lv κ 32 n) : n = 0 := lv_u (by decide) (by decide) (by decide) n h
theorem lv_33 {κ : KP} : lv κ 33 0 := lv_s (by decide) (by decide) (by decide) (by decide)
theorem lv_u33 {κ : KP} (n : Nat) (h : lv κ 33 n) : n = 0 := lv_u (by decide) (by decide) (by decide) n h
theorem lv_34 {κ : KP} : lv κ 34 0 := lv_s (by decide) (by decide) (by decide) (by decide)
theorem lv_u34 {κ : KP} (n : Nat) (h : lv κ 34 n) : n = 0 := lv_u (by decide) (by decide) (by decide) n h
theorem lv_35 {κ : KP} : lv κ 35 0 := lv_s (by decide) (by decide) (by decide) (by decide)
theorem lv_u35 {κ : KP} (n : Nat) (h : lv κ 35 n) : n = 0 := lv_u (by decide) (by decide) (by decide) n h
theorem lv_36 {κ : KP} : lv κ 36 0 := lv_s (by decide) (by decide) (by decide) (by decide)
theorem lv_u36 {κ : KP} (n : Nat) (h : lv κ 36 n) : n = 0 := lv_u (by decide) (by decide) (by decide) n h
theorem lv_37 {κ : KP} : lv κ 37 0 := lv_s (by decide) (by decide) (by decide) (by decide)
theorem lv_u37 {κ : KP} (n : Nat) (h : lv κ 37 n) : n = 0 := lv_u (by decide) (by decide) (by decide) n h
theorem lv_38 {κ : KP} : lv κ 38 0 := lv_s (by decide) (by decide) (by decide) (by decide)
theorem lv_u38 {κ : KP} (n : Nat) (h : lv κ 38 n) : n = 0 := lv_u (by decide) (by decide) (by decide) n h
theorem lv_39 {κ : KP} : lv κ 39 0 := lv_s (by decide) (by decide) (by decide) (by decide)
theorem lv_u39 {κ : KP} (n : Nat) (h : lv κ 39 n) : n = 0 := lv_u (by decide) (by decide) (by decide) n h
theorem lv_40 {κ : KP} : lv κ 40 0 := lv_s (by decide) (by decide) (by decide) (by decide)
theorem lv_u40 {κ : KP} (n : Nat) (h : lv κ 40 n) : n = 0 := lv_u (by decide) (by decide) (by decide) n h
theorem lv_41 {κ : KP} : lv κ 41 0 := lv_s (by decide) (by decide) (by decide) (by decide)
theorem lv_u41 {κ : KP} (n : Nat) (h : lv κ 41 n) : n = 0 := lv_u (by decide) (by decide) (by decide) n h
theorem inX0 : ∀ w ∈ u_ws RX0 TX0 10, w ∈ TW := by
  intro w hw
  obtain ⟨k, hk, rfl⟩ := List.mem_map.mp hw
  have hk := List.mem_range.mp hk
  match k, hk with
  | 0, _ => exact tw_419
  | 1, _ => exact tw_421
  | 2, _ => exact tw_423
  | 3, _ => exact tw_425
  | 4, _ => exact tw_427
  | 5, _ => exact tw_429
  | 6, _ => exact tw_431
  | 7, _ => exact tw_433
  | 8, _ => exact tw_435
  | 9, _ => exact tw_437
  | k + 10, hk => exact absurd hk (by omega)
theorem inX1 : ∀ w ∈ u_ws RX1 TX1 3, w ∈ TW := by
  intro w hw
  obtain ⟨k, hk, rfl⟩ := List.mem_map.mp hw
  have hk := List.mem_range.mp hk
  match k, hk with
  | 0, _ => exact tw_149
  | 1, _ => exact tw_151
  | 2, _ => exact tw_153
  | k + 3, hk => exact absurd hk (by omega)
theorem inX2 : ∀ w ∈ u_ws RX2 TX2 4, w ∈ TW := by
  intro w hw
  obtain ⟨k, hk, rfl⟩ := List.mem_map.mp hw
  have hk := List.mem_range.mp hk
  match k, hk with
  | 0, _ => exact tw_394
  | 1, _ => exact tw_396
  | 2, _ => exact tw_398
  | 3, _ => exact tw_400
  | k + 4, hk => exact absurd hk (by omega)
theorem inX3 : ∀ w ∈ u_ws RX3 TX3 1, w ∈ TW := by
  intro w hw
  obtain ⟨k, hk, rfl⟩ := List.mem_map.mp hw
  have hk := List.mem_range.mp hk
  match k, hk with
  | 0, _ => exact tw_164
  | k + 1, hk => exact absurd hk (by omega)
theorem inX4 : ∀ w ∈ u_ws RX4 TX4 7, w ∈ TW := by
  intro w hw
  obtain ⟨k, hk, rfl⟩ := List.mem_map.mp hw
  have hk := List.mem_range.mp hk
  match k, hk with
  | 0, _ => exact tw_124
  | 1, _ => exact tw_126
  | 2, _ => exact tw_128
  | 3, _ => exact tw_130
  | 4, _ => exact tw_132
  | 5, _ => exact tw_134
  | 6, _ => exact tw_136
  | k + 7, hk => exact absurd hk (by omega)
theorem inX5 : ∀ w ∈ u_ws RX5 TX5 5, w ∈ TW := by
  intro w hw
  obtain ⟨k, hk, rfl⟩ := List.mem_map.mp hw
  have hk := List.mem_range.mp hk
  match k, hk with
  | 0, _ => exact tw_698
  | 1, _ => exact tw_700
  | 2, _ => exact tw_702
  | 3, _ => exact tw_704
  | 4, _ => exact tw_706
  | k + 5, hk => exact absurd hk (by omega)
theorem inX6 : ∀ w ∈ u_ws RX6 TX6 5, w ∈ TW := by
  intro w hw
  obtain ⟨k, hk, rfl⟩ := List.mem_map.mp hw
  have hk := List.mem_range.mp hk
  match k, hk with
  | 0, _ => exact tw_104
  | 1, _ => exact tw_106
  | 2, _ => exact tw_108
  | 3, _ => exact tw_110
  | 4, _ => exact tw_112
  | k + 5, hk => exact absurd hk (by omega)
theorem inX7 : ∀ w ∈ u_ws RX7 TX7 10, w ∈ TW := by
  intro w hw
  obtain ⟨k, hk, rfl⟩ := List.mem_map.mp hw
  have hk := List.mem_range.mp hk
  match k, hk with
  | 0, _ => exact tw_177
  | 1, _ => exact tw_179
  | 2, _ => exact tw_181
  | 3, _ => exact tw_183
  | 4, _ => exact tw_185
  | 5, _ => exact tw_187
  | 6, _ => exact tw_189
  | 7, _ => exact tw_191
  | 8, _ => exact tw_193
  | 9, _ => exact tw_195
  | k + 10, hk => exact absurd hk (by omega)
theorem inX8 : ∀ w ∈ u_ws RX8 TX8 32, w ∈ TW := by
  intro w hw
  obtain ⟨k, hk, rfl⟩ := List.mem_map.mp hw
  have hk := List.mem_range.mp hk
  match k, hk with
  | 0, _ => exact tw_954
  | 1, _ => exact tw_956
  | 2, _ => exact tw_958
  | 3, _ => exact tw_960
  | 4, _ => exact tw_962
  | 5, _ => exact tw_964
  | 6, _ => exact tw_966
  | 7, _ => exact tw_968
  | 8, _ => exact tw_970
  | 9, _ => exact tw_972
  | 10, _ => exact tw_974
  | 11, _ => exact tw_976
  | 12, _ => exact tw_978
  | 13, _ => exact tw_980
  | 14, _ => exact tw_982
  | 15, _ => exact tw_984
  | 16, _ => exact tw_986
  | 17, _ => exact tw_988
  | 18, _ => exact tw_990
  | 19, _ => exact tw_992
  | 20, _ => exact tw_994
  | 21, _ => exact tw_996
  | 22, _ => exact tw_998
  | 23, _ => exact tw_1000
  | 24, _ => exact tw_1002
  | 25, _ => exact tw_1004
  | 26, _ => exact tw_1006
  | 27, _ => exact tw_1008
  | 28, _ => exact tw_1010
  | 29, _ => exact tw_1012
  | 30, _ => exact tw_1014
  | 31, _ => exact tw_1016
  | k + 32, hk => exact absurd hk (by omega)
theorem pe_0_5 (κ : KP) (γ : St) (n : Nat) (v : Int32) : cel κ (sV γ 0 n 5 v) 0 n = .inr (0, ([.ref (kA κ 2 (2 * n)), .ref (kA κ 2 (2 * n + 1)), .int (gV γ 0 n 2), .int (gV γ 0 n 3), .int (gV γ 0 n 4), .int (gV γ 0 n 5), .int (gV γ 0 n 6), .int (gV γ 0 n 7), .int (gV γ 0 n 8), .int (gV γ 0 n 9)] : List Value).set 5 (.int v)) := by simp [cel, cel0, gV_sV, gL_sV, gR_sV]
theorem pe_0_6 (κ : KP) (γ : St) (n : Nat) (v : Int32) : cel κ (sV γ 0 n 6 v) 0 n = .inr (0, ([.ref (kA κ 2 (2 * n)), .ref (kA κ 2 (2 * n + 1)), .int (gV γ 0 n 2), .int (gV γ 0 n 3), .int (gV γ 0 n 4), .int (gV γ 0 n 5), .int (gV γ 0 n 6), .int (gV γ 0 n 7), .int (gV γ 0 n 8), .int (gV γ 0 n 9)] : List Value).set 6 (.int v)) := by simp [cel, cel0, gV_sV, gL_sV, gR_sV]
theorem pe_0_7 (κ : KP) (γ : St) (n : Nat) (v : Int32) : cel κ (sV γ 0 n 7 v) 0 n = .inr (0, ([.ref (kA κ 2 (2 * n)), .ref (kA κ 2 (2 * n + 1)), .int (gV γ 0 n 2), .int (gV γ 0 n 3), .int (gV γ 0 n 4), .int (gV γ 0 n 5), .int (gV γ 0 n 6), .int (gV γ 0 n 7), .int (gV γ 0 n 8), .int (gV γ 0 n 9)] : List Value).set 7 (.int v)) := by simp [cel, cel0, gV_sV, gL_sV, gR_sV]
theorem pe_0_8 (κ : KP) (γ : St) (n : Nat) (v : Int32) : cel κ (sV γ 0 n 8 v) 0 n = .inr (0, ([.ref (kA κ 2 (2 * n)), .ref (kA κ 2 (2 * n + 1)), .int (gV γ 0 n 2), .int (gV γ 0 n 3), .int (gV γ 0 n 4), .int (gV γ 0 n 5), .int (gV γ 0 n 6), .int (gV γ 0 n 7), .int (gV γ 0 n 8), .int (gV γ 0 n 9)] : List Value).set 8 (.int v)) := by simp [cel, cel0, gV_sV, gL_sV, gR_sV]
theorem pe_0_9 (κ : KP) (γ : St) (n : Nat) (v : Int32) : cel κ (sV γ 0 n 9 v) 0 n = .inr (0, ([.ref (kA κ 2 (2 * n)), .ref (kA κ 2 (2 * n + 1)), .int (gV γ 0 n 2), .int (gV γ 0 n 3), .int (gV γ 0 n 4), .int (gV γ 0 n 5), .int (gV γ 0 n 6), .int (gV γ 0 n 7), .int (gV γ 0 n 8), .int (gV γ 0 n 9)] : List Value).set 9 (.int v)) := by simp [cel, cel0, gV_sV, gL_sV, gR_sV]
theorem pe_1_2 (κ : KP) (γ : St) (n : Nat) (v : Int32) : cel κ (sV γ 1 n 2 v) 1 n = .inr (1, ([.ref (kA κ 16 n), .ref (kA κ 17 n), .int (gV γ 1 n 2)] : List Value).set 2 (.int v)) := by simp [cel, cel0, gV_sV, gL_sV, gR_sV]
theorem pe_2_1 (κ : KP) (γ : St) (n : Nat) (v : Int32) : cel κ (sV γ 2 n 1 v) 2 n = .inr (2, ([.int (gV γ 2 n 0), .int (gV γ 2 n 1), .int (gV γ 2 n 2), .int (gV γ 2 n 3)] : List Value).set 1 (.int v)) := by simp [cel, cel0, gV_sV, gL_sV, gR_sV]
theorem pe_2_2 (κ : KP) (γ : St) (n : Nat) (v : Int32) : cel κ (sV γ 2 n 2 v) 2 n = .inr (2, ([.int (gV γ 2 n 0), .int (gV γ 2 n 1), .int (gV γ 2 n 2), .int (gV γ 2 n 3)] : List Value).set 2 (.int v)) := by simp [cel, cel0, gV_sV, gL_sV, gR_sV]
theorem pe_2_3 (κ : KP) (γ : St) (n : Nat) (v : Int32) : cel κ (sV γ 2 n 3 v) 2 n = .inr (2, ([.int (gV γ 2 n 0), .int (gV γ 2 n 1), .int (gV γ 2 n 2), .int (gV γ 2 n 3)] : List Value).set 3 (.int v)) := by simp [cel, cel0, gV_sV, gL_sV, gR_sV]
theorem pe_4_6 (κ : KP) (γ : St) (n : Nat) (v : Int32) : cel κ (sV γ 4 n 6 v) 4 n = .inr (4, ([.ref (kA κ 11 n), .ref (kA κ 12 n), .ref (kA κ 13 n), .ref (kA κ 14 n), .ref (kA κ 15 n), .ref (kA κ 6 (n)), .int (gV γ 4 n 6)] : List Value).set 6 (.int v)) := by simp [cel, cel0, gV_sV, gL_sV, gR_sV]
theorem pe_5_4 (κ : KP) (γ : St) (n : Nat) (v : Int32) : cel κ (sV γ 5 n 4 v) 5 n = .inr (5, ([.int (gV γ 5 n 0), .int (gV γ 5 n 1), .ref (kA κ 18 n), .ref (kA κ 19 n), .int (gV γ 5 n 4)] : List Value).set 4 (.int v)) := by simp [cel, cel0, gV_sV, gL_sV, gR_sV]
theorem pe_6_0 (κ : KP) (γ : St) (n : Nat) (v : Int32) : cel κ (sV γ 6 n 0 v) 6 n = .inr (6, ([.int (gV γ 6 n 0), .int (gV γ 6 n 1), .int (gV γ 6 n 2), .int (gV γ 6 n 3), .int (gV γ 6 n 4)] : List Value).set 0 (.int v)) := by simp [cel, cel0, gV_sV, gL_sV, gR_sV]
theorem pe_6_1 (κ : KP) (γ : St) (n : Nat) (v : Int32) : cel κ (sV γ 6 n 1 v) 6 n = .inr (6, ([.int (gV γ 6 n 0), .int (gV γ 6 n 1), .int (gV γ 6 n 2), .int (gV γ 6 n 3), .int (gV γ 6 n 4)] : List Value).set 1 (.int v)) := by simp [cel, cel0, gV_sV, gL_sV, gR_sV]
theorem pe_6_2 (κ : KP) (γ : St) (n : Nat) (v : Int32) : cel κ (sV γ 6 n 2 v) 6 n = .inr (6, ([.int (gV γ 6 n 0), .int (gV γ 6 n 1), .int (gV γ 6 n 2), .int (gV γ 6 n 3), .int (gV γ 6 n 4)] : List Value).set 2 (.int v)) := by simp [cel, cel0, gV_sV, gL_sV, gR_sV]
theorem pe_6_3 (κ : KP) (γ : St) (n : Nat) (v : Int32) : cel κ (sV γ 6 n 3 v) 6 n = .inr (6, ([.int (gV γ 6 n 0), .int (gV γ 6 n 1), .int (gV γ 6 n 2), .int (gV γ 6 n 3), .int (gV γ 6 n 4)] : List Value).set 3 (.int v)) := by simp [cel, cel0, gV_sV, gL_sV, gR_sV]
theorem pe_6_4 (κ : KP) (γ : St) (n : Nat) (v : Int32) : cel κ (sV γ 6 n 4 v) 6 n = .inr (6, ([.int (gV γ 6 n 0), .int (gV γ 6 n 1), .int (gV γ 6 n 2), .int (gV γ 6 n 3), .int (gV γ 6 n 4)] : List Value).set 4 (.int v)) := by simp [cel, cel0, gV_sV, gL_sV, gR_sV]
theorem pe_7_5 (κ : KP) (γ : St) (n : Nat) (v : Int32) : cel κ (sV γ 7 n 5 v) 7 n = .inr (7, ([.ref (kA κ 9 0), .ref (kA κ 10 0), .ref (kA κ 4 (0)), .ref (kA κ 1 (0)), .ref (kA κ 3 (0)), .int (gV γ 7 n 5), .int (gV γ 7 n 6), .int (gV γ 7 n 7), va_rf ((gR γ 7 8).map (kA κ 0)), .int (gV γ 7 n 9)] : List Value).set 5 (.int v)) := by simp [cel, cel0, gV_sV, gL_sV, gR_sV]
theorem pe_7_6 (κ : KP) (γ : St) (n : Nat) (v : Int32) : cel κ (sV γ 7 n 6 v) 7 n = .inr (7, ([.ref (kA κ 9 0), .ref (kA κ 10 0), .ref (kA κ 4 (0)), .ref (kA κ 1 (0)), .ref (kA κ 3 (0)), .int (gV γ 7 n 5), .int (gV γ 7 n 6), .int (gV γ 7 n 7), va_rf ((gR γ 7 8).map (kA κ 0)), .int (gV γ 7 n 9)] : List Value).set 6 (.int v)) := by simp [cel, cel0, gV_sV, gL_sV, gR_sV]
theorem pe_7_9 (κ : KP) (γ : St) (n : Nat) (v : Int32) : cel κ (sV γ 7 n 9 v) 7 n = .inr (7, ([.ref (kA κ 9 0), .ref (kA κ 10 0), .ref (kA κ 4 (0)), .ref (kA κ 1 (0)), .ref (kA κ 3 (0)), .int (gV γ 7 n 5), .int (gV γ 7 n 6), .int (gV γ 7 n 7), va_rf ((gR γ 7 8).map (kA κ 0)), .int (gV γ 7 n 9)] : List Value).set 9 (.int v)) := by simp [cel, cel0, gV_sV, gL_sV, gR_sV]
theorem pe_8_0 (κ : KP) (γ : St) (n : Nat) (v : Int32) : cel κ (sV γ 8 n 0 v) 8 n = .inr (8, ([.int (gV γ 8 n 0), .long (gL γ 8 1), .int (gV γ 8 n 2), .int (gV γ 8 n 3), .int (gV γ 8 n 4), .ref (kA κ 20 0), .ref (kA κ 21 0), .ref (kA κ 22 0), .ref (kA κ 23 0), .ref (kA κ 24 0), .ref (kA κ 25 0), .ref (kA κ 26 0), .ref (kA κ 27 0), .ref (kA κ 28 0), .int (gV γ 8 n 14), .ref (kA κ 29 0), .ref (kA κ 30 0), .int (gV γ 8 n 17), .ref (kA κ 31 0), .ref (kA κ 32 0), .ref (kA κ 33 0), .ref (kA κ 34 0), .ref (kA κ 35 0), .int (gV γ 8 n 23), .ref (kA κ 36 0), .ref (kA κ 37 0), .ref (kA κ 38 0), .int (gV γ 8 n 27), .ref (kA κ 39 0), .ref (kA κ 40 0), .int (gV γ 8 n 30), .int (gV γ 8 n 31)] : List Value).set 0 (.int v)) := by simp [cel, cel0, gV_sV, gL_sV, gR_sV]
theorem pe_8_2 (κ : KP) (γ : St) (n : Nat) (v : Int32) : cel κ (sV γ 8 n 2 v) 8 n = .inr (8, ([.int (gV γ 8 n 0), .long (gL γ 8 1), .int (gV γ 8 n 2), .int (gV γ 8 n 3), .int (gV γ 8 n 4), .ref (kA κ 20 0), .ref (kA κ 21 0), .ref (kA κ 22 0), .ref (kA κ 23 0), .ref (kA κ 24 0), .ref (kA κ 25 0), .ref (kA κ 26 0), .ref (kA κ 27 0), .ref (kA κ 28 0), .int (gV γ 8 n 14), .ref (kA κ 29 0), .ref (kA κ 30 0), .int (gV γ 8 n 17), .ref (kA κ 31 0), .ref (kA κ 32 0), .ref (kA κ 33 0), .ref (kA κ 34 0), .ref (kA κ 35 0), .int (gV γ 8 n 23), .ref (kA κ 36 0), .ref (kA κ 37 0), .ref (kA κ 38 0), .int (gV γ 8 n 27), .ref (kA κ 39 0), .ref (kA κ 40 0), .int (gV γ 8 n 30), .int (gV γ 8 n 31)] : List Value).set 2 (.int v)) := by simp [cel, cel0, gV_sV, gL_sV, gR_sV]
theorem pe_8_3 (κ : KP) (γ : St) (n : Nat) (v : Int32) : cel κ (sV γ 8 n 3 v) 8 n = .inr (8, ([.int (gV γ 8 n 0), .long (gL γ 8 1), .int (gV γ 8 n 2), .int (gV γ 8 n 3), .int (gV γ 8 n 4), .ref (kA κ 20 0), .ref (kA κ 21 0), .ref (kA κ 22 0), .ref (kA κ 23 0), .ref (kA κ 24 0), .ref (kA κ 25 0), .ref (kA κ 26 0), .ref (kA κ 27 0), .ref (kA κ 28 0), .int (gV γ 8 n 14), .ref (kA κ 29 0), .ref (kA κ 30 0), .int (gV γ 8 n 17), .ref (kA κ 31 0), .ref (kA κ 32 0), .ref (kA κ 33 0), .ref (kA κ 34 0), .ref (kA κ 35 0), .int (gV γ 8 n 23), .ref (kA κ 36 0), .ref (kA κ 37 0), .ref (kA κ 38 0), .int (gV γ 8 n 27), .ref (kA κ 39 0), .ref (kA κ 40 0), .int (gV γ 8 n 30), .int (gV γ 8 n 31)] : List Value).set 3 (.int v)) := by simp [cel, cel0, gV_sV, gL_sV, gR_sV]
theorem pe_8_4 (κ : KP) (γ : St) (n : Nat) (v : Int32) : cel κ (sV γ 8 n 4 v) 8 n = .inr (8, ([.int (gV γ 8 n 0), .long (gL γ 8 1), .int (gV γ 8 n 2), .int (gV γ 8 n 3), .int (gV γ 8 n 4), .ref (kA κ 20 0), .ref (kA κ 21 0), .ref (kA κ 22 0), .ref (kA κ 23 0), .ref (kA κ 24 0), .ref (kA κ 25 0), .ref (kA κ 26 0), .ref (kA κ 27 0), .ref (kA κ 28 0), .int (gV γ 8 n 14), .ref (kA κ 29 0), .ref (kA κ 30 0), .int (gV γ 8 n 17), .ref (kA κ 31 0), .ref (kA κ 32 0), .ref (kA κ 33 0), .ref (kA κ 34 0), .ref (kA κ 35 0), .int (gV γ 8 n 23), .ref (kA κ 36 0), .ref (kA κ 37 0), .ref (kA κ 38 0), .int (gV γ 8 n 27), .ref (kA κ 39 0), .ref (kA κ 40 0), .int (gV γ 8 n 30), .int (gV γ 8 n 31)] : List Value).set 4 (.int v)) := by simp [cel, cel0, gV_sV, gL_sV, gR_sV]
theorem pe_8_14 (κ : KP) (γ : St) (n : Nat) (v : Int32) : cel κ (sV γ 8 n 14 v) 8 n = .inr (8, ([.int (gV γ 8 n 0), .long (gL γ 8 1), .int (gV γ 8 n 2), .int (gV γ 8 n 3), .int (gV γ 8 n 4), .ref (kA κ 20 0), .ref (kA κ 21 0), .ref (kA κ 22 0), .ref (kA κ 23 0), .ref (kA κ 24 0), .ref (kA κ 25 0), .ref (kA κ 26 0), .ref (kA κ 27 0), .ref (kA κ 28 0), .int (gV γ 8 n 14), .ref (kA κ 29 0), .ref (kA κ 30 0), .int (gV γ 8 n 17), .ref (kA κ 31 0), .ref (kA κ 32 0), .ref (kA κ 33 0), .ref (kA κ 34 0), .ref (kA κ 35 0), .int (gV γ 8 n 23), .ref (kA κ 36 0), .ref (kA κ 37 0), .ref (kA κ 38 0), .int (gV γ 8 n 27), .ref (kA κ 39 0), .ref (kA κ 40 0), .int (gV γ 8 n 30), .int (gV γ 8 n 31)] : List Value).set 14 (.int v)) := by simp [cel, cel0, gV_sV, gL_sV, gR_sV]
theorem pe_8_17 (κ : KP) (γ : St) (n : Nat) (v : Int32) : cel κ (sV γ 8 n 17 v) 8 n = .inr (8, ([.int (gV γ 8 n 0), .long (gL γ 8 1), .int (gV γ 8 n 2), .int (gV γ 8 n 3), .int (gV γ 8 n 4), .ref (kA κ 20 0), .ref (kA κ 21 0), .ref (kA κ 22 0), .ref (kA κ 23 0), .ref (kA κ 24 0), .ref (kA κ 25 0), .ref (kA κ 26 0), .ref (kA κ 27 0), .ref (kA κ 28 0), .int (gV γ 8 n 14), .ref (kA κ 29 0), .ref (kA κ 30 0), .int (gV γ 8 n 17), .ref (kA κ 31 0), .ref (kA κ 32 0), .ref (kA κ 33 0), .ref (kA κ 34 0), .ref (kA κ 35 0), .int (gV γ 8 n 23), .ref (kA κ 36 0), .ref (kA κ 37 0), .ref (kA κ 38 0), .int (gV γ 8 n 27), .ref (kA κ 39 0), .ref (kA κ 40 0), .int (gV γ 8 n 30), .int (gV γ 8 n 31)] : List Value).set 17 (.int v)) := by simp [cel, cel0, gV_sV, gL_sV, gR_sV]
theorem pe_8_23 (κ : KP) (γ : St) (n : Nat) (v : Int32) : cel κ (sV γ 8 n 23 v) 8 n = .inr (8, ([.int (gV γ 8 n 0), .long (gL γ 8 1), .int (gV γ 8 n 2), .int (gV γ 8 n 3), .int (gV γ 8 n 4), .ref (kA κ 20 0), .ref (kA κ 21 0), .ref (kA κ 22 0), .ref (kA κ 23 0), .ref (kA κ 24 0), .ref (kA κ 25 0), .ref (kA κ 26 0), .ref (kA κ 27 0), .ref (kA κ 28 0), .int (gV γ 8 n 14), .ref (kA κ 29 0), .ref (kA κ 30 0), .int (gV γ 8 n 17), .ref (kA κ 31 0), .ref (kA κ 32 0), .ref (kA κ 33 0), .ref (kA κ 34 0), .ref (kA κ 35 0), .int (gV γ 8 n 23), .ref (kA κ 36 0), .ref (kA κ 37 0), .ref (kA κ 38 0), .int (gV γ 8 n 27), .ref (kA κ 39 0), .ref (kA κ 40 0), .int (gV γ 8 n 30), .int (gV γ 8 n 31)] : List Value).set 23 (.int v)) := by simp [cel, cel0, gV_sV, gL_sV, gR_sV]
theorem pe_8_27 (κ : KP) (γ : St) (n : Nat) (v : Int32) : cel κ (sV γ 8 n 27 v) 8 n = .inr (8, ([.int (gV γ 8 n 0), .long (gL γ 8 1), .int (gV γ 8 n 2), .int (gV γ 8 n 3), .int (gV γ 8 n 4), .ref (kA κ 20 0), .ref (kA κ 21 0), .ref (kA κ 22 0), .ref (kA κ 23 0), .ref (kA κ 24 0), .ref (kA κ 25 0), .ref (kA κ 26 0), .ref (kA κ 27 0), .ref (kA κ 28 0), .int (gV γ 8 n 14), .ref (kA κ 29 0), .ref (kA κ 30 0), .int (gV γ 8 n 17), .ref (kA κ 31 0), .ref (kA κ 32 0), .ref (kA κ 33 0), .ref (kA κ 34 0), .ref (kA κ 35 0), .int (gV γ 8 n 23), .ref (kA κ 36 0), .ref (kA κ 37 0), .ref (kA κ 38 0), .int (gV γ 8 n 27), .ref (kA κ 39 0), .ref (kA κ 40 0), .int (gV γ 8 n 30), .int (gV γ 8 n 31)] : List Value).set 27 (.int v)) := by simp [cel, cel0, gV_sV, gL_sV, gR_sV]
theorem pe_8_30 (κ : KP) (γ : St) (n : Nat) (v : Int32) : cel κ (sV γ 8 n 30 v) 8 n = .inr (8, ([.int (gV γ 8 n 0), .long (gL γ 8 1), .int (gV γ 8 n 2), .int (gV γ 8 n 3), .int (gV γ 8 n 4), .ref (kA κ 20 0), .ref (kA κ 21 0), .ref (kA κ 22 0), .ref (kA κ 23 0), .ref (kA κ 24 0), .ref (kA κ 25 0), .ref (kA κ 26 0), .ref (kA κ 27 0), .ref (kA κ 28 0), .int (gV γ 8 n 14), .ref (kA κ 29 0), .ref (kA κ 30 0), .int (gV γ 8 n 17), .ref (kA κ 31 0), .ref (kA κ 32 0), .ref (kA κ 33 0), .ref (kA κ 34 0), .ref (kA κ 35 0), .int (gV γ 8 n 23), .ref (kA κ 36 0), .ref (kA κ 37 0), .ref (kA κ 38 0), .int (gV γ 8 n 27), .ref (kA κ 39 0), .ref (kA κ 40 0), .int (gV γ 8 n 30), .int (gV γ 8 n 31)] : List Value).set 30 (.int v)) := by simp [cel, cel0, gV_sV, gL_sV, gR_sV]
theorem pe_8_31 (κ : KP) (γ : St) (n : Nat) (v : Int32) : cel κ (sV γ 8 n 31 v) 8 n = .inr (8, ([.int (gV γ 8 n 0), .long (gL γ 8 1), .int (gV γ 8 n 2), .int (gV γ 8 n 3), .int (gV γ 8 n 4), .ref (kA κ 20 0), .ref (kA κ 21 0), .ref (kA κ 22 0), .ref (kA κ 23 0), .ref (kA κ 24 0), .ref (kA κ 25 0), .ref (kA κ 26 0), .ref (kA κ 27 0), .ref (kA κ 28 0), .int (gV γ 8 n 14), .ref (kA κ 29 0), .ref (kA κ 30 0), .int (gV γ 8 n 17), .ref (kA κ 31 0), .ref (kA κ 32 0), .ref (kA κ 33 0), .ref (kA κ 34 0), .ref (kA κ 35 0), .int (gV γ 8 n 23), .ref (kA κ 36 0), .ref (kA κ 37 0), .ref (kA κ 38 0), .int (gV γ 8 n 27), .ref (kA κ 39 0), .ref (kA κ 40 0), .int (gV γ 8 n 30), .int (gV γ 8 n 31)] : List Value).set 31 (.int v)) := by simp [cel, cel0, gV_sV, gL_sV, gR_sV]
theorem pl_3_0 (κ : KP) (γ : St) (v : Int64) : cel κ (sL γ 3 0 v) 3 0 = .inr (3, ([.long (gL γ 3 0)] : List Value).set 0 (.long v)) := by simp [cel, cel0, gV_sL, gL_sL, gR_sL]
theorem pl_8_1 (κ : KP) (γ : St) (v : Int64) : cel κ (sL γ 8 1 v) 8 0 = .inr (8, ([.int (gV γ 8 0 0), .long (gL γ 8 1), .int (gV γ 8 0 2), .int (gV γ 8 0 3), .int (gV γ 8 0 4), .ref (kA κ 20 0), .ref (kA κ 21 0), .ref (kA κ 22 0), .ref (kA κ 23 0), .ref (kA κ 24 0), .ref (kA κ 25 0), .ref (kA κ 26 0), .ref (kA κ 27 0), .ref (kA κ 28 0), .int (gV γ 8 0 14), .ref (kA κ 29 0), .ref (kA κ 30 0), .int (gV γ 8 0 17), .ref (kA κ 31 0), .ref (kA κ 32 0), .ref (kA κ 33 0), .ref (kA κ 34 0), .ref (kA κ 35 0), .int (gV γ 8 0 23), .ref (kA κ 36 0), .ref (kA κ 37 0), .ref (kA κ 38 0), .int (gV γ 8 0 27), .ref (kA κ 39 0), .ref (kA κ 40 0), .int (gV γ 8 0 30), .int (gV γ 8 0 31)] : List Value).set 1 (.long v)) := by simp [cel, cel0, gV_sL, gL_sL, gR_sL]
theorem pq_7_8 (κ : KP) (γ : St) (v : Option Nat) : cel κ (sR γ 7 8 v) 7 0 = .inr (7, ([.ref (kA κ 9 0), .ref (kA κ 10 0), .ref (kA κ 4 (0)), .ref (kA κ 1 (0)), .ref (kA κ 3 (0)), .int (gV γ 7 0 5), .int (gV γ 7 0 6), .int (gV γ 7 0 7), va_rf ((gR γ 7 8).map (kA κ 0)), .int (gV γ 7 0 9)] : List Value).set 8 (va_rf (v.map (kA κ 0)))) := by simp [cel, cel0, gV_sR, gL_sR, gR_sR]
theorem hd_J6_bitCount_0f7a4 : yJ6_bitCount_0f7a4.cls ≠ "java/lang/invoke/MethodHandle" ∧ yJ6_bitCount_0f7a4.cls ≠ "java/lang/invoke/VarHandle" ∧ (parseMethodDescriptor yJ6_bitCount_0f7a4.desc).map (fun d => d.parameters.length) = some 1 := ⟨by decide +kernel, by decide +kernel, by decide +kernel⟩
theorem hd_X0_addTouches : yX0_addTouches.cls = RX0 ∧ yX0_addTouches.cls ≠ "java/lang/invoke/MethodHandle" ∧ yX0_addTouches.cls ≠ "java/lang/invoke/VarHandle" ∧ (parseMethodDescriptor yX0_addTouches.desc).map (fun d => d.parameters.length) = some 1 := ⟨rfl, by decide +kernel, by decide +kernel, by decide +kernel⟩
theorem hd_X0_becomePassive : yX0_becomePassive.cls = RX0 ∧ yX0_becomePassive.cls ≠ "java/lang/invoke/MethodHandle" ∧ yX0_becomePassive.cls ≠ "java/lang/invoke/VarHandle" ∧ (parseMethodDescriptor yX0_becomePassive.desc).map (fun d => d.parameters.length) = some 0 := ⟨rfl, by decide +kernel, by decide +kernel, by decide +kernel⟩
theorem hd_X0_corner : yX0_corner.cls = RX0 ∧ yX0_corner.cls ≠ "java/lang/invoke/MethodHandle" ∧ yX0_corner.cls ≠ "java/lang/invoke/VarHandle" ∧ (parseMethodDescriptor yX0_corner.desc).map (fun d => d.parameters.length) = some 1 := ⟨rfl, by decide +kernel, by decide +kernel, by decide +kernel⟩
theorem hd_X0_finish : yX0_finish.cls = RX0 ∧ yX0_finish.cls ≠ "java/lang/invoke/MethodHandle" ∧ yX0_finish.cls ≠ "java/lang/invoke/VarHandle" ∧ (parseMethodDescriptor yX0_finish.desc).map (fun d => d.parameters.length) = some 1 := ⟨rfl, by decide +kernel, by decide +kernel, by decide +kernel⟩
theorem hd_X0_giveCard : yX0_giveCard.cls = RX0 ∧ yX0_giveCard.cls ≠ "java/lang/invoke/MethodHandle" ∧ yX0_giveCard.cls ≠ "java/lang/invoke/VarHandle" ∧ (parseMethodDescriptor yX0_giveCard.desc).map (fun d => d.parameters.length) = some 2 := ⟨rfl, by decide +kernel, by decide +kernel, by decide +kernel⟩
theorem hd_X0_giveTouches : yX0_giveTouches.cls = RX0 ∧ yX0_giveTouches.cls ≠ "java/lang/invoke/MethodHandle" ∧ yX0_giveTouches.cls ≠ "java/lang/invoke/VarHandle" ∧ (parseMethodDescriptor yX0_giveTouches.desc).map (fun d => d.parameters.length) = some 1 := ⟨rfl, by decide +kernel, by decide +kernel, by decide +kernel⟩
theorem hd_X0_has : yX0_has.cls = RX0 ∧ yX0_has.cls ≠ "java/lang/invoke/MethodHandle" ∧ yX0_has.cls ≠ "java/lang/invoke/VarHandle" ∧ (parseMethodDescriptor yX0_has.desc).map (fun d => d.parameters.length) = some 1 := ⟨rfl, by decide +kernel, by decide +kernel, by decide +kernel⟩
theorem hd_X0_isDoubleTooFar : yX0_isDoubleTooFar.cls = RX0 ∧ yX0_isDoubleTooFar.cls ≠ "java/lang/invoke/MethodHandle" ∧ yX0_isDoubleTooFar.cls ≠ "java/lang/invoke/VarHandle" ∧ (parseMethodDescriptor yX0_isDoubleTooFar.desc).map (fun d => d.parameters.length) = some 0 := ⟨rfl, by decide +kernel, by decide +kernel, by decide +kernel⟩
theorem hd_X0_isLike : yX0_isLike.cls = RX0 ∧ yX0_isLike.cls ≠ "java/lang/invoke/MethodHandle" ∧ yX0_isLike.cls ≠ "java/lang/invoke/VarHandle" ∧ (parseMethodDescriptor yX0_isLike.desc).map (fun d => d.parameters.length) = some 0 := ⟨rfl, by decide +kernel, by decide +kernel, by decide +kernel⟩
theorem hd_X0_isOver : yX0_isOver.cls = RX0 ∧ yX0_isOver.cls ≠ "java/lang/invoke/MethodHandle" ∧ yX0_isOver.cls ≠ "java/lang/invoke/VarHandle" ∧ (parseMethodDescriptor yX0_isOver.desc).map (fun d => d.parameters.length) = some 0 := ⟨rfl, by decide +kernel, by decide +kernel, by decide +kernel⟩
theorem hd_X0_leader : yX0_leader.cls = RX0 ∧ yX0_leader.cls ≠ "java/lang/invoke/MethodHandle" ∧ yX0_leader.cls ≠ "java/lang/invoke/VarHandle" ∧ (parseMethodDescriptor yX0_leader.desc).map (fun d => d.parameters.length) = some 0 := ⟨rfl, by decide +kernel, by decide +kernel, by decide +kernel⟩
theorem hd_X0_lookAtTime : yX0_lookAtTime.cls = RX0 ∧ yX0_lookAtTime.cls ≠ "java/lang/invoke/MethodHandle" ∧ yX0_lookAtTime.cls ≠ "java/lang/invoke/VarHandle" ∧ (parseMethodDescriptor yX0_lookAtTime.desc).map (fun d => d.parameters.length) = some 1 := ⟨rfl, by decide +kernel, by decide +kernel, by decide +kernel⟩
theorem hd_X0_passSecond : yX0_passSecond.cls = RX0 ∧ yX0_passSecond.cls ≠ "java/lang/invoke/MethodHandle" ∧ yX0_passSecond.cls ≠ "java/lang/invoke/VarHandle" ∧ (parseMethodDescriptor yX0_passSecond.desc).map (fun d => d.parameters.length) = some 1 := ⟨rfl, by decide +kernel, by decide +kernel, by decide +kernel⟩
theorem hd_X0_secondsLeft : yX0_secondsLeft.cls = RX0 ∧ yX0_secondsLeft.cls ≠ "java/lang/invoke/MethodHandle" ∧ yX0_secondsLeft.cls ≠ "java/lang/invoke/VarHandle" ∧ (parseMethodDescriptor yX0_secondsLeft.desc).map (fun d => d.parameters.length) = some 0 := ⟨rfl, by decide +kernel, by decide +kernel, by decide +kernel⟩
theorem hd_X0_share : yX0_share.cls = RX0 ∧ yX0_share.cls ≠ "java/lang/invoke/MethodHandle" ∧ yX0_share.cls ≠ "java/lang/invoke/VarHandle" ∧ (parseMethodDescriptor yX0_share.desc).map (fun d => d.parameters.length) = some 2 := ⟨rfl, by decide +kernel, by decide +kernel, by decide +kernel⟩
theorem hd_X0_sideOf : yX0_sideOf.cls = RX0 ∧ yX0_sideOf.cls ≠ "java/lang/invoke/MethodHandle" ∧ yX0_sideOf.cls ≠ "java/lang/invoke/VarHandle" ∧ (parseMethodDescriptor yX0_sideOf.desc).map (fun d => d.parameters.length) = some 1 := ⟨rfl, by decide +kernel, by decide +kernel, by decide +kernel⟩
theorem hd_X0_timeLimit : yX0_timeLimit.cls = RX0 ∧ yX0_timeLimit.cls ≠ "java/lang/invoke/MethodHandle" ∧ yX0_timeLimit.cls ≠ "java/lang/invoke/VarHandle" ∧ (parseMethodDescriptor yX0_timeLimit.desc).map (fun d => d.parameters.length) = some 0 := ⟨rfl, by decide +kernel, by decide +kernel, by decide +kernel⟩
theorem hd_X0_told : yX0_told.cls = RX0 ∧ yX0_told.cls ≠ "java/lang/invoke/MethodHandle" ∧ yX0_told.cls ≠ "java/lang/invoke/VarHandle" ∧ (parseMethodDescriptor yX0_told.desc).map (fun d => d.parameters.length) = some 1 := ⟨rfl, by decide +kernel, by decide +kernel, by decide +kernel⟩
theorem hd_X1_at : yX1_at.cls = RX1 ∧ yX1_at.cls ≠ "java/lang/invoke/MethodHandle" ∧ yX1_at.cls ≠ "java/lang/invoke/VarHandle" ∧ (parseMethodDescriptor yX1_at.desc).map (fun d => d.parameters.length) = some 1 := ⟨rfl, by decide +kernel, by decide +kernel, by decide +kernel⟩
theorem hd_X1_fencerIn : yX1_fencerIn.cls = RX1 ∧ yX1_fencerIn.cls ≠ "java/lang/invoke/MethodHandle" ∧ yX1_fencerIn.cls ≠ "java/lang/invoke/VarHandle" ∧ (parseMethodDescriptor yX1_fencerIn.desc).map (fun d => d.parameters.length) = some 3 := ⟨rfl, by decide +kernel, by decide +kernel, by decide +kernel⟩
theorem hd_X1_hasMatch : yX1_hasMatch.cls = RX1 ∧ yX1_hasMatch.cls ≠ "java/lang/invoke/MethodHandle" ∧ yX1_hasMatch.cls ≠ "java/lang/invoke/VarHandle" ∧ (parseMethodDescriptor yX1_hasMatch.desc).map (fun d => d.parameters.length) = some 2 := ⟨rfl, by decide +kernel, by decide +kernel, by decide +kernel⟩
theorem hd_X1_isOpen : yX1_isOpen.cls = RX1 ∧ yX1_isOpen.cls ≠ "java/lang/invoke/MethodHandle" ∧ yX1_isOpen.cls ≠ "java/lang/invoke/VarHandle" ∧ (parseMethodDescriptor yX1_isOpen.desc).map (fun d => d.parameters.length) = some 2 := ⟨rfl, by decide +kernel, by decide +kernel, by decide +kernel⟩
theorem hd_X1_leastPlaces : yX1_leastPlaces.cls ≠ "java/lang/invoke/MethodHandle" ∧ yX1_leastPlaces.cls ≠ "java/lang/invoke/VarHandle" ∧ (parseMethodDescriptor yX1_leastPlaces.desc).map (fun d => d.parameters.length) = some 1 := ⟨by decide +kernel, by decide +kernel, by decide +kernel⟩
theorem hd_X1_makeFrom : yX1_makeFrom.cls = RX1 ∧ yX1_makeFrom.cls ≠ "java/lang/invoke/MethodHandle" ∧ yX1_makeFrom.cls ≠ "java/lang/invoke/VarHandle" ∧ (parseMethodDescriptor yX1_makeFrom.desc).map (fun d => d.parameters.length) = some 1 := ⟨rfl, by decide +kernel, by decide +kernel, by decide +kernel⟩
theorem hd_X1_matchesIn : yX1_matchesIn.cls = RX1 ∧ yX1_matchesIn.cls ≠ "java/lang/invoke/MethodHandle" ∧ yX1_matchesIn.cls ≠ "java/lang/invoke/VarHandle" ∧ (parseMethodDescriptor yX1_matchesIn.desc).map (fun d => d.parameters.length) = some 1 := ⟨rfl, by decide +kernel, by decide +kernel, by decide +kernel⟩
theorem hd_X1_nodeOf : yX1_nodeOf.cls = RX1 ∧ yX1_nodeOf.cls ≠ "java/lang/invoke/MethodHandle" ∧ yX1_nodeOf.cls ≠ "java/lang/invoke/VarHandle" ∧ (parseMethodDescriptor yX1_nodeOf.desc).map (fun d => d.parameters.length) = some 2 := ⟨rfl, by decide +kernel, by decide +kernel, by decide +kernel⟩
theorem hd_X1_orderPlaces : yX1_orderPlaces.cls = RX1 ∧ yX1_orderPlaces.cls ≠ "java/lang/invoke/MethodHandle" ∧ yX1_orderPlaces.cls ≠ "java/lang/invoke/VarHandle" ∧ (parseMethodDescriptor yX1_orderPlaces.desc).map (fun d => d.parameters.length) = some 1 := ⟨rfl, by decide +kernel, by decide +kernel, by decide +kernel⟩
theorem hd_X1_passBye : yX1_passBye.cls = RX1 ∧ yX1_passBye.cls ≠ "java/lang/invoke/MethodHandle" ∧ yX1_passBye.cls ≠ "java/lang/invoke/VarHandle" ∧ (parseMethodDescriptor yX1_passBye.desc).map (fun d => d.parameters.length) = some 1 := ⟨rfl, by decide +kernel, by decide +kernel, by decide +kernel⟩
theorem hd_X1_put : yX1_put.cls = RX1 ∧ yX1_put.cls ≠ "java/lang/invoke/MethodHandle" ∧ yX1_put.cls ≠ "java/lang/invoke/VarHandle" ∧ (parseMethodDescriptor yX1_put.desc).map (fun d => d.parameters.length) = some 2 := ⟨rfl, by decide +kernel, by decide +kernel, by decide +kernel⟩
theorem hd_X1_settle : yX1_settle.cls = RX1 ∧ yX1_settle.cls ≠ "java/lang/invoke/MethodHandle" ∧ yX1_settle.cls ≠ "java/lang/invoke/VarHandle" ∧ (parseMethodDescriptor yX1_settle.desc).map (fun d => d.parameters.length) = some 3 := ⟨rfl, by decide +kernel, by decide +kernel, by decide +kernel⟩
theorem hd_X1_winnerOf : yX1_winnerOf.cls = RX1 ∧ yX1_winnerOf.cls ≠ "java/lang/invoke/MethodHandle" ∧ yX1_winnerOf.cls ≠ "java/lang/invoke/VarHandle" ∧ (parseMethodDescriptor yX1_winnerOf.desc).map (fun d => d.parameters.length) = some 2 := ⟨rfl, by decide +kernel, by decide +kernel, by decide +kernel⟩
theorem hd_X2_colourFor : yX2_colourFor.cls = RX2 ∧ yX2_colourFor.cls ≠ "java/lang/invoke/MethodHandle" ∧ yX2_colourFor.cls ≠ "java/lang/invoke/VarHandle" ∧ (parseMethodDescriptor yX2_colourFor.desc).map (fun d => d.parameters.length) = some 1 := ⟨rfl, by decide +kernel, by decide +kernel, by decide +kernel⟩
theorem hd_X2_note : yX2_note.cls = RX2 ∧ yX2_note.cls ≠ "java/lang/invoke/MethodHandle" ∧ yX2_note.cls ≠ "java/lang/invoke/VarHandle" ∧ (parseMethodDescriptor yX2_note.desc).map (fun d => d.parameters.length) = some 1 := ⟨rfl, by decide +kernel, by decide +kernel, by decide +kernel⟩
theorem hd_X3_draw : yX3_draw.cls = RX3 ∧ yX3_draw.cls ≠ "java/lang/invoke/MethodHandle" ∧ yX3_draw.cls ≠ "java/lang/invoke/VarHandle" ∧ (parseMethodDescriptor yX3_draw.desc).map (fun d => d.parameters.length) = some 0 := ⟨rfl, by decide +kernel, by decide +kernel, by decide +kernel⟩
theorem hd_X4_addAction : yX4_addAction.cls = RX4 ∧ yX4_addAction.cls ≠ "java/lang/invoke/MethodHandle" ∧ yX4_addAction.cls ≠ "java/lang/invoke/VarHandle" ∧ (parseMethodDescriptor yX4_addAction.desc).map (fun d => d.parameters.length) = some 3 := ⟨rfl, by decide +kernel, by decide +kernel, by decide +kernel⟩
theorem hd_X4_addContact : yX4_addContact.cls = RX4 ∧ yX4_addContact.cls ≠ "java/lang/invoke/MethodHandle" ∧ yX4_addContact.cls ≠ "java/lang/invoke/VarHandle" ∧ (parseMethodDescriptor yX4_addContact.desc).map (fun d => d.parameters.length) = some 4 := ⟨rfl, by decide +kernel, by decide +kernel, by decide +kernel⟩
theorem hd_X4_append : yX4_append.cls = RX4 ∧ yX4_append.cls ≠ "java/lang/invoke/MethodHandle" ∧ yX4_append.cls ≠ "java/lang/invoke/VarHandle" ∧ (parseMethodDescriptor yX4_append.desc).map (fun d => d.parameters.length) = some 5 := ⟨rfl, by decide +kernel, by decide +kernel, by decide +kernel⟩
theorem hd_X4_couldRegister : yX4_couldRegister.cls = RX4 ∧ yX4_couldRegister.cls ≠ "java/lang/invoke/MethodHandle" ∧ yX4_couldRegister.cls ≠ "java/lang/invoke/VarHandle" ∧ (parseMethodDescriptor yX4_couldRegister.desc).map (fun d => d.parameters.length) = some 2 := ⟨rfl, by decide +kernel, by decide +kernel, by decide +kernel⟩
theorem hd_X4_empty : yX4_empty.cls = RX4 ∧ yX4_empty.cls ≠ "java/lang/invoke/MethodHandle" ∧ yX4_empty.cls ≠ "java/lang/invoke/VarHandle" ∧ (parseMethodDescriptor yX4_empty.desc).map (fun d => d.parameters.length) = some 0 := ⟨rfl, by decide +kernel, by decide +kernel, by decide +kernel⟩
theorem hd_X4_holderAhead : yX4_holderAhead.cls = RX4 ∧ yX4_holderAhead.cls ≠ "java/lang/invoke/MethodHandle" ∧ yX4_holderAhead.cls ≠ "java/lang/invoke/VarHandle" ∧ (parseMethodDescriptor yX4_holderAhead.desc).map (fun d => d.parameters.length) = some 1 := ⟨rfl, by decide +kernel, by decide +kernel, by decide +kernel⟩
theorem hd_X4_isEntry : yX4_isEntry.cls = RX4 ∧ yX4_isEntry.cls ≠ "java/lang/invoke/MethodHandle" ∧ yX4_isEntry.cls ≠ "java/lang/invoke/VarHandle" ∧ (parseMethodDescriptor yX4_isEntry.desc).map (fun d => d.parameters.length) = some 1 := ⟨rfl, by decide +kernel, by decide +kernel, by decide +kernel⟩
theorem hd_X4_isFull : yX4_isFull.cls = RX4 ∧ yX4_isFull.cls ≠ "java/lang/invoke/MethodHandle" ∧ yX4_isFull.cls ≠ "java/lang/invoke/VarHandle" ∧ (parseMethodDescriptor yX4_isFull.desc).map (fun d => d.parameters.length) = some 0 := ⟨rfl, by decide +kernel, by decide +kernel, by decide +kernel⟩
theorem hd_X4_lastTime : yX4_lastTime.cls = RX4 ∧ yX4_lastTime.cls ≠ "java/lang/invoke/MethodHandle" ∧ yX4_lastTime.cls ≠ "java/lang/invoke/VarHandle" ∧ (parseMethodDescriptor yX4_lastTime.desc).map (fun d => d.parameters.length) = some 0 := ⟨rfl, by decide +kernel, by decide +kernel, by decide +kernel⟩
theorem hd_X4_leastSpan : yX4_leastSpan.cls ≠ "java/lang/invoke/MethodHandle" ∧ yX4_leastSpan.cls ≠ "java/lang/invoke/VarHandle" ∧ (parseMethodDescriptor yX4_leastSpan.desc).map (fun d => d.parameters.length) = some 1 := ⟨by decide +kernel, by decide +kernel, by decide +kernel⟩
theorem hd_X4_lockout : yX4_lockout.cls ≠ "java/lang/invoke/MethodHandle" ∧ yX4_lockout.cls ≠ "java/lang/invoke/VarHandle" ∧ (parseMethodDescriptor yX4_lockout.desc).map (fun d => d.parameters.length) = some 1 := ⟨by decide +kernel, by decide +kernel, by decide +kernel⟩
theorem hd_X4_registered : yX4_registered.cls = RX4 ∧ yX4_registered.cls ≠ "java/lang/invoke/MethodHandle" ∧ yX4_registered.cls ≠ "java/lang/invoke/VarHandle" ∧ (parseMethodDescriptor yX4_registered.desc).map (fun d => d.parameters.length) = some 2 := ⟨rfl, by decide +kernel, by decide +kernel, by decide +kernel⟩
theorem hd_X4_targetAt : yX4_targetAt.cls = RX4 ∧ yX4_targetAt.cls ≠ "java/lang/invoke/MethodHandle" ∧ yX4_targetAt.cls ≠ "java/lang/invoke/VarHandle" ∧ (parseMethodDescriptor yX4_targetAt.desc).map (fun d => d.parameters.length) = some 1 := ⟨rfl, by decide +kernel, by decide +kernel, by decide +kernel⟩
theorem hd_X4_timeAt : yX4_timeAt.cls = RX4 ∧ yX4_timeAt.cls ≠ "java/lang/invoke/MethodHandle" ∧ yX4_timeAt.cls ≠ "java/lang/invoke/VarHandle" ∧ (parseMethodDescriptor yX4_timeAt.desc).map (fun d => d.parameters.length) = some 1 := ⟨rfl, by decide +kernel, by decide +kernel, by decide +kernel⟩
theorem hd_X5_addTo : yX5_addTo.cls = RX5 ∧ yX5_addTo.cls ≠ "java/lang/invoke/MethodHandle" ∧ yX5_addTo.cls ≠ "java/lang/invoke/VarHandle" ∧ (parseMethodDescriptor yX5_addTo.desc).map (fun d => d.parameters.length) = some 3 := ⟨rfl, by decide +kernel, by decide +kernel, by decide +kernel⟩
theorem hd_X5_balance : yX5_balance.cls = RX5 ∧ yX5_balance.cls ≠ "java/lang/invoke/MethodHandle" ∧ yX5_balance.cls ≠ "java/lang/invoke/VarHandle" ∧ (parseMethodDescriptor yX5_balance.desc).map (fun d => d.parameters.length) = some 1 := ⟨rfl, by decide +kernel, by decide +kernel, by decide +kernel⟩
theorem hd_X5_counts : yX5_counts.cls = RX5 ∧ yX5_counts.cls ≠ "java/lang/invoke/MethodHandle" ∧ yX5_counts.cls ≠ "java/lang/invoke/VarHandle" ∧ (parseMethodDescriptor yX5_counts.desc).map (fun d => d.parameters.length) = some 1 := ⟨rfl, by decide +kernel, by decide +kernel, by decide +kernel⟩
theorem hd_X5_enter : yX5_enter.cls = RX5 ∧ yX5_enter.cls ≠ "java/lang/invoke/MethodHandle" ∧ yX5_enter.cls ≠ "java/lang/invoke/VarHandle" ∧ (parseMethodDescriptor yX5_enter.desc).map (fun d => d.parameters.length) = some 2 := ⟨rfl, by decide +kernel, by decide +kernel, by decide +kernel⟩
theorem hd_X5_has : yX5_has.cls = RX5 ∧ yX5_has.cls ≠ "java/lang/invoke/MethodHandle" ∧ yX5_has.cls ≠ "java/lang/invoke/VarHandle" ∧ (parseMethodDescriptor yX5_has.desc).map (fun d => d.parameters.length) = some 1 := ⟨rfl, by decide +kernel, by decide +kernel, by decide +kernel⟩
theorem hd_X5_insert : yX5_insert.cls = RX5 ∧ yX5_insert.cls ≠ "java/lang/invoke/MethodHandle" ∧ yX5_insert.cls ≠ "java/lang/invoke/VarHandle" ∧ (parseMethodDescriptor yX5_insert.desc).map (fun d => d.parameters.length) = some 2 := ⟨rfl, by decide +kernel, by decide +kernel, by decide +kernel⟩
theorem hd_X5_isAhead : yX5_isAhead.cls = RX5 ∧ yX5_isAhead.cls ≠ "java/lang/invoke/MethodHandle" ∧ yX5_isAhead.cls ≠ "java/lang/invoke/VarHandle" ∧ (parseMethodDescriptor yX5_isAhead.desc).map (fun d => d.parameters.length) = some 2 := ⟨rfl, by decide +kernel, by decide +kernel, by decide +kernel⟩
theorem hd_X5_isIn : yX5_isIn.cls ≠ "java/lang/invoke/MethodHandle" ∧ yX5_isIn.cls ≠ "java/lang/invoke/VarHandle" ∧ (parseMethodDescriptor yX5_isIn.desc).map (fun d => d.parameters.length) = some 2 := ⟨by decide +kernel, by decide +kernel, by decide +kernel⟩
theorem hd_X5_isRanked : yX5_isRanked.cls = RX5 ∧ yX5_isRanked.cls ≠ "java/lang/invoke/MethodHandle" ∧ yX5_isRanked.cls ≠ "java/lang/invoke/VarHandle" ∧ (parseMethodDescriptor yX5_isRanked.desc).map (fun d => d.parameters.length) = some 1 := ⟨rfl, by decide +kernel, by decide +kernel, by decide +kernel⟩
theorem hd_X5_isWithdrawn : yX5_isWithdrawn.cls = RX5 ∧ yX5_isWithdrawn.cls ≠ "java/lang/invoke/MethodHandle" ∧ yX5_isWithdrawn.cls ≠ "java/lang/invoke/VarHandle" ∧ (parseMethodDescriptor yX5_isWithdrawn.desc).map (fun d => d.parameters.length) = some 1 := ⟨rfl, by decide +kernel, by decide +kernel, by decide +kernel⟩
theorem hd_X5_kept : yX5_kept.cls = RX5 ∧ yX5_kept.cls ≠ "java/lang/invoke/MethodHandle" ∧ yX5_kept.cls ≠ "java/lang/invoke/VarHandle" ∧ (parseMethodDescriptor yX5_kept.desc).map (fun d => d.parameters.length) = some 2 := ⟨rfl, by decide +kernel, by decide +kernel, by decide +kernel⟩
theorem hd_X5_markWithdrawn : yX5_markWithdrawn.cls = RX5 ∧ yX5_markWithdrawn.cls ≠ "java/lang/invoke/MethodHandle" ∧ yX5_markWithdrawn.cls ≠ "java/lang/invoke/VarHandle" ∧ (parseMethodDescriptor yX5_markWithdrawn.desc).map (fun d => d.parameters.length) = some 1 := ⟨rfl, by decide +kernel, by decide +kernel, by decide +kernel⟩
theorem hd_X5_orderRanked : yX5_orderRanked.cls = RX5 ∧ yX5_orderRanked.cls ≠ "java/lang/invoke/MethodHandle" ∧ yX5_orderRanked.cls ≠ "java/lang/invoke/VarHandle" ∧ (parseMethodDescriptor yX5_orderRanked.desc).map (fun d => d.parameters.length) = some 0 := ⟨rfl, by decide +kernel, by decide +kernel, by decide +kernel⟩
theorem hd_X5_rankedAt : yX5_rankedAt.cls = RX5 ∧ yX5_rankedAt.cls ≠ "java/lang/invoke/MethodHandle" ∧ yX5_rankedAt.cls ≠ "java/lang/invoke/VarHandle" ∧ (parseMethodDescriptor yX5_rankedAt.desc).map (fun d => d.parameters.length) = some 1 := ⟨rfl, by decide +kernel, by decide +kernel, by decide +kernel⟩
theorem hd_X5_rankedCount : yX5_rankedCount.cls = RX5 ∧ yX5_rankedCount.cls ≠ "java/lang/invoke/MethodHandle" ∧ yX5_rankedCount.cls ≠ "java/lang/invoke/VarHandle" ∧ (parseMethodDescriptor yX5_rankedCount.desc).map (fun d => d.parameters.length) = some 0 := ⟨rfl, by decide +kernel, by decide +kernel, by decide +kernel⟩
theorem hd_X6_attack : yX6_attack.cls = RX6 ∧ yX6_attack.cls ≠ "java/lang/invoke/MethodHandle" ∧ yX6_attack.cls ≠ "java/lang/invoke/VarHandle" ∧ (parseMethodDescriptor yX6_attack.desc).map (fun d => d.parameters.length) = some 2 := ⟨rfl, by decide +kernel, by decide +kernel, by decide +kernel⟩
theorem hd_X6_forget : yX6_forget.cls = RX6 ∧ yX6_forget.cls ≠ "java/lang/invoke/MethodHandle" ∧ yX6_forget.cls ≠ "java/lang/invoke/VarHandle" ∧ (parseMethodDescriptor yX6_forget.desc).map (fun d => d.parameters.length) = some 0 := ⟨rfl, by decide +kernel, by decide +kernel, by decide +kernel⟩
theorem hd_X6_give : yX6_give.cls = RX6 ∧ yX6_give.cls ≠ "java/lang/invoke/MethodHandle" ∧ yX6_give.cls ≠ "java/lang/invoke/VarHandle" ∧ (parseMethodDescriptor yX6_give.desc).map (fun d => d.parameters.length) = some 3 := ⟨rfl, by decide +kernel, by decide +kernel, by decide +kernel⟩
theorem hd_X6_parry : yX6_parry.cls = RX6 ∧ yX6_parry.cls ≠ "java/lang/invoke/MethodHandle" ∧ yX6_parry.cls ≠ "java/lang/invoke/VarHandle" ∧ (parseMethodDescriptor yX6_parry.desc).map (fun d => d.parameters.length) = some 2 := ⟨rfl, by decide +kernel, by decide +kernel, by decide +kernel⟩
theorem hd_X6_take : yX6_take.cls = RX6 ∧ yX6_take.cls ≠ "java/lang/invoke/MethodHandle" ∧ yX6_take.cls ≠ "java/lang/invoke/VarHandle" ∧ (parseMethodDescriptor yX6_take.desc).map (fun d => d.parameters.length) = some 3 := ⟨rfl, by decide +kernel, by decide +kernel, by decide +kernel⟩
theorem hd_X7_because : yX7_because.cls = RX7 ∧ yX7_because.cls ≠ "java/lang/invoke/MethodHandle" ∧ yX7_because.cls ≠ "java/lang/invoke/VarHandle" ∧ (parseMethodDescriptor yX7_because.desc).map (fun d => d.parameters.length) = some 2 := ⟨rfl, by decide +kernel, by decide +kernel, by decide +kernel⟩
theorem hd_X7_bitOf : yX7_bitOf.cls ≠ "java/lang/invoke/MethodHandle" ∧ yX7_bitOf.cls ≠ "java/lang/invoke/VarHandle" ∧ (parseMethodDescriptor yX7_bitOf.desc).map (fun d => d.parameters.length) = some 1 := ⟨by decide +kernel, by decide +kernel, by decide +kernel⟩
theorem hd_X7_boutAt : yX7_boutAt.cls = RX7 ∧ yX7_boutAt.cls ≠ "java/lang/invoke/MethodHandle" ∧ yX7_boutAt.cls ≠ "java/lang/invoke/VarHandle" ∧ (parseMethodDescriptor yX7_boutAt.desc).map (fun d => d.parameters.length) = some 1 := ⟨rfl, by decide +kernel, by decide +kernel, by decide +kernel⟩
theorem hd_X7_boutOnPiste : yX7_boutOnPiste.cls = RX7 ∧ yX7_boutOnPiste.cls ≠ "java/lang/invoke/MethodHandle" ∧ yX7_boutOnPiste.cls ≠ "java/lang/invoke/VarHandle" ∧ (parseMethodDescriptor yX7_boutOnPiste.desc).map (fun d => d.parameters.length) = some 0 := ⟨rfl, by decide +kernel, by decide +kernel, by decide +kernel⟩
theorem hd_X7_checkMatch : yX7_checkMatch.cls = RX7 ∧ yX7_checkMatch.cls ≠ "java/lang/invoke/MethodHandle" ∧ yX7_checkMatch.cls ≠ "java/lang/invoke/VarHandle" ∧ (parseMethodDescriptor yX7_checkMatch.desc).map (fun d => d.parameters.length) = some 2 := ⟨rfl, by decide +kernel, by decide +kernel, by decide +kernel⟩
theorem hd_X7_checkOfPool : yX7_checkOfPool.cls ≠ "java/lang/invoke/MethodHandle" ∧ yX7_checkOfPool.cls ≠ "java/lang/invoke/VarHandle" ∧ (parseMethodDescriptor yX7_checkOfPool.desc).map (fun d => d.parameters.length) = some 1 := ⟨by decide +kernel, by decide +kernel, by decide +kernel⟩
theorem hd_X7_checkRoomInPhrase : yX7_checkRoomInPhrase.cls = RX7 ∧ yX7_checkRoomInPhrase.cls ≠ "java/lang/invoke/MethodHandle" ∧ yX7_checkRoomInPhrase.cls ≠ "java/lang/invoke/VarHandle" ∧ (parseMethodDescriptor yX7_checkRoomInPhrase.desc).map (fun d => d.parameters.length) = some 1 := ⟨rfl, by decide +kernel, by decide +kernel, by decide +kernel⟩
theorem hd_X7_clearPisteIfOver : yX7_clearPisteIfOver.cls = RX7 ∧ yX7_clearPisteIfOver.cls ≠ "java/lang/invoke/MethodHandle" ∧ yX7_clearPisteIfOver.cls ≠ "java/lang/invoke/VarHandle" ∧ (parseMethodDescriptor yX7_clearPisteIfOver.desc).map (fun d => d.parameters.length) = some 1 := ⟨rfl, by decide +kernel, by decide +kernel, by decide +kernel⟩
theorem hd_X7_isBusyFor : yX7_isBusyFor.cls = RX7 ∧ yX7_isBusyFor.cls ≠ "java/lang/invoke/MethodHandle" ∧ yX7_isBusyFor.cls ≠ "java/lang/invoke/VarHandle" ∧ (parseMethodDescriptor yX7_isBusyFor.desc).map (fun d => d.parameters.length) = some 2 := ⟨rfl, by decide +kernel, by decide +kernel, by decide +kernel⟩
theorem hd_X7_isFencer : yX7_isFencer.cls = RX7 ∧ yX7_isFencer.cls ≠ "java/lang/invoke/MethodHandle" ∧ yX7_isFencer.cls ≠ "java/lang/invoke/VarHandle" ∧ (parseMethodDescriptor yX7_isFencer.desc).map (fun d => d.parameters.length) = some 1 := ⟨rfl, by decide +kernel, by decide +kernel, by decide +kernel⟩
theorem hd_X7_isSide : yX7_isSide.cls ≠ "java/lang/invoke/MethodHandle" ∧ yX7_isSide.cls ≠ "java/lang/invoke/VarHandle" ∧ (parseMethodDescriptor yX7_isSide.desc).map (fun d => d.parameters.length) = some 1 := ⟨by decide +kernel, by decide +kernel, by decide +kernel⟩
theorem hd_X7_isWithin : yX7_isWithin.cls ≠ "java/lang/invoke/MethodHandle" ∧ yX7_isWithin.cls ≠ "java/lang/invoke/VarHandle" ∧ (parseMethodDescriptor yX7_isWithin.desc).map (fun d => d.parameters.length) = some 3 := ⟨by decide +kernel, by decide +kernel, by decide +kernel⟩
theorem hd_X7_judgeByRight : yX7_judgeByRight.cls = RX7 ∧ yX7_judgeByRight.cls ≠ "java/lang/invoke/MethodHandle" ∧ yX7_judgeByRight.cls ≠ "java/lang/invoke/VarHandle" ∧ (parseMethodDescriptor yX7_judgeByRight.desc).map (fun d => d.parameters.length) = some 2 := ⟨rfl, by decide +kernel, by decide +kernel, by decide +kernel⟩
theorem hd_X7_judgeFor : yX7_judgeFor.cls = RX7 ∧ yX7_judgeFor.cls ≠ "java/lang/invoke/MethodHandle" ∧ yX7_judgeFor.cls ≠ "java/lang/invoke/VarHandle" ∧ (parseMethodDescriptor yX7_judgeFor.desc).map (fun d => d.parameters.length) = some 2 := ⟨rfl, by decide +kernel, by decide +kernel, by decide +kernel⟩
theorem hd_X7_poolOf : yX7_poolOf.cls = RX7 ∧ yX7_poolOf.cls ≠ "java/lang/invoke/MethodHandle" ∧ yX7_poolOf.cls ≠ "java/lang/invoke/VarHandle" ∧ (parseMethodDescriptor yX7_poolOf.desc).map (fun d => d.parameters.length) = some 1 := ⟨rfl, by decide +kernel, by decide +kernel, by decide +kernel⟩
theorem hd_X7_poolWith : yX7_poolWith.cls = RX7 ∧ yX7_poolWith.cls ≠ "java/lang/invoke/MethodHandle" ∧ yX7_poolWith.cls ≠ "java/lang/invoke/VarHandle" ∧ (parseMethodDescriptor yX7_poolWith.desc).map (fun d => d.parameters.length) = some 2 := ⟨rfl, by decide +kernel, by decide +kernel, by decide +kernel⟩
theorem hd_X8_ahead : yX8_ahead.cls = RX8 ∧ yX8_ahead.cls ≠ "java/lang/invoke/MethodHandle" ∧ yX8_ahead.cls ≠ "java/lang/invoke/VarHandle" ∧ (parseMethodDescriptor yX8_ahead.desc).map (fun d => d.parameters.length) = some 0 := ⟨rfl, by decide +kernel, by decide +kernel, by decide +kernel⟩
theorem hd_X8_ends : yX8_ends.cls = RX8 ∧ yX8_ends.cls ≠ "java/lang/invoke/MethodHandle" ∧ yX8_ends.cls ≠ "java/lang/invoke/VarHandle" ∧ (parseMethodDescriptor yX8_ends.desc).map (fun d => d.parameters.length) = some 1 := ⟨rfl, by decide +kernel, by decide +kernel, by decide +kernel⟩
theorem hd_X8_given : yX8_given.cls = RX8 ∧ yX8_given.cls ≠ "java/lang/invoke/MethodHandle" ∧ yX8_given.cls ≠ "java/lang/invoke/VarHandle" ∧ (parseMethodDescriptor yX8_given.desc).map (fun d => d.parameters.length) = some 0 := ⟨rfl, by decide +kernel, by decide +kernel, by decide +kernel⟩
theorem hd_X8_gives : yX8_gives.cls = RX8 ∧ yX8_gives.cls ≠ "java/lang/invoke/MethodHandle" ∧ yX8_gives.cls ≠ "java/lang/invoke/VarHandle" ∧ (parseMethodDescriptor yX8_gives.desc).map (fun d => d.parameters.length) = some 1 := ⟨rfl, by decide +kernel, by decide +kernel, by decide +kernel⟩
theorem hd_X8_has : yX8_has.cls ≠ "java/lang/invoke/MethodHandle" ∧ yX8_has.cls ≠ "java/lang/invoke/VarHandle" ∧ (parseMethodDescriptor yX8_has.desc).map (fun d => d.parameters.length) = some 2 := ⟨by decide +kernel, by decide +kernel, by decide +kernel⟩
theorem hd_X8_isBetter : yX8_isBetter.cls = RX8 ∧ yX8_isBetter.cls ≠ "java/lang/invoke/MethodHandle" ∧ yX8_isBetter.cls ≠ "java/lang/invoke/VarHandle" ∧ (parseMethodDescriptor yX8_isBetter.desc).map (fun d => d.parameters.length) = some 3 := ⟨rfl, by decide +kernel, by decide +kernel, by decide +kernel⟩
theorem hd_X8_isFencer : yX8_isFencer.cls = RX8 ∧ yX8_isFencer.cls ≠ "java/lang/invoke/MethodHandle" ∧ yX8_isFencer.cls ≠ "java/lang/invoke/VarHandle" ∧ (parseMethodDescriptor yX8_isFencer.desc).map (fun d => d.parameters.length) = some 1 := ⟨rfl, by decide +kernel, by decide +kernel, by decide +kernel⟩
theorem hd_X8_isIn : yX8_isIn.cls ≠ "java/lang/invoke/MethodHandle" ∧ yX8_isIn.cls ≠ "java/lang/invoke/VarHandle" ∧ (parseMethodDescriptor yX8_isIn.desc).map (fun d => d.parameters.length) = some 3 := ⟨by decide +kernel, by decide +kernel, by decide +kernel⟩
theorem hd_X8_isMatch : yX8_isMatch.cls = RX8 ∧ yX8_isMatch.cls ≠ "java/lang/invoke/MethodHandle" ∧ yX8_isMatch.cls ≠ "java/lang/invoke/VarHandle" ∧ (parseMethodDescriptor yX8_isMatch.desc).map (fun d => d.parameters.length) = some 2 := ⟨rfl, by decide +kernel, by decide +kernel, by decide +kernel⟩
theorem hd_X8_isMember : yX8_isMember.cls = RX8 ∧ yX8_isMember.cls ≠ "java/lang/invoke/MethodHandle" ∧ yX8_isMember.cls ≠ "java/lang/invoke/VarHandle" ∧ (parseMethodDescriptor yX8_isMember.desc).map (fun d => d.parameters.length) = some 2 := ⟨rfl, by decide +kernel, by decide +kernel, by decide +kernel⟩
theorem hd_X8_isPool : yX8_isPool.cls = RX8 ∧ yX8_isPool.cls ≠ "java/lang/invoke/MethodHandle" ∧ yX8_isPool.cls ≠ "java/lang/invoke/VarHandle" ∧ (parseMethodDescriptor yX8_isPool.desc).map (fun d => d.parameters.length) = some 1 := ⟨rfl, by decide +kernel, by decide +kernel, by decide +kernel⟩
theorem hd_X8_isSide : yX8_isSide.cls ≠ "java/lang/invoke/MethodHandle" ∧ yX8_isSide.cls ≠ "java/lang/invoke/VarHandle" ∧ (parseMethodDescriptor yX8_isSide.desc).map (fun d => d.parameters.length) = some 1 := ⟨by decide +kernel, by decide +kernel, by decide +kernel⟩
theorem hd_X8_isWon : yX8_isWon.cls = RX8 ∧ yX8_isWon.cls ≠ "java/lang/invoke/MethodHandle" ∧ yX8_isWon.cls ≠ "java/lang/invoke/VarHandle" ∧ (parseMethodDescriptor yX8_isWon.desc).map (fun d => d.parameters.length) = some 3 := ⟨rfl, by decide +kernel, by decide +kernel, by decide +kernel⟩
theorem hd_X8_least : yX8_least.cls ≠ "java/lang/invoke/MethodHandle" ∧ yX8_least.cls ≠ "java/lang/invoke/VarHandle" ∧ (parseMethodDescriptor yX8_least.desc).map (fun d => d.parameters.length) = some 1 := ⟨by decide +kernel, by decide +kernel, by decide +kernel⟩
theorem hd_X8_locks : yX8_locks.cls ≠ "java/lang/invoke/MethodHandle" ∧ yX8_locks.cls ≠ "java/lang/invoke/VarHandle" ∧ (parseMethodDescriptor yX8_locks.desc).map (fun d => d.parameters.length) = some 1 := ⟨by decide +kernel, by decide +kernel, by decide +kernel⟩
theorem hd_X8_many : yX8_many.cls ≠ "java/lang/invoke/MethodHandle" ∧ yX8_many.cls ≠ "java/lang/invoke/VarHandle" ∧ (parseMethodDescriptor yX8_many.desc).map (fun d => d.parameters.length) = some 1 := ⟨by decide +kernel, by decide +kernel, by decide +kernel⟩
theorem hd_X8_may : yX8_may.cls = RX8 ∧ yX8_may.cls ≠ "java/lang/invoke/MethodHandle" ∧ yX8_may.cls ≠ "java/lang/invoke/VarHandle" ∧ (parseMethodDescriptor yX8_may.desc).map (fun d => d.parameters.length) = some 1 := ⟨rfl, by decide +kernel, by decide +kernel, by decide +kernel⟩
theorem hd_X8_next : yX8_next.cls ≠ "java/lang/invoke/MethodHandle" ∧ yX8_next.cls ≠ "java/lang/invoke/VarHandle" ∧ (parseMethodDescriptor yX8_next.desc).map (fun d => d.parameters.length) = some 1 := ⟨by decide +kernel, by decide +kernel, by decide +kernel⟩
theorem hd_X8_ofPools : yX8_ofPools.cls = RX8 ∧ yX8_ofPools.cls ≠ "java/lang/invoke/MethodHandle" ∧ yX8_ofPools.cls ≠ "java/lang/invoke/VarHandle" ∧ (parseMethodDescriptor yX8_ofPools.desc).map (fun d => d.parameters.length) = some 3 := ⟨rfl, by decide +kernel, by decide +kernel, by decide +kernel⟩
theorem hd_X8_orderAt : yX8_orderAt.cls ≠ "java/lang/invoke/MethodHandle" ∧ yX8_orderAt.cls ≠ "java/lang/invoke/VarHandle" ∧ (parseMethodDescriptor yX8_orderAt.desc).map (fun d => d.parameters.length) = some 2 := ⟨by decide +kernel, by decide +kernel, by decide +kernel⟩
theorem hd_X8_puts : yX8_puts.cls = RX8 ∧ yX8_puts.cls ≠ "java/lang/invoke/MethodHandle" ∧ yX8_puts.cls ≠ "java/lang/invoke/VarHandle" ∧ (parseMethodDescriptor yX8_puts.desc).map (fun d => d.parameters.length) = some 3 := ⟨rfl, by decide +kernel, by decide +kernel, by decide +kernel⟩
theorem hd_X8_ranks : yX8_ranks.cls = RX8 ∧ yX8_ranks.cls ≠ "java/lang/invoke/MethodHandle" ∧ yX8_ranks.cls ≠ "java/lang/invoke/VarHandle" ∧ (parseMethodDescriptor yX8_ranks.desc).map (fun d => d.parameters.length) = some 1 := ⟨rfl, by decide +kernel, by decide +kernel, by decide +kernel⟩
theorem hd_X8_registered : yX8_registered.cls = RX8 ∧ yX8_registered.cls ≠ "java/lang/invoke/MethodHandle" ∧ yX8_registered.cls ≠ "java/lang/invoke/VarHandle" ∧ (parseMethodDescriptor yX8_registered.desc).map (fun d => d.parameters.length) = some 1 := ⟨rfl, by decide +kernel, by decide +kernel, by decide +kernel⟩
theorem hd_X8_rights : yX8_rights.cls = RX8 ∧ yX8_rights.cls ≠ "java/lang/invoke/MethodHandle" ∧ yX8_rights.cls ≠ "java/lang/invoke/VarHandle" ∧ (parseMethodDescriptor yX8_rights.desc).map (fun d => d.parameters.length) = some 1 := ⟨rfl, by decide +kernel, by decide +kernel, by decide +kernel⟩
theorem hd_X8_rounds : yX8_rounds.cls ≠ "java/lang/invoke/MethodHandle" ∧ yX8_rounds.cls ≠ "java/lang/invoke/VarHandle" ∧ (parseMethodDescriptor yX8_rounds.desc).map (fun d => d.parameters.length) = some 1 := ⟨by decide +kernel, by decide +kernel, by decide +kernel⟩
theorem hd_X8_second : yX8_second.cls = RX8 ∧ yX8_second.cls ≠ "java/lang/invoke/MethodHandle" ∧ yX8_second.cls ≠ "java/lang/invoke/VarHandle" ∧ (parseMethodDescriptor yX8_second.desc).map (fun d => d.parameters.length) = some 0 := ⟨rfl, by decide +kernel, by decide +kernel, by decide +kernel⟩
theorem hd_X8_sideIn : yX8_sideIn.cls = RX8 ∧ yX8_sideIn.cls ≠ "java/lang/invoke/MethodHandle" ∧ yX8_sideIn.cls ≠ "java/lang/invoke/VarHandle" ∧ (parseMethodDescriptor yX8_sideIn.desc).map (fun d => d.parameters.length) = some 3 := ⟨rfl, by decide +kernel, by decide +kernel, by decide +kernel⟩
theorem hd_X8_tells : yX8_tells.cls = RX8 ∧ yX8_tells.cls ≠ "java/lang/invoke/MethodHandle" ∧ yX8_tells.cls ≠ "java/lang/invoke/VarHandle" ∧ (parseMethodDescriptor yX8_tells.desc).map (fun d => d.parameters.length) = some 3 := ⟨rfl, by decide +kernel, by decide +kernel, by decide +kernel⟩
